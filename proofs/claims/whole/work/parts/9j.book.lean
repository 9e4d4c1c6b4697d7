/-! A book is read to its end. -/
def bR2 (M' M : TI) (N' N : TJ) : Prop := (∀ o, o ≠ 209 → o ≠ 214 → M' o = M o) ∧ (∀ o, o ≠ 209 → N' o = N o) ∧ ∀ q, ¬ ((2 ≤ q ∧ q ≤ 5) ∨ (12 ≤ q ∧ q ≤ 17) ∨ q = 19 ∨ q = 45) → M' 209 q = M 209 q
section BOJ
variable {d d' e L : Nat} {S S' : TS} {D D' : Nat → Int64} {T : Nat → Int32} {I K K2 M M' M2 : TI} {J J' J2 N N' N2 : TJ} {p q n k i m a j b v r most g lo hi fr V B c kk : Nat} {s t : Bool} {x y v4 v5 v6 hw : Int32} {w nm : Int64} {cf : xCF}
theorem Ln_c (h1 : ∀ q, 74 ≤ q → q < 78 → K q i = I q i) (h2 : ∀ j, j < 4 * i + 4 → M' 214 j = M 214 j) (h : Ln V B i I M) : Ln V B i K M' := by
  obtain ⟨kk, a1, a2, a3, a4⟩ := h
  refine ⟨kk, a1, ?_, ?_, ?_⟩
  · rw [h1 74 (by omega) (by omega), a2]
  · rw [h2 _ (by omega), a3]
  · rw [h1 75 (by omega) (by omega), h1 76 (by omega) (by omega), h1 77 (by omega) (by omega), h2 _ (by omega), h2 _ (by omega), h2 _ (by omega)]
    exact a4
theorem lk_blines : ∀ m c (I : TI) (J : TJ) (M : TI) (N : TJ), c + m = 41 → c ≤ 40 → Par T n most I J M N → Nm V B I J M N → I 72 1 = n32 c → M 209 45 = n32 c → (∀ i, i < c → Ln V B i I M) → (∃ K J' M' N' C, xlim (xcall xprog (d + 4)) mX0_readFrom 1 [.ref 72, .ref 5, .ref 7, .int (n32 c)] [] (xst e L I J) = some (some (.int (n32 C)), xst e L K J') ∧ xlim (xcall xprog (d' + 4)) mX12_book 2 [.ref 209, .int hw, xD, xD] [] (xst e L M N) = xlim (xcall xprog (d' + 4)) mX12_book 5 [.ref 209, .int hw, xD, xD] [] (xst e L M' N') ∧ C ≤ 40 ∧ K 72 1 = n32 C ∧ M' 209 45 = n32 C ∧ (∀ i, i < C → Ln V B i K M') ∧ K 5 2 = M' 209 16 ∧ bC K I J' J ∧ bR M' M N' N) ∨ ∃ K J' M' N', xlim (xcall xprog (d + 4)) mX0_readFrom 1 [.ref 72, .ref 5, .ref 7, .int (n32 c)] [] (xst e L I J) = some (some (.int (-1)), xst e L K J') ∧ xlim (xcall xprog (d' + 4)) mX12_book 2 [.ref 209, .int hw, xD, xD] [] (xst e L M N) = some (some (.int (-2 - M' 209 17)), xst e L M' N') ∧ Flt K M' ∧ bC K I J' J ∧ bR M' M N' N := by
  intro m
  induction m with
  | zero => intro c I J M N hm hc; omega
  | succ m ih =>
    intro c I J M N hm hc h hN hI h45 hL
    rw [bX0_readFrom_1, if_pos ((q400l (by omega)).mpr (by omega)), bX12_book_2]
    by_cases z : I 5 0 = 0
    · rw [if_pos z, if_pos ((tok_end h.2.1).mp z)]
      exact Or.inl ⟨I, J, M, N, c, rfl, rfl, hc, hI, h45, hL, h.2.2, bC_r, bR_r⟩
    rw [if_neg z, if_neg (fun y => z ((tok_end h.2.1).mpr y)), bX0_readFrom_2, aX0_readLine]
    rcases lk_bin (d := d) (d' := d') (e := e) (L := L) h hN h45 hI hc with ⟨K1, J1, M1, N1, kk, v4, v5, v6, hk, c40, a1, a2, a3, a4, a5, a6, a7, a8, a9⟩ | ⟨K1, J1, M1, N1, a1, a2, a3, a4, a5⟩
    rotate_left
    · refine Or.inr ⟨K1, J1, M1, N1, ?_, ?_, a3, fC_b a4, a5⟩
      · rw [a1, xcI_some, ekX0_readFrom_2_3, if_pos i00]
      · rw [a2, xcI_some, ekX12_book_2_4, if_pos i00, bX12_book_3]
    have kc : K1 72 1 = n32 c := by rw [a4.1 72 (by omega), hI]
    rw [a1, bX0_readLine_5, kc, xin_n32 (by omega) c40, cond_true, cond_true, cond_true, cond_true, n32_nat (by omega), n32_succ, a2, xcI_some, ekX12_book_2_4, if_neg i10]
    generalize hKa : xu (xu (xu (xu (xu K1 74 c (n32 (69 + kk))) 75 c v4) 76 c v5) 77 c v6) 72 1 (n32 (c + 1)) = Ka
    have ko : ∀ o, o ≠ 72 → ¬ (74 ≤ o ∧ o < 78) → Ka o = K1 o := fun o z1 z2 => by rw [← hKa, xu_rne z1, xu_rne (by omega), xu_rne (by omega), xu_rne (by omega), xu_rne (by omega)]
    have k1 : Ka 72 1 = n32 (c + 1) := by rw [← hKa, xu_ee]
    have k72 : ∀ q, q ≠ 1 → Ka 72 q = K1 72 q := fun q z => by rw [← hKa, xu_kne z, xu_rne (by decide), xu_rne (by decide), xu_rne (by decide), xu_rne (by decide)]
    have kl : ∀ q i, 74 ≤ q → q < 78 → i ≠ c → Ka q i = K1 q i := fun q i z1 z2 z3 => by
      have g : ∀ (f : TI) o x, (xu f o c x) q i = f q i := fun f o x => by
        by_cases y : q = o
        · subst y
          exact xu_kne z3
        · rw [xu_rne y]
      rw [← hKa, xu_rne (by omega), g, g, g, g]
    have k74 : Ka 74 c = n32 (69 + kk) := by rw [← hKa, xu_rne (by decide), xu_rne (by decide), xu_rne (by decide), xu_rne (by decide), xu_ee]
    have k75 : Ka 75 c = v4 := by rw [← hKa, xu_rne (by decide), xu_rne (by decide), xu_rne (by decide), xu_ee]
    have k76 : Ka 76 c = v5 := by rw [← hKa, xu_rne (by decide), xu_rne (by decide), xu_ee]
    have k77 : Ka 77 c = v6 := by rw [← hKa, xu_rne (by decide), xu_ee]
    have hP : Par T n most Ka J1 M1 N1 := Par_c (fun o z => ko o (by omega) (by omega)) rfl (fun _ _ => rfl) rfl rfl a3
    have fk : bC Ka I J1 J := bC_t (fC_b a4) ⟨fun o z1 z2 z3 => ko o z2 z3, k72, fun _ _ => rfl⟩
    rcases lk_take (d := d) (d' := d' + 1) (e := e) (L := L) (g := 59) (x := 59) (by omega) rfl hP with ⟨cv, K2, J2, M2, N2, f1, f2, rfl, f4, f5, f6⟩ | ⟨K2, J2, M2, N2, f1, f2, f3, f4, f5⟩
    rotate_left
    · refine Or.inr ⟨K2, J2, M2, N2, ?_, ?_, f3, bC_t fk (fC_b f4), bR_t a5 (fR_b f5)⟩
      · rw [f1, xcI_some, ekX0_readLine_5_32, xrZ0, xcI_some, ekX0_readFrom_2_3, if_pos i00]
      · rw [f2, xcI_some, ekX12_book_2_8, if_pos i00, bX12_book_3]
    have h245 : M2 209 45 = n32 c := by rw [f6.2.2 45 (by omega), a7]
    rw [f1, xcI_some, ekX0_readLine_5_32, xrZ1, xcI_some, ekX0_readFrom_2_3, if_neg i10, bX0_readFrom_3, n32_succ, f2, xcI_some, ekX12_book_2_8, if_neg i10, bX12_book_4, h245, n32_succ]
    generalize hMb : xu M2 209 45 (n32 (c + 1)) = Mb
    have mo : ∀ o, o ≠ 209 → Mb o = M2 o := fun o z => by rw [← hMb, xu_rne z]
    have m9 : ∀ q, q ≠ 45 → Mb 209 q = M2 209 q := fun q z => by rw [← hMb, xu_kne z]
    have fm : bR Mb M N2 N := bR_t (bR_t a5 (fR_b f6)) ⟨fun o z1 z2 => mo o z1, fun _ _ => rfl, fun q z => m9 q (by omega)⟩
    have fk2 := bC_t fk (fC_b f5)
    have m14 : Mb 214 = M1 214 := (mo 214 (by omega)).trans (f6.1 214 (by omega))
    have kk2 : ∀ o, o ≠ 5 → K2 o = Ka o := f5.1
    have hl2 : ∀ i, i < c + 1 → Ln V B i K2 Mb := fun i hi => by
      by_cases y : i = c
      · subst y
        refine ⟨kk, hk, ?_, ?_, ?_⟩
        · rw [kk2 74 (by omega), k74]
        · rw [m14, a8]
        · rw [kk2 75 (by omega), kk2 76 (by omega), kk2 77 (by omega), k75, k76, k77, m14]
          exact a9
      · exact Ln_c (fun q z1 z2 => by rw [kk2 q (by omega), kl q i z1 z2 y, a4.1 q (by omega)]) (fun j hj => by rw [m14, a6 j (by omega)]) (hL i (by omega))
    rcases ih (c + 1) K2 J2 Mb N2 (by omega) (by omega) (Par_c (fun _ _ => rfl) rfl (fun q z => m9 q (by omega)) (mo 210 (by omega)) rfl f4) (Nm_f hN fk2 fm) (by rw [kk2 72 (by omega), k1]) (by rw [← hMb, xu_ee]) hl2 with ⟨K4, J4, M4, N4, C, g1, g2, g3, g4, g5, g6, g7, g8, g9⟩ | ⟨K4, J4, M4, N4, g1, g2, g3, g4, g5⟩
    · exact Or.inl ⟨K4, J4, M4, N4, C, g1, g2, g3, g4, g5, g6, g7, bC_t fk2 g8, bR_t fm g9⟩
    · exact Or.inr ⟨K4, J4, M4, N4, g1, g2, g3, bC_t fk2 g4, bR_t fm g5⟩
theorem lk_bread (h9 : n ≤ 940) (h1 : I 1 1 = n32 n) (hT : ∀ i, i < n → I 2 i = M 210 i &&& 255) (h2 : M 209 2 = n32 n) (hN : Nm V B I J M N) : (∃ K J' M' N' C, xcall xprog (d + 5) 1 [.ref 72, .ref 5, .ref 7] (xst e L I J) = some (some (.int (n32 C)), xst e L K J') ∧ xlim (xcall xprog (d' + 4)) mX12_book 1 [.ref 209, .int hw, xD, xD] [] (xst e L M N) = xlim (xcall xprog (d' + 4)) mX12_book 5 [.ref 209, .int hw, xD, xD] [] (xst e L M' N') ∧ C ≤ 40 ∧ K 72 1 = n32 C ∧ M' 209 45 = n32 C ∧ (∀ i, i < C → Ln V B i K M') ∧ K 5 2 = M' 209 16 ∧ M' 209 2 = 0 ∧ bC K I J' J ∧ bR2 M' M N' N) ∨ ∃ K J' M' N', xcall xprog (d + 5) 1 [.ref 72, .ref 5, .ref 7] (xst e L I J) = some (some (.int (-1)), xst e L K J') ∧ xlim (xcall xprog (d' + 4)) mX12_book 1 [.ref 209, .int hw, xD, xD] [] (xst e L M N) = some (some (.int (-2 - M' 209 17)), xst e L M' N') ∧ Flt K M' ∧ M' 209 2 = 0 ∧ bC K I J' J ∧ bR2 M' M N' N := by
  obtain ⟨M1, a1, a2, a3, a4, a5, a6, a7⟩ := r_taken (d := d' + 3) (e := e) (L := L) (N := N) (x := 400) h2
  generalize hMa : xu (xu M1 209 16 0) 209 45 0 = Ma
  have mo : ∀ o, o ≠ 209 → Ma o = M o := fun o z => by rw [← hMa, xu_rne z, xu_rne z, a6 o z]
  have m9 : ∀ q, q ≠ 16 → q ≠ 45 → Ma 209 q = M1 209 q := fun q z1 z2 => by rw [← hMa, xu_kne z2, xu_kne z1]
  have m16 : Ma 209 16 = 0 := by rw [← hMa, xu_kne (by decide), xu_ee]
  have m45 : Ma 209 45 = n32 0 := by rw [← hMa, xu_ee]; rfl
  have hI : ∀ o, o ≠ 72 → (xu I 72 1 0) o = I o := fun o z => xu_rne z
  obtain ⟨K, J', M', N', c1, c2, c3, c4, c5⟩ := lk_open (d := d + 1) (d' := d' + 2) (e := e) (L := L) (most := 400) (n := n) (x := 400) (I := xu I 72 1 0) (J := J) (M := Ma) (N := N) (by omega) h9 (by rw [hI 1 (by omega), h1]) (fun i hi => by rw [hI 2 (by omega), mo 210 (by omega)]; exact hT i hi) (by rw [m9 3 (by omega) (by omega), a3]) (by rw [m9 4 (by omega) (by omega), a4]) (by rw [m9 5 (by omega) (by omega), a5]; rfl) m16 rfl
  have cc : bC K I J' J := ⟨fun o z1 z2 z3 => by rw [c4.1 o z1, hI o z2], fun q z => by rw [c4.1 72 (by omega), xu_kne z], c4.2⟩
  have rr : ∀ q, ¬ ((2 ≤ q ∧ q ≤ 5) ∨ (12 ≤ q ∧ q ≤ 17) ∨ q = 19 ∨ q = 45) → M' 209 q = M 209 q := fun q z => by rw [c5.2.2 q (by omega), m9 q (by omega) (by omega), a7 q (by omega)]
  have l2 : M' 209 2 = 0 := by rw [c5.2.2 2 (by omega), m9 2 (by omega) (by omega), a2]
  have ee : bR2 M' M N' N := ⟨fun o z1 z2 => by rw [c5.1 o z1, mo o z1], c5.2.1, rr⟩
  have ed : ∀ {M2 : TI} {N2 : TJ}, bR M2 M' N2 N' → bR2 M2 M N2 N ∧ M2 209 2 = 0 := fun {M2 N2} y => by
    refine ⟨⟨fun o z1 z2 => (y.1 o z1 z2).trans (ee.1 o z1 z2), fun o z1 => (y.2.1 o z1).trans (ee.2.1 o z1), fun q z => (y.2.2 q (by omega)).trans (rr q z)⟩, ?_⟩
    rw [y.2.2 2 (by omega), l2]
  have hN' : Nm V B K J' M' N' := by
    obtain ⟨h1, h2, h3, h4, h5, h6, h7, h8, h9⟩ := hN
    unfold Nm
    rw [cc.1 7 (by omega) (by omega) (by omega), ee.1 211 (by omega) (by omega), cc.2.2 8 (by omega), cc.2.2 10 (by omega), ee.2.1 215 (by omega), ee.2.1 216 (by omega)]
    exact ⟨h1, h2, h3, h4, h5, h6, h7, h8, h9⟩
  have cs : xcall xprog (d + 5) 1 [.ref 72, .ref 5, .ref 7] (xst e L I J) = xlim (xcall xprog (d + 4)) mX0_readFrom 1 [.ref 72, .ref 5, .ref 7, .int (n32 0)] [] (xst e L K J') := by
    rw [aX0_readFrom, bX0_readFrom_0, c1, xcV_some, ekX0_readFrom_0_5]
    rfl
  have rs : xlim (xcall xprog (d' + 4)) mX12_book 1 [.ref 209, .int hw, xD, xD] [] (xst e L M N) = xlim (xcall xprog (d' + 4)) mX12_book 2 [.ref 209, .int hw, xD, xD] [] (xst e L M' N') := by
    rw [bX12_book_1, a1, xcV_some, ekX12_book_1_2, hMa, c2, xcV_some, ekX12_book_1_10]
  rw [cs, rs]
  rcases lk_blines (d := d) (d' := d') (e := e) (L := L) (hw := hw) 41 0 K J' M' N' (by omega) (by omega) c3 hN' (by rw [c4.1 72 (by omega), xu_ee]; rfl) (by rw [c5.2.2 45 (by omega), m45]) (fun i hi => absurd hi (Nat.not_lt_zero i)) with ⟨K4, J4, M4, N4, C, g1, g2, g3, g4, g5, g6, g7, g8, g9⟩ | ⟨K4, J4, M4, N4, g1, g2, g3, g4, g5⟩
  · exact Or.inl ⟨K4, J4, M4, N4, C, g1, g2, g3, g4, g5, g6, g7, (ed g9).2, bC_t cc g8, (ed g9).1⟩
  · exact Or.inr ⟨K4, J4, M4, N4, g1, g2, g3, (ed g5).2, bC_t cc g4, (ed g5).1⟩
end BOJ
