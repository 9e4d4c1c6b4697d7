/-! The end of a sentence, and a whole sentence read on both sides. -/
def senQ (M' M : TI) (N' N : TJ) : Prop := (∀ o, o ≠ 209 → o ≠ 213 → o ≠ 227 → M' o = M o) ∧ (∀ o, o ≠ 209 → N' o = N o) ∧ ∀ q, ¬ (q = 0 ∨ (2 ≤ q ∧ q ≤ 5) ∨ (12 ≤ q ∧ q ≤ 17) ∨ q = 19 ∨ (49 ≤ q ∧ q ≤ 53)) → M' 209 q = M 209 q
section SNF
variable {d d' f f' g e L : Nat} {T : Nat → Int32} {I K K2 M M' M2 : TI} {J J' J2 N N' N2 : TJ} {P Q R : List Cd} {X Y : List Nat} {i j k m n a t l dp on most V B : Nat} {x y till : Int32} {wh ow aw : Bool} {cf : xCF}
theorem senQ_t (h : senQ M' M N' N) (h' : senR M2 M' N2 N') : senQ M2 M N2 N := ⟨fun o z y w => (h'.1 o z y w).trans (h.1 o z y w), fun o z => (h'.2.1 o z).trans (h.2.1 o z), fun q z => (h'.2.2 q (by omega)).trans (h.2.2 q z)⟩
theorem clr_nil : clr ([] : List Nat) a := fun Y z => by
  have q := congrArg List.length z
  rw [l1] at q
  exact absurd q.symm (Nat.succ_ne_zero _)
theorem hd_fin (h : SR T n most V B P Q ([] ++ wt2 ow aw ++ n20 k) on (dp + k) true I J M N) (hP : P = Q ++ nt k ++ fl2 ow aw) (hq : Q.length + k + 2 < 45) (hx : 2 + k < 45) (hd : dp + k < 1000) (n72 : ¬ I 5 0 = n32 (64 + 8)) (n73 : ¬ I 5 0 = n32 (64 + 9)) : (∃ K J' M' N', xcall xprog (f + 3) 95 [.ref 5, .int 0] (xst e L I J) = some (some (.int 1), xst e L K J') ∧ HD (f' + 4) e L M N = xlim (xcall xprog (f' + 4)) mX12_sentence 6 [.ref 209, xD, xD] [] (xst e L M' N') ∧ ClS P K ∧ RfS P M' ∧ K 119 0 = n32 on ∧ M' 209 50 = n32 on ∧ K 5 2 = M' 209 16 ∧ senC K I J' J ∧ senR M' M N' N) ∨ SFl (f' + 4) e L (xcall xprog (f + 3) 95 [.ref 5, .int 0] (xst e L I J)) I J M N := by
  have hb : ∀ b, b ∈ ([] : List Nat) → b < 100 := fun b hb => nomatch hb
  have l0 : ([] : List Nat).length = 0 := rfl
  have z53 := wh_t h
  by_cases z0 : I 5 0 = 0
  · obtain ⟨M1, M2, a1, a2, a3, a4, a5⟩ := flush (f := f' + 2) (e := e) (L := L) h hP hq (by rw [l0]; omega) hd clr_nil clr_nil clr_nil hb
    obtain ⟨K, J', t1, t2, t3⟩ := lk_takeEnd (d := f) (e := e) (L := L) h.1 z0
    obtain ⟨h1, h2, h3, h4, h5, h6, h7, h8, h9⟩ := a4
    have top : M2 209 51 ≤ 0 := by
      rw [h7.1]
      show n32 0 ≤ 0
      decide
    refine Or.inl ⟨K, J', M2, N, t1, ?_, ClS_c (fun o z1 z2 => t2.1 o (by omega)) h5, h6, by rw [t2.1 119 (by omega), h3], h4, t3.trans h1.2.2, fC_s t2, a5⟩
    rw [hd_end z53 ((tok_end h.1.2.1).mp z0), a1, xcV_some, ekX12_sentence_1_9, a2, xcV_some, ekX12_sentence_1_12, if_pos top, bX12_sentence_2, bX12_sentence_1, if_pos i00]
  · have z12 : ¬ M 209 12 = 0 := fun y => z0 ((tok_end h.1.2.1).mpr y)
    obtain ⟨M1, M2, a1, a2, a3, a4, a5⟩ := flush (f := f' + 1) (e := e) (L := L) h hP hq (by rw [l0]; omega) hd clr_nil clr_nil clr_nil hb
    have m51 : M2 209 51 = 0 := a4.2.2.2.2.2.2.1.1
    have be : xcall xprog (f' + 4) 260 [.ref 209] (xst e L M N) = kX12_behindOne_6_5 (xcall xprog (f' + 3)) 209 (if I 5 0 = n32 41 then 1 else 0) (xst e L M2 N) := by
      rw [aX12_behindOne, bX12_behindOne_0, a1, xcV_some, ekX12_behindOne_0_1, r_isWord (k := 9) (by omega) (show Int64.ofNat 6385252 = xwd 9 by decide) a3.1.2.1, xcI_some, ekX12_behindOne_0_4, if_neg n73, if_pos i00, r_isWord (k := 8) (by omega) (show Int64.ofNat 28530 = xwd 8 by decide) a3.1.2.1, xcI_some, ekX12_behindOne_0_8, if_neg n72, if_pos i00, bX12_behindOne_6, a2, xcV_some, ekX12_behindOne_6_2, r_isSign (g := 41) (by omega) (show (41 : Int32) = n32 41 from rfl) a4.1.2.1, xcI_some]
    have be7 : kX12_behindOne_6_5 (xcall xprog (f' + 3)) 209 (if I 5 0 = n32 41 then 1 else 0) (xst e L M2 N) = xlim (xcall xprog (f' + 3)) mX12_behindOne 7 [.ref 209] [] (xst e L M2 N) := by
      rw [ekX12_behindOne_6_5]
      by_cases z41 : I 5 0 = n32 41
      · rw [if_pos z41, if_neg i10, m51, if_pos i00]
      · rw [if_neg z41, if_pos i00]
    obtain ⟨K, M', r1, r2, r3, r4, r5⟩ := lk_ref (d := f + 1) (d' := f' + 2) (e := e) (L := L) 1 a4.1
    refine Or.inr ⟨K, J, M', N, ?_, ?_, r3, fC_s r4, senR_t a5 (fR_s r5)⟩
    · rw [aX9_take, bX9_take_0, if_neg z0, r1, xcI_some, ekX9_take_0_6, xrZ0]
    · rw [hd_bh z53 z12, be, be7, bX12_behindOne_7, r2, xcI_some, ekX12_behindOne_7_2, xrZ0, xcI_some, ekX12_sentence_3_4, if_pos i00, bX12_sentence_5]
theorem lk_sen (h9 : n ≤ 940) (h1 : I 1 1 = n32 n) (hT : ∀ i, i < n → I 2 i = M 210 i &&& 255) (h2 : M 209 2 = n32 n) (hN : Nm V B I J M N) : (∃ K J' M' N' P on, xcall xprog (f + 26) 69 [.ref 119, .ref 5, .ref 7] (xst e L I J) = some (some (.int (n32 on)), xst e L K J') ∧ xcall xprog (g + 7) 261 [.ref 209] (xst e L M N) = xlim (xcall xprog (g + 6)) mX12_sentence 6 [.ref 209, xD, xD] [] (xst e L M' N') ∧ ClS P K ∧ RfS P M' ∧ good P ∧ dpt P = 1 ∧ P.length ≤ 40 ∧ 0 < on ∧ on ≤ 20 ∧ K 119 0 = n32 on ∧ M' 209 50 = n32 on ∧ M' 209 2 = 0 ∧ K 5 2 = M' 209 16 ∧ senC K I J' J ∧ senQ M' M N' N) ∨ ∃ K J' M' N', xcall xprog (f + 26) 69 [.ref 119, .ref 5, .ref 7] (xst e L I J) = some (some (.int (-1)), xst e L K J') ∧ xcall xprog (g + 7) 261 [.ref 209] (xst e L M N) = some (some (.int (-1 - M' 209 17)), xst e L M' N') ∧ M' 209 2 = 0 ∧ Flt K M' ∧ senC K I J' J ∧ senQ M' M N' N := by
  have hB : B ≤ 20 := hN.2.1
  have h2' : (xu M 209 0 0) 209 2 = n32 n := by rw [xu_kne (by decide), h2]
  obtain ⟨M1, a1, a2, a3, a4, a5, a6, a7⟩ := r_taken (d := g + 5) (e := e) (L := L) (N := N) (x := 200) h2'
  generalize hMa : xu (xu (xu (xu (xu (xu M1 209 16 0) 209 49 0) 209 50 0) 209 51 0) 209 52 1) 209 53 0 = Ma
  have mo : ∀ o, o ≠ 209 → Ma o = M o := fun o z => by rw [← hMa, xu_rne z, xu_rne z, xu_rne z, xu_rne z, xu_rne z, xu_rne z, a6 o z, xu_rne z]
  have m9 : ∀ q, q ≠ 16 → ¬ (49 ≤ q ∧ q ≤ 53) → Ma 209 q = M1 209 q := fun q z1 z2 => by rw [← hMa, xu_kne (by omega), xu_kne (by omega), xu_kne (by omega), xu_kne (by omega), xu_kne (by omega), xu_kne (by omega)]
  have hI : ∀ o, o ≠ 119 → (xu (xu I 119 0 0) 119 1 0) o = I o := fun o z => by rw [xu_rne z, xu_rne z]
  obtain ⟨K, J', M', N', c1, c2, c3, c4, c5⟩ := lk_open (d := f + 22) (d' := g + 4) (e := e) (L := L) (most := 200) (n := n) (x := 200) (I := xu (xu I 119 0 0) 119 1 0) (J := J) (M := Ma) (N := N) (by omega) h9 (by rw [hI 1 (by omega), h1]) (fun i hi => by rw [hI 2 (by omega), mo 210 (by omega)]; exact hT i hi) (by rw [m9 3 (by omega) (by omega), a3]) (by rw [m9 4 (by omega) (by omega), a4]) (by rw [m9 5 (by omega) (by omega), a5]; rfl) (by rw [← hMa, xu_kne (by decide), xu_kne (by decide), xu_kne (by decide), xu_kne (by decide), xu_kne (by decide), xu_ee]) rfl
  have n0 : Nm V B (xu (xu I 119 0 0) 119 1 0) J Ma N := by
    unfold Nm
    rw [hI 7 (by omega), mo 211 (by omega)]
    exact hN
  have hS : SR ((xu (xu I 119 0 0) 119 1 0) 2) n 200 V B [] [] [] 0 1 false K J' M' N' := by
    refine ⟨c3, Nm_s n0 (fC_s c4) (fR_s c5), ?_, ?_, ⟨?_, fun i hi => absurd hi (Nat.not_lt_zero i)⟩, ⟨?_, fun i hi => absurd hi (Nat.not_lt_zero i)⟩, ⟨?_, fun i hi => absurd hi (Nat.not_lt_zero i)⟩, ?_, ?_⟩
    · rw [c4.1 119 (by omega), xu_kne (by decide), xu_ee]; rfl
    · rw [c5.2.2 50 (by omega), ← hMa, xu_kne (by decide), xu_kne (by decide), xu_kne (by decide), xu_ee]; rfl
    · rw [c4.1 119 (by omega), xu_ee]; rfl
    · rw [c5.2.2 49 (by omega), ← hMa, xu_kne (by decide), xu_kne (by decide), xu_kne (by decide), xu_kne (by decide), xu_ee]; rfl
    · rw [c5.2.2 51 (by omega), ← hMa, xu_kne (by decide), xu_kne (by decide), xu_ee]; rfl
    · rw [c5.2.2 52 (by omega), ← hMa, xu_kne (by decide), xu_ee]; rfl
    · rw [c5.2.2 53 (by omega), ← hMa, xu_ee]; rfl
  have sc : senC K I J' J := ⟨fun o z1 z2 => by rw [c4.1 o z1, hI o (by omega)], fun o z => c4.2 o z⟩
  have sq : senQ M' M N' N := ⟨fun o z1 _ _ => by rw [c5.1 o z1, mo o z1], fun o z => c5.2.1 o z, fun q z => by rw [c5.2.2 q (by omega), m9 q (by omega) (by omega), a7 q (by omega), xu_kne (by omega)]⟩
  have m2 : M' 209 2 = 0 := by rw [c5.2.2 2 (by omega), m9 2 (by omega) (by omega), a2]
  have st : xcall xprog (g + 7) 261 [.ref 209] (xst e L M N) = HD (g + 6) e L M' N' := by
    rw [aX12_sentence, bX12_sentence_0, a1, xcV_some, ekX12_sentence_0_5, hMa, c2, xcV_some, ekX12_sentence_0_25]
    rfl
  have rf : xcall xprog (f + 26) 69 [.ref 119, .ref 5, .ref 7] (xst e L I J) = xcI (xcall xprog (f + 25) 70 [.ref 119, .ref 5, .ref 7, .int 1] (xst e L K J')) (kX7_readFrom_0_9 (xcall xprog (f + 25)) 119 5) := by
    rw [aX7_readFrom, bX7_readFrom_0, aX7_clear_119, bX7_clear_119_0, xcV_some, ekX7_readFrom_0_1, c1, xcV_some, ekX7_readFrom_0_4]
  rcases (sen_ind (h := g) (e := e) (L := L) (n := n) (most := 200) (V := V) hB 20).1 (f + 25) 1 0 [] [] K J' M' N' rfl (by omega) (by omega) hS (fun i hi => absurd hi (Nat.not_lt_zero i)) (Nat.zero_le _) (Nat.zero_le _) (fun b hb => nomatch hb) clr_nil clr_nil clr_nil with ⟨K2, J2, M2, N2, Q, k, ow, aw, on, b1, b2, b3, b4, b5, b6, b7, b8, b9, b10, b11, b12, b13⟩ | ⟨K2, J2, M2, N2, b1, b2, b3, b4, b5⟩
  rotate_left
  · have b1' : xcall xprog (f + 25) 70 [.ref 119, .ref 5, .ref 7, .int 1] (xst e L K J') = some (some (.int 0), xst e L K2 J2) := b1
    refine Or.inr ⟨K2, J2, M2, N2, ?_, st.trans b2, by rw [b5.2.2 2 (by omega), m2], b3, senC_t sc b4, senQ_t sq b5⟩
    rw [rf, b1', xcI_some, ekX7_readFrom_0_9, if_pos i00, bX7_readFrom_1, bX7_readFrom_2]
  have b1' : xcall xprog (f + 25) 70 [.ref 119, .ref 5, .ref 7, .int 1] (xst e L K J') = some (some (.int 1), xst e L K2 J2) := b1
  have hlen : (Q ++ nt k ++ fl2 ow aw).length = Q.length + k + (fl2 ow aw).length := by rw [List.length_append, nt_len]
  have l0 : ([] : List Nat).length = 0 := rfl
  have l0' : ([] : List Cd).length = 0 := rfl
  rw [l0'] at b6
  rw [l0, wt2_len] at b7
  rcases hd_fin (f := f + 22) (f' := g + 2) (e := e) (L := L) b3 rfl (by omega) (by omega) (by omega) b8 b9 with ⟨K3, J3, M3, N3, d1, d2, d3, d4, d5, d6, d7, d8, d9⟩ | ⟨K3, J3, M3, N3, d1, d2, d3, d4, d5⟩
  rotate_left
  · refine Or.inr ⟨K3, J3, M3, N3, ?_, st.trans (b2.trans d2), by rw [d5.2.2 2 (by omega), b13.2.2 2 (by omega), m2], d3, senC_t sc (senC_t b12 d4), senQ_t (senQ_t sq b13) d5⟩
    rw [rf, b1', xcI_some, ekX7_readFrom_0_9, if_neg i10, d1, xcI_some, ekX7_readFrom_0_13, if_pos i00, bX7_readFrom_1, bX7_readFrom_2]
  refine Or.inl ⟨K3, J3, M3, N3, Q ++ nt k ++ fl2 ow aw, on, ?_, st.trans (b2.trans d2), d3, d4, b4, b5, by omega, b10, b11, d5, d6, by rw [d9.2.2 2 (by omega), b13.2.2 2 (by omega), m2], d7, senC_t sc (senC_t b12 d8), senQ_t (senQ_t sq b13) d9⟩
  rw [rf, b1', xcI_some, ekX7_readFrom_0_9, if_neg i10, d1, xcI_some, ekX7_readFrom_0_13, if_neg i10, bX7_readFrom_2, d5]
/-- the reference's codes become the state's -/
theorem r_codes (h49 : M 209 49 = n32 l) (hl : l ≤ 40) : ∀ m k (M : TI), k + m = 3 * l → M 209 49 = n32 l → ∃ M', xlim cf mX12_sentence 7 [.ref 209, xD, .int (n32 k)] [] (xst e L M N) = some (some (.int (M 209 50)), xst e L M' N) ∧ (∀ o, o ≠ 211 → M' o = M o) ∧ ∀ i, M' 211 i = if 225 + k ≤ i ∧ i < 225 + 3 * l then M 213 (i - 225) else M 211 i := by
  have e3 : (3 : Int32) * n32 l = n32 (3 * l) := n32_mul (a := 3)
  intro m
  induction m with
  | zero =>
    intro k M hk h49
    have : k = 3 * l := by omega
    subst this
    refine ⟨M, ?_, fun _ _ => rfl, fun i => by rw [if_neg (by omega)]⟩
    rw [bX12_sentence_7, h49, e3, if_neg (fun z => absurd ((n32_lt (by omega) (by omega)).mp z) (Nat.lt_irrefl _)), bX12_sentence_8]
  | succ m ih =>
    intro k M hk h49
    have e225 : (225 : Int32) + n32 k = n32 (225 + k) := n32_add
    obtain ⟨M', h1, h2, h3⟩ := ih (k + 1) (xu M 211 (225 + k) (M 213 k)) (by omega) (by rw [xu_rne (by decide), h49])
    have h50 : (xu M 211 (225 + k) (M 213 k)) 209 50 = M 209 50 := by rw [xu_rne (by decide)]
    rw [h50] at h1
    refine ⟨M', ?_, fun o z => by rw [h2 o z, xu_rne z], fun i => ?_⟩
    · rw [bX12_sentence_7, h49, e3, if_pos ((n32_lt (by omega) (by omega)).mpr (by omega)), e225, xin_n32 (by omega) (show k < 135 by omega), cond_true, xin_n32 (by omega) (show 225 + k < 360 by omega), cond_true, n32_nat (by omega), n32_nat (by omega), n32_succ]
      exact h1
    · rw [h3 i, xu_row, xu_rne (by decide)]
      by_cases z : i = 225 + k
      · subst z
        rw [if_neg (by omega), up_eq, if_pos (by omega), Nat.add_sub_cancel_left]
      · rw [up_ne z]
        by_cases y : 225 + k ≤ i ∧ i < 225 + 3 * l
        · rw [if_pos y, if_pos (by omega)]
        · rw [if_neg y, if_neg (by omega)]
end SNF
