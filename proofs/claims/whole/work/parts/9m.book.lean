/-! The call book. -/
/-- the end of a book on both sides -/
def BkE (S : TS) (D : Nat → Int64) (m o : Nat) (I : TI) (J : TJ) (M : TI) (N : TJ) (K : TI) (J' : TJ) (M' : TI) (N' : TJ) : Prop := ∃ S', CS S' D K J' ∧ RS S' M' ∧ NZ S' D ∧ (∀ k, 224 ≤ k → S k = S' k) ∧ S 1 = S' 1 ∧
  ((S' = S ∧ (∀ o k, 79 ≤ o → o < 89 → K o k = I o k) ∧ M' 222 = M 222 ∧ M' 209 38 = M 209 38) ∨ (pre S S' ∧ CK I K S m o ∧ RK M M' S m)) ∧
  (((∀ k, k < 4 → K 73 k = M' 226 k) ∧ M' 209 47 = 1) ∨ (K 73 = I 73 ∧ M' 226 = M 226 ∧ M' 209 47 = M 209 47)) ∧
  K 1 1 = 0 ∧ M' 209 2 = 0 ∧ K 0 16 = M' 209 16 ∧
  (∀ o k, ¬ (o = 0 ∧ k = 16) → ¬ (o = 1 ∧ k = 1) → o ≠ 5 → ¬ (o = 6 ∧ k = 3) → ¬ (7 ≤ o ∧ o < 42) → ¬ (47 ≤ o ∧ o < 71) → ¬ (72 ≤ o ∧ o < 78) → ¬ (79 ≤ o ∧ o < 89) → o ≠ 208 → K o k = I o k) ∧
  (∀ o k, o ≠ 5 → o ≠ 10 → J' o k = J o k) ∧
  (∀ o k, o ≠ 211 → o ≠ 214 → ¬ (217 ≤ o ∧ o < 223) → o ≠ 224 → o ≠ 226 → (o ≠ 209 ∨ ¬ (k = 0 ∨ (2 ≤ k ∧ k ≤ 5) ∨ (12 ≤ k ∧ k ≤ 17) ∨ k = 19 ∨ (26 ≤ k ∧ k ≤ 34) ∨ k = 38 ∨ k = 45 ∨ k = 47)) → M' o k = M o k) ∧
  ∀ o k, o ≠ 209 → N' o k = N o k
section BKM
variable {d d' e L : Nat} {S S' S2 : TS} {D D' : Nat → Int64} {T : Nat → Int32} {I K K2 M M' M2 : TI} {J J' J2 N N' N2 : TJ} {p q n k i m o a j b v r most g lo hi fr V B c C kk h l w : Nat} {x y v4 v5 v6 hw : Int32} {cf : xCF}
theorem mrk_rest (o k : Nat) (h : o ≠ 208) : mrk I o k = I o k := by rw [mrk_ne h]
theorem lk_book (hh : h ≤ 1) (h9 : n ≤ 940) (h1 : I 1 1 = n32 n) (hT : ∀ i, i < n → I 2 i = M 210 i &&& 255) (h2 : M 209 2 = n32 n) (hC : CS S D I J) (hR : RS S M) (hZ : NZ S D) (hN : Nm (sV S) (sB S) I J M N) (h79 : I 79 2 = n32 m) (h79' : I 79 1 = n32 o) (hm8 : m ≤ 8) (ho8 : o < 8) (h38 : M 209 38 = n32 m) : ∃ v K J' M' N', xcall xprog (d + 40) 143 [.ref 0, .int (n32 h)] (xst e L I J) = some (some (.int v), xst e L K J') ∧ xcall xprog (d + 40) 253 [.ref 209, .int (n32 h)] (xst e L M N) = some (some (.int v), xst e L M' N') ∧ BkE S D m o I J M N K J' M' N' := by
  have c0 : xcall xprog (d + 40) 143 [.ref 0, .int (n32 h)] (xst e L I J) = xlim (xcall xprog (d + 39)) mX11_book 1 [.ref 0, .int (n32 h), xD, xD] [] (xst e L I J) := by
    rw [aX11_book, bX11_book_0]
    have : h = 0 ∨ h = 1 := by omega
    rcases this with rfl | rfl
    · rw [if_pos (show n32 0 = 0 from rfl)]
    · rw [if_neg (show ¬ n32 1 = 0 by decide), if_pos (show n32 1 = 1 from rfl)]
  have hRa : RS S (xu M 209 0 0) := ⟨hR.1, by rw [xu_rne (by decide)]; exact hR.2.1, fun q => Rf_c (fun o k z1 z2 => by rw [xu_rne (by omega)]) (fun k z1 z2 => xu_kne (by omega)) (hR.2.2 (by rw [xu_kne (by decide)] at q; exact q))⟩
  have r0 : xcall xprog (d + 40) 253 [.ref 209, .int (n32 h)] (xst e L M N) = xlim (xcall xprog (d + 39)) mX12_book 1 [.ref 209, .int (n32 h), xD, xD] [] (xst e L (xu M 209 0 0) N) := by
    rw [aX12_book, bX12_book_0, sX12_isIn (d + 38), xcI_some, ekX12_book_0_6, if_neg (show ¬ n32 h < 0 from n32_neg (by omega)), if_pos (show n32 h ≤ 1 from (n32_le (b := 1) (by omega) (by omega)).mpr hh), if_neg i10]
  have hNa : Nm (sV S) (sB S) I J (xu M 209 0 0) N := by
    unfold Nm
    rw [xu_rne (by decide)]
    exact hN
  rw [c0, r0, bX11_book_1]
  have hw := hC.1.1
  have h8 := wf_V8 hw
  have h20 := wf_B hw
  rcases lk_bread (d := d + 34) (d' := d + 35) (e := e) (L := L) (hw := n32 h) (M := xu M 209 0 0) h9 h1 (fun i hi => by rw [xu_rne (by decide)]; exact hT i hi) (by rw [xu_kne (by decide), h2]) hNa with ⟨K1, J1, M1, N1, C, a1, a2, a3, a4, a5, a6, a7, a8, a9, a10⟩ | ⟨K1, J1, M1, N1, a1, a2, a3, a4, a5, a6⟩
  rotate_left
  · -- a fault
    have k5 : ∀ q, (xu (xu K1 1 1 0) 0 16 (K1 5 2)) 5 q = K1 5 q := fun q => by rw [xu_rne (by decide), xu_rne (by decide)]
    have kc : ∀ o q, ¬ (o = 0 ∧ q = 16) → ¬ (o = 1 ∧ q = 1) → (xu (xu K1 1 1 0) 0 16 (K1 5 2)) o q = K1 o q := fun o q z1 z2 => by
      by_cases y : o = 0
      · subst y
        rw [xu_kne (by omega), xu_rne (by decide)]
      · rw [xu_rne y]
        by_cases w : o = 1
        · subst w
          rw [xu_kne (by omega)]
        · rw [xu_rne w]
    have mM : ∀ o k, o ≠ 214 → (o ≠ 209 ∨ ¬ (k = 0 ∨ (2 ≤ k ∧ k ≤ 5) ∨ (12 ≤ k ∧ k ≤ 17) ∨ k = 19 ∨ k = 45)) → M1 o k = M o k := fun o k z1 z2 => by
      by_cases y : o = 209
      · subst y
        rw [a6.2.2 k (by omega), xu_kne (by omega)]
      · rw [a6.1 o y z1, xu_rne y]
    refine ⟨-2 - K1 5 3, xu (xu K1 1 1 0) 0 16 (K1 5 2), J1, M1, N1, ?_, ?_, S, ?_, ?_, hZ, fun _ _ => rfl, rfl, Or.inl ⟨rfl, fun o k z1 z2 => ?_, ?_, ?_⟩, Or.inr ⟨?_, ?_, ?_⟩, ?_, a4, ?_, fun o k z1 z2 z3 z4 z5 z6 z7 z8 z9 => ?_, fun o k z1 z2 => ?_, fun o k z1 z2 z3 z4 z5 z6 => ?_, fun o k z => by rw [a6.2.1 o z]⟩
    · rw [a1, xcI_some, ekX11_book_1_6, c_close (d := d + 38), xcV_some, ekX11_book_1_9, if_pos im1, k5]
    · rw [a2, a3.2]
    · exact CS_g (fun o k z1 z2 z3 => by rw [kc o k (by omega) (by omega), a5.1 o (by omega) (by omega) (by omega)]) (fun o k z1 z2 => by rw [a5.2.2 o (by omega)]) hC
    · exact ⟨hR.1, by rw [show M1 211 = M 211 from funext fun k => mM 211 k (by omega) (by omega)]; exact hR.2.1, fun q => Rf_c (fun o k z1 z2 => mM o k (by omega) (by omega)) (fun k z1 z2 => mM 209 k (by omega) (by omega)) (hR.2.2 (by rw [← mM 209 34 (by omega) (by omega)]; exact q))⟩
    · rw [kc o k (by omega) (by omega), a5.1 o (by omega) (by omega) (by omega)]
    · exact funext fun k => mM 222 k (by omega) (by omega)
    · exact mM 209 38 (by omega) (by omega)
    · funext k
      rw [kc 73 k (by omega) (by omega), a5.1 73 (by omega) (by omega) (by omega)]
    · exact funext fun k => mM 226 k (by omega) (by omega)
    · exact mM 209 47 (by omega) (by omega)
    · rw [xu_rne (by decide), xu_ee]
    · rw [xu_ee, a3.1]
    · rw [kc o k z1 z2, a5.1 o z3 (by omega) (by omega)]
    · rw [a5.2.2 o z1]
    · exact mM o k z2 (by omega)
  -- no fault
  generalize hK2 : xu (xu K1 1 1 0) 0 16 (K1 5 2) = K2
  have kc : ∀ o q, ¬ (o = 0 ∧ q = 16) → ¬ (o = 1 ∧ q = 1) → K2 o q = K1 o q := fun o q z1 z2 => by
    rw [← hK2]
    by_cases y : o = 0
    · subst y
      rw [xu_kne (by omega), xu_rne (by decide)]
    · rw [xu_rne y]
      by_cases w : o = 1
      · subst w
        rw [xu_kne (by omega)]
      · rw [xu_rne w]
  have k16 : K2 0 16 = K1 5 2 := by rw [← hK2, xu_ee]
  have k11 : K2 1 1 = 0 := by rw [← hK2, xu_rne (by decide), xu_ee]
  have hC2 : CS S D K2 J1 := CS_g (fun o k z1 z2 z3 => by rw [kc o k (by omega) (by omega), a9.1 o (by omega) (by omega) (by omega)]) (fun o k z1 z2 => by rw [a9.2.2 o (by omega)]) hC
  have hC3 := CS_mrk hC2
  have hMK := mrk_MK hC2
  have mM : ∀ o k, o ≠ 214 → (o ≠ 209 ∨ ¬ (k = 0 ∨ (2 ≤ k ∧ k ≤ 5) ∨ (12 ≤ k ∧ k ≤ 17) ∨ k = 19 ∨ k = 45)) → M1 o k = M o k := fun o k z1 z2 => by
    by_cases y : o = 209
    · subst y
      rw [a10.2.2 k (by omega), xu_kne (by omega)]
    · rw [a10.1 o y z1, xu_rne y]
  obtain ⟨_, b1, Ma, Na, rfl, hj, b2, b3⟩ := r_copies_224 (d := d + 38) (e := e) (L := L) (I := M1) (J := N1)
  subst Na
  generalize hMb : xu Ma 226 0 0 = Mb
  have mb : ∀ o, o ≠ 224 → o ≠ 226 → Mb o = M1 o := fun o z1 z2 => by rw [← hMb, xu_rne z2, b2 o z1]
  have mb6 : ∀ k, k ≠ 0 → Mb 226 k = M1 226 k := fun k z => by rw [← hMb, xu_kne z, b2 226 (by decide)]
  have hRb : RS S Mb := ⟨hR.1, by rw [mb 211 (by omega) (by omega), show M1 211 = M 211 from funext fun k => mM 211 k (by omega) (by omega)]; exact hR.2.1, fun q => Rf_c (fun o k z1 z2 => by rw [mb o (by omega) (by omega), mM o k (by omega) (by omega)]) (fun k z1 z2 => by rw [mb 209 (by omega) (by omega), mM 209 k (by omega) (by omega)]) (hR.2.2 (by rw [← mM 209 34 (by omega) (by omega), ← mb 209 (by omega) (by omega)]; exact q))⟩
  obtain ⟨S', K4, J4, M4, w, l, l1, l2, l3, l4, l5, l6, l7, l8, l9, l10, l11, l12, l13, l14, l15, l16, l17⟩ := lk_live (d := d + 32) (d' := d + 29) (e := e) (L := L) (hw := n32 h) (D := D) (N := N1) (V := sV S) (B := sB S) (C := C) C 0 S (mrk K2) J1 Mb (by omega) a3 hC3 hZ hRb rfl (Nat.le_refl _) (fun i hi => Ln_c (fun q z1 z2 => by rw [mrk_ne (by omega), kc q i (by omega) (by omega)]) (fun j hj => by rw [mb 214 (by omega) (by omega)]) (a6 i hi)) (by rw [mrk_ne (by decide), kc 72 1 (by omega) (by omega), a4]) (by rw [mb 209 (by omega) (by omega), a5]) (by rw [← hMb, xu_ee])
  have live : xcall xprog (d + 39) 3 [.ref 72, .ref 6] (xst e L (mrk K2) J1) = some (some (.int (n32 l)), xst e L (xu (xu K4 73 0 (n32 w)) 73 1 (n32 l)) J4) := by
    rw [aX0_live, bX0_live_0]
    exact l6
  generalize hK5 : xu (xu K4 73 0 (n32 w)) 73 1 (n32 l) = K5 at live
  have k5 : ∀ o, o ≠ 73 → K5 o = K4 o := fun o z => by rw [← hK5, xu_rne z, xu_rne z]
  have kM : ∀ o k, ¬ (o = 0 ∧ k = 16) → ¬ (o = 1 ∧ k = 1) → ¬ (7 ≤ o ∧ o < 42) → ¬ (o = 6 ∧ k = 3) → o ≠ 73 → o ≠ 208 → K5 o k = K1 o k := fun o k z1 z2 z3 z4 z5 z6 => by rw [k5 o z5, l15 o k z3 (by omega), mrk_ne z6, kc o k z1 z2]
  have mk5 : MK K5 S 208 := by
    refine ⟨?_, ?_, fun v hv => ?_⟩
    · rw [k5 208 (by omega), l15 208 0 (by omega) (by omega)]; exact hMK.1
    · rw [k5 208 (by omega), l15 208 1 (by omega) (by omega)]; exact hMK.2.1
    · rw [k5 208 (by omega), l15 208 _ (by omega) (by omega)]; exact hMK.2.2 v hv
  have h79a : ∀ o k, 79 ≤ o → o < 89 → K5 o k = I o k := fun o k z1 z2 => by rw [kM o k (by omega) (by omega) (by omega) (by omega) (by omega) (by omega), a9.1 o (by omega) (by omega) (by omega)]
  obtain ⟨K6, n6, e1, e2, e3, e4, e5, e6, e7, e8, e9⟩ := c_bookE (d := d) (e := e) (L := L) (h := h) (I := K5) (J := J4) (C := C) (l := l) (w := w) (m := m) (o := o) hh (CS_73 k5 l4) hC.1 l1 mk5 (by rw [h79a 79 2 (by omega) (by omega), h79]) (by rw [h79a 79 1 (by omega) (by omega), h79']) hm8 ho8 l10 a3 (fun z => l13 z) (by rw [← hK5, xu_kne (by decide), xu_ee]) (by rw [← hK5, xu_ee])
  have mo4 : ∀ o k, o ≠ 211 → o ≠ 214 → ¬ (217 ≤ o ∧ o < 222) → o ≠ 224 → o ≠ 226 → (o ≠ 209 ∨ ¬ (k = 0 ∨ (2 ≤ k ∧ k ≤ 5) ∨ (12 ≤ k ∧ k ≤ 17) ∨ k = 19 ∨ (26 ≤ k ∧ k ≤ 34) ∨ k = 45)) → M4 o k = M o k := fun o k z1 z2 z3 z4 z5 z6 => by rw [l17 o k z1 z3 (by omega) (by omega), mb o z4 z5, mM o k z2 (by omega)]
  obtain ⟨M6, r6, f1, f2, f3, f4, f5, f6, f7, f8, f9, f10⟩ := r_bookE (d := d) (e := e) (L := L) (N := N1) (h := h) (M := M4) (C := C) (l := l) (w := w) (m := m) hh l5 hC.1 l1 l2 (by rw [mo4 209 38 (by omega) (by omega) (by omega) (by omega) (by omega) (by omega), h38]) hm8 l10 a3 l11 (by rw [l17 209 45 (by omega) (by omega) (by omega) (by omega), mb 209 (by omega) (by omega), a5]) (fun i hi => by
      rw [l17 224 i (by omega) (by omega) (by omega) (by omega), ← hMb, xu_rne (by decide), b3 i hi, mM 211 _ (by omega) (by omega), hR.2.1]) l8
  have hn6 : n6 = r6 := WY_u e3 f3
  subst hn6
  have ev : (if l < C then n32 l else -1) = (if w = 0 then -1 else n32 l) := by
    by_cases z : w = 0
    · rw [if_pos z, if_neg (by have := l11 z; omega)]
    · rw [if_neg z, if_pos (l12 z)]
  have q1 : ¬ n32 C = -1 := n32_ne1 (by omega)
  refine ⟨if w = 0 then -1 else n32 l, K6, J4, M6, N1, ?_, ?_, if h = 0 then S else S', e2, f2, ?_, fun k hk => ?_, ?_, ?_, Or.inl ⟨fun k hk => ?_, f8⟩, ?_, ?_, ?_, fun o k z1 z2 z3 z4 z5 z6 z7 z8 z9 => ?_, fun o k z1 z2 => ?_, fun o k z1 z2 z3 z4 z5 z6 => ?_, fun o k z => by rw [a10.2.1 o z]⟩
  · rw [a1, xcI_some, ekX11_book_1_6, c_close (d := d + 38), xcV_some, ekX11_book_1_9, if_neg q1, hK2, bX11_book_2, c_mark (d := d + 38), xcV_some, ekX11_book_2_4, live, xcI_some, e1, ev]
  · rw [a2, bX12_book_5, b1, xcV_some, ekX12_book_5_3, hMb]
    exact l7.trans f1
  · by_cases z : h = 0
    · rw [if_pos z]; exact hZ
    · rw [if_neg z]; exact l3
  · by_cases z : h = 0
    · rw [if_pos z]
    · rw [if_neg z]; exact l2 k hk
  · by_cases z : h = 0
    · rw [if_pos z]
    · rw [if_neg z]; exact l1.2.1
  · rcases e9 with ⟨g1, g2⟩ | ⟨g1, g2, g3⟩
    · refine Or.inl ⟨?_, fun o k z1 z2 => by rw [g2 o k z1 z2, h79a o k z1 z2], ?_⟩
      · by_cases z : h = 0
        · rw [if_pos z]
        · rw [if_neg z]
          rcases g1 with y | y
          · exact absurd y z
          · exact l13 y
      · rcases f10 with ⟨_, p1, p2⟩ | ⟨p1, p2, _⟩
        · refine ⟨?_, ?_⟩
          · rw [p1]
            exact funext fun k => mo4 222 k (by omega) (by omega) (by omega) (by omega) (by omega) (by omega)
          · rw [p2, mo4 209 38 (by omega) (by omega) (by omega) (by omega) (by omega) (by omega)]
        · rcases g1 with y | y
          · exact absurd y p1
          · exact absurd y p2
    · rcases f10 with ⟨p1, _⟩ | ⟨_, _, p3⟩
      · rcases p1 with y | y
        · exact absurd y g1
        · exact absurd y g2
      · refine Or.inr ⟨by rw [if_neg g1]; exact l1, CK_i g3 (fun q k z1 z2 => h79a q k (by omega) (by omega)), ?_⟩
        have e222 : M4 222 = M 222 := funext fun k => mo4 222 k (by omega) (by omega) (by omega) (by omega) (by omega) (by omega)
        unfold RK at p3 ⊢
        rw [← e222]
        exact p3
  · have : k = 0 ∨ k = 1 ∨ k = 2 ∨ k = 3 := by omega
    rcases this with rfl | rfl | rfl | rfl
    · rw [e4, f4]
    · rw [e5, f5]
    · rw [e6, f6]
    · rw [e7, f7]
  · rw [e8 1 1 (by omega) (by omega) (by omega) (by omega) (by omega), k5 1 (by omega), l15 1 1 (by omega) (by omega), mrk_ne (by decide), k11]
  · rw [f9 209 2 (by omega) (by omega) (by omega) (by omega), l17 209 2 (by omega) (by omega) (by omega) (by omega), mb 209 (by omega) (by omega), a8]
  · rw [e8 0 16 (by omega) (by omega) (by omega) (by omega) (by omega), k5 0 (by omega), l15 0 16 (by omega) (by omega), mrk_ne (by decide), k16, a7, f9 209 16 (by omega) (by omega) (by omega) (by omega), l17 209 16 (by omega) (by omega) (by omega) (by omega), mb 209 (by omega) (by omega)]
  · rw [e8 o k z4 z5 z6 (by omega) z8, kM o k z1 z2 z5 z4 (by omega) z9, a9.1 o z3 (by omega) (by omega)]
  · rw [l16 o k z2, a9.2.2 o z1]
  · rw [f9 o k z1 z3 z5 (by omega), mo4 o k z1 z2 (by omega) z4 z5 (by omega)]
theorem s_book (x : Int32) : stp 143 253 [.int x] := by
  intro d e L I J h
  obtain ⟨hC, hR, hNZ, ⟨m, o, hH⟩, hNB, ⟨n, t1, t2, t3, t4⟩, hse, him, hg, ⟨c1, c2, c3⟩, hd, hres⟩ := id h
  have hw := hC.1.1
  have h8 := wf_V8 hw
  have h20 := wf_B hw
  by_cases hx : x = 0 ∨ x = 1
  rotate_left
  · have z0 : ¬ x = 0 := fun z => hx (Or.inl z)
    have z1 : ¬ x = 1 := fun z => hx (Or.inr z)
    refine RR_eq ((aX11_book _ e L I J _).trans (bX11_book_0 _ e L I J _)) ?_
    rw [if_neg z0, if_neg z1]
    refine RR_I ?_
    refine RR_eq ((aX12_book _ e L I J _).trans (bX12_book_0 _ e L I J _)) ?_
    have q : (if x < 0 then (0 : Int32) else if x ≤ 1 then 1 else 0) = 0 := by
      by_cases y : x < 0
      · rw [if_pos y]
      · rw [if_neg y]
        by_cases w : x ≤ 1
        · exfalso
          rw [n32_of y] at z0 z1 w
          have hc := clamp_lt x
          have w' := (n32_le (b := 1) hc (by omega)).mp w
          have : x.toNatClampNeg = 0 ∨ x.toNatClampNeg = 1 := by omega
          rcases this with v | v
          · rw [v] at z0; exact z0 rfl
          · rw [v] at z1; exact z1 rfl
        · rw [if_neg w]
    rw [sX12_isIn (d + 38), xcI_some, ekX12_book_0_6, q, if_pos i00]
    exact RR_I ⟨rfl, Inv_0 h⟩
  have : ∃ k, k ≤ 1 ∧ x = n32 k := by
    rcases hx with z | z
    · exact ⟨0, by omega, z⟩
    · exact ⟨1, by omega, z⟩
  obtain ⟨k, hk, rfl⟩ := this
  have eS := hR.2.1
  have nm : ∀ {M : TI} {N : TJ}, M 211 = I 211 → N 215 = J 215 → N 216 = J 216 → Nm (sV (I 211)) (sB (I 211)) I J M N := fun {M N} y1 y2 y3 => by
    unfold Nm
    rw [y1, y2, y3]
    refine ⟨h8, h20, t7_V hC.2.1 hw, t7_B hC.2.1 hw, wf_1 hw, wf_2 hw, fun v hv => ?_, fun b hb => ?_, hres⟩
    · rw [t7_vn hC.2.1 hv]; exact if_pos (by omega)
    · rw [t7_bn hC.2.1 hb]; exact if_pos (by omega)
  obtain ⟨v, K, J1, _, _, a1, _, S1, a2, a3, a4, a5, a6, a7, a8, a9, a10, a11, a12, a13, a14, a15⟩ := lk_book (d := d) (e := e) (L := L) (h := k) (n := n) (I := I) (J := J) (M := I) (N := J) (m := m) (o := o) hk t1 t2 t4 t3 hC hR hNZ (nm rfl rfl rfl) hH.2.2.1 hH.2.2.2.1 hH.1 hH.2.1 hH.2.2.2.2.1
  refine RR_eq a1 (RR_I ?_)
  have k9 : ∀ o q, 209 ≤ o → K o q = I o q := fun o q z => a12 o q (by omega) (by omega) (by omega) (by omega) (by omega) (by omega) (by omega) (by omega) (by omega)
  have j9 : ∀ o, 209 ≤ o → J1 o = J o := fun o z => funext fun q => a13 o q (by omega) (by omega)
  obtain ⟨v', K', J1', M, N, b1, b2, S2, b3, b4, b5, b6, b7, b8, b9, b10, b11, b12, b13, b14, b15, b16⟩ := lk_book (d := d) (e := e) (L := L) (h := k) (n := n) (I := I) (J := J) (M := K) (N := J1) (m := m) (o := o) hk t1 t2 (fun i hi => by rw [k9 210 i (by omega)]; exact t4 i hi) (by rw [k9 209 2 (by omega), t3]) hC (RS_cf (fun q k z => k9 q k z) hR) hNZ (nm (funext fun q => k9 211 q (by omega)) (j9 215 (by omega)) (j9 216 (by omega))) hH.2.2.1 hH.2.2.2.1 hH.1 hH.2.1 (by rw [k9 209 38 (by omega)]; exact hH.2.2.2.2.1)
  rw [a1] at b1
  obtain ⟨z1, rfl, rfl⟩ := xst_i b1
  injection z1 with z1
  injection z1 with z1
  refine RR_eq b2 (RR_I ⟨z1, ?_⟩)
  have mK : ∀ o q, o < 209 → M o q = K o q := fun o q z => b15 o q (by omega) (by omega) (by omega) (by omega) (by omega) (by omega)
  have mI : ∀ o q, 209 ≤ o → o ≠ 211 → o ≠ 214 → ¬ (217 ≤ o ∧ o < 223) → o ≠ 224 → o ≠ 226 → (o ≠ 209 ∨ ¬ (q = 0 ∨ (2 ≤ q ∧ q ≤ 5) ∨ (12 ≤ q ∧ q ≤ 17) ∨ q = 19 ∨ (26 ≤ q ∧ q ≤ 34) ∨ q = 38 ∨ q = 45 ∨ q = 47)) → M o q = I o q := fun o q z0 z1 z2 z3 z4 z5 z6 => by rw [b15 o q z1 z2 z3 z4 z5 z6, k9 o q z0]
  have mC : ∀ o q, o < 209 → ¬ (o = 0 ∧ q = 16) → ¬ (o = 1 ∧ q = 1) → o ≠ 5 → ¬ (o = 6 ∧ q = 3) → ¬ (7 ≤ o ∧ o < 42) → ¬ (47 ≤ o ∧ o < 71) → ¬ (72 ≤ o ∧ o < 78) → ¬ (79 ≤ o ∧ o < 89) → o ≠ 208 → M o q = I o q := fun o q z y1 y2 y3 y4 y5 y6 y7 y8 y9 => by rw [mK o q z, b13 o q y1 y2 y3 y4 y5 y6 y7 y8 y9]
  have nJ : ∀ o q, o ≠ 5 → o ≠ 10 → o ≠ 209 → N o q = J o q := fun o q z1 z2 z3 => by rw [b16 o q z3, b14 o q z1 z2]
  have eN : nmN N = nmN J := by
    funext q
    unfold nmN
    by_cases z : q < 28
    · rw [if_pos z, if_pos z, nJ 215 q (by omega) (by omega) (by omega)]
    · rw [if_neg z, if_neg z]
  have hCM : CS S2 (nmN J) M N := CS_g (fun o q z1 z2 z3 => mK o q (by omega)) (fun o q z1 z2 => b16 o q (by omega)) b3
  unfold Inv
  rw [b4.2.1, eN]
  refine ⟨hCM, b4, b5, ?_, Rest_m (I := I) (J := J) (fun o q z => ?_) (fun o q z => ?_) b6 b7 (fun _ _ => rfl) h8 ⟨0, by omega, ?_, b11, fun i hi => absurd hi (Nat.not_lt_zero i)⟩ (Tag_c (mC _ _ (by omega) (by omega) (by omega) (by omega) (by omega) (by omega) (by omega) (by omega) (by omega) (by omega)) (mI _ _ (by omega) (by omega) (by omega) (by omega) (by omega) (by omega) (by omega)) (funext fun q => mC _ _ (by omega) (by omega) (by omega) (by omega) (by omega) (by omega) (by omega) (by omega) (by omega) (by omega)) (funext fun q => mI _ _ (by omega) (by omega) (by omega) (by omega) (by omega) (by omega) (by omega)) hg) ⟨?_, ?_, ?_⟩ ?_ h.2.2.2.2⟩
  · rcases b8 with ⟨rfl, p1, p2, p3⟩ | ⟨p1, p2, p3⟩
    · refine ⟨m, o, HM_c (I := I) (fun q hq => ?_) ?_ ?_ (fun i q hi => ?_) hH⟩
      · rw [mK 79 q (by omega), p1 79 q (by omega) (by omega)]
      · rw [p3, k9 209 38 (by omega)]
      · rw [p2]
        exact funext fun q => k9 222 q (by omega)
      · rw [mK _ q (by omega), p1 _ q (by omega) (by omega)]
    · refine Hst_push hH hC.1 hNZ p1 (CK_c p2 (fun q y z1 z2 => mK q y (by omega))) ?_
      have e222 : K 222 = I 222 := funext fun q => k9 222 q (by omega)
      unfold RK at p3
      rw [e222] at p3
      exact p3
  · unfold wI at z
    by_cases y : o < 209
    · exact mC o q y (by omega) (by omega) (by omega) (by omega) (by omega) (by omega) (by omega) (by omega) (by omega)
    · exact mI o q (by omega) (by omega) (by omega) (by omega) (by omega) (by omega) (by omega)
  · unfold vJ at z
    exact nJ o q (by omega) (by omega) (by omega)
  · rw [mK 1 1 (by omega), b10]; rfl
  · rw [mC 71 0 (by omega) (by omega) (by omega) (by omega) (by omega) (by omega) (by omega) (by omega) (by omega) (by omega), mI 209 40 (by omega) (by omega) (by omega) (by omega) (by omega) (by omega) (by omega), c1]
  · rw [mC 71 1 (by omega) (by omega) (by omega) (by omega) (by omega) (by omega) (by omega) (by omega) (by omega) (by omega), mI 209 41 (by omega) (by omega) (by omega) (by omega) (by omega) (by omega) (by omega), c2]
  · rw [mK 0 16 (by omega), b12]
  · rcases b9 with ⟨p1, p2⟩ | ⟨p1, p2, p3⟩
    · refine ⟨fun z => absurd z (by rw [p2]; decide), fun _ q hq => ?_⟩
      rw [mK 73 q (by omega), p1 q hq]
    · refine Told_c (I := I) (by rw [p3, k9 209 47 (by omega)]) (funext fun q => by rw [mK 73 q (by omega), p1]) (by rw [p2]; exact funext fun q => k9 226 q (by omega)) hd
end BKM
