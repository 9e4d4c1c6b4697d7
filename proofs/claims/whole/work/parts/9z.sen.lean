/-! The call sentence. -/
section SNC
variable {d d' e L : Nat} {I K K2 M M' M2 : TI} {J J' J2 N N' N2 : TJ}
theorem s_sentence : stp 145 261 [] := by
  intro d e L I J h
  obtain ⟨hC, hR, hNZ, hH, hNB, ⟨n, t1, t2, t3, t4⟩, hse, him, hg, ⟨c1, c2, c3⟩, hd, hres⟩ := id h
  have hw := hC.1.1
  have h8 := wf_V8 hw
  have h20 := wf_B hw
  have nm : ∀ {M : TI} {N : TJ}, M 211 = I 211 → N 215 = J 215 → N 216 = J 216 → Nm (sV (I 211)) (sB (I 211)) I J M N := fun {M N} y1 y2 y3 => by
    unfold Nm
    rw [y1, y2, y3]
    refine ⟨h8, h20, t7_V hC.2.1 hw, t7_B hC.2.1 hw, wf_1 hw, wf_2 hw, fun v hv => ?_, fun b hb => ?_, hres⟩
    · rw [t7_vn hC.2.1 hv]; exact if_pos (by omega)
    · rw [t7_bn hC.2.1 hb]; exact if_pos (by omega)
  refine RR_eq ((aX11_sentence _ e L I J).trans (bX11_sentence_0 _ e L I J)) ?_
  rcases lk_sen (f := d + 13) (g := d + 33) (e := e) (L := L) (n := n) (I := I) (J := J) (M := I) (N := J) t1 t2 t4 t3 (nm rfl rfl rfl) with ⟨K, J1, _, _, P, on, a1, _, _, _, _, _, _, a8, a9, _, _, _, _, a5, _⟩ | ⟨K, J1, _, _, a1, _, _, _, a5, _⟩
  rotate_left
  · -- a fault
    have kc : ∀ o q, ¬ (o = 1 ∧ q = 1) → ¬ (o = 0 ∧ q = 16) → o ≠ 5 → ¬ (119 ≤ o ∧ o < 123) → (xu (xu K 1 1 0) 0 16 (K 5 2)) o q = I o q := fun o q z1 z2 z3 z4 => by
      rw [← a5.1 o z3 z4]
      by_cases y : o = 0
      · subst y
        rw [xu_kne (by omega), xu_rne (by decide)]
      · rw [xu_rne y]
        by_cases w : o = 1
        · subst w
          rw [xu_kne (by omega)]
        · rw [xu_rne w]
    have k5 : ∀ q, (xu (xu K 1 1 0) 0 16 (K 5 2)) 5 q = K 5 q := fun q => by rw [xu_rne (by decide), xu_rne (by decide)]
    have k9 : ∀ o q, 209 ≤ o → (xu (xu K 1 1 0) 0 16 (K 5 2)) o q = I o q := fun o q z => kc o q (by omega) (by omega) (by omega) (by omega)
    rw [a1, xcI_some, ekX11_sentence_0_6, c_close, xcV_some, ekX11_sentence_0_9, if_pos im1, k5]
    refine RR_I ?_
    rcases lk_sen (f := d + 13) (g := d + 33) (e := e) (L := L) (n := n) (I := I) (J := J) (M := xu (xu K 1 1 0) 0 16 (K 5 2)) (N := J1) t1 t2 (fun i hi => by rw [k9 210 i (by omega)]; exact t4 i hi) (by rw [k9 209 2 (by omega), t3]) (nm (funext fun q => k9 211 q (by omega)) (a5.2 215 (by omega)) (a5.2 216 (by omega))) with ⟨K', J1', M', N', P', on', b1, _, _, _, _, _, _, _, b9, _⟩ | ⟨K', J1', M', N', b1, b2, b3, b4, b5, b6⟩
    · rw [a1] at b1
      have := (xst_i b1).1
      injection this with this
      injection this with this
      exact absurd this.symm (n32_ne1 (by omega))
    · rw [a1] at b1
      obtain ⟨_, rfl, rfl⟩ := xst_i b1
      refine RR_eq b2 (RR_I ⟨by rw [b4.2], ?_⟩)
      have mI : ∀ o q, o ≠ 209 → o ≠ 213 → o ≠ 227 → ¬ (o = 1 ∧ q = 1) → ¬ (o = 0 ∧ q = 16) → o ≠ 5 → ¬ (119 ≤ o ∧ o < 123) → M' o q = I o q := fun o q z1 z2 z3 z4 z5 z6 z7 => by rw [b6.1 o z1 z2 z3, kc o q z4 z5 z6 z7]
      have m9 : ∀ q, ¬ (q = 0 ∨ (2 ≤ q ∧ q ≤ 5) ∨ (12 ≤ q ∧ q ≤ 17) ∨ q = 19 ∨ (49 ≤ q ∧ q ≤ 53)) → M' 209 q = I 209 q := fun q z => by rw [b6.2.2 q z, k9 209 q (by omega)]
      have nJ : ∀ o q, o ≠ 209 → o ≠ 5 → N' o q = J o q := fun o q z1 z3 => by rw [b6.2.1 o z1, a5.2 o z3]
      refine Inv_g h (fun o q z => ?_) (fun o q z => ?_) ?_ ⟨0, by omega, ?_, by rw [b3]; rfl, fun i hi => absurd hi (Nat.not_lt_zero i)⟩ (Tag_c (mI _ _ (by omega) (by omega) (by omega) (by omega) (by omega) (by omega) (by omega)) (m9 _ (by omega)) (funext fun q => mI _ _ (by omega) (by omega) (by omega) (by omega) (by omega) (by omega) (by omega)) (funext fun q => mI _ _ (by omega) (by omega) (by omega) (by omega) (by omega) (by omega) (by omega)) hg) ⟨?_, ?_, ?_⟩ (Told_c (m9 _ (by omega)) (funext fun q => mI _ _ (by omega) (by omega) (by omega) (by omega) (by omega) (by omega) (by omega)) (funext fun q => mI _ _ (by omega) (by omega) (by omega) (by omega) (by omega) (by omega) (by omega)) hd)
      · by_cases y : o = 209
        · subst y
          unfold gI at z
          exact m9 q (by omega)
        · unfold gI at z
          exact mI o q y (by omega) (by omega) (by omega) (by omega) (by omega) (by omega)
      · unfold gJ vJ at z
        exact nJ o q (by omega) (by omega)
      · funext k
        unfold nmN
        by_cases z : k < 28
        · rw [if_pos z, if_pos z, nJ 215 k (by omega) (by omega)]
        · rw [if_neg z, if_neg z]
      · rw [b6.1 1 (by omega) (by omega) (by omega), xu_rne (by decide), xu_ee]; rfl
      · rw [mI 71 0 (by omega) (by omega) (by omega) (by omega) (by omega) (by omega) (by omega), m9 40 (by omega), c1]
      · rw [mI 71 1 (by omega) (by omega) (by omega) (by omega) (by omega) (by omega) (by omega), m9 41 (by omega), c2]
      · rw [b6.1 0 (by omega) (by omega) (by omega), xu_ee, b4.1]
  · -- no fault
    generalize hKb : xu (xu K 1 1 0) 0 16 (K 5 2) = Kb
    have kb : ∀ o q, ¬ (o = 1 ∧ q = 1) → ¬ (o = 0 ∧ q = 16) → Kb o q = K o q := fun o q z1 z2 => by
      rw [← hKb]
      by_cases y : o = 0
      · subst y
        rw [xu_kne (by omega), xu_rne (by decide)]
      · rw [xu_rne y]
        by_cases w : o = 1
        · subst w
          rw [xu_kne (by omega)]
        · rw [xu_rne w]
    obtain ⟨_, r1, Ka, Ja, r2, r3, r4⟩ := c_cpE_42_119 (d := d + 38) (e := e) (L := L) (I := Kb) (J := J1)
    subst r2
    subst Ja
    rw [a1, xcI_some, ekX11_sentence_0_6, c_close, xcV_some, ekX11_sentence_0_9, if_neg (n32_ne1 (by omega)), hKb, bX11_sentence_1, r1, xcV_some, ekX11_sentence_1_5]
    refine RR_I ?_
    have ka : ∀ o q, ¬ (o = 1 ∧ q = 1) → ¬ (o = 0 ∧ q = 16) → o ≠ 5 → ¬ (42 ≤ o ∧ o < 46) → ¬ (119 ≤ o ∧ o < 123) → Ka o q = I o q := fun o q z1 z2 z3 z4 z5 => by rw [r4.2.2 o (by omega), kb o q z1 z2, a5.1 o z3 z5]
    have k9 : ∀ o q, 209 ≤ o → Ka o q = I o q := fun o q z => ka o q (by omega) (by omega) (by omega) (by omega) (by omega)
    rcases lk_sen (f := d + 13) (g := d + 33) (e := e) (L := L) (n := n) (I := I) (J := J) (M := Ka) (N := J1) t1 t2 (fun i hi => by rw [k9 210 i (by omega)]; exact t4 i hi) (by rw [k9 209 2 (by omega), t3]) (nm (funext fun q => k9 211 q (by omega)) (a5.2 215 (by omega)) (a5.2 216 (by omega))) with ⟨K', J1', M', N', P', on', b1, b2, b3, b4, b5, b6, b7, b8, b9, b10, b11, b12, b13, b14, b15⟩ | ⟨K', J1', M', N', b1, _⟩
    rotate_left
    · rw [a1] at b1
      have := (xst_i b1).1
      injection this with this
      injection this with this
      exact absurd this (n32_ne1 (by omega))
    rw [a1] at b1
    obtain ⟨z1, rfl, rfl⟩ := xst_i b1
    injection z1 with z1
    injection z1 with z1
    have h49 : (xu M' 211 224 (M' 209 49)) 209 49 = n32 P'.length := by rw [xu_rne (by decide), b4.1]
    obtain ⟨M2, f1, f2, f3⟩ := r_codes (e := e) (L := L) (N := N') (cf := xcall xprog (d + 33 + 6)) (l := P'.length) h49 b7 (3 * P'.length) 0 (xu M' 211 224 (M' 209 49)) (by omega) h49
    have ev : (xu M' 211 224 (M' 209 49)) 209 50 = n32 on := by rw [xu_rne (by decide), b11, z1]
    rw [ev] at f1
    refine RR_eq (b2.trans ((bX12_sentence_6 _ e L M' N').trans f1)) (RR_I ⟨rfl, ?_⟩)
    have mo : ∀ o, o ≠ 211 → M2 o = M' o := fun o z => by rw [f2 o z, xu_rne z]
    have m224 : M2 211 224 = n32 P'.length := by rw [f3 224, if_neg (by omega), xu_ee, b4.1]
    have mS : ∀ k, k < 224 → M2 211 k = I 211 k := fun k hk => by rw [f3 k, if_neg (by omega), xu_kne (by omega), b15.1 211 (by omega) (by omega) (by omega), k9 211 k (by omega)]
    have mC : ∀ i, i < 3 * P'.length → M2 211 (225 + i) = M' 213 i := fun i hi => by rw [f3 (225 + i), if_pos (by omega), xu_rne (by decide), Nat.add_sub_cancel_left]
    have m2 : ∀ o q, o ≠ 209 → o ≠ 211 → o ≠ 213 → o ≠ 227 → M2 o q = Ka o q := fun o q y1 y2 y3 y4 => by rw [mo o y2, b15.1 o y1 y3 y4]
    refine sen_inv h mS ⟨0, by omega, ?_, ?_, fun i hi => absurd hi (Nat.not_lt_zero i)⟩ (Se_of b5 b7 b6 m224 (fun i hi => ?_) ?_ ?_ (fun i hi => ?_)) ?_ (fun o q y1 y2 y3 y4 y5 y6 y7 y8 y9 => ?_) (fun o q y1 y2 => ?_)
    · rw [m2 1 1 (by omega) (by omega) (by omega) (by omega), r4.2.2 1 (by omega), ← hKb, xu_rne (by decide), xu_ee]; rfl
    · rw [mo 209 (by omega), b12]; rfl
    · obtain ⟨g1, g2, g3⟩ := b4.2 i hi
      refine ⟨?_, ?_, ?_⟩
      · rw [mC (3 * i) (by omega), g1]
      · rw [show 226 + 3 * i = 225 + (3 * i + 1) by omega, mC (3 * i + 1) (by omega), g2]
      · rw [show 227 + 3 * i = 225 + (3 * i + 2) by omega, mC (3 * i + 2) (by omega), g3]
    · rw [m2 42 1 (by omega) (by omega) (by omega) (by omega), r4.1 1 (by omega), kb 119 1 (by omega) (by omega), b3.1]
    · rw [m2 42 0 (by omega) (by omega) (by omega) (by omega), r4.1 0 (by omega), kb 119 0 (by omega) (by omega), b10]
      exact fun y => absurd ((n32_inj (b := 0) (by omega) (by omega)).mp y) (by omega)
    · obtain ⟨g1, g2, g3⟩ := b3.2 i hi
      refine ⟨?_, ?_, ?_⟩
      · rw [m2 (42 + 1) i (by omega) (by omega) (by omega) (by omega), r4.2.1 1 i (by omega) (by omega) (by omega), kb (119 + 1) i (by omega) (by omega), g1]
      · rw [m2 (42 + 2) i (by omega) (by omega) (by omega) (by omega), r4.2.1 2 i (by omega) (by omega) (by omega), kb (119 + 2) i (by omega) (by omega), g2]
      · rw [m2 (42 + 3) i (by omega) (by omega) (by omega) (by omega), r4.2.1 3 i (by omega) (by omega) (by omega), kb (119 + 3) i (by omega) (by omega), g3]
    · rw [m2 0 16 (by omega) (by omega) (by omega) (by omega), r4.2.2 0 (by omega), ← hKb, xu_ee, b13, mo 209 (by omega)]
    · by_cases y : o = 209
      · subst y
        rw [mo 209 (by omega), b15.2.2 q (by omega), k9 209 q (by omega)]
      · rw [m2 o q y y7 y8 y9]
        exact ka o q (by omega) y1 y3 y4 y5
    · rw [b15.2.1 o y2, a5.2 o y1]
end SNC
