/-! The class: the way, and all at once. -/
section REF
variable {d e L : Nat} {S : TS} {N : Nat → Int64} {I : TI} {J : TJ} {a b s t v k i : Nat}
theorem c_followHeft (hT : Tr 7 S N I J) (hw : wfT S) (hh : ∀ x, x < sB S → I 49 x = hft S x) (hb : I 47 6 = bsI S) : RR (xcall xprog (d + 2) 52 [.ref 47] (xst e L I J)) (zV e L fun K J' => J' = J ∧ (∀ o k, o ≠ 48 → (o ≠ 47 ∨ ¬ (k = 7 ∨ k = 8)) → K o k = I o k) ∧ ∃ n, WY S n ∧ K 47 7 = n32 n ∧ (∀ k, k < n → K 48 k = wy S k) ∧ ∀ x, x < 32 → bt (K 47 8) x = exN (fun k => decide (wy S k = n32 x)) n) := by
  have h20 := wf_B hw
  refine RR_eq ((aX4_followHeft _ e L I J).trans (bX4_followHeft_0 _ e L I J)) ?_
  rw [hb]
  have key := xforx (fun i K => xlim (xcall xprog (d + 1)) mX4_followHeft 1 [.ref 47, .int (wy S i), .int (n32 i)] [] (xst e L K J))
    (fun i K => (∀ o k, o ≠ 48 → (o ≠ 47 ∨ ¬ (k = 7 ∨ k = 8)) → K o k = I o k) ∧ (∀ k, k < i → wy S k ≠ -1 ∧ K 48 k = wy S k) ∧ K 47 7 = n32 i ∧ ∀ x, x < 32 → bt (K 47 8) x = exN (fun k => decide (wy S k = n32 x)) i)
    (fun r => RR r (zV e L fun K J' => J' = J ∧ (∀ o k, o ≠ 48 → (o ≠ 47 ∨ ¬ (k = 7 ∨ k = 8)) → K o k = I o k) ∧ ∃ n, WY S n ∧ K 47 7 = n32 n ∧ (∀ k, k < n → K 48 k = wy S k) ∧ ∀ x, x < 32 → bt (K 47 8) x = exN (fun k => decide (wy S k = n32 x)) n)) (n := 20) (fun i K hi ⟨g1, g2, g3, g4⟩ => by
      have e0 := bX4_followHeft_1 (xcall xprog (d + 1)) e L K J (wy S i) (n32 i)
      rcases wy_or hw i with q | ⟨y, y1, y2, y3⟩
      · right
        refine RR_eq e0 ?_
        simp (disch := omega) only [n32_ltE, n32_leE, n32_eqE, n32_eqm, m1_eqn, n32_ge0, n32_lt0, n32_nat, n32_succ, n32_add, xin_n32, xin_b1, xin_b2, cond_true, cond_false, if_true, if_false, xcI_some, xcV_some, xcJ_some, xcR_some, xu_ee, xu_rne, xu_kne, ite_self, not_true_eq_false, not_false_eq_true, ne_eq, true_and, and_true, false_and, and_false, m1_lt0, m1_eq0, eq_self, Bool.false_eq_true, reduceCtorEq, z_lt0, i1_eq0, i0_eq1, i1_eq1, xrZ0, xrZ1, xrZt, n32_eq0, n32_eq1, n32_gt0, n32_gt1, n32_lt1, n32_le1, n32_0le, tf0, tf1, xaI_of, q20a, q20b, q20m, q20l, q20g, q20r, q20s, q20e, hi, q, bX4_followHeft_0, ekX4_followHeft_1_26, bX4_followHeft_2]
        exact RR_V ⟨rfl, g1, i, ⟨by omega, fun k hk => (g2 k hk).1, q⟩, g3, fun k hk => (g2 k hk).2, g4⟩
      · left
        have hT2 : Tr 7 S N (xu (xu (xu K 48 i (wy S i)) 47 7 (n32 (i + 1))) 47 8 (K 47 8 ||| (1 <<< (wy S i &&& 31)))) J := Tr_c (fun o k q1 q2 => by
          rw [xu_rne (by omega), xu_rne (by omega), xu_rne (by omega)]
          exact g1 o k (by omega) (Or.inl (by omega))) hw hT
        have hh2 : ∀ x, x < sB S → (xu (xu (xu K 48 i (wy S i)) 47 7 (n32 (i + 1))) 47 8 (K 47 8 ||| (1 <<< (wy S i &&& 31)))) 49 x = hft S x := fun x hx => by
          rw [xu_rne (by decide), xu_rne (by decide), xu_rne (by decide), g1 49 x (by decide) (Or.inl (by decide))]
          exact hh x hx
        have ec := c_heaviestOn (d := d) (e := e) (L := L) hT2 hw hh2 y1
        have ew : wy S (i + 1) = bon S y (sB S) := by
          show (if wy S i = -1 then -1 else bon S (wy S i).toNatClampNeg (sB S)) = _
          rw [if_neg (by rw [y3]; exact n32_ne1 (by omega)), y3, n32_nat (by omega)]
        rw [y3] at ec
        refine ⟨xu (xu (xu K 48 i (n32 y)) 47 7 (n32 (i + 1))) 47 8 (K 47 8 ||| (1 <<< (n32 y &&& 31))), e0.trans ?_, ?_, ?_, ?_, ?_⟩
        · rw [ew]
          simp (disch := omega) only [n32_ltE, n32_leE, n32_eqE, n32_eqm, m1_eqn, n32_ge0, n32_lt0, n32_nat, n32_succ, n32_add, xin_n32, xin_b1, xin_b2, cond_true, cond_false, if_true, if_false, xcI_some, xcV_some, xcJ_some, xcR_some, xu_ee, xu_rne, xu_kne, ite_self, not_true_eq_false, not_false_eq_true, ne_eq, true_and, and_true, false_and, and_false, m1_lt0, m1_eq0, eq_self, Bool.false_eq_true, reduceCtorEq, z_lt0, i1_eq0, i0_eq1, i1_eq1, xrZ0, xrZ1, xrZt, n32_eq0, n32_eq1, n32_gt0, n32_gt1, n32_lt1, n32_le1, n32_0le, tf0, tf1, xaI_of, q20a, q20b, q20m, q20l, q20g, q20r, q20s, q20e, hi, y3, ec, bX4_followHeft_0, ekX4_followHeft_1_26, bX4_followHeft_2]
        · intro o k z1 z2
          rw [← g1 o k z1 z2]
          by_cases z : o = 47
          · subst z
            rw [xu_kne (by omega), xu_kne (by omega), xu_rne z1]
          · rw [xu_rne z, xu_rne z, xu_rne z1]
        · intro k hk
          rw [xu_rne (by decide), xu_rne (by decide)]
          by_cases z : k = i
          · subst z
            rw [xu_ee, y3]
            exact ⟨n32_ne1 (by omega), rfl⟩
          · rw [xu_kne z]
            exact g2 k (by omega)
        · rw [xu_kne (by decide), xu_ee]
        · intro x hx
          rw [xu_ee, bt_set _ (by omega) hx, g4 x hx, exN_s, y3]
          congr 1
          by_cases z : x = y
          · subst z
            simp
          · have z' : ¬ n32 y = n32 x := fun h => z ((n32_inj (by omega) (by omega)).mp h).symm
            rw [decide_eq_false z, decide_eq_false z']) (xu (xu I 47 7 0) 47 8 0) ⟨fun o k z1 z2 => by
        by_cases z : o = 47
        · subst z
          rw [xu_kne (by omega), xu_kne (by omega)]
        · rw [xu_rne z, xu_rne z], fun k hk => absurd hk (Nat.not_lt_zero k), by
        rw [xu_kne (by decide), xu_ee]
        rfl, fun x hx => by
        rw [xu_ee, bt_zero]
        rfl⟩
  rcases key with ⟨K, h1, h2, h3, h4, h5⟩ | key
  · refine RR_eq h1 (RR_eq (bX4_followHeft_1 _ e L K J _ _) ?_)
    have q : wy S 20 = -1 := by
      rcases wy_or hw 20 with q | ⟨y, y1, y2, y3⟩
      · exact q
      · omega
    simp (disch := omega) only [n32_ltE, n32_leE, n32_eqE, n32_eqm, m1_eqn, n32_ge0, n32_lt0, n32_nat, n32_succ, n32_add, xin_n32, xin_b1, xin_b2, cond_true, cond_false, if_true, if_false, xcI_some, xcV_some, xcJ_some, xcR_some, xu_ee, xu_rne, xu_kne, ite_self, not_true_eq_false, not_false_eq_true, ne_eq, true_and, and_true, false_and, and_false, m1_lt0, m1_eq0, eq_self, Bool.false_eq_true, reduceCtorEq, z_lt0, i1_eq0, i0_eq1, i1_eq1, xrZ0, xrZ1, xrZt, n32_eq0, n32_eq1, n32_gt0, n32_gt1, n32_lt1, n32_le1, n32_0le, tf0, tf1, xaI_of, q20a, q20b, q20m, q20l, q20g, q20r, q20s, q20e, Nat.lt_irrefl, bX4_followHeft_0, ekX4_followHeft_1_26, bX4_followHeft_2]
    exact RR_V ⟨rfl, h2, 20, ⟨Nat.le_refl _, fun k hk => (h3 k hk).1, q⟩, h4, fun k hk => (h3 k hk).2, h5⟩
  · exact key
theorem c_refresh (hT : Tr 7 S N I J) (hw : wfT S) (hA : Ac 37 S I) (hk : wfK S) (hl : wfL S) (hs : I 6 3 = 0 → Fi S I) : RR (xcall xprog (d + 6) 44 [.ref 47] (xst e L I J)) (zV e L fun K J' => J' = J ∧ (∀ o k, ¬ (47 ≤ o ∧ o < 71) → (o ≠ 6 ∨ k ≠ 3) → K o k = I o k) ∧ Fi S K ∧ K 6 3 = 0) := by
  refine RR_eq ((aX4_refresh _ e L I J).trans (bX4_refresh_0 _ e L I J)) ?_
  refine RR_if (fun h => ?_) (fun h => ?_)
  · refine RR_eq (bX4_refresh_1 _ e L I J) (RR_V ⟨rfl, fun _ _ _ _ => rfl, hs h, h⟩)
  have f0 : ∀ o k, ¬ (47 ≤ o ∧ o < 71) → (o ≠ 6 ∨ k ≠ 3) → xu I 6 3 0 o k = I o k := fun o k z1 z2 => by
    by_cases z : o = 6
    · subst z
      rw [xu_kne (by omega)]
    · rw [xu_rne z]
  have tr : ∀ K : TI, (∀ o k, ¬ (47 ≤ o ∧ o < 71) → (o ≠ 6 ∨ k ≠ 3) → K o k = I o k) → Tr 7 S N K J ∧ Ac 37 S K := fun K f => ⟨Tr_c (fun o k q1 q2 => f o k (by omega) (Or.inl (by omega))) hw hT, Ac_c (fun o k q1 q2 => f o k (by omega) (Or.inl (by omega))) hA⟩
  obtain ⟨T0, A0⟩ := tr _ f0
  refine RR_cV (c_findOffenders (d := d + 2) T0 hw A0 hk) (fun I1 J1 ⟨j1, f1, x2, x3⟩ => ?_)
  subst j1
  rw [ekX4_refresh_0_9]
  have g1 : ∀ o k, ¬ (47 ≤ o ∧ o < 71) → (o ≠ 6 ∨ k ≠ 3) → I1 o k = I o k := fun o k z1 z2 => by rw [f1 o k (Or.inl (by omega)), f0 o k z1 z2]
  obtain ⟨T1, A1⟩ := tr _ g1
  have s1 : I1 6 3 = 0 := by rw [f1 6 3 (Or.inl (by decide)), xu_ee]
  refine RR_cV (c_gatherLinks (d := d + 4) hw A1 hk) (fun I2 J2 ⟨j2, f2, x4m, x4⟩ => ?_)
  subst j2
  rw [ekX4_refresh_0_11]
  have g2 : ∀ o k, ¬ (47 ≤ o ∧ o < 71) → (o ≠ 6 ∨ k ≠ 3) → I2 o k = I o k := fun o k z1 z2 => by rw [f2 o k (by omega) (Or.inl (by omega)), g1 o k z1 z2]
  obtain ⟨T2, A2⟩ := tr _ g2
  refine RR_cV (c_judgePoints (d := d) T2 hw hk x4m) (fun I3 J3 ⟨j3, f3, x0, x1, x5⟩ => ?_)
  subst j3
  rw [ekX4_refresh_0_13]
  have g3 : ∀ o k, ¬ (47 ≤ o ∧ o < 71) → (o ≠ 6 ∨ k ≠ 3) → I3 o k = I o k := fun o k z1 z2 => by rw [f3 o k (Or.inl (by omega)), g2 o k z1 z2]
  obtain ⟨T3, A3⟩ := tr _ g3
  refine RR_cV (c_findBase (d := d + 4) T3 hw hk x0) (fun I4 J4 ⟨j4, f4, x6⟩ => ?_)
  subst j4
  rw [ekX4_refresh_0_15]
  have g4 : ∀ o k, ¬ (47 ≤ o ∧ o < 71) → (o ≠ 6 ∨ k ≠ 3) → I4 o k = I o k := fun o k z1 z2 => by rw [f4 o k (Or.inl (by omega)), g3 o k z1 z2]
  obtain ⟨T4, A4⟩ := tr _ g4
  have o4 : I4 47 2 = ofS S := by
    rw [f4 47 2 (Or.inr (by decide)), f3 47 2 (Or.inr (by decide)), f2 47 2 (by omega) (Or.inr (by decide)), x2]
  refine RR_cV (c_weighLooks (d := d + 2) T4 hw A4 hl o4 x6) (fun I5 J5 ⟨j5, f5, x9⟩ => ?_)
  subst j5
  rw [ekX4_refresh_0_17]
  have g5 : ∀ o k, ¬ (47 ≤ o ∧ o < 71) → (o ≠ 6 ∨ k ≠ 3) → I5 o k = I o k := fun o k z1 z2 => by rw [f5 o (by omega), g4 o k z1 z2]
  obtain ⟨T5, A5⟩ := tr _ g5
  refine RR_cV (c_followHeft (d := d + 3) T5 hw x9 (by rw [f5 47 (by decide), x6])) (fun I6 J6 ⟨j6, f6, n, xn, x7, x48, x8⟩ => ?_)
  subst j6
  rw [ekX4_refresh_0_19, bX4_refresh_1]
  have c6 : ∀ k, ¬ (k = 7 ∨ k = 8) → I6 47 k = I4 47 k := fun k z => by rw [f6 47 k (by decide) (Or.inr z), f5 47 (by decide)]
  refine RR_V ⟨rfl, fun o k z1 z2 => by rw [f6 o k (by omega) (Or.inl (by omega)), g5 o k z1 z2], ⟨?_, ?_, ?_, ?_, ?_, ?_, ?_, ?_, ?_, n, xn, x7, x48, x8⟩, ?_⟩
  · rw [c6 0 (by decide), f4 47 0 (Or.inr (by decide)), x0]
  · rw [c6 1 (by decide), f4 47 1 (Or.inr (by decide)), x1]
  · rw [c6 2 (by decide), o4]
  · rw [c6 3 (by decide), f4 47 3 (Or.inr (by decide)), f3 47 3 (Or.inr (by decide)), f2 47 3 (by omega) (Or.inr (by decide)), x3]
  · rw [c6 4 (by decide), f4 47 4 (Or.inr (by decide)), f3 47 4 (Or.inr (by decide)), x4]
  · rw [c6 5 (by decide), f4 47 5 (Or.inr (by decide)), x5]
  · rw [c6 6 (by decide), x6]
  · intro s t z1 z2
    rw [f6 (51 + s) t (by omega) (Or.inl (by omega)), f5 (51 + s) (by omega), f4 (51 + s) t (Or.inl (by omega)), f3 (51 + s) t (Or.inl (by omega)), x4m s t z1 z2]
  · intro b hb
    rw [f6 49 b (by decide) (Or.inl (by decide)), x9 b hb]
  · rw [f6 6 3 (by decide) (Or.inl (by decide)), f5 6 (by decide), f4 6 3 (Or.inl (by decide)), f3 6 3 (Or.inl (by decide)), f2 6 3 (by omega) (Or.inl (by decide)), s1]
end REF
