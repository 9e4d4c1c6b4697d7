/-! The class: base, weights of looks, way. -/
section WAY
variable {d e L : Nat} {S : TS} {N : Nat → Int64} {I : TI} {J : TJ} {a b s t v k i : Nat}
theorem c_findBase (hT : Tr 7 S N I J) (hw : wfT S) (hk : wfK S) (hj : I 47 0 = jS S) : RR (xcall xprog (d + 1) 49 [.ref 47] (xst e L I J)) (zV e L fun K J' => J' = J ∧ (∀ o k, (o ≠ 47 ∨ ¬ k = 6) → K o k = I o k) ∧ K 47 6 = bsI S) := by
  have h20 := wf_B hw
  refine RR_eq ((aX4_findBase _ e L I J).trans (bX4_findBase_0 _ e L I J)) ?_
  obtain ⟨K, h1, h2, h3⟩ := xfor (fun i K => xlim (xcall xprog d) mX4_findBase 1 [.ref 47, .int (n32 i), xD] [] (xst e L K J))
    (fun i K => (∀ o k, (o ≠ 47 ∨ ¬ k = 6) → K o k = I o k) ∧ K 47 6 = if i = 0 then -1 else n32 (bsN S i)) (n := sB S) (fun i K hi ⟨g1, g2⟩ => by
      have hT2 : Tr 7 S N K J := Tr_c (fun o k q1 q2 => g1 o k (Or.inl (by omega))) hw hT
      have hj2 : K 47 0 = jS S := (g1 47 0 (Or.inr (by decide))).trans hj
      have hb : bt (jS S) i = jst S i := by
        unfold jS
        rw [bt_bs _ (by omega) _ (by omega)]
        simp [hi]
      have e0 := bX4_findBase_1 (xcall xprog d) e L K J (n32 i)
      by_cases h0 : i = 0
      · subst h0
        rw [if_pos rfl] at g2
        refine ⟨xu K 47 6 (n32 0), e0.trans ?_, fr47 (P := fun k => k = 6) rfl g1, ?_⟩
        · simp (disch := omega) only [n32_ltE, n32_leE, n32_eqE, n32_eqm, m1_eqn, n32_ge0, n32_lt0, n32_nat, n32_succ, n32_add, xin_n32, xin_b1, xin_b2, cond_true, cond_false, if_true, if_false, xcI_some, xcV_some, xcJ_some, xcR_some, xu_ee, xu_rne, xu_kne, ite_self, not_true_eq_false, not_false_eq_true, ne_eq, true_and, and_true, false_and, and_false, m1_lt0, m1_eq0, eq_self, Bool.false_eq_true, reduceCtorEq, z_lt0, i1_eq0, i0_eq1, i1_eq1, xrZ0, xrZ1, xrZt, n32_eq0, n32_eq1, n32_gt0, n32_gt1, n32_lt1, n32_le1, n32_0le, tf0, tf1, xaI_of, bX4_findBase_0, bX4_findBase_2, bX4_findBase_3, bX4_findBase_4, bX4_findBase_5, bX4_findBase_6, t7_B hT2 hw, hi, hj2, bt_t1, hb, jst_0, g2]
        · rw [xu_ee, if_neg (by omega), bsN_s]
          have : bsN S 0 = 0 := rfl
          by_cases z : jst S 0 = true ∧ lv S (bsN S 0) < lv S 0
          · rw [if_pos z]
          · rw [if_neg z, this]
      · rw [if_neg h0] at g2
        have hlt := bsN_lt (S := S) (n := i) (by omega)
        have hpb := jst_pt hw hk (bsN_j (S := S) (n := i))
        have l1 := lv_20 hw (show bsN S i < sB S by omega)
        have l2 := lv_20 hw hi
        by_cases q1 : jst S i = true
        · have hpi := jst_pt hw hk q1
          by_cases q2 : lv S (bsN S i) < lv S i
          · refine ⟨xu K 47 6 (n32 i), e0.trans ?_, fr47 (P := fun k => k = 6) rfl g1, ?_⟩
            · have q3 : ¬ lv S i ≤ lv S (bsN S i) := by omega
              simp (disch := omega) only [n32_ltE, n32_leE, n32_eqE, n32_eqm, m1_eqn, n32_ge0, n32_lt0, n32_nat, n32_succ, n32_add, xin_n32, xin_b1, xin_b2, cond_true, cond_false, if_true, if_false, xcI_some, xcV_some, xcJ_some, xcR_some, xu_ee, xu_rne, xu_kne, ite_self, not_true_eq_false, not_false_eq_true, ne_eq, true_and, and_true, false_and, and_false, m1_lt0, m1_eq0, eq_self, Bool.false_eq_true, reduceCtorEq, z_lt0, i1_eq0, i0_eq1, i1_eq1, xrZ0, xrZ1, xrZt, n32_eq0, n32_eq1, n32_gt0, n32_gt1, n32_lt1, n32_le1, n32_0le, tf0, tf1, xaI_of, bX4_findBase_0, bX4_findBase_2, bX4_findBase_3, bX4_findBase_4, bX4_findBase_5, bX4_findBase_6, t7_B hT2 hw, hi, hj2, bt_t1, hb, q1, g2, t7_lv hT2 hi, t7_lv hT2 (show bsN S i < sB S by omega), lvc_t hpi, lvc_t hpb, q3]
            · rw [xu_ee, if_neg (by omega), bsN_s, if_pos ⟨q1, q2⟩]
          · refine ⟨K, e0.trans ?_, g1, ?_⟩
            · have q3 : lv S i ≤ lv S (bsN S i) := by omega
              simp (disch := omega) only [n32_ltE, n32_leE, n32_eqE, n32_eqm, m1_eqn, n32_ge0, n32_lt0, n32_nat, n32_succ, n32_add, xin_n32, xin_b1, xin_b2, cond_true, cond_false, if_true, if_false, xcI_some, xcV_some, xcJ_some, xcR_some, xu_ee, xu_rne, xu_kne, ite_self, not_true_eq_false, not_false_eq_true, ne_eq, true_and, and_true, false_and, and_false, m1_lt0, m1_eq0, eq_self, Bool.false_eq_true, reduceCtorEq, z_lt0, i1_eq0, i0_eq1, i1_eq1, xrZ0, xrZ1, xrZt, n32_eq0, n32_eq1, n32_gt0, n32_gt1, n32_lt1, n32_le1, n32_0le, tf0, tf1, xaI_of, bX4_findBase_0, bX4_findBase_2, bX4_findBase_3, bX4_findBase_4, bX4_findBase_5, bX4_findBase_6, t7_B hT2 hw, hi, hj2, bt_t1, hb, q1, g2, t7_lv hT2 hi, t7_lv hT2 (show bsN S i < sB S by omega), lvc_t hpi, lvc_t hpb, q3]
            · rw [g2, if_neg (by omega), bsN_s, if_neg (fun h => q2 h.2)]
        · refine ⟨K, e0.trans ?_, g1, ?_⟩
          · simp (disch := omega) only [n32_ltE, n32_leE, n32_eqE, n32_eqm, m1_eqn, n32_ge0, n32_lt0, n32_nat, n32_succ, n32_add, xin_n32, xin_b1, xin_b2, cond_true, cond_false, if_true, if_false, xcI_some, xcV_some, xcJ_some, xcR_some, xu_ee, xu_rne, xu_kne, ite_self, not_true_eq_false, not_false_eq_true, ne_eq, true_and, and_true, false_and, and_false, m1_lt0, m1_eq0, eq_self, Bool.false_eq_true, reduceCtorEq, z_lt0, i1_eq0, i0_eq1, i1_eq1, xrZ0, xrZ1, xrZt, n32_eq0, n32_eq1, n32_gt0, n32_gt1, n32_lt1, n32_le1, n32_0le, tf0, tf1, xaI_of, bX4_findBase_0, bX4_findBase_2, bX4_findBase_3, bX4_findBase_4, bX4_findBase_5, bX4_findBase_6, t7_B hT2 hw, hi, hj2, bt_t1, hb, q1]
          · rw [g2, if_neg (by omega), bsN_s, if_neg (fun h => q1 h.1)]) (xu I 47 6 (-1)) ⟨fr47 (P := fun k => k = 6) rfl (fun _ _ _ => rfl), xu_ee⟩
  refine RR_eq h1 (RR_eq (bX4_findBase_1 _ e L K J _) ?_)
  have hT2 : Tr 7 S N K J := Tr_c (fun o k q1 q2 => h2 o k (Or.inl (by omega))) hw hT
  simp (disch := omega) only [n32_ltE, n32_leE, n32_eqE, n32_eqm, m1_eqn, n32_ge0, n32_lt0, n32_nat, n32_succ, n32_add, xin_n32, xin_b1, xin_b2, cond_true, cond_false, if_true, if_false, xcI_some, xcV_some, xcJ_some, xcR_some, xu_ee, xu_rne, xu_kne, ite_self, not_true_eq_false, not_false_eq_true, ne_eq, true_and, and_true, false_and, and_false, m1_lt0, m1_eq0, eq_self, Bool.false_eq_true, reduceCtorEq, z_lt0, i1_eq0, i0_eq1, i1_eq1, xrZ0, xrZ1, xrZt, n32_eq0, n32_eq1, n32_gt0, n32_gt1, n32_lt1, n32_le1, n32_0le, tf0, tf1, xaI_of, bX4_findBase_0, bX4_findBase_2, bX4_findBase_3, bX4_findBase_4, bX4_findBase_5, bX4_findBase_6, t7_B hT2 hw, Nat.lt_irrefl]
  exact RR_V ⟨rfl, h2, h3⟩
theorem c_addHeft (hT : Tr 7 S N I J) (hw : wfT S) (hb : b < sB S) {w : Int32} : RR (xcall xprog (d + 2) 51 [.ref 47, .int (n32 b), .int w] (xst e L I J)) (zV e L fun K J' => J' = J ∧ (∀ o, o ≠ 49 → K o = I o) ∧ ∀ x, x < 20 → K 49 x = if (decide (x = b) || anc (par S) x b) = true then I 49 x + w else I 49 x) := by
  have h20 := wf_B hw
  refine RR_eq ((aX4_addHeft _ e L I J _ _).trans (bX4_addHeft_0 _ e L I J _ _)) ?_
  simp (disch := omega) only [n32_ltE, n32_leE, n32_eqE, n32_eqm, m1_eqn, n32_ge0, n32_lt0, n32_nat, n32_succ, n32_add, xin_n32, xin_b1, xin_b2, cond_true, cond_false, if_true, if_false, xcI_some, xcV_some, xcJ_some, xcR_some, xu_ee, xu_rne, xu_kne, ite_self, not_true_eq_false, not_false_eq_true, ne_eq, true_and, and_true, false_and, and_false, m1_lt0, m1_eq0, eq_self, Bool.false_eq_true, reduceCtorEq, z_lt0, i1_eq0, i0_eq1, i1_eq1, xrZ0, xrZ1, xrZt, n32_eq0, n32_eq1, n32_gt0, n32_gt1, n32_lt1, n32_le1, n32_0le, tf0, tf1, xaI_of]
  obtain ⟨K, h1, h2, h3⟩ := xfor (fun i K => xlim (xcall xprog (d + 1)) mX4_addHeft 1 [.ref 47, .int (n32 b), .int w, .int (n32 i)] [] (xst e L K J))
    (fun i K => (∀ o, o ≠ 49 → K o = I o) ∧ ∀ x, x < 20 → K 49 x = if (decide (x = b) || (decide (x < i) && anc (par S) x b)) = true then I 49 x + w else I 49 x) (n := b) (fun i K hi ⟨g1, g2⟩ => by
      have hT2 : Tr 7 S N K J := Tr_c (fun o k q1 q2 => by rw [g1 o (by omega)]) hw hT
      have e0 := bX4_addHeft_1 (xcall xprog (d + 1)) e L K J (n32 b) w (n32 i)
      have gi : K 49 i = I 49 i := by
        rw [g2 i (by omega)]
        simp [show ¬ i = b by omega]
      by_cases q : anc (par S) i b = true
      · refine ⟨xu K 49 i (I 49 i + w), e0.trans ?_, ?_, ?_⟩
        · simp (disch := omega) only [n32_ltE, n32_leE, n32_eqE, n32_eqm, m1_eqn, n32_ge0, n32_lt0, n32_nat, n32_succ, n32_add, xin_n32, xin_b1, xin_b2, cond_true, cond_false, if_true, if_false, xcI_some, xcV_some, xcJ_some, xcR_some, xu_ee, xu_rne, xu_kne, ite_self, not_true_eq_false, not_false_eq_true, ne_eq, true_and, and_true, false_and, and_false, m1_lt0, m1_eq0, eq_self, Bool.false_eq_true, reduceCtorEq, z_lt0, i1_eq0, i0_eq1, i1_eq1, xrZ0, xrZ1, xrZt, n32_eq0, n32_eq1, n32_gt0, n32_gt1, n32_lt1, n32_le1, n32_0le, tf0, tf1, xaI_of, bX4_addHeft_0, ekX4_addHeft_1_7, bX4_addHeft_2, bX4_addHeft_3, hi, c_isAhead hT2 hw (show i < 32 by omega) hb, q, gi]
        · intro o ho
          rw [xu_rne ho, g1 o ho]
        · intro x hx
          by_cases z : x = i
          · subst z
            rw [xu_ee]
            simp [q]
          · rw [xu_kne z, g2 x hx]
            by_cases z2 : x < i
            · simp [z2, show x < i + 1 by omega]
            · simp [z2, show ¬ x < i + 1 by omega]
      · refine ⟨K, e0.trans ?_, g1, ?_⟩
        · simp (disch := omega) only [n32_ltE, n32_leE, n32_eqE, n32_eqm, m1_eqn, n32_ge0, n32_lt0, n32_nat, n32_succ, n32_add, xin_n32, xin_b1, xin_b2, cond_true, cond_false, if_true, if_false, xcI_some, xcV_some, xcJ_some, xcR_some, xu_ee, xu_rne, xu_kne, ite_self, not_true_eq_false, not_false_eq_true, ne_eq, true_and, and_true, false_and, and_false, m1_lt0, m1_eq0, eq_self, Bool.false_eq_true, reduceCtorEq, z_lt0, i1_eq0, i0_eq1, i1_eq1, xrZ0, xrZ1, xrZt, n32_eq0, n32_eq1, n32_gt0, n32_gt1, n32_lt1, n32_le1, n32_0le, tf0, tf1, xaI_of, bX4_addHeft_0, ekX4_addHeft_1_7, bX4_addHeft_2, bX4_addHeft_3, hi, c_isAhead hT2 hw (show i < 32 by omega) hb, q]
        · intro x hx
          rw [g2 x hx]
          by_cases z : x = i
          · subst z
            simp [q]
          · by_cases z2 : x < i
            · simp [z2, show x < i + 1 by omega]
            · simp [z2, show ¬ x < i + 1 by omega]) (xu I 49 b (I 49 b + w)) ⟨fun o ho => by rw [xu_rne ho], fun x hx => by
        by_cases z : x = b
        · subst z
          rw [xu_ee]
          simp
        · rw [xu_kne z]
          simp [z]⟩
  refine RR_eq h1 (RR_eq (bX4_addHeft_1 _ e L K J _ _ _) ?_)
  simp (disch := omega) only [n32_ltE, n32_leE, n32_eqE, n32_eqm, m1_eqn, n32_ge0, n32_lt0, n32_nat, n32_succ, n32_add, xin_n32, xin_b1, xin_b2, cond_true, cond_false, if_true, if_false, xcI_some, xcV_some, xcJ_some, xcR_some, xu_ee, xu_rne, xu_kne, ite_self, not_true_eq_false, not_false_eq_true, ne_eq, true_and, and_true, false_and, and_false, m1_lt0, m1_eq0, eq_self, Bool.false_eq_true, reduceCtorEq, z_lt0, i1_eq0, i0_eq1, i1_eq1, xrZ0, xrZ1, xrZt, n32_eq0, n32_eq1, n32_gt0, n32_gt1, n32_lt1, n32_le1, n32_0le, tf0, tf1, xaI_of, bX4_addHeft_0, ekX4_addHeft_1_7, bX4_addHeft_2, bX4_addHeft_3, Nat.lt_irrefl]
  refine RR_V ⟨rfl, h2, fun x hx => ?_⟩
  rw [h3 x hx]
  by_cases z : anc (par S) x b = true
  · simp [z, anc_lt z]
  · simp [z]
theorem lk_m1 (h : S (216 + v) = n32 b) (hb : b < 2147483648) : lk S v = b := by
  unfold lk
  rw [h, n32_nat hb]
theorem c_weighLooks (hT : Tr 7 S N I J) (hw : wfT S) (hA : Ac 37 S I) (hl : wfL S) (ho : I 47 2 = ofS S) (hb : I 47 6 = bsI S) : RR (xcall xprog (d + 3) 50 [.ref 47] (xst e L I J)) (zV e L fun K J' => J' = J ∧ (∀ o, o ≠ 49 → K o = I o) ∧ ∀ x, x < sB S → K 49 x = hft S x) := by
  have h20 := wf_B hw
  have h8 := wf_V8 hw
  refine RR_eq ((aX4_weighLooks _ e L I J).trans (bX4_weighLooks_0 _ e L I J)) ?_
  obtain ⟨K, h1, h2, h3⟩ := xfor (fun i K => xlim (xcall xprog (d + 2)) mX4_weighLooks 1 [.ref 47, .int (n32 i), xD] [] (xst e L K J))
    (fun i K => (∀ o, o ≠ 49 → K o = I o) ∧ ∀ x, x < i → K 49 x = 0) (n := 20) (fun i K hi ⟨g1, g2⟩ => by
      refine ⟨xu K 49 i 0, ?_, ?_, ?_⟩
      · refine (bX4_weighLooks_1 _ e L K J _).trans ?_
        simp (disch := omega) only [n32_ltE, n32_leE, n32_eqE, n32_eqm, m1_eqn, n32_ge0, n32_lt0, n32_nat, n32_succ, n32_add, xin_n32, xin_b1, xin_b2, cond_true, cond_false, if_true, if_false, xcI_some, xcV_some, xcJ_some, xcR_some, xu_ee, xu_rne, xu_kne, ite_self, not_true_eq_false, not_false_eq_true, ne_eq, true_and, and_true, false_and, and_false, m1_lt0, m1_eq0, eq_self, Bool.false_eq_true, reduceCtorEq, z_lt0, i1_eq0, i0_eq1, i1_eq1, xrZ0, xrZ1, xrZt, n32_eq0, n32_eq1, n32_gt0, n32_gt1, n32_lt1, n32_le1, n32_0le, tf0, tf1, xaI_of, q20a, q20b, q20m, q20l, q20g, q20r, q20s, q20e, hi]
      · intro o z
        rw [xu_rne z, g1 o z]
      · intro x hx
        by_cases z : x = i
        · rw [z, xu_ee]
        · rw [xu_kne z, g2 x (by omega)]) I ⟨fun _ _ => rfl, fun x hx => absurd hx (Nat.not_lt_zero x)⟩
  refine RR_eq h1 (RR_eq (bX4_weighLooks_1 _ e L K J _) ?_)
  simp (disch := omega) only [n32_ltE, n32_leE, n32_eqE, n32_eqm, m1_eqn, n32_ge0, n32_lt0, n32_nat, n32_succ, n32_add, xin_n32, xin_b1, xin_b2, cond_true, cond_false, if_true, if_false, xcI_some, xcV_some, xcJ_some, xcR_some, xu_ee, xu_rne, xu_kne, ite_self, not_true_eq_false, not_false_eq_true, ne_eq, true_and, and_true, false_and, and_false, m1_lt0, m1_eq0, eq_self, Bool.false_eq_true, reduceCtorEq, z_lt0, i1_eq0, i0_eq1, i1_eq1, xrZ0, xrZ1, xrZt, n32_eq0, n32_eq1, n32_gt0, n32_gt1, n32_lt1, n32_le1, n32_0le, tf0, tf1, xaI_of, q20a, q20b, q20m, q20l, q20g, q20r, q20s, q20e, Nat.lt_irrefl]
  refine RR_eq (bX4_weighLooks_2 _ e L K J) ?_
  rw [h2 47 (by decide), hb]
  by_cases h0 : sB S = 0
  · have : bsI S = -1 := if_pos h0
    rw [if_pos this]
    exact RR_V ⟨rfl, h2, fun x hx => by omega⟩
  · have hbs : bsI S = n32 (bse S) := if_neg h0
    have hbl := bse_lt (S := S) (by omega)
    rw [hbs, if_neg (n32_ne1 (by omega))]
    refine RR_eq (bX4_weighLooks_3 _ e L K J) ?_
    have step : ∀ i, i ≤ sV S → RR (xlim (xcall xprog (d + 2)) mX4_weighLooks 4 [.ref 47, .int (n32 i), xD] [] (xst e L K J)) (zV e L fun K J' => J' = J ∧ (∀ o, o ≠ 49 → K o = I o) ∧ ∀ x, x < sB S → K 49 x = hft S x) → True := fun _ _ _ => trivial
    obtain ⟨M, e1, e2, e3⟩ := xfor (fun i K => xlim (xcall xprog (d + 2)) mX4_weighLooks 4 [.ref 47, .int (n32 i), xD] [] (xst e L K J))
      (fun i K => (∀ o, o ≠ 49 → K o = I o) ∧ ∀ x, x < 20 → K 49 x = hfN S i x) (n := sV S) (fun i K hi ⟨g1, g2⟩ => by
        have hT2 : Tr 7 S N K J := Tr_c (fun o k q1 q2 => by rw [g1 o (by omega)]) hw hT
        have hA2 : Ac 37 S K := Ac_c (fun o k q1 q2 => by rw [g1 o (by omega)]) hA
        have e0 := bX4_weighLooks_4 (xcall xprog (d + 2)) e L K J (n32 i)
        have o1 : K 47 2 = ofS S := by rw [g1 47 (by decide), ho]
        have b1 : K 47 6 = n32 (bse S) := by rw [g1 47 (by decide), hb, hbs]
        have hbl20 : bse S < 20 := by omega
        rcases hl i hi with q | ⟨q, q2⟩
        · refine ⟨K, e0.trans ?_, g1, ?_⟩
          · have qn : (-1 : Int32) < 0 ∨ ¬ (-1 : Int32) < n32 (sB S) := Or.inl (by decide)
            simp (disch := omega) only [n32_ltE, n32_leE, n32_eqE, n32_eqm, m1_eqn, n32_ge0, n32_lt0, n32_nat, n32_succ, n32_add, xin_n32, xin_b1, xin_b2, cond_true, cond_false, if_true, if_false, xcI_some, xcV_some, xcJ_some, xcR_some, xu_ee, xu_rne, xu_kne, ite_self, not_true_eq_false, not_false_eq_true, ne_eq, true_and, and_true, false_and, and_false, m1_lt0, m1_eq0, eq_self, Bool.false_eq_true, reduceCtorEq, z_lt0, i1_eq0, i0_eq1, i1_eq1, xrZ0, xrZ1, xrZt, n32_eq0, n32_eq1, n32_gt0, n32_gt1, n32_lt1, n32_le1, n32_0le, tf0, tf1, xaI_of, q20a, q20b, q20m, q20l, q20g, q20r, q20s, q20e, bX4_weighLooks_0, bX4_weighLooks_2, bX4_weighLooks_3, ekX4_weighLooks_4_33, ekX4_weighLooks_4_14, bX4_weighLooks_5, bX4_weighLooks_6, t7_V hT2 hw, hi, a_lo hA2 hi, q, c_hasBlock_n hT2 hw qn]
          · intro x hx
            rw [g2 x hx, hfN_s]
            simp [hc, q]
        · by_cases qo : bt (ofS S) i = true
          · refine ⟨K, e0.trans ?_, g1, ?_⟩
            · simp (disch := omega) only [n32_ltE, n32_leE, n32_eqE, n32_eqm, m1_eqn, n32_ge0, n32_lt0, n32_nat, n32_succ, n32_add, xin_n32, xin_b1, xin_b2, cond_true, cond_false, if_true, if_false, xcI_some, xcV_some, xcJ_some, xcR_some, xu_ee, xu_rne, xu_kne, ite_self, not_true_eq_false, not_false_eq_true, ne_eq, true_and, and_true, false_and, and_false, m1_lt0, m1_eq0, eq_self, Bool.false_eq_true, reduceCtorEq, z_lt0, i1_eq0, i0_eq1, i1_eq1, xrZ0, xrZ1, xrZt, n32_eq0, n32_eq1, n32_gt0, n32_gt1, n32_lt1, n32_le1, n32_0le, tf0, tf1, xaI_of, q20a, q20b, q20m, q20l, q20g, q20r, q20s, q20e, bX4_weighLooks_0, bX4_weighLooks_2, bX4_weighLooks_3, ekX4_weighLooks_4_33, ekX4_weighLooks_4_14, bX4_weighLooks_5, bX4_weighLooks_6, t7_V hT2 hw, hi, a_lo hA2 hi, q, c_hasBlock_y hT2 hw q2, o1, bt_t0, qo]
            · intro x hx
              rw [g2 x hx, hfN_s]
              simp [hc, qo]
          · have qo' : bt (ofS S) i = false := by simpa using qo
            have ha := c_addHeft (d := d) (e := e) (L := L) hT2 hw q2 (w := wt S (bse S) i)
            obtain ⟨o, c1, M, J', c2, c3, c4, c5⟩ := ha
            subst c3
            refine ⟨M, e0.trans ?_, fun o z => (c4 o z).trans (g1 o z), ?_⟩
            · simp (disch := omega) only [n32_ltE, n32_leE, n32_eqE, n32_eqm, m1_eqn, n32_ge0, n32_lt0, n32_nat, n32_succ, n32_add, xin_n32, xin_b1, xin_b2, cond_true, cond_false, if_true, if_false, xcI_some, xcV_some, xcJ_some, xcR_some, xu_ee, xu_rne, xu_kne, ite_self, not_true_eq_false, not_false_eq_true, ne_eq, true_and, and_true, false_and, and_false, m1_lt0, m1_eq0, eq_self, Bool.false_eq_true, reduceCtorEq, z_lt0, i1_eq0, i0_eq1, i1_eq1, xrZ0, xrZ1, xrZt, n32_eq0, n32_eq1, n32_gt0, n32_gt1, n32_lt1, n32_le1, n32_0le, tf0, tf1, xaI_of, q20a, q20b, q20m, q20l, q20g, q20r, q20s, q20e, bX4_weighLooks_0, bX4_weighLooks_2, bX4_weighLooks_3, ekX4_weighLooks_4_33, ekX4_weighLooks_4_14, bX4_weighLooks_5, bX4_weighLooks_6, t7_V hT2 hw, hi, a_lo hA2 hi, q, c_hasBlock_y hT2 hw q2, o1, bt_t0, qo', b1, xaR_16, xaI_of (G0_w _ hbl20), t7_wt hT2 hbl hi]
              rw [c1, c2]
              simp (disch := omega) only [n32_ltE, n32_leE, n32_eqE, n32_eqm, m1_eqn, n32_ge0, n32_lt0, n32_nat, n32_succ, n32_add, xin_n32, xin_b1, xin_b2, cond_true, cond_false, if_true, if_false, xcI_some, xcV_some, xcJ_some, xcR_some, xu_ee, xu_rne, xu_kne, ite_self, not_true_eq_false, not_false_eq_true, ne_eq, true_and, and_true, false_and, and_false, m1_lt0, m1_eq0, eq_self, Bool.false_eq_true, reduceCtorEq, z_lt0, i1_eq0, i0_eq1, i1_eq1, xrZ0, xrZ1, xrZt, n32_eq0, n32_eq1, n32_gt0, n32_gt1, n32_lt1, n32_le1, n32_0le, tf0, tf1, xaI_of, q20a, q20b, q20m, q20l, q20g, q20r, q20s, q20e, bX4_weighLooks_0, bX4_weighLooks_2, bX4_weighLooks_3, ekX4_weighLooks_4_33, ekX4_weighLooks_4_14, bX4_weighLooks_5, bX4_weighLooks_6]
            · intro x hx
              rw [c5 x hx, g2 x hx, hfN_s]
              have hn : ¬ S (216 + i) = -1 := by rw [q]; exact n32_ne1 (by omega)
              simp [hc, qo', hn]) K ⟨h2, fun x hx => by rw [h3 x hx]; rfl⟩
    refine RR_eq e1 (RR_eq (bX4_weighLooks_4 _ e L M J _) ?_)
    have hT2 : Tr 7 S N M J := Tr_c (fun o k q1 q2 => by rw [e2 o (by omega)]) hw hT
    simp (disch := omega) only [n32_ltE, n32_leE, n32_eqE, n32_eqm, m1_eqn, n32_ge0, n32_lt0, n32_nat, n32_succ, n32_add, xin_n32, xin_b1, xin_b2, cond_true, cond_false, if_true, if_false, xcI_some, xcV_some, xcJ_some, xcR_some, xu_ee, xu_rne, xu_kne, ite_self, not_true_eq_false, not_false_eq_true, ne_eq, true_and, and_true, false_and, and_false, m1_lt0, m1_eq0, eq_self, Bool.false_eq_true, reduceCtorEq, z_lt0, i1_eq0, i0_eq1, i1_eq1, xrZ0, xrZ1, xrZt, n32_eq0, n32_eq1, n32_gt0, n32_gt1, n32_lt1, n32_le1, n32_0le, tf0, tf1, xaI_of, q20a, q20b, q20m, q20l, q20g, q20r, q20s, q20e, bX4_weighLooks_0, bX4_weighLooks_2, bX4_weighLooks_3, ekX4_weighLooks_4_33, ekX4_weighLooks_4_14, bX4_weighLooks_5, bX4_weighLooks_6, t7_V hT2 hw, Nat.lt_irrefl]
    exact RR_V ⟨rfl, e2, fun x hx => e3 x (by omega)⟩
theorem c_heaviestOn (hT : Tr 7 S N I J) (hw : wfT S) (hh : ∀ x, x < sB S → I 49 x = hft S x) (hb : b < sB S) : xcall xprog (d + 1) 53 [.ref 47, .int (n32 b)] (xst e L I J) = some (some (.int (bon S b (sB S))), xst e L I J) := by
  have h20 := wf_B hw
  refine (aX4_heaviestOn _ e L I J _).trans ((bX4_heaviestOn_0 _ e L I J _).trans ?_)
  obtain ⟨m, hm⟩ : ∃ m, b + 1 + m = sB S := ⟨sB S - (b + 1), by omega⟩
  obtain ⟨r, h1, h2⟩ := xfor (fun j r => xlim (xcall xprog d) mX4_heaviestOn 1 [.ref 47, .int (n32 b), .int r, .int (n32 (b + 1 + j))] [] (xst e L I J)) (fun j r => r = bon S b (b + 1 + j)) (n := m) (fun j r hj hr => by
    refine ⟨bon S b (b + 1 + j + 1), ?_, rfl⟩
    have hlt : b + 1 + j < sB S := by omega
    obtain ⟨p1, p2⟩ := wf_p hw (show 0 < b + 1 + j by omega) hlt
    refine (bX4_heaviestOn_1 _ e L I J _ _ _).trans ?_
    subst hr
    by_cases q1 : par S (b + 1 + j) = b
    · rcases bon_or (S := S) b (b + 1 + j) with q | ⟨y, y1, y2, y3, y4⟩
      · have eb : bon S b (b + 1 + j + 1) = n32 (b + 1 + j) := (bon_s S b _).trans (if_pos ⟨⟨by omega, q1⟩, Or.inl q⟩)
        rw [eb]
        simp (disch := omega) only [n32_ltE, n32_leE, n32_eqE, n32_eqm, m1_eqn, n32_ge0, n32_lt0, n32_nat, n32_succ, n32_add, xin_n32, xin_b1, xin_b2, cond_true, cond_false, if_true, if_false, xcI_some, xcV_some, xcJ_some, xcR_some, xu_ee, xu_rne, xu_kne, ite_self, not_true_eq_false, not_false_eq_true, ne_eq, true_and, and_true, false_and, and_false, m1_lt0, m1_eq0, eq_self, Bool.false_eq_true, reduceCtorEq, z_lt0, i1_eq0, i0_eq1, i1_eq1, xrZ0, xrZ1, xrZt, n32_eq0, n32_eq1, n32_gt0, n32_gt1, n32_lt1, n32_le1, n32_0le, tf0, tf1, xaI_of, bX4_heaviestOn_0, bX4_heaviestOn_2, bX4_heaviestOn_3, bX4_heaviestOn_4, t7_B hT hw, hlt, t7_on hT hlt, p1, q1, q]
        rfl
      · have hy : y < sB S := by omega
        by_cases q3 : hft S (b + 1 + j) ≤ hft S y
        · have eb : bon S b (b + 1 + j + 1) = bon S b (b + 1 + j) := (bon_s S b _).trans (if_neg (fun h => h.2.elim (fun z => by rw [y4] at z; exact n32_ne1 (by omega) z) (fun z => by rw [y4, n32_nat (by omega)] at z; exact z q3)))
          rw [eb, y4]
          simp (disch := omega) only [n32_ltE, n32_leE, n32_eqE, n32_eqm, m1_eqn, n32_ge0, n32_lt0, n32_nat, n32_succ, n32_add, xin_n32, xin_b1, xin_b2, cond_true, cond_false, if_true, if_false, xcI_some, xcV_some, xcJ_some, xcR_some, xu_ee, xu_rne, xu_kne, ite_self, not_true_eq_false, not_false_eq_true, ne_eq, true_and, and_true, false_and, and_false, m1_lt0, m1_eq0, eq_self, Bool.false_eq_true, reduceCtorEq, z_lt0, i1_eq0, i0_eq1, i1_eq1, xrZ0, xrZ1, xrZt, n32_eq0, n32_eq1, n32_gt0, n32_gt1, n32_lt1, n32_le1, n32_0le, tf0, tf1, xaI_of, bX4_heaviestOn_0, bX4_heaviestOn_2, bX4_heaviestOn_3, bX4_heaviestOn_4, t7_B hT hw, hlt, t7_on hT hlt, p1, q1, hh _ hlt, hh _ hy, q3]
          rfl
        · have eb : bon S b (b + 1 + j + 1) = n32 (b + 1 + j) := (bon_s S b _).trans (if_pos ⟨⟨by omega, q1⟩, Or.inr (by rw [y4, n32_nat (by omega)]; exact q3)⟩)
          rw [eb, y4]
          simp (disch := omega) only [n32_ltE, n32_leE, n32_eqE, n32_eqm, m1_eqn, n32_ge0, n32_lt0, n32_nat, n32_succ, n32_add, xin_n32, xin_b1, xin_b2, cond_true, cond_false, if_true, if_false, xcI_some, xcV_some, xcJ_some, xcR_some, xu_ee, xu_rne, xu_kne, ite_self, not_true_eq_false, not_false_eq_true, ne_eq, true_and, and_true, false_and, and_false, m1_lt0, m1_eq0, eq_self, Bool.false_eq_true, reduceCtorEq, z_lt0, i1_eq0, i0_eq1, i1_eq1, xrZ0, xrZ1, xrZt, n32_eq0, n32_eq1, n32_gt0, n32_gt1, n32_lt1, n32_le1, n32_0le, tf0, tf1, xaI_of, bX4_heaviestOn_0, bX4_heaviestOn_2, bX4_heaviestOn_3, bX4_heaviestOn_4, t7_B hT hw, hlt, t7_on hT hlt, p1, q1, hh _ hlt, hh _ hy, q3]
          rfl
    · have eb : bon S b (b + 1 + j + 1) = bon S b (b + 1 + j) := (bon_s S b _).trans (if_neg (fun h => q1 h.1.2))
      rw [eb]
      simp (disch := omega) only [n32_ltE, n32_leE, n32_eqE, n32_eqm, m1_eqn, n32_ge0, n32_lt0, n32_nat, n32_succ, n32_add, xin_n32, xin_b1, xin_b2, cond_true, cond_false, if_true, if_false, xcI_some, xcV_some, xcJ_some, xcR_some, xu_ee, xu_rne, xu_kne, ite_self, not_true_eq_false, not_false_eq_true, ne_eq, true_and, and_true, false_and, and_false, m1_lt0, m1_eq0, eq_self, Bool.false_eq_true, reduceCtorEq, z_lt0, i1_eq0, i0_eq1, i1_eq1, xrZ0, xrZ1, xrZt, n32_eq0, n32_eq1, n32_gt0, n32_gt1, n32_lt1, n32_le1, n32_0le, tf0, tf1, xaI_of, bX4_heaviestOn_0, bX4_heaviestOn_2, bX4_heaviestOn_3, bX4_heaviestOn_4, t7_B hT hw, hlt, t7_on hT hlt, p1, q1]
      rfl) (-1) (bon_m1 hw (Nat.le_refl _) hb).symm
  rw [n32_succ]
  refine h1.trans ?_
  rw [h2, hm]
  refine (bX4_heaviestOn_1 _ e L I J _ _ _).trans ?_
  simp (disch := omega) only [n32_ltE, n32_leE, n32_eqE, n32_eqm, m1_eqn, n32_ge0, n32_lt0, n32_nat, n32_succ, n32_add, xin_n32, xin_b1, xin_b2, cond_true, cond_false, if_true, if_false, xcI_some, xcV_some, xcJ_some, xcR_some, xu_ee, xu_rne, xu_kne, ite_self, not_true_eq_false, not_false_eq_true, ne_eq, true_and, and_true, false_and, and_false, m1_lt0, m1_eq0, eq_self, Bool.false_eq_true, reduceCtorEq, z_lt0, i1_eq0, i0_eq1, i1_eq1, xrZ0, xrZ1, xrZt, n32_eq0, n32_eq1, n32_gt0, n32_gt1, n32_lt1, n32_le1, n32_0le, tf0, tf1, xaI_of, bX4_heaviestOn_0, bX4_heaviestOn_2, bX4_heaviestOn_3, bX4_heaviestOn_4, t7_B hT hw, Nat.lt_irrefl]
end WAY
