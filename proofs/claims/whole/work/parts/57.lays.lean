/-! The reference: base, weights of looks, way, and all at once. -/
section RW
variable {d e L : Nat} {S : TS} {I : TI} {J : TJ} {a b s t v k i h : Nat}
theorem bsN_lt2 (hB : 0 < sB S) (hi : i ≤ sB S) : bsN S i < sB S := by
  by_cases h : 0 < i
  · have := bsN_lt (S := S) h
    omega
  · have : i = 0 := by omega
    subst this
    exact hB
theorem r_laysJust (hS : I 211 = S) (hw : wfT S) (hR : RT S I) (hk : wfK S) (hB : 0 < sB S) (hm : ∀ s t, s < 20 → t < 20 → I 219 (20 * s + t) = mk S s t) : RR (xcall xprog (d + 6) 197 [.ref 209] (xst e L I J)) (zV e L fun K J' => J' = J ∧ (∀ o k, (o ≠ 209 ∨ ¬ (jk k ∨ k = 29)) → K o k = I o k) ∧ K 209 26 = jS S ∧ K 209 27 = fS S ∧ K 209 32 = n32 (cmS S) ∧ K 209 29 = n32 (bse S)) := by
  have h20 := wf_B hw
  obtain ⟨M, m1, m2, m3, m4, m5⟩ := r_judge (d := d) (e := e) (L := L) (J := J) hS hw hR hk hB hm
  refine RR_eq ((aX12_laysJust _ e L I J).trans (m1.trans (bX12_laysJust_10 _ e L M J))) ?_
  obtain ⟨K, h1, h2, h3⟩ := xfor (fun i K => xlim (xcall xprog (d + 5)) mX12_laysJust 11 [.ref 209, .int (n32 i), xD, xD, xD] [] (xst e L K J))
    (fun i K => (∀ o k, (o ≠ 209 ∨ ¬ k = 29) → K o k = M o k) ∧ K 209 29 = n32 (bsN S i)) (n := sB S) (fun i K hi ⟨g1, g2⟩ => by
      have hS2 : K 211 = S := (funext fun k => (g1 211 k (Or.inl (by decide))).trans (m2 211 k (Or.inl (by decide)))).trans hS
      have hR2 : RT S K := RT_c (funext fun k => (g1 217 k (Or.inl (by decide))).trans (m2 217 k (Or.inl (by decide)))) (funext fun k => (g1 218 k (Or.inl (by decide))).trans (m2 218 k (Or.inl (by decide)))) hR
      have hj2 : K 209 26 = jS S := (g1 209 26 (Or.inr (by decide))).trans m3
      have hb : bt (jS S) i = jst S i := by
        unfold jS
        rw [bt_bs _ (by omega) _ (by omega)]
        simp [hi]
      have hbl := bsN_lt2 (S := S) hB (Nat.le_of_lt hi)
      have l1 := lv_20 hw hbl
      have l2 := lv_20 hw hi
      have e0 := bX12_laysJust_11 (xcall xprog (d + 5)) e L K J (n32 i)
      by_cases q1 : jst S i = true
      · by_cases q2 : lv S (bsN S i) < lv S i
        · refine ⟨xu K 209 29 (n32 i), e0.trans ?_, fro (P := fun k => k = 29) rfl g1, ?_⟩
          · have q3 : ¬ lv S i ≤ lv S (bsN S i) := by omega
            simp (disch := omega) only [n32_ltE, n32_leE, n32_eqE, n32_eqm, m1_eqn, n32_ge0, n32_lt0, n32_nat, n32_succ, n32_add, xin_n32, xin_b1, xin_b2, cond_true, cond_false, if_true, if_false, xcI_some, xcV_some, xcJ_some, xcR_some, xu_ee, xu_rne, xu_kne, ite_self, not_true_eq_false, not_false_eq_true, ne_eq, true_and, and_true, false_and, and_false, m1_lt0, m1_eq0, eq_self, Bool.false_eq_true, reduceCtorEq, z_lt0, i1_eq0, i0_eq1, i1_eq1, xrZ0, xrZ1, xrZt, n32_eq0, n32_eq1, n32_gt0, n32_gt1, n32_lt1, n32_le1, n32_0le, tf0, tf1, xaI_of, q20a, q20b, q20m, q20l, q20g, q20r, q20s, q20e, bX12_laysJust_0, bX12_laysJust_3, ekX12_laysJust_4_20, ekX12_laysJust_5_9, bX12_laysJust_5, ekX12_laysJust_6_13, ekX12_laysJust_6_10, bX12_laysJust_6, bX12_laysJust_7, bX12_laysJust_8, bX12_laysJust_9, bX12_laysJust_10, ekX12_laysJust_11_17, ekX12_laysJust_11_13, ekX12_laysJust_11_9, bX12_laysJust_12, bX12_laysJust_13, hS2, wf_2 hw, hi, hj2, sX12_bitOf, bt_t1, hb, q1, g2, r_level hS2 hw hR2 hi, r_level hS2 hw hR2 hbl, q3]
          · rw [xu_ee, bsN_s, if_pos ⟨q1, q2⟩]
        · refine ⟨K, e0.trans ?_, g1, ?_⟩
          · have q3 : lv S i ≤ lv S (bsN S i) := by omega
            simp (disch := omega) only [n32_ltE, n32_leE, n32_eqE, n32_eqm, m1_eqn, n32_ge0, n32_lt0, n32_nat, n32_succ, n32_add, xin_n32, xin_b1, xin_b2, cond_true, cond_false, if_true, if_false, xcI_some, xcV_some, xcJ_some, xcR_some, xu_ee, xu_rne, xu_kne, ite_self, not_true_eq_false, not_false_eq_true, ne_eq, true_and, and_true, false_and, and_false, m1_lt0, m1_eq0, eq_self, Bool.false_eq_true, reduceCtorEq, z_lt0, i1_eq0, i0_eq1, i1_eq1, xrZ0, xrZ1, xrZt, n32_eq0, n32_eq1, n32_gt0, n32_gt1, n32_lt1, n32_le1, n32_0le, tf0, tf1, xaI_of, q20a, q20b, q20m, q20l, q20g, q20r, q20s, q20e, bX12_laysJust_0, bX12_laysJust_3, ekX12_laysJust_4_20, ekX12_laysJust_5_9, bX12_laysJust_5, ekX12_laysJust_6_13, ekX12_laysJust_6_10, bX12_laysJust_6, bX12_laysJust_7, bX12_laysJust_8, bX12_laysJust_9, bX12_laysJust_10, ekX12_laysJust_11_17, ekX12_laysJust_11_13, ekX12_laysJust_11_9, bX12_laysJust_12, bX12_laysJust_13, hS2, wf_2 hw, hi, hj2, sX12_bitOf, bt_t1, hb, q1, g2, r_level hS2 hw hR2 hi, r_level hS2 hw hR2 hbl, q3]
          · rw [g2, bsN_s, if_neg (fun h => q2 h.2)]
      · refine ⟨K, e0.trans ?_, g1, ?_⟩
        · simp (disch := omega) only [n32_ltE, n32_leE, n32_eqE, n32_eqm, m1_eqn, n32_ge0, n32_lt0, n32_nat, n32_succ, n32_add, xin_n32, xin_b1, xin_b2, cond_true, cond_false, if_true, if_false, xcI_some, xcV_some, xcJ_some, xcR_some, xu_ee, xu_rne, xu_kne, ite_self, not_true_eq_false, not_false_eq_true, ne_eq, true_and, and_true, false_and, and_false, m1_lt0, m1_eq0, eq_self, Bool.false_eq_true, reduceCtorEq, z_lt0, i1_eq0, i0_eq1, i1_eq1, xrZ0, xrZ1, xrZt, n32_eq0, n32_eq1, n32_gt0, n32_gt1, n32_lt1, n32_le1, n32_0le, tf0, tf1, xaI_of, q20a, q20b, q20m, q20l, q20g, q20r, q20s, q20e, bX12_laysJust_0, bX12_laysJust_3, ekX12_laysJust_4_20, ekX12_laysJust_5_9, bX12_laysJust_5, ekX12_laysJust_6_13, ekX12_laysJust_6_10, bX12_laysJust_6, bX12_laysJust_7, bX12_laysJust_8, bX12_laysJust_9, bX12_laysJust_10, ekX12_laysJust_11_17, ekX12_laysJust_11_13, ekX12_laysJust_11_9, bX12_laysJust_12, bX12_laysJust_13, hS2, wf_2 hw, hi, hj2, sX12_bitOf, bt_t1, hb, q1]
        · rw [g2, bsN_s, if_neg (fun h => q1 h.1)]) (xu M 209 29 0) ⟨fro (P := fun k => k = 29) rfl (fun _ _ _ => rfl), xu_ee⟩
  have hS2 : K 211 = S := (funext fun k => (h2 211 k (Or.inl (by decide))).trans (m2 211 k (Or.inl (by decide)))).trans hS
  refine RR_eq h1 (RR_eq (bX12_laysJust_11 _ e L K J _) ?_)
  simp (disch := omega) only [n32_ltE, n32_leE, n32_eqE, n32_eqm, m1_eqn, n32_ge0, n32_lt0, n32_nat, n32_succ, n32_add, xin_n32, xin_b1, xin_b2, cond_true, cond_false, if_true, if_false, xcI_some, xcV_some, xcJ_some, xcR_some, xu_ee, xu_rne, xu_kne, ite_self, not_true_eq_false, not_false_eq_true, ne_eq, true_and, and_true, false_and, and_false, m1_lt0, m1_eq0, eq_self, Bool.false_eq_true, reduceCtorEq, z_lt0, i1_eq0, i0_eq1, i1_eq1, xrZ0, xrZ1, xrZt, n32_eq0, n32_eq1, n32_gt0, n32_gt1, n32_lt1, n32_le1, n32_0le, tf0, tf1, xaI_of, q20a, q20b, q20m, q20l, q20g, q20r, q20s, q20e, bX12_laysJust_0, bX12_laysJust_3, ekX12_laysJust_4_20, ekX12_laysJust_5_9, bX12_laysJust_5, ekX12_laysJust_6_13, ekX12_laysJust_6_10, bX12_laysJust_6, bX12_laysJust_7, bX12_laysJust_8, bX12_laysJust_9, bX12_laysJust_10, ekX12_laysJust_11_17, ekX12_laysJust_11_13, ekX12_laysJust_11_9, bX12_laysJust_12, bX12_laysJust_13, hS2, wf_2 hw, Nat.lt_irrefl]
  refine RR_V ⟨rfl, fun o k z => ?_, ?_, ?_, ?_, h3⟩
  · rw [h2 o k (z.elim Or.inl (fun z => Or.inr (fun q => z (Or.inr q)))), m2 o k (z.elim Or.inl (fun z => Or.inr (fun q => z (Or.inl q))))]
  · rw [h2 209 26 (Or.inr (by decide)), m3]
  · rw [h2 209 27 (Or.inr (by decide)), m4]
  · rw [h2 209 32 (Or.inr (by decide)), m5]
/-- one look's weight, up its way -/
theorem r_climb {cf : xCF} {w x : Int32} (hS : I 211 = S) (hw : wfT S) (hb : b < sB S) : ∃ K, xlim cf mX12_laysWay 6 [.ref 209, .int x, .int (n32 b), .int w] [] (xst e L I J) = xlim cf mX12_laysWay 7 [.ref 209, .int x, xD, xD] [] (xst e L K J) ∧ (∀ o, o ≠ 220 → K o = I o) ∧ ∀ y, y < 20 → K 220 y = if (decide (y = b) || anc (par S) y b) = true then I 220 y + w else I 220 y := by
  have h20 := wf_B hw
  induction b using Nat.strongRecOn generalizing I with
  | _ b ih =>
    have e0 := bX12_laysWay_6 cf e L I J x (n32 b) w
    by_cases h0 : b = 0
    · subst h0
      have p0 : S (12 + 0) = -1 := wf_p0 hw hb
      refine ⟨xu I 220 0 (I 220 0 + w), e0.trans ?_, fun o ho => by rw [xu_rne ho], fun y hy => ?_⟩
      · simp (disch := omega) only [n32_ltE, n32_leE, n32_eqE, n32_eqm, m1_eqn, n32_ge0, n32_lt0, n32_nat, n32_succ, n32_add, xin_n32, xin_b1, xin_b2, cond_true, cond_false, if_true, if_false, xcI_some, xcV_some, xcJ_some, xcR_some, xu_ee, xu_rne, xu_kne, ite_self, not_true_eq_false, not_false_eq_true, ne_eq, true_and, and_true, false_and, and_false, m1_lt0, m1_eq0, eq_self, Bool.false_eq_true, reduceCtorEq, z_lt0, i1_eq0, i0_eq1, i1_eq1, xrZ0, xrZ1, xrZt, n32_eq0, n32_eq1, n32_gt0, n32_gt1, n32_lt1, n32_le1, n32_0le, tf0, tf1, xaI_of, q12a, q12b, q12m, q12l, q12g, q12r, q12s, q12e, hS, p0]
        refine (bX12_laysWay_6 cf e L _ J x _ w).trans ?_
        simp (disch := omega) only [n32_ltE, n32_leE, n32_eqE, n32_eqm, m1_eqn, n32_ge0, n32_lt0, n32_nat, n32_succ, n32_add, xin_n32, xin_b1, xin_b2, cond_true, cond_false, if_true, if_false, xcI_some, xcV_some, xcJ_some, xcR_some, xu_ee, xu_rne, xu_kne, ite_self, not_true_eq_false, not_false_eq_true, ne_eq, true_and, and_true, false_and, and_false, m1_lt0, m1_eq0, eq_self, Bool.false_eq_true, reduceCtorEq, z_lt0, i1_eq0, i0_eq1, i1_eq1, xrZ0, xrZ1, xrZt, n32_eq0, n32_eq1, n32_gt0, n32_gt1, n32_lt1, n32_le1, n32_0le, tf0, tf1, xaI_of]
      · rw [anc_z (Nat.not_lt_zero _)]
        by_cases z : y = 0
        · subst z
          rw [xu_ee]
          simp
        · rw [xu_kne z]
          simp [z]
    · obtain ⟨p1, p2⟩ := wf_p hw (show 0 < b by omega) hb
      obtain ⟨K, k1, k2, k3⟩ := ih (par S b) p2 (I := xu I 220 b (I 220 b + w)) (by rw [xu_rne (by decide), hS]) (by omega)
      refine ⟨K, e0.trans ?_, fun o ho => by rw [k2 o ho, xu_rne ho], fun y hy => ?_⟩
      · simp (disch := omega) only [n32_ltE, n32_leE, n32_eqE, n32_eqm, m1_eqn, n32_ge0, n32_lt0, n32_nat, n32_succ, n32_add, xin_n32, xin_b1, xin_b2, cond_true, cond_false, if_true, if_false, xcI_some, xcV_some, xcJ_some, xcR_some, xu_ee, xu_rne, xu_kne, ite_self, not_true_eq_false, not_false_eq_true, ne_eq, true_and, and_true, false_and, and_false, m1_lt0, m1_eq0, eq_self, Bool.false_eq_true, reduceCtorEq, z_lt0, i1_eq0, i0_eq1, i1_eq1, xrZ0, xrZ1, xrZt, n32_eq0, n32_eq1, n32_gt0, n32_gt1, n32_lt1, n32_le1, n32_0le, tf0, tf1, xaI_of, q12a, q12b, q12m, q12l, q12g, q12r, q12s, q12e, hS, p1]
        exact k1
      · rw [k3 y hy, anc_s p2]
        by_cases z : y = b
        · subst z
          have z1 : ¬ y = par S y := by omega
          have z2 : anc (par S) y (par S y) = false := by
            cases q : anc (par S) y (par S y) with
            | false => rfl
            | true =>
              have := anc_lt q
              omega
          rw [xu_ee]
          simp [z1, z2]
        · rw [xu_kne z]
          by_cases z1 : y = par S b
          · simp [z1]
          · simp [z, z1]
theorem r_bestOn (hS : I 211 = S) (hw : wfT S) (hh : ∀ x, x < sB S → I 220 x = hft S x) (hb : b < sB S) : xcall xprog (d + 1) 199 [.ref 209, .int (n32 b)] (xst e L I J) = some (some (.int (bon S b (sB S))), xst e L I J) := by
  have h20 := wf_B hw
  refine (aX12_bestOn _ e L I J _).trans ((bX12_bestOn_0 _ e L I J _).trans ?_)
  obtain ⟨r, h1, h2⟩ := xfor (fun j r => xlim (xcall xprog d) mX12_bestOn 1 [.ref 209, .int (n32 b), .int r, .int (n32 j)] [] (xst e L I J)) (fun j r => r = bon S b j) (n := sB S) (fun j r hj hr => by
    refine ⟨bon S b (j + 1), ?_, rfl⟩
    refine (bX12_bestOn_1 _ e L I J _ _ _).trans ?_
    subst hr
    by_cases h0 : j = 0
    · subst h0
      have p0 : S (12 + 0) = -1 := wf_p0 hw hj
      have eb : bon S b (0 + 1) = bon S b 0 := (bon_s S b _).trans (if_neg (fun h => absurd h.1.1 (by omega)))
      rw [eb]
      simp (disch := omega) only [n32_ltE, n32_leE, n32_eqE, n32_eqm, m1_eqn, n32_ge0, n32_lt0, n32_nat, n32_succ, n32_add, xin_n32, xin_b1, xin_b2, cond_true, cond_false, if_true, if_false, xcI_some, xcV_some, xcJ_some, xcR_some, xu_ee, xu_rne, xu_kne, ite_self, not_true_eq_false, not_false_eq_true, ne_eq, true_and, and_true, false_and, and_false, m1_lt0, m1_eq0, eq_self, Bool.false_eq_true, reduceCtorEq, z_lt0, i1_eq0, i0_eq1, i1_eq1, xrZ0, xrZ1, xrZt, n32_eq0, n32_eq1, n32_gt0, n32_gt1, n32_lt1, n32_le1, n32_0le, tf0, tf1, xaI_of, q12a, q12b, q12m, q12l, q12g, q12r, q12s, q12e, bX12_bestOn_0, bX12_bestOn_2, bX12_bestOn_3, bX12_bestOn_4, hS, wf_2 hw, hj, p0]
    obtain ⟨p1, p2⟩ := wf_p hw (show 0 < j by omega) hj
    by_cases q1 : par S j = b
    · rcases bon_or (S := S) b j with q | ⟨y, y1, y2, y3, y4⟩
      · have eb : bon S b (j + 1) = n32 j := (bon_s S b _).trans (if_pos ⟨⟨by omega, q1⟩, Or.inl q⟩)
        rw [eb]
        simp (disch := omega) only [n32_ltE, n32_leE, n32_eqE, n32_eqm, m1_eqn, n32_ge0, n32_lt0, n32_nat, n32_succ, n32_add, xin_n32, xin_b1, xin_b2, cond_true, cond_false, if_true, if_false, xcI_some, xcV_some, xcJ_some, xcR_some, xu_ee, xu_rne, xu_kne, ite_self, not_true_eq_false, not_false_eq_true, ne_eq, true_and, and_true, false_and, and_false, m1_lt0, m1_eq0, eq_self, Bool.false_eq_true, reduceCtorEq, z_lt0, i1_eq0, i0_eq1, i1_eq1, xrZ0, xrZ1, xrZt, n32_eq0, n32_eq1, n32_gt0, n32_gt1, n32_lt1, n32_le1, n32_0le, tf0, tf1, xaI_of, q12a, q12b, q12m, q12l, q12g, q12r, q12s, q12e, bX12_bestOn_0, bX12_bestOn_2, bX12_bestOn_3, bX12_bestOn_4, hS, wf_2 hw, hj, p1, q1, q]
      · have hy : y < sB S := by omega
        by_cases q3 : hft S j ≤ hft S y
        · have eb : bon S b (j + 1) = bon S b j := (bon_s S b _).trans (if_neg (fun h => h.2.elim (fun z => by rw [y4] at z; exact n32_ne1 (by omega) z) (fun z => by rw [y4, n32_nat (by omega)] at z; exact z q3)))
          rw [eb, y4]
          simp (disch := omega) only [n32_ltE, n32_leE, n32_eqE, n32_eqm, m1_eqn, n32_ge0, n32_lt0, n32_nat, n32_succ, n32_add, xin_n32, xin_b1, xin_b2, cond_true, cond_false, if_true, if_false, xcI_some, xcV_some, xcJ_some, xcR_some, xu_ee, xu_rne, xu_kne, ite_self, not_true_eq_false, not_false_eq_true, ne_eq, true_and, and_true, false_and, and_false, m1_lt0, m1_eq0, eq_self, Bool.false_eq_true, reduceCtorEq, z_lt0, i1_eq0, i0_eq1, i1_eq1, xrZ0, xrZ1, xrZt, n32_eq0, n32_eq1, n32_gt0, n32_gt1, n32_lt1, n32_le1, n32_0le, tf0, tf1, xaI_of, q12a, q12b, q12m, q12l, q12g, q12r, q12s, q12e, bX12_bestOn_0, bX12_bestOn_2, bX12_bestOn_3, bX12_bestOn_4, hS, wf_2 hw, hj, p1, q1, hh _ hj, hh _ hy, q3]
        · have eb : bon S b (j + 1) = n32 j := (bon_s S b _).trans (if_pos ⟨⟨by omega, q1⟩, Or.inr (by rw [y4, n32_nat (by omega)]; exact q3)⟩)
          rw [eb, y4]
          simp (disch := omega) only [n32_ltE, n32_leE, n32_eqE, n32_eqm, m1_eqn, n32_ge0, n32_lt0, n32_nat, n32_succ, n32_add, xin_n32, xin_b1, xin_b2, cond_true, cond_false, if_true, if_false, xcI_some, xcV_some, xcJ_some, xcR_some, xu_ee, xu_rne, xu_kne, ite_self, not_true_eq_false, not_false_eq_true, ne_eq, true_and, and_true, false_and, and_false, m1_lt0, m1_eq0, eq_self, Bool.false_eq_true, reduceCtorEq, z_lt0, i1_eq0, i0_eq1, i1_eq1, xrZ0, xrZ1, xrZt, n32_eq0, n32_eq1, n32_gt0, n32_gt1, n32_lt1, n32_le1, n32_0le, tf0, tf1, xaI_of, q12a, q12b, q12m, q12l, q12g, q12r, q12s, q12e, bX12_bestOn_0, bX12_bestOn_2, bX12_bestOn_3, bX12_bestOn_4, hS, wf_2 hw, hj, p1, q1, hh _ hj, hh _ hy, q3]
    · have eb : bon S b (j + 1) = bon S b j := (bon_s S b _).trans (if_neg (fun h => q1 h.1.2))
      rw [eb]
      simp (disch := omega) only [n32_ltE, n32_leE, n32_eqE, n32_eqm, m1_eqn, n32_ge0, n32_lt0, n32_nat, n32_succ, n32_add, xin_n32, xin_b1, xin_b2, cond_true, cond_false, if_true, if_false, xcI_some, xcV_some, xcJ_some, xcR_some, xu_ee, xu_rne, xu_kne, ite_self, not_true_eq_false, not_false_eq_true, ne_eq, true_and, and_true, false_and, and_false, m1_lt0, m1_eq0, eq_self, Bool.false_eq_true, reduceCtorEq, z_lt0, i1_eq0, i0_eq1, i1_eq1, xrZ0, xrZ1, xrZt, n32_eq0, n32_eq1, n32_gt0, n32_gt1, n32_lt1, n32_le1, n32_0le, tf0, tf1, xaI_of, q12a, q12b, q12m, q12l, q12g, q12r, q12s, q12e, bX12_bestOn_0, bX12_bestOn_2, bX12_bestOn_3, bX12_bestOn_4, hS, wf_2 hw, hj, p1, q1]) (-1) rfl
  refine h1.trans ?_
  rw [h2]
  refine (bX12_bestOn_1 _ e L I J _ _ _).trans ?_
  simp (disch := omega) only [n32_ltE, n32_leE, n32_eqE, n32_eqm, m1_eqn, n32_ge0, n32_lt0, n32_nat, n32_succ, n32_add, xin_n32, xin_b1, xin_b2, cond_true, cond_false, if_true, if_false, xcI_some, xcV_some, xcJ_some, xcR_some, xu_ee, xu_rne, xu_kne, ite_self, not_true_eq_false, not_false_eq_true, ne_eq, true_and, and_true, false_and, and_false, m1_lt0, m1_eq0, eq_self, Bool.false_eq_true, reduceCtorEq, z_lt0, i1_eq0, i0_eq1, i1_eq1, xrZ0, xrZ1, xrZt, n32_eq0, n32_eq1, n32_gt0, n32_gt1, n32_lt1, n32_le1, n32_0le, tf0, tf1, xaI_of, q12a, q12b, q12m, q12l, q12g, q12r, q12s, q12e, bX12_bestOn_0, bX12_bestOn_2, bX12_bestOn_3, bX12_bestOn_4, hS, wf_2 hw, Nat.lt_irrefl]
theorem r_laysWay (hS : I 211 = S) (hw : wfT S) (hl : wfL S) (hB : 0 < sB S) (ho : I 209 28 = ofS S) (hb : I 209 29 = n32 (bse S)) : RR (xcall xprog (d + 2) 198 [.ref 209] (xst e L I J)) (zV e L fun K J' => J' = J ∧ (∀ o k, o ≠ 220 → o ≠ 221 → (o ≠ 209 ∨ ¬ k = 30) → K o k = I o k) ∧ (∀ b, b < sB S → K 220 b = hft S b) ∧ ∃ n, WY S n ∧ K 209 30 = n32 n ∧ ∀ k, k < n → K 221 k = wy S k) := by
  have h20 := wf_B hw
  have h8 := wf_V8 hw
  have hbl := bse_lt (S := S) hB
  refine RR_eq ((aX12_laysWay _ e L I J).trans (bX12_laysWay_0 _ e L I J)) ?_
  obtain ⟨K, h1, h2, h3⟩ := xfor (fun i K => xlim (xcall xprog (d + 1)) mX12_laysWay 1 [.ref 209, .int (n32 i), xD, xD] [] (xst e L K J))
    (fun i K => (∀ o, o ≠ 220 → K o = I o) ∧ ∀ x, x < i → K 220 x = 0) (n := sB S) (fun i K hi ⟨g1, g2⟩ => by
      refine ⟨xu K 220 i 0, ?_, ?_, ?_⟩
      · refine (bX12_laysWay_1 _ e L K J _).trans ?_
        simp (disch := omega) only [n32_ltE, n32_leE, n32_eqE, n32_eqm, m1_eqn, n32_ge0, n32_lt0, n32_nat, n32_succ, n32_add, xin_n32, xin_b1, xin_b2, cond_true, cond_false, if_true, if_false, xcI_some, xcV_some, xcJ_some, xcR_some, xu_ee, xu_rne, xu_kne, ite_self, not_true_eq_false, not_false_eq_true, ne_eq, true_and, and_true, false_and, and_false, m1_lt0, m1_eq0, eq_self, Bool.false_eq_true, reduceCtorEq, z_lt0, i1_eq0, i0_eq1, i1_eq1, xrZ0, xrZ1, xrZt, n32_eq0, n32_eq1, n32_gt0, n32_gt1, n32_lt1, n32_le1, n32_0le, tf0, tf1, xaI_of, g1 211 (by decide), hS, wf_2 hw, hi]
      · intro o z
        rw [xu_rne z, g1 o z]
      · intro x hx
        by_cases z : x = i
        · rw [z, xu_ee]
        · rw [xu_kne z, g2 x (by omega)]) I ⟨fun _ _ => rfl, fun x hx => absurd hx (Nat.not_lt_zero x)⟩
  refine RR_eq h1 (RR_eq (bX12_laysWay_1 _ e L K J _) ?_)
  simp (disch := omega) only [n32_ltE, n32_leE, n32_eqE, n32_eqm, m1_eqn, n32_ge0, n32_lt0, n32_nat, n32_succ, n32_add, xin_n32, xin_b1, xin_b2, cond_true, cond_false, if_true, if_false, xcI_some, xcV_some, xcJ_some, xcR_some, xu_ee, xu_rne, xu_kne, ite_self, not_true_eq_false, not_false_eq_true, ne_eq, true_and, and_true, false_and, and_false, m1_lt0, m1_eq0, eq_self, Bool.false_eq_true, reduceCtorEq, z_lt0, i1_eq0, i0_eq1, i1_eq1, xrZ0, xrZ1, xrZt, n32_eq0, n32_eq1, n32_gt0, n32_gt1, n32_lt1, n32_le1, n32_0le, tf0, tf1, xaI_of, h2 211 (by decide), hS, wf_2 hw, Nat.lt_irrefl]
  refine RR_eq (bX12_laysWay_2 _ e L K J) ?_
  obtain ⟨M, e1, e2, e3⟩ := xfor (fun i K => xlim (xcall xprog (d + 1)) mX12_laysWay 3 [.ref 209, .int (n32 i), xD, xD] [] (xst e L K J))
    (fun i K => (∀ o, o ≠ 220 → K o = I o) ∧ ∀ x, x < sB S → K 220 x = hfN S i x) (n := sV S) (fun i K hi ⟨g1, g2⟩ => by
      have hS2 : K 211 = S := (g1 211 (by decide)).trans hS
      have e0 := bX12_laysWay_3 (xcall xprog (d + 1)) e L K J (n32 i)
      have o1 : K 209 28 = ofS S := by rw [g1 209 (by decide), ho]
      have b1 : K 209 29 = n32 (bse S) := by rw [g1 209 (by decide), hb]
      have ewb := r_weightBy (d := d) (e := e) (L := L) (J := J) hS2 hw hbl hi
      by_cases qo : bt (ofS S) i = true
      · refine ⟨K, e0.trans ?_, g1, ?_⟩
        · simp (disch := omega) only [n32_ltE, n32_leE, n32_eqE, n32_eqm, m1_eqn, n32_ge0, n32_lt0, n32_nat, n32_succ, n32_add, xin_n32, xin_b1, xin_b2, cond_true, cond_false, if_true, if_false, xcI_some, xcV_some, xcJ_some, xcR_some, xu_ee, xu_rne, xu_kne, ite_self, not_true_eq_false, not_false_eq_true, ne_eq, true_and, and_true, false_and, and_false, m1_lt0, m1_eq0, eq_self, Bool.false_eq_true, reduceCtorEq, z_lt0, i1_eq0, i0_eq1, i1_eq1, xrZ0, xrZ1, xrZt, n32_eq0, n32_eq1, n32_gt0, n32_gt1, n32_lt1, n32_le1, n32_0le, tf0, tf1, xaI_of, q12a, q12b, q12m, q12l, q12g, q12r, q12s, q12e, q216a, q216b, q216m, q216l, q216g, q216r, q216s, q216e, hS2, wf_1 hw, hi, sX12_bitOf, o1, bt_t1, qo, bX12_laysWay_0, bX12_laysWay_2, ekX12_laysWay_3_9, bX12_laysWay_4, ekX12_laysWay_5_5, bX12_laysWay_5, bX12_laysWay_7, ekX12_laysWay_8_12, bX12_laysWay_8, ekX12_laysWay_9_16, bX12_laysWay_10, b1, ewb]
          refine (bX12_laysWay_6 _ e L K J _ _ _).trans ?_
          simp (disch := omega) only [n32_ltE, n32_leE, n32_eqE, n32_eqm, m1_eqn, n32_ge0, n32_lt0, n32_nat, n32_succ, n32_add, xin_n32, xin_b1, xin_b2, cond_true, cond_false, if_true, if_false, xcI_some, xcV_some, xcJ_some, xcR_some, xu_ee, xu_rne, xu_kne, ite_self, not_true_eq_false, not_false_eq_true, ne_eq, true_and, and_true, false_and, and_false, m1_lt0, m1_eq0, eq_self, Bool.false_eq_true, reduceCtorEq, z_lt0, i1_eq0, i0_eq1, i1_eq1, xrZ0, xrZ1, xrZt, n32_eq0, n32_eq1, n32_gt0, n32_gt1, n32_lt1, n32_le1, n32_0le, tf0, tf1, xaI_of, q12a, q12b, q12m, q12l, q12g, q12r, q12s, q12e, q216a, q216b, q216m, q216l, q216g, q216r, q216s, q216e, bX12_laysWay_0, bX12_laysWay_2, ekX12_laysWay_3_9, bX12_laysWay_4, ekX12_laysWay_5_5, bX12_laysWay_5, bX12_laysWay_7, ekX12_laysWay_8_12, bX12_laysWay_8, ekX12_laysWay_9_16, bX12_laysWay_10]
        · intro x hx
          rw [g2 x hx, hfN_s]
          simp [hc, qo]
      · have qo' : bt (ofS S) i = false := by simpa using qo
        rcases hl i hi with q | ⟨q, q2⟩
        · refine ⟨K, e0.trans ?_, g1, ?_⟩
          · simp (disch := omega) only [n32_ltE, n32_leE, n32_eqE, n32_eqm, m1_eqn, n32_ge0, n32_lt0, n32_nat, n32_succ, n32_add, xin_n32, xin_b1, xin_b2, cond_true, cond_false, if_true, if_false, xcI_some, xcV_some, xcJ_some, xcR_some, xu_ee, xu_rne, xu_kne, ite_self, not_true_eq_false, not_false_eq_true, ne_eq, true_and, and_true, false_and, and_false, m1_lt0, m1_eq0, eq_self, Bool.false_eq_true, reduceCtorEq, z_lt0, i1_eq0, i0_eq1, i1_eq1, xrZ0, xrZ1, xrZt, n32_eq0, n32_eq1, n32_gt0, n32_gt1, n32_lt1, n32_le1, n32_0le, tf0, tf1, xaI_of, q12a, q12b, q12m, q12l, q12g, q12r, q12s, q12e, q216a, q216b, q216m, q216l, q216g, q216r, q216s, q216e, hS2, wf_1 hw, hi, sX12_bitOf, o1, bt_t1, qo, bX12_laysWay_0, bX12_laysWay_2, ekX12_laysWay_3_9, bX12_laysWay_4, ekX12_laysWay_5_5, bX12_laysWay_5, bX12_laysWay_7, ekX12_laysWay_8_12, bX12_laysWay_8, ekX12_laysWay_9_16, bX12_laysWay_10, b1, ewb, q]
            refine (bX12_laysWay_6 _ e L K J _ _ _).trans ?_
            simp (disch := omega) only [n32_ltE, n32_leE, n32_eqE, n32_eqm, m1_eqn, n32_ge0, n32_lt0, n32_nat, n32_succ, n32_add, xin_n32, xin_b1, xin_b2, cond_true, cond_false, if_true, if_false, xcI_some, xcV_some, xcJ_some, xcR_some, xu_ee, xu_rne, xu_kne, ite_self, not_true_eq_false, not_false_eq_true, ne_eq, true_and, and_true, false_and, and_false, m1_lt0, m1_eq0, eq_self, Bool.false_eq_true, reduceCtorEq, z_lt0, i1_eq0, i0_eq1, i1_eq1, xrZ0, xrZ1, xrZt, n32_eq0, n32_eq1, n32_gt0, n32_gt1, n32_lt1, n32_le1, n32_0le, tf0, tf1, xaI_of, q12a, q12b, q12m, q12l, q12g, q12r, q12s, q12e, q216a, q216b, q216m, q216l, q216g, q216r, q216s, q216e, bX12_laysWay_0, bX12_laysWay_2, ekX12_laysWay_3_9, bX12_laysWay_4, ekX12_laysWay_5_5, bX12_laysWay_5, bX12_laysWay_7, ekX12_laysWay_8_12, bX12_laysWay_8, ekX12_laysWay_9_16, bX12_laysWay_10]
          · intro x hx
            rw [g2 x hx, hfN_s]
            simp [hc, q]
        · obtain ⟨M, c1, c2, c3⟩ := r_climb (cf := xcall xprog (d + 1)) (e := e) (L := L) (J := J) (w := wt S (bse S) i) (x := n32 i) hS2 hw q2
          refine ⟨M, e0.trans ?_, fun o z => (c2 o z).trans (g1 o z), ?_⟩
          · simp (disch := omega) only [n32_ltE, n32_leE, n32_eqE, n32_eqm, m1_eqn, n32_ge0, n32_lt0, n32_nat, n32_succ, n32_add, xin_n32, xin_b1, xin_b2, cond_true, cond_false, if_true, if_false, xcI_some, xcV_some, xcJ_some, xcR_some, xu_ee, xu_rne, xu_kne, ite_self, not_true_eq_false, not_false_eq_true, ne_eq, true_and, and_true, false_and, and_false, m1_lt0, m1_eq0, eq_self, Bool.false_eq_true, reduceCtorEq, z_lt0, i1_eq0, i0_eq1, i1_eq1, xrZ0, xrZ1, xrZt, n32_eq0, n32_eq1, n32_gt0, n32_gt1, n32_lt1, n32_le1, n32_0le, tf0, tf1, xaI_of, q12a, q12b, q12m, q12l, q12g, q12r, q12s, q12e, q216a, q216b, q216m, q216l, q216g, q216r, q216s, q216e, hS2, wf_1 hw, hi, sX12_bitOf, o1, bt_t1, qo, bX12_laysWay_0, bX12_laysWay_2, ekX12_laysWay_3_9, bX12_laysWay_4, ekX12_laysWay_5_5, bX12_laysWay_5, bX12_laysWay_7, ekX12_laysWay_8_12, bX12_laysWay_8, ekX12_laysWay_9_16, bX12_laysWay_10, b1, ewb, q]
            refine c1.trans ?_
            simp (disch := omega) only [n32_ltE, n32_leE, n32_eqE, n32_eqm, m1_eqn, n32_ge0, n32_lt0, n32_nat, n32_succ, n32_add, xin_n32, xin_b1, xin_b2, cond_true, cond_false, if_true, if_false, xcI_some, xcV_some, xcJ_some, xcR_some, xu_ee, xu_rne, xu_kne, ite_self, not_true_eq_false, not_false_eq_true, ne_eq, true_and, and_true, false_and, and_false, m1_lt0, m1_eq0, eq_self, Bool.false_eq_true, reduceCtorEq, z_lt0, i1_eq0, i0_eq1, i1_eq1, xrZ0, xrZ1, xrZt, n32_eq0, n32_eq1, n32_gt0, n32_gt1, n32_lt1, n32_le1, n32_0le, tf0, tf1, xaI_of, q12a, q12b, q12m, q12l, q12g, q12r, q12s, q12e, q216a, q216b, q216m, q216l, q216g, q216r, q216s, q216e, bX12_laysWay_0, bX12_laysWay_2, ekX12_laysWay_3_9, bX12_laysWay_4, ekX12_laysWay_5_5, bX12_laysWay_5, bX12_laysWay_7, ekX12_laysWay_8_12, bX12_laysWay_8, ekX12_laysWay_9_16, bX12_laysWay_10]
          · intro x hx
            rw [c3 x (by omega), g2 x hx, hfN_s]
            have hn : ¬ S (216 + i) = -1 := by rw [q]; exact n32_ne1 (by omega)
            simp [hc, qo', hn]) K ⟨h2, fun x hx => by rw [h3 x hx]; rfl⟩
  have hS2 : M 211 = S := (e2 211 (by decide)).trans hS
  refine RR_eq e1 (RR_eq (bX12_laysWay_3 _ e L M J _) ?_)
  simp (disch := omega) only [n32_ltE, n32_leE, n32_eqE, n32_eqm, m1_eqn, n32_ge0, n32_lt0, n32_nat, n32_succ, n32_add, xin_n32, xin_b1, xin_b2, cond_true, cond_false, if_true, if_false, xcI_some, xcV_some, xcJ_some, xcR_some, xu_ee, xu_rne, xu_kne, ite_self, not_true_eq_false, not_false_eq_true, ne_eq, true_and, and_true, false_and, and_false, m1_lt0, m1_eq0, eq_self, Bool.false_eq_true, reduceCtorEq, z_lt0, i1_eq0, i0_eq1, i1_eq1, xrZ0, xrZ1, xrZt, n32_eq0, n32_eq1, n32_gt0, n32_gt1, n32_lt1, n32_le1, n32_0le, tf0, tf1, xaI_of, hS2, wf_1 hw, Nat.lt_irrefl]
  refine RR_eq (bX12_laysWay_8 _ e L M J) ?_
  have hbs : wy S 0 = n32 (bse S) := if_neg (by omega)
  have b1 : M 209 29 = n32 (bse S) := by rw [e2 209 (by decide), hb]
  rw [b1]
  have hbest : ∀ K : TI, (∀ o k, o ≠ 221 → (o ≠ 209 ∨ ¬ k = 30) → K o k = M o k) → ∀ b, b < sB S → xcall xprog (d + 1) 199 [.ref 209, .int (n32 b)] (xst e L K J) = some (some (.int (bon S b (sB S))), xst e L K J) := fun K hK b hb => r_bestOn ((funext fun k => hK 211 k (by decide) (Or.inl (by decide))).trans hS2) hw (fun x hx => (hK 220 x (by decide) (Or.inl (by decide))).trans (e3 x hx)) hb
  have f0 : ∀ o k, o ≠ 221 → (o ≠ 209 ∨ ¬ k = 30) → (xu (xu M 221 0 (n32 (bse S))) 209 30 1) o k = M o k := fun o k z1 z2 => by
    by_cases z : o = 209
    · subst z
      rw [xu_kne (by omega), xu_rne z1]
    · rw [xu_rne z, xu_rne z1]
  have ew : ∀ i y, y < sB S → wy S i = n32 y → wy S (i + 1) = bon S y (sB S) := fun i y h1 h2 => by
    show (if wy S i = -1 then -1 else bon S (wy S i).toNatClampNeg (sB S)) = _
    rw [if_neg (by rw [h2]; exact n32_ne1 (by omega)), h2, n32_nat (by omega)]
  refine RR_eq (xk1 (hbest _ f0 _ hbl) (ekX12_laysWay_8_12 _ e L _ J _)) ?_
  rw [← ew 0 _ hbl hbs]
  have key := xforx (fun i K => xlim (xcall xprog (d + 1)) mX12_laysWay 9 [.ref 209, .int (wy S (1 + i)), xD, xD] [] (xst e L K J))
    (fun i K => (∀ o k, o ≠ 221 → (o ≠ 209 ∨ ¬ k = 30) → K o k = M o k) ∧ (∀ k, k < 1 + i → wy S k ≠ -1 ∧ K 221 k = wy S k) ∧ K 209 30 = n32 (1 + i))
    (fun r => RR r (zV e L fun K J' => J' = J ∧ (∀ o k, o ≠ 220 → o ≠ 221 → (o ≠ 209 ∨ ¬ k = 30) → K o k = I o k) ∧ (∀ b, b < sB S → K 220 b = hft S b) ∧ ∃ n, WY S n ∧ K 209 30 = n32 n ∧ ∀ k, k < n → K 221 k = wy S k)) (n := 20) (fun i K hi ⟨g1, g2, g3⟩ => by
      have e0 := bX12_laysWay_9 (xcall xprog (d + 1)) e L K J (wy S (1 + i))
      rcases wy_or hw (1 + i) with q | ⟨y, y1, y2, y3⟩
      · right
        refine RR_eq e0 ?_
        simp (disch := omega) only [n32_ltE, n32_leE, n32_eqE, n32_eqm, m1_eqn, n32_ge0, n32_lt0, n32_nat, n32_succ, n32_add, xin_n32, xin_b1, xin_b2, cond_true, cond_false, if_true, if_false, xcI_some, xcV_some, xcJ_some, xcR_some, xu_ee, xu_rne, xu_kne, ite_self, not_true_eq_false, not_false_eq_true, ne_eq, true_and, and_true, false_and, and_false, m1_lt0, m1_eq0, eq_self, Bool.false_eq_true, reduceCtorEq, z_lt0, i1_eq0, i0_eq1, i1_eq1, xrZ0, xrZ1, xrZt, n32_eq0, n32_eq1, n32_gt0, n32_gt1, n32_lt1, n32_le1, n32_0le, tf0, tf1, xaI_of, q12a, q12b, q12m, q12l, q12g, q12r, q12s, q12e, q216a, q216b, q216m, q216l, q216g, q216r, q216s, q216e, q, bX12_laysWay_0, bX12_laysWay_2, ekX12_laysWay_3_9, bX12_laysWay_4, ekX12_laysWay_5_5, bX12_laysWay_5, bX12_laysWay_7, ekX12_laysWay_8_12, bX12_laysWay_8, ekX12_laysWay_9_16, bX12_laysWay_10]
        refine RR_V ⟨rfl, fun o k z1 z2 z3 => (g1 o k z2 z3).trans (by rw [e2 o z1]), fun b hb => (g1 220 b (by decide) (Or.inl (by decide))).trans (e3 b hb), 1 + i, ⟨by omega, fun k hk => (g2 k hk).1, q⟩, g3, fun k hk => (g2 k hk).2⟩
      · left
        have f1 : ∀ o k, o ≠ 221 → (o ≠ 209 ∨ ¬ k = 30) → (xu (xu K 221 (1 + i) (n32 y)) 209 30 (n32 (1 + i + 1))) o k = M o k := fun o k z1 z2 => by
          rw [← g1 o k z1 z2]
          by_cases z : o = 209
          · subst z
            rw [xu_kne (by omega), xu_rne z1]
          · rw [xu_rne z, xu_rne z1]
        have hy20 : 1 + i < 20 := by omega
        refine ⟨xu (xu K 221 (1 + i) (n32 y)) 209 30 (n32 (1 + i + 1)), e0.trans ?_, f1, ?_, ?_⟩
        · rw [show 1 + (i + 1) = 1 + i + 1 by omega, ew _ y y1 y3]
          simp (disch := omega) only [n32_ltE, n32_leE, n32_eqE, n32_eqm, m1_eqn, n32_ge0, n32_lt0, n32_nat, n32_succ, n32_add, xin_n32, xin_b1, xin_b2, cond_true, cond_false, if_true, if_false, xcI_some, xcV_some, xcJ_some, xcR_some, xu_ee, xu_rne, xu_kne, ite_self, not_true_eq_false, not_false_eq_true, ne_eq, true_and, and_true, false_and, and_false, m1_lt0, m1_eq0, eq_self, Bool.false_eq_true, reduceCtorEq, z_lt0, i1_eq0, i0_eq1, i1_eq1, xrZ0, xrZ1, xrZt, n32_eq0, n32_eq1, n32_gt0, n32_gt1, n32_lt1, n32_le1, n32_0le, tf0, tf1, xaI_of, q12a, q12b, q12m, q12l, q12g, q12r, q12s, q12e, q216a, q216b, q216m, q216l, q216g, q216r, q216s, q216e, y3, g3, hbest _ f1 _ y1, bX12_laysWay_0, bX12_laysWay_2, ekX12_laysWay_3_9, bX12_laysWay_4, ekX12_laysWay_5_5, bX12_laysWay_5, bX12_laysWay_7, ekX12_laysWay_8_12, bX12_laysWay_8, ekX12_laysWay_9_16, bX12_laysWay_10]
        · intro k hk
          rw [xu_rne (by decide)]
          by_cases z : k = 1 + i
          · subst z
            rw [xu_ee, y3]
            exact ⟨n32_ne1 (by omega), rfl⟩
          · rw [xu_kne z]
            exact g2 k (by omega)
        · rw [xu_ee]
          rfl) (xu (xu M 221 0 (n32 (bse S))) 209 30 1) ⟨f0, fun k hk => by
        have : k = 0 := by omega
        subst this
        rw [xu_rne (by decide), xu_ee, hbs]
        exact ⟨n32_ne1 (by omega), rfl⟩, xu_ee⟩
  rcases key with ⟨K, k1, k2, k3, k4⟩ | key
  · have q : wy S 19 = -1 ∨ True := Or.inr trivial
    rcases wy_or hw 20 with z | ⟨y, y1, y2, y3⟩
    · exact absurd z (k3 20 (by omega)).1
    · omega
  · exact key
end RW
