/-! The class: just and final points, the base. -/
section JG
variable {d e L : Nat} {S : TS} {N : Nat → Int64} {I : TI} {J : TJ} {a b s t v k i : Nat}
theorem fr47 {K I : TI} {P : Nat → Prop} {k : Nat} {x : Int32} (hP : P k) (h : ∀ o k, (o ≠ 47 ∨ ¬ P k) → K o k = I o k) : ∀ o k', (o ≠ 47 ∨ ¬ P k') → xu K 47 k x o k' = I o k' := by
  intro o k' z
  rw [← h o k' z]
  by_cases q : o = 47
  · subst q
    have : k' ≠ k := by
      rintro rfl
      rcases z with z | z
      · exact z rfl
      · exact z hP
    rw [xu_kne this]
  · rw [xu_rne q]
def jlM (S : TS) (I : TI) (s t : Nat) : TI := if bt (I 47 0) s = true then (if lv S t = lv S s + 1 then xu (xu I 47 0 (I 47 0 ||| (1 <<< (n32 t &&& 31)))) 47 1 (I 47 1 ||| (1 <<< (n32 s &&& 31))) else xu I 47 0 (I 47 0 ||| (1 <<< (n32 t &&& 31)))) else I
theorem c_judgeLink (hT : Tr 7 S N I J) (hw : wfT S) (hs : s < sB S) (ht : t < sB S) (ps : pt S s = true) (pq : pt S t = true) : xcall xprog (d + 1) 48 [.ref 47, .int (n32 s), .int (n32 t)] (xst e L I J) = some (none, xst e L (jlM S I s t) J) := by
  have h20 := wf_B hw
  have l1 := lv_20 hw hs
  have l2 := lv_20 hw ht
  rw [aX4_judgeLink, bX4_judgeLink_0]
  simp (disch := omega) only [n32_ltE, n32_leE, n32_eqE, n32_eqm, m1_eqn, n32_ge0, n32_lt0, n32_nat, n32_succ, n32_add, xin_n32, xin_b1, xin_b2, cond_true, cond_false, if_true, if_false, xcI_some, xcV_some, xcJ_some, xcR_some, xu_ee, xu_rne, xu_kne, ite_self, not_true_eq_false, not_false_eq_true, ne_eq, true_and, and_true, false_and, and_false, m1_lt0, m1_eq0, eq_self, Bool.false_eq_true, reduceCtorEq, z_lt0, i1_eq0, i0_eq1, i1_eq1, xrZ0, xrZ1, xrZt, n32_eq0, n32_eq1, n32_gt0, n32_gt1, n32_lt1, n32_le1, n32_0le, tf0, tf1, xaI_of, bX4_judgeLink_0, bX4_judgeLink_1, bt_t1, t7_lv hT hs, t7_lv hT ht, lvc_t ps, lvc_t pq]
  unfold jlM
  by_cases q1 : bt (I 47 0) s = true
  · by_cases q2 : lv S t = lv S s + 1
    · simp only [q1, q2, if_true]
    · simp only [q1, q2, if_true, if_false]
  · simp only [q1, if_false, Bool.false_eq_true]
theorem c_judgePoints (hT : Tr 7 S N I J) (hw : wfT S) (hk : wfK S) (hm : ∀ s t, s < 20 → t < 20 → I (51 + s) t = mk S s t) : RR (xcall xprog (d + 5) 47 [.ref 47] (xst e L I J)) (zV e L fun K J' => J' = J ∧ (∀ o k, (o ≠ 47 ∨ ¬ (k = 0 ∨ k = 1 ∨ k = 5)) → K o k = I o k) ∧ K 47 0 = jS S ∧ K 47 1 = fS S ∧ K 47 5 = n32 (cmS S)) := by
  have h20 := wf_B hw
  refine RR_eq ((aX4_judgePoints _ e L I J).trans (bX4_judgePoints_0 _ e L I J)) ?_
  by_cases h0 : sB S = 0
  · simp (disch := omega) only [n32_ltE, n32_leE, n32_eqE, n32_eqm, m1_eqn, n32_ge0, n32_lt0, n32_nat, n32_succ, n32_add, xin_n32, xin_b1, xin_b2, cond_true, cond_false, if_true, if_false, xcI_some, xcV_some, xcJ_some, xcR_some, xu_ee, xu_rne, xu_kne, ite_self, not_true_eq_false, not_false_eq_true, ne_eq, true_and, and_true, false_and, and_false, m1_lt0, m1_eq0, eq_self, Bool.false_eq_true, reduceCtorEq, z_lt0, i1_eq0, i0_eq1, i1_eq1, xrZ0, xrZ1, xrZt, n32_eq0, n32_eq1, n32_gt0, n32_gt1, n32_lt1, n32_le1, n32_0le, tf0, tf1, xaI_of, t7_B hT hw, h0, bX4_judgePoints_0, bX4_judgePoints_1, bX4_judgePoints_2, ekX4_judgePoints_4_30, ekX4_judgePoints_4_19, bX4_judgePoints_5, bX4_judgePoints_6, bX4_judgePoints_7]
    refine RR_eq (bX4_judgePoints_3 _ e L _ J _) ?_
    simp (disch := omega) only [n32_ltE, n32_leE, n32_eqE, n32_eqm, m1_eqn, n32_ge0, n32_lt0, n32_nat, n32_succ, n32_add, xin_n32, xin_b1, xin_b2, cond_true, cond_false, if_true, if_false, xcI_some, xcV_some, xcJ_some, xcR_some, xu_ee, xu_rne, xu_kne, ite_self, not_true_eq_false, not_false_eq_true, ne_eq, true_and, and_true, false_and, and_false, m1_lt0, m1_eq0, eq_self, Bool.false_eq_true, reduceCtorEq, z_lt0, i1_eq0, i0_eq1, i1_eq1, xrZ0, xrZ1, xrZt, n32_eq0, n32_eq1, n32_gt0, n32_gt1, n32_lt1, n32_le1, n32_0le, tf0, tf1, xaI_of, t7_B hT hw, h0, bX4_judgePoints_0, bX4_judgePoints_1, bX4_judgePoints_2, ekX4_judgePoints_4_30, ekX4_judgePoints_4_19, bX4_judgePoints_5, bX4_judgePoints_6, bX4_judgePoints_7]
    have z : ¬ (1 : Nat) < 0 := by decide
    rw [if_neg z]
    refine RR_V ⟨rfl, ?_, ?_, ?_, ?_⟩
    · exact fr47 (P := fun k => k = 0 ∨ k = 1 ∨ k = 5) (by simp) (fr47 (by simp) (fr47 (by simp) (fun _ _ _ => rfl)))
    · rw [xu_kne (by decide), xu_kne (by decide), xu_ee]
      unfold jS
      rw [h0]
      rfl
    · rw [xu_kne (by decide), xu_ee]
      unfold fS
      rw [h0]
      rfl
    · rw [xu_ee]
      unfold cmS
      rw [h0]
      rfl
  · simp (disch := omega) only [n32_ltE, n32_leE, n32_eqE, n32_eqm, m1_eqn, n32_ge0, n32_lt0, n32_nat, n32_succ, n32_add, xin_n32, xin_b1, xin_b2, cond_true, cond_false, if_true, if_false, xcI_some, xcV_some, xcJ_some, xcR_some, xu_ee, xu_rne, xu_kne, ite_self, not_true_eq_false, not_false_eq_true, ne_eq, true_and, and_true, false_and, and_false, m1_lt0, m1_eq0, eq_self, Bool.false_eq_true, reduceCtorEq, z_lt0, i1_eq0, i0_eq1, i1_eq1, xrZ0, xrZ1, xrZt, n32_eq0, n32_eq1, n32_gt0, n32_gt1, n32_lt1, n32_le1, n32_0le, tf0, tf1, xaI_of, t7_B hT hw, h0, bX4_judgePoints_0, bX4_judgePoints_1, bX4_judgePoints_2, ekX4_judgePoints_4_30, ekX4_judgePoints_4_19, bX4_judgePoints_5, bX4_judgePoints_6, bX4_judgePoints_7]
    obtain ⟨m, hm1⟩ : ∃ m, 1 + m = sB S := ⟨sB S - 1, by omega⟩
    obtain ⟨K, h1, h2, h3, h4, h5⟩ := xfor (fun j K => xlim (xcall xprog (d + 4)) mX4_judgePoints 3 [.ref 47, .int (n32 (1 + j)), xD] [] (xst e L K J))
      (fun j K => (∀ o k, (o ≠ 47 ∨ ¬ (k = 0 ∨ k = 1 ∨ k = 5)) → K o k = I o k) ∧ (∀ x, x < 32 → bt (K 47 0) x = (decide (x < 1 + j) && jst S x)) ∧ (∀ x, x < 32 → bt (K 47 1) x = (decide (x = 0) || (jst S x && exN (fun t => cl S x t && decide (lv S t = lv S x + 1)) (1 + j)))) ∧ K 47 5 = n32 (sumN (fun t => sumN (fun s => c1 S s t) t) (1 + j))) (n := m) (fun j K hj ⟨g1, g2, g3, g4⟩ => by
        have htB : 1 + j < sB S := by omega
        generalize htt : 1 + j = t at *
        obtain ⟨K', e1, e2, e3, e4, e5⟩ := xfor (fun s K => xlim (xcall xprog (d + 4)) mX4_judgePoints 4 [.ref 47, .int (n32 t), .int (n32 s)] [] (xst e L K J))
          (fun s K => (∀ o k, (o ≠ 47 ∨ ¬ (k = 0 ∨ k = 1 ∨ k = 5)) → K o k = I o k) ∧ (∀ x, x < 32 → bt (K 47 0) x = (decide (x < t) && jst S x || (decide (x = t) && exN (fun s => cl S s t && jst S s) s))) ∧ (∀ x, x < 32 → bt (K 47 1) x = ((decide (x = 0) || (jst S x && exN (fun t => cl S x t && decide (lv S t = lv S x + 1)) t)) || (decide (x < s) && (jst S x && (cl S x t && decide (lv S t = lv S x + 1)))))) ∧ K 47 5 = n32 (sumN (fun t => sumN (fun s => c1 S s t) t) t + sumN (fun s => c1 S s t) s)) (n := t) (fun s K hs ⟨f1, f2, f3, f4⟩ => by
            have hsB : s < sB S := by omega
            have hT2 : Tr 7 S N K J := Tr_c (fun o k q1 q2 => f1 o k (Or.inl (by omega))) hw hT
            have hmm : K (51 + s) t = mk S s t := (f1 (51 + s) t (Or.inl (by omega))).trans (hm s t (by omega) (by omega))
            have hs20 : s < 20 := by omega
            have ht20 : t < 20 := by omega
            have e0 := bX4_judgePoints_4 (xcall xprog (d + 4)) e L K J (n32 t) (n32 s)
            by_cases qc : cl S s t = true
            · have hne := cl_ne qc
              have hct : cts S (mk S s t) t = true := by
                unfold cl at qc
                rw [Bool.and_eq_true] at qc
                exact qc.2
              obtain ⟨_, _, ps, pq, han⟩ := cl_facts hk qc
              have hjs : bt (K 47 0) s = jst S s := by
                rw [f2 s (by omega)]
                simp [hs, show ¬ s = t by omega]
              -- the counter is raised
              have hT3 : Tr 7 S N (xu K 47 5 (K 47 5 + 1)) J := Tr_c (fun o k q1 q2 => by rw [xu_rne (by omega)]; exact f1 o k (Or.inl (by omega))) hw hT
              have ej := c_judgeLink (d := d + 3) (e := e) (L := L) hT3 hw hsB htB ps pq
              refine ⟨jlM S (xu K 47 5 (K 47 5 + 1)) s t, e0.trans ?_, ?_, ?_, ?_, ?_⟩
              · simp (disch := omega) only [n32_ltE, n32_leE, n32_eqE, n32_eqm, m1_eqn, n32_ge0, n32_lt0, n32_nat, n32_succ, n32_add, xin_n32, xin_b1, xin_b2, cond_true, cond_false, if_true, if_false, xcI_some, xcV_some, xcJ_some, xcR_some, xu_ee, xu_rne, xu_kne, ite_self, not_true_eq_false, not_false_eq_true, ne_eq, true_and, and_true, false_and, and_false, m1_lt0, m1_eq0, eq_self, Bool.false_eq_true, reduceCtorEq, z_lt0, i1_eq0, i0_eq1, i1_eq1, xrZ0, xrZ1, xrZt, n32_eq0, n32_eq1, n32_gt0, n32_gt1, n32_lt1, n32_le1, n32_0le, tf0, tf1, xaI_of, hs, xaR_50, xaI_of (G0_51 s hs20), hmm, hne, c_countsWith hT2 hw htB pq, hct, bX4_judgePoints_0, bX4_judgePoints_1, bX4_judgePoints_2, ekX4_judgePoints_4_30, ekX4_judgePoints_4_19, bX4_judgePoints_5, bX4_judgePoints_6, bX4_judgePoints_7]
                refine xk0 ej ?_
                simp (disch := omega) only [n32_ltE, n32_leE, n32_eqE, n32_eqm, m1_eqn, n32_ge0, n32_lt0, n32_nat, n32_succ, n32_add, xin_n32, xin_b1, xin_b2, cond_true, cond_false, if_true, if_false, xcI_some, xcV_some, xcJ_some, xcR_some, xu_ee, xu_rne, xu_kne, ite_self, not_true_eq_false, not_false_eq_true, ne_eq, true_and, and_true, false_and, and_false, m1_lt0, m1_eq0, eq_self, Bool.false_eq_true, reduceCtorEq, z_lt0, i1_eq0, i0_eq1, i1_eq1, xrZ0, xrZ1, xrZt, n32_eq0, n32_eq1, n32_gt0, n32_gt1, n32_lt1, n32_le1, n32_0le, tf0, tf1, xaI_of, bX4_judgePoints_0, bX4_judgePoints_1, bX4_judgePoints_2, ekX4_judgePoints_4_30, ekX4_judgePoints_4_19, bX4_judgePoints_5, bX4_judgePoints_6, bX4_judgePoints_7]
              · unfold jlM
                by_cases q1 : bt (xu K 47 5 (K 47 5 + 1) 47 0) s = true
                · rw [if_pos q1]
                  by_cases q2 : lv S t = lv S s + 1
                  · rw [if_pos q2]
                    exact fr47 (P := fun k => k = 0 ∨ k = 1 ∨ k = 5) (by simp) (fr47 (by simp) (fr47 (by simp) f1))
                  · rw [if_neg q2]
                    exact fr47 (P := fun k => k = 0 ∨ k = 1 ∨ k = 5) (by simp) (fr47 (by simp) f1)
                · rw [if_neg q1]
                  exact fr47 (P := fun k => k = 0 ∨ k = 1 ∨ k = 5) (by simp) f1
              · intro x hx
                unfold jlM
                rw [exN_s, qc, Bool.true_and]
                rw [xu_kne (show (0 : Nat) ≠ 5 by decide), hjs]
                by_cases q1 : jst S s = true
                · rw [if_pos q1]
                  have : bt (K 47 0 ||| (1 <<< (n32 t &&& 31))) x = (decide (x < t) && jst S x || (decide (x = t) && (exN (fun s => cl S s t && jst S s) s || true))) := by
                    rw [bt_set _ (by omega) hx, f2 x hx]
                    by_cases z : x = t <;> simp [z]
                  rw [q1]
                  by_cases q2 : lv S t = lv S s + 1
                  · rw [if_pos q2, xu_kne (by decide), xu_ee, this]
                  · rw [if_neg q2, xu_ee, this]
                · rw [if_neg q1, xu_kne (by decide), f2 x hx]
                  simp [q1]
              · intro x hx
                unfold jlM
                rw [xu_kne (show (0 : Nat) ≠ 5 by decide), hjs]
                by_cases q1 : jst S s = true
                · rw [if_pos q1]
                  by_cases q2 : lv S t = lv S s + 1
                  · rw [if_pos q2, xu_ee, xu_kne (by decide), bt_set _ (by omega) hx, f3 x hx]
                    by_cases z : x = s
                    · subst z
                      simp [q1, q2, qc]
                    · by_cases z2 : x < s
                      · simp [z, z2, show x < s + 1 by omega]
                      · simp [z, z2, show ¬ x < s + 1 by omega]
                  · rw [if_neg q2, xu_kne (by decide), xu_kne (by decide), f3 x hx]
                    by_cases z : x = s
                    · subst z
                      simp [q2]
                    · by_cases z2 : x < s
                      · simp [z2, show x < s + 1 by omega]
                      · simp [z2, show ¬ x < s + 1 by omega]
                · rw [if_neg q1, xu_kne (by decide), f3 x hx]
                  by_cases z : x = s
                  · subst z
                    simp [q1]
                  · by_cases z2 : x < s
                    · simp [z2, show x < s + 1 by omega]
                    · simp [z2, show ¬ x < s + 1 by omega]
              · have hc1 : c1 S s t = 1 := by unfold c1; rw [if_pos qc]
                rw [sumN_s, hc1, ← Nat.add_assoc, ← n32_succ, ← f4]
                unfold jlM
                by_cases q1 : bt (xu K 47 5 (K 47 5 + 1) 47 0) s = true
                · rw [if_pos q1]
                  by_cases q2 : lv S t = lv S s + 1
                  · rw [if_pos q2, xu_kne (by decide), xu_kne (by decide), xu_ee]
                  · rw [if_neg q2, xu_kne (by decide), xu_ee]
                · rw [if_neg q1, xu_ee]
            · have hc1 : c1 S s t = 0 := by unfold c1; rw [if_neg qc]
              have qf : cl S s t = false := by simpa using qc
              refine ⟨K, e0.trans ?_, f1, ?_, ?_, ?_⟩
              · by_cases qn : mk S s t = 0
                · simp (disch := omega) only [n32_ltE, n32_leE, n32_eqE, n32_eqm, m1_eqn, n32_ge0, n32_lt0, n32_nat, n32_succ, n32_add, xin_n32, xin_b1, xin_b2, cond_true, cond_false, if_true, if_false, xcI_some, xcV_some, xcJ_some, xcR_some, xu_ee, xu_rne, xu_kne, ite_self, not_true_eq_false, not_false_eq_true, ne_eq, true_and, and_true, false_and, and_false, m1_lt0, m1_eq0, eq_self, Bool.false_eq_true, reduceCtorEq, z_lt0, i1_eq0, i0_eq1, i1_eq1, xrZ0, xrZ1, xrZt, n32_eq0, n32_eq1, n32_gt0, n32_gt1, n32_lt1, n32_le1, n32_0le, tf0, tf1, xaI_of, hs, xaR_50, xaI_of (G0_51 s hs20), hmm, qn, bX4_judgePoints_0, bX4_judgePoints_1, bX4_judgePoints_2, ekX4_judgePoints_4_30, ekX4_judgePoints_4_19, bX4_judgePoints_5, bX4_judgePoints_6, bX4_judgePoints_7]
                · have pq := (mk_facts hk qn).2.2.2.1
                  have hct : ¬ cts S (mk S s t) t = true := by
                    intro q
                    apply qc
                    unfold cl
                    rw [q]
                    simp [qn]
                  simp (disch := omega) only [n32_ltE, n32_leE, n32_eqE, n32_eqm, m1_eqn, n32_ge0, n32_lt0, n32_nat, n32_succ, n32_add, xin_n32, xin_b1, xin_b2, cond_true, cond_false, if_true, if_false, xcI_some, xcV_some, xcJ_some, xcR_some, xu_ee, xu_rne, xu_kne, ite_self, not_true_eq_false, not_false_eq_true, ne_eq, true_and, and_true, false_and, and_false, m1_lt0, m1_eq0, eq_self, Bool.false_eq_true, reduceCtorEq, z_lt0, i1_eq0, i0_eq1, i1_eq1, xrZ0, xrZ1, xrZt, n32_eq0, n32_eq1, n32_gt0, n32_gt1, n32_lt1, n32_le1, n32_0le, tf0, tf1, xaI_of, hs, xaR_50, xaI_of (G0_51 s hs20), hmm, qn, c_countsWith hT2 hw htB pq, hct, bX4_judgePoints_0, bX4_judgePoints_1, bX4_judgePoints_2, ekX4_judgePoints_4_30, ekX4_judgePoints_4_19, bX4_judgePoints_5, bX4_judgePoints_6, bX4_judgePoints_7]
              · intro x hx
                rw [f2 x hx, exN_s, qf]
                simp
              · intro x hx
                rw [f3 x hx]
                by_cases z : x = s
                · subst z
                  simp [qf]
                · by_cases z2 : x < s
                  · simp [z2, show x < s + 1 by omega]
                  · simp [z2, show ¬ x < s + 1 by omega]
              · rw [f4, sumN_s, hc1, Nat.add_zero]) K ⟨g1, fun x hx => by
            rw [g2 x hx]
            simp [exN], fun x hx => by
            rw [g3 x hx]
            simp, g4⟩
        refine ⟨K', ?_, e2, ?_, ?_, ?_⟩
        · refine (bX4_judgePoints_3 _ e L K J _).trans ?_
          have hT2 : Tr 7 S N K J := Tr_c (fun o k q1 q2 => g1 o k (Or.inl (by omega))) hw hT
          rw [t7_B hT2 hw, if_pos ((n32_lt (by omega) (by omega)).mpr htB)]
          refine e1.trans ((bX4_judgePoints_4 _ e L K' J _ _).trans ?_)
          rw [if_neg (fun h => Nat.lt_irrefl t ((n32_lt (by omega) (by omega)).mp h))]
          simp (disch := omega) only [n32_ltE, n32_leE, n32_eqE, n32_eqm, m1_eqn, n32_ge0, n32_lt0, n32_nat, n32_succ, n32_add, xin_n32, xin_b1, xin_b2, cond_true, cond_false, if_true, if_false, xcI_some, xcV_some, xcJ_some, xcR_some, xu_ee, xu_rne, xu_kne, ite_self, not_true_eq_false, not_false_eq_true, ne_eq, true_and, and_true, false_and, and_false, m1_lt0, m1_eq0, eq_self, Bool.false_eq_true, reduceCtorEq, z_lt0, i1_eq0, i0_eq1, i1_eq1, xrZ0, xrZ1, xrZt, n32_eq0, n32_eq1, n32_gt0, n32_gt1, n32_lt1, n32_le1, n32_0le, tf0, tf1, xaI_of, bX4_judgePoints_0, bX4_judgePoints_1, bX4_judgePoints_2, ekX4_judgePoints_4_30, ekX4_judgePoints_4_19, bX4_judgePoints_5, bX4_judgePoints_6, bX4_judgePoints_7]
          rw [← htt]
          rfl
        · intro x hx
          rw [e3 x hx, show 1 + (j + 1) = t + 1 by omega]
          by_cases z : x = t
          · subst z
            rw [jst_eq]
            simp [show ¬ x = 0 by omega]
          · by_cases z2 : x < t
            · simp [z2, z, show x < t + 1 by omega]
            · simp [z2, z, show ¬ x < t + 1 by omega]
        · intro x hx
          rw [e4 x hx, show 1 + (j + 1) = t + 1 by omega, exN_s, Bool.or_assoc]
          congr 1
          by_cases z2 : x < t
          · simp [z2, Bool.and_or_distrib_left]
          · have : cl S x t = false := by
              cases q : cl S x t with
              | false => rfl
              | true =>
                have := anc_lt (cl_facts hk q).2.2.2.2
                omega
            simp [z2, this]
        · rw [e5, show 1 + (j + 1) = t + 1 by omega, sumN_s]) (xu (xu (xu I 47 0 1) 47 1 1) 47 5 0) ⟨fr47 (P := fun k => k = 0 ∨ k = 1 ∨ k = 5) (by simp) (fr47 (by simp) (fr47 (by simp) (fun _ _ _ => rfl))), fun x hx => by
          rw [xu_kne (by decide), xu_kne (by decide), xu_ee, bt_one hx]
          by_cases z : x = 0
          · subst z
            rw [jst_0]
            simp
          · simp [z, show ¬ x < 1 by omega], fun x hx => by
          rw [xu_kne (by decide), xu_ee, bt_one hx]
          have : cl S x 0 = false := by
            cases q : cl S x 0 with
            | false => rfl
            | true =>
              have := anc_lt (cl_facts hk q).2.2.2.2
              omega
          simp [exN, this], by
          rw [xu_ee]
          rfl⟩
    refine RR_eq h1 (RR_eq (bX4_judgePoints_3 _ e L K J _) ?_)
    have hT2 : Tr 7 S N K J := Tr_c (fun o k q1 q2 => h2 o k (Or.inl (by omega))) hw hT
    rw [hm1] at *
    simp (disch := omega) only [n32_ltE, n32_leE, n32_eqE, n32_eqm, m1_eqn, n32_ge0, n32_lt0, n32_nat, n32_succ, n32_add, xin_n32, xin_b1, xin_b2, cond_true, cond_false, if_true, if_false, xcI_some, xcV_some, xcJ_some, xcR_some, xu_ee, xu_rne, xu_kne, ite_self, not_true_eq_false, not_false_eq_true, ne_eq, true_and, and_true, false_and, and_false, m1_lt0, m1_eq0, eq_self, Bool.false_eq_true, reduceCtorEq, z_lt0, i1_eq0, i0_eq1, i1_eq1, xrZ0, xrZ1, xrZt, n32_eq0, n32_eq1, n32_gt0, n32_gt1, n32_lt1, n32_le1, n32_0le, tf0, tf1, xaI_of, bX4_judgePoints_0, bX4_judgePoints_1, bX4_judgePoints_2, ekX4_judgePoints_4_30, ekX4_judgePoints_4_19, bX4_judgePoints_5, bX4_judgePoints_6, bX4_judgePoints_7, t7_B hT2 hw, Nat.lt_irrefl]
    refine RR_V ⟨rfl, h2, ?_, ?_, ?_⟩
    · apply bt_ext
      intro x hx
      unfold jS
      rw [h3 x hx, bt_bs _ hx _ (by omega)]
    · apply bt_ext
      intro x hx
      unfold fS
      rw [h4 x hx, bt_bs _ hx _ (by omega)]
      unfold fin
      by_cases z : x < sB S
      · simp [z]
      · have z0 : ¬ x = 0 := by omega
        have : exN (fun t => cl S x t && decide (lv S t = lv S x + 1)) (sB S) = false := exN_0 _ _ (fun t ht => by
          have : cl S x t = false := by
            cases q : cl S x t with
            | false => rfl
            | true =>
              have := (cl_facts hk q).1
              omega
          simp [this])
        simp [z, z0, this]
    · rw [h5]
      unfold cmS
      congr 1
      exact sumN_c (fun t ht => (sumN_tl (Nat.le_of_lt ht) (fun s z1 z2 => by
        unfold c1
        have : cl S s t = false := by
          cases q : cl S s t with
          | false => rfl
          | true =>
            have := anc_lt (cl_facts hk q).2.2.2.2
            omega
        rw [this]
        rfl)).symm)
end JG
