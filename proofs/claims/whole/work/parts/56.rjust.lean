/-! The reference: just and final points. -/
section RJ
variable {d e L : Nat} {S : TS} {I : TI} {J : TJ} {a b s t v k i h : Nat}
theorem fro {K I : TI} {O : Nat} {P : Nat → Prop} {k : Nat} {x : Int32} (hP : P k) (h : ∀ o k, (o ≠ O ∨ ¬ P k) → K o k = I o k) : ∀ o k', (o ≠ O ∨ ¬ P k') → xu K O k x o k' = I o k' := by
  intro o k' z
  rw [← h o k' z]
  by_cases q : o = O
  · subst q
    have : k' ≠ k := by
      rintro rfl
      rcases z with z | z
      · exact z rfl
      · exact z hP
    rw [xu_kne this]
  · rw [xu_rne q]
theorem sumN_one {c f n : Nat} : sumN (fun h => if c = h then f else 0) n = if c < n then f else 0 := by
  induction n with
  | zero => simp [sumN]
  | succ n ih =>
    rw [sumN_s, ih]
    by_cases q : c = n
    · subst q
      simp
    · by_cases q2 : c < n
      · simp [q, q2, show c < n + 1 by omega]
      · simp [q, q2, show ¬ c < n + 1 by omega]
def jk (k : Nat) : Prop := k = 26 ∨ k = 27 ∨ k = 32
def fx (S : TS) (x t : Nat) : Bool := cl S x t && decide (lv S t = lv S x + 1)
def rM (S : TS) (K : TI) (s t : Nat) : TI := if jst S s = true then (if lv S t = lv S s + 1 then xu (xu (xu K 209 32 (K 209 32 + 1)) 209 26 (K 209 26 ||| (1 <<< (n32 t &&& 31)))) 209 27 (K 209 27 ||| (1 <<< (n32 s &&& 31))) else xu (xu K 209 32 (K 209 32 + 1)) 209 26 (K 209 26 ||| (1 <<< (n32 t &&& 31)))) else xu K 209 32 (K 209 32 + 1)
theorem RT_c {K : TI} (h1 : K 217 = I 217) (h2 : K 218 = I 218) (hR : RT S I) : RT S K := fun b hb => ⟨by rw [h1]; exact (hR b hb).1, by rw [h2]; exact (hR b hb).2⟩
theorem cl_0 (hk : wfK S) : cl S s 0 = false := by
  cases q : cl S s 0 with
  | false => rfl
  | true =>
    have := anc_lt (cl_facts hk q).2.2.2.2
    omega
theorem r_judge (hS : I 211 = S) (hw : wfT S) (hR : RT S I) (hk : wfK S) (hB : 0 < sB S) (hm : ∀ s t, s < 20 → t < 20 → I 219 (20 * s + t) = mk S s t) : ∃ K, xlim (xcall xprog (d + 5)) mX12_laysJust 0 [.ref 209, xD, xD, xD, xD] [] (xst e L I J) = xlim (xcall xprog (d + 5)) mX12_laysJust 10 [.ref 209, xD, xD, xD, xD] [] (xst e L K J) ∧ (∀ o k, (o ≠ 209 ∨ ¬ jk k) → K o k = I o k) ∧ K 209 26 = jS S ∧ K 209 27 = fS S ∧ K 209 32 = n32 (cmS S) := by
  have h20 := wf_B hw
  obtain ⟨K, h1, h2, h3, h4, h5⟩ := xfor (fun j K => xlim (xcall xprog (d + 5)) mX12_laysJust 1 [.ref 209, .int (n32 (1 + j)), xD, xD, xD] [] (xst e L K J))
    (fun j K => (∀ o k, (o ≠ 209 ∨ ¬ jk k) → K o k = I o k) ∧ (∀ x, x < 32 → bt (K 209 26) x = (decide (x < sB S ∧ hei S x < 1 + j) && jst S x)) ∧ (∀ x, x < 32 → bt (K 209 27) x = (decide (x = 0) || (jst S x && exN (fun h => exN (fun t => decide (hei S t = h) && fx S x t) (sB S)) (1 + j)))) ∧ K 209 32 = n32 (sumN (fun h => sumN (fun t => if hei S t = h then sumN (fun s => c1 S s t) (sB S) else 0) (sB S)) (1 + j))) (n := 19) (fun j K hj ⟨g1, g2, g3, g4⟩ => by
      generalize hh : 1 + j = h at *
      obtain ⟨K', e1, e2, e3, e4, e5⟩ := xfor (fun t K => xlim (xcall xprog (d + 5)) mX12_laysJust 2 [.ref 209, .int (n32 h), .int (n32 t), xD, xD] [] (xst e L K J))
        (fun t K => (∀ o k, (o ≠ 209 ∨ ¬ jk k) → K o k = I o k) ∧ (∀ x, x < 32 → bt (K 209 26) x = (decide (x < sB S ∧ (hei S x < h ∨ (hei S x = h ∧ x < t))) && jst S x)) ∧ (∀ x, x < 32 → bt (K 209 27) x = ((decide (x = 0) || (jst S x && exN (fun h => exN (fun t => decide (hei S t = h) && fx S x t) (sB S)) h)) || (jst S x && exN (fun t => decide (hei S t = h) && fx S x t) t))) ∧ K 209 32 = n32 (sumN (fun h => sumN (fun t => if hei S t = h then sumN (fun s => c1 S s t) (sB S) else 0) (sB S)) h + sumN (fun t => if hei S t = h then sumN (fun s => c1 S s t) (sB S) else 0) t)) (n := sB S) (fun t K ht ⟨f1, f2, f3, f4⟩ => by
          have hS2 : K 211 = S := (funext fun k => f1 211 k (Or.inl (by decide))).trans hS
          have hR2 : RT S K := RT_c (funext fun k => f1 217 k (Or.inl (by decide))) (funext fun k => f1 218 k (Or.inl (by decide))) hR
          have hhl := hi_lt (S := S) (b := t)
          have e0 := bX12_laysJust_2 (xcall xprog (d + 5)) e L K J (n32 h) (n32 t)
          by_cases qh : hei S t = h
          · obtain ⟨M, e1, e2, e3, e4, e5⟩ := xfor (fun s K => xlim (xcall xprog (d + 5)) mX12_laysJust 4 [.ref 209, .int (n32 h), .int (n32 t), .int (n32 s), xD] [] (xst e L K J))
              (fun s K => (∀ o k, (o ≠ 209 ∨ ¬ jk k) → K o k = I o k) ∧ (∀ x, x < 32 → bt (K 209 26) x = ((decide (x < sB S ∧ (hei S x < h ∨ (hei S x = h ∧ x < t))) && jst S x) || (decide (x = t) && exN (fun s => cl S s t && jst S s) s))) ∧ (∀ x, x < 32 → bt (K 209 27) x = (((decide (x = 0) || (jst S x && exN (fun h => exN (fun t => decide (hei S t = h) && fx S x t) (sB S)) h)) || (jst S x && exN (fun t => decide (hei S t = h) && fx S x t) t)) || (decide (x < s) && (jst S x && fx S x t)))) ∧ K 209 32 = n32 (sumN (fun h => sumN (fun t => if hei S t = h then sumN (fun s => c1 S s t) (sB S) else 0) (sB S)) h + sumN (fun t => if hei S t = h then sumN (fun s => c1 S s t) (sB S) else 0) t + sumN (fun s => c1 S s t) s)) (n := sB S) (fun s K hs ⟨p1, p2, p3, p4⟩ => by
                have hS3 : K 211 = S := (funext fun k => p1 211 k (Or.inl (by decide))).trans hS
                have hR3 : RT S K := RT_c (funext fun k => p1 217 k (Or.inl (by decide))) (funext fun k => p1 218 k (Or.inl (by decide))) hR
                have hmm : K 219 (20 * s + t) = mk S s t := (p1 219 _ (Or.inl (by decide))).trans (hm s t (by omega) (by omega))
                have e0 := bX12_laysJust_4 (xcall xprog (d + 5)) e L K J (n32 h) (n32 t) (n32 s)
                by_cases qc : cl S s t = true
                · have hne := cl_ne qc
                  have hct : cts S (mk S s t) t = true := by
                    unfold cl at qc
                    rw [Bool.and_eq_true] at qc
                    exact qc.2
                  obtain ⟨_, _, ps, pq, han⟩ := cl_facts hk qc
                  have hst := anc_lt han
                  have hsh : hei S s < h := by rw [← qh]; exact anc_hgt han
                  have hjs : bt (K 209 26) s = jst S s := by
                    rw [p2 s (by omega)]
                    simp [hs, hsh, show ¬ s = t by omega]
                  have l1 := lv_20 hw hs
                  have l2 := lv_20 hw ht
                  refine ⟨rM S K s t, e0.trans ?_, ?_, ?_, ?_, ?_⟩
                  · unfold rM
                    have hS4 : (xu (xu K 209 32 (K 209 32 + 1)) 209 26 (K 209 26 ||| (1 <<< (n32 t &&& 31)))) 211 = S := by rw [xu_rne (by decide), xu_rne (by decide), hS3]
                    have hR4 : RT S (xu (xu K 209 32 (K 209 32 + 1)) 209 26 (K 209 26 ||| (1 <<< (n32 t &&& 31)))) := RT_c (by rw [xu_rne (by decide), xu_rne (by decide)]) (by rw [xu_rne (by decide), xu_rne (by decide)]) hR3
                    by_cases q1 : jst S s = true
                    · rw [if_pos q1]
                      by_cases q2 : lv S t = lv S s + 1
                      · rw [if_pos q2]
                        simp (disch := omega) only [n32_ltE, n32_leE, n32_eqE, n32_eqm, m1_eqn, n32_ge0, n32_lt0, n32_nat, n32_succ, n32_add, xin_n32, xin_b1, xin_b2, cond_true, cond_false, if_true, if_false, xcI_some, xcV_some, xcJ_some, xcR_some, xu_ee, xu_rne, xu_kne, ite_self, not_true_eq_false, not_false_eq_true, ne_eq, true_and, and_true, false_and, and_false, m1_lt0, m1_eq0, eq_self, Bool.false_eq_true, reduceCtorEq, z_lt0, i1_eq0, i0_eq1, i1_eq1, xrZ0, xrZ1, xrZt, n32_eq0, n32_eq1, n32_gt0, n32_gt1, n32_lt1, n32_le1, n32_0le, tf0, tf1, xaI_of, q20a, q20b, q20m, q20l, q20g, q20r, q20s, q20e, bX12_laysJust_0, bX12_laysJust_3, ekX12_laysJust_4_20, ekX12_laysJust_5_9, bX12_laysJust_5, ekX12_laysJust_6_13, ekX12_laysJust_6_10, bX12_laysJust_6, bX12_laysJust_7, bX12_laysJust_8, bX12_laysJust_9, bX12_laysJust_10, ekX12_laysJust_11_17, ekX12_laysJust_11_13, ekX12_laysJust_11_9, bX12_laysJust_12, bX12_laysJust_13, hS3, wf_2 hw, hs, n32_20, hmm, hne, r_counts hS3 hw hR3 ht, hct, sX12_bitOf, bt_t1, hjs, q1, r_level hS4 hw hR4 ht, r_level hS4 hw hR4 hs, q2]
                      · rw [if_neg q2]
                        simp (disch := omega) only [n32_ltE, n32_leE, n32_eqE, n32_eqm, m1_eqn, n32_ge0, n32_lt0, n32_nat, n32_succ, n32_add, xin_n32, xin_b1, xin_b2, cond_true, cond_false, if_true, if_false, xcI_some, xcV_some, xcJ_some, xcR_some, xu_ee, xu_rne, xu_kne, ite_self, not_true_eq_false, not_false_eq_true, ne_eq, true_and, and_true, false_and, and_false, m1_lt0, m1_eq0, eq_self, Bool.false_eq_true, reduceCtorEq, z_lt0, i1_eq0, i0_eq1, i1_eq1, xrZ0, xrZ1, xrZt, n32_eq0, n32_eq1, n32_gt0, n32_gt1, n32_lt1, n32_le1, n32_0le, tf0, tf1, xaI_of, q20a, q20b, q20m, q20l, q20g, q20r, q20s, q20e, bX12_laysJust_0, bX12_laysJust_3, ekX12_laysJust_4_20, ekX12_laysJust_5_9, bX12_laysJust_5, ekX12_laysJust_6_13, ekX12_laysJust_6_10, bX12_laysJust_6, bX12_laysJust_7, bX12_laysJust_8, bX12_laysJust_9, bX12_laysJust_10, ekX12_laysJust_11_17, ekX12_laysJust_11_13, ekX12_laysJust_11_9, bX12_laysJust_12, bX12_laysJust_13, hS3, wf_2 hw, hs, n32_20, hmm, hne, r_counts hS3 hw hR3 ht, hct, sX12_bitOf, bt_t1, hjs, q1, r_level hS4 hw hR4 ht, r_level hS4 hw hR4 hs, q2]
                    · rw [if_neg q1]
                      simp (disch := omega) only [n32_ltE, n32_leE, n32_eqE, n32_eqm, m1_eqn, n32_ge0, n32_lt0, n32_nat, n32_succ, n32_add, xin_n32, xin_b1, xin_b2, cond_true, cond_false, if_true, if_false, xcI_some, xcV_some, xcJ_some, xcR_some, xu_ee, xu_rne, xu_kne, ite_self, not_true_eq_false, not_false_eq_true, ne_eq, true_and, and_true, false_and, and_false, m1_lt0, m1_eq0, eq_self, Bool.false_eq_true, reduceCtorEq, z_lt0, i1_eq0, i0_eq1, i1_eq1, xrZ0, xrZ1, xrZt, n32_eq0, n32_eq1, n32_gt0, n32_gt1, n32_lt1, n32_le1, n32_0le, tf0, tf1, xaI_of, q20a, q20b, q20m, q20l, q20g, q20r, q20s, q20e, bX12_laysJust_0, bX12_laysJust_3, ekX12_laysJust_4_20, ekX12_laysJust_5_9, bX12_laysJust_5, ekX12_laysJust_6_13, ekX12_laysJust_6_10, bX12_laysJust_6, bX12_laysJust_7, bX12_laysJust_8, bX12_laysJust_9, bX12_laysJust_10, ekX12_laysJust_11_17, ekX12_laysJust_11_13, ekX12_laysJust_11_9, bX12_laysJust_12, bX12_laysJust_13, hS3, wf_2 hw, hs, n32_20, hmm, hne, r_counts hS3 hw hR3 ht, hct, sX12_bitOf, bt_t1, hjs, q1]
                  · unfold rM
                    by_cases q1 : jst S s = true
                    · rw [if_pos q1]
                      by_cases q2 : lv S t = lv S s + 1
                      · rw [if_pos q2]
                        exact fro (P := jk) (by simp [jk]) (fro (by simp [jk]) (fro (by simp [jk]) p1))
                      · rw [if_neg q2]
                        exact fro (P := jk) (by simp [jk]) (fro (by simp [jk]) p1)
                    · rw [if_neg q1]
                      exact fro (P := jk) (by simp [jk]) p1
                  · intro x hx
                    unfold rM
                    rw [exN_s, qc, Bool.true_and]
                    by_cases q1 : jst S s = true
                    · rw [if_pos q1]
                      have : bt (K 209 26 ||| (1 <<< (n32 t &&& 31))) x = ((decide (x < sB S ∧ (hei S x < h ∨ (hei S x = h ∧ x < t))) && jst S x) || (decide (x = t) && (exN (fun s => cl S s t && jst S s) s || true))) := by
                        rw [bt_set _ (by omega) hx, p2 x hx]
                        by_cases z : x = t <;> simp [z]
                      rw [q1]
                      by_cases q2 : lv S t = lv S s + 1
                      · rw [if_pos q2, xu_kne (by decide), xu_ee, this]
                      · rw [if_neg q2, xu_ee, this]
                    · rw [if_neg q1, xu_kne (by decide), p2 x hx]
                      simp [q1]
                  · intro x hx
                    unfold rM
                    by_cases q1 : jst S s = true
                    · rw [if_pos q1]
                      by_cases q2 : lv S t = lv S s + 1
                      · rw [if_pos q2, xu_ee, bt_set _ (by omega) hx, p3 x hx]
                        by_cases z : x = s
                        · subst z
                          simp [q1, q2, qc, fx]
                        · by_cases z2 : x < s
                          · simp [z, z2, show x < s + 1 by omega]
                          · simp [z, z2, show ¬ x < s + 1 by omega]
                      · rw [if_neg q2, xu_kne (by decide), xu_kne (by decide), p3 x hx]
                        by_cases z : x = s
                        · subst z
                          simp [q2, fx]
                        · by_cases z2 : x < s
                          · simp [z2, show x < s + 1 by omega]
                          · simp [z2, show ¬ x < s + 1 by omega]
                    · rw [if_neg q1, xu_kne (by decide), p3 x hx]
                      by_cases z : x = s
                      · subst z
                        simp [q1]
                      · by_cases z2 : x < s
                        · simp [z2, show x < s + 1 by omega]
                        · simp [z2, show ¬ x < s + 1 by omega]
                  · have hc1 : c1 S s t = 1 := by unfold c1; rw [if_pos qc]
                    have e9 : n32 (sumN (fun h => sumN (fun t => if hei S t = h then sumN (fun s => c1 S s t) (sB S) else 0) (sB S)) h + sumN (fun t => if hei S t = h then sumN (fun s => c1 S s t) (sB S) else 0) t + sumN (fun s => c1 S s t) (s + 1)) = K 209 32 + 1 := by
                      rw [sumN_s (fun s => c1 S s t), hc1, ← Nat.add_assoc, ← n32_succ, ← p4]
                    rw [e9]
                    unfold rM
                    by_cases q1 : jst S s = true
                    · rw [if_pos q1]
                      by_cases q2 : lv S t = lv S s + 1
                      · rw [if_pos q2, xu_kne (by decide), xu_kne (by decide), xu_ee]
                      · rw [if_neg q2, xu_kne (by decide), xu_ee]
                    · rw [if_neg q1, xu_ee]
                · have hc1 : c1 S s t = 0 := by unfold c1; rw [if_neg qc]
                  have qf : cl S s t = false := by simpa using qc
                  refine ⟨K, e0.trans ?_, p1, ?_, ?_, ?_⟩
                  · by_cases qn : mk S s t = 0
                    · simp (disch := omega) only [n32_ltE, n32_leE, n32_eqE, n32_eqm, m1_eqn, n32_ge0, n32_lt0, n32_nat, n32_succ, n32_add, xin_n32, xin_b1, xin_b2, cond_true, cond_false, if_true, if_false, xcI_some, xcV_some, xcJ_some, xcR_some, xu_ee, xu_rne, xu_kne, ite_self, not_true_eq_false, not_false_eq_true, ne_eq, true_and, and_true, false_and, and_false, m1_lt0, m1_eq0, eq_self, Bool.false_eq_true, reduceCtorEq, z_lt0, i1_eq0, i0_eq1, i1_eq1, xrZ0, xrZ1, xrZt, n32_eq0, n32_eq1, n32_gt0, n32_gt1, n32_lt1, n32_le1, n32_0le, tf0, tf1, xaI_of, q20a, q20b, q20m, q20l, q20g, q20r, q20s, q20e, bX12_laysJust_0, bX12_laysJust_3, ekX12_laysJust_4_20, ekX12_laysJust_5_9, bX12_laysJust_5, ekX12_laysJust_6_13, ekX12_laysJust_6_10, bX12_laysJust_6, bX12_laysJust_7, bX12_laysJust_8, bX12_laysJust_9, bX12_laysJust_10, ekX12_laysJust_11_17, ekX12_laysJust_11_13, ekX12_laysJust_11_9, bX12_laysJust_12, bX12_laysJust_13, hS3, wf_2 hw, hs, n32_20, hmm, qn]
                    · have hct : ¬ cts S (mk S s t) t = true := by
                        intro q
                        apply qc
                        unfold cl
                        rw [q]
                        simp [qn]
                      simp (disch := omega) only [n32_ltE, n32_leE, n32_eqE, n32_eqm, m1_eqn, n32_ge0, n32_lt0, n32_nat, n32_succ, n32_add, xin_n32, xin_b1, xin_b2, cond_true, cond_false, if_true, if_false, xcI_some, xcV_some, xcJ_some, xcR_some, xu_ee, xu_rne, xu_kne, ite_self, not_true_eq_false, not_false_eq_true, ne_eq, true_and, and_true, false_and, and_false, m1_lt0, m1_eq0, eq_self, Bool.false_eq_true, reduceCtorEq, z_lt0, i1_eq0, i0_eq1, i1_eq1, xrZ0, xrZ1, xrZt, n32_eq0, n32_eq1, n32_gt0, n32_gt1, n32_lt1, n32_le1, n32_0le, tf0, tf1, xaI_of, q20a, q20b, q20m, q20l, q20g, q20r, q20s, q20e, bX12_laysJust_0, bX12_laysJust_3, ekX12_laysJust_4_20, ekX12_laysJust_5_9, bX12_laysJust_5, ekX12_laysJust_6_13, ekX12_laysJust_6_10, bX12_laysJust_6, bX12_laysJust_7, bX12_laysJust_8, bX12_laysJust_9, bX12_laysJust_10, ekX12_laysJust_11_17, ekX12_laysJust_11_13, ekX12_laysJust_11_9, bX12_laysJust_12, bX12_laysJust_13, hS3, wf_2 hw, hs, n32_20, hmm, qn, r_counts hS3 hw hR3 ht, hct]
                  · intro x hx
                    rw [p2 x hx, exN_s, qf]
                    simp
                  · intro x hx
                    rw [p3 x hx]
                    by_cases z : x = s
                    · subst z
                      simp [qf, fx]
                    · by_cases z2 : x < s
                      · simp [z2, show x < s + 1 by omega]
                      · simp [z2, show ¬ x < s + 1 by omega]
                  · rw [p4, sumN_s (fun s => c1 S s t), hc1, Nat.add_zero]) K ⟨f1, fun x hx => by
                rw [f2 x hx]
                simp [exN], fun x hx => by
                rw [f3 x hx]
                simp, f4⟩
            have hS3 : M 211 = S := (funext fun k => e2 211 k (Or.inl (by decide))).trans hS
            refine ⟨M, e0.trans ?_, e2, ?_, ?_, ?_⟩
            · rw [hS2, wf_2 hw, if_pos ((n32_lt (by omega) (by omega)).mpr ht), xin_n32 (by omega) (by omega), cond_true, n32_nat (by omega), (hR2 t ht).1, if_pos (by rw [qh]), bX12_laysJust_3]
              refine e1.trans ((bX12_laysJust_4 _ e L M J _ _ _).trans ?_)
              simp (disch := omega) only [n32_ltE, n32_leE, n32_eqE, n32_eqm, m1_eqn, n32_ge0, n32_lt0, n32_nat, n32_succ, n32_add, xin_n32, xin_b1, xin_b2, cond_true, cond_false, if_true, if_false, xcI_some, xcV_some, xcJ_some, xcR_some, xu_ee, xu_rne, xu_kne, ite_self, not_true_eq_false, not_false_eq_true, ne_eq, true_and, and_true, false_and, and_false, m1_lt0, m1_eq0, eq_self, Bool.false_eq_true, reduceCtorEq, z_lt0, i1_eq0, i0_eq1, i1_eq1, xrZ0, xrZ1, xrZt, n32_eq0, n32_eq1, n32_gt0, n32_gt1, n32_lt1, n32_le1, n32_0le, tf0, tf1, xaI_of, q20a, q20b, q20m, q20l, q20g, q20r, q20s, q20e, bX12_laysJust_0, bX12_laysJust_3, ekX12_laysJust_4_20, ekX12_laysJust_5_9, bX12_laysJust_5, ekX12_laysJust_6_13, ekX12_laysJust_6_10, bX12_laysJust_6, bX12_laysJust_7, bX12_laysJust_8, bX12_laysJust_9, bX12_laysJust_10, ekX12_laysJust_11_17, ekX12_laysJust_11_13, ekX12_laysJust_11_9, bX12_laysJust_12, bX12_laysJust_13, hS3, wf_2 hw, Nat.lt_irrefl]
            · intro x hx
              rw [e3 x hx]
              by_cases z : x = t
              · subst z
                have hst : x ≠ 0 := by
                  rintro rfl
                  have : hei S 0 = 0 := hgt_z (Nat.not_lt_zero _)
                  omega
                have ej : exN (fun s => cl S s x && jst S s) (sB S) = exN (fun s => cl S s x && jst S s) x := by
                  rw [Bool.eq_iff_iff, exN_iff, exN_iff]
                  constructor
                  · rintro ⟨s, z1, z2⟩
                    rw [Bool.and_eq_true] at z2
                    exact ⟨s, anc_lt (cl_facts hk z2.1).2.2.2.2, by rw [Bool.and_eq_true]; exact z2⟩
                  · rintro ⟨s, z1, z2⟩
                    exact ⟨s, by omega, z2⟩
                have hjx : jst S x = exN (fun s => cl S s x && jst S s) (sB S) := by
                  rw [jst_eq, ej]
                  simp [hst]
                rw [← hjx]
                simp [ht, qh]
              · have : (x < sB S ∧ (hei S x < h ∨ (hei S x = h ∧ x < t + 1))) ↔ (x < sB S ∧ (hei S x < h ∨ (hei S x = h ∧ x < t))) := by omega
                simp [z, this]
            · intro x hx
              rw [e4 x hx, exN_s]
              by_cases z : x < sB S
              · simp [z, qh, Bool.or_assoc, Bool.and_or_distrib_left]
              · have : fx S x t = false := by
                  unfold fx
                  cases q : cl S x t with
                  | false => rfl
                  | true => exact absurd (cl_facts hk q).1 z
                simp [z, this]
            · rw [e5, sumN_s (fun t => if hei S t = h then sumN (fun s => c1 S s t) (sB S) else 0) t, if_pos qh, Nat.add_assoc]
          · refine ⟨K, e0.trans ?_, f1, ?_, ?_, ?_⟩
            · simp (disch := omega) only [n32_ltE, n32_leE, n32_eqE, n32_eqm, m1_eqn, n32_ge0, n32_lt0, n32_nat, n32_succ, n32_add, xin_n32, xin_b1, xin_b2, cond_true, cond_false, if_true, if_false, xcI_some, xcV_some, xcJ_some, xcR_some, xu_ee, xu_rne, xu_kne, ite_self, not_true_eq_false, not_false_eq_true, ne_eq, true_and, and_true, false_and, and_false, m1_lt0, m1_eq0, eq_self, Bool.false_eq_true, reduceCtorEq, z_lt0, i1_eq0, i0_eq1, i1_eq1, xrZ0, xrZ1, xrZt, n32_eq0, n32_eq1, n32_gt0, n32_gt1, n32_lt1, n32_le1, n32_0le, tf0, tf1, xaI_of, q20a, q20b, q20m, q20l, q20g, q20r, q20s, q20e, bX12_laysJust_0, bX12_laysJust_3, ekX12_laysJust_4_20, ekX12_laysJust_5_9, bX12_laysJust_5, ekX12_laysJust_6_13, ekX12_laysJust_6_10, bX12_laysJust_6, bX12_laysJust_7, bX12_laysJust_8, bX12_laysJust_9, bX12_laysJust_10, ekX12_laysJust_11_17, ekX12_laysJust_11_13, ekX12_laysJust_11_9, bX12_laysJust_12, bX12_laysJust_13, hS2, wf_2 hw, ht, (hR2 t ht).1, qh]
            · intro x hx
              rw [f2 x hx]
              have : (x < sB S ∧ (hei S x < h ∨ (hei S x = h ∧ x < t + 1))) ↔ (x < sB S ∧ (hei S x < h ∨ (hei S x = h ∧ x < t))) := by
                by_cases z : x = t
                · subst z
                  omega
                · omega
              simp [this]
            · intro x hx
              rw [f3 x hx, exN_s]
              simp [qh]
            · rw [f4, sumN_s (fun t => if hei S t = h then sumN (fun s => c1 S s t) (sB S) else 0) t, if_neg qh, Nat.add_zero]) K ⟨g1, fun x hx => by
          rw [g2 x hx]
          have : (x < sB S ∧ (hei S x < h ∨ (hei S x = h ∧ x < 0))) ↔ (x < sB S ∧ hei S x < h) := by omega
          simp, fun x hx => by
          rw [g3 x hx]
          simp [exN], g4⟩
      refine ⟨K', ?_, e2, ?_, ?_, ?_⟩
      · refine (bX12_laysJust_1 _ e L K J _).trans ?_
        have hh2 : n32 h < (20 : Int32) := (n32_lt (b := 20) (by omega) (by omega)).mpr (by omega)
        rw [if_pos hh2]
        refine e1.trans ((bX12_laysJust_2 _ e L K' J _ _).trans ?_)
        have hS2 : K' 211 = S := (funext fun k => e2 211 k (Or.inl (by decide))).trans hS
        rw [← hh]
        simp (disch := omega) only [n32_ltE, n32_leE, n32_eqE, n32_eqm, m1_eqn, n32_ge0, n32_lt0, n32_nat, n32_succ, n32_add, xin_n32, xin_b1, xin_b2, cond_true, cond_false, if_true, if_false, xcI_some, xcV_some, xcJ_some, xcR_some, xu_ee, xu_rne, xu_kne, ite_self, not_true_eq_false, not_false_eq_true, ne_eq, true_and, and_true, false_and, and_false, m1_lt0, m1_eq0, eq_self, Bool.false_eq_true, reduceCtorEq, z_lt0, i1_eq0, i0_eq1, i1_eq1, xrZ0, xrZ1, xrZt, n32_eq0, n32_eq1, n32_gt0, n32_gt1, n32_lt1, n32_le1, n32_0le, tf0, tf1, xaI_of, q20a, q20b, q20m, q20l, q20g, q20r, q20s, q20e, bX12_laysJust_0, bX12_laysJust_3, ekX12_laysJust_4_20, ekX12_laysJust_5_9, bX12_laysJust_5, ekX12_laysJust_6_13, ekX12_laysJust_6_10, bX12_laysJust_6, bX12_laysJust_7, bX12_laysJust_8, bX12_laysJust_9, bX12_laysJust_10, ekX12_laysJust_11_17, ekX12_laysJust_11_13, ekX12_laysJust_11_9, bX12_laysJust_12, bX12_laysJust_13, hS2, wf_2 hw, Nat.lt_irrefl]
        rfl
      · intro x hx
        rw [e3 x hx]
        have : (x < sB S ∧ (hei S x < h ∨ (hei S x = h ∧ x < sB S))) ↔ (x < sB S ∧ hei S x < 1 + (j + 1)) := by omega
        simp only [this]
      · intro x hx
        rw [e4 x hx, show 1 + (j + 1) = h + 1 by omega, exN_s, Bool.or_assoc, Bool.and_or_distrib_left]
      · rw [e5, show 1 + (j + 1) = h + 1 by omega, sumN_s]) (xu (xu (xu I 209 26 1) 209 27 1) 209 32 0) ⟨fro (P := jk) (by simp [jk]) (fro (by simp [jk]) (fro (by simp [jk]) (fun _ _ _ => rfl))), fun x hx => by
        rw [xu_kne (by decide), xu_kne (by decide), xu_ee, bt_one hx]
        by_cases z : x = 0
        · subst z
          have : hei S 0 = 0 := hgt_z (Nat.not_lt_zero _)
          simp [jst_0, this, hB]
        · have : ¬ (x < sB S ∧ hei S x < 1 + 0) := by
            rintro ⟨z1, z2⟩
            exact z ((wp_0 (wf_wp hw) z1).mp (by show hei S x = 0; omega))
          rw [decide_eq_false z, decide_eq_false this, Bool.false_and], fun x hx => by
        rw [xu_kne (by decide), xu_ee, bt_one hx]
        have : exN (fun h => exN (fun t => decide (hei S t = h) && fx S x t) (sB S)) (1 + 0) = false := exN_0 _ _ (fun h hh => exN_0 _ _ (fun t ht => by
          by_cases z : hei S t = h
          · have : t = 0 := (wp_0 (wf_wp hw) ht).mp (by show hei S t = 0; omega)
            subst this
            simp [fx, cl_0 hk]
          · simp [z]))
        rw [this]
        simp, by
        rw [xu_ee]
        have : sumN (fun h => sumN (fun t => if hei S t = h then sumN (fun s => c1 S s t) (sB S) else 0) (sB S)) (1 + 0) = 0 := by
          rw [sumN_c (g := fun _ => 0) (fun h hh => ?_), sumN_0]
          rw [sumN_c (g := fun _ => 0) (fun t ht => ?_), sumN_0]
          by_cases z : hei S t = h
          · have : t = 0 := (wp_0 (wf_wp hw) ht).mp (by show hei S t = 0; omega)
            subst this
            rw [if_pos z, sumN_c (g := fun _ => 0) (fun s hs => by unfold c1; rw [cl_0 hk]; rfl), sumN_0]
          · rw [if_neg z]
        rw [this]
        rfl⟩
  refine ⟨K, (bX12_laysJust_0 _ e L I J).trans (h1.trans ((bX12_laysJust_1 _ e L K J _).trans ?_)), h2, ?_, ?_, ?_⟩
  · simp (disch := omega) only [n32_ltE, n32_leE, n32_eqE, n32_eqm, m1_eqn, n32_ge0, n32_lt0, n32_nat, n32_succ, n32_add, xin_n32, xin_b1, xin_b2, cond_true, cond_false, if_true, if_false, xcI_some, xcV_some, xcJ_some, xcR_some, xu_ee, xu_rne, xu_kne, ite_self, not_true_eq_false, not_false_eq_true, ne_eq, true_and, and_true, false_and, and_false, m1_lt0, m1_eq0, eq_self, Bool.false_eq_true, reduceCtorEq, z_lt0, i1_eq0, i0_eq1, i1_eq1, xrZ0, xrZ1, xrZt, n32_eq0, n32_eq1, n32_gt0, n32_gt1, n32_lt1, n32_le1, n32_0le, tf0, tf1, xaI_of, q20a, q20b, q20m, q20l, q20g, q20r, q20s, q20e, Nat.lt_irrefl]
  · apply bt_ext
    intro x hx
    unfold jS
    rw [h3 x hx, bt_bs _ hx _ (by omega)]
    have := hi_lt (S := S) (b := x)
    have : (x < sB S ∧ hei S x < 1 + 19) ↔ x < sB S := by omega
    simp only [this]
  · apply bt_ext
    intro x hx
    unfold fS
    rw [h4 x hx, bt_bs _ hx _ (by omega)]
    unfold fin
    have ee : exN (fun h => exN (fun t => decide (hei S t = h) && fx S x t) (sB S)) (1 + 19) = exN (fun t => cl S x t && decide (lv S t = lv S x + 1)) (sB S) := by
      rw [Bool.eq_iff_iff, exN_iff, exN_iff]
      constructor
      · rintro ⟨h, z1, z2⟩
        obtain ⟨t, z3, z4⟩ := (exN_iff _ _).mp z2
        rw [Bool.and_eq_true] at z4
        exact ⟨t, z3, z4.2⟩
      · rintro ⟨t, z1, z2⟩
        have := hi_lt (S := S) (b := t)
        exact ⟨hei S t, by omega, (exN_iff _ _).mpr ⟨t, z1, by simpa [fx] using z2⟩⟩
    rw [ee]
    by_cases z : x < sB S
    · simp [z]
    · have z0 : ¬ x = 0 := by omega
      have : exN (fun t => cl S x t && decide (lv S t = lv S x + 1)) (sB S) = false := exN_0 _ _ (fun t ht => by
        have : cl S x t = false := by
          cases q : cl S x t with
          | false => rfl
          | true =>
            have := (cl_facts hk q).1
            omega
        simp [this])
      simp [z, z0, this]
  · rw [h5, sumN_swap]
    unfold cmS
    congr 1
    refine sumN_c (fun t ht => ?_)
    have := hi_lt (S := S) (b := t)
    rw [sumN_one, if_pos (by omega)]
end RJ
