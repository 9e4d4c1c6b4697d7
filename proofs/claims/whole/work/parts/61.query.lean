/-! Calls that only ask: how it stands now, the way, links, pairs. -/
section QN
variable {d e L : Nat} {S : TS} {N : Nat → Int64} {I K M : TI} {J : TJ} {a b s t v k i : Nat}
/-- the way's last block -/
theorem c_choice (hF : Fi S I) {n : Nat} (hn : WY S n) : xcall xprog (d + 1) 54 [.ref 47] (xst e L I J) = some (some (.int (if n = 0 then -1 else wy S (n - 1))), xst e L I J) := by
  obtain ⟨m, h1, h2, h3, h4⟩ := hF.2.2.2.2.2.2.2.2.2
  have : m = n := WY_u h1 hn
  subst this
  have h20 := hn.1
  rw [sX4_choice d e L I J (fun _ => by
    by_cases h0 : m = 0
    · subst h0
      rename_i q
      rw [h2] at q
      exact absurd (by decide) q
    · rw [h2, show (1 : Int32) = n32 1 from rfl, n32_sub (by omega)]
      exact xin_n32 (by omega) (by omega)), h2]
  by_cases h0 : m = 0
  · subst h0
    rfl
  · rw [if_neg h0, show (1 : Int32) = n32 1 from rfl, n32_sub (by omega), n32_nat (by omega), h3 (m - 1) (by omega)]
    have q : ¬ n32 m ≤ 0 := by
      rw [n32_ge0 (by omega)]
      exact h0
    rw [if_neg q]
theorem q_now (hW : WS S) (x : Int32) : same S N 129 227 [.int x] := by
  have hk := hW.2.1
  by_cases hn : ∃ n, WY S n
  rotate_left
  · refine ⟨0, fun d e L I J hC => ?_, fun d e L I J hC => ?_⟩
    · refine RR_eq ((aX11_now _ e L I J _).trans (bX11_now_0 _ e L I J _)) ?_
      refine RR_cV (c_fresh (d := d + 5) hC) (fun K J' ⟨j1, f1, hF, hC2⟩ => ?_)
      exact absurd (hF.2.2.2.2.2.2.2.2.2.imp fun n h => h.1) hn
    · refine RR_eq ((aX12_now _ e L I J _).trans (bX12_now_0 _ e L I J _)) ?_
      refine RR_cV (r_lays (d := d + 4) (RS_0 hC)) (fun K J' ⟨j1, f1, hF, hC2⟩ => ?_)
      exact absurd (hF.2.2.2.2.2.2.2.2.2.2.imp fun n h => h.1) hn
  obtain ⟨n, hn⟩ := hn
  have h20 := hn.1
  refine ⟨if x = 0 then jS S else if x = 1 then fS S else if x = 2 then ofS S else if x = 3 then S 3 else if x = 4 then n32 (lnN S (sK S)) else if x = 5 then n32 (cmS S) else if x = 6 then n32 (prS S) else if x = 7 then bsI S else if x = 8 then (if n = 0 then -1 else wy S (n - 1)) else -1, fun d e L I J hC => ?_, fun d e L I J hC => ?_⟩
  · refine RR_eq ((aX11_now _ e L I J _).trans (bX11_now_0 _ e L I J _)) ?_
    refine RR_cV (c_fresh (d := d + 5) hC) (fun K J' ⟨j1, f1, hF, hC2⟩ => ?_)
    subst j1
    simp (disch := omega) only [n32_ltE, n32_leE, n32_eqE, n32_eqm, m1_eqn, n32_ge0, n32_lt0, n32_nat, n32_succ, n32_add, xin_n32, xin_b1, xin_b2, cond_true, cond_false, if_true, if_false, xcI_some, xcV_some, xcJ_some, xcR_some, xu_ee, xu_rne, xu_kne, ite_self, not_true_eq_false, not_false_eq_true, ne_eq, true_and, and_true, false_and, and_false, m1_lt0, m1_eq0, eq_self, Bool.false_eq_true, reduceCtorEq, z_lt0, i1_eq0, i0_eq1, i1_eq1, xrZ0, xrZ1, xrZt, n32_eq0, n32_eq1, n32_gt0, n32_gt1, n32_lt1, n32_le1, n32_0le, tf0, tf1, xaI_of, q2a, q2b, q2m, q2l, q2g, q2r, q2s, q2e, q3a, q3b, q3m, q3l, q3g, q3r, q3s, q3e, q4a, q4b, q4m, q4l, q4g, q4r, q4s, q4e, q5a, q5b, q5m, q5l, q5g, q5r, q5s, q5e, q6a, q6b, q6m, q6l, q6g, q6r, q6s, q6e, q7a, q7b, q7m, q7l, q7g, q7r, q7s, q7e, q8a, q8b, q8m, q8l, q8g, q8r, q8s, q8e, ekX11_now_0_2, bX11_now_0, bX11_now_1, bX11_now_2, bX11_now_3, bX11_now_4, bX11_now_5, bX11_now_6, bX11_now_7, bX11_now_8, ekX11_now_9_2, bX11_now_9, bX11_now_10, hF.1, hF.2.1, hF.2.2.1, hF.2.2.2.1, hF.2.2.2.2.1, hF.2.2.2.2.2.1, hF.2.2.2.2.2.2.1, hC2.2.2.1.1, c_choice hF hn]
    refine RR_if (fun q => ?_) (fun q0 => ?_)
    · simp only [q, if_true]
      exact RR_I ⟨rfl, rfl, f1, hC2⟩
    refine RR_if (fun q => ?_) (fun q1 => ?_)
    · simp only [q0, q, if_true, if_false]
      exact RR_I ⟨rfl, rfl, f1, hC2⟩
    refine RR_if (fun q => ?_) (fun q2 => ?_)
    · simp only [q0, q1, q, if_true, if_false]
      exact RR_I ⟨rfl, rfl, f1, hC2⟩
    refine RR_if (fun q => ?_) (fun q3 => ?_)
    · simp only [q0, q1, q2, q, if_true, if_false]
      exact RR_I ⟨rfl, rfl, f1, hC2⟩
    refine RR_if (fun q => ?_) (fun q4 => ?_)
    · simp only [q0, q1, q2, q3, q, if_true, if_false]
      exact RR_I ⟨rfl, rfl, f1, hC2⟩
    refine RR_if (fun q => ?_) (fun q5 => ?_)
    · simp only [q0, q1, q2, q3, q4, q, if_true, if_false]
      exact RR_I ⟨rfl, rfl, f1, hC2⟩
    refine RR_if (fun q => ?_) (fun q6 => ?_)
    · simp only [q0, q1, q2, q3, q4, q5, q, if_true, if_false]
      exact RR_I ⟨rfl, rfl, f1, hC2⟩
    refine RR_if (fun q => ?_) (fun q7 => ?_)
    · simp only [q0, q1, q2, q3, q4, q5, q6, q, if_true, if_false]
      exact RR_I ⟨rfl, rfl, f1, hC2⟩
    refine RR_if (fun q => ?_) (fun q8 => ?_)
    · simp only [q0, q1, q2, q3, q4, q5, q6, q7, q, if_true, if_false]
      exact RR_I ⟨rfl, rfl, f1, hC2⟩
    · simp only [q0, q1, q2, q3, q4, q5, q6, q7, q8, if_false]
      exact RR_I ⟨rfl, rfl, f1, hC2⟩
  · refine RR_eq ((aX12_now _ e L I J _).trans (bX12_now_0 _ e L I J _)) ?_
    refine RR_cV (r_lays (d := d + 4) (RS_0 hC)) (fun K J' ⟨j1, f1, hF, hC2⟩ => ?_)
    subst j1
    obtain ⟨m, h1, h2, h3⟩ := hF.2.2.2.2.2.2.2.2.2.2
    have : m = n := WY_u h1 hn
    subst this
    by_cases h0 : m = 0
    · simp (disch := omega) only [n32_ltE, n32_leE, n32_eqE, n32_eqm, m1_eqn, n32_ge0, n32_lt0, n32_nat, n32_succ, n32_add, xin_n32, xin_b1, xin_b2, cond_true, cond_false, if_true, if_false, xcI_some, xcV_some, xcJ_some, xcR_some, xu_ee, xu_rne, xu_kne, ite_self, not_true_eq_false, not_false_eq_true, ne_eq, true_and, and_true, false_and, and_false, m1_lt0, m1_eq0, eq_self, Bool.false_eq_true, reduceCtorEq, z_lt0, i1_eq0, i0_eq1, i1_eq1, xrZ0, xrZ1, xrZt, n32_eq0, n32_eq1, n32_gt0, n32_gt1, n32_lt1, n32_le1, n32_0le, tf0, tf1, xaI_of, q2a, q2b, q2m, q2l, q2g, q2r, q2s, q2e, q3a, q3b, q3m, q3l, q3g, q3r, q3s, q3e, q4a, q4b, q4m, q4l, q4g, q4r, q4s, q4e, q5a, q5b, q5m, q5l, q5g, q5r, q5s, q5e, q6a, q6b, q6m, q6l, q6g, q6r, q6s, q6e, q7a, q7b, q7m, q7l, q7g, q7r, q7s, q7e, q8a, q8b, q8m, q8l, q8g, q8r, q8s, q8e, ekX12_now_0_4, bX12_now_0, bX12_now_1, bX12_now_2, bX12_now_3, bX12_now_4, bX12_now_5, bX12_now_6, bX12_now_7, bX12_now_8, bX12_now_9, bX12_now_10, bX12_now_11, bX12_now_12, hF.2.1, hF.2.2.1, hF.2.2.2.1, hF.2.2.2.2.1, hF.2.2.2.2.2.1, hF.2.2.2.2.2.2.1, hF.2.2.2.2.2.2.2.1, hC2.2.1, h2, h0]
      refine RR_if (fun q => ?_) (fun q0 => ?_)
      · simp only [q, if_true]
        exact RR_I (oR_l f1 hC2)
      refine RR_if (fun q => ?_) (fun q1 => ?_)
      · simp only [q0, q, if_true, if_false]
        exact RR_I (oR_l f1 hC2)
      refine RR_if (fun q => ?_) (fun q2 => ?_)
      · simp only [q0, q1, q, if_true, if_false]
        exact RR_I (oR_l f1 hC2)
      refine RR_if (fun q => ?_) (fun q3 => ?_)
      · simp only [q0, q1, q2, q, if_true, if_false]
        exact RR_I (oR_l f1 hC2)
      refine RR_if (fun q => ?_) (fun q4 => ?_)
      · simp only [q0, q1, q2, q3, q, if_true, if_false]
        exact RR_I (oR_l f1 hC2)
      refine RR_if (fun q => ?_) (fun q5 => ?_)
      · simp only [q0, q1, q2, q3, q4, q, if_true, if_false]
        exact RR_I (oR_l f1 hC2)
      refine RR_if (fun q => ?_) (fun q6 => ?_)
      · simp only [q0, q1, q2, q3, q4, q5, q, if_true, if_false]
        exact RR_I (oR_l f1 hC2)
      refine RR_if (fun q => ?_) (fun q7 => ?_)
      · simp only [q0, q1, q2, q3, q4, q5, q6, q, if_true, if_false]
        exact RR_I (oR_l f1 hC2)
      exact RR_I ⟨by simp only [q0, q1, q2, q3, q4, q5, q6, q7, if_false], rfl, rfr_t (lfr_rfr f1) rfr_0, hC2⟩
    · have hm : n32 m - 1 = n32 (m - 1) := n32_sub (b := 1) (by omega)
      simp (disch := omega) only [n32_ltE, n32_leE, n32_eqE, n32_eqm, m1_eqn, n32_ge0, n32_lt0, n32_nat, n32_succ, n32_add, xin_n32, xin_b1, xin_b2, cond_true, cond_false, if_true, if_false, xcI_some, xcV_some, xcJ_some, xcR_some, xu_ee, xu_rne, xu_kne, ite_self, not_true_eq_false, not_false_eq_true, ne_eq, true_and, and_true, false_and, and_false, m1_lt0, m1_eq0, eq_self, Bool.false_eq_true, reduceCtorEq, z_lt0, i1_eq0, i0_eq1, i1_eq1, xrZ0, xrZ1, xrZt, n32_eq0, n32_eq1, n32_gt0, n32_gt1, n32_lt1, n32_le1, n32_0le, tf0, tf1, xaI_of, q2a, q2b, q2m, q2l, q2g, q2r, q2s, q2e, q3a, q3b, q3m, q3l, q3g, q3r, q3s, q3e, q4a, q4b, q4m, q4l, q4g, q4r, q4s, q4e, q5a, q5b, q5m, q5l, q5g, q5r, q5s, q5e, q6a, q6b, q6m, q6l, q6g, q6r, q6s, q6e, q7a, q7b, q7m, q7l, q7g, q7r, q7s, q7e, q8a, q8b, q8m, q8l, q8g, q8r, q8s, q8e, ekX12_now_0_4, bX12_now_0, bX12_now_1, bX12_now_2, bX12_now_3, bX12_now_4, bX12_now_5, bX12_now_6, bX12_now_7, bX12_now_8, bX12_now_9, bX12_now_10, bX12_now_11, bX12_now_12, hF.2.1, hF.2.2.1, hF.2.2.2.1, hF.2.2.2.2.1, hF.2.2.2.2.2.1, hF.2.2.2.2.2.2.1, hF.2.2.2.2.2.2.2.1, hC2.2.1, h2, h0, hm, h3 (m - 1) (show m - 1 < m by omega)]
      refine RR_if (fun q => ?_) (fun q0 => ?_)
      · simp only [q, if_true]
        exact RR_I (oR_l f1 hC2)
      refine RR_if (fun q => ?_) (fun q1 => ?_)
      · simp only [q0, q, if_true, if_false]
        exact RR_I (oR_l f1 hC2)
      refine RR_if (fun q => ?_) (fun q2 => ?_)
      · simp only [q0, q1, q, if_true, if_false]
        exact RR_I (oR_l f1 hC2)
      refine RR_if (fun q => ?_) (fun q3 => ?_)
      · simp only [q0, q1, q2, q, if_true, if_false]
        exact RR_I (oR_l f1 hC2)
      refine RR_if (fun q => ?_) (fun q4 => ?_)
      · simp only [q0, q1, q2, q3, q, if_true, if_false]
        exact RR_I (oR_l f1 hC2)
      refine RR_if (fun q => ?_) (fun q5 => ?_)
      · simp only [q0, q1, q2, q3, q4, q, if_true, if_false]
        exact RR_I (oR_l f1 hC2)
      refine RR_if (fun q => ?_) (fun q6 => ?_)
      · simp only [q0, q1, q2, q3, q4, q5, q, if_true, if_false]
        exact RR_I (oR_l f1 hC2)
      refine RR_if (fun q => ?_) (fun q7 => ?_)
      · simp only [q0, q1, q2, q3, q4, q5, q6, q, if_true, if_false]
        exact RR_I (oR_l f1 hC2)
      refine RR_if (fun q => ?_) (fun q8 => ?_)
      · simp only [q0, q1, q2, q3, q4, q5, q6, q7, q, if_true, if_false]
        exact RR_I (oR_l f1 hC2)
      · simp only [q0, q1, q2, q3, q4, q5, q6, q7, q8, if_false]
        exact RR_I (oR_l f1 hC2)
theorem q_chosen (hW : WS S) (x : Int32) : same S N 130 228 [.int x] := by
  by_cases hn : ∃ n, WY S n
  rotate_left
  · refine ⟨0, fun d e L I J hC => ?_, fun d e L I J hC => ?_⟩
    · refine RR_eq ((aX11_chosen _ e L I J _).trans (bX11_chosen_0 _ e L I J _)) ?_
      refine RR_cV (c_fresh (d := d + 5) hC) (fun K J' ⟨j1, f1, hF, hC2⟩ => ?_)
      exact absurd (hF.2.2.2.2.2.2.2.2.2.imp fun n h => h.1) hn
    · refine RR_eq ((aX12_chosen _ e L I J _).trans (bX12_chosen_0 _ e L I J _)) ?_
      refine RR_cV (r_lays (d := d + 4) (RS_0 hC)) (fun K J' ⟨j1, f1, hF, hC2⟩ => ?_)
      exact absurd (hF.2.2.2.2.2.2.2.2.2.2.imp fun n h => h.1) hn
  obtain ⟨n, hn⟩ := hn
  have h20 := hn.1
  rcases inr_or x n (by omega) with ⟨i, hi, rfl⟩ | hx
  · refine ⟨wy S i, fun d e L I J hC => ?_, fun d e L I J hC => ?_⟩
    · refine RR_eq ((aX11_chosen _ e L I J _).trans (bX11_chosen_0 _ e L I J _)) ?_
      refine RR_cV (c_fresh (d := d + 5) hC) (fun K J' ⟨j1, f1, hF, hC2⟩ => ?_)
      subst j1
      obtain ⟨m, h1, h2, h3, h4⟩ := hF.2.2.2.2.2.2.2.2.2
      have : m = n := WY_u h1 hn
      subst this
      simp (disch := omega) only [n32_ltE, n32_leE, n32_eqE, n32_eqm, m1_eqn, n32_ge0, n32_lt0, n32_nat, n32_succ, n32_add, xin_n32, xin_b1, xin_b2, cond_true, cond_false, if_true, if_false, xcI_some, xcV_some, xcJ_some, xcR_some, xu_ee, xu_rne, xu_kne, ite_self, not_true_eq_false, not_false_eq_true, ne_eq, true_and, and_true, false_and, and_false, m1_lt0, m1_eq0, eq_self, Bool.false_eq_true, reduceCtorEq, z_lt0, i1_eq0, i0_eq1, i1_eq1, xrZ0, xrZ1, xrZt, n32_eq0, n32_eq1, n32_gt0, n32_gt1, n32_lt1, n32_le1, n32_0le, tf0, tf1, xaI_of, ekX11_chosen_0_2, bX11_chosen_0, bX11_chosen_1, bX11_chosen_2, h2, hi, h3 i hi]
      exact RR_I ⟨rfl, rfl, f1, hC2⟩
    · refine RR_eq ((aX12_chosen _ e L I J _).trans (bX12_chosen_0 _ e L I J _)) ?_
      refine RR_cV (r_lays (d := d + 4) (RS_0 hC)) (fun K J' ⟨j1, f1, hF, hC2⟩ => ?_)
      subst j1
      obtain ⟨m, h1, h2, h3⟩ := hF.2.2.2.2.2.2.2.2.2.2
      have : m = n := WY_u h1 hn
      subst this
      rw [ekX12_chosen_0_4, sX12_isIn, h2]
      simp only [le_pred (show m < 1000000 by omega)]
      simp (disch := omega) only [n32_ltE, n32_leE, n32_eqE, n32_eqm, m1_eqn, n32_ge0, n32_lt0, n32_nat, n32_succ, n32_add, xin_n32, xin_b1, xin_b2, cond_true, cond_false, if_true, if_false, xcI_some, xcV_some, xcJ_some, xcR_some, xu_ee, xu_rne, xu_kne, ite_self, not_true_eq_false, not_false_eq_true, ne_eq, true_and, and_true, false_and, and_false, m1_lt0, m1_eq0, eq_self, Bool.false_eq_true, reduceCtorEq, z_lt0, i1_eq0, i0_eq1, i1_eq1, xrZ0, xrZ1, xrZt, n32_eq0, n32_eq1, n32_gt0, n32_gt1, n32_lt1, n32_le1, n32_0le, tf0, tf1, xaI_of, ekX12_chosen_0_11, ekX12_chosen_0_4, bX12_chosen_0, bX12_chosen_1, bX12_chosen_2, hi, h3 i hi]
      exact RR_I (oR_l f1 hC2)
  · refine ⟨-1, fun d e L I J hC => ?_, fun d e L I J hC => ?_⟩
    · refine RR_eq ((aX11_chosen _ e L I J _).trans (bX11_chosen_0 _ e L I J _)) ?_
      refine RR_cV (c_fresh (d := d + 5) hC) (fun K J' ⟨j1, f1, hF, hC2⟩ => ?_)
      subst j1
      obtain ⟨m, h1, h2, h3, h4⟩ := hF.2.2.2.2.2.2.2.2.2
      have : m = n := WY_u h1 hn
      subst this
      rcases hx with hx | hx
      · simp (disch := omega) only [n32_ltE, n32_leE, n32_eqE, n32_eqm, m1_eqn, n32_ge0, n32_lt0, n32_nat, n32_succ, n32_add, xin_n32, xin_b1, xin_b2, cond_true, cond_false, if_true, if_false, xcI_some, xcV_some, xcJ_some, xcR_some, xu_ee, xu_rne, xu_kne, ite_self, not_true_eq_false, not_false_eq_true, ne_eq, true_and, and_true, false_and, and_false, m1_lt0, m1_eq0, eq_self, Bool.false_eq_true, reduceCtorEq, z_lt0, i1_eq0, i0_eq1, i1_eq1, xrZ0, xrZ1, xrZt, n32_eq0, n32_eq1, n32_gt0, n32_gt1, n32_lt1, n32_le1, n32_0le, tf0, tf1, xaI_of, ekX11_chosen_0_2, bX11_chosen_0, bX11_chosen_1, bX11_chosen_2, hx]
        exact RR_I ⟨rfl, rfl, f1, hC2⟩
      · simp (disch := omega) only [n32_ltE, n32_leE, n32_eqE, n32_eqm, m1_eqn, n32_ge0, n32_lt0, n32_nat, n32_succ, n32_add, xin_n32, xin_b1, xin_b2, cond_true, cond_false, if_true, if_false, xcI_some, xcV_some, xcJ_some, xcR_some, xu_ee, xu_rne, xu_kne, ite_self, not_true_eq_false, not_false_eq_true, ne_eq, true_and, and_true, false_and, and_false, m1_lt0, m1_eq0, eq_self, Bool.false_eq_true, reduceCtorEq, z_lt0, i1_eq0, i0_eq1, i1_eq1, xrZ0, xrZ1, xrZt, n32_eq0, n32_eq1, n32_gt0, n32_gt1, n32_lt1, n32_le1, n32_0le, tf0, tf1, xaI_of, ekX11_chosen_0_2, bX11_chosen_0, bX11_chosen_1, bX11_chosen_2, h2, hx]
        exact RR_I ⟨rfl, rfl, f1, hC2⟩
    · refine RR_eq ((aX12_chosen _ e L I J _).trans (bX12_chosen_0 _ e L I J _)) ?_
      refine RR_cV (r_lays (d := d + 4) (RS_0 hC)) (fun K J' ⟨j1, f1, hF, hC2⟩ => ?_)
      subst j1
      obtain ⟨m, h1, h2, h3⟩ := hF.2.2.2.2.2.2.2.2.2.2
      have : m = n := WY_u h1 hn
      subst this
      rw [ekX12_chosen_0_4, sX12_isIn, h2]
      simp only [le_pred (show m < 1000000 by omega)]
      rcases hx with hx | hx
      · simp (disch := omega) only [n32_ltE, n32_leE, n32_eqE, n32_eqm, m1_eqn, n32_ge0, n32_lt0, n32_nat, n32_succ, n32_add, xin_n32, xin_b1, xin_b2, cond_true, cond_false, if_true, if_false, xcI_some, xcV_some, xcJ_some, xcR_some, xu_ee, xu_rne, xu_kne, ite_self, not_true_eq_false, not_false_eq_true, ne_eq, true_and, and_true, false_and, and_false, m1_lt0, m1_eq0, eq_self, Bool.false_eq_true, reduceCtorEq, z_lt0, i1_eq0, i0_eq1, i1_eq1, xrZ0, xrZ1, xrZt, n32_eq0, n32_eq1, n32_gt0, n32_gt1, n32_lt1, n32_le1, n32_0le, tf0, tf1, xaI_of, ekX12_chosen_0_11, ekX12_chosen_0_4, bX12_chosen_0, bX12_chosen_1, bX12_chosen_2, hx]
        exact RR_I (oR_l f1 hC2)
      · simp (disch := omega) only [n32_ltE, n32_leE, n32_eqE, n32_eqm, m1_eqn, n32_ge0, n32_lt0, n32_nat, n32_succ, n32_add, xin_n32, xin_b1, xin_b2, cond_true, cond_false, if_true, if_false, xcI_some, xcV_some, xcJ_some, xcR_some, xu_ee, xu_rne, xu_kne, ite_self, not_true_eq_false, not_false_eq_true, ne_eq, true_and, and_true, false_and, and_false, m1_lt0, m1_eq0, eq_self, Bool.false_eq_true, reduceCtorEq, z_lt0, i1_eq0, i0_eq1, i1_eq1, xrZ0, xrZ1, xrZt, n32_eq0, n32_eq1, n32_gt0, n32_gt1, n32_lt1, n32_le1, n32_0le, tf0, tf1, xaI_of, ekX12_chosen_0_11, ekX12_chosen_0_4, bX12_chosen_0, bX12_chosen_1, bX12_chosen_2, hx]
        exact RR_I (oR_l f1 hC2)
/-- whether two numbers are a link -/
def lnk (S : TS) (x y : Int32) : Prop := ∃ s t, s < sB S ∧ t < sB S ∧ x = n32 s ∧ y = n32 t ∧ pt S s = true ∧ pt S t = true ∧ anc (par S) s t = true
theorem c_isLink_l (hT : Tr 7 S N I J) (hw : wfT S) {x y : Int32} (h : lnk S x y) : xcall xprog (d + 3) 25 [.ref 7, .int x, .int y] (xst e L I J) = some (some (.int 1), xst e L I J) := by
  obtain ⟨s, t, h1, h2, rfl, rfl, h3, h4, h5⟩ := h
  rw [c_isLink hT hw h1 h2, h3, h4, h5]
  rfl
theorem c_isLink_n (hT : Tr 7 S N I J) (hw : wfT S) {x y : Int32} (h : ¬ lnk S x y) : xcall xprog (d + 3) 25 [.ref 7, .int x, .int y] (xst e L I J) = some (some (.int 0), xst e L I J) := by
  have h20 := wf_B hw
  rcases inr_or x (sB S) (by omega) with ⟨a, ha, rfl⟩ | hx
  · rcases inr_or y (sB S) (by omega) with ⟨b, hb, rfl⟩ | hy
    · rw [c_isLink hT hw ha hb, if_neg]
      intro q
      simp only [Bool.and_eq_true] at q
      exact h ⟨a, b, ha, hb, rfl, rfl, q.1.1, q.1.2, q.2⟩
    · exact c_isLink_n2 hT hw ha hy
  · exact c_isLink_n1 hT hw hx
theorem r_isLink_l (hC : RS S I) {x y : Int32} (h : lnk S x y) : RR (xcall xprog (d + 8) 210 [.ref 209, .int x, .int y] (xst e L I J)) (zI e L fun z K J' => z = 1 ∧ J' = J ∧ lfr K I ∧ Rf S K ∧ RS S K) := by
  obtain ⟨s, t, h1, h2, rfl, rfl, h3, h4, h5⟩ := h
  have hw := hC.1.1
  have h20 := wf_B hw
  refine RR_eq ((aX12_isLink _ e L I J _ _).trans (bX12_isLink_0 _ e L I J _ _)) ?_
  simp (disch := omega) only [n32_ltE, n32_leE, n32_eqE, n32_eqm, m1_eqn, n32_ge0, n32_lt0, n32_nat, n32_succ, n32_add, xin_n32, xin_b1, xin_b2, cond_true, cond_false, if_true, if_false, xcI_some, xcV_some, xcJ_some, xcR_some, xu_ee, xu_rne, xu_kne, ite_self, not_true_eq_false, not_false_eq_true, ne_eq, true_and, and_true, false_and, and_false, m1_lt0, m1_eq0, eq_self, Bool.false_eq_true, reduceCtorEq, z_lt0, i1_eq0, i0_eq1, i1_eq1, xrZ0, xrZ1, xrZt, n32_eq0, n32_eq1, n32_gt0, n32_gt1, n32_lt1, n32_le1, n32_0le, tf0, tf1, xaI_of, r_isBlock_y hC.2.1 hw h1, r_isBlock_y hC.2.1 hw h2, ekX12_isLink_0_6, ekX12_isLink_0_2, bX12_isLink_0, bX12_isLink_1, ekX12_isLink_2_13, ekX12_isLink_2_8, ekX12_isLink_2_4, ekX12_isLink_2_1, bX12_isLink_2, bX12_isLink_3, bX12_isLink_4]
  refine RR_cV (r_lays (d := d) hC) (fun K J' ⟨j1, f1, hF, hC2⟩ => ?_)
  subst j1
  simp (disch := omega) only [n32_ltE, n32_leE, n32_eqE, n32_eqm, m1_eqn, n32_ge0, n32_lt0, n32_nat, n32_succ, n32_add, xin_n32, xin_b1, xin_b2, cond_true, cond_false, if_true, if_false, xcI_some, xcV_some, xcJ_some, xcR_some, xu_ee, xu_rne, xu_kne, ite_self, not_true_eq_false, not_false_eq_true, ne_eq, true_and, and_true, false_and, and_false, m1_lt0, m1_eq0, eq_self, Bool.false_eq_true, reduceCtorEq, z_lt0, i1_eq0, i0_eq1, i1_eq1, xrZ0, xrZ1, xrZt, n32_eq0, n32_eq1, n32_gt0, n32_gt1, n32_lt1, n32_le1, n32_0le, tf0, tf1, xaI_of, ekX12_isLink_0_6, ekX12_isLink_0_2, bX12_isLink_0, bX12_isLink_1, ekX12_isLink_2_13, ekX12_isLink_2_8, ekX12_isLink_2_4, ekX12_isLink_2_1, bX12_isLink_2, bX12_isLink_3, bX12_isLink_4, r_isPoint hC2.2.1 hw hF.1 h1, r_isPoint hC2.2.1 hw hF.1 h2, r_isAhead hw hF.1 (show s < 32 by omega) h2, h3, h4, h5]
  exact RR_I ⟨rfl, rfl, f1, hF, hC2⟩
theorem r_isLink_n (hC : RS S I) {x y : Int32} (h : ¬ lnk S x y) : RR (xcall xprog (d + 8) 210 [.ref 209, .int x, .int y] (xst e L I J)) (zI e L fun z K J' => z = 0 ∧ J' = J ∧ lfr K I ∧ RS S K) := by
  have hw := hC.1.1
  have h20 := wf_B hw
  refine RR_eq ((aX12_isLink _ e L I J _ _).trans (bX12_isLink_0 _ e L I J _ _)) ?_
  rcases inr_or x (sB S) (by omega) with ⟨a, ha, rfl⟩ | hx
  · rcases inr_or y (sB S) (by omega) with ⟨b, hb, rfl⟩ | hy
    · simp (disch := omega) only [n32_ltE, n32_leE, n32_eqE, n32_eqm, m1_eqn, n32_ge0, n32_lt0, n32_nat, n32_succ, n32_add, xin_n32, xin_b1, xin_b2, cond_true, cond_false, if_true, if_false, xcI_some, xcV_some, xcJ_some, xcR_some, xu_ee, xu_rne, xu_kne, ite_self, not_true_eq_false, not_false_eq_true, ne_eq, true_and, and_true, false_and, and_false, m1_lt0, m1_eq0, eq_self, Bool.false_eq_true, reduceCtorEq, z_lt0, i1_eq0, i0_eq1, i1_eq1, xrZ0, xrZ1, xrZt, n32_eq0, n32_eq1, n32_gt0, n32_gt1, n32_lt1, n32_le1, n32_0le, tf0, tf1, xaI_of, r_isBlock_y hC.2.1 hw ha, r_isBlock_y hC.2.1 hw hb, ekX12_isLink_0_6, ekX12_isLink_0_2, bX12_isLink_0, bX12_isLink_1, ekX12_isLink_2_13, ekX12_isLink_2_8, ekX12_isLink_2_4, ekX12_isLink_2_1, bX12_isLink_2, bX12_isLink_3, bX12_isLink_4]
      refine RR_cV (r_lays (d := d) hC) (fun K J' ⟨j1, f1, hF, hC2⟩ => ?_)
      subst j1
      simp (disch := omega) only [n32_ltE, n32_leE, n32_eqE, n32_eqm, m1_eqn, n32_ge0, n32_lt0, n32_nat, n32_succ, n32_add, xin_n32, xin_b1, xin_b2, cond_true, cond_false, if_true, if_false, xcI_some, xcV_some, xcJ_some, xcR_some, xu_ee, xu_rne, xu_kne, ite_self, not_true_eq_false, not_false_eq_true, ne_eq, true_and, and_true, false_and, and_false, m1_lt0, m1_eq0, eq_self, Bool.false_eq_true, reduceCtorEq, z_lt0, i1_eq0, i0_eq1, i1_eq1, xrZ0, xrZ1, xrZt, n32_eq0, n32_eq1, n32_gt0, n32_gt1, n32_lt1, n32_le1, n32_0le, tf0, tf1, xaI_of, ekX12_isLink_0_6, ekX12_isLink_0_2, bX12_isLink_0, bX12_isLink_1, ekX12_isLink_2_13, ekX12_isLink_2_8, ekX12_isLink_2_4, ekX12_isLink_2_1, bX12_isLink_2, bX12_isLink_3, bX12_isLink_4, r_isPoint hC2.2.1 hw hF.1 ha, r_isPoint hC2.2.1 hw hF.1 hb, r_isAhead hw hF.1 (show a < 32 by omega) hb]
      cases q1 : pt S a
      · exact RR_I ⟨rfl, rfl, f1, hC2⟩
      · cases q2 : pt S b
        · exact RR_I ⟨rfl, rfl, f1, hC2⟩
        · cases q3 : anc (par S) a b
          · exact RR_I ⟨rfl, rfl, f1, hC2⟩
          · exact absurd ⟨a, b, ha, hb, rfl, rfl, q1, q2, q3⟩ h
    · simp (disch := omega) only [n32_ltE, n32_leE, n32_eqE, n32_eqm, m1_eqn, n32_ge0, n32_lt0, n32_nat, n32_succ, n32_add, xin_n32, xin_b1, xin_b2, cond_true, cond_false, if_true, if_false, xcI_some, xcV_some, xcJ_some, xcR_some, xu_ee, xu_rne, xu_kne, ite_self, not_true_eq_false, not_false_eq_true, ne_eq, true_and, and_true, false_and, and_false, m1_lt0, m1_eq0, eq_self, Bool.false_eq_true, reduceCtorEq, z_lt0, i1_eq0, i0_eq1, i1_eq1, xrZ0, xrZ1, xrZt, n32_eq0, n32_eq1, n32_gt0, n32_gt1, n32_lt1, n32_le1, n32_0le, tf0, tf1, xaI_of, r_isBlock_y hC.2.1 hw ha, r_isBlock_n hC.2.1 hw hy, ekX12_isLink_0_6, ekX12_isLink_0_2, bX12_isLink_0, bX12_isLink_1, ekX12_isLink_2_13, ekX12_isLink_2_8, ekX12_isLink_2_4, ekX12_isLink_2_1, bX12_isLink_2, bX12_isLink_3, bX12_isLink_4]
      exact RR_I ⟨rfl, rfl, lfr_r, hC⟩
  · simp (disch := omega) only [n32_ltE, n32_leE, n32_eqE, n32_eqm, m1_eqn, n32_ge0, n32_lt0, n32_nat, n32_succ, n32_add, xin_n32, xin_b1, xin_b2, cond_true, cond_false, if_true, if_false, xcI_some, xcV_some, xcJ_some, xcR_some, xu_ee, xu_rne, xu_kne, ite_self, not_true_eq_false, not_false_eq_true, ne_eq, true_and, and_true, false_and, and_false, m1_lt0, m1_eq0, eq_self, Bool.false_eq_true, reduceCtorEq, z_lt0, i1_eq0, i0_eq1, i1_eq1, xrZ0, xrZ1, xrZt, n32_eq0, n32_eq1, n32_gt0, n32_gt1, n32_lt1, n32_le1, n32_0le, tf0, tf1, xaI_of, r_isBlock_n hC.2.1 hw hx, ekX12_isLink_0_6, ekX12_isLink_0_2, bX12_isLink_0, bX12_isLink_1, ekX12_isLink_2_13, ekX12_isLink_2_8, ekX12_isLink_2_4, ekX12_isLink_2_1, bX12_isLink_2, bX12_isLink_3, bX12_isLink_4]
    exact RR_I ⟨rfl, rfl, lfr_r, hC⟩
def lnkV (S : TS) (s t : Nat) (x : Int32) : Int32 := if x = 0 then mk S s t else if x = 1 then smv (wfo S t 1) (mk S s t) (sV S) else if x = 2 then smv (wfo S t 1) 255 (sV S) else if x = 3 then smv (wfo S t 2) (mk S s t) (sV S) else if x = 4 then smv (wfo S t 2) 255 (sV S) else if cts S (mk S s t) t = true then 1 else 0
theorem c_link_t (hC : CS S N I J) (hs : s < sB S) (ht : t < sB S) (ps : pt S s = true) (pq : pt S t = true) (ha : anc (par S) s t = true) {x : Int32} (h0 : ¬ x < 0) (h5 : x ≤ 5) : RR (xcall xprog (d + 7) 122 [.ref 0, .int (n32 s), .int (n32 t), .int x] (xst e L I J)) (zI e L (oC S N I J (lnkV S s t x))) := by
  have hw := hC.1.1
  have h20 := wf_B hw
  have h8 := wf_V8 hw
  have hs20 : s < 20 := by omega
  have ht20 : t < 20 := by omega
  refine RR_eq ((aX11_link _ e L I J _ _ _).trans (bX11_link_0 _ e L I J _ _ _)) ?_
  rw [c_isLink_l hC.2.1 hw ⟨s, t, hs, ht, rfl, rfl, ps, pq, ha⟩]
  simp (disch := omega) only [n32_ltE, n32_leE, n32_eqE, n32_eqm, m1_eqn, n32_ge0, n32_lt0, n32_nat, n32_succ, n32_add, xin_n32, xin_b1, xin_b2, cond_true, cond_false, if_true, if_false, xcI_some, xcV_some, xcJ_some, xcR_some, xu_ee, xu_rne, xu_kne, ite_self, not_true_eq_false, not_false_eq_true, ne_eq, true_and, and_true, false_and, and_false, m1_lt0, m1_eq0, eq_self, Bool.false_eq_true, reduceCtorEq, z_lt0, i1_eq0, i0_eq1, i1_eq1, xrZ0, xrZ1, xrZt, n32_eq0, n32_eq1, n32_gt0, n32_gt1, n32_lt1, n32_le1, n32_0le, tf0, tf1, xaI_of, ekX11_link_0_4, h0, h5]
  refine RR_eq (bX11_link_2 _ e L I J _ _ _) ?_
  refine RR_cV (c_fresh (d := d) hC) (fun K J' ⟨j1, f1, hF, hC2⟩ => ?_)
  subst j1
  have hT := hC2.2.1
  have hV := t7_V hT hw
  have hm := hF.2.2.2.2.2.2.2.1 s t hs20 ht20
  have e1 : ∀ set, smv (K (wr S t 1)) set (sV S) = smv (wfo S t 1) set (sV S) := fun set => smv_c (fun v hv => wr_row hT ht hv)
  have e2 : ∀ set, smv (K (wr S t 2)) set (sV S) = smv (wfo S t 2) set (sV S) := fun set => smv_c (fun v hv => wr_row hT ht hv)
  rw [ekX11_link_2_2]
  simp (disch := omega) only [n32_ltE, n32_leE, n32_eqE, n32_eqm, m1_eqn, n32_ge0, n32_lt0, n32_nat, n32_succ, n32_add, xin_n32, xin_b1, xin_b2, cond_true, cond_false, if_true, if_false, xcI_some, xcV_some, xcJ_some, xcR_some, xu_ee, xu_rne, xu_kne, ite_self, not_true_eq_false, not_false_eq_true, ne_eq, true_and, and_true, false_and, and_false, m1_lt0, m1_eq0, eq_self, Bool.false_eq_true, reduceCtorEq, z_lt0, i1_eq0, i0_eq1, i1_eq1, xrZ0, xrZ1, xrZt, n32_eq0, n32_eq1, n32_gt0, n32_gt1, n32_lt1, n32_le1, n32_0le, tf0, tf1, xaI_of, q2a, q2b, q2m, q2l, q2g, q2r, q2s, q2e, q3a, q3b, q3m, q3l, q3g, q3r, q3s, q3e, q4a, q4b, q4m, q4l, q4g, q4r, q4s, q4e, q5a, q5b, q5m, q5l, q5g, q5r, q5s, q5e, xaR_50, xaI_of (G0_51 s hs20), hm, ekX11_link_0_4, bX11_link_0, bX11_link_1, ekX11_link_2_2, bX11_link_2, bX11_link_3, ekX11_link_4_7, ekX11_link_4_5, bX11_link_4, ekX11_link_5_7, ekX11_link_5_5, bX11_link_5, ekX11_link_6_7, ekX11_link_6_5, bX11_link_6, ekX11_link_7_7, ekX11_link_7_5, bX11_link_7, ekX11_link_8_4, bX11_link_8, bX11_link_9, bX11_link_10, c_foreOf hT hw ht pq, c_rearOf hT hw ht pq, c_sumOf hV h8 (wr_G0 hw ht), c_countsWith hT hw ht pq, e1, e2]
  unfold lnkV
  refine RR_if (fun q => ?_) (fun q0 => ?_)
  · simp only [q, if_true]
    exact RR_I ⟨rfl, rfl, f1, hC2⟩
  refine RR_if (fun q => ?_) (fun q1 => ?_)
  · simp only [q0, q, if_true, if_false]
    exact RR_I ⟨rfl, rfl, f1, hC2⟩
  refine RR_if (fun q => ?_) (fun q2 => ?_)
  · simp only [q0, q1, q, if_true, if_false]
    exact RR_I ⟨rfl, rfl, f1, hC2⟩
  refine RR_if (fun q => ?_) (fun q3 => ?_)
  · simp only [q0, q1, q2, q, if_true, if_false]
    exact RR_I ⟨rfl, rfl, f1, hC2⟩
  refine RR_if (fun q => ?_) (fun q4 => ?_)
  · simp only [q0, q1, q2, q3, q, if_true, if_false]
    exact RR_I ⟨rfl, rfl, f1, hC2⟩
  · simp only [q0, q1, q2, q3, q4, if_false]
    cases cts S (mk S s t) t <;> exact RR_I ⟨rfl, rfl, f1, hC2⟩
theorem c_link_f (hC : CS S N I J) {y z x : Int32} (h : ¬ lnk S y z ∨ x < 0 ∨ ¬ x ≤ 5) : xcall xprog (d + 7) 122 [.ref 0, .int y, .int z, .int x] (xst e L I J) = some (some xT, xst (e + 1) L I J) := by
  have hw := hC.1.1
  refine (aX11_link _ e L I J _ _ _).trans ((bX11_link_0 _ e L I J _ _ _).trans ?_)
  by_cases hl : lnk S y z
  · rw [c_isLink_l hC.2.1 hw hl]
    rcases h with h | h | h
    · exact absurd hl h
    · simp (disch := omega) only [n32_ltE, n32_leE, n32_eqE, n32_eqm, m1_eqn, n32_ge0, n32_lt0, n32_nat, n32_succ, n32_add, xin_n32, xin_b1, xin_b2, cond_true, cond_false, if_true, if_false, xcI_some, xcV_some, xcJ_some, xcR_some, xu_ee, xu_rne, xu_kne, ite_self, not_true_eq_false, not_false_eq_true, ne_eq, true_and, and_true, false_and, and_false, m1_lt0, m1_eq0, eq_self, Bool.false_eq_true, reduceCtorEq, z_lt0, i1_eq0, i0_eq1, i1_eq1, xrZ0, xrZ1, xrZt, n32_eq0, n32_eq1, n32_gt0, n32_gt1, n32_lt1, n32_le1, n32_0le, tf0, tf1, xaI_of, ekX11_link_0_4, h, bX11_link_1]
    · simp (disch := omega) only [n32_ltE, n32_leE, n32_eqE, n32_eqm, m1_eqn, n32_ge0, n32_lt0, n32_nat, n32_succ, n32_add, xin_n32, xin_b1, xin_b2, cond_true, cond_false, if_true, if_false, xcI_some, xcV_some, xcJ_some, xcR_some, xu_ee, xu_rne, xu_kne, ite_self, not_true_eq_false, not_false_eq_true, ne_eq, true_and, and_true, false_and, and_false, m1_lt0, m1_eq0, eq_self, Bool.false_eq_true, reduceCtorEq, z_lt0, i1_eq0, i0_eq1, i1_eq1, xrZ0, xrZ1, xrZt, n32_eq0, n32_eq1, n32_gt0, n32_gt1, n32_lt1, n32_le1, n32_0le, tf0, tf1, xaI_of, ekX11_link_0_4, h, bX11_link_1]
  · rw [c_isLink_n hC.2.1 hw hl]
    simp (disch := omega) only [n32_ltE, n32_leE, n32_eqE, n32_eqm, m1_eqn, n32_ge0, n32_lt0, n32_nat, n32_succ, n32_add, xin_n32, xin_b1, xin_b2, cond_true, cond_false, if_true, if_false, xcI_some, xcV_some, xcJ_some, xcR_some, xu_ee, xu_rne, xu_kne, ite_self, not_true_eq_false, not_false_eq_true, ne_eq, true_and, and_true, false_and, and_false, m1_lt0, m1_eq0, eq_self, Bool.false_eq_true, reduceCtorEq, z_lt0, i1_eq0, i0_eq1, i1_eq1, xrZ0, xrZ1, xrZt, n32_eq0, n32_eq1, n32_gt0, n32_gt1, n32_lt1, n32_le1, n32_0le, tf0, tf1, xaI_of, ekX11_link_0_4, bX11_link_1]
theorem r_link_t (hC : RS S I) (hs : s < sB S) (ht : t < sB S) (ps : pt S s = true) (pq : pt S t = true) (ha : anc (par S) s t = true) {x : Int32} (h0 : ¬ x < 0) (h5 : x ≤ 5) : RR (xcall xprog (d + 9) 211 [.ref 209, .int (n32 s), .int (n32 t), .int x] (xst e L I J)) (zI e L fun y K J' => oR S I J (lnkV S s t x) y K J' ∧ K 209 0 = 0) := by
  have hw := hC.1.1
  have h20 := wf_B hw
  refine RR_eq ((aX12_link _ e L I J _ _ _).trans (bX12_link_0 _ e L I J _ _ _)) ?_
  refine RR_cI (r_isLink_l (d := d) hC ⟨s, t, hs, ht, rfl, rfl, ps, pq, ha⟩) (fun z K J' ⟨z1, j1, f1, hF, hC2⟩ => ?_)
  subst z1 j1
  have hF2 := Rf_0 (x := 0) hF
  have hC3 := RS_0 (x := 0) hC2
  have hm := hF2.2.2.2.2.2.2.2.2.1 s t (by omega) (by omega)
  have r1 : ∀ (x : Int32) d, xcall xprog (d + 3) 191 [.ref 209, .int x, .int (n32 t), .int 1] (xst e L (xu K 209 0 0) J') = some (some (.int (smv (wfo S t 1) x (sV S))), xst e L (xu K 209 0 0) J') := fun x d => r_sum (k := 1) hC3.2.1 hw hF2.1 ht (by omega) (by omega)
  have r2 : ∀ (x : Int32) d, xcall xprog (d + 3) 191 [.ref 209, .int x, .int (n32 t), .int 2] (xst e L (xu K 209 0 0) J') = some (some (.int (smv (wfo S t 2) x (sV S))), xst e L (xu K 209 0 0) J') := fun x d => r_sum (k := 2) hC3.2.1 hw hF2.1 ht (by omega) (by omega)
  have fr : rfr (xu K 209 0 0) I := rfr_t rfr_0 (lfr_rfr f1)
  simp (disch := omega) only [n32_ltE, n32_leE, n32_eqE, n32_eqm, m1_eqn, n32_ge0, n32_lt0, n32_nat, n32_succ, n32_add, xin_n32, xin_b1, xin_b2, cond_true, cond_false, if_true, if_false, xcI_some, xcV_some, xcJ_some, xcR_some, xu_ee, xu_rne, xu_kne, ite_self, not_true_eq_false, not_false_eq_true, ne_eq, true_and, and_true, false_and, and_false, m1_lt0, m1_eq0, eq_self, Bool.false_eq_true, reduceCtorEq, z_lt0, i1_eq0, i0_eq1, i1_eq1, xrZ0, xrZ1, xrZt, n32_eq0, n32_eq1, n32_gt0, n32_gt1, n32_lt1, n32_le1, n32_0le, tf0, tf1, xaI_of, ekX12_link_0_4, sX12_isIn, h0, h5, ekX12_link_0_9, bX12_link_2, bX12_link_3, r_throws_f, ekX12_link_3_0]
  refine RR_eq (bX12_link_4 _ e L _ J' _ _ _) ?_
  simp (disch := omega) only [n32_ltE, n32_leE, n32_eqE, n32_eqm, m1_eqn, n32_ge0, n32_lt0, n32_nat, n32_succ, n32_add, xin_n32, xin_b1, xin_b2, cond_true, cond_false, if_true, if_false, xcI_some, xcV_some, xcJ_some, xcR_some, xu_ee, xu_rne, xu_kne, ite_self, not_true_eq_false, not_false_eq_true, ne_eq, true_and, and_true, false_and, and_false, m1_lt0, m1_eq0, eq_self, Bool.false_eq_true, reduceCtorEq, z_lt0, i1_eq0, i0_eq1, i1_eq1, xrZ0, xrZ1, xrZt, n32_eq0, n32_eq1, n32_gt0, n32_gt1, n32_lt1, n32_le1, n32_0le, tf0, tf1, xaI_of, q2a, q2b, q2m, q2l, q2g, q2r, q2s, q2e, q3a, q3b, q3m, q3l, q3g, q3r, q3s, q3e, q4a, q4b, q4m, q4l, q4g, q4r, q4s, q4e, q20a, q20b, q20m, q20l, q20g, q20r, q20s, q20e, n32_20, hm, ekX12_link_0_9, ekX12_link_0_4, bX12_link_0, bX12_link_1, bX12_link_2, ekX12_link_3_0, bX12_link_3, bX12_link_4, bX12_link_5, ekX12_link_6_4, bX12_link_6, ekX12_link_7_4, bX12_link_7, ekX12_link_8_4, bX12_link_8, ekX12_link_9_4, bX12_link_9, ekX12_link_10_4, ekX12_link_10_3, bX12_link_10, r1, r2, r_counts hC3.2.1 hw hF2.1 ht, sX12_truth]
  unfold lnkV
  refine RR_if (fun q => ?_) (fun q0 => ?_)
  · simp only [q, if_true]
    exact RR_I ⟨⟨rfl, rfl, fr, hC3⟩, xu_ee⟩
  refine RR_if (fun q => ?_) (fun q1 => ?_)
  · simp only [q0, q, if_true, if_false]
    exact RR_I ⟨⟨rfl, rfl, fr, hC3⟩, xu_ee⟩
  refine RR_if (fun q => ?_) (fun q2 => ?_)
  · simp only [q0, q1, q, if_true, if_false]
    exact RR_I ⟨⟨rfl, rfl, fr, hC3⟩, xu_ee⟩
  refine RR_if (fun q => ?_) (fun q3 => ?_)
  · simp only [q0, q1, q2, q, if_true, if_false]
    exact RR_I ⟨⟨rfl, rfl, fr, hC3⟩, xu_ee⟩
  refine RR_if (fun q => ?_) (fun q4 => ?_)
  · simp only [q0, q1, q2, q3, q, if_true, if_false]
    exact RR_I ⟨⟨rfl, rfl, fr, hC3⟩, xu_ee⟩
  · simp only [q0, q1, q2, q3, q4, if_false]
    refine RR_I ⟨⟨?_, rfl, fr, hC3⟩, xu_ee⟩
    cases cts S (mk S s t) t <;> rfl
theorem r_link_f (hC : RS S I) {y z x : Int32} (h : ¬ lnk S y z ∨ x < 0 ∨ ¬ x ≤ 5) : RR (xcall xprog (d + 9) 211 [.ref 209, .int y, .int z, .int x] (xst e L I J)) (zI e L fun y K J' => oR S I J 0 y K J' ∧ K 209 0 = 1) := by
  refine RR_eq ((aX12_link _ e L I J _ _ _).trans (bX12_link_0 _ e L I J _ _ _)) ?_
  by_cases hl : lnk S y z
  · refine RR_cI (r_isLink_l (d := d) hC hl) (fun z K J' ⟨z1, j1, f1, hF, hC2⟩ => ?_)
    subst z1 j1
    have fr : rfr (xu K 209 0 1) I := rfr_t rfr_0 (lfr_rfr f1)
    rcases h with h | h | h
    · exact absurd hl h
    · simp (disch := omega) only [n32_ltE, n32_leE, n32_eqE, n32_eqm, m1_eqn, n32_ge0, n32_lt0, n32_nat, n32_succ, n32_add, xin_n32, xin_b1, xin_b2, cond_true, cond_false, if_true, if_false, xcI_some, xcV_some, xcJ_some, xcR_some, xu_ee, xu_rne, xu_kne, ite_self, not_true_eq_false, not_false_eq_true, ne_eq, true_and, and_true, false_and, and_false, m1_lt0, m1_eq0, eq_self, Bool.false_eq_true, reduceCtorEq, z_lt0, i1_eq0, i0_eq1, i1_eq1, xrZ0, xrZ1, xrZt, n32_eq0, n32_eq1, n32_gt0, n32_gt1, n32_lt1, n32_le1, n32_0le, tf0, tf1, xaI_of, ekX12_link_0_4, sX12_isIn, h, ekX12_link_0_9, bX12_link_1, bX12_link_3, r_throws_t, ekX12_link_3_0]
      exact RR_I ⟨⟨rfl, rfl, fr, RS_0 hC2⟩, xu_ee⟩
    · simp (disch := omega) only [n32_ltE, n32_leE, n32_eqE, n32_eqm, m1_eqn, n32_ge0, n32_lt0, n32_nat, n32_succ, n32_add, xin_n32, xin_b1, xin_b2, cond_true, cond_false, if_true, if_false, xcI_some, xcV_some, xcJ_some, xcR_some, xu_ee, xu_rne, xu_kne, ite_self, not_true_eq_false, not_false_eq_true, ne_eq, true_and, and_true, false_and, and_false, m1_lt0, m1_eq0, eq_self, Bool.false_eq_true, reduceCtorEq, z_lt0, i1_eq0, i0_eq1, i1_eq1, xrZ0, xrZ1, xrZt, n32_eq0, n32_eq1, n32_gt0, n32_gt1, n32_lt1, n32_le1, n32_0le, tf0, tf1, xaI_of, ekX12_link_0_4, sX12_isIn, h, ekX12_link_0_9, bX12_link_1, bX12_link_3, r_throws_t, ekX12_link_3_0]
      exact RR_I ⟨⟨rfl, rfl, fr, RS_0 hC2⟩, xu_ee⟩
  · refine RR_cI (r_isLink_n (d := d) hC hl) (fun z K J' ⟨z1, j1, f1, hC2⟩ => ?_)
    subst z1 j1
    have fr : rfr (xu K 209 0 1) I := rfr_t rfr_0 (lfr_rfr f1)
    simp (disch := omega) only [n32_ltE, n32_leE, n32_eqE, n32_eqm, m1_eqn, n32_ge0, n32_lt0, n32_nat, n32_succ, n32_add, xin_n32, xin_b1, xin_b2, cond_true, cond_false, if_true, if_false, xcI_some, xcV_some, xcJ_some, xcR_some, xu_ee, xu_rne, xu_kne, ite_self, not_true_eq_false, not_false_eq_true, ne_eq, true_and, and_true, false_and, and_false, m1_lt0, m1_eq0, eq_self, Bool.false_eq_true, reduceCtorEq, z_lt0, i1_eq0, i0_eq1, i1_eq1, xrZ0, xrZ1, xrZt, n32_eq0, n32_eq1, n32_gt0, n32_gt1, n32_lt1, n32_le1, n32_0le, tf0, tf1, xaI_of, ekX12_link_0_4, bX12_link_1, bX12_link_3, r_throws_t, ekX12_link_3_0]
    exact RR_I ⟨⟨rfl, rfl, fr, RS_0 hC2⟩, xu_ee⟩
end QN
