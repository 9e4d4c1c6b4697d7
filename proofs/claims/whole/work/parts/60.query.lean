/-! Calls that only ask, on both sides alike. -/
def same (S : TS) (N : Nat → Int64) (cm rm : Nat) (as : List Value) : Prop := ∃ V, (∀ d e L I J, CS S N I J → RR (xcall xprog (d + 12) cm (.ref 0 :: as) (xst e L I J)) (zI e L (oC S N I J V))) ∧ ∀ d e L I J, RS S I → RR (xcall xprog (d + 12) rm (.ref 209 :: as) (xst e L I J)) (zI e L (oR S I J V))
section QA
variable {d e L : Nat} {S : TS} {N : Nat → Int64} {I K M : TI} {J : TJ} {a b s t v k i : Nat}
theorem oC_r {V : Int32} (hC : CS S N I J) : oC S N I J V V I J := ⟨rfl, rfl, cfr_r, hC⟩
theorem oR_0 {V : Int32} (hC : RS S I) : oR S I J V V (xu I 209 0 0) J := ⟨rfl, rfl, rfr_0, RS_0 hC⟩
theorem oR_l {V : Int32} (f : lfr K (xu I 209 0 0)) (hC : RS S K) : oR S I J V V K J := ⟨rfl, rfl, rfr_t (lfr_rfr f) rfr_0, hC⟩
theorem S0 {V : Int32} (hS : I 211 = S) : (xu I 209 0 V) 211 = S := by rw [xu_rne (by decide), hS]
theorem q_ahead (hW : WS S) (x y : Int32) : same S N 117 204 [.int x, .int y] := by
  have hw := hW.1
  have h20 := wf_B hw
  rcases inr_or x (sB S) (by omega) with ⟨a, ha, rfl⟩ | hx
  · rcases inr_or y (sB S) (by omega) with ⟨b, hb, rfl⟩ | hy
    · refine ⟨if anc (par S) a b = true then 1 else 0, fun d e L I J hC => ?_, fun d e L I J hC => ?_⟩
      · refine RR_eq ((aX11_ahead _ e L I J _ _).trans (bX11_ahead_0 _ e L I J _ _)) ?_
        simp (disch := omega) only [n32_ltE, n32_leE, n32_eqE, n32_eqm, m1_eqn, n32_ge0, n32_lt0, n32_nat, n32_succ, n32_add, xin_n32, xin_b1, xin_b2, cond_true, cond_false, if_true, if_false, xcI_some, xcV_some, xcJ_some, xcR_some, xu_ee, xu_rne, xu_kne, ite_self, not_true_eq_false, not_false_eq_true, ne_eq, true_and, and_true, false_and, and_false, m1_lt0, m1_eq0, eq_self, Bool.false_eq_true, reduceCtorEq, z_lt0, i1_eq0, i0_eq1, i1_eq1, xrZ0, xrZ1, xrZt, n32_eq0, n32_eq1, n32_gt0, n32_gt1, n32_lt1, n32_le1, n32_0le, tf0, tf1, xaI_of, c_hasBlock_y hC.2.1 hw ha, ekX11_ahead_0_8, ekX11_ahead_0_3, bX11_ahead_0, bX11_ahead_1, ekX11_ahead_2_4, bX11_ahead_2, bX11_ahead_3, bX11_ahead_4, c_hasBlock_y hC.2.1 hw hb, c_isAhead hC.2.1 hw (show a < 32 by omega) hb]
        cases anc (par S) a b <;> exact RR_I (oC_r hC)
      · refine RR_eq ((aX12_ahead _ e L I J _ _).trans (bX12_ahead_0 _ e L I J _ _)) ?_
        simp (disch := omega) only [n32_ltE, n32_leE, n32_eqE, n32_eqm, m1_eqn, n32_ge0, n32_lt0, n32_nat, n32_succ, n32_add, xin_n32, xin_b1, xin_b2, cond_true, cond_false, if_true, if_false, xcI_some, xcV_some, xcJ_some, xcR_some, xu_ee, xu_rne, xu_kne, ite_self, not_true_eq_false, not_false_eq_true, ne_eq, true_and, and_true, false_and, and_false, m1_lt0, m1_eq0, eq_self, Bool.false_eq_true, reduceCtorEq, z_lt0, i1_eq0, i0_eq1, i1_eq1, xrZ0, xrZ1, xrZt, n32_eq0, n32_eq1, n32_gt0, n32_gt1, n32_lt1, n32_le1, n32_0le, tf0, tf1, xaI_of, r_isBlock_y (S0 hC.2.1) hw ha, ekX12_ahead_0_9, ekX12_ahead_0_5, bX12_ahead_0, bX12_ahead_1, ekX12_ahead_2_6, ekX12_ahead_2_5, ekX12_ahead_2_1, bX12_ahead_2, r_isBlock_y (S0 hC.2.1) hw hb]
        refine RR_cV (r_lays (d := d + 4) (RS_0 hC)) (fun K J' ⟨j1, f1, hF, hC2⟩ => ?_)
        subst j1
        simp (disch := omega) only [n32_ltE, n32_leE, n32_eqE, n32_eqm, m1_eqn, n32_ge0, n32_lt0, n32_nat, n32_succ, n32_add, xin_n32, xin_b1, xin_b2, cond_true, cond_false, if_true, if_false, xcI_some, xcV_some, xcJ_some, xcR_some, xu_ee, xu_rne, xu_kne, ite_self, not_true_eq_false, not_false_eq_true, ne_eq, true_and, and_true, false_and, and_false, m1_lt0, m1_eq0, eq_self, Bool.false_eq_true, reduceCtorEq, z_lt0, i1_eq0, i0_eq1, i1_eq1, xrZ0, xrZ1, xrZt, n32_eq0, n32_eq1, n32_gt0, n32_gt1, n32_lt1, n32_le1, n32_0le, tf0, tf1, xaI_of, ekX12_ahead_0_9, ekX12_ahead_0_5, bX12_ahead_0, bX12_ahead_1, ekX12_ahead_2_6, ekX12_ahead_2_5, ekX12_ahead_2_1, bX12_ahead_2, r_isAhead hw hF.1 (show a < 32 by omega) hb, sX12_truth]
        cases anc (par S) a b <;> exact RR_I (oR_l f1 hC2)
    · refine ⟨-1, fun d e L I J hC => ?_, fun d e L I J hC => ?_⟩
      · refine RR_eq ((aX11_ahead _ e L I J _ _).trans (bX11_ahead_0 _ e L I J _ _)) ?_
        simp (disch := omega) only [n32_ltE, n32_leE, n32_eqE, n32_eqm, m1_eqn, n32_ge0, n32_lt0, n32_nat, n32_succ, n32_add, xin_n32, xin_b1, xin_b2, cond_true, cond_false, if_true, if_false, xcI_some, xcV_some, xcJ_some, xcR_some, xu_ee, xu_rne, xu_kne, ite_self, not_true_eq_false, not_false_eq_true, ne_eq, true_and, and_true, false_and, and_false, m1_lt0, m1_eq0, eq_self, Bool.false_eq_true, reduceCtorEq, z_lt0, i1_eq0, i0_eq1, i1_eq1, xrZ0, xrZ1, xrZt, n32_eq0, n32_eq1, n32_gt0, n32_gt1, n32_lt1, n32_le1, n32_0le, tf0, tf1, xaI_of, c_hasBlock_y hC.2.1 hw ha, ekX11_ahead_0_8, ekX11_ahead_0_3, bX11_ahead_0, bX11_ahead_1, ekX11_ahead_2_4, bX11_ahead_2, bX11_ahead_3, bX11_ahead_4, c_hasBlock_n hC.2.1 hw hy]
        exact RR_I (oC_r hC)
      · refine RR_eq ((aX12_ahead _ e L I J _ _).trans (bX12_ahead_0 _ e L I J _ _)) ?_
        simp (disch := omega) only [n32_ltE, n32_leE, n32_eqE, n32_eqm, m1_eqn, n32_ge0, n32_lt0, n32_nat, n32_succ, n32_add, xin_n32, xin_b1, xin_b2, cond_true, cond_false, if_true, if_false, xcI_some, xcV_some, xcJ_some, xcR_some, xu_ee, xu_rne, xu_kne, ite_self, not_true_eq_false, not_false_eq_true, ne_eq, true_and, and_true, false_and, and_false, m1_lt0, m1_eq0, eq_self, Bool.false_eq_true, reduceCtorEq, z_lt0, i1_eq0, i0_eq1, i1_eq1, xrZ0, xrZ1, xrZt, n32_eq0, n32_eq1, n32_gt0, n32_gt1, n32_lt1, n32_le1, n32_0le, tf0, tf1, xaI_of, r_isBlock_y (S0 hC.2.1) hw ha, ekX12_ahead_0_9, ekX12_ahead_0_5, bX12_ahead_0, bX12_ahead_1, ekX12_ahead_2_6, ekX12_ahead_2_5, ekX12_ahead_2_1, bX12_ahead_2, r_isBlock_n (S0 hC.2.1) hw hy]
        exact RR_I (oR_0 hC)
  · refine ⟨-1, fun d e L I J hC => ?_, fun d e L I J hC => ?_⟩
    · refine RR_eq ((aX11_ahead _ e L I J _ _).trans (bX11_ahead_0 _ e L I J _ _)) ?_
      simp (disch := omega) only [n32_ltE, n32_leE, n32_eqE, n32_eqm, m1_eqn, n32_ge0, n32_lt0, n32_nat, n32_succ, n32_add, xin_n32, xin_b1, xin_b2, cond_true, cond_false, if_true, if_false, xcI_some, xcV_some, xcJ_some, xcR_some, xu_ee, xu_rne, xu_kne, ite_self, not_true_eq_false, not_false_eq_true, ne_eq, true_and, and_true, false_and, and_false, m1_lt0, m1_eq0, eq_self, Bool.false_eq_true, reduceCtorEq, z_lt0, i1_eq0, i0_eq1, i1_eq1, xrZ0, xrZ1, xrZt, n32_eq0, n32_eq1, n32_gt0, n32_gt1, n32_lt1, n32_le1, n32_0le, tf0, tf1, xaI_of, c_hasBlock_n hC.2.1 hw hx, ekX11_ahead_0_8, ekX11_ahead_0_3, bX11_ahead_0, bX11_ahead_1, ekX11_ahead_2_4, bX11_ahead_2, bX11_ahead_3, bX11_ahead_4]
      exact RR_I (oC_r hC)
    · refine RR_eq ((aX12_ahead _ e L I J _ _).trans (bX12_ahead_0 _ e L I J _ _)) ?_
      simp (disch := omega) only [n32_ltE, n32_leE, n32_eqE, n32_eqm, m1_eqn, n32_ge0, n32_lt0, n32_nat, n32_succ, n32_add, xin_n32, xin_b1, xin_b2, cond_true, cond_false, if_true, if_false, xcI_some, xcV_some, xcJ_some, xcR_some, xu_ee, xu_rne, xu_kne, ite_self, not_true_eq_false, not_false_eq_true, ne_eq, true_and, and_true, false_and, and_false, m1_lt0, m1_eq0, eq_self, Bool.false_eq_true, reduceCtorEq, z_lt0, i1_eq0, i0_eq1, i1_eq1, xrZ0, xrZ1, xrZt, n32_eq0, n32_eq1, n32_gt0, n32_gt1, n32_lt1, n32_le1, n32_0le, tf0, tf1, xaI_of, r_isBlock_n (S0 hC.2.1) hw hx, ekX12_ahead_0_9, ekX12_ahead_0_5, bX12_ahead_0, bX12_ahead_1, ekX12_ahead_2_6, ekX12_ahead_2_5, ekX12_ahead_2_1, bX12_ahead_2]
      exact RR_I (oR_0 hC)
theorem q_weight (hW : WS S) (x y : Int32) : same S N 119 206 [.int x, .int y] := by
  have hw := hW.1
  have h20 := wf_B hw
  have h8 := wf_V8 hw
  rcases inr_or x (sB S) (by omega) with ⟨a, ha, rfl⟩ | hx
  · rcases inr_or y (sV S) (by omega) with ⟨b, hb, rfl⟩ | hy
    · have ha20 : a < 20 := by omega
      refine ⟨if pt S a = true then wt S a b else -1, fun d e L I J hC => ?_, fun d e L I J hC => ?_⟩
      · refine RR_eq ((aX11_weight _ e L I J _ _).trans (bX11_weight_0 _ e L I J _ _)) ?_
        simp (disch := omega) only [n32_ltE, n32_leE, n32_eqE, n32_eqm, m1_eqn, n32_ge0, n32_lt0, n32_nat, n32_succ, n32_add, xin_n32, xin_b1, xin_b2, cond_true, cond_false, if_true, if_false, xcI_some, xcV_some, xcJ_some, xcR_some, xu_ee, xu_rne, xu_kne, ite_self, not_true_eq_false, not_false_eq_true, ne_eq, true_and, and_true, false_and, and_false, m1_lt0, m1_eq0, eq_self, Bool.false_eq_true, reduceCtorEq, z_lt0, i1_eq0, i0_eq1, i1_eq1, xrZ0, xrZ1, xrZt, n32_eq0, n32_eq1, n32_gt0, n32_gt1, n32_lt1, n32_le1, n32_0le, tf0, tf1, xaI_of, c_isPoint_y hC.2.1 hw ha, ekX11_weight_0_8, ekX11_weight_0_3, bX11_weight_0, bX11_weight_1, bX11_weight_2, c_hasVoter_y hC.2.1 hw hb, xaR_16, xaI_of (G0_w _ ha20), t7_wt hC.2.1 ha hb]
        cases pt S a <;> exact RR_I (oC_r hC)
      · refine RR_eq ((aX12_weight _ e L I J _ _).trans (bX12_weight_0 _ e L I J _ _)) ?_
        simp (disch := omega) only [n32_ltE, n32_leE, n32_eqE, n32_eqm, m1_eqn, n32_ge0, n32_lt0, n32_nat, n32_succ, n32_add, xin_n32, xin_b1, xin_b2, cond_true, cond_false, if_true, if_false, xcI_some, xcV_some, xcJ_some, xcR_some, xu_ee, xu_rne, xu_kne, ite_self, not_true_eq_false, not_false_eq_true, ne_eq, true_and, and_true, false_and, and_false, m1_lt0, m1_eq0, eq_self, Bool.false_eq_true, reduceCtorEq, z_lt0, i1_eq0, i0_eq1, i1_eq1, xrZ0, xrZ1, xrZt, n32_eq0, n32_eq1, n32_gt0, n32_gt1, n32_lt1, n32_le1, n32_0le, tf0, tf1, xaI_of, r_isBlock_y (S0 hC.2.1) hw ha, ekX12_weight_0_9, ekX12_weight_0_5, bX12_weight_0, bX12_weight_1, ekX12_weight_2_9, ekX12_weight_2_4, ekX12_weight_2_1, bX12_weight_2, bX12_weight_3, bX12_weight_4, r_isVoter_y (S0 hC.2.1) hw hb]
        refine RR_cV (r_lays (d := d + 4) (RS_0 hC)) (fun K J' ⟨j1, f1, hF, hC2⟩ => ?_)
        subst j1
        simp (disch := omega) only [n32_ltE, n32_leE, n32_eqE, n32_eqm, m1_eqn, n32_ge0, n32_lt0, n32_nat, n32_succ, n32_add, xin_n32, xin_b1, xin_b2, cond_true, cond_false, if_true, if_false, xcI_some, xcV_some, xcJ_some, xcR_some, xu_ee, xu_rne, xu_kne, ite_self, not_true_eq_false, not_false_eq_true, ne_eq, true_and, and_true, false_and, and_false, m1_lt0, m1_eq0, eq_self, Bool.false_eq_true, reduceCtorEq, z_lt0, i1_eq0, i0_eq1, i1_eq1, xrZ0, xrZ1, xrZt, n32_eq0, n32_eq1, n32_gt0, n32_gt1, n32_lt1, n32_le1, n32_0le, tf0, tf1, xaI_of, ekX12_weight_0_9, ekX12_weight_0_5, bX12_weight_0, bX12_weight_1, ekX12_weight_2_9, ekX12_weight_2_4, ekX12_weight_2_1, bX12_weight_2, bX12_weight_3, bX12_weight_4, r_isPoint hC2.2.1 hw hF.1 ha, r_weightBy hC2.2.1 hw ha hb]
        cases pt S a <;> exact RR_I (oR_l f1 hC2)
    · refine ⟨-1, fun d e L I J hC => ?_, fun d e L I J hC => ?_⟩
      · refine RR_eq ((aX11_weight _ e L I J _ _).trans (bX11_weight_0 _ e L I J _ _)) ?_
        simp (disch := omega) only [n32_ltE, n32_leE, n32_eqE, n32_eqm, m1_eqn, n32_ge0, n32_lt0, n32_nat, n32_succ, n32_add, xin_n32, xin_b1, xin_b2, cond_true, cond_false, if_true, if_false, xcI_some, xcV_some, xcJ_some, xcR_some, xu_ee, xu_rne, xu_kne, ite_self, not_true_eq_false, not_false_eq_true, ne_eq, true_and, and_true, false_and, and_false, m1_lt0, m1_eq0, eq_self, Bool.false_eq_true, reduceCtorEq, z_lt0, i1_eq0, i0_eq1, i1_eq1, xrZ0, xrZ1, xrZt, n32_eq0, n32_eq1, n32_gt0, n32_gt1, n32_lt1, n32_le1, n32_0le, tf0, tf1, xaI_of, c_isPoint_y hC.2.1 hw ha, ekX11_weight_0_8, ekX11_weight_0_3, bX11_weight_0, bX11_weight_1, bX11_weight_2, c_hasVoter_n hC.2.1 hw hy]
        exact RR_I (oC_r hC)
      · refine RR_eq ((aX12_weight _ e L I J _ _).trans (bX12_weight_0 _ e L I J _ _)) ?_
        simp (disch := omega) only [n32_ltE, n32_leE, n32_eqE, n32_eqm, m1_eqn, n32_ge0, n32_lt0, n32_nat, n32_succ, n32_add, xin_n32, xin_b1, xin_b2, cond_true, cond_false, if_true, if_false, xcI_some, xcV_some, xcJ_some, xcR_some, xu_ee, xu_rne, xu_kne, ite_self, not_true_eq_false, not_false_eq_true, ne_eq, true_and, and_true, false_and, and_false, m1_lt0, m1_eq0, eq_self, Bool.false_eq_true, reduceCtorEq, z_lt0, i1_eq0, i0_eq1, i1_eq1, xrZ0, xrZ1, xrZt, n32_eq0, n32_eq1, n32_gt0, n32_gt1, n32_lt1, n32_le1, n32_0le, tf0, tf1, xaI_of, r_isBlock_y (S0 hC.2.1) hw ha, ekX12_weight_0_9, ekX12_weight_0_5, bX12_weight_0, bX12_weight_1, ekX12_weight_2_9, ekX12_weight_2_4, ekX12_weight_2_1, bX12_weight_2, bX12_weight_3, bX12_weight_4, r_isVoter_n (S0 hC.2.1) hw hy]
        exact RR_I (oR_0 hC)
  · refine ⟨-1, fun d e L I J hC => ?_, fun d e L I J hC => ?_⟩
    · refine RR_eq ((aX11_weight _ e L I J _ _).trans (bX11_weight_0 _ e L I J _ _)) ?_
      simp (disch := omega) only [n32_ltE, n32_leE, n32_eqE, n32_eqm, m1_eqn, n32_ge0, n32_lt0, n32_nat, n32_succ, n32_add, xin_n32, xin_b1, xin_b2, cond_true, cond_false, if_true, if_false, xcI_some, xcV_some, xcJ_some, xcR_some, xu_ee, xu_rne, xu_kne, ite_self, not_true_eq_false, not_false_eq_true, ne_eq, true_and, and_true, false_and, and_false, m1_lt0, m1_eq0, eq_self, Bool.false_eq_true, reduceCtorEq, z_lt0, i1_eq0, i0_eq1, i1_eq1, xrZ0, xrZ1, xrZt, n32_eq0, n32_eq1, n32_gt0, n32_gt1, n32_lt1, n32_le1, n32_0le, tf0, tf1, xaI_of, c_isPoint_n hC.2.1 hw hx, ekX11_weight_0_8, ekX11_weight_0_3, bX11_weight_0, bX11_weight_1, bX11_weight_2]
      exact RR_I (oC_r hC)
    · refine RR_eq ((aX12_weight _ e L I J _ _).trans (bX12_weight_0 _ e L I J _ _)) ?_
      simp (disch := omega) only [n32_ltE, n32_leE, n32_eqE, n32_eqm, m1_eqn, n32_ge0, n32_lt0, n32_nat, n32_succ, n32_add, xin_n32, xin_b1, xin_b2, cond_true, cond_false, if_true, if_false, xcI_some, xcV_some, xcJ_some, xcR_some, xu_ee, xu_rne, xu_kne, ite_self, not_true_eq_false, not_false_eq_true, ne_eq, true_and, and_true, false_and, and_false, m1_lt0, m1_eq0, eq_self, Bool.false_eq_true, reduceCtorEq, z_lt0, i1_eq0, i0_eq1, i1_eq1, xrZ0, xrZ1, xrZt, n32_eq0, n32_eq1, n32_gt0, n32_gt1, n32_lt1, n32_le1, n32_0le, tf0, tf1, xaI_of, r_isBlock_n (S0 hC.2.1) hw hx, ekX12_weight_0_9, ekX12_weight_0_5, bX12_weight_0, bX12_weight_1, ekX12_weight_2_9, ekX12_weight_2_4, ekX12_weight_2_1, bX12_weight_2, bX12_weight_3, bX12_weight_4]
      exact RR_I (oR_0 hC)
theorem q_voter (hW : WS S) (x y : Int32) : same S N 120 208 [.int x, .int y] := by
  have hw := hW.1
  have hk := hW.2.1
  have h8 := wf_V8 hw
  rcases inr_or x (sV S) (by omega) with ⟨v, hv, rfl⟩ | hx
  · have hv8 : v < 8 := by omega
    refine ⟨if y = 0 then S (4 + v) else if y = 1 then n32 (cntN (fun i => vo S i == v) (sK S)) else if y = 2 then S (216 + v) else if y = 3 then (if bt (ofS S) v = true then 1 else 0) else -1, fun d e L I J hC => ?_, fun d e L I J hC => ?_⟩
    · refine RR_eq ((aX11_voter _ e L I J _ _).trans (bX11_voter_0 _ e L I J _ _)) ?_
      rw [c_hasVoter_y hC.2.1 hw hv]
      simp (disch := omega) only [n32_ltE, n32_leE, n32_eqE, n32_eqm, m1_eqn, n32_ge0, n32_lt0, n32_nat, n32_succ, n32_add, xin_n32, xin_b1, xin_b2, cond_true, cond_false, if_true, if_false, xcI_some, xcV_some, xcJ_some, xcR_some, xu_ee, xu_rne, xu_kne, ite_self, not_true_eq_false, not_false_eq_true, ne_eq, true_and, and_true, false_and, and_false, m1_lt0, m1_eq0, eq_self, Bool.false_eq_true, reduceCtorEq, z_lt0, i1_eq0, i0_eq1, i1_eq1, xrZ0, xrZ1, xrZt, n32_eq0, n32_eq1, n32_gt0, n32_gt1, n32_lt1, n32_le1, n32_0le, tf0, tf1, xaI_of, ekX11_voter_0_3, bX11_voter_1]
      refine RR_if (fun q => ?_) (fun q0 => ?_)
      · simp (disch := omega) only [n32_ltE, n32_leE, n32_eqE, n32_eqm, m1_eqn, n32_ge0, n32_lt0, n32_nat, n32_succ, n32_add, xin_n32, xin_b1, xin_b2, cond_true, cond_false, if_true, if_false, xcI_some, xcV_some, xcJ_some, xcR_some, xu_ee, xu_rne, xu_kne, ite_self, not_true_eq_false, not_false_eq_true, ne_eq, true_and, and_true, false_and, and_false, m1_lt0, m1_eq0, eq_self, Bool.false_eq_true, reduceCtorEq, z_lt0, i1_eq0, i0_eq1, i1_eq1, xrZ0, xrZ1, xrZt, n32_eq0, n32_eq1, n32_gt0, n32_gt1, n32_lt1, n32_le1, n32_0le, tf0, tf1, xaI_of, q2a, q2b, q2m, q2l, q2g, q2r, q2s, q2e, q3a, q3b, q3m, q3l, q3g, q3r, q3s, q3e, q, ekX11_voter_0_3, bX11_voter_0, bX11_voter_1, bX11_voter_2, ekX11_voter_3_3, bX11_voter_3, bX11_voter_4, ekX11_voter_5_2, bX11_voter_5, bX11_voter_6, t7_told hC.2.1 hv]
        exact RR_I (oC_r hC)
      refine RR_if (fun q => ?_) (fun q1 => ?_)
      · subst q
        simp (disch := omega) only [n32_ltE, n32_leE, n32_eqE, n32_eqm, m1_eqn, n32_ge0, n32_lt0, n32_nat, n32_succ, n32_add, xin_n32, xin_b1, xin_b2, cond_true, cond_false, if_true, if_false, xcI_some, xcV_some, xcJ_some, xcR_some, xu_ee, xu_rne, xu_kne, ite_self, not_true_eq_false, not_false_eq_true, ne_eq, true_and, and_true, false_and, and_false, m1_lt0, m1_eq0, eq_self, Bool.false_eq_true, reduceCtorEq, z_lt0, i1_eq0, i0_eq1, i1_eq1, xrZ0, xrZ1, xrZt, n32_eq0, n32_eq1, n32_gt0, n32_gt1, n32_lt1, n32_le1, n32_0le, tf0, tf1, xaI_of, q2a, q2b, q2m, q2l, q2g, q2r, q2s, q2e, q3a, q3b, q3m, q3l, q3g, q3r, q3s, q3e, q0, ekX11_voter_0_3, bX11_voter_0, bX11_voter_1, bX11_voter_2, ekX11_voter_3_3, bX11_voter_3, bX11_voter_4, ekX11_voter_5_2, bX11_voter_5, bX11_voter_6, c_votesOf hC.2.2.1 hk hw hv8]
        exact RR_I (oC_r hC)
      refine RR_if (fun q => ?_) (fun q2 => ?_)
      · subst q
        simp (disch := omega) only [n32_ltE, n32_leE, n32_eqE, n32_eqm, m1_eqn, n32_ge0, n32_lt0, n32_nat, n32_succ, n32_add, xin_n32, xin_b1, xin_b2, cond_true, cond_false, if_true, if_false, xcI_some, xcV_some, xcJ_some, xcR_some, xu_ee, xu_rne, xu_kne, ite_self, not_true_eq_false, not_false_eq_true, ne_eq, true_and, and_true, false_and, and_false, m1_lt0, m1_eq0, eq_self, Bool.false_eq_true, reduceCtorEq, z_lt0, i1_eq0, i0_eq1, i1_eq1, xrZ0, xrZ1, xrZt, n32_eq0, n32_eq1, n32_gt0, n32_gt1, n32_lt1, n32_le1, n32_0le, tf0, tf1, xaI_of, q2a, q2b, q2m, q2l, q2g, q2r, q2s, q2e, q3a, q3b, q3m, q3l, q3g, q3r, q3s, q3e, q0, q1, ekX11_voter_0_3, bX11_voter_0, bX11_voter_1, bX11_voter_2, ekX11_voter_3_3, bX11_voter_3, bX11_voter_4, ekX11_voter_5_2, bX11_voter_5, bX11_voter_6, a_lo hC.2.2.1 hv]
        exact RR_I (oC_r hC)
      refine RR_if (fun q => ?_) (fun q3 => ?_)
      · subst q
        simp (disch := omega) only [n32_ltE, n32_leE, n32_eqE, n32_eqm, m1_eqn, n32_ge0, n32_lt0, n32_nat, n32_succ, n32_add, xin_n32, xin_b1, xin_b2, cond_true, cond_false, if_true, if_false, xcI_some, xcV_some, xcJ_some, xcR_some, xu_ee, xu_rne, xu_kne, ite_self, not_true_eq_false, not_false_eq_true, ne_eq, true_and, and_true, false_and, and_false, m1_lt0, m1_eq0, eq_self, Bool.false_eq_true, reduceCtorEq, z_lt0, i1_eq0, i0_eq1, i1_eq1, xrZ0, xrZ1, xrZt, n32_eq0, n32_eq1, n32_gt0, n32_gt1, n32_lt1, n32_le1, n32_0le, tf0, tf1, xaI_of, q2a, q2b, q2m, q2l, q2g, q2r, q2s, q2e, q3a, q3b, q3m, q3l, q3g, q3r, q3s, q3e, q0, q1, q2, ekX11_voter_0_3, bX11_voter_0, bX11_voter_1, bX11_voter_2, ekX11_voter_3_3, bX11_voter_3, bX11_voter_4, ekX11_voter_5_2, bX11_voter_5, bX11_voter_6]
        refine RR_cV (c_fresh (d := d + 5) hC) (fun K J' ⟨j1, f1, hF, hC2⟩ => ?_)
        subst j1
        simp (disch := omega) only [n32_ltE, n32_leE, n32_eqE, n32_eqm, m1_eqn, n32_ge0, n32_lt0, n32_nat, n32_succ, n32_add, xin_n32, xin_b1, xin_b2, cond_true, cond_false, if_true, if_false, xcI_some, xcV_some, xcJ_some, xcR_some, xu_ee, xu_rne, xu_kne, ite_self, not_true_eq_false, not_false_eq_true, ne_eq, true_and, and_true, false_and, and_false, m1_lt0, m1_eq0, eq_self, Bool.false_eq_true, reduceCtorEq, z_lt0, i1_eq0, i0_eq1, i1_eq1, xrZ0, xrZ1, xrZt, n32_eq0, n32_eq1, n32_gt0, n32_gt1, n32_lt1, n32_le1, n32_0le, tf0, tf1, xaI_of, q2a, q2b, q2m, q2l, q2g, q2r, q2s, q2e, q3a, q3b, q3m, q3l, q3g, q3r, q3s, q3e, ekX11_voter_0_3, bX11_voter_0, bX11_voter_1, bX11_voter_2, ekX11_voter_3_3, bX11_voter_3, bX11_voter_4, ekX11_voter_5_2, bX11_voter_5, bX11_voter_6, hF.2.2.1, bt_test]
        exact RR_I ⟨rfl, rfl, f1, hC2⟩
      · simp (disch := omega) only [n32_ltE, n32_leE, n32_eqE, n32_eqm, m1_eqn, n32_ge0, n32_lt0, n32_nat, n32_succ, n32_add, xin_n32, xin_b1, xin_b2, cond_true, cond_false, if_true, if_false, xcI_some, xcV_some, xcJ_some, xcR_some, xu_ee, xu_rne, xu_kne, ite_self, not_true_eq_false, not_false_eq_true, ne_eq, true_and, and_true, false_and, and_false, m1_lt0, m1_eq0, eq_self, Bool.false_eq_true, reduceCtorEq, z_lt0, i1_eq0, i0_eq1, i1_eq1, xrZ0, xrZ1, xrZt, n32_eq0, n32_eq1, n32_gt0, n32_gt1, n32_lt1, n32_le1, n32_0le, tf0, tf1, xaI_of, q2a, q2b, q2m, q2l, q2g, q2r, q2s, q2e, q3a, q3b, q3m, q3l, q3g, q3r, q3s, q3e, q0, q1, q2, q3, ekX11_voter_0_3, bX11_voter_0, bX11_voter_1, bX11_voter_2, ekX11_voter_3_3, bX11_voter_3, bX11_voter_4, ekX11_voter_5_2, bX11_voter_5, bX11_voter_6]
        exact RR_I (oC_r hC)
    · refine RR_eq ((aX12_voter _ e L I J _ _).trans (bX12_voter_0 _ e L I J _ _)) ?_
      rw [r_isVoter_y (S0 hC.2.1) hw hv]
      simp (disch := omega) only [n32_ltE, n32_leE, n32_eqE, n32_eqm, m1_eqn, n32_ge0, n32_lt0, n32_nat, n32_succ, n32_add, xin_n32, xin_b1, xin_b2, cond_true, cond_false, if_true, if_false, xcI_some, xcV_some, xcJ_some, xcR_some, xu_ee, xu_rne, xu_kne, ite_self, not_true_eq_false, not_false_eq_true, ne_eq, true_and, and_true, false_and, and_false, m1_lt0, m1_eq0, eq_self, Bool.false_eq_true, reduceCtorEq, z_lt0, i1_eq0, i0_eq1, i1_eq1, xrZ0, xrZ1, xrZt, n32_eq0, n32_eq1, n32_gt0, n32_gt1, n32_lt1, n32_le1, n32_0le, tf0, tf1, xaI_of, ekX12_voter_0_5, bX12_voter_1]
      refine RR_cV (r_lays (d := d + 4) (RS_0 hC)) (fun K J' ⟨j1, f1, hF, hC2⟩ => ?_)
      subst j1
      rw [ekX12_voter_1_1]
      refine RR_if (fun q => ?_) (fun q0 => ?_)
      · simp (disch := omega) only [n32_ltE, n32_leE, n32_eqE, n32_eqm, m1_eqn, n32_ge0, n32_lt0, n32_nat, n32_succ, n32_add, xin_n32, xin_b1, xin_b2, cond_true, cond_false, if_true, if_false, xcI_some, xcV_some, xcJ_some, xcR_some, xu_ee, xu_rne, xu_kne, ite_self, not_true_eq_false, not_false_eq_true, ne_eq, true_and, and_true, false_and, and_false, m1_lt0, m1_eq0, eq_self, Bool.false_eq_true, reduceCtorEq, z_lt0, i1_eq0, i0_eq1, i1_eq1, xrZ0, xrZ1, xrZt, n32_eq0, n32_eq1, n32_gt0, n32_gt1, n32_lt1, n32_le1, n32_0le, tf0, tf1, xaI_of, q2a, q2b, q2m, q2l, q2g, q2r, q2s, q2e, q3a, q3b, q3m, q3l, q3g, q3r, q3s, q3e, q4a, q4b, q4m, q4l, q4g, q4r, q4s, q4e, q216a, q216b, q216m, q216l, q216g, q216r, q216s, q216e, q, ekX12_voter_0_5, bX12_voter_0, ekX12_voter_1_1, bX12_voter_1, bX12_voter_2, ekX12_voter_3_2, bX12_voter_3, bX12_voter_4, ekX12_voter_5_4, ekX12_voter_5_3, bX12_voter_5, bX12_voter_6, hC2.2.1]
        exact RR_I (oR_l f1 hC2)
      refine RR_if (fun q => ?_) (fun q1 => ?_)
      · subst q
        simp (disch := omega) only [n32_ltE, n32_leE, n32_eqE, n32_eqm, m1_eqn, n32_ge0, n32_lt0, n32_nat, n32_succ, n32_add, xin_n32, xin_b1, xin_b2, cond_true, cond_false, if_true, if_false, xcI_some, xcV_some, xcJ_some, xcR_some, xu_ee, xu_rne, xu_kne, ite_self, not_true_eq_false, not_false_eq_true, ne_eq, true_and, and_true, false_and, and_false, m1_lt0, m1_eq0, eq_self, Bool.false_eq_true, reduceCtorEq, z_lt0, i1_eq0, i0_eq1, i1_eq1, xrZ0, xrZ1, xrZt, n32_eq0, n32_eq1, n32_gt0, n32_gt1, n32_lt1, n32_le1, n32_0le, tf0, tf1, xaI_of, q2a, q2b, q2m, q2l, q2g, q2r, q2s, q2e, q3a, q3b, q3m, q3l, q3g, q3r, q3s, q3e, q4a, q4b, q4m, q4l, q4g, q4r, q4s, q4e, q216a, q216b, q216m, q216l, q216g, q216r, q216s, q216e, q0, ekX12_voter_0_5, bX12_voter_0, ekX12_voter_1_1, bX12_voter_1, bX12_voter_2, ekX12_voter_3_2, bX12_voter_3, bX12_voter_4, ekX12_voter_5_4, ekX12_voter_5_3, bX12_voter_5, bX12_voter_6, r_votesOf hC2.2.1 hk hw hv8]
        exact RR_I (oR_l f1 hC2)
      refine RR_if (fun q => ?_) (fun q2 => ?_)
      · subst q
        simp (disch := omega) only [n32_ltE, n32_leE, n32_eqE, n32_eqm, m1_eqn, n32_ge0, n32_lt0, n32_nat, n32_succ, n32_add, xin_n32, xin_b1, xin_b2, cond_true, cond_false, if_true, if_false, xcI_some, xcV_some, xcJ_some, xcR_some, xu_ee, xu_rne, xu_kne, ite_self, not_true_eq_false, not_false_eq_true, ne_eq, true_and, and_true, false_and, and_false, m1_lt0, m1_eq0, eq_self, Bool.false_eq_true, reduceCtorEq, z_lt0, i1_eq0, i0_eq1, i1_eq1, xrZ0, xrZ1, xrZt, n32_eq0, n32_eq1, n32_gt0, n32_gt1, n32_lt1, n32_le1, n32_0le, tf0, tf1, xaI_of, q2a, q2b, q2m, q2l, q2g, q2r, q2s, q2e, q3a, q3b, q3m, q3l, q3g, q3r, q3s, q3e, q4a, q4b, q4m, q4l, q4g, q4r, q4s, q4e, q216a, q216b, q216m, q216l, q216g, q216r, q216s, q216e, q0, q1, ekX12_voter_0_5, bX12_voter_0, ekX12_voter_1_1, bX12_voter_1, bX12_voter_2, ekX12_voter_3_2, bX12_voter_3, bX12_voter_4, ekX12_voter_5_4, ekX12_voter_5_3, bX12_voter_5, bX12_voter_6, hC2.2.1]
        exact RR_I (oR_l f1 hC2)
      refine RR_if (fun q => ?_) (fun q3 => ?_)
      · subst q
        simp (disch := omega) only [n32_ltE, n32_leE, n32_eqE, n32_eqm, m1_eqn, n32_ge0, n32_lt0, n32_nat, n32_succ, n32_add, xin_n32, xin_b1, xin_b2, cond_true, cond_false, if_true, if_false, xcI_some, xcV_some, xcJ_some, xcR_some, xu_ee, xu_rne, xu_kne, ite_self, not_true_eq_false, not_false_eq_true, ne_eq, true_and, and_true, false_and, and_false, m1_lt0, m1_eq0, eq_self, Bool.false_eq_true, reduceCtorEq, z_lt0, i1_eq0, i0_eq1, i1_eq1, xrZ0, xrZ1, xrZt, n32_eq0, n32_eq1, n32_gt0, n32_gt1, n32_lt1, n32_le1, n32_0le, tf0, tf1, xaI_of, q2a, q2b, q2m, q2l, q2g, q2r, q2s, q2e, q3a, q3b, q3m, q3l, q3g, q3r, q3s, q3e, q4a, q4b, q4m, q4l, q4g, q4r, q4s, q4e, q216a, q216b, q216m, q216l, q216g, q216r, q216s, q216e, q0, q1, q2, ekX12_voter_0_5, bX12_voter_0, ekX12_voter_1_1, bX12_voter_1, bX12_voter_2, ekX12_voter_3_2, bX12_voter_3, bX12_voter_4, ekX12_voter_5_4, ekX12_voter_5_3, bX12_voter_5, bX12_voter_6, hF.2.2.2.1, sX12_bitOf, bt_t1, sX12_truth]
        cases bt (ofS S) v <;> exact RR_I (oR_l f1 hC2)
      · simp (disch := omega) only [n32_ltE, n32_leE, n32_eqE, n32_eqm, m1_eqn, n32_ge0, n32_lt0, n32_nat, n32_succ, n32_add, xin_n32, xin_b1, xin_b2, cond_true, cond_false, if_true, if_false, xcI_some, xcV_some, xcJ_some, xcR_some, xu_ee, xu_rne, xu_kne, ite_self, not_true_eq_false, not_false_eq_true, ne_eq, true_and, and_true, false_and, and_false, m1_lt0, m1_eq0, eq_self, Bool.false_eq_true, reduceCtorEq, z_lt0, i1_eq0, i0_eq1, i1_eq1, xrZ0, xrZ1, xrZt, n32_eq0, n32_eq1, n32_gt0, n32_gt1, n32_lt1, n32_le1, n32_0le, tf0, tf1, xaI_of, q2a, q2b, q2m, q2l, q2g, q2r, q2s, q2e, q3a, q3b, q3m, q3l, q3g, q3r, q3s, q3e, q4a, q4b, q4m, q4l, q4g, q4r, q4s, q4e, q216a, q216b, q216m, q216l, q216g, q216r, q216s, q216e, q0, q1, q2, q3, ekX12_voter_0_5, bX12_voter_0, ekX12_voter_1_1, bX12_voter_1, bX12_voter_2, ekX12_voter_3_2, bX12_voter_3, bX12_voter_4, ekX12_voter_5_4, ekX12_voter_5_3, bX12_voter_5, bX12_voter_6]
        exact RR_I (oR_l f1 hC2)
  · refine ⟨-1, fun d e L I J hC => ?_, fun d e L I J hC => ?_⟩
    · refine RR_eq ((aX11_voter _ e L I J _ _).trans (bX11_voter_0 _ e L I J _ _)) ?_
      simp (disch := omega) only [n32_ltE, n32_leE, n32_eqE, n32_eqm, m1_eqn, n32_ge0, n32_lt0, n32_nat, n32_succ, n32_add, xin_n32, xin_b1, xin_b2, cond_true, cond_false, if_true, if_false, xcI_some, xcV_some, xcJ_some, xcR_some, xu_ee, xu_rne, xu_kne, ite_self, not_true_eq_false, not_false_eq_true, ne_eq, true_and, and_true, false_and, and_false, m1_lt0, m1_eq0, eq_self, Bool.false_eq_true, reduceCtorEq, z_lt0, i1_eq0, i0_eq1, i1_eq1, xrZ0, xrZ1, xrZt, n32_eq0, n32_eq1, n32_gt0, n32_gt1, n32_lt1, n32_le1, n32_0le, tf0, tf1, xaI_of, q2a, q2b, q2m, q2l, q2g, q2r, q2s, q2e, q3a, q3b, q3m, q3l, q3g, q3r, q3s, q3e, c_hasVoter_n hC.2.1 hw hx, ekX11_voter_0_3, bX11_voter_0, bX11_voter_1, bX11_voter_2, ekX11_voter_3_3, bX11_voter_3, bX11_voter_4, ekX11_voter_5_2, bX11_voter_5, bX11_voter_6]
      exact RR_I (oC_r hC)
    · refine RR_eq ((aX12_voter _ e L I J _ _).trans (bX12_voter_0 _ e L I J _ _)) ?_
      simp (disch := omega) only [n32_ltE, n32_leE, n32_eqE, n32_eqm, m1_eqn, n32_ge0, n32_lt0, n32_nat, n32_succ, n32_add, xin_n32, xin_b1, xin_b2, cond_true, cond_false, if_true, if_false, xcI_some, xcV_some, xcJ_some, xcR_some, xu_ee, xu_rne, xu_kne, ite_self, not_true_eq_false, not_false_eq_true, ne_eq, true_and, and_true, false_and, and_false, m1_lt0, m1_eq0, eq_self, Bool.false_eq_true, reduceCtorEq, z_lt0, i1_eq0, i0_eq1, i1_eq1, xrZ0, xrZ1, xrZt, n32_eq0, n32_eq1, n32_gt0, n32_gt1, n32_lt1, n32_le1, n32_0le, tf0, tf1, xaI_of, q2a, q2b, q2m, q2l, q2g, q2r, q2s, q2e, q3a, q3b, q3m, q3l, q3g, q3r, q3s, q3e, q4a, q4b, q4m, q4l, q4g, q4r, q4s, q4e, q216a, q216b, q216m, q216l, q216g, q216r, q216s, q216e, r_isVoter_n (S0 hC.2.1) hw hx, ekX12_voter_0_5, bX12_voter_0, ekX12_voter_1_1, bX12_voter_1, bX12_voter_2, ekX12_voter_3_2, bX12_voter_3, bX12_voter_4, ekX12_voter_5_4, ekX12_voter_5_3, bX12_voter_5, bX12_voter_6]
      exact RR_I (oR_0 hC)
theorem q_vote (hW : WS S) (x y : Int32) : same S N 121 209 [.int x, .int y] := by
  have hw := hW.1
  have hk := hW.2.1
  have h48 := k_48 hk
  rcases inr_or x (sK S) (by omega) with ⟨i, hi, rfl⟩ | hx
  · refine ⟨if y = 0 then S (72 + i) else if y = 1 then S (120 + i) else if y = 2 then S (168 + i) else -1, fun d e L I J hC => ?_, fun d e L I J hC => ?_⟩
    · have hA := hC.2.2.1
      refine RR_eq ((aX11_vote _ e L I J _ _).trans (bX11_vote_0 _ e L I J _ _)) ?_
      rw [sX10_hasVote]
      simp (disch := omega) only [n32_ltE, n32_leE, n32_eqE, n32_eqm, m1_eqn, n32_ge0, n32_lt0, n32_nat, n32_succ, n32_add, xin_n32, xin_b1, xin_b2, cond_true, cond_false, if_true, if_false, xcI_some, xcV_some, xcJ_some, xcR_some, xu_ee, xu_rne, xu_kne, ite_self, not_true_eq_false, not_false_eq_true, ne_eq, true_and, and_true, false_and, and_false, m1_lt0, m1_eq0, eq_self, Bool.false_eq_true, reduceCtorEq, z_lt0, i1_eq0, i0_eq1, i1_eq1, xrZ0, xrZ1, xrZt, n32_eq0, n32_eq1, n32_gt0, n32_gt1, n32_lt1, n32_le1, n32_0le, tf0, tf1, xaI_of, q2a, q2b, q2m, q2l, q2g, q2r, q2s, q2e, a_K hA hk, hi, ekX11_vote_0_3, bX11_vote_0, bX11_vote_1, bX11_vote_2, bX11_vote_3, bX11_vote_4, bX11_vote_5, (hA.2.1 i hi).1, (hA.2.1 i hi).2.1, (hA.2.1 i hi).2.2]
      refine RR_if (fun q => ?_) (fun q0 => ?_)
      · simp only [q, if_true]
        exact RR_I (oC_r hC)
      refine RR_if (fun q => ?_) (fun q1 => ?_)
      · simp only [q0, q, if_true, if_false]
        exact RR_I (oC_r hC)
      refine RR_if (fun q => ?_) (fun q2 => ?_)
      · simp only [q0, q1, q, if_true, if_false]
        exact RR_I (oC_r hC)
      · simp only [q0, q1, q2, if_false]
        exact RR_I (oC_r hC)
    · refine RR_eq ((aX12_vote _ e L I J _ _).trans (bX12_vote_0 _ e L I J _ _)) ?_
      rw [sX12_isIn, hC.2.1, k_3 hk]
      simp only [le_pred (show sK S < 1000000 by omega)]
      simp (disch := omega) only [n32_ltE, n32_leE, n32_eqE, n32_eqm, m1_eqn, n32_ge0, n32_lt0, n32_nat, n32_succ, n32_add, xin_n32, xin_b1, xin_b2, cond_true, cond_false, if_true, if_false, xcI_some, xcV_some, xcJ_some, xcR_some, xu_ee, xu_rne, xu_kne, ite_self, not_true_eq_false, not_false_eq_true, ne_eq, true_and, and_true, false_and, and_false, m1_lt0, m1_eq0, eq_self, Bool.false_eq_true, reduceCtorEq, z_lt0, i1_eq0, i0_eq1, i1_eq1, xrZ0, xrZ1, xrZt, n32_eq0, n32_eq1, n32_gt0, n32_gt1, n32_lt1, n32_le1, n32_0le, tf0, tf1, xaI_of, q2a, q2b, q2m, q2l, q2g, q2r, q2s, q2e, q72a, q72b, q72m, q72l, q72g, q72r, q72s, q72e, q120a, q120b, q120m, q120l, q120g, q120r, q120s, q120e, q168a, q168b, q168m, q168l, q168g, q168r, q168s, q168e, hi, ekX12_vote_0_11, bX12_vote_0, bX12_vote_1, bX12_vote_2, bX12_vote_3, bX12_vote_4, bX12_vote_5, S0 hC.2.1, hC.2.1]
      refine RR_if (fun q => ?_) (fun q0 => ?_)
      · simp only [q, if_true]
        exact RR_I (oR_0 hC)
      refine RR_if (fun q => ?_) (fun q1 => ?_)
      · simp only [q0, q, if_true, if_false]
        exact RR_I (oR_0 hC)
      refine RR_if (fun q => ?_) (fun q2 => ?_)
      · simp only [q0, q1, q, if_true, if_false]
        exact RR_I (oR_0 hC)
      · simp only [q0, q1, q2, if_false]
        exact RR_I (oR_0 hC)
  · refine ⟨-1, fun d e L I J hC => ?_, fun d e L I J hC => ?_⟩
    · refine RR_eq ((aX11_vote _ e L I J _ _).trans (bX11_vote_0 _ e L I J _ _)) ?_
      rw [sX10_hasVote, a_K hC.2.2.1 hk]
      rcases hx with hx | hx
      · simp (disch := omega) only [n32_ltE, n32_leE, n32_eqE, n32_eqm, m1_eqn, n32_ge0, n32_lt0, n32_nat, n32_succ, n32_add, xin_n32, xin_b1, xin_b2, cond_true, cond_false, if_true, if_false, xcI_some, xcV_some, xcJ_some, xcR_some, xu_ee, xu_rne, xu_kne, ite_self, not_true_eq_false, not_false_eq_true, ne_eq, true_and, and_true, false_and, and_false, m1_lt0, m1_eq0, eq_self, Bool.false_eq_true, reduceCtorEq, z_lt0, i1_eq0, i0_eq1, i1_eq1, xrZ0, xrZ1, xrZt, n32_eq0, n32_eq1, n32_gt0, n32_gt1, n32_lt1, n32_le1, n32_0le, tf0, tf1, xaI_of, q2a, q2b, q2m, q2l, q2g, q2r, q2s, q2e, hx, ekX11_vote_0_3, bX11_vote_0, bX11_vote_1, bX11_vote_2, bX11_vote_3, bX11_vote_4, bX11_vote_5]
        exact RR_I (oC_r hC)
      · simp (disch := omega) only [n32_ltE, n32_leE, n32_eqE, n32_eqm, m1_eqn, n32_ge0, n32_lt0, n32_nat, n32_succ, n32_add, xin_n32, xin_b1, xin_b2, cond_true, cond_false, if_true, if_false, xcI_some, xcV_some, xcJ_some, xcR_some, xu_ee, xu_rne, xu_kne, ite_self, not_true_eq_false, not_false_eq_true, ne_eq, true_and, and_true, false_and, and_false, m1_lt0, m1_eq0, eq_self, Bool.false_eq_true, reduceCtorEq, z_lt0, i1_eq0, i0_eq1, i1_eq1, xrZ0, xrZ1, xrZt, n32_eq0, n32_eq1, n32_gt0, n32_gt1, n32_lt1, n32_le1, n32_0le, tf0, tf1, xaI_of, q2a, q2b, q2m, q2l, q2g, q2r, q2s, q2e, hx, ekX11_vote_0_3, bX11_vote_0, bX11_vote_1, bX11_vote_2, bX11_vote_3, bX11_vote_4, bX11_vote_5]
        exact RR_I (oC_r hC)
    · refine RR_eq ((aX12_vote _ e L I J _ _).trans (bX12_vote_0 _ e L I J _ _)) ?_
      rw [sX12_isIn, hC.2.1, k_3 hk]
      simp only [le_pred (show sK S < 1000000 by omega)]
      rcases hx with hx | hx
      · simp (disch := omega) only [n32_ltE, n32_leE, n32_eqE, n32_eqm, m1_eqn, n32_ge0, n32_lt0, n32_nat, n32_succ, n32_add, xin_n32, xin_b1, xin_b2, cond_true, cond_false, if_true, if_false, xcI_some, xcV_some, xcJ_some, xcR_some, xu_ee, xu_rne, xu_kne, ite_self, not_true_eq_false, not_false_eq_true, ne_eq, true_and, and_true, false_and, and_false, m1_lt0, m1_eq0, eq_self, Bool.false_eq_true, reduceCtorEq, z_lt0, i1_eq0, i0_eq1, i1_eq1, xrZ0, xrZ1, xrZt, n32_eq0, n32_eq1, n32_gt0, n32_gt1, n32_lt1, n32_le1, n32_0le, tf0, tf1, xaI_of, q2a, q2b, q2m, q2l, q2g, q2r, q2s, q2e, q72a, q72b, q72m, q72l, q72g, q72r, q72s, q72e, q120a, q120b, q120m, q120l, q120g, q120r, q120s, q120e, q168a, q168b, q168m, q168l, q168g, q168r, q168s, q168e, hx, ekX12_vote_0_11, bX12_vote_0, bX12_vote_1, bX12_vote_2, bX12_vote_3, bX12_vote_4, bX12_vote_5]
        exact RR_I (oR_0 hC)
      · simp (disch := omega) only [n32_ltE, n32_leE, n32_eqE, n32_eqm, m1_eqn, n32_ge0, n32_lt0, n32_nat, n32_succ, n32_add, xin_n32, xin_b1, xin_b2, cond_true, cond_false, if_true, if_false, xcI_some, xcV_some, xcJ_some, xcR_some, xu_ee, xu_rne, xu_kne, ite_self, not_true_eq_false, not_false_eq_true, ne_eq, true_and, and_true, false_and, and_false, m1_lt0, m1_eq0, eq_self, Bool.false_eq_true, reduceCtorEq, z_lt0, i1_eq0, i0_eq1, i1_eq1, xrZ0, xrZ1, xrZt, n32_eq0, n32_eq1, n32_gt0, n32_gt1, n32_lt1, n32_le1, n32_0le, tf0, tf1, xaI_of, q2a, q2b, q2m, q2l, q2g, q2r, q2s, q2e, q72a, q72b, q72m, q72l, q72g, q72r, q72s, q72e, q120a, q120b, q120m, q120l, q120g, q120r, q120s, q120e, q168a, q168b, q168m, q168l, q168g, q168r, q168s, q168e, hx, ekX12_vote_0_11, bX12_vote_0, bX12_vote_1, bX12_vote_2, bX12_vote_3, bX12_vote_4, bX12_vote_5]
        exact RR_I (oR_0 hC)
end QA
