/-! Calls that only ask: pairs that offend, clashes. -/
section QE
variable {d e L : Nat} {S : TS} {N : Nat → Int64} {I K M : TI} {J : TJ} {a b s t v k i n w : Nat}
theorem sK_pr (hk : wfK S) : prS S ≤ 48 * 48 := by
  have h48 := k_48 hk
  have g1 : ∀ i k, gp S i k ≤ 1 := fun i k => by
    unfold gp
    split <;> omega
  have b1 : ∀ (f : Nat → Nat) (c n : Nat), (∀ i, f i ≤ c) → sumN f n ≤ n * c := by
    intro f c n h
    induction n with
    | zero => exact Nat.zero_le _
    | succ n ih =>
      rw [sumN_s, Nat.succ_mul]
      have := h n
      omega
  unfold prS
  refine Nat.le_trans (b1 _ 48 _ (fun i => ?_)) (Nat.mul_le_mul_right 48 h48)
  refine Nat.le_trans (b1 _ 1 _ (fun k => g1 i k)) ?_
  omega
theorem c_pairPart (hC : CS S N I J) {x : Int32} (hw48 : w < 2147483648) : (∃ i k, i < k ∧ k < sK S ∧ ofp S i k ≠ 0 ∧ evN S i k = w ∧ xcall xprog (d + 3) 110 [.ref 37, .int (n32 w), .int x] (xst e L I J) = some (some (.int (evV S i k x)), xst e L I J)) ∨ (prS S ≤ w ∧ xcall xprog (d + 3) 110 [.ref 37, .int (n32 w), .int x] (xst e L I J) = some (some (.int (-1)), xst e L I J)) := by
  have hw := hC.1.1
  have hk := hC.1.2.1
  have hT := hC.2.1
  have hA := hC.2.2.1
  have h48 := k_48 hk
  have e0 : xcall xprog (d + 3) 110 [.ref 37, .int (n32 w), .int x] (xst e L I J) = xlim (xcall xprog (d + 2)) mX10_pairPart 1 [.ref 37, .int (n32 w), .int x, .int (n32 0), .int (n32 0), xD, xD] [] (xst e L I J) := (aX10_pairPart _ e L I J _ _).trans (bX10_pairPart_0 _ e L I J _ _)
  rw [e0]
  refine evidence_loop (S := S) (fun i c => xlim (xcall xprog (d + 2)) mX10_pairPart 1 [.ref 37, .int (n32 w), .int x, .int (n32 c), .int (n32 i), xD, xD] [] (xst e L I J)) (fun i k c => xlim (xcall xprog (d + 2)) mX10_pairPart 2 [.ref 37, .int (n32 w), .int x, .int (n32 c), .int (n32 i), .int (n32 k), xD] [] (xst e L I J)) (fun i k => some (some (.int (evV S i k x)), xst e L I J)) (some (some (.int (-1)), xst e L I J)) w (fun i c hi hc => ?_) (fun i k c hi hk2 hc => ?_) (fun i c hi hc => ?_) (fun c hc => ?_)
  · refine (bX10_pairPart_1 _ e L I J _ _ _ _).trans ?_
    simp (disch := omega) only [n32_ltE, n32_leE, n32_eqE, n32_eqm, m1_eqn, n32_ge0, n32_lt0, n32_nat, n32_succ, n32_add, xin_n32, xin_b1, xin_b2, cond_true, cond_false, if_true, if_false, xcI_some, xcV_some, xcJ_some, xcR_some, xu_ee, xu_rne, xu_kne, ite_self, not_true_eq_false, not_false_eq_true, ne_eq, true_and, and_true, false_and, and_false, m1_lt0, m1_eq0, eq_self, Bool.false_eq_true, reduceCtorEq, z_lt0, i1_eq0, i0_eq1, i1_eq1, xrZ0, xrZ1, xrZt, n32_eq0, n32_eq1, n32_gt0, n32_gt1, n32_lt1, n32_le1, n32_0le, tf0, tf1, xaI_of, a_K hA hk, hi]
  · refine (bX10_pairPart_2 _ e L I J _ _ _ _ _).trans ?_
    have ho := ofp_le (S := S) (i := i) (k := k)
    by_cases q : ofp S i k = 0
    · simp (disch := omega) only [n32_ltE, n32_leE, n32_eqE, n32_eqm, m1_eqn, n32_ge0, n32_lt0, n32_nat, n32_succ, n32_add, xin_n32, xin_b1, xin_b2, cond_true, cond_false, if_true, if_false, xcI_some, xcV_some, xcJ_some, xcR_some, xu_ee, xu_rne, xu_kne, ite_self, not_true_eq_false, not_false_eq_true, ne_eq, true_and, and_true, false_and, and_false, m1_lt0, m1_eq0, eq_self, Bool.false_eq_true, reduceCtorEq, z_lt0, i1_eq0, i0_eq1, i1_eq1, xrZ0, xrZ1, xrZt, n32_eq0, n32_eq1, n32_gt0, n32_gt1, n32_lt1, n32_le1, n32_0le, tf0, tf1, xaI_of, bX10_pairPart_0, ekX10_pairPart_2_7, bX10_pairPart_3, bX10_pairPart_4, bX10_pairPart_5, bX10_pairPart_6, bX10_pairPart_7, bX10_pairPart_8, bX10_pairPart_9, bX10_pairPart_10, a_K hA hk, hk2, c_offenceBetween hT hw hA hk (show i < sK S by omega) hk2, q, Int32.add_zero]
    · by_cases q2 : c = w
      · unfold evV
        simp (disch := omega) only [n32_ltE, n32_leE, n32_eqE, n32_eqm, m1_eqn, n32_ge0, n32_lt0, n32_nat, n32_succ, n32_add, xin_n32, xin_b1, xin_b2, cond_true, cond_false, if_true, if_false, xcI_some, xcV_some, xcJ_some, xcR_some, xu_ee, xu_rne, xu_kne, ite_self, not_true_eq_false, not_false_eq_true, ne_eq, true_and, and_true, false_and, and_false, m1_lt0, m1_eq0, eq_self, Bool.false_eq_true, reduceCtorEq, z_lt0, i1_eq0, i0_eq1, i1_eq1, xrZ0, xrZ1, xrZt, n32_eq0, n32_eq1, n32_gt0, n32_gt1, n32_lt1, n32_le1, n32_0le, tf0, tf1, xaI_of, bX10_pairPart_0, ekX10_pairPart_2_7, bX10_pairPart_3, bX10_pairPart_4, bX10_pairPart_5, bX10_pairPart_6, bX10_pairPart_7, bX10_pairPart_8, bX10_pairPart_9, bX10_pairPart_10, a_K hA hk, hk2, c_offenceBetween hT hw hA hk (show i < sK S by omega) hk2, q, q2]
        by_cases z : x = 0
        · simp only [z, if_true]
        · by_cases z1 : x = 1
          · simp only [z, z1, if_true, if_false]
            rfl
          · simp only [z, z1, if_false]
      · simp (disch := omega) only [n32_ltE, n32_leE, n32_eqE, n32_eqm, m1_eqn, n32_ge0, n32_lt0, n32_nat, n32_succ, n32_add, xin_n32, xin_b1, xin_b2, cond_true, cond_false, if_true, if_false, xcI_some, xcV_some, xcJ_some, xcR_some, xu_ee, xu_rne, xu_kne, ite_self, not_true_eq_false, not_false_eq_true, ne_eq, true_and, and_true, false_and, and_false, m1_lt0, m1_eq0, eq_self, Bool.false_eq_true, reduceCtorEq, z_lt0, i1_eq0, i0_eq1, i1_eq1, xrZ0, xrZ1, xrZt, n32_eq0, n32_eq1, n32_gt0, n32_gt1, n32_lt1, n32_le1, n32_0le, tf0, tf1, xaI_of, bX10_pairPart_0, ekX10_pairPart_2_7, bX10_pairPart_3, bX10_pairPart_4, bX10_pairPart_5, bX10_pairPart_6, bX10_pairPart_7, bX10_pairPart_8, bX10_pairPart_9, bX10_pairPart_10, a_K hA hk, hk2, c_offenceBetween hT hw hA hk (show i < sK S by omega) hk2, q, q2]
  · refine (bX10_pairPart_2 _ e L I J _ _ _ _ _).trans ?_
    simp (disch := omega) only [n32_ltE, n32_leE, n32_eqE, n32_eqm, m1_eqn, n32_ge0, n32_lt0, n32_nat, n32_succ, n32_add, xin_n32, xin_b1, xin_b2, cond_true, cond_false, if_true, if_false, xcI_some, xcV_some, xcJ_some, xcR_some, xu_ee, xu_rne, xu_kne, ite_self, not_true_eq_false, not_false_eq_true, ne_eq, true_and, and_true, false_and, and_false, m1_lt0, m1_eq0, eq_self, Bool.false_eq_true, reduceCtorEq, z_lt0, i1_eq0, i0_eq1, i1_eq1, xrZ0, xrZ1, xrZt, n32_eq0, n32_eq1, n32_gt0, n32_gt1, n32_lt1, n32_le1, n32_0le, tf0, tf1, xaI_of, bX10_pairPart_0, ekX10_pairPart_2_7, bX10_pairPart_3, bX10_pairPart_4, bX10_pairPart_5, bX10_pairPart_6, bX10_pairPart_7, bX10_pairPart_8, bX10_pairPart_9, bX10_pairPart_10, a_K hA hk, Nat.lt_irrefl]
  · refine (bX10_pairPart_1 _ e L I J _ _ _ _).trans ?_
    simp (disch := omega) only [n32_ltE, n32_leE, n32_eqE, n32_eqm, m1_eqn, n32_ge0, n32_lt0, n32_nat, n32_succ, n32_add, xin_n32, xin_b1, xin_b2, cond_true, cond_false, if_true, if_false, xcI_some, xcV_some, xcJ_some, xcR_some, xu_ee, xu_rne, xu_kne, ite_self, not_true_eq_false, not_false_eq_true, ne_eq, true_and, and_true, false_and, and_false, m1_lt0, m1_eq0, eq_self, Bool.false_eq_true, reduceCtorEq, z_lt0, i1_eq0, i0_eq1, i1_eq1, xrZ0, xrZ1, xrZt, n32_eq0, n32_eq1, n32_gt0, n32_gt1, n32_lt1, n32_le1, n32_0le, tf0, tf1, xaI_of, bX10_pairPart_0, ekX10_pairPart_2_7, bX10_pairPart_3, bX10_pairPart_4, bX10_pairPart_5, bX10_pairPart_6, bX10_pairPart_7, bX10_pairPart_8, bX10_pairPart_9, bX10_pairPart_10, a_K hA hk, Nat.lt_irrefl]
theorem r_evidence_loop (hC : RS S I) (hR : RT S I) {x : Int32} (hw48 : w < 2147483648) : (∃ i k, i < k ∧ k < sK S ∧ ofp S i k ≠ 0 ∧ evN S i k = w ∧ xlim (xcall xprog (d + 3)) mX12_evidence 2 [.ref 209, .int (n32 w), .int x, xD, xD, xD, xD] [] (xst e L I J) = some (some (.int (evV S i k x)), xst e L I J)) ∨ (prS S ≤ w ∧ xlim (xcall xprog (d + 3)) mX12_evidence 2 [.ref 209, .int (n32 w), .int x, xD, xD, xD, xD] [] (xst e L I J) = some (some (.int (-1)), xst e L I J)) := by
  have hw := hC.1.1
  have hk := hC.1.2.1
  have hS := hC.2.1
  have h48 := k_48 hk
  have e0 : xlim (xcall xprog (d + 3)) mX12_evidence 2 [.ref 209, .int (n32 w), .int x, xD, xD, xD, xD] [] (xst e L I J) = xlim (xcall xprog (d + 3)) mX12_evidence 3 [.ref 209, .int (n32 w), .int x, .int (n32 0), .int (n32 0), xD, xD] [] (xst e L I J) := bX12_evidence_2 _ e L I J _ _
  rw [e0]
  refine evidence_loop (S := S) (fun i c => xlim (xcall xprog (d + 3)) mX12_evidence 3 [.ref 209, .int (n32 w), .int x, .int (n32 c), .int (n32 i), xD, xD] [] (xst e L I J)) (fun i k c => xlim (xcall xprog (d + 3)) mX12_evidence 4 [.ref 209, .int (n32 w), .int x, .int (n32 c), .int (n32 i), .int (n32 k), xD] [] (xst e L I J)) (fun i k => some (some (.int (evV S i k x)), xst e L I J)) (some (some (.int (-1)), xst e L I J)) w (fun i c hi hc => ?_) (fun i k c hi hk2 hc => ?_) (fun i c hi hc => ?_) (fun c hc => ?_)
  · refine (bX12_evidence_3 _ e L I J _ _ _ _).trans ?_
    simp (disch := omega) only [n32_ltE, n32_leE, n32_eqE, n32_eqm, m1_eqn, n32_ge0, n32_lt0, n32_nat, n32_succ, n32_add, xin_n32, xin_b1, xin_b2, cond_true, cond_false, if_true, if_false, xcI_some, xcV_some, xcJ_some, xcR_some, xu_ee, xu_rne, xu_kne, ite_self, not_true_eq_false, not_false_eq_true, ne_eq, true_and, and_true, false_and, and_false, m1_lt0, m1_eq0, eq_self, Bool.false_eq_true, reduceCtorEq, z_lt0, i1_eq0, i0_eq1, i1_eq1, xrZ0, xrZ1, xrZt, n32_eq0, n32_eq1, n32_gt0, n32_gt1, n32_lt1, n32_le1, n32_0le, tf0, tf1, xaI_of, hS, k_3 hk, hi]
  · refine (bX12_evidence_4 _ e L I J _ _ _ _ _).trans ?_
    have ho := ofp_le (S := S) (i := i) (k := k)
    by_cases q : ofp S i k = 0
    · simp (disch := omega) only [n32_ltE, n32_leE, n32_eqE, n32_eqm, m1_eqn, n32_ge0, n32_lt0, n32_nat, n32_succ, n32_add, xin_n32, xin_b1, xin_b2, cond_true, cond_false, if_true, if_false, xcI_some, xcV_some, xcJ_some, xcR_some, xu_ee, xu_rne, xu_kne, ite_self, not_true_eq_false, not_false_eq_true, ne_eq, true_and, and_true, false_and, and_false, m1_lt0, m1_eq0, eq_self, Bool.false_eq_true, reduceCtorEq, z_lt0, i1_eq0, i0_eq1, i1_eq1, xrZ0, xrZ1, xrZt, n32_eq0, n32_eq1, n32_gt0, n32_gt1, n32_lt1, n32_le1, n32_0le, tf0, tf1, xaI_of, ekX12_evidence_0_16, ekX12_evidence_0_11, ekX12_evidence_0_4, bX12_evidence_0, bX12_evidence_1, bX12_evidence_2, ekX12_evidence_4_9, bX12_evidence_5, bX12_evidence_6, bX12_evidence_7, bX12_evidence_8, bX12_evidence_9, bX12_evidence_10, bX12_evidence_11, bX12_evidence_12, hS, k_3 hk, hk2, r_offence hS hw hR hk (show i < sK S by omega) hk2, q]
    · by_cases q2 : c = w
      · unfold evV
        simp (disch := omega) only [n32_ltE, n32_leE, n32_eqE, n32_eqm, m1_eqn, n32_ge0, n32_lt0, n32_nat, n32_succ, n32_add, xin_n32, xin_b1, xin_b2, cond_true, cond_false, if_true, if_false, xcI_some, xcV_some, xcJ_some, xcR_some, xu_ee, xu_rne, xu_kne, ite_self, not_true_eq_false, not_false_eq_true, ne_eq, true_and, and_true, false_and, and_false, m1_lt0, m1_eq0, eq_self, Bool.false_eq_true, reduceCtorEq, z_lt0, i1_eq0, i0_eq1, i1_eq1, xrZ0, xrZ1, xrZt, n32_eq0, n32_eq1, n32_gt0, n32_gt1, n32_lt1, n32_le1, n32_0le, tf0, tf1, xaI_of, ekX12_evidence_0_16, ekX12_evidence_0_11, ekX12_evidence_0_4, bX12_evidence_0, bX12_evidence_1, bX12_evidence_2, ekX12_evidence_4_9, bX12_evidence_5, bX12_evidence_6, bX12_evidence_7, bX12_evidence_8, bX12_evidence_9, bX12_evidence_10, bX12_evidence_11, bX12_evidence_12, hS, k_3 hk, hk2, r_offence hS hw hR hk (show i < sK S by omega) hk2, q, q2]
        by_cases z : x = 0
        · simp only [z, if_true]
        · by_cases z1 : x = 1
          · simp only [z, z1, if_true, if_false]
            rfl
          · simp only [z, z1, if_false]
      · simp (disch := omega) only [n32_ltE, n32_leE, n32_eqE, n32_eqm, m1_eqn, n32_ge0, n32_lt0, n32_nat, n32_succ, n32_add, xin_n32, xin_b1, xin_b2, cond_true, cond_false, if_true, if_false, xcI_some, xcV_some, xcJ_some, xcR_some, xu_ee, xu_rne, xu_kne, ite_self, not_true_eq_false, not_false_eq_true, ne_eq, true_and, and_true, false_and, and_false, m1_lt0, m1_eq0, eq_self, Bool.false_eq_true, reduceCtorEq, z_lt0, i1_eq0, i0_eq1, i1_eq1, xrZ0, xrZ1, xrZt, n32_eq0, n32_eq1, n32_gt0, n32_gt1, n32_lt1, n32_le1, n32_0le, tf0, tf1, xaI_of, ekX12_evidence_0_16, ekX12_evidence_0_11, ekX12_evidence_0_4, bX12_evidence_0, bX12_evidence_1, bX12_evidence_2, ekX12_evidence_4_9, bX12_evidence_5, bX12_evidence_6, bX12_evidence_7, bX12_evidence_8, bX12_evidence_9, bX12_evidence_10, bX12_evidence_11, bX12_evidence_12, hS, k_3 hk, hk2, r_offence hS hw hR hk (show i < sK S by omega) hk2, q, q2]
  · refine (bX12_evidence_4 _ e L I J _ _ _ _ _).trans ?_
    simp (disch := omega) only [n32_ltE, n32_leE, n32_eqE, n32_eqm, m1_eqn, n32_ge0, n32_lt0, n32_nat, n32_succ, n32_add, xin_n32, xin_b1, xin_b2, cond_true, cond_false, if_true, if_false, xcI_some, xcV_some, xcJ_some, xcR_some, xu_ee, xu_rne, xu_kne, ite_self, not_true_eq_false, not_false_eq_true, ne_eq, true_and, and_true, false_and, and_false, m1_lt0, m1_eq0, eq_self, Bool.false_eq_true, reduceCtorEq, z_lt0, i1_eq0, i0_eq1, i1_eq1, xrZ0, xrZ1, xrZt, n32_eq0, n32_eq1, n32_gt0, n32_gt1, n32_lt1, n32_le1, n32_0le, tf0, tf1, xaI_of, ekX12_evidence_0_16, ekX12_evidence_0_11, ekX12_evidence_0_4, bX12_evidence_0, bX12_evidence_1, bX12_evidence_2, ekX12_evidence_4_9, bX12_evidence_5, bX12_evidence_6, bX12_evidence_7, bX12_evidence_8, bX12_evidence_9, bX12_evidence_10, bX12_evidence_11, bX12_evidence_12, hS, k_3 hk, Nat.lt_irrefl]
  · refine (bX12_evidence_3 _ e L I J _ _ _ _).trans ?_
    simp (disch := omega) only [n32_ltE, n32_leE, n32_eqE, n32_eqm, m1_eqn, n32_ge0, n32_lt0, n32_nat, n32_succ, n32_add, xin_n32, xin_b1, xin_b2, cond_true, cond_false, if_true, if_false, xcI_some, xcV_some, xcJ_some, xcR_some, xu_ee, xu_rne, xu_kne, ite_self, not_true_eq_false, not_false_eq_true, ne_eq, true_and, and_true, false_and, and_false, m1_lt0, m1_eq0, eq_self, Bool.false_eq_true, reduceCtorEq, z_lt0, i1_eq0, i0_eq1, i1_eq1, xrZ0, xrZ1, xrZt, n32_eq0, n32_eq1, n32_gt0, n32_gt1, n32_lt1, n32_le1, n32_0le, tf0, tf1, xaI_of, ekX12_evidence_0_16, ekX12_evidence_0_11, ekX12_evidence_0_4, bX12_evidence_0, bX12_evidence_1, bX12_evidence_2, ekX12_evidence_4_9, bX12_evidence_5, bX12_evidence_6, bX12_evidence_7, bX12_evidence_8, bX12_evidence_9, bX12_evidence_10, bX12_evidence_11, bX12_evidence_12, hS, k_3 hk, Nat.lt_irrefl]
theorem q_evidence (hW : WS S) (y x : Int32) : same S N 128 226 [.int y, .int x] := by
  have hw := hW.1
  have hk := hW.2.1
  have pr := sK_pr hk
  by_cases hx : x < 0 ∨ ¬ x ≤ 2
  · refine ⟨-1, fun d e L I J hC => ?_, fun d e L I J hC => ?_⟩
    · refine RR_eq ((aX11_evidence _ e L I J _ _).trans (bX11_evidence_0 _ e L I J _ _)) ?_
      by_cases q : y < 0
      · simp (disch := omega) only [n32_ltE, n32_leE, n32_eqE, n32_eqm, m1_eqn, n32_ge0, n32_lt0, n32_nat, n32_succ, n32_add, xin_n32, xin_b1, xin_b2, cond_true, cond_false, if_true, if_false, xcI_some, xcV_some, xcJ_some, xcR_some, xu_ee, xu_rne, xu_kne, ite_self, not_true_eq_false, not_false_eq_true, ne_eq, true_and, and_true, false_and, and_false, m1_lt0, m1_eq0, eq_self, Bool.false_eq_true, reduceCtorEq, z_lt0, i1_eq0, i0_eq1, i1_eq1, xrZ0, xrZ1, xrZt, n32_eq0, n32_eq1, n32_gt0, n32_gt1, n32_lt1, n32_le1, n32_0le, tf0, tf1, xaI_of, q2a, q2b, q2m, q2l, q2g, q2r, q2s, q2e, q, bX11_evidence_0, bX11_evidence_1, ekX11_evidence_2_4, bX11_evidence_2]
        exact RR_I (oC_r hC)
      · rcases hx with hx | hx
        · simp (disch := omega) only [n32_ltE, n32_leE, n32_eqE, n32_eqm, m1_eqn, n32_ge0, n32_lt0, n32_nat, n32_succ, n32_add, xin_n32, xin_b1, xin_b2, cond_true, cond_false, if_true, if_false, xcI_some, xcV_some, xcJ_some, xcR_some, xu_ee, xu_rne, xu_kne, ite_self, not_true_eq_false, not_false_eq_true, ne_eq, true_and, and_true, false_and, and_false, m1_lt0, m1_eq0, eq_self, Bool.false_eq_true, reduceCtorEq, z_lt0, i1_eq0, i0_eq1, i1_eq1, xrZ0, xrZ1, xrZt, n32_eq0, n32_eq1, n32_gt0, n32_gt1, n32_lt1, n32_le1, n32_0le, tf0, tf1, xaI_of, q2a, q2b, q2m, q2l, q2g, q2r, q2s, q2e, q, hx, bX11_evidence_0, bX11_evidence_1, ekX11_evidence_2_4, bX11_evidence_2]
          exact RR_I (oC_r hC)
        · simp (disch := omega) only [n32_ltE, n32_leE, n32_eqE, n32_eqm, m1_eqn, n32_ge0, n32_lt0, n32_nat, n32_succ, n32_add, xin_n32, xin_b1, xin_b2, cond_true, cond_false, if_true, if_false, xcI_some, xcV_some, xcJ_some, xcR_some, xu_ee, xu_rne, xu_kne, ite_self, not_true_eq_false, not_false_eq_true, ne_eq, true_and, and_true, false_and, and_false, m1_lt0, m1_eq0, eq_self, Bool.false_eq_true, reduceCtorEq, z_lt0, i1_eq0, i0_eq1, i1_eq1, xrZ0, xrZ1, xrZt, n32_eq0, n32_eq1, n32_gt0, n32_gt1, n32_lt1, n32_le1, n32_0le, tf0, tf1, xaI_of, q2a, q2b, q2m, q2l, q2g, q2r, q2s, q2e, q, hx, bX11_evidence_0, bX11_evidence_1, ekX11_evidence_2_4, bX11_evidence_2]
          exact RR_I (oC_r hC)
    · refine RR_eq ((aX12_evidence _ e L I J _ _).trans (bX12_evidence_0 _ e L I J _ _)) ?_
      refine RR_cV (r_lays (d := d + 4) (RS_0 hC)) (fun K J' ⟨j1, f1, hF, hC2⟩ => ?_)
      subst j1
      rw [ekX12_evidence_0_4, sX12_isIn, xcI_some, ekX12_evidence_0_11]
      refine RR_if (fun q => ?_) (fun q => ?_)
      · simp (disch := omega) only [n32_ltE, n32_leE, n32_eqE, n32_eqm, m1_eqn, n32_ge0, n32_lt0, n32_nat, n32_succ, n32_add, xin_n32, xin_b1, xin_b2, cond_true, cond_false, if_true, if_false, xcI_some, xcV_some, xcJ_some, xcR_some, xu_ee, xu_rne, xu_kne, ite_self, not_true_eq_false, not_false_eq_true, ne_eq, true_and, and_true, false_and, and_false, m1_lt0, m1_eq0, eq_self, Bool.false_eq_true, reduceCtorEq, z_lt0, i1_eq0, i0_eq1, i1_eq1, xrZ0, xrZ1, xrZt, n32_eq0, n32_eq1, n32_gt0, n32_gt1, n32_lt1, n32_le1, n32_0le, tf0, tf1, xaI_of, ekX12_evidence_0_16, ekX12_evidence_0_11, ekX12_evidence_0_4, bX12_evidence_0, bX12_evidence_1, bX12_evidence_2, ekX12_evidence_4_9, bX12_evidence_5, bX12_evidence_6, bX12_evidence_7, bX12_evidence_8, bX12_evidence_9, bX12_evidence_10, bX12_evidence_11, bX12_evidence_12]
        exact RR_I (oR_l f1 hC2)
      · rcases hx with hx | hx
        · simp (disch := omega) only [n32_ltE, n32_leE, n32_eqE, n32_eqm, m1_eqn, n32_ge0, n32_lt0, n32_nat, n32_succ, n32_add, xin_n32, xin_b1, xin_b2, cond_true, cond_false, if_true, if_false, xcI_some, xcV_some, xcJ_some, xcR_some, xu_ee, xu_rne, xu_kne, ite_self, not_true_eq_false, not_false_eq_true, ne_eq, true_and, and_true, false_and, and_false, m1_lt0, m1_eq0, eq_self, Bool.false_eq_true, reduceCtorEq, z_lt0, i1_eq0, i0_eq1, i1_eq1, xrZ0, xrZ1, xrZt, n32_eq0, n32_eq1, n32_gt0, n32_gt1, n32_lt1, n32_le1, n32_0le, tf0, tf1, xaI_of, hx, sX12_isIn, ekX12_evidence_0_16, ekX12_evidence_0_11, ekX12_evidence_0_4, bX12_evidence_0, bX12_evidence_1, bX12_evidence_2, ekX12_evidence_4_9, bX12_evidence_5, bX12_evidence_6, bX12_evidence_7, bX12_evidence_8, bX12_evidence_9, bX12_evidence_10, bX12_evidence_11, bX12_evidence_12]
          exact RR_I (oR_l f1 hC2)
        · simp (disch := omega) only [n32_ltE, n32_leE, n32_eqE, n32_eqm, m1_eqn, n32_ge0, n32_lt0, n32_nat, n32_succ, n32_add, xin_n32, xin_b1, xin_b2, cond_true, cond_false, if_true, if_false, xcI_some, xcV_some, xcJ_some, xcR_some, xu_ee, xu_rne, xu_kne, ite_self, not_true_eq_false, not_false_eq_true, ne_eq, true_and, and_true, false_and, and_false, m1_lt0, m1_eq0, eq_self, Bool.false_eq_true, reduceCtorEq, z_lt0, i1_eq0, i0_eq1, i1_eq1, xrZ0, xrZ1, xrZt, n32_eq0, n32_eq1, n32_gt0, n32_gt1, n32_lt1, n32_le1, n32_0le, tf0, tf1, xaI_of, hx, sX12_isIn, ekX12_evidence_0_16, ekX12_evidence_0_11, ekX12_evidence_0_4, bX12_evidence_0, bX12_evidence_1, bX12_evidence_2, ekX12_evidence_4_9, bX12_evidence_5, bX12_evidence_6, bX12_evidence_7, bX12_evidence_8, bX12_evidence_9, bX12_evidence_10, bX12_evidence_11, bX12_evidence_12]
          exact RR_I (oR_l f1 hC2)
  have hx0 : ¬ x < 0 := fun h => hx (Or.inl h)
  have hx2 : x ≤ 2 := by
    by_cases h : x ≤ 2
    · exact h
    · exact absurd (Or.inr h) hx
  rcases inr_or y (prS S) (by omega) with ⟨w, hwl, rfl⟩ | hy
  · by_cases hp : ∃ i k, i < k ∧ k < sK S ∧ ofp S i k ≠ 0 ∧ evN S i k = w
    · obtain ⟨i, k, p1, p2, p3, p4⟩ := hp
      refine ⟨evV S i k x, fun d e L I J hC => ?_, fun d e L I J hC => ?_⟩
      · refine RR_eq ((aX11_evidence _ e L I J _ _).trans (bX11_evidence_0 _ e L I J _ _)) ?_
        simp (disch := omega) only [n32_ltE, n32_leE, n32_eqE, n32_eqm, m1_eqn, n32_ge0, n32_lt0, n32_nat, n32_succ, n32_add, xin_n32, xin_b1, xin_b2, cond_true, cond_false, if_true, if_false, xcI_some, xcV_some, xcJ_some, xcR_some, xu_ee, xu_rne, xu_kne, ite_self, not_true_eq_false, not_false_eq_true, ne_eq, true_and, and_true, false_and, and_false, m1_lt0, m1_eq0, eq_self, Bool.false_eq_true, reduceCtorEq, z_lt0, i1_eq0, i0_eq1, i1_eq1, xrZ0, xrZ1, xrZt, n32_eq0, n32_eq1, n32_gt0, n32_gt1, n32_lt1, n32_le1, n32_0le, tf0, tf1, xaI_of, q2a, q2b, q2m, q2l, q2g, q2r, q2s, q2e, hx0, hx2, bX11_evidence_0, bX11_evidence_1, ekX11_evidence_2_4, bX11_evidence_2]
        rcases c_pairPart (d := d + 8) (e := e) (L := L) hC (w := w) (x := x) (by omega) with ⟨i', k', c1, c2, c3, c4, c5⟩ | ⟨c1, c2⟩
        · obtain ⟨rfl, rfl⟩ := evN_inj p1 p2 p3 c1 c2 c3 (by omega)
          rw [c5, xcI_some, ekX11_evidence_2_4]
          exact RR_I (oC_r hC)
        · omega
      · refine RR_eq ((aX12_evidence _ e L I J _ _).trans (bX12_evidence_0 _ e L I J _ _)) ?_
        refine RR_cV (r_lays (d := d + 4) (RS_0 hC)) (fun K J' ⟨j1, f1, hF, hC2⟩ => ?_)
        subst j1
        rw [ekX12_evidence_0_4, sX12_isIn, hF.2.2.2.2.1]
        simp only [le_pred (show prS S < 1000000 by omega)]
        simp (disch := omega) only [n32_ltE, n32_leE, n32_eqE, n32_eqm, m1_eqn, n32_ge0, n32_lt0, n32_nat, n32_succ, n32_add, xin_n32, xin_b1, xin_b2, cond_true, cond_false, if_true, if_false, xcI_some, xcV_some, xcJ_some, xcR_some, xu_ee, xu_rne, xu_kne, ite_self, not_true_eq_false, not_false_eq_true, ne_eq, true_and, and_true, false_and, and_false, m1_lt0, m1_eq0, eq_self, Bool.false_eq_true, reduceCtorEq, z_lt0, i1_eq0, i0_eq1, i1_eq1, xrZ0, xrZ1, xrZt, n32_eq0, n32_eq1, n32_gt0, n32_gt1, n32_lt1, n32_le1, n32_0le, tf0, tf1, xaI_of, hwl, hx0, hx2, sX12_isIn, ekX12_evidence_0_11, ekX12_evidence_0_16]
        rcases r_evidence_loop (d := d + 8) (e := e) (L := L) (J := J') hC2 hF.1 (w := w) (x := x) (by omega) with ⟨i', k', c1, c2, c3, c4, c5⟩ | ⟨c1, c2⟩
        · obtain ⟨rfl, rfl⟩ := evN_inj p1 p2 p3 c1 c2 c3 (by omega)
          rw [c5]
          exact RR_I (oR_l f1 hC2)
        · omega
    · -- no such pair: neither side can be here
      refine ⟨0, fun d e L I J hC => ?_, fun d e L I J hC => ?_⟩
      · rcases c_pairPart (d := d + 8) (e := e) (L := L) hC (w := w) (x := x) (by omega) with ⟨i', k', c1, c2, c3, c4, c5⟩ | ⟨c1, c2⟩
        · exact absurd ⟨i', k', c1, c2, c3, c4⟩ hp
        · omega
      · refine RR_eq ((aX12_evidence _ e L I J _ _).trans (bX12_evidence_0 _ e L I J _ _)) ?_
        refine RR_cV (r_lays (d := d + 4) (RS_0 hC)) (fun K J' ⟨j1, f1, hF, hC2⟩ => ?_)
        rcases r_evidence_loop (d := d + 8) (e := e) (L := L) (J := J') hC2 hF.1 (w := w) (x := x) (by omega) with ⟨i', k', c1, c2, c3, c4, c5⟩ | ⟨c1, c2⟩
        · exact absurd ⟨i', k', c1, c2, c3, c4⟩ hp
        · omega
  · refine ⟨-1, fun d e L I J hC => ?_, fun d e L I J hC => ?_⟩
    · refine RR_eq ((aX11_evidence _ e L I J _ _).trans (bX11_evidence_0 _ e L I J _ _)) ?_
      by_cases q : y < 0
      · simp (disch := omega) only [n32_ltE, n32_leE, n32_eqE, n32_eqm, m1_eqn, n32_ge0, n32_lt0, n32_nat, n32_succ, n32_add, xin_n32, xin_b1, xin_b2, cond_true, cond_false, if_true, if_false, xcI_some, xcV_some, xcJ_some, xcR_some, xu_ee, xu_rne, xu_kne, ite_self, not_true_eq_false, not_false_eq_true, ne_eq, true_and, and_true, false_and, and_false, m1_lt0, m1_eq0, eq_self, Bool.false_eq_true, reduceCtorEq, z_lt0, i1_eq0, i0_eq1, i1_eq1, xrZ0, xrZ1, xrZt, n32_eq0, n32_eq1, n32_gt0, n32_gt1, n32_lt1, n32_le1, n32_0le, tf0, tf1, xaI_of, q2a, q2b, q2m, q2l, q2g, q2r, q2s, q2e, q, bX11_evidence_0, bX11_evidence_1, ekX11_evidence_2_4, bX11_evidence_2]
        exact RR_I (oC_r hC)
      · have hyw := n32_of q
        have hyc := clamp_lt y
        simp (disch := omega) only [n32_ltE, n32_leE, n32_eqE, n32_eqm, m1_eqn, n32_ge0, n32_lt0, n32_nat, n32_succ, n32_add, xin_n32, xin_b1, xin_b2, cond_true, cond_false, if_true, if_false, xcI_some, xcV_some, xcJ_some, xcR_some, xu_ee, xu_rne, xu_kne, ite_self, not_true_eq_false, not_false_eq_true, ne_eq, true_and, and_true, false_and, and_false, m1_lt0, m1_eq0, eq_self, Bool.false_eq_true, reduceCtorEq, z_lt0, i1_eq0, i0_eq1, i1_eq1, xrZ0, xrZ1, xrZt, n32_eq0, n32_eq1, n32_gt0, n32_gt1, n32_lt1, n32_le1, n32_0le, tf0, tf1, xaI_of, q2a, q2b, q2m, q2l, q2g, q2r, q2s, q2e, q, hx0, hx2, bX11_evidence_0, bX11_evidence_1, ekX11_evidence_2_4, bX11_evidence_2]
        rw [hyw]
        rcases c_pairPart (d := d + 8) (e := e) (L := L) hC (w := y.toNatClampNeg) (x := x) hyc with ⟨i', k', c1, c2, c3, c4, c5⟩ | ⟨c1, c2⟩
        · have := evN_lt c1 c2 c3
          rcases hy with hy | hy
          · exact absurd hy q
          · rw [hyw] at hy
            exact absurd ((n32_lt hyc (by omega)).mpr (by omega)) hy
        · rw [c2, xcI_some, ekX11_evidence_2_4]
          exact RR_I (oC_r hC)
    · refine RR_eq ((aX12_evidence _ e L I J _ _).trans (bX12_evidence_0 _ e L I J _ _)) ?_
      refine RR_cV (r_lays (d := d + 4) (RS_0 hC)) (fun K J' ⟨j1, f1, hF, hC2⟩ => ?_)
      subst j1
      rw [ekX12_evidence_0_4, sX12_isIn, hF.2.2.2.2.1]
      simp only [le_pred (show prS S < 1000000 by omega)]
      rcases hy with hy | hy
      · simp (disch := omega) only [n32_ltE, n32_leE, n32_eqE, n32_eqm, m1_eqn, n32_ge0, n32_lt0, n32_nat, n32_succ, n32_add, xin_n32, xin_b1, xin_b2, cond_true, cond_false, if_true, if_false, xcI_some, xcV_some, xcJ_some, xcR_some, xu_ee, xu_rne, xu_kne, ite_self, not_true_eq_false, not_false_eq_true, ne_eq, true_and, and_true, false_and, and_false, m1_lt0, m1_eq0, eq_self, Bool.false_eq_true, reduceCtorEq, z_lt0, i1_eq0, i0_eq1, i1_eq1, xrZ0, xrZ1, xrZt, n32_eq0, n32_eq1, n32_gt0, n32_gt1, n32_lt1, n32_le1, n32_0le, tf0, tf1, xaI_of, hy, ekX12_evidence_0_16, ekX12_evidence_0_11, ekX12_evidence_0_4, bX12_evidence_0, bX12_evidence_1, bX12_evidence_2, ekX12_evidence_4_9, bX12_evidence_5, bX12_evidence_6, bX12_evidence_7, bX12_evidence_8, bX12_evidence_9, bX12_evidence_10, bX12_evidence_11, bX12_evidence_12]
        exact RR_I (oR_l f1 hC2)
      · simp (disch := omega) only [n32_ltE, n32_leE, n32_eqE, n32_eqm, m1_eqn, n32_ge0, n32_lt0, n32_nat, n32_succ, n32_add, xin_n32, xin_b1, xin_b2, cond_true, cond_false, if_true, if_false, xcI_some, xcV_some, xcJ_some, xcR_some, xu_ee, xu_rne, xu_kne, ite_self, not_true_eq_false, not_false_eq_true, ne_eq, true_and, and_true, false_and, and_false, m1_lt0, m1_eq0, eq_self, Bool.false_eq_true, reduceCtorEq, z_lt0, i1_eq0, i0_eq1, i1_eq1, xrZ0, xrZ1, xrZt, n32_eq0, n32_eq1, n32_gt0, n32_gt1, n32_lt1, n32_le1, n32_0le, tf0, tf1, xaI_of, hy, ekX12_evidence_0_16, ekX12_evidence_0_11, ekX12_evidence_0_4, bX12_evidence_0, bX12_evidence_1, bX12_evidence_2, ekX12_evidence_4_9, bX12_evidence_5, bX12_evidence_6, bX12_evidence_7, bX12_evidence_8, bX12_evidence_9, bX12_evidence_10, bX12_evidence_11, bX12_evidence_12]
        exact RR_I (oR_l f1 hC2)
/-! Clashes. -/
def ptn (S : TS) (b o : Nat) : Bool := fin S o && (!(o == b) && (!(anc (par S) o b) && !(anc (par S) b o)))
theorem c_clashWith (hC : CS S N I J) (hF : Fi S I) (hb : b < sB S) : (∃ o, o < sB S ∧ ptn S b o = true ∧ (∀ j, j < o → ptn S b j = false) ∧ xcall xprog (d + 2) 56 [.ref 47, .int (n32 b)] (xst e L I J) = some (some (.int (n32 o)), xst e L I J)) ∨ ((∀ o, o < sB S → ptn S b o = false) ∧ xcall xprog (d + 2) 56 [.ref 47, .int (n32 b)] (xst e L I J) = some (some (.int (-1)), xst e L I J)) := by
  have hw := hC.1.1
  have hT := hC.2.1
  have h20 := wf_B hw
  have e0 : xcall xprog (d + 2) 56 [.ref 47, .int (n32 b)] (xst e L I J) = xlim (xcall xprog (d + 1)) mX4_clashWith 1 [.ref 47, .int (n32 b), .int (n32 0), xD] [] (xst e L I J) := (aX4_clashWith _ e L I J _).trans (bX4_clashWith_0 _ e L I J _)
  rw [e0]
  refine xfirst (fun i => xlim (xcall xprog (d + 1)) mX4_clashWith 1 [.ref 47, .int (n32 b), .int (n32 i), xD] [] (xst e L I J)) (ptn S b) (fun i => some (some (.int (n32 i)), xst e L I J)) (fun i hi hp => ?_) (fun i hi hp => ?_) ?_
  · refine (bX4_clashWith_1 _ e L I J _ _).trans ?_
    simp (disch := omega) only [n32_ltE, n32_leE, n32_eqE, n32_eqm, m1_eqn, n32_ge0, n32_lt0, n32_nat, n32_succ, n32_add, xin_n32, xin_b1, xin_b2, cond_true, cond_false, if_true, if_false, xcI_some, xcV_some, xcJ_some, xcR_some, xu_ee, xu_rne, xu_kne, ite_self, not_true_eq_false, not_false_eq_true, ne_eq, true_and, and_true, false_and, and_false, m1_lt0, m1_eq0, eq_self, Bool.false_eq_true, reduceCtorEq, z_lt0, i1_eq0, i0_eq1, i1_eq1, xrZ0, xrZ1, xrZt, n32_eq0, n32_eq1, n32_gt0, n32_gt1, n32_lt1, n32_le1, n32_0le, tf0, tf1, xaI_of, bX4_clashWith_0, bX4_clashWith_2, ekX4_clashWith_3_16, ekX4_clashWith_3_10, bX4_clashWith_3, bX4_clashWith_4, bX4_clashWith_5, t7_B hT hw, hi, hF.2.1, bt_t1, fS_b hw hi]
    unfold ptn at hp
    by_cases q1 : fin S i = true
    · by_cases q2 : i = b
      · simp (disch := omega) only [n32_ltE, n32_leE, n32_eqE, n32_eqm, m1_eqn, n32_ge0, n32_lt0, n32_nat, n32_succ, n32_add, xin_n32, xin_b1, xin_b2, cond_true, cond_false, if_true, if_false, xcI_some, xcV_some, xcJ_some, xcR_some, xu_ee, xu_rne, xu_kne, ite_self, not_true_eq_false, not_false_eq_true, ne_eq, true_and, and_true, false_and, and_false, m1_lt0, m1_eq0, eq_self, Bool.false_eq_true, reduceCtorEq, z_lt0, i1_eq0, i0_eq1, i1_eq1, xrZ0, xrZ1, xrZt, n32_eq0, n32_eq1, n32_gt0, n32_gt1, n32_lt1, n32_le1, n32_0le, tf0, tf1, xaI_of, q1, q2]
      · by_cases q3 : anc (par S) i b = true
        · simp (disch := omega) only [n32_ltE, n32_leE, n32_eqE, n32_eqm, m1_eqn, n32_ge0, n32_lt0, n32_nat, n32_succ, n32_add, xin_n32, xin_b1, xin_b2, cond_true, cond_false, if_true, if_false, xcI_some, xcV_some, xcJ_some, xcR_some, xu_ee, xu_rne, xu_kne, ite_self, not_true_eq_false, not_false_eq_true, ne_eq, true_and, and_true, false_and, and_false, m1_lt0, m1_eq0, eq_self, Bool.false_eq_true, reduceCtorEq, z_lt0, i1_eq0, i0_eq1, i1_eq1, xrZ0, xrZ1, xrZt, n32_eq0, n32_eq1, n32_gt0, n32_gt1, n32_lt1, n32_le1, n32_0le, tf0, tf1, xaI_of, q1, q2, c_isAhead hT hw (show i < 32 by omega) hb, bX4_clashWith_0, bX4_clashWith_2, ekX4_clashWith_3_16, ekX4_clashWith_3_10, bX4_clashWith_3, bX4_clashWith_4, bX4_clashWith_5, q3]
        · by_cases q4 : anc (par S) b i = true
          · simp (disch := omega) only [n32_ltE, n32_leE, n32_eqE, n32_eqm, m1_eqn, n32_ge0, n32_lt0, n32_nat, n32_succ, n32_add, xin_n32, xin_b1, xin_b2, cond_true, cond_false, if_true, if_false, xcI_some, xcV_some, xcJ_some, xcR_some, xu_ee, xu_rne, xu_kne, ite_self, not_true_eq_false, not_false_eq_true, ne_eq, true_and, and_true, false_and, and_false, m1_lt0, m1_eq0, eq_self, Bool.false_eq_true, reduceCtorEq, z_lt0, i1_eq0, i0_eq1, i1_eq1, xrZ0, xrZ1, xrZt, n32_eq0, n32_eq1, n32_gt0, n32_gt1, n32_lt1, n32_le1, n32_0le, tf0, tf1, xaI_of, q1, q2, c_isAhead hT hw (show i < 32 by omega) hb, c_isAhead hT hw (show b < 32 by omega) hi, bX4_clashWith_0, bX4_clashWith_2, ekX4_clashWith_3_16, ekX4_clashWith_3_10, bX4_clashWith_3, bX4_clashWith_4, bX4_clashWith_5, q3, q4]
          · simp [q1, q2, q3, q4] at hp
    · simp (disch := omega) only [n32_ltE, n32_leE, n32_eqE, n32_eqm, m1_eqn, n32_ge0, n32_lt0, n32_nat, n32_succ, n32_add, xin_n32, xin_b1, xin_b2, cond_true, cond_false, if_true, if_false, xcI_some, xcV_some, xcJ_some, xcR_some, xu_ee, xu_rne, xu_kne, ite_self, not_true_eq_false, not_false_eq_true, ne_eq, true_and, and_true, false_and, and_false, m1_lt0, m1_eq0, eq_self, Bool.false_eq_true, reduceCtorEq, z_lt0, i1_eq0, i0_eq1, i1_eq1, xrZ0, xrZ1, xrZt, n32_eq0, n32_eq1, n32_gt0, n32_gt1, n32_lt1, n32_le1, n32_0le, tf0, tf1, xaI_of, q1]
  · refine (bX4_clashWith_1 _ e L I J _ _).trans ?_
    unfold ptn at hp
    simp only [Bool.and_eq_true, Bool.not_eq_true', beq_eq_false_iff_ne, ne_eq] at hp
    obtain ⟨q1, q2, q3, q4⟩ := hp
    simp (disch := omega) only [n32_ltE, n32_leE, n32_eqE, n32_eqm, m1_eqn, n32_ge0, n32_lt0, n32_nat, n32_succ, n32_add, xin_n32, xin_b1, xin_b2, cond_true, cond_false, if_true, if_false, xcI_some, xcV_some, xcJ_some, xcR_some, xu_ee, xu_rne, xu_kne, ite_self, not_true_eq_false, not_false_eq_true, ne_eq, true_and, and_true, false_and, and_false, m1_lt0, m1_eq0, eq_self, Bool.false_eq_true, reduceCtorEq, z_lt0, i1_eq0, i0_eq1, i1_eq1, xrZ0, xrZ1, xrZt, n32_eq0, n32_eq1, n32_gt0, n32_gt1, n32_lt1, n32_le1, n32_0le, tf0, tf1, xaI_of, bX4_clashWith_0, bX4_clashWith_2, ekX4_clashWith_3_16, ekX4_clashWith_3_10, bX4_clashWith_3, bX4_clashWith_4, bX4_clashWith_5, t7_B hT hw, hi, hF.2.1, bt_t1, fS_b hw hi, q1, q2, c_isAhead hT hw (show i < 32 by omega) hb, c_isAhead hT hw (show b < 32 by omega) hi, q3, q4]
  · refine (bX4_clashWith_1 _ e L I J _ _).trans ?_
    simp (disch := omega) only [n32_ltE, n32_leE, n32_eqE, n32_eqm, m1_eqn, n32_ge0, n32_lt0, n32_nat, n32_succ, n32_add, xin_n32, xin_b1, xin_b2, cond_true, cond_false, if_true, if_false, xcI_some, xcV_some, xcJ_some, xcR_some, xu_ee, xu_rne, xu_kne, ite_self, not_true_eq_false, not_false_eq_true, ne_eq, true_and, and_true, false_and, and_false, m1_lt0, m1_eq0, eq_self, Bool.false_eq_true, reduceCtorEq, z_lt0, i1_eq0, i0_eq1, i1_eq1, xrZ0, xrZ1, xrZt, n32_eq0, n32_eq1, n32_gt0, n32_gt1, n32_lt1, n32_le1, n32_0le, tf0, tf1, xaI_of, bX4_clashWith_0, bX4_clashWith_2, ekX4_clashWith_3_16, ekX4_clashWith_3_10, bX4_clashWith_3, bX4_clashWith_4, bX4_clashWith_5, t7_B hT hw, Nat.lt_irrefl]
end QE
