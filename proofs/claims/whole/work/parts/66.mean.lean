/-! Calls that only ask: the mean height, counts, forks. -/
def mhN (S : TS) (n : Nat) : Nat := sumN (fun b => if onS S b = 0 then hei S b else 0) n
def mlN (S : TS) (n : Nat) : Nat := sumN (fun b => if onS S b = 0 then 1 else 0) n
section ME
variable {d e L : Nat} {S : TS} {N : Nat → Int64} {I K M : TI} {J : TJ} {a b s t v k i n w m x : Nat}
theorem mhN_le (hn : n ≤ 20) : mhN S n ≤ n * 20 := by
  induction n with
  | zero => exact Nat.le_refl _
  | succ n ih =>
    have := ih (by omega)
    have h := hi_lt (S := S) (b := n)
    show mhN S n + (if onS S n = 0 then hei S n else 0) ≤ _
    split <;> omega
theorem mlN_le : mlN S n ≤ n := by
  induction n with
  | zero => exact Nat.le_refl _
  | succ n ih =>
    show mlN S n + (if onS S n = 0 then 1 else 0) ≤ _
    split <;> omega
theorem onS_last (hw : wfT S) (hB : sB S = n + 1) : onS S n = 0 := by
  have h20 := wf_B hw
  unfold onS
  apply bt_ext
  intro k hk
  rw [bt_bs _ hk _ (by omega), bt_zero]
  by_cases h1 : k < sB S
  · by_cases h2 : 0 < k
    · have := wf_wp hw k h2 h1
      have h3 : ¬ par S k = n := by omega
      simp [h3]
    · simp [h2]
  · simp [h1]
theorem mlN_pos (hw : wfT S) (hB : 0 < sB S) : 0 < mlN S (sB S) := by
  obtain ⟨n, hn⟩ : ∃ n, sB S = n + 1 := ⟨sB S - 1, by omega⟩
  rw [hn]
  show 0 < mlN S n + (if onS S n = 0 then 1 else 0)
  rw [if_pos (onS_last hw hn)]
  omega
def menV (S : TS) (x : Int32) : Int32 := n32 ((if x = 0 then mhN S (sB S) else mlN S (sB S)) / Nat.gcd (mhN S (sB S)) (mlN S (sB S)))
theorem c_mean_t (hC : CS S N I J) {x : Int32} (h0 : ¬ x < 0) (h1 : x ≤ 1) (hB : 0 < sB S) : xcall xprog (d + 7) 138 [.ref 0, .int x] (xst e L I J) = some (some (.int (menV S x)), xst e L I J) := by
  have hw := hC.1.1
  have hT := hC.2.1
  have h20 := wf_B hw
  have hB0 : ¬ sB S = 0 := by omega
  refine (aX11_mean _ e L I J _).trans ((bX11_mean_0 _ e L I J _).trans ?_)
  simp (disch := omega) only [n32_ltE, n32_leE, n32_eqE, n32_eqm, m1_eqn, n32_ge0, n32_lt0, n32_nat, n32_succ, n32_add, xin_n32, xin_b1, xin_b2, cond_true, cond_false, if_true, if_false, xcI_some, xcV_some, xcJ_some, xcR_some, xu_ee, xu_rne, xu_kne, ite_self, not_true_eq_false, not_false_eq_true, ne_eq, true_and, and_true, false_and, and_false, m1_lt0, m1_eq0, eq_self, Bool.false_eq_true, reduceCtorEq, z_lt0, i1_eq0, i0_eq1, i1_eq1, xrZ0, xrZ1, xrZt, n32_eq0, n32_eq1, n32_gt0, n32_gt1, n32_lt1, n32_le1, n32_0le, tf0, tf1, xaI_of, t7_B hT hw, hB0, h0, h1]
  refine (bX11_mean_2 _ e L I J _).trans ?_
  obtain ⟨z, h1, h2⟩ := xfor (fun i (z : Nat × Nat) => xlim (xcall xprog (d + 6)) mX11_mean 3 [.ref 0, .int x, .int (n32 z.1), .int (n32 z.2), .int (n32 i)] [] (xst e L I J)) (fun i z => z = (mhN S i, mlN S i)) (n := sB S) (fun i z hi hz => by
    subst hz
    refine ⟨(mhN S (i + 1), mlN S (i + 1)), ?_, rfl⟩
    refine (bX11_mean_3 _ e L I J _ _ _ _).trans ?_
    have e1 : mhN S (i + 1) = mhN S i + (if onS S i = 0 then hei S i else 0) := rfl
    have e2 : mlN S (i + 1) = mlN S i + (if onS S i = 0 then 1 else 0) := rfl
    rw [e1, e2]
    by_cases q : onS S i = 0
    · simp (disch := omega) only [n32_ltE, n32_leE, n32_eqE, n32_eqm, m1_eqn, n32_ge0, n32_lt0, n32_nat, n32_succ, n32_add, xin_n32, xin_b1, xin_b2, cond_true, cond_false, if_true, if_false, xcI_some, xcV_some, xcJ_some, xcR_some, xu_ee, xu_rne, xu_kne, ite_self, not_true_eq_false, not_false_eq_true, ne_eq, true_and, and_true, false_and, and_false, m1_lt0, m1_eq0, eq_self, Bool.false_eq_true, reduceCtorEq, z_lt0, i1_eq0, i0_eq1, i1_eq1, xrZ0, xrZ1, xrZt, n32_eq0, n32_eq1, n32_gt0, n32_gt1, n32_lt1, n32_le1, n32_0le, tf0, tf1, xaI_of, bX11_mean_0, bX11_mean_1, bX11_mean_2, ekX11_mean_3_8, bX11_mean_4, ekX11_mean_5_3, bX11_mean_5, t7_B hT hw, hi, c_blocksOn hT hw hi, onS_c hw, q, t7_hi hT hi]
    · simp (disch := omega) only [n32_ltE, n32_leE, n32_eqE, n32_eqm, m1_eqn, n32_ge0, n32_lt0, n32_nat, n32_succ, n32_add, xin_n32, xin_b1, xin_b2, cond_true, cond_false, if_true, if_false, xcI_some, xcV_some, xcJ_some, xcR_some, xu_ee, xu_rne, xu_kne, ite_self, not_true_eq_false, not_false_eq_true, ne_eq, true_and, and_true, false_and, and_false, m1_lt0, m1_eq0, eq_self, Bool.false_eq_true, reduceCtorEq, z_lt0, i1_eq0, i0_eq1, i1_eq1, xrZ0, xrZ1, xrZt, n32_eq0, n32_eq1, n32_gt0, n32_gt1, n32_lt1, n32_le1, n32_0le, tf0, tf1, xaI_of, bX11_mean_0, bX11_mean_1, bX11_mean_2, ekX11_mean_3_8, bX11_mean_4, ekX11_mean_5_3, bX11_mean_5, t7_B hT hw, hi, c_blocksOn hT hw hi, onS_c hw, q, Nat.add_zero]) (0, 0) rfl
  subst h2
  refine h1.trans ((bX11_mean_3 _ e L I J _ _ _ _).trans ?_)
  have l1 := mhN_le (S := S) h20
  have l2 := mlN_le (S := S) (n := sB S)
  have l3 := mlN_pos hw hB
  simp (disch := omega) only [n32_ltE, n32_leE, n32_eqE, n32_eqm, m1_eqn, n32_ge0, n32_lt0, n32_nat, n32_succ, n32_add, xin_n32, xin_b1, xin_b2, cond_true, cond_false, if_true, if_false, xcI_some, xcV_some, xcJ_some, xcR_some, xu_ee, xu_rne, xu_kne, ite_self, not_true_eq_false, not_false_eq_true, ne_eq, true_and, and_true, false_and, and_false, m1_lt0, m1_eq0, eq_self, Bool.false_eq_true, reduceCtorEq, z_lt0, i1_eq0, i0_eq1, i1_eq1, xrZ0, xrZ1, xrZt, n32_eq0, n32_eq1, n32_gt0, n32_gt1, n32_lt1, n32_le1, n32_0le, tf0, tf1, xaI_of, t7_B hT hw, Nat.lt_irrefl]
  refine (bX11_mean_5 _ e L I J _ _ _).trans ?_
  rw [c_part (by omega) l3 (by omega), xcI_some, ekX11_mean_5_3]
  rfl
theorem c_mean_f (hC : CS S N I J) {x : Int32} (h : sB S = 0 ∨ x < 0 ∨ ¬ x ≤ 1) : xcall xprog (d + 7) 138 [.ref 0, .int x] (xst e L I J) = some (some xT, xst (e + 1) L I J) := by
  have hw := hC.1.1
  have hT := hC.2.1
  have h20 := wf_B hw
  refine (aX11_mean _ e L I J _).trans ((bX11_mean_0 _ e L I J _).trans ?_)
  by_cases q : sB S = 0
  · simp (disch := omega) only [n32_ltE, n32_leE, n32_eqE, n32_eqm, m1_eqn, n32_ge0, n32_lt0, n32_nat, n32_succ, n32_add, xin_n32, xin_b1, xin_b2, cond_true, cond_false, if_true, if_false, xcI_some, xcV_some, xcJ_some, xcR_some, xu_ee, xu_rne, xu_kne, ite_self, not_true_eq_false, not_false_eq_true, ne_eq, true_and, and_true, false_and, and_false, m1_lt0, m1_eq0, eq_self, Bool.false_eq_true, reduceCtorEq, z_lt0, i1_eq0, i0_eq1, i1_eq1, xrZ0, xrZ1, xrZt, n32_eq0, n32_eq1, n32_gt0, n32_gt1, n32_lt1, n32_le1, n32_0le, tf0, tf1, xaI_of, t7_B hT hw, q, bX11_mean_1]
  · rcases h with h | h | h
    · exact absurd h q
    · simp (disch := omega) only [n32_ltE, n32_leE, n32_eqE, n32_eqm, m1_eqn, n32_ge0, n32_lt0, n32_nat, n32_succ, n32_add, xin_n32, xin_b1, xin_b2, cond_true, cond_false, if_true, if_false, xcI_some, xcV_some, xcJ_some, xcR_some, xu_ee, xu_rne, xu_kne, ite_self, not_true_eq_false, not_false_eq_true, ne_eq, true_and, and_true, false_and, and_false, m1_lt0, m1_eq0, eq_self, Bool.false_eq_true, reduceCtorEq, z_lt0, i1_eq0, i0_eq1, i1_eq1, xrZ0, xrZ1, xrZt, n32_eq0, n32_eq1, n32_gt0, n32_gt1, n32_lt1, n32_le1, n32_0le, tf0, tf1, xaI_of, t7_B hT hw, q, h, bX11_mean_1]
    · simp (disch := omega) only [n32_ltE, n32_leE, n32_eqE, n32_eqm, m1_eqn, n32_ge0, n32_lt0, n32_nat, n32_succ, n32_add, xin_n32, xin_b1, xin_b2, cond_true, cond_false, if_true, if_false, xcI_some, xcV_some, xcJ_some, xcR_some, xu_ee, xu_rne, xu_kne, ite_self, not_true_eq_false, not_false_eq_true, ne_eq, true_and, and_true, false_and, and_false, m1_lt0, m1_eq0, eq_self, Bool.false_eq_true, reduceCtorEq, z_lt0, i1_eq0, i0_eq1, i1_eq1, xrZ0, xrZ1, xrZt, n32_eq0, n32_eq1, n32_gt0, n32_gt1, n32_lt1, n32_le1, n32_0le, tf0, tf1, xaI_of, t7_B hT hw, q, h, bX11_mean_1]
theorem r_mean_t (hC : RS S I) {x : Int32} (h0 : ¬ x < 0) (h1 : x ≤ 1) (hB : 0 < sB S) : RR (xcall xprog (d + 8) 240 [.ref 209, .int x] (xst e L I J)) (zI e L fun y K J' => oR S I J (menV S x) y K J' ∧ K 209 0 = 0) := by
  have hw := hC.1.1
  have h20 := wf_B hw
  have hB0 : ¬ sB S = 0 := by omega
  refine RR_eq ((aX12_mean _ e L I J _).trans (bX12_mean_0 _ e L I J _)) ?_
  simp (disch := omega) only [n32_ltE, n32_leE, n32_eqE, n32_eqm, m1_eqn, n32_ge0, n32_lt0, n32_nat, n32_succ, n32_add, xin_n32, xin_b1, xin_b2, cond_true, cond_false, if_true, if_false, xcI_some, xcV_some, xcJ_some, xcR_some, xu_ee, xu_rne, xu_kne, ite_self, not_true_eq_false, not_false_eq_true, ne_eq, true_and, and_true, false_and, and_false, m1_lt0, m1_eq0, eq_self, Bool.false_eq_true, reduceCtorEq, z_lt0, i1_eq0, i0_eq1, i1_eq1, xrZ0, xrZ1, xrZt, n32_eq0, n32_eq1, n32_gt0, n32_gt1, n32_lt1, n32_le1, n32_0le, tf0, tf1, xaI_of, hC.2.1, wf_2 hw, hB0, sX12_isIn, h0, h1, ekX12_mean_0_9, bX12_mean_2, bX12_mean_3, r_throws_f, ekX12_mean_3_0, bX12_mean_4]
  refine RR_cV (r_lays (d := d) (RS_0 (x := 0) hC)) (fun K J' ⟨j1, f1, hF, hC2⟩ => ?_)
  subst j1
  have hS := hC2.2.1
  have hR := hF.1
  rw [ekX12_mean_4_1]
  obtain ⟨z, h1, h2⟩ := xfor (fun i (z : Nat × Nat) => xlim (xcall xprog (d + 7)) mX12_mean 5 [.ref 209, .int x, .int (n32 z.1), .int (n32 z.2), .int (n32 i)] [] (xst e L K J')) (fun i z => z = (mhN S i, mlN S i)) (n := sB S) (fun i z hi hz => by
    subst hz
    refine ⟨(mhN S (i + 1), mlN S (i + 1)), ?_, rfl⟩
    refine (bX12_mean_5 _ e L K J' _ _ _ _).trans ?_
    have e1 : mhN S (i + 1) = mhN S i + (if onS S i = 0 then hei S i else 0) := rfl
    have e2 : mlN S (i + 1) = mlN S i + (if onS S i = 0 then 1 else 0) := rfl
    rw [e1, e2]
    by_cases q : onS S i = 0
    · simp (disch := omega) only [n32_ltE, n32_leE, n32_eqE, n32_eqm, m1_eqn, n32_ge0, n32_lt0, n32_nat, n32_succ, n32_add, xin_n32, xin_b1, xin_b2, cond_true, cond_false, if_true, if_false, xcI_some, xcV_some, xcJ_some, xcR_some, xu_ee, xu_rne, xu_kne, ite_self, not_true_eq_false, not_false_eq_true, ne_eq, true_and, and_true, false_and, and_false, m1_lt0, m1_eq0, eq_self, Bool.false_eq_true, reduceCtorEq, z_lt0, i1_eq0, i0_eq1, i1_eq1, xrZ0, xrZ1, xrZt, n32_eq0, n32_eq1, n32_gt0, n32_gt1, n32_lt1, n32_le1, n32_0le, tf0, tf1, xaI_of, ekX12_mean_0_9, bX12_mean_0, bX12_mean_1, bX12_mean_2, ekX12_mean_3_0, bX12_mean_3, ekX12_mean_4_1, bX12_mean_4, ekX12_mean_5_8, bX12_mean_6, bX12_mean_7, ekX12_mean_8_3, bX12_mean_8, hS, wf_2 hw, hi, r_on hS hw hi, q, (hR i hi).1]
    · simp (disch := omega) only [n32_ltE, n32_leE, n32_eqE, n32_eqm, m1_eqn, n32_ge0, n32_lt0, n32_nat, n32_succ, n32_add, xin_n32, xin_b1, xin_b2, cond_true, cond_false, if_true, if_false, xcI_some, xcV_some, xcJ_some, xcR_some, xu_ee, xu_rne, xu_kne, ite_self, not_true_eq_false, not_false_eq_true, ne_eq, true_and, and_true, false_and, and_false, m1_lt0, m1_eq0, eq_self, Bool.false_eq_true, reduceCtorEq, z_lt0, i1_eq0, i0_eq1, i1_eq1, xrZ0, xrZ1, xrZt, n32_eq0, n32_eq1, n32_gt0, n32_gt1, n32_lt1, n32_le1, n32_0le, tf0, tf1, xaI_of, ekX12_mean_0_9, bX12_mean_0, bX12_mean_1, bX12_mean_2, ekX12_mean_3_0, bX12_mean_3, ekX12_mean_4_1, bX12_mean_4, ekX12_mean_5_8, bX12_mean_6, bX12_mean_7, ekX12_mean_8_3, bX12_mean_8, hS, wf_2 hw, hi, r_on hS hw hi, q, Nat.add_zero]) (0, 0) rfl
  subst h2
  refine RR_eq (h1.trans (bX12_mean_5 _ e L K J' _ _ _ _)) ?_
  have l1 := mhN_le (S := S) h20
  have l2 := mlN_le (S := S) (n := sB S)
  have l3 := mlN_pos hw hB
  simp (disch := omega) only [n32_ltE, n32_leE, n32_eqE, n32_eqm, m1_eqn, n32_ge0, n32_lt0, n32_nat, n32_succ, n32_add, xin_n32, xin_b1, xin_b2, cond_true, cond_false, if_true, if_false, xcI_some, xcV_some, xcJ_some, xcR_some, xu_ee, xu_rne, xu_kne, ite_self, not_true_eq_false, not_false_eq_true, ne_eq, true_and, and_true, false_and, and_false, m1_lt0, m1_eq0, eq_self, Bool.false_eq_true, reduceCtorEq, z_lt0, i1_eq0, i0_eq1, i1_eq1, xrZ0, xrZ1, xrZt, n32_eq0, n32_eq1, n32_gt0, n32_gt1, n32_lt1, n32_le1, n32_0le, tf0, tf1, xaI_of, hS, wf_2 hw, Nat.lt_irrefl, bX12_mean_8]
  rw [r_least (by omega) l3 (by omega), xcI_some, ekX12_mean_8_3]
  exact RR_I ⟨⟨rfl, rfl, rfr_t (lfr_rfr f1) rfr_0, hC2⟩, by rw [f1 209 0 (by decide) (Or.inr (by decide)), xu_ee]⟩
theorem r_mean_f (hC : RS S I) {x : Int32} (h : sB S = 0 ∨ x < 0 ∨ ¬ x ≤ 1) : xcall xprog (d + 8) 240 [.ref 209, .int x] (xst e L I J) = some (some (.int 0), xst e L (xu I 209 0 1) J) := by
  have hw := hC.1.1
  have h20 := wf_B hw
  refine (aX12_mean _ e L I J _).trans ((bX12_mean_0 _ e L I J _).trans ?_)
  by_cases q : sB S = 0
  · simp (disch := omega) only [n32_ltE, n32_leE, n32_eqE, n32_eqm, m1_eqn, n32_ge0, n32_lt0, n32_nat, n32_succ, n32_add, xin_n32, xin_b1, xin_b2, cond_true, cond_false, if_true, if_false, xcI_some, xcV_some, xcJ_some, xcR_some, xu_ee, xu_rne, xu_kne, ite_self, not_true_eq_false, not_false_eq_true, ne_eq, true_and, and_true, false_and, and_false, m1_lt0, m1_eq0, eq_self, Bool.false_eq_true, reduceCtorEq, z_lt0, i1_eq0, i0_eq1, i1_eq1, xrZ0, xrZ1, xrZt, n32_eq0, n32_eq1, n32_gt0, n32_gt1, n32_lt1, n32_le1, n32_0le, tf0, tf1, xaI_of, hC.2.1, wf_2 hw, q, bX12_mean_1, bX12_mean_3, r_throws_t, ekX12_mean_3_0]
  · rcases h with h | h | h
    · exact absurd h q
    · simp (disch := omega) only [n32_ltE, n32_leE, n32_eqE, n32_eqm, m1_eqn, n32_ge0, n32_lt0, n32_nat, n32_succ, n32_add, xin_n32, xin_b1, xin_b2, cond_true, cond_false, if_true, if_false, xcI_some, xcV_some, xcJ_some, xcR_some, xu_ee, xu_rne, xu_kne, ite_self, not_true_eq_false, not_false_eq_true, ne_eq, true_and, and_true, false_and, and_false, m1_lt0, m1_eq0, eq_self, Bool.false_eq_true, reduceCtorEq, z_lt0, i1_eq0, i0_eq1, i1_eq1, xrZ0, xrZ1, xrZt, n32_eq0, n32_eq1, n32_gt0, n32_gt1, n32_lt1, n32_le1, n32_0le, tf0, tf1, xaI_of, hC.2.1, wf_2 hw, q, h, sX12_isIn, ekX12_mean_0_9, bX12_mean_1, bX12_mean_3, r_throws_t, ekX12_mean_3_0]
    · simp (disch := omega) only [n32_ltE, n32_leE, n32_eqE, n32_eqm, m1_eqn, n32_ge0, n32_lt0, n32_nat, n32_succ, n32_add, xin_n32, xin_b1, xin_b2, cond_true, cond_false, if_true, if_false, xcI_some, xcV_some, xcJ_some, xcR_some, xu_ee, xu_rne, xu_kne, ite_self, not_true_eq_false, not_false_eq_true, ne_eq, true_and, and_true, false_and, and_false, m1_lt0, m1_eq0, eq_self, Bool.false_eq_true, reduceCtorEq, z_lt0, i1_eq0, i0_eq1, i1_eq1, xrZ0, xrZ1, xrZt, n32_eq0, n32_eq1, n32_gt0, n32_gt1, n32_lt1, n32_le1, n32_0le, tf0, tf1, xaI_of, hC.2.1, wf_2 hw, q, h, sX12_isIn, ekX12_mean_0_9, bX12_mean_1, bX12_mean_3, r_throws_t, ekX12_mean_3_0]
/-- counts; tl is the tape's length -/
def cntV (S : TS) (tl x : Int32) : Int32 := if x = 0 then n32 (sV S) else if x = 1 then n32 (sB S) else if x = 2 then n32 (sE S) else if x = 3 then n32 (cntN (pt S) (sB S)) else if x = 4 then tl else -1
theorem c_count (hC : CS S N I J) {x : Int32} : xcall xprog (d + 2) 149 [.ref 0, .int x] (xst e L I J) = some (some (.int (cntV S (I 1 1) x)), xst e L I J) := by
  have hw := hC.1.1
  have hT := hC.2.1
  refine (aX11_count _ e L I J _).trans ((bX11_count_0 _ e L I J _).trans ?_)
  simp (disch := omega) only [n32_ltE, n32_leE, n32_eqE, n32_eqm, m1_eqn, n32_ge0, n32_lt0, n32_nat, n32_succ, n32_add, xin_n32, xin_b1, xin_b2, cond_true, cond_false, if_true, if_false, xcI_some, xcV_some, xcJ_some, xcR_some, xu_ee, xu_rne, xu_kne, ite_self, not_true_eq_false, not_false_eq_true, ne_eq, true_and, and_true, false_and, and_false, m1_lt0, m1_eq0, eq_self, Bool.false_eq_true, reduceCtorEq, z_lt0, i1_eq0, i0_eq1, i1_eq1, xrZ0, xrZ1, xrZt, n32_eq0, n32_eq1, n32_gt0, n32_gt1, n32_lt1, n32_le1, n32_0le, tf0, tf1, xaI_of, q2a, q2b, q2m, q2l, q2g, q2r, q2s, q2e, q3a, q3b, q3m, q3l, q3g, q3r, q3s, q3e, q4a, q4b, q4m, q4l, q4g, q4r, q4s, q4e, bX11_count_1, bX11_count_2, bX11_count_3, ekX11_count_4_2, bX11_count_4, bX11_count_5, bX11_count_6, t7_V hT hw, t7_B hT hw, t7_E hT hw, c_countPoints hT hw]
  unfold cntV
  by_cases q0 : x = 0
  · simp only [q0, if_true]
  · by_cases q1 : x = 1
    · simp only [q0, q1, if_true, if_false]; rfl
    · by_cases q2 : x = 2
      · simp only [q0, q1, q2, if_true, if_false]; rfl
      · by_cases q3 : x = 3
        · simp only [q0, q1, q2, q3, if_true, if_false]; rfl
        · by_cases q4 : x = 4
          · simp only [q0, q1, q2, q3, q4, if_true, if_false]; rfl
          · simp only [q0, q1, q2, q3, q4, if_false]
theorem r_count (hC : RS S I) {x : Int32} : RR (xcall xprog (d + 8) 268 [.ref 209, .int x] (xst e L I J)) (zI e L (oR S I J (cntV S (I 209 2) x))) := by
  have hw := hC.1.1
  have h20 := wf_B hw
  refine RR_eq ((aX12_count _ e L I J _).trans (bX12_count_0 _ e L I J _)) ?_
  refine RR_cV (r_lays (d := d) (RS_0 (x := 0) hC)) (fun K J' ⟨j1, f1, hF, hC2⟩ => ?_)
  subst j1
  have hS := hC2.2.1
  rw [ekX12_count_0_4]
  obtain ⟨z, h1, h2⟩ := xfor (fun i (z : Nat) => xlim (xcall xprog (d + 7)) mX12_count 1 [.ref 209, .int x, .int (n32 z), .int (n32 i)] [] (xst e L K J')) (fun i z => z = cntN (pt S) i) (n := sB S) (fun i z hi hz => by
    subst hz
    refine ⟨cntN (pt S) (i + 1), ?_, rfl⟩
    refine (bX12_count_1 _ e L K J' _ _ _).trans ?_
    rw [cntN_s]
    by_cases q : pt S i = true
    · simp (disch := omega) only [n32_ltE, n32_leE, n32_eqE, n32_eqm, m1_eqn, n32_ge0, n32_lt0, n32_nat, n32_succ, n32_add, xin_n32, xin_b1, xin_b2, cond_true, cond_false, if_true, if_false, xcI_some, xcV_some, xcJ_some, xcR_some, xu_ee, xu_rne, xu_kne, ite_self, not_true_eq_false, not_false_eq_true, ne_eq, true_and, and_true, false_and, and_false, m1_lt0, m1_eq0, eq_self, Bool.false_eq_true, reduceCtorEq, z_lt0, i1_eq0, i0_eq1, i1_eq1, xrZ0, xrZ1, xrZt, n32_eq0, n32_eq1, n32_gt0, n32_gt1, n32_lt1, n32_le1, n32_0le, tf0, tf1, xaI_of, q2a, q2b, q2m, q2l, q2g, q2r, q2s, q2e, q3a, q3b, q3m, q3l, q3g, q3r, q3s, q3e, q4a, q4b, q4m, q4l, q4g, q4r, q4s, q4e, ekX12_count_0_4, bX12_count_0, ekX12_count_1_9, bX12_count_2, bX12_count_3, bX12_count_4, bX12_count_5, bX12_count_6, bX12_count_7, bX12_count_8, bX12_count_9, bX12_count_10, hS, wf_2 hw, hi, r_isPoint hS hw hF.1 hi, q]
    · simp (disch := omega) only [n32_ltE, n32_leE, n32_eqE, n32_eqm, m1_eqn, n32_ge0, n32_lt0, n32_nat, n32_succ, n32_add, xin_n32, xin_b1, xin_b2, cond_true, cond_false, if_true, if_false, xcI_some, xcV_some, xcJ_some, xcR_some, xu_ee, xu_rne, xu_kne, ite_self, not_true_eq_false, not_false_eq_true, ne_eq, true_and, and_true, false_and, and_false, m1_lt0, m1_eq0, eq_self, Bool.false_eq_true, reduceCtorEq, z_lt0, i1_eq0, i0_eq1, i1_eq1, xrZ0, xrZ1, xrZt, n32_eq0, n32_eq1, n32_gt0, n32_gt1, n32_lt1, n32_le1, n32_0le, tf0, tf1, xaI_of, q2a, q2b, q2m, q2l, q2g, q2r, q2s, q2e, q3a, q3b, q3m, q3l, q3g, q3r, q3s, q3e, q4a, q4b, q4m, q4l, q4g, q4r, q4s, q4e, ekX12_count_0_4, bX12_count_0, ekX12_count_1_9, bX12_count_2, bX12_count_3, bX12_count_4, bX12_count_5, bX12_count_6, bX12_count_7, bX12_count_8, bX12_count_9, bX12_count_10, hS, wf_2 hw, hi, r_isPoint hS hw hF.1 hi, q, Int32.add_zero]) 0 rfl
  subst h2
  refine RR_eq (h1.trans (bX12_count_1 _ e L K J' _ _ _)) ?_
  have tl : K 209 2 = I 209 2 := by rw [f1 209 2 (by decide) (Or.inr (by decide)), xu_kne (by decide)]
  simp (disch := omega) only [n32_ltE, n32_leE, n32_eqE, n32_eqm, m1_eqn, n32_ge0, n32_lt0, n32_nat, n32_succ, n32_add, xin_n32, xin_b1, xin_b2, cond_true, cond_false, if_true, if_false, xcI_some, xcV_some, xcJ_some, xcR_some, xu_ee, xu_rne, xu_kne, ite_self, not_true_eq_false, not_false_eq_true, ne_eq, true_and, and_true, false_and, and_false, m1_lt0, m1_eq0, eq_self, Bool.false_eq_true, reduceCtorEq, z_lt0, i1_eq0, i0_eq1, i1_eq1, xrZ0, xrZ1, xrZt, n32_eq0, n32_eq1, n32_gt0, n32_gt1, n32_lt1, n32_le1, n32_0le, tf0, tf1, xaI_of, q2a, q2b, q2m, q2l, q2g, q2r, q2s, q2e, q3a, q3b, q3m, q3l, q3g, q3r, q3s, q3e, q4a, q4b, q4m, q4l, q4g, q4r, q4s, q4e, hS, wf_2 hw, wf_1 hw, wf_0 hw, Nat.lt_irrefl, ekX12_count_0_4, bX12_count_0, ekX12_count_1_9, bX12_count_2, bX12_count_3, bX12_count_4, bX12_count_5, bX12_count_6, bX12_count_7, bX12_count_8, bX12_count_9, bX12_count_10, tl]
  unfold cntV
  refine RR_if (fun q => ?_) (fun q0 => ?_)
  · simp only [q, if_true]
    exact RR_I (oR_l f1 hC2)
  refine RR_if (fun q => ?_) (fun q1 => ?_)
  · simp only [q0, q, if_true, if_false]
    exact RR_I (oR_l f1 hC2)
  refine RR_if (fun q => ?_) (fun q2 => ?_)
  · simp only [q0, q1, q, if_true, if_false]
    exact RR_I (oR_l f1 hC2)
  refine RR_if (fun q => ?_) (fun q3 => ?_)
  · simp only [q0, q1, q2, q, if_true, if_false]
    exact RR_I (oR_l f1 hC2)
  refine RR_if (fun q => ?_) (fun q4 => ?_)
  · simp only [q0, q1, q2, q3, q, if_true, if_false]
    exact RR_I (oR_l f1 hC2)
  · simp only [q0, q1, q2, q3, q4, if_false]
    exact RR_I (oR_l f1 hC2)
/-! Forks. -/
theorem ush {x : Nat} {s : Int32} {k : Nat} (hx : x < 2147483648) (hk : k < 32) (hs : (Int32.toUInt32 s &&& Int32.toUInt32 31).toBitVec % 32 = BitVec.ofNat 32 k) : (Int32.toUInt32 (n32 x) >>> (Int32.toUInt32 s &&& Int32.toUInt32 31)).toInt32 = n32 (x / 2 ^ k) := by
  apply Int32.toBitVec_inj.mp
  show (Int32.toUInt32 (n32 x) >>> (Int32.toUInt32 s &&& Int32.toUInt32 31)).toBitVec = BitVec.ofNat 32 (x / 2 ^ k)
  rw [UInt32.toBitVec_shiftRight, hs]
  show (BitVec.ofNat 32 x) >>> (BitVec.ofNat 32 k) = BitVec.ofNat 32 (x / 2 ^ k)
  apply BitVec.eq_of_toNat_eq
  rw [BitVec.ushiftRight_eq', BitVec.toNat_ushiftRight, BitVec.toNat_ofNat, BitVec.toNat_ofNat, BitVec.toNat_ofNat, Nat.shiftRight_eq_div_pow, Nat.mod_eq_of_lt (show k < 2 ^ 32 by omega), Nat.mod_eq_of_lt (show x < 2 ^ 32 by omega), Nat.mod_eq_of_lt]
  exact Nat.lt_of_le_of_lt (Nat.div_le_self _ _) (by omega)
theorem nlz (h0 : 0 < x) (hx : x < 1048576) : ∃ m, 2 ^ m ≤ x ∧ x < 2 ^ (m + 1) ∧ m < 20 ∧ xcall xprog (d + 1) 274 [.int (n32 x)] (xst e L I J) = some (some (.int (n32 (31 - m))), xst e L I J) := by
  have u16 : ∀ y, y < 2147483648 → (Int32.toUInt32 (n32 y) >>> (Int32.toUInt32 16 &&& Int32.toUInt32 31)).toInt32 = n32 (y / 65536) := fun y hy => ush (k := 16) hy (by omega) (by decide)
  have u8 : ∀ y, y < 2147483648 → (Int32.toUInt32 (n32 y) >>> (Int32.toUInt32 8 &&& Int32.toUInt32 31)).toInt32 = n32 (y / 256) := fun y hy => ush (k := 8) hy (by omega) (by decide)
  have u4 : ∀ y, y < 2147483648 → (Int32.toUInt32 (n32 y) >>> (Int32.toUInt32 4 &&& Int32.toUInt32 31)).toInt32 = n32 (y / 16) := fun y hy => ush (k := 4) hy (by omega) (by decide)
  have u2 : ∀ y, y < 2147483648 → (Int32.toUInt32 (n32 y) >>> (Int32.toUInt32 2 &&& Int32.toUInt32 31)).toInt32 = n32 (y / 4) := fun y hy => ush (k := 2) hy (by omega) (by decide)
  have u1 : ∀ y, y < 2147483648 → (Int32.toUInt32 (n32 y) >>> (Int32.toUInt32 1 &&& Int32.toUInt32 31)).toInt32 = n32 (y / 2) := fun y hy => ush (k := 1) hy (by omega) (by decide)
  have e0 : xcall xprog (d + 1) 274 [.int (n32 x)] (xst e L I J) = xlim (xcall xprog d) mJ6_numberOfLeadingZeros_0f7a4 3 [.int (n32 x), xD] [] (xst e L I J) := by
    refine (aJ6_numberOfLeadingZeros_0f7a4 _ e L I J _).trans ((bJ6_numberOfLeadingZeros_0f7a4_0 _ e L I J _).trans ?_)
    have : ¬ x = 0 := by omega
    simp (disch := omega) only [n32_ltE, n32_leE, n32_eqE, n32_eqm, m1_eqn, n32_ge0, n32_lt0, n32_nat, n32_succ, n32_add, xin_n32, xin_b1, xin_b2, cond_true, cond_false, if_true, if_false, xcI_some, xcV_some, xcJ_some, xcR_some, xu_ee, xu_rne, xu_kne, ite_self, not_true_eq_false, not_false_eq_true, ne_eq, true_and, and_true, false_and, and_false, m1_lt0, m1_eq0, eq_self, Bool.false_eq_true, reduceCtorEq, z_lt0, i1_eq0, i0_eq1, i1_eq1, xrZ0, xrZ1, xrZt, n32_eq0, n32_eq1, n32_gt0, n32_gt1, n32_lt1, n32_le1, n32_0le, tf0, tf1, xaI_of, this]
  -- the last step, for numbers below 4
  have last : ∀ y n m, 0 < y → y < 4 → 2 ^ m * y ≤ x → x < 2 ^ m * (y + 1) → n + m = 31 → m ≤ 30 → ∃ m', 2 ^ m' ≤ x ∧ x < 2 ^ (m' + 1) ∧ xlim (xcall xprog d) mJ6_numberOfLeadingZeros_0f7a4 7 [.int (n32 y), .int (n32 n)] [] (xst e L I J) = some (some (.int (n32 (31 - m'))), xst e L I J) := by
    intro y n m y0 y4 l1 l2 hnm hm
    have ee := bJ6_numberOfLeadingZeros_0f7a4_7 (xcall xprog d) e L I J (n32 y) (n32 n)
    rw [u1 y (by omega), n32_sub (by omega)] at ee
    by_cases hy : y = 1
    · subst hy
      refine ⟨m, by omega, by rw [Nat.pow_succ]; omega, ee.trans ?_⟩
      rw [show n - 1 / 2 = 31 - m by omega]
    · have hyd : y / 2 = 1 := by omega
      have hp : 2 ^ (m + 1) = 2 ^ m * 2 := Nat.pow_succ 2 m
      have hp2 : 2 ^ (m + 1 + 1) = 2 ^ m * 4 := by rw [Nat.pow_succ, hp]; omega
      have a1 : 2 ^ m * 2 ≤ 2 ^ m * y := Nat.mul_le_mul_left _ (by omega)
      have a2 : 2 ^ m * (y + 1) ≤ 2 ^ m * 4 := Nat.mul_le_mul_left _ (by omega)
      refine ⟨m + 1, by omega, by omega, ee.trans ?_⟩
      rw [hyd, show n - 1 = 31 - (m + 1) by omega]
  have s2 : ∀ y n m, 0 < y → y < 16 → 2 ^ m * y ≤ x → x < 2 ^ m * (y + 1) → n + m = 31 → m ≤ 28 → ∃ m', 2 ^ m' ≤ x ∧ x < 2 ^ (m' + 1) ∧ xlim (xcall xprog d) mJ6_numberOfLeadingZeros_0f7a4 6 [.int (n32 y), .int (n32 n)] [] (xst e L I J) = some (some (.int (n32 (31 - m'))), xst e L I J) := by
    intro y n m y0 y4 l1 l2 hnm hm
    have ee := bJ6_numberOfLeadingZeros_0f7a4_6 (xcall xprog d) e L I J (n32 y) (n32 n)
    rw [u2 y (by omega), show (-2 : Int32) = -(n32 2) from rfl, ← Int32.sub_eq_add_neg, n32_sub (by omega)] at ee
    by_cases hy : y < 4
    · simp only [q4l (show y < 2147483648 by omega), hy, if_true] at ee
      obtain ⟨m', q1, q2, q4⟩ := last y n m y0 hy l1 l2 hnm (by omega)
      exact ⟨m', q1, q2, ee.trans q4⟩
    · simp only [q4l (show y < 2147483648 by omega), hy, if_false] at ee
      have hp : 2 ^ (m + 2) = 2 ^ m * 4 := Nat.pow_add 2 m 2
      obtain ⟨m', q1, q2, q4⟩ := last (y / 4) (n - 2) (m + 2) (by omega) (by omega) (by rw [hp, Nat.mul_assoc]; exact Nat.le_trans (Nat.mul_le_mul_left _ (by omega)) l1) (by rw [hp, Nat.mul_assoc]; exact Nat.lt_of_lt_of_le l2 (Nat.mul_le_mul_left _ (by omega))) (by omega) (by omega)
      exact ⟨m', q1, q2, ee.trans q4⟩
  have s4 : ∀ y n m, 0 < y → y < 256 → 2 ^ m * y ≤ x → x < 2 ^ m * (y + 1) → n + m = 31 → m ≤ 24 → ∃ m', 2 ^ m' ≤ x ∧ x < 2 ^ (m' + 1) ∧ xlim (xcall xprog d) mJ6_numberOfLeadingZeros_0f7a4 5 [.int (n32 y), .int (n32 n)] [] (xst e L I J) = some (some (.int (n32 (31 - m'))), xst e L I J) := by
    intro y n m y0 y4 l1 l2 hnm hm
    have ee := bJ6_numberOfLeadingZeros_0f7a4_5 (xcall xprog d) e L I J (n32 y) (n32 n)
    rw [u4 y (by omega), show (-4 : Int32) = -(n32 4) from rfl, ← Int32.sub_eq_add_neg, n32_sub (by omega)] at ee
    by_cases hy : y < 16
    · simp only [q16l (show y < 2147483648 by omega), hy, if_true] at ee
      obtain ⟨m', q1, q2, q4⟩ := s2 y n m y0 hy l1 l2 hnm (by omega)
      exact ⟨m', q1, q2, ee.trans q4⟩
    · simp only [q16l (show y < 2147483648 by omega), hy, if_false] at ee
      have hp : 2 ^ (m + 4) = 2 ^ m * 16 := Nat.pow_add 2 m 4
      obtain ⟨m', q1, q2, q4⟩ := s2 (y / 16) (n - 4) (m + 4) (by omega) (by omega) (by rw [hp, Nat.mul_assoc]; exact Nat.le_trans (Nat.mul_le_mul_left _ (by omega)) l1) (by rw [hp, Nat.mul_assoc]; exact Nat.lt_of_lt_of_le l2 (Nat.mul_le_mul_left _ (by omega))) (by omega) (by omega)
      exact ⟨m', q1, q2, ee.trans q4⟩
  have s8 : ∀ y n m, 0 < y → y < 65536 → 2 ^ m * y ≤ x → x < 2 ^ m * (y + 1) → n + m = 31 → m ≤ 16 → ∃ m', 2 ^ m' ≤ x ∧ x < 2 ^ (m' + 1) ∧ xlim (xcall xprog d) mJ6_numberOfLeadingZeros_0f7a4 4 [.int (n32 y), .int (n32 n)] [] (xst e L I J) = some (some (.int (n32 (31 - m'))), xst e L I J) := by
    intro y n m y0 y4 l1 l2 hnm hm
    have ee := bJ6_numberOfLeadingZeros_0f7a4_4 (xcall xprog d) e L I J (n32 y) (n32 n)
    rw [u8 y (by omega), show (-8 : Int32) = -(n32 8) from rfl, ← Int32.sub_eq_add_neg, n32_sub (by omega)] at ee
    by_cases hy : y < 256
    · simp only [q256l (show y < 2147483648 by omega), hy, if_true] at ee
      obtain ⟨m', q1, q2, q4⟩ := s4 y n m y0 hy l1 l2 hnm (by omega)
      exact ⟨m', q1, q2, ee.trans q4⟩
    · simp only [q256l (show y < 2147483648 by omega), hy, if_false] at ee
      have hp : 2 ^ (m + 8) = 2 ^ m * 256 := Nat.pow_add 2 m 8
      obtain ⟨m', q1, q2, q4⟩ := s4 (y / 256) (n - 8) (m + 8) (by omega) (by omega) (by rw [hp, Nat.mul_assoc]; exact Nat.le_trans (Nat.mul_le_mul_left _ (by omega)) l1) (by rw [hp, Nat.mul_assoc]; exact Nat.lt_of_lt_of_le l2 (Nat.mul_le_mul_left _ (by omega))) (by omega) (by omega)
      exact ⟨m', q1, q2, ee.trans q4⟩
  rw [e0]
  have ee := bJ6_numberOfLeadingZeros_0f7a4_3 (xcall xprog d) e L I J (n32 x)
  rw [u16 x (by omega), show (31 : Int32) + (-16) = n32 15 from rfl] at ee
  have fin : (∃ m', 2 ^ m' ≤ x ∧ x < 2 ^ (m' + 1) ∧ xlim (xcall xprog d) mJ6_numberOfLeadingZeros_0f7a4 3 [.int (n32 x), xD] [] (xst e L I J) = some (some (.int (n32 (31 - m'))), xst e L I J)) → ∃ m, 2 ^ m ≤ x ∧ x < 2 ^ (m + 1) ∧ m < 20 ∧ xlim (xcall xprog d) mJ6_numberOfLeadingZeros_0f7a4 3 [.int (n32 x), xD] [] (xst e L I J) = some (some (.int (n32 (31 - m))), xst e L I J) := by
    rintro ⟨m, q1, q2, q3⟩
    refine ⟨m, q1, q2, ?_, q3⟩
    by_cases z : m < 20
    · exact z
    · have : 2 ^ 20 ≤ 2 ^ m := Nat.pow_le_pow_right (by omega) (by omega)
      have e20 : (2 : Nat) ^ 20 = 1048576 := rfl
      omega
  apply fin
  by_cases hy : x < 65536
  · have hc : n32 x < (65536 : Int32) := (n32_lt (b := 65536) (by omega) (by omega)).mpr hy
    rw [if_pos hc] at ee
    obtain ⟨m', q1, q2, q4⟩ := s8 x 31 0 h0 hy (by omega) (by omega) (by omega) (by omega)
    exact ⟨m', q1, q2, ee.trans q4⟩
  · have hc : ¬ n32 x < (65536 : Int32) := fun h => hy ((n32_lt (b := 65536) (by omega) (by omega)).mp h)
    rw [if_neg hc] at ee
    obtain ⟨m', q1, q2, q4⟩ := s8 (x / 65536) 15 16 (by omega) (by omega) (by omega) (by omega) (by omega) (by omega)
    exact ⟨m', q1, q2, ee.trans q4⟩
theorem bt_nat (z : Int32) (h : ∀ k, 20 ≤ k → k < 32 → bt z k = false) : ∃ y, y < 1048576 ∧ z = n32 y ∧ ∀ k, y.testBit k = bt z k := by
  refine ⟨z.toBitVec.toNat, ?_, ?_, fun k => rfl⟩
  · apply Nat.lt_pow_two_of_testBit (n := 20)
    intro i hi
    by_cases h32 : i < 32
    · exact h i hi h32
    · exact Nat.testBit_lt_two_pow (Nat.lt_of_lt_of_le z.toBitVec.isLt (Nat.pow_le_pow_right (by omega) (by omega)))
  · apply Int32.toBitVec_inj.mp
    show z.toBitVec = BitVec.ofNat 32 z.toBitVec.toNat
    rw [BitVec.ofNat_toNat, BitVec.setWidth_eq]
/-- on both ways -/
def cmn (S : TS) (a b x : Nat) : Bool := (anc (par S) x a || decide (x = a)) && (anc (par S) x b || decide (x = b))
theorem bt_cmn (ha : a < 20) (hb : b < 20) (hx : x < 32) : bt ((ahs (par S) a ||| (1 <<< (n32 a &&& 31))) &&& (ahs (par S) b ||| (1 <<< (n32 b &&& 31)))) x = cmn S a b x := by
  rw [bt_and, bt_set _ (by omega) hx, bt_set _ (by omega) hx, bt_ahs hx (by omega), bt_ahs hx (by omega)]
  rfl
theorem cmn_le (h : cmn S a b x = true) : x ≤ a ∧ x ≤ b := by
  unfold cmn at h
  simp only [Bool.and_eq_true, Bool.or_eq_true, decide_eq_true_eq] at h
  obtain ⟨h1, h2⟩ := h
  constructor
  · rcases h1 with h | h
    · exact Nat.le_of_lt (anc_lt h)
    · omega
  · rcases h2 with h | h
    · exact Nat.le_of_lt (anc_lt h)
    · omega
theorem cmn_0 (hw : wfT S) (ha : a < sB S) (hb : b < sB S) : cmn S a b 0 = true := by
  unfold cmn
  simp only [Bool.and_eq_true, Bool.or_eq_true, decide_eq_true_eq]
  constructor
  · by_cases h : a = 0
    · exact Or.inr h.symm
    · exact Or.inl (anc_0 (wf_wp hw) ha h)
  · by_cases h : b = 0
    · exact Or.inr h.symm
    · exact Or.inl (anc_0 (wf_wp hw) hb h)
theorem cmn_cmp {x y : Nat} (h1 : cmn S a b x = true) (h2 : cmn S a b y = true) (hlt : x < y) : hei S x < hei S y := by
  unfold cmn at h1 h2
  simp only [Bool.and_eq_true, Bool.or_eq_true, decide_eq_true_eq] at h1 h2
  rcases h1.1 with p | p
  · rcases h2.1 with q | q
    · rcases anc_cmp p q with r | r | r
      · omega
      · exact anc_hgt r
      · have := anc_lt r; omega
    · subst q
      exact anc_hgt p
  · subst p
    rcases h2.1 with q | q
    · have := anc_lt q; omega
    · omega
/-- the last block on both ways -/
def FK (S : TS) (a b m : Nat) : Prop := cmn S a b m = true ∧ ∀ x, x < 32 → m < x → cmn S a b x = false
theorem FK_u {m m' : Nat} (h : FK S a b m) (h' : FK S a b m') (hm : m < 32) (hm' : m' < 32) : m = m' := by
  by_cases z : m < m'
  · have := h.2 m' hm' z
    rw [h'.1] at this
    cases this
  · by_cases z2 : m' < m
    · have := h'.2 m hm z2
      rw [h.1] at this
      cases this
    · omega
theorem c_lastShared (hC : CS S N I J) (ha : a < sB S) (hb : b < sB S) : ∃ m, m < 20 ∧ FK S a b m ∧ xcall xprog (d + 2) 27 [.ref 7, .int (n32 a), .int (n32 b)] (xst e L I J) = some (some (.int (n32 m)), xst e L I J) := by
  have hw := hC.1.1
  have hT := hC.2.1
  have h20 := wf_B hw
  obtain ⟨y, y1, y2, y3⟩ := bt_nat ((ahs (par S) a ||| (1 <<< (n32 a &&& 31))) &&& (ahs (par S) b ||| (1 <<< (n32 b &&& 31)))) (fun k k1 k2 => by
    rw [bt_cmn (by omega) (by omega) k2]
    cases q : cmn S a b k with
    | false => rfl
    | true =>
      have := cmn_le q
      omega)
  have y0 : 0 < y := by
    by_cases z : y = 0
    · have q := y3 0
      rw [bt_cmn (by omega) (by omega) (by omega), cmn_0 hw ha hb, z] at q
      simp at q
    · omega
  obtain ⟨m, m1, m2, m3, m4⟩ := nlz (d := d) (e := e) (L := L) (I := I) (J := J) y0 y1
  refine ⟨m, m3, ⟨?_, ?_⟩, ?_⟩
  · rw [← bt_cmn (by omega) (by omega) (by omega), ← y3]
    exact Nat.testBit_of_two_pow_le_and_two_pow_add_one_gt m1 m2
  · intro x hx hlt
    rw [← bt_cmn (by omega) (by omega) hx, ← y3]
    exact Nat.testBit_lt_two_pow (Nat.lt_of_lt_of_le m2 (Nat.pow_le_pow_right (by omega) (by omega)))
  · refine (aX2_lastShared _ e L I J _ _).trans ((bX2_lastShared_0 _ e L I J _ _).trans ?_)
    simp (disch := omega) only [n32_ltE, n32_leE, n32_eqE, n32_eqm, m1_eqn, n32_ge0, n32_lt0, n32_nat, n32_succ, n32_add, xin_n32, xin_b1, xin_b2, cond_true, cond_false, if_true, if_false, xcI_some, xcV_some, xcJ_some, xcR_some, xu_ee, xu_rne, xu_kne, ite_self, not_true_eq_false, not_false_eq_true, ne_eq, true_and, and_true, false_and, and_false, m1_lt0, m1_eq0, eq_self, Bool.false_eq_true, reduceCtorEq, z_lt0, i1_eq0, i0_eq1, i1_eq1, xrZ0, xrZ1, xrZt, n32_eq0, n32_eq1, n32_gt0, n32_gt1, n32_lt1, n32_le1, n32_0le, tf0, tf1, xaI_of, t7_ah hT ha, t7_ah hT hb, y2]
    rw [m4, xcI_some, ekX2_lastShared_0_20, show (31 : Int32) = n32 31 from rfl, n32_sub (by omega), show 31 - (31 - m) = m by omega]
theorem r_fork_loop (hC : RS S I) (hF : Rf S I) (ha : a < sB S) (hb : b < sB S) : ∃ m, m < 20 ∧ FK S a b m ∧ xlim (xcall xprog (d + 1)) mX12_fork 3 [.ref 209, xD, xD, .int ((ahs (par S) a ||| (1 <<< (n32 a &&& 31))) &&& (ahs (par S) b ||| (1 <<< (n32 b &&& 31)))), .int 0, .int 0] [] (xst e L I J) = some (some (.int (n32 m)), xst e L I J) := by
  have hw := hC.1.1
  have hS := hC.2.1
  have hR := hF.1
  have h20 := wf_B hw
  generalize hz : (ahs (par S) a ||| (1 <<< (n32 a &&& 31))) &&& (ahs (par S) b ||| (1 <<< (n32 b &&& 31))) = z
  have hbt : ∀ x, x < 32 → bt z x = cmn S a b x := fun x hx => by rw [← hz, bt_cmn (by omega) (by omega) hx]
  obtain ⟨m, h1, h2, h3, h4⟩ := xfor (fun i (m : Nat) => xlim (xcall xprog (d + 1)) mX12_fork 3 [.ref 209, xD, xD, .int z, .int (n32 m), .int (n32 i)] [] (xst e L I J)) (fun i m => m < sB S ∧ cmn S a b m = true ∧ ∀ x, x < i → cmn S a b x = true → x ≤ m) (n := sB S) (fun i m hi ⟨g1, g2, g3⟩ => by
    have e0 := bX12_fork_3 (xcall xprog (d + 1)) e L I J z (n32 m) (n32 i)
    have l1 := hi_lt (S := S) (b := i)
    have l2 := hi_lt (S := S) (b := m)
    by_cases q : cmn S a b i = true
    · by_cases q2 : i ≤ m
      · have q3 : hei S i ≤ hei S m := by
          by_cases z : i = m
          · rw [z]; exact Nat.le_refl _
          · exact Nat.le_of_lt (cmn_cmp q g2 (by omega))
        refine ⟨m, e0.trans ?_, g1, g2, fun x hx hc => ?_⟩
        · simp (disch := omega) only [n32_ltE, n32_leE, n32_eqE, n32_eqm, m1_eqn, n32_ge0, n32_lt0, n32_nat, n32_succ, n32_add, xin_n32, xin_b1, xin_b2, cond_true, cond_false, if_true, if_false, xcI_some, xcV_some, xcJ_some, xcR_some, xu_ee, xu_rne, xu_kne, ite_self, not_true_eq_false, not_false_eq_true, ne_eq, true_and, and_true, false_and, and_false, m1_lt0, m1_eq0, eq_self, Bool.false_eq_true, reduceCtorEq, z_lt0, i1_eq0, i0_eq1, i1_eq1, xrZ0, xrZ1, xrZt, n32_eq0, n32_eq1, n32_gt0, n32_gt1, n32_lt1, n32_le1, n32_0le, tf0, tf1, xaI_of, ekX12_fork_0_9, ekX12_fork_0_5, bX12_fork_0, bX12_fork_1, ekX12_fork_2_1, bX12_fork_2, ekX12_fork_3_8, bX12_fork_4, bX12_fork_5, hS, wf_2 hw, hi, sX12_bitOf, bt_t1, hbt i (by omega), q, (hR i hi).1, (hR m g1).1, q3]
        · by_cases z : x = i
          · omega
          · exact g3 x (by omega) hc
      · have q3 : ¬ hei S i ≤ hei S m := by
          have := cmn_cmp g2 q (by omega)
          omega
        refine ⟨i, e0.trans ?_, hi, q, fun x hx hc => by omega⟩
        simp (disch := omega) only [n32_ltE, n32_leE, n32_eqE, n32_eqm, m1_eqn, n32_ge0, n32_lt0, n32_nat, n32_succ, n32_add, xin_n32, xin_b1, xin_b2, cond_true, cond_false, if_true, if_false, xcI_some, xcV_some, xcJ_some, xcR_some, xu_ee, xu_rne, xu_kne, ite_self, not_true_eq_false, not_false_eq_true, ne_eq, true_and, and_true, false_and, and_false, m1_lt0, m1_eq0, eq_self, Bool.false_eq_true, reduceCtorEq, z_lt0, i1_eq0, i0_eq1, i1_eq1, xrZ0, xrZ1, xrZt, n32_eq0, n32_eq1, n32_gt0, n32_gt1, n32_lt1, n32_le1, n32_0le, tf0, tf1, xaI_of, ekX12_fork_0_9, ekX12_fork_0_5, bX12_fork_0, bX12_fork_1, ekX12_fork_2_1, bX12_fork_2, ekX12_fork_3_8, bX12_fork_4, bX12_fork_5, hS, wf_2 hw, hi, sX12_bitOf, bt_t1, hbt i (by omega), q, (hR i hi).1, (hR m g1).1, q3]
    · refine ⟨m, e0.trans ?_, g1, g2, fun x hx hc => ?_⟩
      · simp (disch := omega) only [n32_ltE, n32_leE, n32_eqE, n32_eqm, m1_eqn, n32_ge0, n32_lt0, n32_nat, n32_succ, n32_add, xin_n32, xin_b1, xin_b2, cond_true, cond_false, if_true, if_false, xcI_some, xcV_some, xcJ_some, xcR_some, xu_ee, xu_rne, xu_kne, ite_self, not_true_eq_false, not_false_eq_true, ne_eq, true_and, and_true, false_and, and_false, m1_lt0, m1_eq0, eq_self, Bool.false_eq_true, reduceCtorEq, z_lt0, i1_eq0, i0_eq1, i1_eq1, xrZ0, xrZ1, xrZt, n32_eq0, n32_eq1, n32_gt0, n32_gt1, n32_lt1, n32_le1, n32_0le, tf0, tf1, xaI_of, ekX12_fork_0_9, ekX12_fork_0_5, bX12_fork_0, bX12_fork_1, ekX12_fork_2_1, bX12_fork_2, ekX12_fork_3_8, bX12_fork_4, bX12_fork_5, hS, wf_2 hw, hi, sX12_bitOf, bt_t1, hbt i (by omega), q]
      · by_cases z : x = i
        · subst z
          exact absurd hc q
        · exact g3 x (by omega) hc) 0 ⟨by omega, cmn_0 hw ha hb, fun x hx => absurd hx (Nat.not_lt_zero x)⟩
  refine ⟨m, by omega, ⟨h3, fun x hx hlt => ?_⟩, h1.trans ((bX12_fork_3 _ e L I J _ _ _).trans ?_)⟩
  · cases q : cmn S a b x with
    | false => rfl
    | true =>
      have := cmn_le q
      have := h4 x (by omega) q
      omega
  · simp (disch := omega) only [n32_ltE, n32_leE, n32_eqE, n32_eqm, m1_eqn, n32_ge0, n32_lt0, n32_nat, n32_succ, n32_add, xin_n32, xin_b1, xin_b2, cond_true, cond_false, if_true, if_false, xcI_some, xcV_some, xcJ_some, xcR_some, xu_ee, xu_rne, xu_kne, ite_self, not_true_eq_false, not_false_eq_true, ne_eq, true_and, and_true, false_and, and_false, m1_lt0, m1_eq0, eq_self, Bool.false_eq_true, reduceCtorEq, z_lt0, i1_eq0, i0_eq1, i1_eq1, xrZ0, xrZ1, xrZt, n32_eq0, n32_eq1, n32_gt0, n32_gt1, n32_lt1, n32_le1, n32_0le, tf0, tf1, xaI_of, ekX12_fork_0_9, ekX12_fork_0_5, bX12_fork_0, bX12_fork_1, ekX12_fork_2_1, bX12_fork_2, ekX12_fork_3_8, bX12_fork_4, bX12_fork_5, hS, wf_2 hw, Nat.lt_irrefl]
theorem q_fork (hW : WS S) (x y : Int32) : same S N 118 205 [.int x, .int y] := by
  have hw := hW.1
  have h20 := wf_B hw
  rcases inr_or x (sB S) (by omega) with ⟨a, ha, rfl⟩ | hx
  · rcases inr_or y (sB S) (by omega) with ⟨b, hb, rfl⟩ | hy
    · by_cases hm : ∃ m, m < 20 ∧ FK S a b m
      · obtain ⟨m, hm1, hm2⟩ := hm
        refine ⟨n32 m, fun d e L I J hC => ?_, fun d e L I J hC => ?_⟩
        · refine RR_eq ((aX11_fork _ e L I J _ _).trans (bX11_fork_0 _ e L I J _ _)) ?_
          simp (disch := omega) only [n32_ltE, n32_leE, n32_eqE, n32_eqm, m1_eqn, n32_ge0, n32_lt0, n32_nat, n32_succ, n32_add, xin_n32, xin_b1, xin_b2, cond_true, cond_false, if_true, if_false, xcI_some, xcV_some, xcJ_some, xcR_some, xu_ee, xu_rne, xu_kne, ite_self, not_true_eq_false, not_false_eq_true, ne_eq, true_and, and_true, false_and, and_false, m1_lt0, m1_eq0, eq_self, Bool.false_eq_true, reduceCtorEq, z_lt0, i1_eq0, i0_eq1, i1_eq1, xrZ0, xrZ1, xrZt, n32_eq0, n32_eq1, n32_gt0, n32_gt1, n32_lt1, n32_le1, n32_0le, tf0, tf1, xaI_of, c_hasBlock_y hC.2.1 hw ha, ekX11_fork_0_8, ekX11_fork_0_3, bX11_fork_0, bX11_fork_1, ekX11_fork_2_4, bX11_fork_2, c_hasBlock_y hC.2.1 hw hb]
          obtain ⟨m', z1, z2, z3⟩ := c_lastShared (d := d + 9) (e := e) (L := L) hC ha hb
          have := FK_u hm2 z2 (by omega) (by omega)
          subst this
          rw [z3, xcI_some, ekX11_fork_2_4]
          exact RR_I (oC_r hC)
        · refine RR_eq ((aX12_fork _ e L I J _ _).trans (bX12_fork_0 _ e L I J _ _)) ?_
          simp (disch := omega) only [n32_ltE, n32_leE, n32_eqE, n32_eqm, m1_eqn, n32_ge0, n32_lt0, n32_nat, n32_succ, n32_add, xin_n32, xin_b1, xin_b2, cond_true, cond_false, if_true, if_false, xcI_some, xcV_some, xcJ_some, xcR_some, xu_ee, xu_rne, xu_kne, ite_self, not_true_eq_false, not_false_eq_true, ne_eq, true_and, and_true, false_and, and_false, m1_lt0, m1_eq0, eq_self, Bool.false_eq_true, reduceCtorEq, z_lt0, i1_eq0, i0_eq1, i1_eq1, xrZ0, xrZ1, xrZt, n32_eq0, n32_eq1, n32_gt0, n32_gt1, n32_lt1, n32_le1, n32_0le, tf0, tf1, xaI_of, r_isBlock_y (S0 hC.2.1) hw ha, ekX12_fork_0_9, ekX12_fork_0_5, bX12_fork_0, bX12_fork_1, ekX12_fork_2_1, bX12_fork_2, ekX12_fork_3_8, bX12_fork_4, bX12_fork_5, r_isBlock_y (S0 hC.2.1) hw hb]
          refine RR_cV (r_lays (d := d + 4) (RS_0 hC)) (fun K J' ⟨j1, f1, hF, hC2⟩ => ?_)
          subst j1
          simp (disch := omega) only [n32_ltE, n32_leE, n32_eqE, n32_eqm, m1_eqn, n32_ge0, n32_lt0, n32_nat, n32_succ, n32_add, xin_n32, xin_b1, xin_b2, cond_true, cond_false, if_true, if_false, xcI_some, xcV_some, xcJ_some, xcR_some, xu_ee, xu_rne, xu_kne, ite_self, not_true_eq_false, not_false_eq_true, ne_eq, true_and, and_true, false_and, and_false, m1_lt0, m1_eq0, eq_self, Bool.false_eq_true, reduceCtorEq, z_lt0, i1_eq0, i0_eq1, i1_eq1, xrZ0, xrZ1, xrZt, n32_eq0, n32_eq1, n32_gt0, n32_gt1, n32_lt1, n32_le1, n32_0le, tf0, tf1, xaI_of, ekX12_fork_0_9, ekX12_fork_0_5, bX12_fork_0, bX12_fork_1, ekX12_fork_2_1, bX12_fork_2, ekX12_fork_3_8, bX12_fork_4, bX12_fork_5, (hF.1 a ha).2, (hF.1 b hb).2]
          obtain ⟨m', z1, z2, z3⟩ := r_fork_loop (d := d + 10) (e := e) (L := L) (J := J') hC2 hF ha hb
          have := FK_u hm2 z2 (by omega) (by omega)
          subst this
          rw [z3]
          exact RR_I (oR_l f1 hC2)
      · refine ⟨0, fun d e L I J hC => ?_, fun d e L I J hC => ?_⟩
        · obtain ⟨m', z1, z2, z3⟩ := c_lastShared (d := d + 9) (e := e) (L := L) hC ha hb
          exact absurd ⟨m', z1, z2⟩ hm
        · refine RR_eq ((aX12_fork _ e L I J _ _).trans (bX12_fork_0 _ e L I J _ _)) ?_
          simp (disch := omega) only [n32_ltE, n32_leE, n32_eqE, n32_eqm, m1_eqn, n32_ge0, n32_lt0, n32_nat, n32_succ, n32_add, xin_n32, xin_b1, xin_b2, cond_true, cond_false, if_true, if_false, xcI_some, xcV_some, xcJ_some, xcR_some, xu_ee, xu_rne, xu_kne, ite_self, not_true_eq_false, not_false_eq_true, ne_eq, true_and, and_true, false_and, and_false, m1_lt0, m1_eq0, eq_self, Bool.false_eq_true, reduceCtorEq, z_lt0, i1_eq0, i0_eq1, i1_eq1, xrZ0, xrZ1, xrZt, n32_eq0, n32_eq1, n32_gt0, n32_gt1, n32_lt1, n32_le1, n32_0le, tf0, tf1, xaI_of, r_isBlock_y (S0 hC.2.1) hw ha, ekX12_fork_0_9, ekX12_fork_0_5, bX12_fork_0, bX12_fork_1, ekX12_fork_2_1, bX12_fork_2, ekX12_fork_3_8, bX12_fork_4, bX12_fork_5, r_isBlock_y (S0 hC.2.1) hw hb]
          refine RR_cV (r_lays (d := d + 4) (RS_0 hC)) (fun K J' ⟨j1, f1, hF, hC2⟩ => ?_)
          obtain ⟨m', z1, z2, z3⟩ := r_fork_loop (d := d + 10) (e := e) (L := L) (J := J') hC2 hF ha hb
          exact absurd ⟨m', z1, z2⟩ hm
    · refine ⟨-1, fun d e L I J hC => ?_, fun d e L I J hC => ?_⟩
      · refine RR_eq ((aX11_fork _ e L I J _ _).trans (bX11_fork_0 _ e L I J _ _)) ?_
        simp (disch := omega) only [n32_ltE, n32_leE, n32_eqE, n32_eqm, m1_eqn, n32_ge0, n32_lt0, n32_nat, n32_succ, n32_add, xin_n32, xin_b1, xin_b2, cond_true, cond_false, if_true, if_false, xcI_some, xcV_some, xcJ_some, xcR_some, xu_ee, xu_rne, xu_kne, ite_self, not_true_eq_false, not_false_eq_true, ne_eq, true_and, and_true, false_and, and_false, m1_lt0, m1_eq0, eq_self, Bool.false_eq_true, reduceCtorEq, z_lt0, i1_eq0, i0_eq1, i1_eq1, xrZ0, xrZ1, xrZt, n32_eq0, n32_eq1, n32_gt0, n32_gt1, n32_lt1, n32_le1, n32_0le, tf0, tf1, xaI_of, c_hasBlock_y hC.2.1 hw ha, ekX11_fork_0_8, ekX11_fork_0_3, bX11_fork_0, bX11_fork_1, ekX11_fork_2_4, bX11_fork_2, c_hasBlock_n hC.2.1 hw hy]
        exact RR_I (oC_r hC)
      · refine RR_eq ((aX12_fork _ e L I J _ _).trans (bX12_fork_0 _ e L I J _ _)) ?_
        simp (disch := omega) only [n32_ltE, n32_leE, n32_eqE, n32_eqm, m1_eqn, n32_ge0, n32_lt0, n32_nat, n32_succ, n32_add, xin_n32, xin_b1, xin_b2, cond_true, cond_false, if_true, if_false, xcI_some, xcV_some, xcJ_some, xcR_some, xu_ee, xu_rne, xu_kne, ite_self, not_true_eq_false, not_false_eq_true, ne_eq, true_and, and_true, false_and, and_false, m1_lt0, m1_eq0, eq_self, Bool.false_eq_true, reduceCtorEq, z_lt0, i1_eq0, i0_eq1, i1_eq1, xrZ0, xrZ1, xrZt, n32_eq0, n32_eq1, n32_gt0, n32_gt1, n32_lt1, n32_le1, n32_0le, tf0, tf1, xaI_of, r_isBlock_y (S0 hC.2.1) hw ha, ekX12_fork_0_9, ekX12_fork_0_5, bX12_fork_0, bX12_fork_1, ekX12_fork_2_1, bX12_fork_2, ekX12_fork_3_8, bX12_fork_4, bX12_fork_5, r_isBlock_n (S0 hC.2.1) hw hy]
        exact RR_I (oR_0 hC)
  · refine ⟨-1, fun d e L I J hC => ?_, fun d e L I J hC => ?_⟩
    · refine RR_eq ((aX11_fork _ e L I J _ _).trans (bX11_fork_0 _ e L I J _ _)) ?_
      simp (disch := omega) only [n32_ltE, n32_leE, n32_eqE, n32_eqm, m1_eqn, n32_ge0, n32_lt0, n32_nat, n32_succ, n32_add, xin_n32, xin_b1, xin_b2, cond_true, cond_false, if_true, if_false, xcI_some, xcV_some, xcJ_some, xcR_some, xu_ee, xu_rne, xu_kne, ite_self, not_true_eq_false, not_false_eq_true, ne_eq, true_and, and_true, false_and, and_false, m1_lt0, m1_eq0, eq_self, Bool.false_eq_true, reduceCtorEq, z_lt0, i1_eq0, i0_eq1, i1_eq1, xrZ0, xrZ1, xrZt, n32_eq0, n32_eq1, n32_gt0, n32_gt1, n32_lt1, n32_le1, n32_0le, tf0, tf1, xaI_of, c_hasBlock_n hC.2.1 hw hx, ekX11_fork_0_8, ekX11_fork_0_3, bX11_fork_0, bX11_fork_1, ekX11_fork_2_4, bX11_fork_2]
      exact RR_I (oC_r hC)
    · refine RR_eq ((aX12_fork _ e L I J _ _).trans (bX12_fork_0 _ e L I J _ _)) ?_
      simp (disch := omega) only [n32_ltE, n32_leE, n32_eqE, n32_eqm, m1_eqn, n32_ge0, n32_lt0, n32_nat, n32_succ, n32_add, xin_n32, xin_b1, xin_b2, cond_true, cond_false, if_true, if_false, xcI_some, xcV_some, xcJ_some, xcR_some, xu_ee, xu_rne, xu_kne, ite_self, not_true_eq_false, not_false_eq_true, ne_eq, true_and, and_true, false_and, and_false, m1_lt0, m1_eq0, eq_self, Bool.false_eq_true, reduceCtorEq, z_lt0, i1_eq0, i0_eq1, i1_eq1, xrZ0, xrZ1, xrZt, n32_eq0, n32_eq1, n32_gt0, n32_gt1, n32_lt1, n32_le1, n32_0le, tf0, tf1, xaI_of, r_isBlock_n (S0 hC.2.1) hw hx, ekX12_fork_0_9, ekX12_fork_0_5, bX12_fork_0, bX12_fork_1, ekX12_fork_2_1, bX12_fork_2, ekX12_fork_3_8, bX12_fork_4, bX12_fork_5]
      exact RR_I (oR_0 hC)
end ME
