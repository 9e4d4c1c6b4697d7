/-! Calls that only ask: blocks. -/
def oC (S : TS) (N : Nat → Int64) (I : TI) (J : TJ) (V : Int32) : Int32 → TI → TJ → Prop := fun x K J' => x = V ∧ J' = J ∧ cfr K I ∧ CS S N K J
def oR (S : TS) (I : TI) (J : TJ) (V : Int32) : Int32 → TI → TJ → Prop := fun x K J' => x = V ∧ J' = J ∧ rfr K I ∧ RS S K
theorem bs_c {p q : Nat → Bool} {n : Nat} (h : ∀ k, k < n → p k = q k) : bs p n = bs q n := by
  induction n with
  | zero => rfl
  | succ n ih =>
    show (bif p n then bs p n ||| (1 <<< (n32 n &&& 31)) else bs p n) = bif q n then bs q n ||| (1 <<< (n32 n &&& 31)) else bs q n
    rw [ih (fun k hk => h k (by omega)), h n (by omega)]
def onS (S : TS) (b : Nat) : Int32 := bs (fun x => decide (0 < x) && decide (par S x = b)) (sB S)
section QB
variable {d e L : Nat} {S : TS} {N : Nat → Int64} {I K M : TI} {J : TJ} {a b s t v k i : Nat}
theorem le_pred {x : Int32} {n : Nat} (hn : n < 1000000) : (x ≤ n32 n - 1) = (x < n32 n) := by
  rw [Int32.le_iff_toInt_le, Int32.lt_iff_toInt_lt, show (1 : Int32) = n32 1 from rfl, n32_dint hn (by omega), n32_toInt (by omega)]
  exact propext ⟨fun h => by omega, fun h => by omega⟩
theorem onS_c (hw : wfT S) : bs (fun x => decide (b < x) && decide (par S x = b)) (sB S) = onS S b := by
  refine bs_c (fun k hk => ?_)
  by_cases h : par S k = b
  · by_cases h0 : 0 < k
    · have := wf_wp hw k h0 hk
      simp [h, h0, show b < k by omega]
    · simp [h0, show ¬ b < k by omega]
  · simp [h]
theorem r_isBlock_y (hS : I 211 = S) (hw : wfT S) (hb : b < sB S) : xcall xprog (d + 2) 183 [.ref 209, .int (n32 b)] (xst e L I J) = some (some (.int 1), xst e L I J) := by
  have h20 := wf_B hw
  rw [aX12_isBlock, bX12_isBlock_0, sX12_isIn, hS, wf_2 hw]
  simp only [le_pred (show sB S < 1000000 by omega)]
  simp (disch := omega) only [n32_ltE, n32_leE, n32_eqE, n32_eqm, m1_eqn, n32_ge0, n32_lt0, n32_nat, n32_succ, n32_add, xin_n32, xin_b1, xin_b2, cond_true, cond_false, if_true, if_false, xcI_some, xcV_some, xcJ_some, xcR_some, xu_ee, xu_rne, xu_kne, ite_self, not_true_eq_false, not_false_eq_true, ne_eq, true_and, and_true, false_and, and_false, m1_lt0, m1_eq0, eq_self, Bool.false_eq_true, reduceCtorEq, z_lt0, i1_eq0, i0_eq1, i1_eq1, xrZ0, xrZ1, xrZt, n32_eq0, n32_eq1, n32_gt0, n32_gt1, n32_lt1, n32_le1, n32_0le, tf0, tf1, xaI_of, ekX12_isBlock_0_8, bX12_isBlock_0, hb]
theorem r_isBlock_n (hS : I 211 = S) (hw : wfT S) {x : Int32} (h : x < 0 ∨ ¬ x < n32 (sB S)) : xcall xprog (d + 2) 183 [.ref 209, .int x] (xst e L I J) = some (some (.int 0), xst e L I J) := by
  have h20 := wf_B hw
  rw [aX12_isBlock, bX12_isBlock_0, sX12_isIn, hS, wf_2 hw]
  simp only [le_pred (show sB S < 1000000 by omega)]
  rcases h with h | h
  · simp (disch := omega) only [n32_ltE, n32_leE, n32_eqE, n32_eqm, m1_eqn, n32_ge0, n32_lt0, n32_nat, n32_succ, n32_add, xin_n32, xin_b1, xin_b2, cond_true, cond_false, if_true, if_false, xcI_some, xcV_some, xcJ_some, xcR_some, xu_ee, xu_rne, xu_kne, ite_self, not_true_eq_false, not_false_eq_true, ne_eq, true_and, and_true, false_and, and_false, m1_lt0, m1_eq0, eq_self, Bool.false_eq_true, reduceCtorEq, z_lt0, i1_eq0, i0_eq1, i1_eq1, xrZ0, xrZ1, xrZt, n32_eq0, n32_eq1, n32_gt0, n32_gt1, n32_lt1, n32_le1, n32_0le, tf0, tf1, xaI_of, ekX12_isBlock_0_8, bX12_isBlock_0, h]
  · simp (disch := omega) only [n32_ltE, n32_leE, n32_eqE, n32_eqm, m1_eqn, n32_ge0, n32_lt0, n32_nat, n32_succ, n32_add, xin_n32, xin_b1, xin_b2, cond_true, cond_false, if_true, if_false, xcI_some, xcV_some, xcJ_some, xcR_some, xu_ee, xu_rne, xu_kne, ite_self, not_true_eq_false, not_false_eq_true, ne_eq, true_and, and_true, false_and, and_false, m1_lt0, m1_eq0, eq_self, Bool.false_eq_true, reduceCtorEq, z_lt0, i1_eq0, i0_eq1, i1_eq1, xrZ0, xrZ1, xrZt, n32_eq0, n32_eq1, n32_gt0, n32_gt1, n32_lt1, n32_le1, n32_0le, tf0, tf1, xaI_of, ekX12_isBlock_0_8, bX12_isBlock_0, h]
theorem r_isVoter_y (hS : I 211 = S) (hw : wfT S) (hb : v < sV S) : xcall xprog (d + 2) 184 [.ref 209, .int (n32 v)] (xst e L I J) = some (some (.int 1), xst e L I J) := by
  have h20 := wf_V8 hw
  rw [aX12_isVoter, bX12_isVoter_0, sX12_isIn, hS, wf_1 hw]
  simp only [le_pred (show sV S < 1000000 by omega)]
  simp (disch := omega) only [n32_ltE, n32_leE, n32_eqE, n32_eqm, m1_eqn, n32_ge0, n32_lt0, n32_nat, n32_succ, n32_add, xin_n32, xin_b1, xin_b2, cond_true, cond_false, if_true, if_false, xcI_some, xcV_some, xcJ_some, xcR_some, xu_ee, xu_rne, xu_kne, ite_self, not_true_eq_false, not_false_eq_true, ne_eq, true_and, and_true, false_and, and_false, m1_lt0, m1_eq0, eq_self, Bool.false_eq_true, reduceCtorEq, z_lt0, i1_eq0, i0_eq1, i1_eq1, xrZ0, xrZ1, xrZt, n32_eq0, n32_eq1, n32_gt0, n32_gt1, n32_lt1, n32_le1, n32_0le, tf0, tf1, xaI_of, ekX12_isVoter_0_8, bX12_isVoter_0, hb]
theorem r_isVoter_n (hS : I 211 = S) (hw : wfT S) {x : Int32} (h : x < 0 ∨ ¬ x < n32 (sV S)) : xcall xprog (d + 2) 184 [.ref 209, .int x] (xst e L I J) = some (some (.int 0), xst e L I J) := by
  have h20 := wf_V8 hw
  rw [aX12_isVoter, bX12_isVoter_0, sX12_isIn, hS, wf_1 hw]
  simp only [le_pred (show sV S < 1000000 by omega)]
  rcases h with h | h
  · simp (disch := omega) only [n32_ltE, n32_leE, n32_eqE, n32_eqm, m1_eqn, n32_ge0, n32_lt0, n32_nat, n32_succ, n32_add, xin_n32, xin_b1, xin_b2, cond_true, cond_false, if_true, if_false, xcI_some, xcV_some, xcJ_some, xcR_some, xu_ee, xu_rne, xu_kne, ite_self, not_true_eq_false, not_false_eq_true, ne_eq, true_and, and_true, false_and, and_false, m1_lt0, m1_eq0, eq_self, Bool.false_eq_true, reduceCtorEq, z_lt0, i1_eq0, i0_eq1, i1_eq1, xrZ0, xrZ1, xrZt, n32_eq0, n32_eq1, n32_gt0, n32_gt1, n32_lt1, n32_le1, n32_0le, tf0, tf1, xaI_of, ekX12_isVoter_0_8, bX12_isVoter_0, h]
  · simp (disch := omega) only [n32_ltE, n32_leE, n32_eqE, n32_eqm, m1_eqn, n32_ge0, n32_lt0, n32_nat, n32_succ, n32_add, xin_n32, xin_b1, xin_b2, cond_true, cond_false, if_true, if_false, xcI_some, xcV_some, xcJ_some, xcR_some, xu_ee, xu_rne, xu_kne, ite_self, not_true_eq_false, not_false_eq_true, ne_eq, true_and, and_true, false_and, and_false, m1_lt0, m1_eq0, eq_self, Bool.false_eq_true, reduceCtorEq, z_lt0, i1_eq0, i0_eq1, i1_eq1, xrZ0, xrZ1, xrZt, n32_eq0, n32_eq1, n32_gt0, n32_gt1, n32_lt1, n32_le1, n32_0le, tf0, tf1, xaI_of, ekX12_isVoter_0_8, bX12_isVoter_0, h]
theorem r_on (hS : I 211 = S) (hw : wfT S) (hb : b < sB S) : xcall xprog (d + 1) 201 [.ref 209, .int (n32 b)] (xst e L I J) = some (some (.int (onS S b)), xst e L I J) := by
  have h20 := wf_B hw
  refine (aX12_on _ e L I J _).trans ((bX12_on_0 _ e L I J _).trans ?_)
  obtain ⟨r, h1, h2⟩ := xfor (fun i r => xlim (xcall xprog d) mX12_on 1 [.ref 209, .int (n32 b), .int r, .int (n32 i)] [] (xst e L I J)) (fun i r => r = bs (fun x => decide (0 < x) && decide (par S x = b)) i) (n := sB S) (fun i r hi hr => by
    refine ⟨bs (fun x => decide (0 < x) && decide (par S x = b)) (i + 1), ?_, rfl⟩
    refine (bX12_on_1 _ e L I J _ _ _).trans ?_
    subst hr
    show _ = xlim _ _ 1 [_, _, .int (bif _ then _ else _), _] _ _
    by_cases h0 : i = 0
    · subst h0
      have p0 : S (12 + 0) = -1 := wf_p0 hw hi
      simp (disch := omega) only [n32_ltE, n32_leE, n32_eqE, n32_eqm, m1_eqn, n32_ge0, n32_lt0, n32_nat, n32_succ, n32_add, xin_n32, xin_b1, xin_b2, cond_true, cond_false, if_true, if_false, xcI_some, xcV_some, xcJ_some, xcR_some, xu_ee, xu_rne, xu_kne, ite_self, not_true_eq_false, not_false_eq_true, ne_eq, true_and, and_true, false_and, and_false, m1_lt0, m1_eq0, eq_self, Bool.false_eq_true, reduceCtorEq, z_lt0, i1_eq0, i0_eq1, i1_eq1, xrZ0, xrZ1, xrZt, n32_eq0, n32_eq1, n32_gt0, n32_gt1, n32_lt1, n32_le1, n32_0le, tf0, tf1, xaI_of, q12a, q12b, q12m, q12l, q12g, q12r, q12s, q12e, bX12_on_0, bX12_on_2, bX12_on_3, hS, wf_2 hw, hi, p0]
      simp
    · obtain ⟨p1, p2⟩ := wf_p hw (show 0 < i by omega) hi
      by_cases q : par S i = b
      · simp (disch := omega) only [n32_ltE, n32_leE, n32_eqE, n32_eqm, m1_eqn, n32_ge0, n32_lt0, n32_nat, n32_succ, n32_add, xin_n32, xin_b1, xin_b2, cond_true, cond_false, if_true, if_false, xcI_some, xcV_some, xcJ_some, xcR_some, xu_ee, xu_rne, xu_kne, ite_self, not_true_eq_false, not_false_eq_true, ne_eq, true_and, and_true, false_and, and_false, m1_lt0, m1_eq0, eq_self, Bool.false_eq_true, reduceCtorEq, z_lt0, i1_eq0, i0_eq1, i1_eq1, xrZ0, xrZ1, xrZt, n32_eq0, n32_eq1, n32_gt0, n32_gt1, n32_lt1, n32_le1, n32_0le, tf0, tf1, xaI_of, q12a, q12b, q12m, q12l, q12g, q12r, q12s, q12e, bX12_on_0, bX12_on_2, bX12_on_3, hS, wf_2 hw, hi, p1, q]
        simp [show 0 < i by omega]
      · simp (disch := omega) only [n32_ltE, n32_leE, n32_eqE, n32_eqm, m1_eqn, n32_ge0, n32_lt0, n32_nat, n32_succ, n32_add, xin_n32, xin_b1, xin_b2, cond_true, cond_false, if_true, if_false, xcI_some, xcV_some, xcJ_some, xcR_some, xu_ee, xu_rne, xu_kne, ite_self, not_true_eq_false, not_false_eq_true, ne_eq, true_and, and_true, false_and, and_false, m1_lt0, m1_eq0, eq_self, Bool.false_eq_true, reduceCtorEq, z_lt0, i1_eq0, i0_eq1, i1_eq1, xrZ0, xrZ1, xrZt, n32_eq0, n32_eq1, n32_gt0, n32_gt1, n32_lt1, n32_le1, n32_0le, tf0, tf1, xaI_of, q12a, q12b, q12m, q12l, q12g, q12r, q12s, q12e, bX12_on_0, bX12_on_2, bX12_on_3, hS, wf_2 hw, hi, p1, q]
        simp) 0 rfl
  refine h1.trans ?_
  subst h2
  refine (bX12_on_1 _ e L I J _ _ _).trans ?_
  simp (disch := omega) only [n32_ltE, n32_leE, n32_eqE, n32_eqm, m1_eqn, n32_ge0, n32_lt0, n32_nat, n32_succ, n32_add, xin_n32, xin_b1, xin_b2, cond_true, cond_false, if_true, if_false, xcI_some, xcV_some, xcJ_some, xcR_some, xu_ee, xu_rne, xu_kne, ite_self, not_true_eq_false, not_false_eq_true, ne_eq, true_and, and_true, false_and, and_false, m1_lt0, m1_eq0, eq_self, Bool.false_eq_true, reduceCtorEq, z_lt0, i1_eq0, i0_eq1, i1_eq1, xrZ0, xrZ1, xrZt, n32_eq0, n32_eq1, n32_gt0, n32_gt1, n32_lt1, n32_le1, n32_0le, tf0, tf1, xaI_of, q12a, q12b, q12m, q12l, q12g, q12r, q12s, q12e, bX12_on_0, bX12_on_2, bX12_on_3, hS, wf_2 hw, Nat.lt_irrefl]
  rfl
theorem r_throws_t : xcall xprog (d + 1) 156 [.ref 209, .int 1] (xst e L I J) = some (some (.int 1), xst e L (xu I 209 0 1) J) := by
  rw [aX12_throwsIf, bX12_throwsIf_0]
  simp (disch := omega) only [n32_ltE, n32_leE, n32_eqE, n32_eqm, m1_eqn, n32_ge0, n32_lt0, n32_nat, n32_succ, n32_add, xin_n32, xin_b1, xin_b2, cond_true, cond_false, if_true, if_false, xcI_some, xcV_some, xcJ_some, xcR_some, xu_ee, xu_rne, xu_kne, ite_self, not_true_eq_false, not_false_eq_true, ne_eq, true_and, and_true, false_and, and_false, m1_lt0, m1_eq0, eq_self, Bool.false_eq_true, reduceCtorEq, z_lt0, i1_eq0, i0_eq1, i1_eq1, xrZ0, xrZ1, xrZt, n32_eq0, n32_eq1, n32_gt0, n32_gt1, n32_lt1, n32_le1, n32_0le, tf0, tf1, xaI_of, bX12_throwsIf_0, bX12_throwsIf_1, bX12_throwsIf_2]
theorem r_throws_f : xcall xprog (d + 1) 156 [.ref 209, .int 0] (xst e L I J) = some (some (.int 0), xst e L (xu I 209 0 0) J) := by
  rw [aX12_throwsIf, bX12_throwsIf_0]
  simp (disch := omega) only [n32_ltE, n32_leE, n32_eqE, n32_eqm, m1_eqn, n32_ge0, n32_lt0, n32_nat, n32_succ, n32_add, xin_n32, xin_b1, xin_b2, cond_true, cond_false, if_true, if_false, xcI_some, xcV_some, xcJ_some, xcR_some, xu_ee, xu_rne, xu_kne, ite_self, not_true_eq_false, not_false_eq_true, ne_eq, true_and, and_true, false_and, and_false, m1_lt0, m1_eq0, eq_self, Bool.false_eq_true, reduceCtorEq, z_lt0, i1_eq0, i0_eq1, i1_eq1, xrZ0, xrZ1, xrZt, n32_eq0, n32_eq1, n32_gt0, n32_gt1, n32_lt1, n32_le1, n32_0le, tf0, tf1, xaI_of, bX12_throwsIf_0, bX12_throwsIf_1, bX12_throwsIf_2]
def blkV (S : TS) (b : Nat) (x : Int32) : Int32 := if x = 0 then S (12 + b) else if x = 1 then n32 (hei S b) else if x = 2 then lvc S b else if x = 3 then onS S b else if x = 4 then S (32 + b) else if x = 5 then (if jst S b = true then 1 else 0) else if x = 6 then (if fin S b = true then 1 else 0) else hft S b
theorem jS_b (hw : wfT S) (hb : b < sB S) : bt (jS S) b = jst S b := by
  have h20 := wf_B hw
  unfold jS
  rw [bt_bs _ (by omega) _ (by omega)]
  simp [hb]
theorem fS_b (hw : wfT S) (hb : b < sB S) : bt (fS S) b = fin S b := by
  have h20 := wf_B hw
  unfold fS
  rw [bt_bs _ (by omega) _ (by omega)]
  simp [hb]
theorem c_block_t (hC : CS S N I J) (hb : b < sB S) {x : Int32} (h0 : ¬ x < 0) (h7 : x ≤ 7) : RR (xcall xprog (d + 7) 116 [.ref 0, .int (n32 b), .int x] (xst e L I J)) (zI e L (oC S N I J (blkV S b x))) := by
  have hw := hC.1.1
  have h20 := wf_B hw
  refine RR_eq ((aX11_block _ e L I J _ _).trans (bX11_block_0 _ e L I J _ _)) ?_
  rw [c_hasBlock_y hC.2.1 hw hb]
  simp (disch := omega) only [n32_ltE, n32_leE, n32_eqE, n32_eqm, m1_eqn, n32_ge0, n32_lt0, n32_nat, n32_succ, n32_add, xin_n32, xin_b1, xin_b2, cond_true, cond_false, if_true, if_false, xcI_some, xcV_some, xcJ_some, xcR_some, xu_ee, xu_rne, xu_kne, ite_self, not_true_eq_false, not_false_eq_true, ne_eq, true_and, and_true, false_and, and_false, m1_lt0, m1_eq0, eq_self, Bool.false_eq_true, reduceCtorEq, z_lt0, i1_eq0, i0_eq1, i1_eq1, xrZ0, xrZ1, xrZt, n32_eq0, n32_eq1, n32_gt0, n32_gt1, n32_lt1, n32_le1, n32_0le, tf0, tf1, xaI_of, ekX11_block_0_3, h0, h7]
  refine RR_eq (bX11_block_2 _ e L I J _ _) ?_
  refine RR_cV (c_fresh (d := d) hC) (fun K J' ⟨j1, f1, hF, hC2⟩ => ?_)
  subst j1
  rw [ekX11_block_2_2]
  have hT := hC2.2.1
  have fi0 : ∀ V, V = blkV S b x → RR (some (some (.int V), xst e L K J')) (zI e L (oC S N I J' (blkV S b x))) := fun V hV => RR_I ⟨hV, rfl, f1, hC2⟩
  refine RR_if (fun q => ?_) (fun q0 => ?_)
  · simp (disch := omega) only [n32_ltE, n32_leE, n32_eqE, n32_eqm, m1_eqn, n32_ge0, n32_lt0, n32_nat, n32_succ, n32_add, xin_n32, xin_b1, xin_b2, cond_true, cond_false, if_true, if_false, xcI_some, xcV_some, xcJ_some, xcR_some, xu_ee, xu_rne, xu_kne, ite_self, not_true_eq_false, not_false_eq_true, ne_eq, true_and, and_true, false_and, and_false, m1_lt0, m1_eq0, eq_self, Bool.false_eq_true, reduceCtorEq, z_lt0, i1_eq0, i0_eq1, i1_eq1, xrZ0, xrZ1, xrZt, n32_eq0, n32_eq1, n32_gt0, n32_gt1, n32_lt1, n32_le1, n32_0le, tf0, tf1, xaI_of, q2a, q2b, q2m, q2l, q2g, q2r, q2s, q2e, q3a, q3b, q3m, q3l, q3g, q3r, q3s, q3e, q4a, q4b, q4m, q4l, q4g, q4r, q4s, q4e, q5a, q5b, q5m, q5l, q5g, q5r, q5s, q5e, q6a, q6b, q6m, q6l, q6g, q6r, q6s, q6e, q7a, q7b, q7m, q7l, q7g, q7r, q7s, q7e, ekX11_block_0_3, bX11_block_0, bX11_block_1, ekX11_block_2_2, bX11_block_2, bX11_block_3, bX11_block_4, bX11_block_5, ekX11_block_6_3, bX11_block_6, bX11_block_7, bX11_block_8, bX11_block_9, bX11_block_10]
    exact fi0 _ (by rw [t7_on hT hb]; simp [blkV, q])
  refine RR_if (fun q => ?_) (fun q1 => ?_)
  · simp (disch := omega) only [n32_ltE, n32_leE, n32_eqE, n32_eqm, m1_eqn, n32_ge0, n32_lt0, n32_nat, n32_succ, n32_add, xin_n32, xin_b1, xin_b2, cond_true, cond_false, if_true, if_false, xcI_some, xcV_some, xcJ_some, xcR_some, xu_ee, xu_rne, xu_kne, ite_self, not_true_eq_false, not_false_eq_true, ne_eq, true_and, and_true, false_and, and_false, m1_lt0, m1_eq0, eq_self, Bool.false_eq_true, reduceCtorEq, z_lt0, i1_eq0, i0_eq1, i1_eq1, xrZ0, xrZ1, xrZt, n32_eq0, n32_eq1, n32_gt0, n32_gt1, n32_lt1, n32_le1, n32_0le, tf0, tf1, xaI_of, q2a, q2b, q2m, q2l, q2g, q2r, q2s, q2e, q3a, q3b, q3m, q3l, q3g, q3r, q3s, q3e, q4a, q4b, q4m, q4l, q4g, q4r, q4s, q4e, q5a, q5b, q5m, q5l, q5g, q5r, q5s, q5e, q6a, q6b, q6m, q6l, q6g, q6r, q6s, q6e, q7a, q7b, q7m, q7l, q7g, q7r, q7s, q7e, ekX11_block_0_3, bX11_block_0, bX11_block_1, ekX11_block_2_2, bX11_block_2, bX11_block_3, bX11_block_4, bX11_block_5, ekX11_block_6_3, bX11_block_6, bX11_block_7, bX11_block_8, bX11_block_9, bX11_block_10]
    exact fi0 _ (by rw [t7_hi hT hb]; simp [blkV, q])
  refine RR_if (fun q => ?_) (fun q2 => ?_)
  · simp (disch := omega) only [n32_ltE, n32_leE, n32_eqE, n32_eqm, m1_eqn, n32_ge0, n32_lt0, n32_nat, n32_succ, n32_add, xin_n32, xin_b1, xin_b2, cond_true, cond_false, if_true, if_false, xcI_some, xcV_some, xcJ_some, xcR_some, xu_ee, xu_rne, xu_kne, ite_self, not_true_eq_false, not_false_eq_true, ne_eq, true_and, and_true, false_and, and_false, m1_lt0, m1_eq0, eq_self, Bool.false_eq_true, reduceCtorEq, z_lt0, i1_eq0, i0_eq1, i1_eq1, xrZ0, xrZ1, xrZt, n32_eq0, n32_eq1, n32_gt0, n32_gt1, n32_lt1, n32_le1, n32_0le, tf0, tf1, xaI_of, q2a, q2b, q2m, q2l, q2g, q2r, q2s, q2e, q3a, q3b, q3m, q3l, q3g, q3r, q3s, q3e, q4a, q4b, q4m, q4l, q4g, q4r, q4s, q4e, q5a, q5b, q5m, q5l, q5g, q5r, q5s, q5e, q6a, q6b, q6m, q6l, q6g, q6r, q6s, q6e, q7a, q7b, q7m, q7l, q7g, q7r, q7s, q7e, ekX11_block_0_3, bX11_block_0, bX11_block_1, ekX11_block_2_2, bX11_block_2, bX11_block_3, bX11_block_4, bX11_block_5, ekX11_block_6_3, bX11_block_6, bX11_block_7, bX11_block_8, bX11_block_9, bX11_block_10]
    exact fi0 _ (by rw [t7_lv hT hb]; simp [blkV, q])
  refine RR_if (fun q => ?_) (fun q3 => ?_)
  · simp (disch := omega) only [n32_ltE, n32_leE, n32_eqE, n32_eqm, m1_eqn, n32_ge0, n32_lt0, n32_nat, n32_succ, n32_add, xin_n32, xin_b1, xin_b2, cond_true, cond_false, if_true, if_false, xcI_some, xcV_some, xcJ_some, xcR_some, xu_ee, xu_rne, xu_kne, ite_self, not_true_eq_false, not_false_eq_true, ne_eq, true_and, and_true, false_and, and_false, m1_lt0, m1_eq0, eq_self, Bool.false_eq_true, reduceCtorEq, z_lt0, i1_eq0, i0_eq1, i1_eq1, xrZ0, xrZ1, xrZt, n32_eq0, n32_eq1, n32_gt0, n32_gt1, n32_lt1, n32_le1, n32_0le, tf0, tf1, xaI_of, q2a, q2b, q2m, q2l, q2g, q2r, q2s, q2e, q3a, q3b, q3m, q3l, q3g, q3r, q3s, q3e, q4a, q4b, q4m, q4l, q4g, q4r, q4s, q4e, q5a, q5b, q5m, q5l, q5g, q5r, q5s, q5e, q6a, q6b, q6m, q6l, q6g, q6r, q6s, q6e, q7a, q7b, q7m, q7l, q7g, q7r, q7s, q7e, ekX11_block_0_3, bX11_block_0, bX11_block_1, ekX11_block_2_2, bX11_block_2, bX11_block_3, bX11_block_4, bX11_block_5, ekX11_block_6_3, bX11_block_6, bX11_block_7, bX11_block_8, bX11_block_9, bX11_block_10, c_blocksOn hT hw hb]
    exact fi0 _ (by rw [onS_c hw]; simp [blkV, q])
  refine RR_if (fun q => ?_) (fun q4 => ?_)
  · simp (disch := omega) only [n32_ltE, n32_leE, n32_eqE, n32_eqm, m1_eqn, n32_ge0, n32_lt0, n32_nat, n32_succ, n32_add, xin_n32, xin_b1, xin_b2, cond_true, cond_false, if_true, if_false, xcI_some, xcV_some, xcJ_some, xcR_some, xu_ee, xu_rne, xu_kne, ite_self, not_true_eq_false, not_false_eq_true, ne_eq, true_and, and_true, false_and, and_false, m1_lt0, m1_eq0, eq_self, Bool.false_eq_true, reduceCtorEq, z_lt0, i1_eq0, i0_eq1, i1_eq1, xrZ0, xrZ1, xrZt, n32_eq0, n32_eq1, n32_gt0, n32_gt1, n32_lt1, n32_le1, n32_0le, tf0, tf1, xaI_of, q2a, q2b, q2m, q2l, q2g, q2r, q2s, q2e, q3a, q3b, q3m, q3l, q3g, q3r, q3s, q3e, q4a, q4b, q4m, q4l, q4g, q4r, q4s, q4e, q5a, q5b, q5m, q5l, q5g, q5r, q5s, q5e, q6a, q6b, q6m, q6l, q6g, q6r, q6s, q6e, q7a, q7b, q7m, q7l, q7g, q7r, q7s, q7e, ekX11_block_0_3, bX11_block_0, bX11_block_1, ekX11_block_2_2, bX11_block_2, bX11_block_3, bX11_block_4, bX11_block_5, ekX11_block_6_3, bX11_block_6, bX11_block_7, bX11_block_8, bX11_block_9, bX11_block_10]
    exact fi0 _ (by rw [t7_who hT hb]; simp [blkV, q])
  refine RR_if (fun q => ?_) (fun q5 => ?_)
  · simp (disch := omega) only [n32_ltE, n32_leE, n32_eqE, n32_eqm, m1_eqn, n32_ge0, n32_lt0, n32_nat, n32_succ, n32_add, xin_n32, xin_b1, xin_b2, cond_true, cond_false, if_true, if_false, xcI_some, xcV_some, xcJ_some, xcR_some, xu_ee, xu_rne, xu_kne, ite_self, not_true_eq_false, not_false_eq_true, ne_eq, true_and, and_true, false_and, and_false, m1_lt0, m1_eq0, eq_self, Bool.false_eq_true, reduceCtorEq, z_lt0, i1_eq0, i0_eq1, i1_eq1, xrZ0, xrZ1, xrZt, n32_eq0, n32_eq1, n32_gt0, n32_gt1, n32_lt1, n32_le1, n32_0le, tf0, tf1, xaI_of, q2a, q2b, q2m, q2l, q2g, q2r, q2s, q2e, q3a, q3b, q3m, q3l, q3g, q3r, q3s, q3e, q4a, q4b, q4m, q4l, q4g, q4r, q4s, q4e, q5a, q5b, q5m, q5l, q5g, q5r, q5s, q5e, q6a, q6b, q6m, q6l, q6g, q6r, q6s, q6e, q7a, q7b, q7m, q7l, q7g, q7r, q7s, q7e, ekX11_block_0_3, bX11_block_0, bX11_block_1, ekX11_block_2_2, bX11_block_2, bX11_block_3, bX11_block_4, bX11_block_5, ekX11_block_6_3, bX11_block_6, bX11_block_7, bX11_block_8, bX11_block_9, bX11_block_10, hF.1, bt_test, jS_b hw hb]
    exact fi0 _ (by simp [blkV, q])
  refine RR_if (fun q => ?_) (fun q6 => ?_)
  · simp (disch := omega) only [n32_ltE, n32_leE, n32_eqE, n32_eqm, m1_eqn, n32_ge0, n32_lt0, n32_nat, n32_succ, n32_add, xin_n32, xin_b1, xin_b2, cond_true, cond_false, if_true, if_false, xcI_some, xcV_some, xcJ_some, xcR_some, xu_ee, xu_rne, xu_kne, ite_self, not_true_eq_false, not_false_eq_true, ne_eq, true_and, and_true, false_and, and_false, m1_lt0, m1_eq0, eq_self, Bool.false_eq_true, reduceCtorEq, z_lt0, i1_eq0, i0_eq1, i1_eq1, xrZ0, xrZ1, xrZt, n32_eq0, n32_eq1, n32_gt0, n32_gt1, n32_lt1, n32_le1, n32_0le, tf0, tf1, xaI_of, q2a, q2b, q2m, q2l, q2g, q2r, q2s, q2e, q3a, q3b, q3m, q3l, q3g, q3r, q3s, q3e, q4a, q4b, q4m, q4l, q4g, q4r, q4s, q4e, q5a, q5b, q5m, q5l, q5g, q5r, q5s, q5e, q6a, q6b, q6m, q6l, q6g, q6r, q6s, q6e, q7a, q7b, q7m, q7l, q7g, q7r, q7s, q7e, ekX11_block_0_3, bX11_block_0, bX11_block_1, ekX11_block_2_2, bX11_block_2, bX11_block_3, bX11_block_4, bX11_block_5, ekX11_block_6_3, bX11_block_6, bX11_block_7, bX11_block_8, bX11_block_9, bX11_block_10, hF.2.1, bt_test, fS_b hw hb]
    exact fi0 _ (by simp [blkV, q])
  · simp (disch := omega) only [n32_ltE, n32_leE, n32_eqE, n32_eqm, m1_eqn, n32_ge0, n32_lt0, n32_nat, n32_succ, n32_add, xin_n32, xin_b1, xin_b2, cond_true, cond_false, if_true, if_false, xcI_some, xcV_some, xcJ_some, xcR_some, xu_ee, xu_rne, xu_kne, ite_self, not_true_eq_false, not_false_eq_true, ne_eq, true_and, and_true, false_and, and_false, m1_lt0, m1_eq0, eq_self, Bool.false_eq_true, reduceCtorEq, z_lt0, i1_eq0, i0_eq1, i1_eq1, xrZ0, xrZ1, xrZt, n32_eq0, n32_eq1, n32_gt0, n32_gt1, n32_lt1, n32_le1, n32_0le, tf0, tf1, xaI_of, q2a, q2b, q2m, q2l, q2g, q2r, q2s, q2e, q3a, q3b, q3m, q3l, q3g, q3r, q3s, q3e, q4a, q4b, q4m, q4l, q4g, q4r, q4s, q4e, q5a, q5b, q5m, q5l, q5g, q5r, q5s, q5e, q6a, q6b, q6m, q6l, q6g, q6r, q6s, q6e, q7a, q7b, q7m, q7l, q7g, q7r, q7s, q7e, ekX11_block_0_3, bX11_block_0, bX11_block_1, ekX11_block_2_2, bX11_block_2, bX11_block_3, bX11_block_4, bX11_block_5, ekX11_block_6_3, bX11_block_6, bX11_block_7, bX11_block_8, bX11_block_9, bX11_block_10]
    exact fi0 _ (by rw [hF.2.2.2.2.2.2.2.2.1 b hb]; simp [blkV, q0, q1, q2, q3, q4, q5, q6])
theorem c_block_f (hC : CS S N I J) {y x : Int32} (h : (y < 0 ∨ ¬ y < n32 (sB S)) ∨ x < 0 ∨ ¬ x ≤ 7) : xcall xprog (d + 7) 116 [.ref 0, .int y, .int x] (xst e L I J) = some (some xT, xst (e + 1) L I J) := by
  have hw := hC.1.1
  have h20 := wf_B hw
  refine (aX11_block _ e L I J _ _).trans ((bX11_block_0 _ e L I J _ _).trans ?_)
  rcases inr_or y (sB S) (by omega) with ⟨b, hb, rfl⟩ | h'
  · rw [c_hasBlock_y hC.2.1 hw hb]
    have h : x < 0 ∨ ¬ x ≤ 7 := by
      rcases h with h | h
      · rcases h with h | h
        · exact absurd h (n32_neg (by omega))
        · exact absurd ((n32_lt (by omega) (by omega)).mpr hb) h
      · exact h
    rcases h with h | h
    · simp (disch := omega) only [n32_ltE, n32_leE, n32_eqE, n32_eqm, m1_eqn, n32_ge0, n32_lt0, n32_nat, n32_succ, n32_add, xin_n32, xin_b1, xin_b2, cond_true, cond_false, if_true, if_false, xcI_some, xcV_some, xcJ_some, xcR_some, xu_ee, xu_rne, xu_kne, ite_self, not_true_eq_false, not_false_eq_true, ne_eq, true_and, and_true, false_and, and_false, m1_lt0, m1_eq0, eq_self, Bool.false_eq_true, reduceCtorEq, z_lt0, i1_eq0, i0_eq1, i1_eq1, xrZ0, xrZ1, xrZt, n32_eq0, n32_eq1, n32_gt0, n32_gt1, n32_lt1, n32_le1, n32_0le, tf0, tf1, xaI_of, ekX11_block_0_3, h, bX11_block_1]
    · simp (disch := omega) only [n32_ltE, n32_leE, n32_eqE, n32_eqm, m1_eqn, n32_ge0, n32_lt0, n32_nat, n32_succ, n32_add, xin_n32, xin_b1, xin_b2, cond_true, cond_false, if_true, if_false, xcI_some, xcV_some, xcJ_some, xcR_some, xu_ee, xu_rne, xu_kne, ite_self, not_true_eq_false, not_false_eq_true, ne_eq, true_and, and_true, false_and, and_false, m1_lt0, m1_eq0, eq_self, Bool.false_eq_true, reduceCtorEq, z_lt0, i1_eq0, i0_eq1, i1_eq1, xrZ0, xrZ1, xrZt, n32_eq0, n32_eq1, n32_gt0, n32_gt1, n32_lt1, n32_le1, n32_0le, tf0, tf1, xaI_of, ekX11_block_0_3, h, bX11_block_1]
  · rw [c_hasBlock_n hC.2.1 hw h']
    simp (disch := omega) only [n32_ltE, n32_leE, n32_eqE, n32_eqm, m1_eqn, n32_ge0, n32_lt0, n32_nat, n32_succ, n32_add, xin_n32, xin_b1, xin_b2, cond_true, cond_false, if_true, if_false, xcI_some, xcV_some, xcJ_some, xcR_some, xu_ee, xu_rne, xu_kne, ite_self, not_true_eq_false, not_false_eq_true, ne_eq, true_and, and_true, false_and, and_false, m1_lt0, m1_eq0, eq_self, Bool.false_eq_true, reduceCtorEq, z_lt0, i1_eq0, i0_eq1, i1_eq1, xrZ0, xrZ1, xrZt, n32_eq0, n32_eq1, n32_gt0, n32_gt1, n32_lt1, n32_le1, n32_0le, tf0, tf1, xaI_of, ekX11_block_0_3, bX11_block_1]
theorem r_block_t (hC : RS S I) (hb : b < sB S) {x : Int32} (h0 : ¬ x < 0) (h7 : x ≤ 7) : RR (xcall xprog (d + 8) 203 [.ref 209, .int (n32 b), .int x] (xst e L I J)) (zI e L fun y K J' => oR S I J (blkV S b x) y K J' ∧ K 209 0 = 0) := by
  have hw := hC.1.1
  have hS := hC.2.1
  have h20 := wf_B hw
  refine RR_eq ((aX12_block _ e L I J _ _).trans (bX12_block_0 _ e L I J _ _)) ?_
  rw [r_isBlock_y hS hw hb]
  simp (disch := omega) only [n32_ltE, n32_leE, n32_eqE, n32_eqm, m1_eqn, n32_ge0, n32_lt0, n32_nat, n32_succ, n32_add, xin_n32, xin_b1, xin_b2, cond_true, cond_false, if_true, if_false, xcI_some, xcV_some, xcJ_some, xcR_some, xu_ee, xu_rne, xu_kne, ite_self, not_true_eq_false, not_false_eq_true, ne_eq, true_and, and_true, false_and, and_false, m1_lt0, m1_eq0, eq_self, Bool.false_eq_true, reduceCtorEq, z_lt0, i1_eq0, i0_eq1, i1_eq1, xrZ0, xrZ1, xrZt, n32_eq0, n32_eq1, n32_gt0, n32_gt1, n32_lt1, n32_le1, n32_0le, tf0, tf1, xaI_of, ekX12_block_0_3, sX12_isIn, h0, h7, ekX12_block_0_8, bX12_block_2, bX12_block_3, r_throws_f, ekX12_block_3_0]
  refine RR_eq (bX12_block_4 _ e L _ J _ _) ?_
  refine RR_cV (r_lays (d := d) (RS_0 (x := 0) hC)) (fun K J' ⟨j1, f1, hF, hC2⟩ => ?_)
  subst j1
  rw [ekX12_block_4_1]
  have hS2 := hC2.2.1
  have hR2 := hF.1
  have z0 : K 209 0 = 0 := by rw [f1 209 0 (by decide) (Or.inr (by decide)), xu_ee]
  have fr := rfr_t (lfr_rfr f1) (rfr_0 (I := I) (x := 0))
  have fi0 : ∀ V, V = blkV S b x → RR (some (some (.int V), xst e L K J')) (zI e L fun y K J'' => oR S I J' (blkV S b x) y K J'' ∧ K 209 0 = 0) := fun V hV => RR_I ⟨⟨hV, rfl, fr, hC2⟩, z0⟩
  refine RR_if (fun q => ?_) (fun q0 => ?_)
  · simp (disch := omega) only [n32_ltE, n32_leE, n32_eqE, n32_eqm, m1_eqn, n32_ge0, n32_lt0, n32_nat, n32_succ, n32_add, xin_n32, xin_b1, xin_b2, cond_true, cond_false, if_true, if_false, xcI_some, xcV_some, xcJ_some, xcR_some, xu_ee, xu_rne, xu_kne, ite_self, not_true_eq_false, not_false_eq_true, ne_eq, true_and, and_true, false_and, and_false, m1_lt0, m1_eq0, eq_self, Bool.false_eq_true, reduceCtorEq, z_lt0, i1_eq0, i0_eq1, i1_eq1, xrZ0, xrZ1, xrZt, n32_eq0, n32_eq1, n32_gt0, n32_gt1, n32_lt1, n32_le1, n32_0le, tf0, tf1, xaI_of, q2a, q2b, q2m, q2l, q2g, q2r, q2s, q2e, q3a, q3b, q3m, q3l, q3g, q3r, q3s, q3e, q4a, q4b, q4m, q4l, q4g, q4r, q4s, q4e, q5a, q5b, q5m, q5l, q5g, q5r, q5s, q5e, q6a, q6b, q6m, q6l, q6g, q6r, q6s, q6e, q12a, q12b, q12m, q12l, q12g, q12r, q12s, q12e, q32a, q32b, q32m, q32l, q32g, q32r, q32s, q32e, ekX12_block_0_8, ekX12_block_0_3, bX12_block_0, bX12_block_1, bX12_block_2, ekX12_block_3_0, bX12_block_3, ekX12_block_4_1, bX12_block_4, bX12_block_5, bX12_block_6, ekX12_block_7_6, ekX12_block_7_2, bX12_block_7, bX12_block_8, bX12_block_9, ekX12_block_10_2, bX12_block_10, bX12_block_11, ekX12_block_12_4, ekX12_block_12_3, bX12_block_12, ekX12_block_13_4, ekX12_block_13_3, bX12_block_13, bX12_block_14, hS2]
    exact fi0 _ (by simp [blkV, q])
  refine RR_if (fun q => ?_) (fun q1 => ?_)
  · simp (disch := omega) only [n32_ltE, n32_leE, n32_eqE, n32_eqm, m1_eqn, n32_ge0, n32_lt0, n32_nat, n32_succ, n32_add, xin_n32, xin_b1, xin_b2, cond_true, cond_false, if_true, if_false, xcI_some, xcV_some, xcJ_some, xcR_some, xu_ee, xu_rne, xu_kne, ite_self, not_true_eq_false, not_false_eq_true, ne_eq, true_and, and_true, false_and, and_false, m1_lt0, m1_eq0, eq_self, Bool.false_eq_true, reduceCtorEq, z_lt0, i1_eq0, i0_eq1, i1_eq1, xrZ0, xrZ1, xrZt, n32_eq0, n32_eq1, n32_gt0, n32_gt1, n32_lt1, n32_le1, n32_0le, tf0, tf1, xaI_of, q2a, q2b, q2m, q2l, q2g, q2r, q2s, q2e, q3a, q3b, q3m, q3l, q3g, q3r, q3s, q3e, q4a, q4b, q4m, q4l, q4g, q4r, q4s, q4e, q5a, q5b, q5m, q5l, q5g, q5r, q5s, q5e, q6a, q6b, q6m, q6l, q6g, q6r, q6s, q6e, q12a, q12b, q12m, q12l, q12g, q12r, q12s, q12e, q32a, q32b, q32m, q32l, q32g, q32r, q32s, q32e, ekX12_block_0_8, ekX12_block_0_3, bX12_block_0, bX12_block_1, bX12_block_2, ekX12_block_3_0, bX12_block_3, ekX12_block_4_1, bX12_block_4, bX12_block_5, bX12_block_6, ekX12_block_7_6, ekX12_block_7_2, bX12_block_7, bX12_block_8, bX12_block_9, ekX12_block_10_2, bX12_block_10, bX12_block_11, ekX12_block_12_4, ekX12_block_12_3, bX12_block_12, ekX12_block_13_4, ekX12_block_13_3, bX12_block_13, bX12_block_14]
    exact fi0 _ (by rw [(hR2 b hb).1]; simp [blkV, q])
  refine RR_if (fun q => ?_) (fun q2 => ?_)
  · simp (disch := omega) only [n32_ltE, n32_leE, n32_eqE, n32_eqm, m1_eqn, n32_ge0, n32_lt0, n32_nat, n32_succ, n32_add, xin_n32, xin_b1, xin_b2, cond_true, cond_false, if_true, if_false, xcI_some, xcV_some, xcJ_some, xcR_some, xu_ee, xu_rne, xu_kne, ite_self, not_true_eq_false, not_false_eq_true, ne_eq, true_and, and_true, false_and, and_false, m1_lt0, m1_eq0, eq_self, Bool.false_eq_true, reduceCtorEq, z_lt0, i1_eq0, i0_eq1, i1_eq1, xrZ0, xrZ1, xrZt, n32_eq0, n32_eq1, n32_gt0, n32_gt1, n32_lt1, n32_le1, n32_0le, tf0, tf1, xaI_of, q2a, q2b, q2m, q2l, q2g, q2r, q2s, q2e, q3a, q3b, q3m, q3l, q3g, q3r, q3s, q3e, q4a, q4b, q4m, q4l, q4g, q4r, q4s, q4e, q5a, q5b, q5m, q5l, q5g, q5r, q5s, q5e, q6a, q6b, q6m, q6l, q6g, q6r, q6s, q6e, q12a, q12b, q12m, q12l, q12g, q12r, q12s, q12e, q32a, q32b, q32m, q32l, q32g, q32r, q32s, q32e, ekX12_block_0_8, ekX12_block_0_3, bX12_block_0, bX12_block_1, bX12_block_2, ekX12_block_3_0, bX12_block_3, ekX12_block_4_1, bX12_block_4, bX12_block_5, bX12_block_6, ekX12_block_7_6, ekX12_block_7_2, bX12_block_7, bX12_block_8, bX12_block_9, ekX12_block_10_2, bX12_block_10, bX12_block_11, ekX12_block_12_4, ekX12_block_12_3, bX12_block_12, ekX12_block_13_4, ekX12_block_13_3, bX12_block_13, bX12_block_14, r_isPoint hS2 hw hR2 hb, r_level hS2 hw hR2 hb]
    by_cases z : pt S b = true
    · simp only [z, not_true_eq_false, if_false]
      exact fi0 _ (by simp [blkV, q, lvc, z])
    · simp only [z, not_false_eq_true, if_true, Bool.false_eq_true]
      exact fi0 _ (by simp [blkV, q, lvc, z])
  refine RR_if (fun q => ?_) (fun q3 => ?_)
  · simp (disch := omega) only [n32_ltE, n32_leE, n32_eqE, n32_eqm, m1_eqn, n32_ge0, n32_lt0, n32_nat, n32_succ, n32_add, xin_n32, xin_b1, xin_b2, cond_true, cond_false, if_true, if_false, xcI_some, xcV_some, xcJ_some, xcR_some, xu_ee, xu_rne, xu_kne, ite_self, not_true_eq_false, not_false_eq_true, ne_eq, true_and, and_true, false_and, and_false, m1_lt0, m1_eq0, eq_self, Bool.false_eq_true, reduceCtorEq, z_lt0, i1_eq0, i0_eq1, i1_eq1, xrZ0, xrZ1, xrZt, n32_eq0, n32_eq1, n32_gt0, n32_gt1, n32_lt1, n32_le1, n32_0le, tf0, tf1, xaI_of, q2a, q2b, q2m, q2l, q2g, q2r, q2s, q2e, q3a, q3b, q3m, q3l, q3g, q3r, q3s, q3e, q4a, q4b, q4m, q4l, q4g, q4r, q4s, q4e, q5a, q5b, q5m, q5l, q5g, q5r, q5s, q5e, q6a, q6b, q6m, q6l, q6g, q6r, q6s, q6e, q12a, q12b, q12m, q12l, q12g, q12r, q12s, q12e, q32a, q32b, q32m, q32l, q32g, q32r, q32s, q32e, ekX12_block_0_8, ekX12_block_0_3, bX12_block_0, bX12_block_1, bX12_block_2, ekX12_block_3_0, bX12_block_3, ekX12_block_4_1, bX12_block_4, bX12_block_5, bX12_block_6, ekX12_block_7_6, ekX12_block_7_2, bX12_block_7, bX12_block_8, bX12_block_9, ekX12_block_10_2, bX12_block_10, bX12_block_11, ekX12_block_12_4, ekX12_block_12_3, bX12_block_12, ekX12_block_13_4, ekX12_block_13_3, bX12_block_13, bX12_block_14, r_on hS2 hw hb]
    exact fi0 _ (by simp [blkV, q])
  refine RR_if (fun q => ?_) (fun q4 => ?_)
  · simp (disch := omega) only [n32_ltE, n32_leE, n32_eqE, n32_eqm, m1_eqn, n32_ge0, n32_lt0, n32_nat, n32_succ, n32_add, xin_n32, xin_b1, xin_b2, cond_true, cond_false, if_true, if_false, xcI_some, xcV_some, xcJ_some, xcR_some, xu_ee, xu_rne, xu_kne, ite_self, not_true_eq_false, not_false_eq_true, ne_eq, true_and, and_true, false_and, and_false, m1_lt0, m1_eq0, eq_self, Bool.false_eq_true, reduceCtorEq, z_lt0, i1_eq0, i0_eq1, i1_eq1, xrZ0, xrZ1, xrZt, n32_eq0, n32_eq1, n32_gt0, n32_gt1, n32_lt1, n32_le1, n32_0le, tf0, tf1, xaI_of, q2a, q2b, q2m, q2l, q2g, q2r, q2s, q2e, q3a, q3b, q3m, q3l, q3g, q3r, q3s, q3e, q4a, q4b, q4m, q4l, q4g, q4r, q4s, q4e, q5a, q5b, q5m, q5l, q5g, q5r, q5s, q5e, q6a, q6b, q6m, q6l, q6g, q6r, q6s, q6e, q12a, q12b, q12m, q12l, q12g, q12r, q12s, q12e, q32a, q32b, q32m, q32l, q32g, q32r, q32s, q32e, ekX12_block_0_8, ekX12_block_0_3, bX12_block_0, bX12_block_1, bX12_block_2, ekX12_block_3_0, bX12_block_3, ekX12_block_4_1, bX12_block_4, bX12_block_5, bX12_block_6, ekX12_block_7_6, ekX12_block_7_2, bX12_block_7, bX12_block_8, bX12_block_9, ekX12_block_10_2, bX12_block_10, bX12_block_11, ekX12_block_12_4, ekX12_block_12_3, bX12_block_12, ekX12_block_13_4, ekX12_block_13_3, bX12_block_13, bX12_block_14, hS2]
    exact fi0 _ (by simp [blkV, q])
  refine RR_if (fun q => ?_) (fun q5 => ?_)
  · simp (disch := omega) only [n32_ltE, n32_leE, n32_eqE, n32_eqm, m1_eqn, n32_ge0, n32_lt0, n32_nat, n32_succ, n32_add, xin_n32, xin_b1, xin_b2, cond_true, cond_false, if_true, if_false, xcI_some, xcV_some, xcJ_some, xcR_some, xu_ee, xu_rne, xu_kne, ite_self, not_true_eq_false, not_false_eq_true, ne_eq, true_and, and_true, false_and, and_false, m1_lt0, m1_eq0, eq_self, Bool.false_eq_true, reduceCtorEq, z_lt0, i1_eq0, i0_eq1, i1_eq1, xrZ0, xrZ1, xrZt, n32_eq0, n32_eq1, n32_gt0, n32_gt1, n32_lt1, n32_le1, n32_0le, tf0, tf1, xaI_of, q2a, q2b, q2m, q2l, q2g, q2r, q2s, q2e, q3a, q3b, q3m, q3l, q3g, q3r, q3s, q3e, q4a, q4b, q4m, q4l, q4g, q4r, q4s, q4e, q5a, q5b, q5m, q5l, q5g, q5r, q5s, q5e, q6a, q6b, q6m, q6l, q6g, q6r, q6s, q6e, q12a, q12b, q12m, q12l, q12g, q12r, q12s, q12e, q32a, q32b, q32m, q32l, q32g, q32r, q32s, q32e, ekX12_block_0_8, ekX12_block_0_3, bX12_block_0, bX12_block_1, bX12_block_2, ekX12_block_3_0, bX12_block_3, ekX12_block_4_1, bX12_block_4, bX12_block_5, bX12_block_6, ekX12_block_7_6, ekX12_block_7_2, bX12_block_7, bX12_block_8, bX12_block_9, ekX12_block_10_2, bX12_block_10, bX12_block_11, ekX12_block_12_4, ekX12_block_12_3, bX12_block_12, ekX12_block_13_4, ekX12_block_13_3, bX12_block_13, bX12_block_14, hF.2.1, sX12_bitOf, sX12_truth, bt_t1, jS_b hw hb]
    exact fi0 _ (by cases h : jst S b <;> simp [blkV, q, h])
  refine RR_if (fun q => ?_) (fun q6 => ?_)
  · simp (disch := omega) only [n32_ltE, n32_leE, n32_eqE, n32_eqm, m1_eqn, n32_ge0, n32_lt0, n32_nat, n32_succ, n32_add, xin_n32, xin_b1, xin_b2, cond_true, cond_false, if_true, if_false, xcI_some, xcV_some, xcJ_some, xcR_some, xu_ee, xu_rne, xu_kne, ite_self, not_true_eq_false, not_false_eq_true, ne_eq, true_and, and_true, false_and, and_false, m1_lt0, m1_eq0, eq_self, Bool.false_eq_true, reduceCtorEq, z_lt0, i1_eq0, i0_eq1, i1_eq1, xrZ0, xrZ1, xrZt, n32_eq0, n32_eq1, n32_gt0, n32_gt1, n32_lt1, n32_le1, n32_0le, tf0, tf1, xaI_of, q2a, q2b, q2m, q2l, q2g, q2r, q2s, q2e, q3a, q3b, q3m, q3l, q3g, q3r, q3s, q3e, q4a, q4b, q4m, q4l, q4g, q4r, q4s, q4e, q5a, q5b, q5m, q5l, q5g, q5r, q5s, q5e, q6a, q6b, q6m, q6l, q6g, q6r, q6s, q6e, q12a, q12b, q12m, q12l, q12g, q12r, q12s, q12e, q32a, q32b, q32m, q32l, q32g, q32r, q32s, q32e, ekX12_block_0_8, ekX12_block_0_3, bX12_block_0, bX12_block_1, bX12_block_2, ekX12_block_3_0, bX12_block_3, ekX12_block_4_1, bX12_block_4, bX12_block_5, bX12_block_6, ekX12_block_7_6, ekX12_block_7_2, bX12_block_7, bX12_block_8, bX12_block_9, ekX12_block_10_2, bX12_block_10, bX12_block_11, ekX12_block_12_4, ekX12_block_12_3, bX12_block_12, ekX12_block_13_4, ekX12_block_13_3, bX12_block_13, bX12_block_14, hF.2.2.1, sX12_bitOf, sX12_truth, bt_t1, fS_b hw hb]
    exact fi0 _ (by cases h : fin S b <;> simp [blkV, q, h])
  · simp (disch := omega) only [n32_ltE, n32_leE, n32_eqE, n32_eqm, m1_eqn, n32_ge0, n32_lt0, n32_nat, n32_succ, n32_add, xin_n32, xin_b1, xin_b2, cond_true, cond_false, if_true, if_false, xcI_some, xcV_some, xcJ_some, xcR_some, xu_ee, xu_rne, xu_kne, ite_self, not_true_eq_false, not_false_eq_true, ne_eq, true_and, and_true, false_and, and_false, m1_lt0, m1_eq0, eq_self, Bool.false_eq_true, reduceCtorEq, z_lt0, i1_eq0, i0_eq1, i1_eq1, xrZ0, xrZ1, xrZt, n32_eq0, n32_eq1, n32_gt0, n32_gt1, n32_lt1, n32_le1, n32_0le, tf0, tf1, xaI_of, q2a, q2b, q2m, q2l, q2g, q2r, q2s, q2e, q3a, q3b, q3m, q3l, q3g, q3r, q3s, q3e, q4a, q4b, q4m, q4l, q4g, q4r, q4s, q4e, q5a, q5b, q5m, q5l, q5g, q5r, q5s, q5e, q6a, q6b, q6m, q6l, q6g, q6r, q6s, q6e, q12a, q12b, q12m, q12l, q12g, q12r, q12s, q12e, q32a, q32b, q32m, q32l, q32g, q32r, q32s, q32e, ekX12_block_0_8, ekX12_block_0_3, bX12_block_0, bX12_block_1, bX12_block_2, ekX12_block_3_0, bX12_block_3, ekX12_block_4_1, bX12_block_4, bX12_block_5, bX12_block_6, ekX12_block_7_6, ekX12_block_7_2, bX12_block_7, bX12_block_8, bX12_block_9, ekX12_block_10_2, bX12_block_10, bX12_block_11, ekX12_block_12_4, ekX12_block_12_3, bX12_block_12, ekX12_block_13_4, ekX12_block_13_3, bX12_block_13, bX12_block_14]
    exact fi0 _ (by rw [hF.2.2.2.2.2.2.2.2.2.1 b hb]; simp [blkV, q0, q1, q2, q3, q4, q5, q6])
theorem r_block_f (hC : RS S I) {y x : Int32} (h : (y < 0 ∨ ¬ y < n32 (sB S)) ∨ x < 0 ∨ ¬ x ≤ 7) : xcall xprog (d + 8) 203 [.ref 209, .int y, .int x] (xst e L I J) = some (some (.int 0), xst e L (xu I 209 0 1) J) := by
  have hw := hC.1.1
  have hS := hC.2.1
  have h20 := wf_B hw
  refine (aX12_block _ e L I J _ _).trans ((bX12_block_0 _ e L I J _ _).trans ?_)
  rcases inr_or y (sB S) (by omega) with ⟨b, hb, rfl⟩ | h'
  · rw [r_isBlock_y hS hw hb]
    have h : x < 0 ∨ ¬ x ≤ 7 := by
      rcases h with h | h
      · rcases h with h | h
        · exact absurd h (n32_neg (by omega))
        · exact absurd ((n32_lt (by omega) (by omega)).mpr hb) h
      · exact h
    rcases h with h | h
    · simp (disch := omega) only [n32_ltE, n32_leE, n32_eqE, n32_eqm, m1_eqn, n32_ge0, n32_lt0, n32_nat, n32_succ, n32_add, xin_n32, xin_b1, xin_b2, cond_true, cond_false, if_true, if_false, xcI_some, xcV_some, xcJ_some, xcR_some, xu_ee, xu_rne, xu_kne, ite_self, not_true_eq_false, not_false_eq_true, ne_eq, true_and, and_true, false_and, and_false, m1_lt0, m1_eq0, eq_self, Bool.false_eq_true, reduceCtorEq, z_lt0, i1_eq0, i0_eq1, i1_eq1, xrZ0, xrZ1, xrZt, n32_eq0, n32_eq1, n32_gt0, n32_gt1, n32_lt1, n32_le1, n32_0le, tf0, tf1, xaI_of, ekX12_block_0_3, sX12_isIn, h, ekX12_block_0_8, bX12_block_1, bX12_block_3, r_throws_t, ekX12_block_3_0]
    · simp (disch := omega) only [n32_ltE, n32_leE, n32_eqE, n32_eqm, m1_eqn, n32_ge0, n32_lt0, n32_nat, n32_succ, n32_add, xin_n32, xin_b1, xin_b2, cond_true, cond_false, if_true, if_false, xcI_some, xcV_some, xcJ_some, xcR_some, xu_ee, xu_rne, xu_kne, ite_self, not_true_eq_false, not_false_eq_true, ne_eq, true_and, and_true, false_and, and_false, m1_lt0, m1_eq0, eq_self, Bool.false_eq_true, reduceCtorEq, z_lt0, i1_eq0, i0_eq1, i1_eq1, xrZ0, xrZ1, xrZt, n32_eq0, n32_eq1, n32_gt0, n32_gt1, n32_lt1, n32_le1, n32_0le, tf0, tf1, xaI_of, ekX12_block_0_3, sX12_isIn, h, ekX12_block_0_8, bX12_block_1, bX12_block_3, r_throws_t, ekX12_block_3_0]
  · rw [r_isBlock_n hS hw h']
    simp (disch := omega) only [n32_ltE, n32_leE, n32_eqE, n32_eqm, m1_eqn, n32_ge0, n32_lt0, n32_nat, n32_succ, n32_add, xin_n32, xin_b1, xin_b2, cond_true, cond_false, if_true, if_false, xcI_some, xcV_some, xcJ_some, xcR_some, xu_ee, xu_rne, xu_kne, ite_self, not_true_eq_false, not_false_eq_true, ne_eq, true_and, and_true, false_and, and_false, m1_lt0, m1_eq0, eq_self, Bool.false_eq_true, reduceCtorEq, z_lt0, i1_eq0, i0_eq1, i1_eq1, xrZ0, xrZ1, xrZt, n32_eq0, n32_eq1, n32_gt0, n32_gt1, n32_lt1, n32_le1, n32_0le, tf0, tf1, xaI_of, ekX12_block_0_3, bX12_block_1, bX12_block_3, r_throws_t, ekX12_block_3_0]
end QB
