/-! The class's tree: its cells against the state, and the methods that only read it. -/
def lvc (S : TS) (b : Nat) : Int32 := if pt S b = true then n32 (lv S b) else -1
def Tr (t : Nat) (S : TS) (N : Nat → Int64) (I : TI) (J : TJ) : Prop :=
  I t 0 = S 0 ∧ I t 1 = S 1 ∧ I t 2 = S 2 ∧ (∀ v, v < sV S → J (t + 1) v = N v ∧ I (t + 2) v = S (4 + v)) ∧
  ∀ b, b < sB S → J (t + 3) b = N (8 + b) ∧ I (t + 4) b = S (12 + b) ∧ I (t + 5) b = ahs (par S) b ∧ I (t + 6) b = n32 (hei S b) ∧ I (t + 7) b = lvc S b ∧ I (t + 8) b = S (32 + b) ∧ ∀ v, v < sV S → I (t + 10 + b) v = wt S b v
theorem hi_lt {S : TS} {b : Nat} : hei S b ≤ b := hgt_le
theorem lv_le {S : TS} {b : Nat} : lv S b ≤ b := Nat.le_trans (Nat.div_le_self _ _) hi_lt
theorem G0_w : ∀ b, b < 20 → xn G0 (17 + b) = some (14, 8, []) := by decide
theorem G0_9 : xn G0 9 = some (14, 8, []) := by decide
section CT
variable {d e L : Nat} {S : TS} {N : Nat → Int64} {I : TI} {J : TJ} {a b t v : Nat}
section ACC
theorem t7_E (hT : Tr 7 S N I J) (hw : wfT S) : I 7 0 = n32 (sE S) := hT.1.trans hw.2.2.1
theorem t7_V (hT : Tr 7 S N I J) (hw : wfT S) : I 7 1 = n32 (sV S) := hT.2.1.trans hw.2.2.2.2.1
theorem t7_B (hT : Tr 7 S N I J) (hw : wfT S) : I 7 2 = n32 (sB S) := hT.2.2.1.trans hw.2.2.2.2.2.2.1
theorem t7_vn (hT : Tr 7 S N I J) (h : v < sV S) : J 8 v = N v := (hT.2.2.2.1 v h).1
theorem t7_told (hT : Tr 7 S N I J) (h : v < sV S) : I 9 v = S (4 + v) := (hT.2.2.2.1 v h).2
theorem t7_bn (hT : Tr 7 S N I J) (h : b < sB S) : J 10 b = N (8 + b) := (hT.2.2.2.2 b h).1
theorem t7_on (hT : Tr 7 S N I J) (h : b < sB S) : I 11 b = S (12 + b) := (hT.2.2.2.2 b h).2.1
theorem t7_ah (hT : Tr 7 S N I J) (h : b < sB S) : I 12 b = ahs (par S) b := (hT.2.2.2.2 b h).2.2.1
theorem t7_hi (hT : Tr 7 S N I J) (h : b < sB S) : I 13 b = n32 (hei S b) := (hT.2.2.2.2 b h).2.2.2.1
theorem t7_lv (hT : Tr 7 S N I J) (h : b < sB S) : I 14 b = lvc S b := (hT.2.2.2.2 b h).2.2.2.2.1
theorem t7_who (hT : Tr 7 S N I J) (h : b < sB S) : I 15 b = S (32 + b) := (hT.2.2.2.2 b h).2.2.2.2.2.1
theorem t7_wt (hT : Tr 7 S N I J) (h : b < sB S) (hv : v < sV S) : I (17 + b) v = wt S b v := (hT.2.2.2.2 b h).2.2.2.2.2.2 v hv
theorem wf_E1 (hw : wfT S) : 1 ≤ sE S := hw.1
theorem wf_E4 (hw : wfT S) : sE S ≤ 4 := hw.2.1
theorem wf_V8 (hw : wfT S) : sV S ≤ 8 := hw.2.2.2.1
theorem wf_B (hw : wfT S) : sB S ≤ 20 := hw.2.2.2.2.2.1
theorem wf_0 (hw : wfT S) : S 0 = n32 (sE S) := hw.2.2.1
theorem wf_1 (hw : wfT S) : S 1 = n32 (sV S) := hw.2.2.2.2.1
theorem wf_2 (hw : wfT S) : S 2 = n32 (sB S) := hw.2.2.2.2.2.2.1
theorem wf_w (hw : wfT S) (h : v < sV S) : ∃ w, w ≤ 9 ∧ S (4 + v) = n32 w := hw.2.2.2.2.2.2.2.1 v h
theorem wf_p0 (hw : wfT S) (h : 0 < sB S) : S 12 = -1 := hw.2.2.2.2.2.2.2.2.1 h
theorem wf_p (hw : wfT S) (h0 : 0 < b) (h : b < sB S) : S (12 + b) = n32 (par S b) ∧ par S b < b := hw.2.2.2.2.2.2.2.2.2.1 b h0 h
theorem wf_ch (hw : wfT S) (h : b < sB S) : (S (32 + b) = -1 ∨ ∃ v, v < sV S ∧ S (32 + b) = n32 v) ∧ ∃ w, w ≤ 9 ∧ S (52 + b) = n32 w := hw.2.2.2.2.2.2.2.2.2.2 b h
theorem wf_wp (hw : wfT S) : wp (par S) (sB S) := fun _ h0 h => (wf_p hw h0 h).2
theorem wf_par0 (hw : wfT S) (h : 0 < sB S) : par S 0 = 0 := by
  unfold par
  rw [show 12 + 0 = 12 from rfl, wf_p0 hw h]
  decide
end ACC
theorem lvc_t (h : pt S b = true) : lvc S b = n32 (lv S b) := if_pos h
theorem lvc_f (h : pt S b = false) : lvc S b = -1 := if_neg (by rw [h]; decide)
theorem lvc_m (hb : b ≤ 20) : (lvc S b = -1) = (pt S b = false) := by
  cases h : pt S b with
  | true =>
    rw [lvc_t h]
    exact propext ⟨fun q => absurd q (n32_ne1 (by have := lv_le (S := S) (b := b); omega)), fun q => by cases q⟩
  | false =>
    rw [lvc_f h]
    simp
theorem c_hasBlock_y (hT : Tr 7 S N I J) (hw : wfT S) (hb : b < sB S) : xcall xprog (d + 1) 23 [.ref 7, .int (n32 b)] (xst e L I J) = some (some (.int 1), xst e L I J) := by
  have h20 := wf_B hw
  rw [sX2_hasBlock, t7_B hT hw]
  simp (disch := omega) only [n32_ltE, n32_leE, n32_eqE, n32_eqm, m1_eqn, n32_ge0, n32_lt0, n32_nat, n32_succ, n32_add, xin_n32, xin_b1, xin_b2, cond_true, cond_false, if_true, if_false, xcI_some, xcV_some, xcJ_some, xcR_some, xu_ee, xu_rne, xu_kne, ite_self, not_true_eq_false, not_false_eq_true, ne_eq, true_and, and_true, false_and, and_false, m1_lt0, m1_eq0, eq_self, Bool.false_eq_true, reduceCtorEq, z_lt0, i1_eq0, i0_eq1, i1_eq1, xrZ0, xrZ1, xrZt, n32_eq0, n32_eq1, n32_gt0, n32_gt1, n32_lt1, n32_le1, n32_0le, tf0, tf1, xaI_of, hb]
theorem c_hasBlock_n (hT : Tr 7 S N I J) (hw : wfT S) {x : Int32} (h : x < 0 ∨ ¬ x < n32 (sB S)) : xcall xprog (d + 1) 23 [.ref 7, .int x] (xst e L I J) = some (some (.int 0), xst e L I J) := by
  rw [sX2_hasBlock, t7_B hT hw]
  rcases h with h | h <;> simp [h]
theorem c_hasVoter_y (hT : Tr 7 S N I J) (hw : wfT S) (hb : b < sV S) : xcall xprog (d + 1) 22 [.ref 7, .int (n32 b)] (xst e L I J) = some (some (.int 1), xst e L I J) := by
  have h20 := wf_V8 hw
  rw [sX2_hasVoter, t7_V hT hw]
  simp (disch := omega) only [n32_ltE, n32_leE, n32_eqE, n32_eqm, m1_eqn, n32_ge0, n32_lt0, n32_nat, n32_succ, n32_add, xin_n32, xin_b1, xin_b2, cond_true, cond_false, if_true, if_false, xcI_some, xcV_some, xcJ_some, xcR_some, xu_ee, xu_rne, xu_kne, ite_self, not_true_eq_false, not_false_eq_true, ne_eq, true_and, and_true, false_and, and_false, m1_lt0, m1_eq0, eq_self, Bool.false_eq_true, reduceCtorEq, z_lt0, i1_eq0, i0_eq1, i1_eq1, xrZ0, xrZ1, xrZt, n32_eq0, n32_eq1, n32_gt0, n32_gt1, n32_lt1, n32_le1, n32_0le, tf0, tf1, xaI_of, hb]
theorem c_hasVoter_n (hT : Tr 7 S N I J) (hw : wfT S) {x : Int32} (h : x < 0 ∨ ¬ x < n32 (sV S)) : xcall xprog (d + 1) 22 [.ref 7, .int x] (xst e L I J) = some (some (.int 0), xst e L I J) := by
  rw [sX2_hasVoter, t7_V hT hw]
  rcases h with h | h <;> simp [h]
theorem c_isPoint_y (hT : Tr 7 S N I J) (hw : wfT S) (hb : b < sB S) : xcall xprog (d + 2) 24 [.ref 7, .int (n32 b)] (xst e L I J) = some (some (.int (if pt S b = true then 1 else 0)), xst e L I J) := by
  have h20 := wf_B hw
  rw [aX2_isPoint, bX2_isPoint_0, c_hasBlock_y hT hw hb]
  simp (disch := omega) only [n32_ltE, n32_leE, n32_eqE, n32_eqm, m1_eqn, n32_ge0, n32_lt0, n32_nat, n32_succ, n32_add, xin_n32, xin_b1, xin_b2, cond_true, cond_false, if_true, if_false, xcI_some, xcV_some, xcJ_some, xcR_some, xu_ee, xu_rne, xu_kne, ite_self, not_true_eq_false, not_false_eq_true, ne_eq, true_and, and_true, false_and, and_false, m1_lt0, m1_eq0, eq_self, Bool.false_eq_true, reduceCtorEq, z_lt0, i1_eq0, i0_eq1, i1_eq1, xrZ0, xrZ1, xrZt, n32_eq0, n32_eq1, n32_gt0, n32_gt1, n32_lt1, n32_le1, n32_0le, tf0, tf1, xaI_of, ekX2_isPoint_0_2, bX2_isPoint_0, bX2_isPoint_1, bX2_isPoint_2, t7_lv hT hb, lvc_m]
  cases pt S b <;> rfl
theorem c_isPoint_n (hT : Tr 7 S N I J) (hw : wfT S) {x : Int32} (h : x < 0 ∨ ¬ x < n32 (sB S)) : xcall xprog (d + 2) 24 [.ref 7, .int x] (xst e L I J) = some (some (.int 0), xst e L I J) := by
  rw [aX2_isPoint, bX2_isPoint_0, c_hasBlock_n hT hw h]
  simp (disch := omega) only [n32_ltE, n32_leE, n32_eqE, n32_eqm, m1_eqn, n32_ge0, n32_lt0, n32_nat, n32_succ, n32_add, xin_n32, xin_b1, xin_b2, cond_true, cond_false, if_true, if_false, xcI_some, xcV_some, xcJ_some, xcR_some, xu_ee, xu_rne, xu_kne, ite_self, not_true_eq_false, not_false_eq_true, ne_eq, true_and, and_true, false_and, and_false, m1_lt0, m1_eq0, eq_self, Bool.false_eq_true, reduceCtorEq, z_lt0, i1_eq0, i0_eq1, i1_eq1, xrZ0, xrZ1, xrZt, n32_eq0, n32_eq1, n32_gt0, n32_gt1, n32_lt1, n32_le1, n32_0le, tf0, tf1, xaI_of, ekX2_isPoint_0_2, bX2_isPoint_0, bX2_isPoint_1, bX2_isPoint_2]
theorem c_isAhead (hT : Tr 7 S N I J) (hw : wfT S) (ha : a < 32) (hb : b < sB S) : xcall xprog (d + 1) 26 [.ref 7, .int (n32 a), .int (n32 b)] (xst e L I J) = some (some (.int (if anc (par S) a b = true then 1 else 0)), xst e L I J) := by
  have h20 := wf_B hw
  rw [sX2_isAhead d e L I J _ _ (xin_n32 (by omega) (by omega))]
  simp (disch := omega) only [n32_ltE, n32_leE, n32_eqE, n32_eqm, m1_eqn, n32_ge0, n32_lt0, n32_nat, n32_succ, n32_add, xin_n32, xin_b1, xin_b2, cond_true, cond_false, if_true, if_false, xcI_some, xcV_some, xcJ_some, xcR_some, xu_ee, xu_rne, xu_kne, ite_self, not_true_eq_false, not_false_eq_true, ne_eq, true_and, and_true, false_and, and_false, m1_lt0, m1_eq0, eq_self, Bool.false_eq_true, reduceCtorEq, z_lt0, i1_eq0, i0_eq1, i1_eq1, xrZ0, xrZ1, xrZt, n32_eq0, n32_eq1, n32_gt0, n32_gt1, n32_lt1, n32_le1, n32_0le, tf0, tf1, xaI_of, t7_ah hT hb, bt_t1, bt_ahs]
theorem c_isLink (hT : Tr 7 S N I J) (hw : wfT S) (ha : a < sB S) (hb : b < sB S) : xcall xprog (d + 3) 25 [.ref 7, .int (n32 a), .int (n32 b)] (xst e L I J) = some (some (.int (if (pt S a && pt S b && anc (par S) a b) = true then 1 else 0)), xst e L I J) := by
  have h20 := wf_B hw
  rw [aX2_isLink, bX2_isLink_0, c_isPoint_y hT hw ha]
  simp (disch := omega) only [n32_ltE, n32_leE, n32_eqE, n32_eqm, m1_eqn, n32_ge0, n32_lt0, n32_nat, n32_succ, n32_add, xin_n32, xin_b1, xin_b2, cond_true, cond_false, if_true, if_false, xcI_some, xcV_some, xcJ_some, xcR_some, xu_ee, xu_rne, xu_kne, ite_self, not_true_eq_false, not_false_eq_true, ne_eq, true_and, and_true, false_and, and_false, m1_lt0, m1_eq0, eq_self, Bool.false_eq_true, reduceCtorEq, z_lt0, i1_eq0, i0_eq1, i1_eq1, xrZ0, xrZ1, xrZt, n32_eq0, n32_eq1, n32_gt0, n32_gt1, n32_lt1, n32_le1, n32_0le, tf0, tf1, xaI_of, ekX2_isLink_0_11, ekX2_isLink_0_6, ekX2_isLink_0_2, bX2_isLink_0, bX2_isLink_1, bX2_isLink_2, c_isPoint_y hT hw hb, c_isAhead hT hw (show a < 32 by omega) hb]
  cases pt S a <;> cases pt S b <;> cases anc (par S) a b <;> rfl
theorem c_isLink_n1 (hT : Tr 7 S N I J) (hw : wfT S) {x y : Int32} (h : x < 0 ∨ ¬ x < n32 (sB S)) : xcall xprog (d + 3) 25 [.ref 7, .int x, .int y] (xst e L I J) = some (some (.int 0), xst e L I J) := by
  rw [aX2_isLink, bX2_isLink_0, c_isPoint_n hT hw h]
  simp (disch := omega) only [n32_ltE, n32_leE, n32_eqE, n32_eqm, m1_eqn, n32_ge0, n32_lt0, n32_nat, n32_succ, n32_add, xin_n32, xin_b1, xin_b2, cond_true, cond_false, if_true, if_false, xcI_some, xcV_some, xcJ_some, xcR_some, xu_ee, xu_rne, xu_kne, ite_self, not_true_eq_false, not_false_eq_true, ne_eq, true_and, and_true, false_and, and_false, m1_lt0, m1_eq0, eq_self, Bool.false_eq_true, reduceCtorEq, z_lt0, i1_eq0, i0_eq1, i1_eq1, xrZ0, xrZ1, xrZt, n32_eq0, n32_eq1, n32_gt0, n32_gt1, n32_lt1, n32_le1, n32_0le, tf0, tf1, xaI_of, ekX2_isLink_0_11, ekX2_isLink_0_6, ekX2_isLink_0_2, bX2_isLink_0, bX2_isLink_1, bX2_isLink_2]
theorem c_isLink_n2 (hT : Tr 7 S N I J) (hw : wfT S) {y : Int32} (ha : a < sB S) (h : y < 0 ∨ ¬ y < n32 (sB S)) : xcall xprog (d + 3) 25 [.ref 7, .int (n32 a), .int y] (xst e L I J) = some (some (.int 0), xst e L I J) := by
  rw [aX2_isLink, bX2_isLink_0, c_isPoint_y hT hw ha]
  simp (disch := omega) only [n32_ltE, n32_leE, n32_eqE, n32_eqm, m1_eqn, n32_ge0, n32_lt0, n32_nat, n32_succ, n32_add, xin_n32, xin_b1, xin_b2, cond_true, cond_false, if_true, if_false, xcI_some, xcV_some, xcJ_some, xcR_some, xu_ee, xu_rne, xu_kne, ite_self, not_true_eq_false, not_false_eq_true, ne_eq, true_and, and_true, false_and, and_false, m1_lt0, m1_eq0, eq_self, Bool.false_eq_true, reduceCtorEq, z_lt0, i1_eq0, i0_eq1, i1_eq1, xrZ0, xrZ1, xrZt, n32_eq0, n32_eq1, n32_gt0, n32_gt1, n32_lt1, n32_le1, n32_0le, tf0, tf1, xaI_of, ekX2_isLink_0_11, ekX2_isLink_0_6, ekX2_isLink_0_2, bX2_isLink_0, bX2_isLink_1, bX2_isLink_2, c_isPoint_n hT hw h]
/-- weights of a set, added in order -/
def smv (w : Nat → Int32) (set : Int32) (n : Nat) : Int32 := xfold (fun v a => if bt set v = true then a + w v else a) n 0
theorem xfold_c {α : Type} {g g' : Nat → α → α} {n : Nat} {a : α} (h : ∀ i a, i < n → g i a = g' i a) : xfold g n a = xfold g' n a := by
  induction n with
  | zero => rfl
  | succ n ih =>
    show g n (xfold g n a) = g' n (xfold g' n a)
    rw [ih (fun i a hi => h i a (by omega)), h n _ (by omega)]
theorem smv_c {w w' : Nat → Int32} {set : Int32} {n : Nat} (h : ∀ v, v < n → w v = w' v) : smv w set n = smv w' set n := by
  unfold smv
  exact xfold_c (fun i a hi => by rw [h i hi])
theorem c_sumOf (hV : I 7 1 = n32 v) (h8 : v ≤ 8) {r : Nat} (hr : xn G0 r = some (14, 8, [])) {x : Int32} : xcall xprog (d + 1) 36 [.ref 7, .ref r, .int x] (xst e L I J) = some (some (.int (smv (I r) x v)), xst e L I J) := by
  refine (aX2_sumOf_7_x d e L I J r x).trans ((bX2_sumOf_7_x_0 _ e L I J r x).trans ?_)
  refine (xfor_fold (fun i a => xlim (xcall xprog d) mX2_sumOf 1 [.ref 7, .ref r, .int x, .int a, .int (n32 i)] [] (xst e L I J)) (fun u a => if bt x u = true then a + I r u else a) (n := v) (fun i a hi => ?_) 0).trans ?_
  · refine (bX2_sumOf_7_x_1 _ e L I J r x a (n32 i)).trans ?_
    simp (disch := omega) only [n32_ltE, n32_leE, n32_eqE, n32_eqm, m1_eqn, n32_ge0, n32_lt0, n32_nat, n32_succ, n32_add, xin_n32, xin_b1, xin_b2, cond_true, cond_false, if_true, if_false, xcI_some, xcV_some, xcJ_some, xcR_some, xu_ee, xu_rne, xu_kne, ite_self, not_true_eq_false, not_false_eq_true, ne_eq, true_and, and_true, false_and, and_false, m1_lt0, m1_eq0, eq_self, Bool.false_eq_true, reduceCtorEq, z_lt0, i1_eq0, i0_eq1, i1_eq1, xrZ0, xrZ1, xrZt, n32_eq0, n32_eq1, n32_gt0, n32_gt1, n32_lt1, n32_le1, n32_0le, tf0, tf1, xaI_of, bX2_sumOf_7_x_0, bX2_sumOf_7_x_2, bX2_sumOf_7_x_3, hV, hi, bt_t1, xaI_of hr]
    by_cases hb : bt x i = true <;> simp only [hb, if_true, if_false, Bool.false_eq_true]
  · refine (bX2_sumOf_7_x_1 _ e L I J r x _ (n32 v)).trans ?_
    simp (disch := omega) only [n32_ltE, n32_leE, n32_eqE, n32_eqm, m1_eqn, n32_ge0, n32_lt0, n32_nat, n32_succ, n32_add, xin_n32, xin_b1, xin_b2, cond_true, cond_false, if_true, if_false, xcI_some, xcV_some, xcJ_some, xcR_some, xu_ee, xu_rne, xu_kne, ite_self, not_true_eq_false, not_false_eq_true, ne_eq, true_and, and_true, false_and, and_false, m1_lt0, m1_eq0, eq_self, Bool.false_eq_true, reduceCtorEq, z_lt0, i1_eq0, i0_eq1, i1_eq1, xrZ0, xrZ1, xrZt, n32_eq0, n32_eq1, n32_gt0, n32_gt1, n32_lt1, n32_le1, n32_0le, tf0, tf1, xaI_of, bX2_sumOf_7_x_0, bX2_sumOf_7_x_2, bX2_sumOf_7_x_3, hV, Nat.lt_irrefl]
    rfl
/-- two thirds of the weights -/
def tth (w : Nat → Int32) (set : Int32) (n : Nat) : Bool := !(decide (smv w 255 n ≤ 0)) && !(decide (3 * smv w set n < 2 * smv w 255 n))
theorem c_hasTwoThirds (hV : I 7 1 = n32 v) (h8 : v ≤ 8) {r : Nat} (hr : xn G0 r = some (14, 8, [])) {x : Int32} : xcall xprog (d + 2) 38 [.ref 7, .ref r, .int x] (xst e L I J) = some (some (.int (if tth (I r) x v = true then 1 else 0)), xst e L I J) := by
  rw [aX2_hasTwoThirds, bX2_hasTwoThirds_0, c_sumOf hV h8 hr]
  simp (disch := omega) only [n32_ltE, n32_leE, n32_eqE, n32_eqm, m1_eqn, n32_ge0, n32_lt0, n32_nat, n32_succ, n32_add, xin_n32, xin_b1, xin_b2, cond_true, cond_false, if_true, if_false, xcI_some, xcV_some, xcJ_some, xcR_some, xu_ee, xu_rne, xu_kne, ite_self, not_true_eq_false, not_false_eq_true, ne_eq, true_and, and_true, false_and, and_false, m1_lt0, m1_eq0, eq_self, Bool.false_eq_true, reduceCtorEq, z_lt0, i1_eq0, i0_eq1, i1_eq1, xrZ0, xrZ1, xrZt, n32_eq0, n32_eq1, n32_gt0, n32_gt1, n32_lt1, n32_le1, n32_0le, tf0, tf1, xaI_of, q2a, q2b, q2m, q2l, q2g, q2r, q2s, q2e, ekX2_hasTwoThirds_0_11, ekX2_hasTwoThirds_0_3, bX2_hasTwoThirds_0, bX2_hasTwoThirds_1, bX2_hasTwoThirds_2, c_sumOf hV h8 hr]
  unfold tth
  by_cases h1 : smv (I r) 255 v ≤ 0
  · simp [h1]
  · by_cases h2 : 3 * smv (I r) x v < 2 * smv (I r) 255 v
    · simp [h1, h2]
    · simp [h1, h2]
end CT
