/-! Weights of the levels ahead, and links that count. -/
def wfo (S : TS) (t k v : Nat) : Int32 := if lv S t < k then S (4 + v) else wt S (clm (par S) ((lv S t - k) * sE S) t) v
def cts (S : TS) (set : Int32) (t : Nat) : Bool := tth (wfo S t 1) set (sV S) && tth (wfo S t 2) set (sV S)
/-- the row of the class that holds them -/
def wr (S : TS) (t k : Nat) : Nat := if lv S t < k then 9 else 17 + clm (par S) ((lv S t - k) * sE S) t
theorem G0_16 : ∀ i, i < 20 → xrf (G0, 0, 0) 16 i = some (17 + i) := by decide
theorem G0_50 : ∀ i, i < 20 → xrf (G0, 0, 0) 50 i = some (51 + i) := by decide
theorem G0_80 : ∀ i, i < 8 → xrf (G0, 0, 0) 80 i = some (81 + i) := by decide
theorem xaR_of {e L r i n q : Nat} {I : TI} {J : TJ} {c : Nat → Option xOut} (hn : xlen (G0, 0, 0) 18 r = n) (hr : Nat.beq r 1000000 = false) (h : xrf (G0, 0, 0) r i = some q) (hi : i < n) (h2 : i < 2147483648) : xaR (xst e L I J) r (n32 i) c = c q := by
  have a1 : xlen (xst e L I J).1 18 r = n := by
    rw [← hn]
    unfold xlen
    show (match xn G0 r with | some a => bif Nat.beq a.1 18 then a.2.1 else 0 | none => _) = match xn G0 r with | some a => bif Nat.beq a.1 18 then a.2.1 else 0 | none => _
    cases xn G0 r with
    | some a => rfl
    | none => rfl
  have a2 : xrf (xst e L I J).1 r i = some q := h
  unfold xaR
  rw [a1, xin_n32 h2 hi, n32_nat h2, a2, Bool.or_true]
  rfl
theorem xaR_16 {e L i : Nat} {I : TI} {J : TJ} {c : Nat → Option xOut} (hi : i < 20) : xaR (xst e L I J) 16 (n32 i) c = c (17 + i) := xaR_of (n := 20) rfl rfl (G0_16 i hi) hi (by omega)
theorem xaR_50 {e L i : Nat} {I : TI} {J : TJ} {c : Nat → Option xOut} (hi : i < 20) : xaR (xst e L I J) 50 (n32 i) c = c (51 + i) := xaR_of (n := 20) rfl rfl (G0_50 i hi) hi (by omega)
theorem xaR_80 {e L i : Nat} {I : TI} {J : TJ} {c : Nat → Option xOut} (hi : i < 8) : xaR (xst e L I J) 80 (n32 i) c = c (81 + i) := xaR_of (n := 8) rfl rfl (G0_80 i hi) hi (by omega)
section CO
variable {d e L : Nat} {S : TS} {N : Nat → Int64} {I : TI} {J : TJ} {a b t v k : Nat}
theorem pt_hi (hp : pt S b = true) : hei S b = lv S b * sE S := by
  unfold pt at hp
  have h := beq_iff_eq.mp hp
  unfold lv
  have q := Nat.div_add_mod (hei S b) (sE S)
  rw [h, Nat.mul_comm] at q
  omega
theorem pt_of {w : Nat} (hw : wfT S) (h : hei S b = w * sE S) : pt S b = true ∧ lv S b = w := by
  have e1 := wf_E1 hw
  unfold pt lv
  rw [h]
  exact ⟨by simp, Nat.mul_div_cancel _ (by omega)⟩
theorem wr_x (hw : wfT S) (hp : pt S t = true) (h1 : 1 ≤ k) (hk : k ≤ lv S t) : anc (par S) (clm (par S) ((lv S t - k) * sE S) t) t = true ∧ hei S (clm (par S) ((lv S t - k) * sE S) t) = (lv S t - k) * sE S := by
  have e1 := wf_E1 hw
  have ht := pt_hi hp
  have hlt : (lv S t - k) * sE S < lv S t * sE S := Nat.mul_lt_mul_of_pos_right (by omega) (by omega)
  have hh := clm_h (p := par S) (b := t) ((lv S t - k) * sE S) (by show _ ≤ hei S t; omega)
  refine ⟨?_, hh⟩
  rcases clm_a (p := par S) (b := t) ((lv S t - k) * sE S) (by show _ ≤ hei S t; omega) with h | h
  · rw [h] at hh
    have : hei S t = (lv S t - k) * sE S := hh
    omega
  · exact h
theorem n32_sneg {a b : Nat} (h : a < b) (hb : b ≤ 2) : n32 a - n32 b < 0 := by
  have : (a = 0 ∧ b = 1) ∨ (a = 0 ∧ b = 2) ∨ (a = 1 ∧ b = 2) := by omega
  rcases this with ⟨rfl, rfl⟩ | ⟨rfl, rfl⟩ | ⟨rfl, rfl⟩ <;> decide
theorem xaR_ref {c : Nat → Option xOut} (hi : a < 20) : xaR (xst e L I J) 16 (n32 a) c = c (17 + a) := xaR_16 hi
theorem c_weightsAhead (hT : Tr 7 S N I J) (hw : wfT S) (ht : t < sB S) (hp : pt S t = true) (h1 : 1 ≤ k) (h2 : k ≤ 2) : xcall xprog (d + 2) 35 [.ref 7, .int (n32 t), .int (lvc S t - n32 k)] (xst e L I J) = some (some (.ref (wr S t k)), xst e L I J) := by
  have h20 := wf_B hw
  have hl := lv_le (S := S) (b := t)
  rw [aX2_weightsAhead, bX2_weightsAhead_0, lvc_t hp]
  unfold wr
  by_cases hk : lv S t < k
  · rw [if_pos (n32_sneg hk h2), if_pos hk]
    exact bX2_weightsAhead_3 _ e L I J
  · rw [n32_sub (by omega), if_neg (n32_neg (by omega)), if_neg hk]
    obtain ⟨ha, hh⟩ := wr_x hw hp h1 (by omega)
    obtain ⟨hp0, hl0⟩ := pt_of hw hh
    have hlt := anc_lt ha
    generalize hx : clm (par S) ((lv S t - k) * sE S) t = x0 at ha hh hp0 hl0 hlt ⊢
    refine (xfor_fold (fun i (_ : Unit) => xlim (xcall xprog (d + 1)) mX2_weightsAhead 1 [.ref 7, .int (n32 t), .int (n32 (lv S t - k)), .int (n32 i)] [] (xst e L I J)) (fun _ a => a) (n := x0) (fun i a hi => ?_) ()).trans ?_
    · refine (bX2_weightsAhead_1 _ e L I J _ _ (n32 i)).trans ?_
      have hit : i < t := by omega
      have hl3 := lv_le (S := S) (b := i)
      simp (disch := omega) only [n32_ltE, n32_leE, n32_eqE, n32_eqm, m1_eqn, n32_ge0, n32_lt0, n32_nat, n32_succ, n32_add, xin_n32, xin_b1, xin_b2, cond_true, cond_false, if_true, if_false, xcI_some, xcV_some, xcJ_some, xcR_some, xu_ee, xu_rne, xu_kne, ite_self, not_true_eq_false, not_false_eq_true, ne_eq, true_and, and_true, false_and, and_false, m1_lt0, m1_eq0, eq_self, Bool.false_eq_true, reduceCtorEq, z_lt0, i1_eq0, i0_eq1, i1_eq1, xrZ0, xrZ1, xrZt, n32_eq0, n32_eq1, n32_gt0, n32_gt1, n32_lt1, n32_le1, n32_0le, tf0, tf1, xaI_of, bX2_weightsAhead_0, ekX2_weightsAhead_1_12, bX2_weightsAhead_2, bX2_weightsAhead_3, hit, t7_lv hT (show i < sB S by omega)]
      by_cases q : lvc S i = n32 (lv S t - k)
      · have hpi : pt S i = true := by
          cases h : pt S i with
          | true => rfl
          | false =>
            rw [lvc_f h] at q
            exact absurd q.symm (n32_ne1 (by omega))
        rw [lvc_t hpi] at q
        have q2 := (n32_inj (by omega) (by omega)).mp q
        have hn : anc (par S) i t = false := by
          cases h : anc (par S) i t with
          | false => rfl
          | true =>
            have hhi := pt_hi hpi
            rw [q2] at hhi
            have := anc_uniq h ha (by show hei S i = hei S x0; omega)
            omega
        simp (disch := omega) only [n32_ltE, n32_leE, n32_eqE, n32_eqm, m1_eqn, n32_ge0, n32_lt0, n32_nat, n32_succ, n32_add, xin_n32, xin_b1, xin_b2, cond_true, cond_false, if_true, if_false, xcI_some, xcV_some, xcJ_some, xcR_some, xu_ee, xu_rne, xu_kne, ite_self, not_true_eq_false, not_false_eq_true, ne_eq, true_and, and_true, false_and, and_false, m1_lt0, m1_eq0, eq_self, Bool.false_eq_true, reduceCtorEq, z_lt0, i1_eq0, i0_eq1, i1_eq1, xrZ0, xrZ1, xrZt, n32_eq0, n32_eq1, n32_gt0, n32_gt1, n32_lt1, n32_le1, n32_0le, tf0, tf1, xaI_of, lvc_t hpi, q2, c_isAhead hT hw (show i < 32 by omega) ht, hn, bX2_weightsAhead_0, ekX2_weightsAhead_1_12, bX2_weightsAhead_2, bX2_weightsAhead_3]
      · simp (disch := omega) only [n32_ltE, n32_leE, n32_eqE, n32_eqm, m1_eqn, n32_ge0, n32_lt0, n32_nat, n32_succ, n32_add, xin_n32, xin_b1, xin_b2, cond_true, cond_false, if_true, if_false, xcI_some, xcV_some, xcJ_some, xcR_some, xu_ee, xu_rne, xu_kne, ite_self, not_true_eq_false, not_false_eq_true, ne_eq, true_and, and_true, false_and, and_false, m1_lt0, m1_eq0, eq_self, Bool.false_eq_true, reduceCtorEq, z_lt0, i1_eq0, i0_eq1, i1_eq1, xrZ0, xrZ1, xrZt, n32_eq0, n32_eq1, n32_gt0, n32_gt1, n32_lt1, n32_le1, n32_0le, tf0, tf1, xaI_of, q]
    · refine (bX2_weightsAhead_1 _ e L I J _ _ (n32 x0)).trans ?_
      simp (disch := omega) only [n32_ltE, n32_leE, n32_eqE, n32_eqm, m1_eqn, n32_ge0, n32_lt0, n32_nat, n32_succ, n32_add, xin_n32, xin_b1, xin_b2, cond_true, cond_false, if_true, if_false, xcI_some, xcV_some, xcJ_some, xcR_some, xu_ee, xu_rne, xu_kne, ite_self, not_true_eq_false, not_false_eq_true, ne_eq, true_and, and_true, false_and, and_false, m1_lt0, m1_eq0, eq_self, Bool.false_eq_true, reduceCtorEq, z_lt0, i1_eq0, i0_eq1, i1_eq1, xrZ0, xrZ1, xrZt, n32_eq0, n32_eq1, n32_gt0, n32_gt1, n32_lt1, n32_le1, n32_0le, tf0, tf1, xaI_of, bX2_weightsAhead_0, ekX2_weightsAhead_1_12, bX2_weightsAhead_2, bX2_weightsAhead_3, hlt, t7_lv hT (show x0 < sB S by omega), lvc_t hp0, hl0, c_isAhead hT hw (show x0 < 32 by omega) ht, ha, xaR_16]
theorem c_foreOf (hT : Tr 7 S N I J) (hw : wfT S) (ht : t < sB S) (hp : pt S t = true) : xcall xprog (d + 3) 33 [.ref 7, .int (n32 t)] (xst e L I J) = some (some (.ref (wr S t 1)), xst e L I J) := by
  have h20 := wf_B hw
  have q := c_weightsAhead (d := d) (e := e) (L := L) hT hw ht hp (Nat.le_refl 1) (by omega)
  rw [aX2_foreOf, bX2_foreOf_0]
  simp (disch := omega) only [n32_ltE, n32_leE, n32_eqE, n32_eqm, m1_eqn, n32_ge0, n32_lt0, n32_nat, n32_succ, n32_add, xin_n32, xin_b1, xin_b2, cond_true, cond_false, if_true, if_false, xcI_some, xcV_some, xcJ_some, xcR_some, xu_ee, xu_rne, xu_kne, ite_self, not_true_eq_false, not_false_eq_true, ne_eq, true_and, and_true, false_and, and_false, m1_lt0, m1_eq0, eq_self, Bool.false_eq_true, reduceCtorEq, z_lt0, i1_eq0, i0_eq1, i1_eq1, xrZ0, xrZ1, xrZt, n32_eq0, n32_eq1, n32_gt0, n32_gt1, n32_lt1, n32_le1, n32_0le, tf0, tf1, xaI_of, ekX2_foreOf_0_8, bX2_foreOf_0, t7_lv hT ht]
  exact xk3 q rfl
theorem c_rearOf (hT : Tr 7 S N I J) (hw : wfT S) (ht : t < sB S) (hp : pt S t = true) : xcall xprog (d + 3) 34 [.ref 7, .int (n32 t)] (xst e L I J) = some (some (.ref (wr S t 2)), xst e L I J) := by
  have h20 := wf_B hw
  have q := c_weightsAhead (d := d) (e := e) (L := L) (k := 2) hT hw ht hp (by omega) (by omega)
  rw [aX2_rearOf, bX2_rearOf_0]
  simp (disch := omega) only [n32_ltE, n32_leE, n32_eqE, n32_eqm, m1_eqn, n32_ge0, n32_lt0, n32_nat, n32_succ, n32_add, xin_n32, xin_b1, xin_b2, cond_true, cond_false, if_true, if_false, xcI_some, xcV_some, xcJ_some, xcR_some, xu_ee, xu_rne, xu_kne, ite_self, not_true_eq_false, not_false_eq_true, ne_eq, true_and, and_true, false_and, and_false, m1_lt0, m1_eq0, eq_self, Bool.false_eq_true, reduceCtorEq, z_lt0, i1_eq0, i0_eq1, i1_eq1, xrZ0, xrZ1, xrZt, n32_eq0, n32_eq1, n32_gt0, n32_gt1, n32_lt1, n32_le1, n32_0le, tf0, tf1, xaI_of, q2a, q2b, q2m, q2l, q2g, q2r, q2s, q2e, ekX2_rearOf_0_8, bX2_rearOf_0, t7_lv hT ht]
  exact xk3 q rfl
theorem wr_G0 (hw : wfT S) (ht : t < sB S) : xn G0 (wr S t k) = some (14, 8, []) := by
  have h20 := wf_B hw
  unfold wr
  by_cases h : lv S t < k
  · rw [if_pos h]
    exact G0_9
  · rw [if_neg h]
    exact G0_w _ (Nat.lt_of_le_of_lt (clm_le _) (by omega))
theorem wr_row (hT : Tr 7 S N I J) (ht : t < sB S) (hv : v < sV S) : I (wr S t k) v = wfo S t k v := by
  unfold wr wfo
  by_cases h : lv S t < k
  · rw [if_pos h, if_pos h]
    exact t7_told hT hv
  · rw [if_neg h, if_neg h]
    exact t7_wt hT (Nat.lt_of_le_of_lt (clm_le _) ht) hv
theorem tth_c {w w' : Nat → Int32} {set : Int32} {n : Nat} (h : ∀ v, v < n → w v = w' v) : tth w set n = tth w' set n := by
  unfold tth
  rw [smv_c h, smv_c h]
theorem c_countsWith (hT : Tr 7 S N I J) (hw : wfT S) (ht : t < sB S) (hp : pt S t = true) {x : Int32} : xcall xprog (d + 4) 37 [.ref 7, .int (n32 t), .int x] (xst e L I J) = some (some (.int (if cts S x t = true then 1 else 0)), xst e L I J) := by
  have h8 := wf_V8 hw
  have q1 : tth (I (wr S t 1)) x (sV S) = tth (wfo S t 1) x (sV S) := tth_c (fun v hv => wr_row hT ht hv)
  have q2 : tth (I (wr S t 2)) x (sV S) = tth (wfo S t 2) x (sV S) := tth_c (fun v hv => wr_row hT ht hv)
  rw [aX2_countsWith, bX2_countsWith_0, c_foreOf hT hw ht hp]
  simp (disch := omega) only [n32_ltE, n32_leE, n32_eqE, n32_eqm, m1_eqn, n32_ge0, n32_lt0, n32_nat, n32_succ, n32_add, xin_n32, xin_b1, xin_b2, cond_true, cond_false, if_true, if_false, xcI_some, xcV_some, xcJ_some, xcR_some, xu_ee, xu_rne, xu_kne, ite_self, not_true_eq_false, not_false_eq_true, ne_eq, true_and, and_true, false_and, and_false, m1_lt0, m1_eq0, eq_self, Bool.false_eq_true, reduceCtorEq, z_lt0, i1_eq0, i0_eq1, i1_eq1, xrZ0, xrZ1, xrZt, n32_eq0, n32_eq1, n32_gt0, n32_gt1, n32_lt1, n32_le1, n32_0le, tf0, tf1, xaI_of, ekX2_countsWith_0_12, ekX2_countsWith_0_10, ekX2_countsWith_0_5, ekX2_countsWith_0_3, bX2_countsWith_0, bX2_countsWith_1, bX2_countsWith_2, c_hasTwoThirds (t7_V hT hw) h8 (wr_G0 hw ht), c_rearOf hT hw ht hp, q1, q2]
  unfold cts
  cases tth (wfo S t 1) x (sV S) <;> cases tth (wfo S t 2) x (sV S) <;> rfl
theorem c_blocksOn (hT : Tr 7 S N I J) (hw : wfT S) (hb : b < sB S) : xcall xprog (d + 1) 28 [.ref 7, .int (n32 b)] (xst e L I J) = some (some (.int (bs (fun x => decide (b < x) && decide (par S x = b)) (sB S))), xst e L I J) := by
  have h20 := wf_B hw
  refine (aX2_blocksOn d e L I J _).trans ((bX2_blocksOn_0 _ e L I J _).trans ?_)
  have z : bs (fun x => decide (b < x) && decide (par S x = b)) (b + 1) = 0 := by
    apply bt_ext
    intro k hk
    rw [bt_bs _ hk _ (by omega), bt_zero]
    simp
    omega
  have key : ∀ m, b + 1 + m ≤ sB S → xlim (xcall xprog d) mX2_blocksOn 1 [.ref 7, .int (n32 b), .int 0, .int (n32 (b + 1))] [] (xst e L I J) = xlim (xcall xprog d) mX2_blocksOn 1 [.ref 7, .int (n32 b), .int (bs (fun x => decide (b < x) && decide (par S x = b)) (b + 1 + m)), .int (n32 (b + 1 + m))] [] (xst e L I J) := by
    intro m
    induction m with
    | zero =>
      intro _
      rw [Nat.add_zero, z]
    | succ m ih =>
      intro hm
      rw [ih (by omega)]
      refine (bX2_blocksOn_1 _ e L I J _ _ (n32 (b + 1 + m))).trans ?_
      have hlt : b + 1 + m < sB S := by omega
      have hp := wf_p hw (show 0 < b + 1 + m by omega) hlt
      simp (disch := omega) only [n32_ltE, n32_leE, n32_eqE, n32_eqm, m1_eqn, n32_ge0, n32_lt0, n32_nat, n32_succ, n32_add, xin_n32, xin_b1, xin_b2, cond_true, cond_false, if_true, if_false, xcI_some, xcV_some, xcJ_some, xcR_some, xu_ee, xu_rne, xu_kne, ite_self, not_true_eq_false, not_false_eq_true, ne_eq, true_and, and_true, false_and, and_false, m1_lt0, m1_eq0, eq_self, Bool.false_eq_true, reduceCtorEq, z_lt0, i1_eq0, i0_eq1, i1_eq1, xrZ0, xrZ1, xrZt, n32_eq0, n32_eq1, n32_gt0, n32_gt1, n32_lt1, n32_le1, n32_0le, tf0, tf1, xaI_of, bX2_blocksOn_0, bX2_blocksOn_2, bX2_blocksOn_3, t7_B hT hw, hlt, t7_on hT hlt, hp.1]
      show _ = xlim _ _ 1 [_, _, .int (bs _ (b + 1 + m + 1)), _] _ _
      have e1 : decide (b < b + 1 + m) = true := decide_eq_true (by omega)
      by_cases hq : par S (b + 1 + m) = b
      · simp only [hq, if_true, bs, e1, decide_true, Bool.and_self, cond_true]
        rfl
      · simp only [hq, if_false, bs, e1, decide_false, Bool.and_false, cond_false]
        rfl
  rw [show n32 b + 1 = n32 (b + 1) from n32_succ]
  obtain ⟨m, hm⟩ : ∃ m, b + 1 + m = sB S := ⟨sB S - (b + 1), by omega⟩
  rw [key m (by omega), hm]
  refine (bX2_blocksOn_1 _ e L I J _ _ (n32 (sB S))).trans ?_
  simp (disch := omega) only [n32_ltE, n32_leE, n32_eqE, n32_eqm, m1_eqn, n32_ge0, n32_lt0, n32_nat, n32_succ, n32_add, xin_n32, xin_b1, xin_b2, cond_true, cond_false, if_true, if_false, xcI_some, xcV_some, xcJ_some, xcR_some, xu_ee, xu_rne, xu_kne, ite_self, not_true_eq_false, not_false_eq_true, ne_eq, true_and, and_true, false_and, and_false, m1_lt0, m1_eq0, eq_self, Bool.false_eq_true, reduceCtorEq, z_lt0, i1_eq0, i0_eq1, i1_eq1, xrZ0, xrZ1, xrZt, n32_eq0, n32_eq1, n32_gt0, n32_gt1, n32_lt1, n32_le1, n32_0le, tf0, tf1, xaI_of, bX2_blocksOn_0, bX2_blocksOn_2, bX2_blocksOn_3, t7_B hT hw, Nat.lt_irrefl]
/-- how many below n have p -/
def cntN (p : Nat → Bool) : Nat → Nat
  | 0 => 0
  | n + 1 => if p n = true then cntN p n + 1 else cntN p n
theorem cntN_s (p : Nat → Bool) (n : Nat) : cntN p (n + 1) = if p n = true then cntN p n + 1 else cntN p n := rfl
theorem c_countPoints (hT : Tr 7 S N I J) (hw : wfT S) : xcall xprog (d + 1) 29 [.ref 7] (xst e L I J) = some (some (.int (n32 (cntN (pt S) (sB S)))), xst e L I J) := by
  have h20 := wf_B hw
  refine (aX2_countPoints d e L I J).trans ((bX2_countPoints_0 _ e L I J).trans ?_)
  obtain ⟨a', h1, h2⟩ := xfor (fun i a => xlim (xcall xprog d) mX2_countPoints 1 [.ref 7, .int (n32 a), .int (n32 i)] [] (xst e L I J)) (fun i a => a = cntN (pt S) i) (n := sB S) (fun i a hi ha => by
    refine ⟨cntN (pt S) (i + 1), ?_, rfl⟩
    refine (bX2_countPoints_1 _ e L I J _ (n32 i)).trans ?_
    simp (disch := omega) only [n32_ltE, n32_leE, n32_eqE, n32_eqm, m1_eqn, n32_ge0, n32_lt0, n32_nat, n32_succ, n32_add, xin_n32, xin_b1, xin_b2, cond_true, cond_false, if_true, if_false, xcI_some, xcV_some, xcJ_some, xcR_some, xu_ee, xu_rne, xu_kne, ite_self, not_true_eq_false, not_false_eq_true, ne_eq, true_and, and_true, false_and, and_false, m1_lt0, m1_eq0, eq_self, Bool.false_eq_true, reduceCtorEq, z_lt0, i1_eq0, i0_eq1, i1_eq1, xrZ0, xrZ1, xrZt, n32_eq0, n32_eq1, n32_gt0, n32_gt1, n32_lt1, n32_le1, n32_0le, tf0, tf1, xaI_of, bX2_countPoints_0, bX2_countPoints_2, bX2_countPoints_3, t7_B hT hw, hi, t7_lv hT hi, lvc_m]
    subst ha
    rw [cntN_s]
    cases pt S i <;> rfl) 0 rfl
  refine h1.trans ?_
  subst h2
  refine (bX2_countPoints_1 _ e L I J _ (n32 (sB S))).trans ?_
  simp (disch := omega) only [n32_ltE, n32_leE, n32_eqE, n32_eqm, m1_eqn, n32_ge0, n32_lt0, n32_nat, n32_succ, n32_add, xin_n32, xin_b1, xin_b2, cond_true, cond_false, if_true, if_false, xcI_some, xcV_some, xcJ_some, xcR_some, xu_ee, xu_rne, xu_kne, ite_self, not_true_eq_false, not_false_eq_true, ne_eq, true_and, and_true, false_and, and_false, m1_lt0, m1_eq0, eq_self, Bool.false_eq_true, reduceCtorEq, z_lt0, i1_eq0, i0_eq1, i1_eq1, xrZ0, xrZ1, xrZt, n32_eq0, n32_eq1, n32_gt0, n32_gt1, n32_lt1, n32_le1, n32_0le, tf0, tf1, xaI_of, bX2_countPoints_0, bX2_countPoints_2, bX2_countPoints_3, t7_B hT hw, Nat.lt_irrefl]
end CO
