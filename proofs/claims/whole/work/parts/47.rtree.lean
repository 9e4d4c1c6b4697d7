/-! The reference's tree: heights and what is ahead, weights, links that count. -/
def RT (S : TS) (I : TI) : Prop := ∀ b, b < sB S → I 217 b = n32 (hei S b) ∧ I 218 b = ahs (par S) b
section RTS
variable {d e L : Nat} {S : TS} {I : TI} {J : TJ} {a b t v k : Nat}
theorem r_laysBlocks (hS : I 211 = S) (hw : wfT S) : RR (xcall xprog (d + 1) 188 [.ref 209] (xst e L I J)) (zV e L fun I' J' => J' = J ∧ (∀ o, o ≠ 217 → o ≠ 218 → I' o = I o) ∧ RT S I') := by
  have h20 := wf_B hw
  refine RR_eq ((aX12_laysBlocks d e L I J).trans (bX12_laysBlocks_0 _ e L I J)) ?_
  obtain ⟨K, h1, h2, h3⟩ := xfor (fun i K => xlim (xcall xprog d) mX12_laysBlocks 1 [.ref 209, .int (n32 i), xD] [] (xst e L K J)) (fun i K => (∀ o, o ≠ 217 → o ≠ 218 → K o = I o) ∧ ∀ b, b < i → K 217 b = n32 (hei S b) ∧ K 218 b = ahs (par S) b) (n := sB S) (fun i K hi ⟨hf, hk⟩ => by
    have hK : K 211 = S := (hf 211 (by decide) (by decide)).trans hS
    refine ⟨xu (xu K 217 i (n32 (hgt (par S) i))) 218 i (ahs (par S) i), ?_, ?_, ?_⟩
    · refine (bX12_laysBlocks_1 _ e L K J (n32 i)).trans ?_
      by_cases h0 : i = 0
      · subst h0
        have p0 : S (12 + 0) = -1 := wf_p0 hw hi
        have q : ¬ par S 0 < 0 := Nat.not_lt_zero _
        simp (disch := omega) only [n32_ltE, n32_leE, n32_eqE, n32_eqm, m1_eqn, n32_ge0, n32_lt0, n32_nat, n32_succ, n32_add, xin_n32, xin_b1, xin_b2, cond_true, cond_false, if_true, if_false, xcI_some, xcV_some, xcJ_some, xcR_some, xu_ee, xu_rne, xu_kne, ite_self, not_true_eq_false, not_false_eq_true, ne_eq, true_and, and_true, false_and, and_false, m1_lt0, m1_eq0, eq_self, Bool.false_eq_true, reduceCtorEq, z_lt0, i1_eq0, i0_eq1, i1_eq1, xrZ0, xrZ1, xrZt, n32_eq0, n32_eq1, n32_gt0, n32_gt1, n32_lt1, n32_le1, n32_0le, tf0, tf1, xaI_of, q12a, q12b, q12m, q12l, q12g, q12r, q12s, q12e, bX12_laysBlocks_0, bX12_laysBlocks_2, bX12_laysBlocks_3, bX12_laysBlocks_4, bX12_laysBlocks_5, bX12_laysBlocks_6, hK, wf_2 hw, hi, p0, hgt_z q, ahs_z q]
        rfl
      · obtain ⟨p1, p2⟩ := wf_p hw (show 0 < i by omega) hi
        obtain ⟨k1, k2⟩ := hk _ p2
        simp (disch := omega) only [n32_ltE, n32_leE, n32_eqE, n32_eqm, m1_eqn, n32_ge0, n32_lt0, n32_nat, n32_succ, n32_add, xin_n32, xin_b1, xin_b2, cond_true, cond_false, if_true, if_false, xcI_some, xcV_some, xcJ_some, xcR_some, xu_ee, xu_rne, xu_kne, ite_self, not_true_eq_false, not_false_eq_true, ne_eq, true_and, and_true, false_and, and_false, m1_lt0, m1_eq0, eq_self, Bool.false_eq_true, reduceCtorEq, z_lt0, i1_eq0, i0_eq1, i1_eq1, xrZ0, xrZ1, xrZt, n32_eq0, n32_eq1, n32_gt0, n32_gt1, n32_lt1, n32_le1, n32_0le, tf0, tf1, xaI_of, q12a, q12b, q12m, q12l, q12g, q12r, q12s, q12e, bX12_laysBlocks_0, bX12_laysBlocks_2, bX12_laysBlocks_3, bX12_laysBlocks_4, bX12_laysBlocks_5, bX12_laysBlocks_6, hK, wf_2 hw, hi, p1, k1, k2, hgt_s p2, ahs_s p2]
        rfl
    · intro o h1 h2
      rw [xu_rne h2, xu_rne h1, hf o h1 h2]
    · intro b hb
      by_cases q : b = i
      · subst q
        exact ⟨by rw [xu_rne (by decide), xu_ee]; rfl, by rw [xu_ee]⟩
      · have := hk b (by omega)
        exact ⟨by rw [xu_rne (by decide), xu_kne q]; exact this.1, by rw [xu_kne q, xu_rne (by decide)]; exact this.2⟩) I ⟨fun _ _ _ => rfl, fun b hb => absurd hb (Nat.not_lt_zero b)⟩
  have hK : K 211 = S := (h2 211 (by decide) (by decide)).trans hS
  refine RR_eq h1 (RR_eq (bX12_laysBlocks_1 _ e L K J (n32 (sB S))) ?_)
  simp (disch := omega) only [n32_ltE, n32_leE, n32_eqE, n32_eqm, m1_eqn, n32_ge0, n32_lt0, n32_nat, n32_succ, n32_add, xin_n32, xin_b1, xin_b2, cond_true, cond_false, if_true, if_false, xcI_some, xcV_some, xcJ_some, xcR_some, xu_ee, xu_rne, xu_kne, ite_self, not_true_eq_false, not_false_eq_true, ne_eq, true_and, and_true, false_and, and_false, m1_lt0, m1_eq0, eq_self, Bool.false_eq_true, reduceCtorEq, z_lt0, i1_eq0, i0_eq1, i1_eq1, xrZ0, xrZ1, xrZt, n32_eq0, n32_eq1, n32_gt0, n32_gt1, n32_lt1, n32_le1, n32_0le, tf0, tf1, xaI_of, q12a, q12b, q12m, q12l, q12g, q12r, q12s, q12e, bX12_laysBlocks_0, bX12_laysBlocks_2, bX12_laysBlocks_3, bX12_laysBlocks_4, bX12_laysBlocks_5, bX12_laysBlocks_6, hK, wf_2 hw, Nat.lt_irrefl]
  exact RR_V ⟨rfl, h2, h3⟩
theorem r_weightBy (hS : I 211 = S) (hw : wfT S) (hb : b < sB S) (hv : v < sV S) : xcall xprog (d + 1) 189 [.ref 209, .int (n32 b), .int (n32 v)] (xst e L I J) = some (some (.int (wt S b v)), xst e L I J) := by
  have h20 := wf_B hw
  have h8 := wf_V8 hw
  refine (aX12_weightBy d e L I J _ _).trans ((bX12_weightBy_0 _ e L I J _ _).trans ?_)
  induction b using Nat.strongRecOn with
  | _ b ih =>
    refine (bX12_weightBy_1 _ e L I J _ _).trans ?_
    rw [wt]
    simp (disch := omega) only [n32_ltE, n32_leE, n32_eqE, n32_eqm, m1_eqn, n32_ge0, n32_lt0, n32_nat, n32_succ, n32_add, xin_n32, xin_b1, xin_b2, cond_true, cond_false, if_true, if_false, xcI_some, xcV_some, xcJ_some, xcR_some, xu_ee, xu_rne, xu_kne, ite_self, not_true_eq_false, not_false_eq_true, ne_eq, true_and, and_true, false_and, and_false, m1_lt0, m1_eq0, eq_self, Bool.false_eq_true, reduceCtorEq, z_lt0, i1_eq0, i0_eq1, i1_eq1, xrZ0, xrZ1, xrZt, n32_eq0, n32_eq1, n32_gt0, n32_gt1, n32_lt1, n32_le1, n32_0le, tf0, tf1, xaI_of, q4a, q4b, q4m, q4l, q4g, q4r, q4s, q4e, q12a, q12b, q12m, q12l, q12g, q12r, q12s, q12e, q32a, q32b, q32m, q32l, q32g, q32r, q32s, q32e, q52a, q52b, q52m, q52l, q52g, q52r, q52s, q52e, hS]
    by_cases q : S (32 + b) = n32 v
    · simp only [q, if_true]
    · simp only [q, if_false]
      refine (bX12_weightBy_2 _ e L I J _ _).trans ?_
      by_cases h0 : b = 0
      · subst h0
        have p0 : S (12 + 0) = -1 := wf_p0 hw hb
        have q2 : ¬ par S 0 < 0 := Nat.not_lt_zero _
        simp (disch := omega) only [n32_ltE, n32_leE, n32_eqE, n32_eqm, m1_eqn, n32_ge0, n32_lt0, n32_nat, n32_succ, n32_add, xin_n32, xin_b1, xin_b2, cond_true, cond_false, if_true, if_false, xcI_some, xcV_some, xcJ_some, xcR_some, xu_ee, xu_rne, xu_kne, ite_self, not_true_eq_false, not_false_eq_true, ne_eq, true_and, and_true, false_and, and_false, m1_lt0, m1_eq0, eq_self, Bool.false_eq_true, reduceCtorEq, z_lt0, i1_eq0, i0_eq1, i1_eq1, xrZ0, xrZ1, xrZt, n32_eq0, n32_eq1, n32_gt0, n32_gt1, n32_lt1, n32_le1, n32_0le, tf0, tf1, xaI_of, q12a, q12b, q12m, q12l, q12g, q12r, q12s, q12e, hS, p0, q2]
        refine (bX12_weightBy_1 _ e L I J _ _).trans ?_
        simp (disch := omega) only [n32_ltE, n32_leE, n32_eqE, n32_eqm, m1_eqn, n32_ge0, n32_lt0, n32_nat, n32_succ, n32_add, xin_n32, xin_b1, xin_b2, cond_true, cond_false, if_true, if_false, xcI_some, xcV_some, xcJ_some, xcR_some, xu_ee, xu_rne, xu_kne, ite_self, not_true_eq_false, not_false_eq_true, ne_eq, true_and, and_true, false_and, and_false, m1_lt0, m1_eq0, eq_self, Bool.false_eq_true, reduceCtorEq, z_lt0, i1_eq0, i0_eq1, i1_eq1, xrZ0, xrZ1, xrZt, n32_eq0, n32_eq1, n32_gt0, n32_gt1, n32_lt1, n32_le1, n32_0le, tf0, tf1, xaI_of, q4a, q4b, q4m, q4l, q4g, q4r, q4s, q4e, q12a, q12b, q12m, q12l, q12g, q12r, q12s, q12e, q32a, q32b, q32m, q32l, q32g, q32r, q32s, q32e, q52a, q52b, q52m, q52l, q52g, q52r, q52s, q52e, bX12_weightBy_0, bX12_weightBy_2, bX12_weightBy_3, hS]
      · obtain ⟨p1, p2⟩ := wf_p hw (show 0 < b by omega) hb
        simp (disch := omega) only [n32_ltE, n32_leE, n32_eqE, n32_eqm, m1_eqn, n32_ge0, n32_lt0, n32_nat, n32_succ, n32_add, xin_n32, xin_b1, xin_b2, cond_true, cond_false, if_true, if_false, xcI_some, xcV_some, xcJ_some, xcR_some, xu_ee, xu_rne, xu_kne, ite_self, not_true_eq_false, not_false_eq_true, ne_eq, true_and, and_true, false_and, and_false, m1_lt0, m1_eq0, eq_self, Bool.false_eq_true, reduceCtorEq, z_lt0, i1_eq0, i0_eq1, i1_eq1, xrZ0, xrZ1, xrZt, n32_eq0, n32_eq1, n32_gt0, n32_gt1, n32_lt1, n32_le1, n32_0le, tf0, tf1, xaI_of, q12a, q12b, q12m, q12l, q12g, q12r, q12s, q12e, hS, p1, p2]
        exact ih _ p2 (by omega)
theorem n32_mneg {a b c : Nat} (h : a < b) (hb : b ≤ 2) (h1 : 1 ≤ c) (h4 : c ≤ 4) : (n32 a - n32 b) * n32 c < 0 := by
  have q : (a = 0 ∧ b = 1) ∨ (a = 0 ∧ b = 2) ∨ (a = 1 ∧ b = 2) := by omega
  have q2 : c = 1 ∨ c = 2 ∨ c = 3 ∨ c = 4 := by omega
  rcases q with ⟨rfl, rfl⟩ | ⟨rfl, rfl⟩ | ⟨rfl, rfl⟩ <;> rcases q2 with rfl | rfl | rfl | rfl <;> decide
theorem wf_E0 (hw : wfT S) : ¬ S 0 = 0 := by
  have e1 := wf_E1 hw
  have e4 := wf_E4 hw
  rw [wf_0 hw, show (0 : Int32) = n32 0 from rfl, n32_eqE (by omega) (by omega)]
  omega
theorem r_level (hS : I 211 = S) (hw : wfT S) (hR : RT S I) (hb : b < sB S) : xcall xprog (d + 1) 186 [.ref 209, .int (n32 b)] (xst e L I J) = some (some (.int (n32 (lv S b))), xst e L I J) := by
  have h20 := wf_B hw
  have e4 := wf_E4 hw
  have hh := hi_lt (S := S) (b := b)
  rw [sX12_level d e L I J _ (xin_n32 (by omega) (by omega)) (by rw [hS]; exact wf_E0 hw), hS, n32_nat (by omega), (hR b hb).1, wf_0 hw, n32_div (by omega) (by omega)]
  rfl
theorem r_isPoint (hS : I 211 = S) (hw : wfT S) (hR : RT S I) (hb : b < sB S) : xcall xprog (d + 1) 185 [.ref 209, .int (n32 b)] (xst e L I J) = some (some (.int (if pt S b = true then 1 else 0)), xst e L I J) := by
  have h20 := wf_B hw
  have e4 := wf_E4 hw
  have e1 := wf_E1 hw
  have hh := hi_lt (S := S) (b := b)
  have hm : hei S b % sE S < 2147483648 := Nat.lt_of_lt_of_le (Nat.mod_lt _ (by omega)) (by omega)
  rw [sX12_isPoint d e L I J _ (xin_n32 (by omega) (by omega)) (by rw [hS]; exact wf_E0 hw), hS, n32_nat (by omega), (hR b hb).1, wf_0 hw, n32_rem (by omega) (by omega)]
  have hz : (n32 (hei S b % sE S) = 0) = (hei S b % sE S = 0) := n32_eqE (b := 0) hm (by omega)
  simp only [hz]
  unfold pt
  by_cases h : hei S b % sE S = 0 <;> simp [h]
theorem r_isAhead (hw : wfT S) (hR : RT S I) (ha : a < 32) (hb : b < sB S) : xcall xprog (d + 2) 187 [.ref 209, .int (n32 a), .int (n32 b)] (xst e L I J) = some (some (.int (if anc (par S) a b = true then 1 else 0)), xst e L I J) := by
  have h20 := wf_B hw
  rw [aX12_isAhead, bX12_isAhead_0, sX12_bitOf]
  simp (disch := omega) only [n32_ltE, n32_leE, n32_eqE, n32_eqm, m1_eqn, n32_ge0, n32_lt0, n32_nat, n32_succ, n32_add, xin_n32, xin_b1, xin_b2, cond_true, cond_false, if_true, if_false, xcI_some, xcV_some, xcJ_some, xcR_some, xu_ee, xu_rne, xu_kne, ite_self, not_true_eq_false, not_false_eq_true, ne_eq, true_and, and_true, false_and, and_false, m1_lt0, m1_eq0, eq_self, Bool.false_eq_true, reduceCtorEq, z_lt0, i1_eq0, i0_eq1, i1_eq1, xrZ0, xrZ1, xrZt, n32_eq0, n32_eq1, n32_gt0, n32_gt1, n32_lt1, n32_le1, n32_0le, tf0, tf1, xaI_of, ekX12_isAhead_0_5, bX12_isAhead_0, (hR b hb).2, bt_t1, bt_ahs]
theorem r_weightFor (hS : I 211 = S) (hw : wfT S) (hR : RT S I) (ht : t < sB S) (hv : v < sV S) (h1 : 1 ≤ k) (h2 : k ≤ 2) : xcall xprog (d + 2) 190 [.ref 209, .int (n32 t), .int (n32 k), .int (n32 v)] (xst e L I J) = some (some (.int (wfo S t k v)), xst e L I J) := by
  have h20 := wf_B hw
  have h8 := wf_V8 hw
  have e4 := wf_E4 hw
  have e1 := wf_E1 hw
  have hl := lv_le (S := S) (b := t)
  rw [aX12_weightFor, bX12_weightFor_0, r_level hS hw hR ht]
  unfold wfo
  by_cases hk : lv S t < k
  · have q := n32_mneg hk h2 e1 e4
    simp (disch := omega) only [n32_ltE, n32_leE, n32_eqE, n32_eqm, m1_eqn, n32_ge0, n32_lt0, n32_nat, n32_succ, n32_add, xin_n32, xin_b1, xin_b2, cond_true, cond_false, if_true, if_false, xcI_some, xcV_some, xcJ_some, xcR_some, xu_ee, xu_rne, xu_kne, ite_self, not_true_eq_false, not_false_eq_true, ne_eq, true_and, and_true, false_and, and_false, m1_lt0, m1_eq0, eq_self, Bool.false_eq_true, reduceCtorEq, z_lt0, i1_eq0, i0_eq1, i1_eq1, xrZ0, xrZ1, xrZt, n32_eq0, n32_eq1, n32_gt0, n32_gt1, n32_lt1, n32_le1, n32_0le, tf0, tf1, xaI_of, q4a, q4b, q4m, q4l, q4g, q4r, q4s, q4e, q12a, q12b, q12m, q12l, q12g, q12r, q12s, q12e, ekX12_weightFor_0_2, bX12_weightFor_0, bX12_weightFor_1, ekX12_weightFor_3_3, bX12_weightFor_3, hS, wf_0 hw, q, hk]
  · have hb : (lv S t - k) * sE S < 2147483648 := Nat.lt_of_le_of_lt (Nat.mul_le_mul (show lv S t - k ≤ 20 by omega) e4) (by omega)
    simp (disch := omega) only [n32_ltE, n32_leE, n32_eqE, n32_eqm, m1_eqn, n32_ge0, n32_lt0, n32_nat, n32_succ, n32_add, xin_n32, xin_b1, xin_b2, cond_true, cond_false, if_true, if_false, xcI_some, xcV_some, xcJ_some, xcR_some, xu_ee, xu_rne, xu_kne, ite_self, not_true_eq_false, not_false_eq_true, ne_eq, true_and, and_true, false_and, and_false, m1_lt0, m1_eq0, eq_self, Bool.false_eq_true, reduceCtorEq, z_lt0, i1_eq0, i0_eq1, i1_eq1, xrZ0, xrZ1, xrZt, n32_eq0, n32_eq1, n32_gt0, n32_gt1, n32_lt1, n32_le1, n32_0le, tf0, tf1, xaI_of, q4a, q4b, q4m, q4l, q4g, q4r, q4s, q4e, q12a, q12b, q12m, q12l, q12g, q12r, q12s, q12e, ekX12_weightFor_0_2, bX12_weightFor_0, bX12_weightFor_1, ekX12_weightFor_3_3, bX12_weightFor_3, hS, wf_0 hw, hk, n32_sub, n32_mul]
    generalize (lv S t - k) * sE S = to at hb ⊢
    clear hl hk
    induction t using Nat.strongRecOn with
    | _ t ih =>
      refine (bX12_weightFor_2 _ e L I J _ _ _).trans ?_
      have hh := hi_lt (S := S) (b := t)
      rw [clm]
      by_cases q : to < hgt (par S) t
      · have q1 : ¬ hei S t ≤ to := by show ¬ hgt (par S) t ≤ to; omega
        have h0 : 0 < t := by
          by_cases z : t = 0
          · subst z
            rw [hgt_z (Nat.not_lt_zero _)] at q
            omega
          · omega
        obtain ⟨p1, p2⟩ := wf_p hw h0 ht
        simp (disch := omega) only [n32_ltE, n32_leE, n32_eqE, n32_eqm, m1_eqn, n32_ge0, n32_lt0, n32_nat, n32_succ, n32_add, xin_n32, xin_b1, xin_b2, cond_true, cond_false, if_true, if_false, xcI_some, xcV_some, xcJ_some, xcR_some, xu_ee, xu_rne, xu_kne, ite_self, not_true_eq_false, not_false_eq_true, ne_eq, true_and, and_true, false_and, and_false, m1_lt0, m1_eq0, eq_self, Bool.false_eq_true, reduceCtorEq, z_lt0, i1_eq0, i0_eq1, i1_eq1, xrZ0, xrZ1, xrZt, n32_eq0, n32_eq1, n32_gt0, n32_gt1, n32_lt1, n32_le1, n32_0le, tf0, tf1, xaI_of, q12a, q12b, q12m, q12l, q12g, q12r, q12s, q12e, hS, (hR t ht).1, q1, p1, p2, q]
        exact ih _ p2 (by omega)
      · have q1 : hei S t ≤ to := by show hgt (par S) t ≤ to; omega
        simp (disch := omega) only [n32_ltE, n32_leE, n32_eqE, n32_eqm, m1_eqn, n32_ge0, n32_lt0, n32_nat, n32_succ, n32_add, xin_n32, xin_b1, xin_b2, cond_true, cond_false, if_true, if_false, xcI_some, xcV_some, xcJ_some, xcR_some, xu_ee, xu_rne, xu_kne, ite_self, not_true_eq_false, not_false_eq_true, ne_eq, true_and, and_true, false_and, and_false, m1_lt0, m1_eq0, eq_self, Bool.false_eq_true, reduceCtorEq, z_lt0, i1_eq0, i0_eq1, i1_eq1, xrZ0, xrZ1, xrZt, n32_eq0, n32_eq1, n32_gt0, n32_gt1, n32_lt1, n32_le1, n32_0le, tf0, tf1, xaI_of, q4a, q4b, q4m, q4l, q4g, q4r, q4s, q4e, q12a, q12b, q12m, q12l, q12g, q12r, q12s, q12e, hS, (hR t ht).1, q1, q, ekX12_weightFor_0_2, bX12_weightFor_0, bX12_weightFor_1, ekX12_weightFor_3_3, bX12_weightFor_3, r_weightBy hS hw ht hv]
theorem r_sum (hS : I 211 = S) (hw : wfT S) (hR : RT S I) (ht : t < sB S) (h1 : 1 ≤ k) (h2 : k ≤ 2) {x : Int32} : xcall xprog (d + 3) 191 [.ref 209, .int x, .int (n32 t), .int (n32 k)] (xst e L I J) = some (some (.int (smv (wfo S t k) x (sV S))), xst e L I J) := by
  have h8 := wf_V8 hw
  refine (aX12_sum _ e L I J _ _ _).trans ((bX12_sum_0 _ e L I J _ _ _).trans ?_)
  refine (xfor_fold (fun i a => xlim (xcall xprog (d + 2)) mX12_sum 1 [.ref 209, .int x, .int (n32 t), .int (n32 k), .int a, .int (n32 i)] [] (xst e L I J)) (fun u a => if bt x u = true then a + wfo S t k u else a) (n := sV S) (fun i a hi => ?_) 0).trans ?_
  · refine (bX12_sum_1 _ e L I J _ _ _ a (n32 i)).trans ?_
    simp (disch := omega) only [n32_ltE, n32_leE, n32_eqE, n32_eqm, m1_eqn, n32_ge0, n32_lt0, n32_nat, n32_succ, n32_add, xin_n32, xin_b1, xin_b2, cond_true, cond_false, if_true, if_false, xcI_some, xcV_some, xcJ_some, xcR_some, xu_ee, xu_rne, xu_kne, ite_self, not_true_eq_false, not_false_eq_true, ne_eq, true_and, and_true, false_and, and_false, m1_lt0, m1_eq0, eq_self, Bool.false_eq_true, reduceCtorEq, z_lt0, i1_eq0, i0_eq1, i1_eq1, xrZ0, xrZ1, xrZt, n32_eq0, n32_eq1, n32_gt0, n32_gt1, n32_lt1, n32_le1, n32_0le, tf0, tf1, xaI_of, bX12_sum_0, ekX12_sum_1_15, ekX12_sum_1_8, bX12_sum_2, bX12_sum_3, hS, wf_1 hw, hi, sX12_bitOf, bt_t1, r_weightFor hS hw hR ht hi h1 h2]
    by_cases hb : bt x i = true <;> simp only [hb, if_true, if_false, Bool.false_eq_true, not_true_eq_false, not_false_eq_true]
  · refine (bX12_sum_1 _ e L I J _ _ _ _ (n32 (sV S))).trans ?_
    simp (disch := omega) only [n32_ltE, n32_leE, n32_eqE, n32_eqm, m1_eqn, n32_ge0, n32_lt0, n32_nat, n32_succ, n32_add, xin_n32, xin_b1, xin_b2, cond_true, cond_false, if_true, if_false, xcI_some, xcV_some, xcJ_some, xcR_some, xu_ee, xu_rne, xu_kne, ite_self, not_true_eq_false, not_false_eq_true, ne_eq, true_and, and_true, false_and, and_false, m1_lt0, m1_eq0, eq_self, Bool.false_eq_true, reduceCtorEq, z_lt0, i1_eq0, i0_eq1, i1_eq1, xrZ0, xrZ1, xrZt, n32_eq0, n32_eq1, n32_gt0, n32_gt1, n32_lt1, n32_le1, n32_0le, tf0, tf1, xaI_of, bX12_sum_0, ekX12_sum_1_15, ekX12_sum_1_8, bX12_sum_2, bX12_sum_3, hS, wf_1 hw, Nat.lt_irrefl]
    rfl
theorem r_isEnough (hS : I 211 = S) (hw : wfT S) (hR : RT S I) (ht : t < sB S) (h1 : 1 ≤ k) (h2 : k ≤ 2) {x : Int32} : xcall xprog (d + 4) 192 [.ref 209, .int x, .int (n32 t), .int (n32 k)] (xst e L I J) = some (some (.int (if tth (wfo S t k) x (sV S) = true then 1 else 0)), xst e L I J) := by
  rw [aX12_isEnough, bX12_isEnough_0, r_sum hS hw hR ht h1 h2]
  simp (disch := omega) only [n32_ltE, n32_leE, n32_eqE, n32_eqm, m1_eqn, n32_ge0, n32_lt0, n32_nat, n32_succ, n32_add, xin_n32, xin_b1, xin_b2, cond_true, cond_false, if_true, if_false, xcI_some, xcV_some, xcJ_some, xcR_some, xu_ee, xu_rne, xu_kne, ite_self, not_true_eq_false, not_false_eq_true, ne_eq, true_and, and_true, false_and, and_false, m1_lt0, m1_eq0, eq_self, Bool.false_eq_true, reduceCtorEq, z_lt0, i1_eq0, i0_eq1, i1_eq1, xrZ0, xrZ1, xrZt, n32_eq0, n32_eq1, n32_gt0, n32_gt1, n32_lt1, n32_le1, n32_0le, tf0, tf1, xaI_of, q2a, q2b, q2m, q2l, q2g, q2r, q2s, q2e, ekX12_isEnough_0_13, ekX12_isEnough_0_4, bX12_isEnough_0, bX12_isEnough_1, bX12_isEnough_2, r_sum hS hw hR ht h1 h2]
  unfold tth
  by_cases q1 : smv (wfo S t k) 255 (sV S) ≤ 0
  · simp [q1]
  · by_cases q2 : 3 * smv (wfo S t k) x (sV S) < 2 * smv (wfo S t k) 255 (sV S)
    · simp [q1, q2]
    · simp [q1, q2]
theorem r_counts (hS : I 211 = S) (hw : wfT S) (hR : RT S I) (ht : t < sB S) {x : Int32} : xcall xprog (d + 5) 193 [.ref 209, .int x, .int (n32 t)] (xst e L I J) = some (some (.int (if cts S x t = true then 1 else 0)), xst e L I J) := by
  have q1 := r_isEnough (d := d) (e := e) (L := L) (J := J) (k := 1) hS hw hR ht (by omega) (by omega) (x := x)
  have q2 := r_isEnough (d := d) (e := e) (L := L) (J := J) (k := 2) hS hw hR ht (by omega) (by omega) (x := x)
  rw [aX12_counts, bX12_counts_0]
  refine xk1 q1 ?_
  rw [ekX12_counts_0_4]
  simp (disch := omega) only [n32_ltE, n32_leE, n32_eqE, n32_eqm, m1_eqn, n32_ge0, n32_lt0, n32_nat, n32_succ, n32_add, xin_n32, xin_b1, xin_b2, cond_true, cond_false, if_true, if_false, xcI_some, xcV_some, xcJ_some, xcR_some, xu_ee, xu_rne, xu_kne, ite_self, not_true_eq_false, not_false_eq_true, ne_eq, true_and, and_true, false_and, and_false, m1_lt0, m1_eq0, eq_self, Bool.false_eq_true, reduceCtorEq, z_lt0, i1_eq0, i0_eq1, i1_eq1, xrZ0, xrZ1, xrZt, n32_eq0, n32_eq1, n32_gt0, n32_gt1, n32_lt1, n32_le1, n32_0le, tf0, tf1, xaI_of, ekX12_counts_0_10, ekX12_counts_0_4, bX12_counts_0, bX12_counts_1, bX12_counts_2]
  unfold cts
  cases h1 : tth (wfo S t 1) x (sV S)
  · simp
  · simp only [Bool.true_and, not_true_eq_false, if_false]
    refine xk1 q2 ?_
    simp (disch := omega) only [n32_ltE, n32_leE, n32_eqE, n32_eqm, m1_eqn, n32_ge0, n32_lt0, n32_nat, n32_succ, n32_add, xin_n32, xin_b1, xin_b2, cond_true, cond_false, if_true, if_false, xcI_some, xcV_some, xcJ_some, xcR_some, xu_ee, xu_rne, xu_kne, ite_self, not_true_eq_false, not_false_eq_true, ne_eq, true_and, and_true, false_and, and_false, m1_lt0, m1_eq0, eq_self, Bool.false_eq_true, reduceCtorEq, z_lt0, i1_eq0, i0_eq1, i1_eq1, xrZ0, xrZ1, xrZt, n32_eq0, n32_eq1, n32_gt0, n32_gt1, n32_lt1, n32_le1, n32_0le, tf0, tf1, xaI_of, ekX12_counts_0_10, ekX12_counts_0_4, bX12_counts_0, bX12_counts_1, bX12_counts_2]
    cases h2 : tth (wfo S t 2) x (sV S) <;> rfl
end RTS
