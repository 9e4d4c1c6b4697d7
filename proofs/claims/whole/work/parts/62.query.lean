/-! Calls that only ask: votes that would offend, pairs, clashes. -/
theorem xfirst {β : Type} (f : Nat → β) (p : Nat → Bool) (R : Nat → β) {Z : β} {n : Nat} (h1 : ∀ i, i < n → p i = false → f i = f (i + 1)) (h2 : ∀ i, i < n → p i = true → f i = R i) (h3 : f n = Z) : (∃ i, i < n ∧ p i = true ∧ (∀ j, j < i → p j = false) ∧ f 0 = R i) ∨ ((∀ i, i < n → p i = false) ∧ f 0 = Z) := by
  have key : ∀ m, m ≤ n → (∃ i, i < m ∧ p i = true ∧ (∀ j, j < i → p j = false) ∧ f 0 = R i) ∨ ((∀ i, i < m → p i = false) ∧ f 0 = f m) := by
    intro m
    induction m with
    | zero => exact fun _ => Or.inr ⟨fun i hi => absurd hi (Nat.not_lt_zero i), rfl⟩
    | succ m ih =>
      intro hm
      rcases ih (by omega) with ⟨i, a1, a2, a3, a4⟩ | ⟨a1, a2⟩
      · exact Or.inl ⟨i, by omega, a2, a3, a4⟩
      · cases q : p m with
        | true => exact Or.inl ⟨m, by omega, q, a1, a2.trans (h2 m (by omega) q)⟩
        | false =>
          refine Or.inr ⟨fun i hi => ?_, a2.trans (h1 m (by omega) q)⟩
          by_cases z : i = m
          · rw [z, q]
          · exact a1 i (by omega)
  rcases key n (Nat.le_refl _) with h | ⟨a1, a2⟩
  · exact Or.inl h
  · exact Or.inr ⟨a1, a2.trans h3⟩
theorem first_or (p : Nat → Bool) (n : Nat) : (∃ i, i < n ∧ p i = true ∧ ∀ j, j < i → p j = false) ∨ ∀ i, i < n → p i = false := by
  rcases xfirst (fun _ => ()) p (fun _ => ()) (Z := ()) (n := n) (fun _ _ _ => rfl) (fun _ _ _ => rfl) rfl with ⟨i, a1, a2, a3, _⟩ | ⟨a1, _⟩
  · exact Or.inl ⟨i, a1, a2, a3⟩
  · exact Or.inr a1
section QO
variable {d e L : Nat} {S : TS} {N : Nat → Int64} {I K M : TI} {J : TJ} {a b s t v k i n : Nat}
theorem bt_mkN (hk : wfK S) (hw : wfT S) (hv : v < 32) (hn : n ≤ sK S) : bt (mkN S n s t) v = exN (fun i => vo S i == v && so S i == s && ta S i == t) n := by
  have h8 := wf_V8 hw
  induction n with
  | zero => exact bt_zero v
  | succ n ih =>
    have hv1 := k_vl hk (show n < sK S by omega)
    rw [mkN_s, exN_s, ← ih (by omega)]
    by_cases q : so S n = s ∧ ta S n = t
    · rw [if_pos q, bt_set _ (by omega) hv]
      congr 1
      by_cases z : v = vo S n
      · simp [z, q.1, q.2]
      · have z' : ¬ vo S n = v := fun h => z h.symm
        simp [z, z']
    · rw [if_neg q]
      have : (vo S n == v && so S n == s && ta S n == t) = false := by
        by_cases z1 : so S n = s
        · have z2 : ¬ ta S n = t := fun h => q ⟨z1, h⟩
          simp [z2]
        · simp [z1]
      rw [this, Bool.or_false]
theorem bt_mk (hk : wfK S) (hw : wfT S) (hv : v < 32) : bt (mk S s t) v = hld S v s t := bt_mkN hk hw hv (Nat.le_refl _)
theorem r_whyVote (hC : RS S I) (hv : v < 8) (hs : s < sB S) (ht : t < sB S) : RR (xcall xprog (d + 8) 212 [.ref 209, .int (n32 v), .int (n32 s), .int (n32 t)] (xst e L I J)) (zI e L fun x K J' => x = n32 (why S v s t) ∧ J' = J ∧ lfr K I ∧ Rf S K ∧ RS S K) := by
  have hw := hC.1.1
  have hk := hC.1.2.1
  have h20 := wf_B hw
  have h48 := k_48 hk
  refine RR_eq ((aX12_whyVote _ e L I J _ _ _).trans (bX12_whyVote_0 _ e L I J _ _ _)) ?_
  refine RR_cV (r_lays (d := d) hC) (fun K J' ⟨j1, f1, hF, hC2⟩ => ?_)
  subst j1
  have hm := hF.2.2.2.2.2.2.2.2.1 s t (by omega) (by omega)
  simp (disch := omega) only [n32_ltE, n32_leE, n32_eqE, n32_eqm, m1_eqn, n32_ge0, n32_lt0, n32_nat, n32_succ, n32_add, xin_n32, xin_b1, xin_b2, cond_true, cond_false, if_true, if_false, xcI_some, xcV_some, xcJ_some, xcR_some, xu_ee, xu_rne, xu_kne, ite_self, not_true_eq_false, not_false_eq_true, ne_eq, true_and, and_true, false_and, and_false, m1_lt0, m1_eq0, eq_self, Bool.false_eq_true, reduceCtorEq, z_lt0, i1_eq0, i0_eq1, i1_eq1, xrZ0, xrZ1, xrZt, n32_eq0, n32_eq1, n32_gt0, n32_gt1, n32_lt1, n32_le1, n32_0le, tf0, tf1, xaI_of, q20a, q20b, q20m, q20l, q20g, q20r, q20s, q20e, q48a, q48b, q48m, q48l, q48g, q48r, q48s, q48e, ekX12_whyVote_0_8, ekX12_whyVote_0_4, ekX12_whyVote_0_1, bX12_whyVote_0, bX12_whyVote_1, ekX12_whyVote_2_3, bX12_whyVote_2, ekX12_whyVote_3_9, bX12_whyVote_3, bX12_whyVote_4, bX12_whyVote_5, bX12_whyVote_6, r_isPoint hC2.2.1 hw hF.1 hs, r_isPoint hC2.2.1 hw hF.1 ht, r_isAhead hw hF.1 (show s < 32 by omega) ht, n32_20, hm, sX12_bitOf, bt_t1, bt_mk hk hw, hC2.2.1, k_3 hk]
  have e1 : (sK S = 48) = ¬ sK S < 48 := propext ⟨fun h => by omega, fun h => by omega⟩
  simp only [e1]
  unfold why
  cases pt S s <;> cases pt S t <;> cases anc (par S) s t <;> cases hld S v s t <;> by_cases q : sK S < 48 <;> simp [q] <;> exact RR_I ⟨rfl, rfl, f1, hF, hC2⟩
theorem q_offends (hW : WS S) (x y z : Int32) : same S N 127 225 [.int x, .int y, .int z] := by
  have hw := hW.1
  have hk := hW.2.1
  have h20 := wf_B hw
  have h8 := wf_V8 hw
  rcases inr_or x (sV S) (by omega) with ⟨v, hv, rfl⟩ | hx
  rotate_left
  · refine ⟨-1, fun d e L I J hC => ?_, fun d e L I J hC => ?_⟩
    · refine RR_eq ((aX11_offends _ e L I J _ _ _).trans (bX11_offends_0 _ e L I J _ _ _)) ?_
      simp (disch := omega) only [n32_ltE, n32_leE, n32_eqE, n32_eqm, m1_eqn, n32_ge0, n32_lt0, n32_nat, n32_succ, n32_add, xin_n32, xin_b1, xin_b2, cond_true, cond_false, if_true, if_false, xcI_some, xcV_some, xcJ_some, xcR_some, xu_ee, xu_rne, xu_kne, ite_self, not_true_eq_false, not_false_eq_true, ne_eq, true_and, and_true, false_and, and_false, m1_lt0, m1_eq0, eq_self, Bool.false_eq_true, reduceCtorEq, z_lt0, i1_eq0, i0_eq1, i1_eq1, xrZ0, xrZ1, xrZt, n32_eq0, n32_eq1, n32_gt0, n32_gt1, n32_lt1, n32_le1, n32_0le, tf0, tf1, xaI_of, c_hasVoter_n hC.2.1 hw hx, ekX11_offends_0_16, ekX11_offends_0_9, ekX11_offends_0_3, bX11_offends_0, bX11_offends_1, ekX11_offends_2_5, bX11_offends_2]
      exact RR_I (oC_r hC)
    · refine RR_eq ((aX12_offends _ e L I J _ _ _).trans (bX12_offends_0 _ e L I J _ _ _)) ?_
      simp (disch := omega) only [n32_ltE, n32_leE, n32_eqE, n32_eqm, m1_eqn, n32_ge0, n32_lt0, n32_nat, n32_succ, n32_add, xin_n32, xin_b1, xin_b2, cond_true, cond_false, if_true, if_false, xcI_some, xcV_some, xcJ_some, xcR_some, xu_ee, xu_rne, xu_kne, ite_self, not_true_eq_false, not_false_eq_true, ne_eq, true_and, and_true, false_and, and_false, m1_lt0, m1_eq0, eq_self, Bool.false_eq_true, reduceCtorEq, z_lt0, i1_eq0, i0_eq1, i1_eq1, xrZ0, xrZ1, xrZt, n32_eq0, n32_eq1, n32_gt0, n32_gt1, n32_lt1, n32_le1, n32_0le, tf0, tf1, xaI_of, r_isVoter_n (S0 hC.2.1) hw hx, ekX12_offends_0_13, ekX12_offends_0_9, ekX12_offends_0_5, bX12_offends_0, bX12_offends_1, ekX12_offends_2_9, ekX12_offends_2_4, bX12_offends_2, ekX12_offends_3_4, bX12_offends_3, bX12_offends_4]
      exact RR_I (oR_0 hC)
  have hv8 : v < 8 := by omega
  rcases inr_or y (sB S) (by omega) with ⟨s, hs, rfl⟩ | hy
  rotate_left
  · refine ⟨-1, fun d e L I J hC => ?_, fun d e L I J hC => ?_⟩
    · refine RR_eq ((aX11_offends _ e L I J _ _ _).trans (bX11_offends_0 _ e L I J _ _ _)) ?_
      simp (disch := omega) only [n32_ltE, n32_leE, n32_eqE, n32_eqm, m1_eqn, n32_ge0, n32_lt0, n32_nat, n32_succ, n32_add, xin_n32, xin_b1, xin_b2, cond_true, cond_false, if_true, if_false, xcI_some, xcV_some, xcJ_some, xcR_some, xu_ee, xu_rne, xu_kne, ite_self, not_true_eq_false, not_false_eq_true, ne_eq, true_and, and_true, false_and, and_false, m1_lt0, m1_eq0, eq_self, Bool.false_eq_true, reduceCtorEq, z_lt0, i1_eq0, i0_eq1, i1_eq1, xrZ0, xrZ1, xrZt, n32_eq0, n32_eq1, n32_gt0, n32_gt1, n32_lt1, n32_le1, n32_0le, tf0, tf1, xaI_of, c_hasVoter_y hC.2.1 hw hv, ekX11_offends_0_16, ekX11_offends_0_9, ekX11_offends_0_3, bX11_offends_0, bX11_offends_1, ekX11_offends_2_5, bX11_offends_2, c_isLink_n1 hC.2.1 hw hy]
      exact RR_I (oC_r hC)
    · refine RR_eq ((aX12_offends _ e L I J _ _ _).trans (bX12_offends_0 _ e L I J _ _ _)) ?_
      simp (disch := omega) only [n32_ltE, n32_leE, n32_eqE, n32_eqm, m1_eqn, n32_ge0, n32_lt0, n32_nat, n32_succ, n32_add, xin_n32, xin_b1, xin_b2, cond_true, cond_false, if_true, if_false, xcI_some, xcV_some, xcJ_some, xcR_some, xu_ee, xu_rne, xu_kne, ite_self, not_true_eq_false, not_false_eq_true, ne_eq, true_and, and_true, false_and, and_false, m1_lt0, m1_eq0, eq_self, Bool.false_eq_true, reduceCtorEq, z_lt0, i1_eq0, i0_eq1, i1_eq1, xrZ0, xrZ1, xrZt, n32_eq0, n32_eq1, n32_gt0, n32_gt1, n32_lt1, n32_le1, n32_0le, tf0, tf1, xaI_of, r_isVoter_y (S0 hC.2.1) hw hv, r_isBlock_n (S0 hC.2.1) hw hy, ekX12_offends_0_13, ekX12_offends_0_9, ekX12_offends_0_5, bX12_offends_0, bX12_offends_1, ekX12_offends_2_9, ekX12_offends_2_4, bX12_offends_2, ekX12_offends_3_4, bX12_offends_3, bX12_offends_4]
      exact RR_I (oR_0 hC)
  rcases inr_or z (sB S) (by omega) with ⟨t, ht, rfl⟩ | hz
  rotate_left
  · refine ⟨-1, fun d e L I J hC => ?_, fun d e L I J hC => ?_⟩
    · refine RR_eq ((aX11_offends _ e L I J _ _ _).trans (bX11_offends_0 _ e L I J _ _ _)) ?_
      simp (disch := omega) only [n32_ltE, n32_leE, n32_eqE, n32_eqm, m1_eqn, n32_ge0, n32_lt0, n32_nat, n32_succ, n32_add, xin_n32, xin_b1, xin_b2, cond_true, cond_false, if_true, if_false, xcI_some, xcV_some, xcJ_some, xcR_some, xu_ee, xu_rne, xu_kne, ite_self, not_true_eq_false, not_false_eq_true, ne_eq, true_and, and_true, false_and, and_false, m1_lt0, m1_eq0, eq_self, Bool.false_eq_true, reduceCtorEq, z_lt0, i1_eq0, i0_eq1, i1_eq1, xrZ0, xrZ1, xrZt, n32_eq0, n32_eq1, n32_gt0, n32_gt1, n32_lt1, n32_le1, n32_0le, tf0, tf1, xaI_of, c_hasVoter_y hC.2.1 hw hv, ekX11_offends_0_16, ekX11_offends_0_9, ekX11_offends_0_3, bX11_offends_0, bX11_offends_1, ekX11_offends_2_5, bX11_offends_2, c_isLink_n2 hC.2.1 hw hs hz]
      exact RR_I (oC_r hC)
    · refine RR_eq ((aX12_offends _ e L I J _ _ _).trans (bX12_offends_0 _ e L I J _ _ _)) ?_
      simp (disch := omega) only [n32_ltE, n32_leE, n32_eqE, n32_eqm, m1_eqn, n32_ge0, n32_lt0, n32_nat, n32_succ, n32_add, xin_n32, xin_b1, xin_b2, cond_true, cond_false, if_true, if_false, xcI_some, xcV_some, xcJ_some, xcR_some, xu_ee, xu_rne, xu_kne, ite_self, not_true_eq_false, not_false_eq_true, ne_eq, true_and, and_true, false_and, and_false, m1_lt0, m1_eq0, eq_self, Bool.false_eq_true, reduceCtorEq, z_lt0, i1_eq0, i0_eq1, i1_eq1, xrZ0, xrZ1, xrZt, n32_eq0, n32_eq1, n32_gt0, n32_gt1, n32_lt1, n32_le1, n32_0le, tf0, tf1, xaI_of, r_isVoter_y (S0 hC.2.1) hw hv, r_isBlock_y (S0 hC.2.1) hw hs, r_isBlock_n (S0 hC.2.1) hw hz, ekX12_offends_0_13, ekX12_offends_0_9, ekX12_offends_0_5, bX12_offends_0, bX12_offends_1, ekX12_offends_2_9, ekX12_offends_2_4, bX12_offends_2, ekX12_offends_3_4, bX12_offends_3, bX12_offends_4]
      exact RR_I (oR_0 hC)
  have hwl : why S v s t ≤ 4 := by
    unfold why
    split
    · split
      · split
        · omega
        · split <;> omega
      · omega
    · omega
  by_cases hq : (pt S s && pt S t && anc (par S) s t) = true ∧ hld S v s t = false
  · obtain ⟨q1, q2⟩ := hq
    simp only [Bool.and_eq_true] at q1
    obtain ⟨⟨ps, pq⟩, ha⟩ := q1
    refine ⟨n32 (lof S v s t (sK S)), fun d e L I J hC => ?_, fun d e L I J hC => ?_⟩
    · refine RR_eq ((aX11_offends _ e L I J _ _ _).trans (bX11_offends_0 _ e L I J _ _ _)) ?_
      simp (disch := omega) only [n32_ltE, n32_leE, n32_eqE, n32_eqm, m1_eqn, n32_ge0, n32_lt0, n32_nat, n32_succ, n32_add, xin_n32, xin_b1, xin_b2, cond_true, cond_false, if_true, if_false, xcI_some, xcV_some, xcJ_some, xcR_some, xu_ee, xu_rne, xu_kne, ite_self, not_true_eq_false, not_false_eq_true, ne_eq, true_and, and_true, false_and, and_false, m1_lt0, m1_eq0, eq_self, Bool.false_eq_true, reduceCtorEq, z_lt0, i1_eq0, i0_eq1, i1_eq1, xrZ0, xrZ1, xrZt, n32_eq0, n32_eq1, n32_gt0, n32_gt1, n32_lt1, n32_le1, n32_0le, tf0, tf1, xaI_of, c_hasVoter_y hC.2.1 hw hv, ekX11_offends_0_16, ekX11_offends_0_9, ekX11_offends_0_3, bX11_offends_0, bX11_offends_1, ekX11_offends_2_5, bX11_offends_2, c_isLink hC.2.1 hw hs ht, ps, pq, ha, Bool.and_self, c_holds hC.2.2.1 hk hw hv8 (show s < 20 by omega) (show t < 20 by omega), q2, c_offenceOf hC.2.1 hw hC.2.2.1 hk hv8 hs ht ps pq]
      exact RR_I (oC_r hC)
    · refine RR_eq ((aX12_offends _ e L I J _ _ _).trans (bX12_offends_0 _ e L I J _ _ _)) ?_
      simp (disch := omega) only [n32_ltE, n32_leE, n32_eqE, n32_eqm, m1_eqn, n32_ge0, n32_lt0, n32_nat, n32_succ, n32_add, xin_n32, xin_b1, xin_b2, cond_true, cond_false, if_true, if_false, xcI_some, xcV_some, xcJ_some, xcR_some, xu_ee, xu_rne, xu_kne, ite_self, not_true_eq_false, not_false_eq_true, ne_eq, true_and, and_true, false_and, and_false, m1_lt0, m1_eq0, eq_self, Bool.false_eq_true, reduceCtorEq, z_lt0, i1_eq0, i0_eq1, i1_eq1, xrZ0, xrZ1, xrZt, n32_eq0, n32_eq1, n32_gt0, n32_gt1, n32_lt1, n32_le1, n32_0le, tf0, tf1, xaI_of, r_isVoter_y (S0 hC.2.1) hw hv, r_isBlock_y (S0 hC.2.1) hw hs, r_isBlock_y (S0 hC.2.1) hw ht, ekX12_offends_0_13, ekX12_offends_0_9, ekX12_offends_0_5, bX12_offends_0, bX12_offends_1, ekX12_offends_2_9, ekX12_offends_2_4, bX12_offends_2, ekX12_offends_3_4, bX12_offends_3, bX12_offends_4]
      refine RR_cI (r_whyVote (d := d + 3) (RS_0 hC) hv8 hs ht) (fun x K J' ⟨x1, j1, f1, hF, hC2⟩ => ?_)
      subst x1 j1
      have hwy : ¬ (1 ≤ why S v s t ∧ why S v s t ≤ 3) := by
        unfold why
        rw [ps, pq, ha, q2]
        by_cases z : sK S < 48 <;> simp [z]
      by_cases z : why S v s t < 1
      · simp (disch := omega) only [n32_ltE, n32_leE, n32_eqE, n32_eqm, m1_eqn, n32_ge0, n32_lt0, n32_nat, n32_succ, n32_add, xin_n32, xin_b1, xin_b2, cond_true, cond_false, if_true, if_false, xcI_some, xcV_some, xcJ_some, xcR_some, xu_ee, xu_rne, xu_kne, ite_self, not_true_eq_false, not_false_eq_true, ne_eq, true_and, and_true, false_and, and_false, m1_lt0, m1_eq0, eq_self, Bool.false_eq_true, reduceCtorEq, z_lt0, i1_eq0, i0_eq1, i1_eq1, xrZ0, xrZ1, xrZt, n32_eq0, n32_eq1, n32_gt0, n32_gt1, n32_lt1, n32_le1, n32_0le, tf0, tf1, xaI_of, ekX12_offends_0_13, ekX12_offends_0_9, ekX12_offends_0_5, bX12_offends_0, bX12_offends_1, ekX12_offends_2_9, ekX12_offends_2_4, bX12_offends_2, ekX12_offends_3_4, bX12_offends_3, bX12_offends_4, sX12_isIn, z, r_offenceOf hC2.2.1 hw hF.1 hk hv8 hs ht]
        exact RR_I (oR_l f1 hC2)
      · have z2 : ¬ why S v s t ≤ 3 := by omega
        simp (disch := omega) only [n32_ltE, n32_leE, n32_eqE, n32_eqm, m1_eqn, n32_ge0, n32_lt0, n32_nat, n32_succ, n32_add, xin_n32, xin_b1, xin_b2, cond_true, cond_false, if_true, if_false, xcI_some, xcV_some, xcJ_some, xcR_some, xu_ee, xu_rne, xu_kne, ite_self, not_true_eq_false, not_false_eq_true, ne_eq, true_and, and_true, false_and, and_false, m1_lt0, m1_eq0, eq_self, Bool.false_eq_true, reduceCtorEq, z_lt0, i1_eq0, i0_eq1, i1_eq1, xrZ0, xrZ1, xrZt, n32_eq0, n32_eq1, n32_gt0, n32_gt1, n32_lt1, n32_le1, n32_0le, tf0, tf1, xaI_of, q3a, q3b, q3m, q3l, q3g, q3r, q3s, q3e, ekX12_offends_0_13, ekX12_offends_0_9, ekX12_offends_0_5, bX12_offends_0, bX12_offends_1, ekX12_offends_2_9, ekX12_offends_2_4, bX12_offends_2, ekX12_offends_3_4, bX12_offends_3, bX12_offends_4, sX12_isIn, z, z2, r_offenceOf hC2.2.1 hw hF.1 hk hv8 hs ht]
        exact RR_I (oR_l f1 hC2)
  · refine ⟨-1, fun d e L I J hC => ?_, fun d e L I J hC => ?_⟩
    · refine RR_eq ((aX11_offends _ e L I J _ _ _).trans (bX11_offends_0 _ e L I J _ _ _)) ?_
      by_cases q1 : (pt S s && pt S t && anc (par S) s t) = true
      · have q2 : hld S v s t = true := by
          cases z : hld S v s t with
          | true => rfl
          | false => exact absurd ⟨q1, z⟩ hq
        simp (disch := omega) only [n32_ltE, n32_leE, n32_eqE, n32_eqm, m1_eqn, n32_ge0, n32_lt0, n32_nat, n32_succ, n32_add, xin_n32, xin_b1, xin_b2, cond_true, cond_false, if_true, if_false, xcI_some, xcV_some, xcJ_some, xcR_some, xu_ee, xu_rne, xu_kne, ite_self, not_true_eq_false, not_false_eq_true, ne_eq, true_and, and_true, false_and, and_false, m1_lt0, m1_eq0, eq_self, Bool.false_eq_true, reduceCtorEq, z_lt0, i1_eq0, i0_eq1, i1_eq1, xrZ0, xrZ1, xrZt, n32_eq0, n32_eq1, n32_gt0, n32_gt1, n32_lt1, n32_le1, n32_0le, tf0, tf1, xaI_of, c_hasVoter_y hC.2.1 hw hv, ekX11_offends_0_16, ekX11_offends_0_9, ekX11_offends_0_3, bX11_offends_0, bX11_offends_1, ekX11_offends_2_5, bX11_offends_2, c_isLink hC.2.1 hw hs ht, q1, c_holds hC.2.2.1 hk hw hv8 (show s < 20 by omega) (show t < 20 by omega), q2]
        exact RR_I (oC_r hC)
      · simp (disch := omega) only [n32_ltE, n32_leE, n32_eqE, n32_eqm, m1_eqn, n32_ge0, n32_lt0, n32_nat, n32_succ, n32_add, xin_n32, xin_b1, xin_b2, cond_true, cond_false, if_true, if_false, xcI_some, xcV_some, xcJ_some, xcR_some, xu_ee, xu_rne, xu_kne, ite_self, not_true_eq_false, not_false_eq_true, ne_eq, true_and, and_true, false_and, and_false, m1_lt0, m1_eq0, eq_self, Bool.false_eq_true, reduceCtorEq, z_lt0, i1_eq0, i0_eq1, i1_eq1, xrZ0, xrZ1, xrZt, n32_eq0, n32_eq1, n32_gt0, n32_gt1, n32_lt1, n32_le1, n32_0le, tf0, tf1, xaI_of, c_hasVoter_y hC.2.1 hw hv, ekX11_offends_0_16, ekX11_offends_0_9, ekX11_offends_0_3, bX11_offends_0, bX11_offends_1, ekX11_offends_2_5, bX11_offends_2, c_isLink hC.2.1 hw hs ht, q1]
        exact RR_I (oC_r hC)
    · refine RR_eq ((aX12_offends _ e L I J _ _ _).trans (bX12_offends_0 _ e L I J _ _ _)) ?_
      simp (disch := omega) only [n32_ltE, n32_leE, n32_eqE, n32_eqm, m1_eqn, n32_ge0, n32_lt0, n32_nat, n32_succ, n32_add, xin_n32, xin_b1, xin_b2, cond_true, cond_false, if_true, if_false, xcI_some, xcV_some, xcJ_some, xcR_some, xu_ee, xu_rne, xu_kne, ite_self, not_true_eq_false, not_false_eq_true, ne_eq, true_and, and_true, false_and, and_false, m1_lt0, m1_eq0, eq_self, Bool.false_eq_true, reduceCtorEq, z_lt0, i1_eq0, i0_eq1, i1_eq1, xrZ0, xrZ1, xrZt, n32_eq0, n32_eq1, n32_gt0, n32_gt1, n32_lt1, n32_le1, n32_0le, tf0, tf1, xaI_of, r_isVoter_y (S0 hC.2.1) hw hv, r_isBlock_y (S0 hC.2.1) hw hs, r_isBlock_y (S0 hC.2.1) hw ht, ekX12_offends_0_13, ekX12_offends_0_9, ekX12_offends_0_5, bX12_offends_0, bX12_offends_1, ekX12_offends_2_9, ekX12_offends_2_4, bX12_offends_2, ekX12_offends_3_4, bX12_offends_3, bX12_offends_4]
      refine RR_cI (r_whyVote (d := d + 3) (RS_0 hC) hv8 hs ht) (fun x K J' ⟨x1, j1, f1, hF, hC2⟩ => ?_)
      subst x1 j1
      have hwy : 1 ≤ why S v s t ∧ why S v s t ≤ 3 := by
        unfold why
        cases z1 : pt S s <;> cases z2 : pt S t <;> cases z3 : anc (par S) s t <;> cases z4 : hld S v s t <;> simp_all
      have z1 : ¬ why S v s t < 1 := by omega
      simp (disch := omega) only [n32_ltE, n32_leE, n32_eqE, n32_eqm, m1_eqn, n32_ge0, n32_lt0, n32_nat, n32_succ, n32_add, xin_n32, xin_b1, xin_b2, cond_true, cond_false, if_true, if_false, xcI_some, xcV_some, xcJ_some, xcR_some, xu_ee, xu_rne, xu_kne, ite_self, not_true_eq_false, not_false_eq_true, ne_eq, true_and, and_true, false_and, and_false, m1_lt0, m1_eq0, eq_self, Bool.false_eq_true, reduceCtorEq, z_lt0, i1_eq0, i0_eq1, i1_eq1, xrZ0, xrZ1, xrZt, n32_eq0, n32_eq1, n32_gt0, n32_gt1, n32_lt1, n32_le1, n32_0le, tf0, tf1, xaI_of, q3a, q3b, q3m, q3l, q3g, q3r, q3s, q3e, ekX12_offends_0_13, ekX12_offends_0_9, ekX12_offends_0_5, bX12_offends_0, bX12_offends_1, ekX12_offends_2_9, ekX12_offends_2_4, bX12_offends_2, ekX12_offends_3_4, bX12_offends_3, bX12_offends_4, sX12_isIn, z1, hwy.2]
      exact RR_I (oR_l f1 hC2)
theorem ofp_le : ofp S i k ≤ 2 := by
  unfold ofp
  have := ofn_le (S := S) (a := so S i) (b := ta S i) (c := so S k) (x := ta S k)
  by_cases q : vo S i = vo S k
  · rw [if_pos q]; exact this
  · rw [if_neg q]; omega
/-- what is asked of a pair -/
def evV (S : TS) (i k : Nat) (x : Int32) : Int32 := if x = 0 then n32 i else if x = 1 then n32 k else n32 (ofp S i k)
/-- pairs ahead of the pair (i, k) -/
def evN (S : TS) (i k : Nat) : Nat := sumN (fun i => sumN (fun k => gp S i k) (sK S)) i + sumN (fun k => gp S i k) k
theorem ev_row (hi : i < sK S) : evN S i (sK S) = evN S (i + 1) (i + 2) ∨ True := Or.inr trivial
theorem gp0 (h : k ≤ i) : gp S i k = 0 := by
  unfold gp
  rw [if_neg (by omega)]
theorem gps0 (h : k ≤ i + 1) : sumN (fun k => gp S i k) k = 0 := by
  rw [sumN_tl (a := 0) (Nat.zero_le _) (fun j _ hj => gp0 (by omega))]
  rfl
theorem evidence_loop {β : Type} (f1 : Nat → Nat → β) (f2 : Nat → Nat → Nat → β) (R : Nat → Nat → β) (Z : β) (w : Nat) (h1 : ∀ i c, i < sK S → c ≤ w → f1 i c = f2 i (i + 1) c) (h2 : ∀ i k c, i < k → k < sK S → c ≤ w → f2 i k c = if ofp S i k = 0 then f2 i (k + 1) c else if c = w then R i k else f2 i (k + 1) (c + 1)) (h3 : ∀ i c, i < sK S → c ≤ w → f2 i (sK S) c = f1 (i + 1) c) (h4 : ∀ c, c ≤ w → f1 (sK S) c = Z) : (∃ i k, i < k ∧ k < sK S ∧ ofp S i k ≠ 0 ∧ evN S i k = w ∧ f1 0 0 = R i k) ∨ (prS S ≤ w ∧ f1 0 0 = Z) := by
  have inner : ∀ i, i < sK S → sumN (fun i => sumN (fun k => gp S i k) (sK S)) i ≤ w → (∃ k, i < k ∧ k < sK S ∧ ofp S i k ≠ 0 ∧ evN S i k = w ∧ f1 i (sumN (fun i => sumN (fun k => gp S i k) (sK S)) i) = R i k) ∨ (sumN (fun i => sumN (fun k => gp S i k) (sK S)) (i + 1) ≤ w ∧ f1 i (sumN (fun i => sumN (fun k => gp S i k) (sK S)) i) = f1 (i + 1) (sumN (fun i => sumN (fun k => gp S i k) (sK S)) (i + 1))) := by
    intro i hi hle
    generalize hA : sumN (fun i => sumN (fun k => gp S i k) (sK S)) i = A at *
    have key : ∀ m, i + 1 + m ≤ sK S → (∃ k, i < k ∧ k < sK S ∧ ofp S i k ≠ 0 ∧ evN S i k = w ∧ f1 i A = R i k) ∨ (A + sumN (fun k => gp S i k) (i + 1 + m) ≤ w ∧ f1 i A = f2 i (i + 1 + m) (A + sumN (fun k => gp S i k) (i + 1 + m))) := by
      intro m
      induction m with
      | zero =>
        intro _
        right
        rw [Nat.add_zero, gps0 (Nat.le_refl _), Nat.add_zero]
        exact ⟨hle, h1 i A hi hle⟩
      | succ m ih =>
        intro hm
        rcases ih (by omega) with h | ⟨b1, b2⟩
        · exact Or.inl h
        · have e2 := h2 i (i + 1 + m) (A + sumN (fun k => gp S i k) (i + 1 + m)) (by omega) (by omega) b1
          rw [show i + 1 + (m + 1) = i + 1 + m + 1 from rfl, sumN_s]
          by_cases q : ofp S i (i + 1 + m) = 0
          · rw [if_pos q] at e2
            have g0 : gp S i (i + 1 + m) = 0 := by unfold gp; rw [if_neg (fun h => h.2 q)]
            rw [g0, Nat.add_zero]
            exact Or.inr ⟨b1, b2.trans e2⟩
          · rw [if_neg q] at e2
            have g0 : gp S i (i + 1 + m) = 1 := by unfold gp; rw [if_pos ⟨by omega, q⟩]
            by_cases q2 : A + sumN (fun k => gp S i k) (i + 1 + m) = w
            · rw [if_pos q2] at e2
              left
              refine ⟨i + 1 + m, by omega, by omega, q, ?_, b2.trans e2⟩
              unfold evN
              rw [hA]
              exact q2
            · rw [if_neg q2] at e2
              rw [g0]
              exact Or.inr ⟨by omega, b2.trans e2⟩
    obtain ⟨m, hm⟩ : ∃ m, i + 1 + m = sK S := ⟨sK S - (i + 1), by omega⟩
    rcases key m (by omega) with h | ⟨b1, b2⟩
    · exact Or.inl h
    · rw [hm] at b1 b2
      rw [sumN_s, hA]
      exact Or.inr ⟨b1, b2.trans (h3 i _ hi b1)⟩
  have outer : ∀ m, m ≤ sK S → (∃ i k, i < k ∧ k < sK S ∧ ofp S i k ≠ 0 ∧ evN S i k = w ∧ f1 0 0 = R i k) ∨ (sumN (fun i => sumN (fun k => gp S i k) (sK S)) m ≤ w ∧ f1 0 0 = f1 m (sumN (fun i => sumN (fun k => gp S i k) (sK S)) m)) := by
    intro m
    induction m with
    | zero => exact fun _ => Or.inr ⟨Nat.zero_le _, rfl⟩
    | succ m ih =>
      intro hm
      rcases ih (by omega) with h | ⟨b1, b2⟩
      · exact Or.inl h
      · rcases inner m (by omega) b1 with ⟨k, c1, c2, c3, c4, c5⟩ | ⟨c1, c2⟩
        · exact Or.inl ⟨m, k, c1, c2, c3, c4, b2.trans c5⟩
        · exact Or.inr ⟨c1, b2.trans c2⟩
  rcases outer (sK S) (Nat.le_refl _) with h | ⟨b1, b2⟩
  · exact Or.inl h
  · exact Or.inr ⟨b1, b2.trans (h4 _ b1)⟩
theorem evN_lt (hi : i < k) (hk2 : k < sK S) (h : ofp S i k ≠ 0) : evN S i k < prS S := by
  have mono : ∀ (f : Nat → Nat) {a b : Nat}, a ≤ b → sumN f a ≤ sumN f b := by
    intro f a b hab
    obtain ⟨m, rfl⟩ : ∃ m, b = a + m := ⟨b - a, by omega⟩
    clear hab
    induction m with
    | zero => exact Nat.le_refl _
    | succ m ih =>
      rw [show a + (m + 1) = a + m + 1 from rfl, sumN_s]
      omega
  have g1 : gp S i k = 1 := by unfold gp; rw [if_pos ⟨hi, h⟩]
  have s1 : sumN (fun k => gp S i k) k + 1 ≤ sumN (fun k => gp S i k) (sK S) := by
    have := mono (fun k => gp S i k) (show k + 1 ≤ sK S by omega)
    rw [sumN_s, g1] at this
    exact this
  have s2 := mono (fun i => sumN (fun k => gp S i k) (sK S)) (show i + 1 ≤ sK S by omega)
  rw [sumN_s] at s2
  unfold evN prS
  omega
theorem evN_inj {i' k' : Nat} (hi : i < k) (hk2 : k < sK S) (h : ofp S i k ≠ 0) (hi' : i' < k') (hk' : k' < sK S) (h' : ofp S i' k' ≠ 0) (he : evN S i k = evN S i' k') : i = i' ∧ k = k' := by
  have mono : ∀ (f : Nat → Nat) {a b : Nat}, a ≤ b → sumN f a ≤ sumN f b := by
    intro f a b hab
    obtain ⟨m, rfl⟩ : ∃ m, b = a + m := ⟨b - a, by omega⟩
    clear hab
    induction m with
    | zero => exact Nat.le_refl _
    | succ m ih =>
      rw [show a + (m + 1) = a + m + 1 from rfl, sumN_s]
      omega
  have row : ∀ {i k : Nat}, i < k → k < sK S → ofp S i k ≠ 0 → sumN (fun k => gp S i k) k + 1 ≤ sumN (fun k => gp S i k) (sK S) := by
    intro i k hi hk2 h
    have g1 : gp S i k = 1 := by unfold gp; rw [if_pos ⟨hi, h⟩]
    have := mono (fun k => gp S i k) (show k + 1 ≤ sK S by omega)
    rw [sumN_s, g1] at this
    exact this
  have cmp : ∀ {i k i' k' : Nat}, i < k → k < sK S → ofp S i k ≠ 0 → i < i' → evN S i k < evN S i' k' := by
    intro i k i' k' hi hk2 h hlt
    have s1 := row hi hk2 h
    have s2 := mono (fun i => sumN (fun k => gp S i k) (sK S)) (show i + 1 ≤ i' by omega)
    rw [sumN_s] at s2
    unfold evN
    omega
  have e1 : i = i' := by
    by_cases z : i < i'
    · have := cmp hi hk2 h z (k' := k')
      omega
    · by_cases z2 : i' < i
      · have := cmp hi' hk' h' z2 (k' := k)
        omega
      · omega
  subst e1
  refine ⟨rfl, ?_⟩
  unfold evN at he
  by_cases z : k < k'
  · have g1 : gp S i k = 1 := by unfold gp; rw [if_pos ⟨hi, h⟩]
    have := mono (fun k => gp S i k) (show k + 1 ≤ k' by omega)
    rw [sumN_s, g1] at this
    omega
  · by_cases z2 : k' < k
    · have g1 : gp S i k' = 1 := by unfold gp; rw [if_pos ⟨hi', h'⟩]
      have := mono (fun k => gp S i k) (show k' + 1 ≤ k by omega)
      rw [sumN_s, g1] at this
      omega
    · omega
end QO
