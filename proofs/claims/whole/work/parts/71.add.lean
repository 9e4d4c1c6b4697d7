/-! Adding a block, to the tree and to the draft. -/
theorem xcq_of {e L a b na nb sp dp n : Nat} {I : TI} {J : TJ} {c : xS → Option xOut} (ha : xn G0 a = some (14, na, [])) (hb : xn G0 b = some (14, nb, [])) (h1 : sp + n ≤ na) (h2 : dp + n ≤ nb) (s1 : sp < 1000) (s2 : dp < 1000) (s3 : n < 1000) : xcq (xst e L I J) a (n32 sp) b (n32 dp) (n32 n) c = c (xst e L (xcp I a b sp dp n) J) := by
  have q1 : xis (xst e L I J).1 14 a = true := by
    unfold xis
    show (match xn G0 a with | some a => Nat.beq a.1 14 | none => false) = true
    rw [ha]
    rfl
  have q2 : xis (xst e L I J).1 14 b = true := by
    unfold xis
    show (match xn G0 b with | some a => Nat.beq a.1 14 | none => false) = true
    rw [hb]
    rfl
  have q3 : xlen (xst e L I J).1 14 a = na := by
    unfold xlen
    show (match xn G0 a with | some a => bif Nat.beq a.1 14 then a.2.1 else 0 | none => _) = na
    rw [ha]
    rfl
  have q4 : xlen (xst e L I J).1 14 b = nb := by
    unfold xlen
    show (match xn G0 b with | some a => bif Nat.beq a.1 14 then a.2.1 else 0 | none => _) = nb
    rw [hb]
    rfl
  unfold xcq
  rw [q1, q2, q3, q4, n32_nat (by omega), n32_nat (by omega), n32_nat (by omega), decide_eq_false (n32_neg (show sp < 2147483648 by omega)), decide_eq_false (n32_neg (show dp < 2147483648 by omega)), decide_eq_false (n32_neg (show n < 2147483648 by omega))]
  have q5 : Nat.ble (sp + n) na = true := Nat.ble_eq.mpr h1
  have q6 : Nat.ble (dp + n) nb = true := Nat.ble_eq.mpr h2
  rw [q5, q6]
  rfl
theorem G0_r7 : ∀ b, b < 20 → xn G0 (17 + b) = some (14, 8, []) := by decide
theorem G0_x7 : ∀ i, i < 20 → xrf (G0, 0, 0) 16 i = some (17 + i) := by decide
theorem xaR_t7 {e L i : Nat} {I : TI} {J : TJ} {c : Nat → Option xOut} (hi : i < 20) : xaR (xst e L I J) 16 (n32 i) c = c (17 + i) := xaR_of (n := 20) rfl rfl (G0_x7 i hi) hi (by omega)
theorem G0_t7 : xn G0 9 = some (14, 8, []) := by decide
theorem c_addBlock_7 {d e L : Nat} {S S' : TS} {N N' : Nat → Int64} {I : TI} {J : TJ} {nm : Int64} {bl ch wg : Int32} (hT : Tr 7 S N I J) (hw : wfT S) (hB : sB S < 20) (hw' : wfT S') (hp : pre S S') (h2 : S' 2 = n32 (sB S + 1)) (hbl : S' (12 + sB S) = bl) (hch : S' (32 + sB S) = ch) (hwg : ∀ v, v < sV S → ch = n32 v → S' (52 + sB S) = wg) (hN1 : ∀ v, v < sV S → N' v = N v) (hN2 : ∀ b, b < sB S → N' (8 + b) = N (8 + b)) (hN3 : N' (8 + sB S) = nm) : RR (xcall xprog (d + 1) 21 [.ref 7, .long nm, .int bl, .int ch, .int wg] (xst e L I J)) (zV e L fun K J' => J' = xu J 10 (sB S) nm ∧ (∀ o k, ¬ (7 ≤ o ∧ o < 37) → K o k = I o k) ∧ Tr 7 S' N' K J') := by
  have h8 := wf_V8 hw
  have e1 := wf_E1 hw
  have e4 := wf_E4 hw
  have eB : sB S' = sB S + 1 := by unfold sB; rw [h2]; exact n32_nat (by show sB S + 1 < 2147483648; omega)
  have eV := pre_V hp
  have eE := pre_E hp
  have hE : I 7 0 = n32 (sE S) := hT.1.trans (wf_0 hw)
  have hV : I 7 1 = n32 (sV S) := hT.2.1.trans (wf_1 hw)
  have hBc : I 7 2 = n32 (sB S) := hT.2.2.1.trans (wf_2 hw)
  have hE0 : ¬ sE S = 0 := by omega
  generalize hb : sB S = b at *
  have hbl20 := hi_lt (S := S') (b := b)
  have hhm : hei S' b / sE S < 2147483648 := Nat.lt_of_le_of_lt (Nat.div_le_self _ _) (by omega)
  have hhr : hei S' b % sE S < 2147483648 := Nat.lt_of_lt_of_le (Nat.mod_lt _ (by omega)) (by omega)
  -- what is copied
  obtain ⟨src, hsG, hsv, hmain⟩ : ∃ src, xn G0 src = some (14, 8, []) ∧ (∀ v, v < sV S → (src < 17 + b ∧ I src v = (if par S' b < b then wt S' (par S' b) v else S' (4 + v)))) ∧ ∀ (cf : xCF), xlim cf mX2_addBlock 0 [.ref 7, .long nm, xD, .int bl, .int ch, .int wg, xD, xD] [] (xst e L I J) = xlim cf mX2_addBlock 14 [.ref 7, xD, xD, xD, .int ch, .int wg, .int (n32 b), xD] [.ref src] (xst e L (xu (xu (xu (xu I 11 b bl) 12 b (ahs (par S') b)) 13 b (n32 (hei S' b))) 14 b (lvc S' b)) (xu J 10 b nm)) := by
    have hlev : ∀ x, x = n32 (hei S' b) → (if x - x / n32 (sE S) * n32 (sE S) = 0 then x / n32 (sE S) else -1) = lvc S' b := by
      intro x hx
      rw [hx, n32_div (by omega) (by omega), ← n32_div (a := hei S' b) (by omega) (by omega), n32_rem (by omega) (by omega), n32_div (by omega) (by omega)]
      unfold lvc pt lv
      rw [← eE]
      by_cases q : hei S' b % sE S = 0
      · rw [q, if_pos (show n32 0 = 0 from rfl), if_pos (show (0 == 0) = true from rfl)]
      · have : ¬ n32 (hei S' b % sE S) = 0 := fun h => q ((n32_inj (b := 0) hhr (by omega)).mp h)
        rw [if_neg this, if_neg (by simpa using q)]
    by_cases h0 : b = 0
    · have hbm : bl = -1 := by
        rw [← hbl, h0]
        exact wf_p0 hw' (by omega)
      have hnp : ¬ par S' b < b := by omega
      have hz : hei S' b = 0 := hgt_z hnp
      have ha : ahs (par S') b = 0 := ahs_z hnp
      refine ⟨9, G0_t7, fun v hv => ⟨by omega, ?_⟩, fun cf => ?_⟩
      · rw [if_neg hnp]
        exact (hT.2.2.2.1 v hv).2.trans (hp.2.2.1 v (by omega))
      · refine (bX2_addBlock_7_0 _ e L I J _ _ _ _).trans ?_
        have hl := hlev 0 (by rw [hz]; rfl)
        rw [hz, ha, ← hl, hbm]
        by_cases q : (0 : Int32) - 0 / n32 (sE S) * n32 (sE S) = 0
        · simp (disch := omega) only [n32_ltE, n32_leE, n32_eqE, n32_eqm, m1_eqn, n32_ge0, n32_lt0, n32_nat, n32_succ, n32_add, xin_n32, xin_b1, xin_b2, cond_true, cond_false, if_true, if_false, xcI_some, xcV_some, xcJ_some, xcR_some, xu_ee, xu_rne, xu_kne, ite_self, not_true_eq_false, not_false_eq_true, ne_eq, true_and, and_true, false_and, and_false, m1_lt0, m1_eq0, eq_self, Bool.false_eq_true, reduceCtorEq, z_lt0, i1_eq0, i0_eq1, i1_eq1, xrZ0, xrZ1, xrZt, n32_eq0, n32_eq1, n32_gt0, n32_gt1, n32_lt1, n32_le1, n32_0le, tf0, tf1, xaI_of, q20a, q20b, q20m, q20l, q20g, q20r, q20s, q20e, bX2_addBlock_7_0, bX2_addBlock_7_1, bX2_addBlock_7_2, bX2_addBlock_7_3, bX2_addBlock_7_4, bX2_addBlock_7_5, bX2_addBlock_7_6, bX2_addBlock_7_7, bX2_addBlock_7_8, bX2_addBlock_7_9, bX2_addBlock_7_10, bX2_addBlock_7_11, bX2_addBlock_7_12, bX2_addBlock_7_13, ekX2_addBlock_7_14_7, bX2_addBlock_7_15, hBc, hB, hE, hE0, q]
          rfl
        · simp (disch := omega) only [n32_ltE, n32_leE, n32_eqE, n32_eqm, m1_eqn, n32_ge0, n32_lt0, n32_nat, n32_succ, n32_add, xin_n32, xin_b1, xin_b2, cond_true, cond_false, if_true, if_false, xcI_some, xcV_some, xcJ_some, xcR_some, xu_ee, xu_rne, xu_kne, ite_self, not_true_eq_false, not_false_eq_true, ne_eq, true_and, and_true, false_and, and_false, m1_lt0, m1_eq0, eq_self, Bool.false_eq_true, reduceCtorEq, z_lt0, i1_eq0, i0_eq1, i1_eq1, xrZ0, xrZ1, xrZt, n32_eq0, n32_eq1, n32_gt0, n32_gt1, n32_lt1, n32_le1, n32_0le, tf0, tf1, xaI_of, q20a, q20b, q20m, q20l, q20g, q20r, q20s, q20e, bX2_addBlock_7_0, bX2_addBlock_7_1, bX2_addBlock_7_2, bX2_addBlock_7_3, bX2_addBlock_7_4, bX2_addBlock_7_5, bX2_addBlock_7_6, bX2_addBlock_7_7, bX2_addBlock_7_8, bX2_addBlock_7_9, bX2_addBlock_7_10, bX2_addBlock_7_11, bX2_addBlock_7_12, bX2_addBlock_7_13, ekX2_addBlock_7_14_7, bX2_addBlock_7_15, hBc, hB, hE, hE0, q]
          rfl
    · obtain ⟨p1, p2⟩ := wf_p hw' (show 0 < b by omega) (show b < sB S' by omega)
      have hbp : bl = n32 (par S' b) := by rw [← hbl, p1]
      have hpS : par S' b < sB S := by omega
      have hz : hei S' b = hei S' (par S' b) + 1 := hgt_s p2
      have hz2 : hei S' (par S' b) = hei S (par S' b) := (pre_hei hp hpS).symm
      have ha : ahs (par S') b = ahs (par S) (par S' b) ||| (1 <<< (n32 (par S' b) &&& 31)) := by rw [ahs_s p2, pre_ahs hp hpS]
      obtain ⟨c1, c2, c3, c4, c5, c6, c7⟩ := hT.2.2.2.2 (par S' b) hpS
      have a3 : I 12 (par S' b) = ahs (par S) (par S' b) := c3
      have a4 : I 13 (par S' b) = n32 (hei S (par S' b)) := c4
      refine ⟨17 + par S' b, G0_r7 _ (by omega), fun v hv => ⟨by omega, ?_⟩, fun cf => ?_⟩
      · rw [if_pos p2, ← pre_wt hp hpS (by omega)]
        exact c7 v hv
      · refine (bX2_addBlock_7_0 _ e L I J _ _ _ _).trans ?_
        have hp20 : par S' b < 20 := by omega
        have hl := hlev (n32 (hei S (par S' b) + 1)) (by rw [hz, hz2])
        rw [← hl, ha, hz, hz2, hbp]
        by_cases q : n32 (hei S (par S' b) + 1) - n32 (hei S (par S' b) + 1) / n32 (sE S) * n32 (sE S) = 0
        · simp (disch := omega) only [n32_ltE, n32_leE, n32_eqE, n32_eqm, m1_eqn, n32_ge0, n32_lt0, n32_nat, n32_succ, n32_add, xin_n32, xin_b1, xin_b2, cond_true, cond_false, if_true, if_false, xcI_some, xcV_some, xcJ_some, xcR_some, xu_ee, xu_rne, xu_kne, ite_self, not_true_eq_false, not_false_eq_true, ne_eq, true_and, and_true, false_and, and_false, m1_lt0, m1_eq0, eq_self, Bool.false_eq_true, reduceCtorEq, z_lt0, i1_eq0, i0_eq1, i1_eq1, xrZ0, xrZ1, xrZt, n32_eq0, n32_eq1, n32_gt0, n32_gt1, n32_lt1, n32_le1, n32_0le, tf0, tf1, xaI_of, q20a, q20b, q20m, q20l, q20g, q20r, q20s, q20e, bX2_addBlock_7_0, bX2_addBlock_7_1, bX2_addBlock_7_2, bX2_addBlock_7_3, bX2_addBlock_7_4, bX2_addBlock_7_5, bX2_addBlock_7_6, bX2_addBlock_7_7, bX2_addBlock_7_8, bX2_addBlock_7_9, bX2_addBlock_7_10, bX2_addBlock_7_11, bX2_addBlock_7_12, bX2_addBlock_7_13, ekX2_addBlock_7_14_7, bX2_addBlock_7_15, hBc, hB, hE, hE0, p2, a3, a4, q, xaR_t7]
        · simp (disch := omega) only [n32_ltE, n32_leE, n32_eqE, n32_eqm, m1_eqn, n32_ge0, n32_lt0, n32_nat, n32_succ, n32_add, xin_n32, xin_b1, xin_b2, cond_true, cond_false, if_true, if_false, xcI_some, xcV_some, xcJ_some, xcR_some, xu_ee, xu_rne, xu_kne, ite_self, not_true_eq_false, not_false_eq_true, ne_eq, true_and, and_true, false_and, and_false, m1_lt0, m1_eq0, eq_self, Bool.false_eq_true, reduceCtorEq, z_lt0, i1_eq0, i0_eq1, i1_eq1, xrZ0, xrZ1, xrZt, n32_eq0, n32_eq1, n32_gt0, n32_gt1, n32_lt1, n32_le1, n32_0le, tf0, tf1, xaI_of, q20a, q20b, q20m, q20l, q20g, q20r, q20s, q20e, bX2_addBlock_7_0, bX2_addBlock_7_1, bX2_addBlock_7_2, bX2_addBlock_7_3, bX2_addBlock_7_4, bX2_addBlock_7_5, bX2_addBlock_7_6, bX2_addBlock_7_7, bX2_addBlock_7_8, bX2_addBlock_7_9, bX2_addBlock_7_10, bX2_addBlock_7_11, bX2_addBlock_7_12, bX2_addBlock_7_13, ekX2_addBlock_7_14_7, bX2_addBlock_7_15, hBc, hB, hE, hE0, p2, a3, a4, q, xaR_t7]
  refine RR_eq ((aX2_addBlock_7 _ e L I J _ _ _ _).trans (hmain _)) ?_
  refine RR_eq (bX2_addBlock_7_14 _ e L _ _ _ _ _ _) ?_
  have hcq : ∀ (I : TI) (J : TJ) c, xcq (xst e L I J) src 0 (17 + b) 0 8 c = c (xst e L (xcp I src (17 + b) 0 0 8) J) := fun I J c => xcq_of hsG (G0_r7 b hB) (sp := 0) (dp := 0) (n := 8) (by omega) (by omega) (by omega) (by omega) (by omega)
  rw [xaR_t7 hB, hcq, ekX2_addBlock_7_14_7]
  generalize hK1 : xcp (xu (xu (xu (xu I 11 b bl) 12 b (ahs (par S') b)) 13 b (n32 (hei S' b))) 14 b (lvc S' b)) src (17 + b) 0 0 8 = K1
  have kr : ∀ v, v < sV S → K1 (17 + b) v = if par S' b < b then wt S' (par S' b) v else S' (4 + v) := by
    intro v hv
    obtain ⟨s1, s2⟩ := hsv v hv
    rw [← hK1, xcp_in (by omega), ← s2]
    have hsn : ∀ k', k' = 11 ∨ k' = 12 ∨ k' = 13 ∨ k' = 14 → src ≠ k' := by
      intro k' hk' he
      subst he
      rcases hk' with h | h | h | h <;> (subst h; exact absurd hsG (by decide))
    rw [xu_rne (hsn _ (by simp)), xu_rne (hsn _ (by simp)), xu_rne (hsn _ (by simp)), xu_rne (hsn _ (by simp))]
  have ko : ∀ o k, o ≠ 17 + b → o ≠ 11 → o ≠ 12 → o ≠ 13 → o ≠ 14 → K1 o k = I o k := by
    intro o k z1 z2 z3 z4 z5
    rw [← hK1, xcp_rne z1, xu_rne z5, xu_rne z4, xu_rne z3, xu_rne z2]
  have kc : ∀ o k, (o = 11 ∨ o = 12 ∨ o = 13 ∨ o = 14) → k ≠ b → K1 o k = I o k := by
    intro o k z1 z2
    rw [← hK1]
    rcases z1 with z | z | z | z
    · subst z
      rw [xcp_rne (by omega), xu_rne (by omega), xu_rne (by omega), xu_rne (by omega), xu_kne z2]
    · subst z
      rw [xcp_rne (by omega), xu_rne (by omega), xu_rne (by omega), xu_kne z2, xu_rne (by omega)]
    · subst z
      rw [xcp_rne (by omega), xu_rne (by omega), xu_kne z2, xu_rne (by omega), xu_rne (by omega)]
    · subst z
      rw [xcp_rne (by omega), xu_kne z2, xu_rne (by omega), xu_rne (by omega), xu_rne (by omega)]
  have k11 : K1 11 b = bl := by rw [← hK1, xcp_rne (by omega), xu_rne (by omega), xu_rne (by omega), xu_rne (by omega), xu_ee]
  have k12 : K1 12 b = ahs (par S') b := by rw [← hK1, xcp_rne (by omega), xu_rne (by omega), xu_rne (by omega), xu_ee]
  have k13 : K1 13 b = n32 (hei S' b) := by rw [← hK1, xcp_rne (by omega), xu_rne (by omega), xu_ee]
  have k14 : K1 14 b = lvc S' b := by rw [← hK1, xcp_rne (by omega), xu_ee]
  -- the end, from the row as it is then
  have fin : ∀ M : TI, (∀ o k, o ≠ 17 + b → (o ≠ 15 ∨ k ≠ b) → M o k = K1 o k) → M 15 b = ch → (∀ v, v < sV S → M (17 + b) v = wt S' b v) → RR (xlim (xcall xprog d) mX2_addBlock 15 [.ref 7, xD, xD, xD, xD, xD, xD, xD] [] (xst e L M (xu J 10 b nm))) (zV e L fun K J' => J' = xu J 10 b nm ∧ (∀ o k, ¬ (7 ≤ o ∧ o < 37) → K o k = I o k) ∧ Tr 7 S' N' K J') := by
    intro M m1 m2 m3
    refine RR_eq (bX2_addBlock_7_15 _ e L M _) (RR_V ⟨rfl, fun o k z => ?_, ?_, ?_, ?_, fun v hv => ?_, fun c hc => ?_⟩)
    · rw [xu_rne (by omega), m1 o k (by omega) (Or.inl (by omega)), ko o k (by omega) (by omega) (by omega) (by omega) (by omega)]
    · rw [xu_kne (by decide), m1 7 0 (by omega) (Or.inl (by decide)), ko 7 0 (by omega) (by decide) (by decide) (by decide) (by decide)]
      exact hT.1.trans hp.1
    · rw [xu_kne (by decide), m1 7 1 (by omega) (Or.inl (by decide)), ko 7 1 (by omega) (by decide) (by decide) (by decide) (by decide)]
      exact hT.2.1.trans hp.2.1
    · rw [xu_ee, m1 7 2 (by omega) (Or.inl (by decide)), ko 7 2 (by omega) (by decide) (by decide) (by decide) (by decide), hBc, n32_succ, h2]
    · rw [← eV] at hv
      refine ⟨?_, ?_⟩
      · show (xu J 10 b nm) 8 v = N' v
        rw [xu_rne (by decide), hN1 v hv]
        exact (hT.2.2.2.1 v hv).1
      · show (xu M 7 2 _) 9 v = S' (4 + v)
        rw [xu_rne (by decide), m1 9 v (by omega) (Or.inl (by decide)), ko 9 v (by omega) (by decide) (by decide) (by decide) (by decide), ← hp.2.2.1 v (by omega)]
        exact (hT.2.2.2.1 v hv).2
    · show (xu J 10 b nm) 10 c = N' (8 + c) ∧ (xu M 7 2 _) 11 c = S' (12 + c) ∧ (xu M 7 2 _) 12 c = ahs (par S') c ∧ (xu M 7 2 _) 13 c = n32 (hei S' c) ∧ (xu M 7 2 _) 14 c = lvc S' c ∧ (xu M 7 2 _) 15 c = S' (32 + c) ∧ ∀ v, v < sV S' → (xu M 7 2 _) (17 + c) v = wt S' c v
      rw [xu_rne (show 11 ≠ 7 by decide), xu_rne (show 12 ≠ 7 by decide), xu_rne (show 13 ≠ 7 by decide), xu_rne (show 14 ≠ 7 by decide), xu_rne (show 15 ≠ 7 by decide), xu_rne (show 17 + c ≠ 7 by omega)]
      by_cases z : c = b
      · subst z
        rw [xu_ee, m1 11 c (by omega) (Or.inl (by decide)), m1 12 c (by omega) (Or.inl (by decide)), m1 13 c (by omega) (Or.inl (by decide)), m1 14 c (by omega) (Or.inl (by decide)), k11, k12, k13, k14, m2]
        exact ⟨hN3.symm, hbl.symm, rfl, rfl, rfl, hch.symm, fun v hv => m3 v (by rw [eV]; exact hv)⟩
      · have hcS : c < sB S := by omega
        obtain ⟨c1, c2, c3, c4, c5, c6, c7⟩ := hT.2.2.2.2 c hcS
        rw [xu_kne z, m1 11 c (by omega) (Or.inl (by decide)), m1 12 c (by omega) (Or.inl (by decide)), m1 13 c (by omega) (Or.inl (by decide)), m1 14 c (by omega) (Or.inl (by decide)), m1 15 c (by omega) (Or.inr z), kc 11 c (by simp) z, kc 12 c (by simp) z, kc 13 c (by simp) z, kc 14 c (by simp) z, ko 15 c (by omega) (by decide) (by decide) (by decide) (by decide)]
        obtain ⟨r1, r2, r3⟩ := hp.2.2.2.2.1 c hcS
        refine ⟨by rw [hN2 c (by omega)]; exact c1, by rw [← r1]; exact c2, by rw [← pre_ahs hp hcS]; exact c3, by rw [← pre_hei hp hcS]; exact c4, by rw [← pre_lvc hp hcS]; exact c5, by rw [← r2]; exact c6, fun v hv => ?_⟩
        rw [← eV] at hv
        rw [m1 (17 + c) v (by omega) (Or.inl (by omega)), ko (17 + c) v (by omega) (by omega) (by omega) (by omega) (by omega), ← pre_wt hp hcS (by omega)]
        exact c7 v hv
  have e15 : K1 7 1 = n32 (sV S) := (ko 7 1 (by omega) (by decide) (by decide) (by decide) (by decide)).trans hV
  have ewt : ∀ v, wt S' b v = if S' (32 + b) = n32 v then S' (52 + b) else if par S' b < b then wt S' (par S' b) v else S' (4 + v) := fun v => by rw [wt]
  rcases (wf_ch hw' (show b < sB S' by omega)).1 with hc | ⟨v, hv, hc⟩
  · have hcm : ch = -1 := by rw [← hch, hc]
    rw [hcm]
    simp (disch := omega) only [n32_ltE, n32_leE, n32_eqE, n32_eqm, m1_eqn, n32_ge0, n32_lt0, n32_nat, n32_succ, n32_add, xin_n32, xin_b1, xin_b2, cond_true, cond_false, if_true, if_false, xcI_some, xcV_some, xcJ_some, xcR_some, xu_ee, xu_rne, xu_kne, ite_self, not_true_eq_false, not_false_eq_true, ne_eq, true_and, and_true, false_and, and_false, m1_lt0, m1_eq0, eq_self, Bool.false_eq_true, reduceCtorEq, z_lt0, i1_eq0, i0_eq1, i1_eq1, xrZ0, xrZ1, xrZt, n32_eq0, n32_eq1, n32_gt0, n32_gt1, n32_lt1, n32_le1, n32_0le, tf0, tf1, xaI_of]
    refine fin (xu K1 15 b (-1)) (fun o k z1 z2 => ?_) (by rw [xu_ee, hcm]) (fun v hv => ?_)
    · by_cases z : o = 15
      · subst z
        rw [xu_kne (by omega)]
      · rw [xu_rne z]
    · rw [xu_rne (by omega), kr v hv]
      exact ((ewt v).trans (if_neg (by rw [hc]; exact fun h => n32_ne1 (by omega) h.symm))).symm
  · rw [← eV] at hv
    have hcm : ch = n32 v := by rw [← hch, hc]
    have hwg' := hwg v hv hcm
    rw [hcm]
    simp (disch := omega) only [n32_ltE, n32_leE, n32_eqE, n32_eqm, m1_eqn, n32_ge0, n32_lt0, n32_nat, n32_succ, n32_add, xin_n32, xin_b1, xin_b2, cond_true, cond_false, if_true, if_false, xcI_some, xcV_some, xcJ_some, xcR_some, xu_ee, xu_rne, xu_kne, ite_self, not_true_eq_false, not_false_eq_true, ne_eq, true_and, and_true, false_and, and_false, m1_lt0, m1_eq0, eq_self, Bool.false_eq_true, reduceCtorEq, z_lt0, i1_eq0, i0_eq1, i1_eq1, xrZ0, xrZ1, xrZt, n32_eq0, n32_eq1, n32_gt0, n32_gt1, n32_lt1, n32_le1, n32_0le, tf0, tf1, xaI_of, e15, hv, xaR_t7 hB, xok_of (G0_r7 b hB)]
    refine fin (xu (xu K1 15 b (n32 v)) (17 + b) v wg) (fun o k z1 z2 => ?_) (by rw [xu_rne (by omega), xu_ee, hcm]) (fun u hu => ?_)
    · rw [xu_rne z1]
      by_cases z : o = 15
      · subst z
        rw [xu_kne (by omega)]
      · rw [xu_rne z]
    · by_cases z : u = v
      · subst z
        rw [xu_ee, ← hwg']
        exact ((ewt u).trans (if_pos hc)).symm
      · rw [xu_kne z, xu_rne (by omega), kr u hu]
        exact ((ewt u).trans (if_neg (by rw [hc]; exact fun h => z ((n32_inj (by omega) (by omega)).mp h).symm))).symm
theorem G0_r89 : ∀ b, b < 20 → xn G0 (99 + b) = some (14, 8, []) := by decide
theorem G0_x89 : ∀ i, i < 20 → xrf (G0, 0, 0) 98 i = some (99 + i) := by decide
theorem xaR_t89 {e L i : Nat} {I : TI} {J : TJ} {c : Nat → Option xOut} (hi : i < 20) : xaR (xst e L I J) 98 (n32 i) c = c (99 + i) := xaR_of (n := 20) rfl rfl (G0_x89 i hi) hi (by omega)
theorem G0_t89 : xn G0 91 = some (14, 8, []) := by decide
theorem c_addBlock_89 {d e L : Nat} {S S' : TS} {N N' : Nat → Int64} {I : TI} {J : TJ} {nm : Int64} {bl ch wg : Int32} (hT : Tr 89 S N I J) (hw : wfT S) (hB : sB S < 20) (hw' : wfT S') (hp : pre S S') (h2 : S' 2 = n32 (sB S + 1)) (hbl : S' (12 + sB S) = bl) (hch : S' (32 + sB S) = ch) (hwg : ∀ v, v < sV S → ch = n32 v → S' (52 + sB S) = wg) (hN1 : ∀ v, v < sV S → N' v = N v) (hN2 : ∀ b, b < sB S → N' (8 + b) = N (8 + b)) (hN3 : N' (8 + sB S) = nm) : RR (xcall xprog (d + 1) 21 [.ref 89, .long nm, .int bl, .int ch, .int wg] (xst e L I J)) (zV e L fun K J' => J' = xu J 92 (sB S) nm ∧ (∀ o k, ¬ (89 ≤ o ∧ o < 119) → K o k = I o k) ∧ Tr 89 S' N' K J') := by
  have h8 := wf_V8 hw
  have e1 := wf_E1 hw
  have e4 := wf_E4 hw
  have eB : sB S' = sB S + 1 := by unfold sB; rw [h2]; exact n32_nat (by show sB S + 1 < 2147483648; omega)
  have eV := pre_V hp
  have eE := pre_E hp
  have hE : I 89 0 = n32 (sE S) := hT.1.trans (wf_0 hw)
  have hV : I 89 1 = n32 (sV S) := hT.2.1.trans (wf_1 hw)
  have hBc : I 89 2 = n32 (sB S) := hT.2.2.1.trans (wf_2 hw)
  have hE0 : ¬ sE S = 0 := by omega
  generalize hb : sB S = b at *
  have hbl20 := hi_lt (S := S') (b := b)
  have hhm : hei S' b / sE S < 2147483648 := Nat.lt_of_le_of_lt (Nat.div_le_self _ _) (by omega)
  have hhr : hei S' b % sE S < 2147483648 := Nat.lt_of_lt_of_le (Nat.mod_lt _ (by omega)) (by omega)
  -- what is copied
  obtain ⟨src, hsG, hsv, hmain⟩ : ∃ src, xn G0 src = some (14, 8, []) ∧ (∀ v, v < sV S → (src < 99 + b ∧ I src v = (if par S' b < b then wt S' (par S' b) v else S' (4 + v)))) ∧ ∀ (cf : xCF), xlim cf mX2_addBlock 0 [.ref 89, .long nm, xD, .int bl, .int ch, .int wg, xD, xD] [] (xst e L I J) = xlim cf mX2_addBlock 14 [.ref 89, xD, xD, xD, .int ch, .int wg, .int (n32 b), xD] [.ref src] (xst e L (xu (xu (xu (xu I 93 b bl) 94 b (ahs (par S') b)) 95 b (n32 (hei S' b))) 96 b (lvc S' b)) (xu J 92 b nm)) := by
    have hlev : ∀ x, x = n32 (hei S' b) → (if x - x / n32 (sE S) * n32 (sE S) = 0 then x / n32 (sE S) else -1) = lvc S' b := by
      intro x hx
      rw [hx, n32_div (by omega) (by omega), ← n32_div (a := hei S' b) (by omega) (by omega), n32_rem (by omega) (by omega), n32_div (by omega) (by omega)]
      unfold lvc pt lv
      rw [← eE]
      by_cases q : hei S' b % sE S = 0
      · rw [q, if_pos (show n32 0 = 0 from rfl), if_pos (show (0 == 0) = true from rfl)]
      · have : ¬ n32 (hei S' b % sE S) = 0 := fun h => q ((n32_inj (b := 0) hhr (by omega)).mp h)
        rw [if_neg this, if_neg (by simpa using q)]
    by_cases h0 : b = 0
    · have hbm : bl = -1 := by
        rw [← hbl, h0]
        exact wf_p0 hw' (by omega)
      have hnp : ¬ par S' b < b := by omega
      have hz : hei S' b = 0 := hgt_z hnp
      have ha : ahs (par S') b = 0 := ahs_z hnp
      refine ⟨91, G0_t89, fun v hv => ⟨by omega, ?_⟩, fun cf => ?_⟩
      · rw [if_neg hnp]
        exact (hT.2.2.2.1 v hv).2.trans (hp.2.2.1 v (by omega))
      · refine (bX2_addBlock_89_0 _ e L I J _ _ _ _).trans ?_
        have hl := hlev 0 (by rw [hz]; rfl)
        rw [hz, ha, ← hl, hbm]
        by_cases q : (0 : Int32) - 0 / n32 (sE S) * n32 (sE S) = 0
        · simp (disch := omega) only [n32_ltE, n32_leE, n32_eqE, n32_eqm, m1_eqn, n32_ge0, n32_lt0, n32_nat, n32_succ, n32_add, xin_n32, xin_b1, xin_b2, cond_true, cond_false, if_true, if_false, xcI_some, xcV_some, xcJ_some, xcR_some, xu_ee, xu_rne, xu_kne, ite_self, not_true_eq_false, not_false_eq_true, ne_eq, true_and, and_true, false_and, and_false, m1_lt0, m1_eq0, eq_self, Bool.false_eq_true, reduceCtorEq, z_lt0, i1_eq0, i0_eq1, i1_eq1, xrZ0, xrZ1, xrZt, n32_eq0, n32_eq1, n32_gt0, n32_gt1, n32_lt1, n32_le1, n32_0le, tf0, tf1, xaI_of, q20a, q20b, q20m, q20l, q20g, q20r, q20s, q20e, bX2_addBlock_89_0, bX2_addBlock_89_1, bX2_addBlock_89_2, bX2_addBlock_89_3, bX2_addBlock_89_4, bX2_addBlock_89_5, bX2_addBlock_89_6, bX2_addBlock_89_7, bX2_addBlock_89_8, bX2_addBlock_89_9, bX2_addBlock_89_10, bX2_addBlock_89_11, bX2_addBlock_89_12, bX2_addBlock_89_13, ekX2_addBlock_89_14_7, bX2_addBlock_89_15, hBc, hB, hE, hE0, q]
          rfl
        · simp (disch := omega) only [n32_ltE, n32_leE, n32_eqE, n32_eqm, m1_eqn, n32_ge0, n32_lt0, n32_nat, n32_succ, n32_add, xin_n32, xin_b1, xin_b2, cond_true, cond_false, if_true, if_false, xcI_some, xcV_some, xcJ_some, xcR_some, xu_ee, xu_rne, xu_kne, ite_self, not_true_eq_false, not_false_eq_true, ne_eq, true_and, and_true, false_and, and_false, m1_lt0, m1_eq0, eq_self, Bool.false_eq_true, reduceCtorEq, z_lt0, i1_eq0, i0_eq1, i1_eq1, xrZ0, xrZ1, xrZt, n32_eq0, n32_eq1, n32_gt0, n32_gt1, n32_lt1, n32_le1, n32_0le, tf0, tf1, xaI_of, q20a, q20b, q20m, q20l, q20g, q20r, q20s, q20e, bX2_addBlock_89_0, bX2_addBlock_89_1, bX2_addBlock_89_2, bX2_addBlock_89_3, bX2_addBlock_89_4, bX2_addBlock_89_5, bX2_addBlock_89_6, bX2_addBlock_89_7, bX2_addBlock_89_8, bX2_addBlock_89_9, bX2_addBlock_89_10, bX2_addBlock_89_11, bX2_addBlock_89_12, bX2_addBlock_89_13, ekX2_addBlock_89_14_7, bX2_addBlock_89_15, hBc, hB, hE, hE0, q]
          rfl
    · obtain ⟨p1, p2⟩ := wf_p hw' (show 0 < b by omega) (show b < sB S' by omega)
      have hbp : bl = n32 (par S' b) := by rw [← hbl, p1]
      have hpS : par S' b < sB S := by omega
      have hz : hei S' b = hei S' (par S' b) + 1 := hgt_s p2
      have hz2 : hei S' (par S' b) = hei S (par S' b) := (pre_hei hp hpS).symm
      have ha : ahs (par S') b = ahs (par S) (par S' b) ||| (1 <<< (n32 (par S' b) &&& 31)) := by rw [ahs_s p2, pre_ahs hp hpS]
      obtain ⟨c1, c2, c3, c4, c5, c6, c7⟩ := hT.2.2.2.2 (par S' b) hpS
      have a3 : I 94 (par S' b) = ahs (par S) (par S' b) := c3
      have a4 : I 95 (par S' b) = n32 (hei S (par S' b)) := c4
      refine ⟨99 + par S' b, G0_r89 _ (by omega), fun v hv => ⟨by omega, ?_⟩, fun cf => ?_⟩
      · rw [if_pos p2, ← pre_wt hp hpS (by omega)]
        exact c7 v hv
      · refine (bX2_addBlock_89_0 _ e L I J _ _ _ _).trans ?_
        have hp20 : par S' b < 20 := by omega
        have hl := hlev (n32 (hei S (par S' b) + 1)) (by rw [hz, hz2])
        rw [← hl, ha, hz, hz2, hbp]
        by_cases q : n32 (hei S (par S' b) + 1) - n32 (hei S (par S' b) + 1) / n32 (sE S) * n32 (sE S) = 0
        · simp (disch := omega) only [n32_ltE, n32_leE, n32_eqE, n32_eqm, m1_eqn, n32_ge0, n32_lt0, n32_nat, n32_succ, n32_add, xin_n32, xin_b1, xin_b2, cond_true, cond_false, if_true, if_false, xcI_some, xcV_some, xcJ_some, xcR_some, xu_ee, xu_rne, xu_kne, ite_self, not_true_eq_false, not_false_eq_true, ne_eq, true_and, and_true, false_and, and_false, m1_lt0, m1_eq0, eq_self, Bool.false_eq_true, reduceCtorEq, z_lt0, i1_eq0, i0_eq1, i1_eq1, xrZ0, xrZ1, xrZt, n32_eq0, n32_eq1, n32_gt0, n32_gt1, n32_lt1, n32_le1, n32_0le, tf0, tf1, xaI_of, q20a, q20b, q20m, q20l, q20g, q20r, q20s, q20e, bX2_addBlock_89_0, bX2_addBlock_89_1, bX2_addBlock_89_2, bX2_addBlock_89_3, bX2_addBlock_89_4, bX2_addBlock_89_5, bX2_addBlock_89_6, bX2_addBlock_89_7, bX2_addBlock_89_8, bX2_addBlock_89_9, bX2_addBlock_89_10, bX2_addBlock_89_11, bX2_addBlock_89_12, bX2_addBlock_89_13, ekX2_addBlock_89_14_7, bX2_addBlock_89_15, hBc, hB, hE, hE0, p2, a3, a4, q, xaR_t89]
        · simp (disch := omega) only [n32_ltE, n32_leE, n32_eqE, n32_eqm, m1_eqn, n32_ge0, n32_lt0, n32_nat, n32_succ, n32_add, xin_n32, xin_b1, xin_b2, cond_true, cond_false, if_true, if_false, xcI_some, xcV_some, xcJ_some, xcR_some, xu_ee, xu_rne, xu_kne, ite_self, not_true_eq_false, not_false_eq_true, ne_eq, true_and, and_true, false_and, and_false, m1_lt0, m1_eq0, eq_self, Bool.false_eq_true, reduceCtorEq, z_lt0, i1_eq0, i0_eq1, i1_eq1, xrZ0, xrZ1, xrZt, n32_eq0, n32_eq1, n32_gt0, n32_gt1, n32_lt1, n32_le1, n32_0le, tf0, tf1, xaI_of, q20a, q20b, q20m, q20l, q20g, q20r, q20s, q20e, bX2_addBlock_89_0, bX2_addBlock_89_1, bX2_addBlock_89_2, bX2_addBlock_89_3, bX2_addBlock_89_4, bX2_addBlock_89_5, bX2_addBlock_89_6, bX2_addBlock_89_7, bX2_addBlock_89_8, bX2_addBlock_89_9, bX2_addBlock_89_10, bX2_addBlock_89_11, bX2_addBlock_89_12, bX2_addBlock_89_13, ekX2_addBlock_89_14_7, bX2_addBlock_89_15, hBc, hB, hE, hE0, p2, a3, a4, q, xaR_t89]
  refine RR_eq ((aX2_addBlock_89 _ e L I J _ _ _ _).trans (hmain _)) ?_
  refine RR_eq (bX2_addBlock_89_14 _ e L _ _ _ _ _ _) ?_
  have hcq : ∀ (I : TI) (J : TJ) c, xcq (xst e L I J) src 0 (99 + b) 0 8 c = c (xst e L (xcp I src (99 + b) 0 0 8) J) := fun I J c => xcq_of hsG (G0_r89 b hB) (sp := 0) (dp := 0) (n := 8) (by omega) (by omega) (by omega) (by omega) (by omega)
  rw [xaR_t89 hB, hcq, ekX2_addBlock_89_14_7]
  generalize hK1 : xcp (xu (xu (xu (xu I 93 b bl) 94 b (ahs (par S') b)) 95 b (n32 (hei S' b))) 96 b (lvc S' b)) src (99 + b) 0 0 8 = K1
  have kr : ∀ v, v < sV S → K1 (99 + b) v = if par S' b < b then wt S' (par S' b) v else S' (4 + v) := by
    intro v hv
    obtain ⟨s1, s2⟩ := hsv v hv
    rw [← hK1, xcp_in (by omega), ← s2]
    have hsn : ∀ k', k' = 93 ∨ k' = 94 ∨ k' = 95 ∨ k' = 96 → src ≠ k' := by
      intro k' hk' he
      subst he
      rcases hk' with h | h | h | h <;> (subst h; exact absurd hsG (by decide))
    rw [xu_rne (hsn _ (by simp)), xu_rne (hsn _ (by simp)), xu_rne (hsn _ (by simp)), xu_rne (hsn _ (by simp))]
  have ko : ∀ o k, o ≠ 99 + b → o ≠ 93 → o ≠ 94 → o ≠ 95 → o ≠ 96 → K1 o k = I o k := by
    intro o k z1 z2 z3 z4 z5
    rw [← hK1, xcp_rne z1, xu_rne z5, xu_rne z4, xu_rne z3, xu_rne z2]
  have kc : ∀ o k, (o = 93 ∨ o = 94 ∨ o = 95 ∨ o = 96) → k ≠ b → K1 o k = I o k := by
    intro o k z1 z2
    rw [← hK1]
    rcases z1 with z | z | z | z
    · subst z
      rw [xcp_rne (by omega), xu_rne (by omega), xu_rne (by omega), xu_rne (by omega), xu_kne z2]
    · subst z
      rw [xcp_rne (by omega), xu_rne (by omega), xu_rne (by omega), xu_kne z2, xu_rne (by omega)]
    · subst z
      rw [xcp_rne (by omega), xu_rne (by omega), xu_kne z2, xu_rne (by omega), xu_rne (by omega)]
    · subst z
      rw [xcp_rne (by omega), xu_kne z2, xu_rne (by omega), xu_rne (by omega), xu_rne (by omega)]
  have k11 : K1 93 b = bl := by rw [← hK1, xcp_rne (by omega), xu_rne (by omega), xu_rne (by omega), xu_rne (by omega), xu_ee]
  have k12 : K1 94 b = ahs (par S') b := by rw [← hK1, xcp_rne (by omega), xu_rne (by omega), xu_rne (by omega), xu_ee]
  have k13 : K1 95 b = n32 (hei S' b) := by rw [← hK1, xcp_rne (by omega), xu_rne (by omega), xu_ee]
  have k14 : K1 96 b = lvc S' b := by rw [← hK1, xcp_rne (by omega), xu_ee]
  -- the end, from the row as it is then
  have fin : ∀ M : TI, (∀ o k, o ≠ 99 + b → (o ≠ 97 ∨ k ≠ b) → M o k = K1 o k) → M 97 b = ch → (∀ v, v < sV S → M (99 + b) v = wt S' b v) → RR (xlim (xcall xprog d) mX2_addBlock 15 [.ref 89, xD, xD, xD, xD, xD, xD, xD] [] (xst e L M (xu J 92 b nm))) (zV e L fun K J' => J' = xu J 92 b nm ∧ (∀ o k, ¬ (89 ≤ o ∧ o < 119) → K o k = I o k) ∧ Tr 89 S' N' K J') := by
    intro M m1 m2 m3
    refine RR_eq (bX2_addBlock_89_15 _ e L M _) (RR_V ⟨rfl, fun o k z => ?_, ?_, ?_, ?_, fun v hv => ?_, fun c hc => ?_⟩)
    · rw [xu_rne (by omega), m1 o k (by omega) (Or.inl (by omega)), ko o k (by omega) (by omega) (by omega) (by omega) (by omega)]
    · rw [xu_kne (by decide), m1 89 0 (by omega) (Or.inl (by decide)), ko 89 0 (by omega) (by decide) (by decide) (by decide) (by decide)]
      exact hT.1.trans hp.1
    · rw [xu_kne (by decide), m1 89 1 (by omega) (Or.inl (by decide)), ko 89 1 (by omega) (by decide) (by decide) (by decide) (by decide)]
      exact hT.2.1.trans hp.2.1
    · rw [xu_ee, m1 89 2 (by omega) (Or.inl (by decide)), ko 89 2 (by omega) (by decide) (by decide) (by decide) (by decide), hBc, n32_succ, h2]
    · rw [← eV] at hv
      refine ⟨?_, ?_⟩
      · show (xu J 92 b nm) 90 v = N' v
        rw [xu_rne (by decide), hN1 v hv]
        exact (hT.2.2.2.1 v hv).1
      · show (xu M 89 2 _) 91 v = S' (4 + v)
        rw [xu_rne (by decide), m1 91 v (by omega) (Or.inl (by decide)), ko 91 v (by omega) (by decide) (by decide) (by decide) (by decide), ← hp.2.2.1 v (by omega)]
        exact (hT.2.2.2.1 v hv).2
    · show (xu J 92 b nm) 92 c = N' (8 + c) ∧ (xu M 89 2 _) 93 c = S' (12 + c) ∧ (xu M 89 2 _) 94 c = ahs (par S') c ∧ (xu M 89 2 _) 95 c = n32 (hei S' c) ∧ (xu M 89 2 _) 96 c = lvc S' c ∧ (xu M 89 2 _) 97 c = S' (32 + c) ∧ ∀ v, v < sV S' → (xu M 89 2 _) (99 + c) v = wt S' c v
      rw [xu_rne (show 93 ≠ 89 by decide), xu_rne (show 94 ≠ 89 by decide), xu_rne (show 95 ≠ 89 by decide), xu_rne (show 96 ≠ 89 by decide), xu_rne (show 97 ≠ 89 by decide), xu_rne (show 99 + c ≠ 89 by omega)]
      by_cases z : c = b
      · subst z
        rw [xu_ee, m1 93 c (by omega) (Or.inl (by decide)), m1 94 c (by omega) (Or.inl (by decide)), m1 95 c (by omega) (Or.inl (by decide)), m1 96 c (by omega) (Or.inl (by decide)), k11, k12, k13, k14, m2]
        exact ⟨hN3.symm, hbl.symm, rfl, rfl, rfl, hch.symm, fun v hv => m3 v (by rw [eV]; exact hv)⟩
      · have hcS : c < sB S := by omega
        obtain ⟨c1, c2, c3, c4, c5, c6, c7⟩ := hT.2.2.2.2 c hcS
        rw [xu_kne z, m1 93 c (by omega) (Or.inl (by decide)), m1 94 c (by omega) (Or.inl (by decide)), m1 95 c (by omega) (Or.inl (by decide)), m1 96 c (by omega) (Or.inl (by decide)), m1 97 c (by omega) (Or.inr z), kc 93 c (by simp) z, kc 94 c (by simp) z, kc 95 c (by simp) z, kc 96 c (by simp) z, ko 97 c (by omega) (by decide) (by decide) (by decide) (by decide)]
        obtain ⟨r1, r2, r3⟩ := hp.2.2.2.2.1 c hcS
        refine ⟨by rw [hN2 c (by omega)]; exact c1, by rw [← r1]; exact c2, by rw [← pre_ahs hp hcS]; exact c3, by rw [← pre_hei hp hcS]; exact c4, by rw [← pre_lvc hp hcS]; exact c5, by rw [← r2]; exact c6, fun v hv => ?_⟩
        rw [← eV] at hv
        rw [m1 (99 + c) v (by omega) (Or.inl (by omega)), ko (99 + c) v (by omega) (by omega) (by omega) (by omega) (by omega), ← pre_wt hp hcS (by omega)]
        exact c7 v hv
  have e15 : K1 89 1 = n32 (sV S) := (ko 89 1 (by omega) (by decide) (by decide) (by decide) (by decide)).trans hV
  have ewt : ∀ v, wt S' b v = if S' (32 + b) = n32 v then S' (52 + b) else if par S' b < b then wt S' (par S' b) v else S' (4 + v) := fun v => by rw [wt]
  rcases (wf_ch hw' (show b < sB S' by omega)).1 with hc | ⟨v, hv, hc⟩
  · have hcm : ch = -1 := by rw [← hch, hc]
    rw [hcm]
    simp (disch := omega) only [n32_ltE, n32_leE, n32_eqE, n32_eqm, m1_eqn, n32_ge0, n32_lt0, n32_nat, n32_succ, n32_add, xin_n32, xin_b1, xin_b2, cond_true, cond_false, if_true, if_false, xcI_some, xcV_some, xcJ_some, xcR_some, xu_ee, xu_rne, xu_kne, ite_self, not_true_eq_false, not_false_eq_true, ne_eq, true_and, and_true, false_and, and_false, m1_lt0, m1_eq0, eq_self, Bool.false_eq_true, reduceCtorEq, z_lt0, i1_eq0, i0_eq1, i1_eq1, xrZ0, xrZ1, xrZt, n32_eq0, n32_eq1, n32_gt0, n32_gt1, n32_lt1, n32_le1, n32_0le, tf0, tf1, xaI_of]
    refine fin (xu K1 97 b (-1)) (fun o k z1 z2 => ?_) (by rw [xu_ee, hcm]) (fun v hv => ?_)
    · by_cases z : o = 97
      · subst z
        rw [xu_kne (by omega)]
      · rw [xu_rne z]
    · rw [xu_rne (by omega), kr v hv]
      exact ((ewt v).trans (if_neg (by rw [hc]; exact fun h => n32_ne1 (by omega) h.symm))).symm
  · rw [← eV] at hv
    have hcm : ch = n32 v := by rw [← hch, hc]
    have hwg' := hwg v hv hcm
    rw [hcm]
    simp (disch := omega) only [n32_ltE, n32_leE, n32_eqE, n32_eqm, m1_eqn, n32_ge0, n32_lt0, n32_nat, n32_succ, n32_add, xin_n32, xin_b1, xin_b2, cond_true, cond_false, if_true, if_false, xcI_some, xcV_some, xcJ_some, xcR_some, xu_ee, xu_rne, xu_kne, ite_self, not_true_eq_false, not_false_eq_true, ne_eq, true_and, and_true, false_and, and_false, m1_lt0, m1_eq0, eq_self, Bool.false_eq_true, reduceCtorEq, z_lt0, i1_eq0, i0_eq1, i1_eq1, xrZ0, xrZ1, xrZt, n32_eq0, n32_eq1, n32_gt0, n32_gt1, n32_lt1, n32_le1, n32_0le, tf0, tf1, xaI_of, e15, hv, xaR_t89 hB, xok_of (G0_r89 b hB)]
    refine fin (xu (xu K1 97 b (n32 v)) (99 + b) v wg) (fun o k z1 z2 => ?_) (by rw [xu_rne (by omega), xu_ee, hcm]) (fun u hu => ?_)
    · rw [xu_rne z1]
      by_cases z : o = 97
      · subst z
        rw [xu_kne (by omega)]
      · rw [xu_rne z]
    · by_cases z : u = v
      · subst z
        rw [xu_ee, ← hwg']
        exact ((ewt u).trans (if_pos hc)).symm
      · rw [xu_kne z, xu_rne (by omega), kr u hu]
        exact ((ewt u).trans (if_neg (by rw [hc]; exact fun h => z ((n32_inj (by omega) (by omega)).mp h).symm))).symm
