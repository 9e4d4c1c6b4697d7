/-! Links: the voters of each. -/
theorem G0_51 : ∀ s, s < 20 → xn G0 (51 + s) = some (14, 20, []) := by decide
theorem G0_81 : ∀ s, s < 8 → xn G0 (81 + s) = some (14, 10, []) := by decide
theorem xok_of {e L r n i : Nat} (h : xn G0 r = some (14, n, [])) (hi : i < n) (h2 : i < 2147483648) : (xis (G0, e, L) 14 r && xin (n32 i) (xlen (G0, e, L) 14 r)) = true := by
  have q1 : xis (G0, e, L) 14 r = true := by
    unfold xis
    show (match xn G0 r with | some a => Nat.beq a.1 14 | none => false) = true
    rw [h]
    rfl
  have q2 : xlen (G0, e, L) 14 r = n := by
    unfold xlen
    show (match xn G0 r with | some a => bif Nat.beq a.1 14 then a.2.1 else 0 | none => _) = n
    rw [h]
    rfl
  rw [q1, q2, xin_n32 h2 hi]
  rfl
section LK
variable {d e L : Nat} {S : TS} {N : Nat → Int64} {I : TI} {J : TJ} {a b s t v k i : Nat}
theorem c_gatherLinks (hw : wfT S) (hA : Ac 37 S I) (hk : wfK S) : RR (xcall xprog (d + 1) 46 [.ref 47] (xst e L I J)) (zV e L fun K J' => J' = J ∧ (∀ o k, ¬ (51 ≤ o ∧ o < 71) → (o ≠ 47 ∨ k ≠ 4) → K o k = I o k) ∧ (∀ s t, s < 20 → t < 20 → K (51 + s) t = mk S s t) ∧ K 47 4 = n32 (lnN S (sK S))) := by
  have h48 := k_48 hk
  have h8 := wf_V8 hw
  have h20 := wf_B hw
  refine RR_eq ((aX4_gatherLinks _ e L I J).trans (bX4_gatherLinks_0 _ e L I J)) ?_
  -- rows are emptied
  obtain ⟨K, h1, h2, h3, h4⟩ := xfor (fun i K => xlim (xcall xprog d) mX4_gatherLinks 1 [.ref 47, .int (n32 i), xD, xD] [] (xst e L K J))
    (fun i K => (∀ o k, ¬ (51 ≤ o ∧ o < 71) → (o ≠ 47 ∨ k ≠ 4) → K o k = I o k) ∧ (∀ s t, s < i → t < 20 → K (51 + s) t = 0) ∧ K 47 4 = 0) (n := 20) (fun i K hi ⟨g1, g2, g3⟩ => by
      obtain ⟨K', e1, e2, e3, e4⟩ := xfor (fun j K => xlim (xcall xprog d) mX4_gatherLinks 2 [.ref 47, .int (n32 i), .int (n32 j), xD] [] (xst e L K J))
        (fun j K => (∀ o k, ¬ (51 ≤ o ∧ o < 71) → (o ≠ 47 ∨ k ≠ 4) → K o k = I o k) ∧ (∀ s t, (s < i ∧ t < 20 ∨ s = i ∧ t < j) → K (51 + s) t = 0) ∧ K 47 4 = 0) (n := 20) (fun j K hj ⟨f1, f2, f3⟩ => by
          refine ⟨xu K (51 + i) j 0, ?_, ?_, ?_, ?_⟩
          · refine (bX4_gatherLinks_2 _ e L K J _ _).trans ?_
            simp (disch := omega) only [n32_ltE, n32_leE, n32_eqE, n32_eqm, m1_eqn, n32_ge0, n32_lt0, n32_nat, n32_succ, n32_add, xin_n32, xin_b1, xin_b2, cond_true, cond_false, if_true, if_false, xcI_some, xcV_some, xcJ_some, xcR_some, xu_ee, xu_rne, xu_kne, ite_self, not_true_eq_false, not_false_eq_true, ne_eq, true_and, and_true, false_and, and_false, m1_lt0, m1_eq0, eq_self, Bool.false_eq_true, reduceCtorEq, z_lt0, i1_eq0, i0_eq1, i1_eq1, xrZ0, xrZ1, xrZt, n32_eq0, n32_eq1, n32_gt0, n32_gt1, n32_lt1, n32_le1, n32_0le, tf0, tf1, xaI_of, q20a, q20b, q20m, q20l, q20g, q20r, q20s, q20e, bX4_gatherLinks_0, bX4_gatherLinks_3, bX4_gatherLinks_4, bX4_gatherLinks_6, bX4_gatherLinks_7, hj, xaR_50, xok_of (G0_51 i hi) hj]
          · intro o k z1 z2
            rw [xu_rne (by omega), f1 o k z1 z2]
          · intro s t z
            by_cases q : s = i ∧ t = j
            · rw [q.1, q.2, xu_ee]
            · by_cases q2 : s = i
              · subst q2
                rw [xu_kne (by omega), f2 s t (by omega)]
              · rw [xu_rne (by omega), f2 s t (by omega)]
          · rw [xu_rne (by omega), f3]) K ⟨g1, fun s t z => g2 s t (by omega) (by omega), g3⟩
      refine ⟨K', ?_, e2, fun s t z1 z2 => e3 s t (by omega), e4⟩
      refine (bX4_gatherLinks_1 _ e L K J _).trans ?_
      simp (disch := omega) only [n32_ltE, n32_leE, n32_eqE, n32_eqm, m1_eqn, n32_ge0, n32_lt0, n32_nat, n32_succ, n32_add, xin_n32, xin_b1, xin_b2, cond_true, cond_false, if_true, if_false, xcI_some, xcV_some, xcJ_some, xcR_some, xu_ee, xu_rne, xu_kne, ite_self, not_true_eq_false, not_false_eq_true, ne_eq, true_and, and_true, false_and, and_false, m1_lt0, m1_eq0, eq_self, Bool.false_eq_true, reduceCtorEq, z_lt0, i1_eq0, i0_eq1, i1_eq1, xrZ0, xrZ1, xrZt, n32_eq0, n32_eq1, n32_gt0, n32_gt1, n32_lt1, n32_le1, n32_0le, tf0, tf1, xaI_of, q20a, q20b, q20m, q20l, q20g, q20r, q20s, q20e, hi]
      refine e1.trans ((bX4_gatherLinks_2 _ e L K' J _ _).trans ?_)
      simp (disch := omega) only [n32_ltE, n32_leE, n32_eqE, n32_eqm, m1_eqn, n32_ge0, n32_lt0, n32_nat, n32_succ, n32_add, xin_n32, xin_b1, xin_b2, cond_true, cond_false, if_true, if_false, xcI_some, xcV_some, xcJ_some, xcR_some, xu_ee, xu_rne, xu_kne, ite_self, not_true_eq_false, not_false_eq_true, ne_eq, true_and, and_true, false_and, and_false, m1_lt0, m1_eq0, eq_self, Bool.false_eq_true, reduceCtorEq, z_lt0, i1_eq0, i0_eq1, i1_eq1, xrZ0, xrZ1, xrZt, n32_eq0, n32_eq1, n32_gt0, n32_gt1, n32_lt1, n32_le1, n32_0le, tf0, tf1, xaI_of, q20a, q20b, q20m, q20l, q20g, q20r, q20s, q20e, bX4_gatherLinks_0, bX4_gatherLinks_3, bX4_gatherLinks_4, bX4_gatherLinks_6, bX4_gatherLinks_7, Nat.lt_irrefl]) (xu I 47 4 0) ⟨fun o k z1 z2 => by
        rcases z2 with z2 | z2
        · rw [xu_rne z2]
        · by_cases q : o = 47
          · subst q
            rw [xu_kne z2]
          · rw [xu_rne q], fun s t z => absurd z (Nat.not_lt_zero s), xu_ee⟩
  refine RR_eq h1 (RR_eq (bX4_gatherLinks_1 _ e L K J _) ?_)
  simp (disch := omega) only [n32_ltE, n32_leE, n32_eqE, n32_eqm, m1_eqn, n32_ge0, n32_lt0, n32_nat, n32_succ, n32_add, xin_n32, xin_b1, xin_b2, cond_true, cond_false, if_true, if_false, xcI_some, xcV_some, xcJ_some, xcR_some, xu_ee, xu_rne, xu_kne, ite_self, not_true_eq_false, not_false_eq_true, ne_eq, true_and, and_true, false_and, and_false, m1_lt0, m1_eq0, eq_self, Bool.false_eq_true, reduceCtorEq, z_lt0, i1_eq0, i0_eq1, i1_eq1, xrZ0, xrZ1, xrZt, n32_eq0, n32_eq1, n32_gt0, n32_gt1, n32_lt1, n32_le1, n32_0le, tf0, tf1, xaI_of, q20a, q20b, q20m, q20l, q20g, q20r, q20s, q20e, bX4_gatherLinks_0, bX4_gatherLinks_3, bX4_gatherLinks_4, bX4_gatherLinks_6, bX4_gatherLinks_7, Nat.lt_irrefl]
  obtain ⟨M, e1, e2, e3, e4⟩ := xfor (fun i K => xlim (xcall xprog d) mX4_gatherLinks 5 [.ref 47, .int (n32 i), xD, xD] [] (xst e L K J))
    (fun i K => (∀ o k, ¬ (51 ≤ o ∧ o < 71) → (o ≠ 47 ∨ k ≠ 4) → K o k = I o k) ∧ (∀ s t, s < 20 → t < 20 → K (51 + s) t = mkN S i s t) ∧ K 47 4 = n32 (lnN S i)) (n := sK S) (fun i K hi ⟨f1, f2, f3⟩ => by
      have hA2 : Ac 37 S K := Ac_c (fun o k q1 q2 => f1 o k (by omega) (Or.inl (by omega))) hA
      have s1 := k_sl hk hi
      have t1 := k_tl hk hi
      have v1 := k_vl hk hi
      have hs : so S i < 20 := by omega
      have ht : ta S i < 20 := by omega
      refine ⟨xu (xu K 47 4 (n32 (lnN S (i + 1)))) (51 + so S i) (ta S i) (mkN S (i + 1) (so S i) (ta S i)), ?_, ?_, ?_, ?_⟩
      · refine (bX4_gatherLinks_5 _ e L K J _).trans ?_
        simp (disch := omega) only [n32_ltE, n32_leE, n32_eqE, n32_eqm, m1_eqn, n32_ge0, n32_lt0, n32_nat, n32_succ, n32_add, xin_n32, xin_b1, xin_b2, cond_true, cond_false, if_true, if_false, xcI_some, xcV_some, xcJ_some, xcR_some, xu_ee, xu_rne, xu_kne, ite_self, not_true_eq_false, not_false_eq_true, ne_eq, true_and, and_true, false_and, and_false, m1_lt0, m1_eq0, eq_self, Bool.false_eq_true, reduceCtorEq, z_lt0, i1_eq0, i0_eq1, i1_eq1, xrZ0, xrZ1, xrZt, n32_eq0, n32_eq1, n32_gt0, n32_gt1, n32_lt1, n32_le1, n32_0le, tf0, tf1, xaI_of, a_K hA2 hk, hi, a_so hA2 hk hi, a_ta hA2 hk hi, xaR_50, xaI_of (G0_51 _ hs), f2 _ _ hs ht]
        have em : mkN S (i + 1) (so S i) (ta S i) = mkN S i (so S i) (ta S i) ||| (1 <<< (n32 (vo S i) &&& 31)) := (mkN_s S i _ _).trans (if_pos ⟨rfl, rfl⟩)
        rw [lnN_s, em]
        by_cases q : mkN S i (so S i) (ta S i) = 0
        · rw [if_pos q, if_pos q]
          refine (bX4_gatherLinks_6 _ e L _ J _ _ _).trans ?_
          simp (disch := omega) only [n32_ltE, n32_leE, n32_eqE, n32_eqm, m1_eqn, n32_ge0, n32_lt0, n32_nat, n32_succ, n32_add, xin_n32, xin_b1, xin_b2, cond_true, cond_false, if_true, if_false, xcI_some, xcV_some, xcJ_some, xcR_some, xu_ee, xu_rne, xu_kne, ite_self, not_true_eq_false, not_false_eq_true, ne_eq, true_and, and_true, false_and, and_false, m1_lt0, m1_eq0, eq_self, Bool.false_eq_true, reduceCtorEq, z_lt0, i1_eq0, i0_eq1, i1_eq1, xrZ0, xrZ1, xrZt, n32_eq0, n32_eq1, n32_gt0, n32_gt1, n32_lt1, n32_le1, n32_0le, tf0, tf1, xaI_of, xaR_50, xaI_of (G0_51 _ hs), f2 _ _ hs ht, a_vo hA2 hk hi, xok_of (G0_51 _ hs), f3, q]
        · rw [if_neg q, if_neg q]
          have hx : xu K 47 4 (n32 (lnN S i)) = K := by
            funext o k
            by_cases z : o = 47 ∧ k = 4
            · rw [z.1, z.2, xu_ee, f3]
            · exact if_neg z
          rw [hx]
          refine (bX4_gatherLinks_6 _ e L _ J _ _ _).trans ?_
          simp (disch := omega) only [n32_ltE, n32_leE, n32_eqE, n32_eqm, m1_eqn, n32_ge0, n32_lt0, n32_nat, n32_succ, n32_add, xin_n32, xin_b1, xin_b2, cond_true, cond_false, if_true, if_false, xcI_some, xcV_some, xcJ_some, xcR_some, xu_ee, xu_rne, xu_kne, ite_self, not_true_eq_false, not_false_eq_true, ne_eq, true_and, and_true, false_and, and_false, m1_lt0, m1_eq0, eq_self, Bool.false_eq_true, reduceCtorEq, z_lt0, i1_eq0, i0_eq1, i1_eq1, xrZ0, xrZ1, xrZt, n32_eq0, n32_eq1, n32_gt0, n32_gt1, n32_lt1, n32_le1, n32_0le, tf0, tf1, xaI_of, xaR_50, xaI_of (G0_51 _ hs), f2 _ _ hs ht, a_vo hA2 hk hi, xok_of (G0_51 _ hs)]
      · intro o k z1 z2
        rw [xu_rne (by omega), ← f1 o k z1 z2]
        rcases z2 with z2 | z2
        · rw [xu_rne z2]
        · by_cases q : o = 47
          · subst q
            rw [xu_kne z2]
          · rw [xu_rne q]
      · intro s t z1 z2
        by_cases q : s = so S i
        · subst q
          by_cases q2 : t = ta S i
          · subst q2
            rw [xu_ee]
          · rw [xu_kne q2, xu_rne (by omega), f2 _ t z1 z2, mkN_s, if_neg (by omega)]
        · rw [xu_rne (by omega), xu_rne (by omega), f2 s t z1 z2, mkN_s, if_neg (by omega)]
      · rw [xu_rne (by omega), xu_ee]) K ⟨h2, fun s t z1 z2 => h3 s t z1 z2, h4⟩
  refine RR_eq e1 (RR_eq (bX4_gatherLinks_5 _ e L M J _) ?_)
  have hA2 : Ac 37 S M := Ac_c (fun o k q1 q2 => e2 o k (by omega) (Or.inl (by omega))) hA
  simp (disch := omega) only [n32_ltE, n32_leE, n32_eqE, n32_eqm, m1_eqn, n32_ge0, n32_lt0, n32_nat, n32_succ, n32_add, xin_n32, xin_b1, xin_b2, cond_true, cond_false, if_true, if_false, xcI_some, xcV_some, xcJ_some, xcR_some, xu_ee, xu_rne, xu_kne, ite_self, not_true_eq_false, not_false_eq_true, ne_eq, true_and, and_true, false_and, and_false, m1_lt0, m1_eq0, eq_self, Bool.false_eq_true, reduceCtorEq, z_lt0, i1_eq0, i0_eq1, i1_eq1, xrZ0, xrZ1, xrZt, n32_eq0, n32_eq1, n32_gt0, n32_gt1, n32_lt1, n32_le1, n32_0le, tf0, tf1, xaI_of, q20a, q20b, q20m, q20l, q20g, q20r, q20s, q20e, bX4_gatherLinks_0, bX4_gatherLinks_3, bX4_gatherLinks_4, bX4_gatherLinks_6, bX4_gatherLinks_7, a_K hA2 hk, Nat.lt_irrefl]
  exact RR_V ⟨rfl, e2, e3, e4⟩
theorem n32_20 {a b : Nat} : (20 * n32 a) + n32 b = n32 (20 * a + b) := by
  rw [show (20 : Int32) = n32 20 from rfl, n32_mul, n32_add]
/-- the reference's pairs, in its own order -/
theorem prS_r : sumN (fun i => sumN (fun j => gp S j i) i) (sK S) = prS S := by
  unfold prS
  rw [sumN_swap]
  exact sumN_c (fun i hi => (sumN_tl (Nat.le_of_lt hi) (fun j h1 h2 => by unfold gp; rw [if_neg (by omega)])).symm)
theorem ofd_r (hk : wfK S) (h : v < 32) : exN (fun i => exN (fun j => ob S v j i) i) (sK S) = ofd S v := by
  unfold ofd
  rw [Bool.eq_iff_iff, exN_iff, exN_iff]
  constructor
  · rintro ⟨i, h1, h2⟩
    obtain ⟨j, h3, h4⟩ := (exN_iff _ _).mp h2
    exact ⟨j, by omega, (exN_iff _ _).mpr ⟨i, h1, h4⟩⟩
  · rintro ⟨i, h1, h2⟩
    obtain ⟨j, h3, h4⟩ := (exN_iff _ _).mp h2
    refine ⟨j, h3, (exN_iff _ _).mpr ⟨i, ?_, h4⟩⟩
    unfold ob at h4
    simp only [Bool.and_eq_true, decide_eq_true_eq] at h4
    exact h4.1
theorem r_laysVotes (hS : I 211 = S) (hw : wfT S) (hR : RT S I) (hk : wfK S) : RR (xcall xprog (d + 4) 196 [.ref 209] (xst e L I J)) (zV e L fun K J' => J' = J ∧ (∀ o k, o ≠ 219 → (o ≠ 209 ∨ (k ≠ 28 ∧ k ≠ 31 ∧ k ≠ 33)) → K o k = I o k) ∧ (∀ s t, s < 20 → t < 20 → K 219 (20 * s + t) = mk S s t) ∧ K 209 31 = n32 (lnN S (sK S)) ∧ K 209 28 = ofS S ∧ K 209 33 = n32 (prS S)) := by
  have h48 := k_48 hk
  have h8 := wf_V8 hw
  have h20 := wf_B hw
  refine RR_eq ((aX12_laysVotes _ e L I J).trans (bX12_laysVotes_0 _ e L I J)) ?_
  obtain ⟨K, h1, h2, h3, h4, h5, h6⟩ := xfor (fun i K => xlim (xcall xprog (d + 3)) mX12_laysVotes 1 [.ref 209, .int (n32 i), xD, xD] [] (xst e L K J))
    (fun i K => (∀ o k, o ≠ 219 → (o ≠ 209 ∨ (k ≠ 28 ∧ k ≠ 31 ∧ k ≠ 33)) → K o k = I o k) ∧ (∀ k, k < i → K 219 k = 0) ∧ K 209 31 = 0 ∧ K 209 28 = 0 ∧ K 209 33 = 0) (n := 400) (fun i K hi ⟨g1, g2, g3, g4, g5⟩ => by
      refine ⟨xu K 219 i 0, ?_, ?_, ?_, ?_, ?_, ?_⟩
      · refine (bX12_laysVotes_1 _ e L K J _).trans ?_
        simp (disch := omega) only [n32_ltE, n32_leE, n32_eqE, n32_eqm, m1_eqn, n32_ge0, n32_lt0, n32_nat, n32_succ, n32_add, xin_n32, xin_b1, xin_b2, cond_true, cond_false, if_true, if_false, xcI_some, xcV_some, xcJ_some, xcR_some, xu_ee, xu_rne, xu_kne, ite_self, not_true_eq_false, not_false_eq_true, ne_eq, true_and, and_true, false_and, and_false, m1_lt0, m1_eq0, eq_self, Bool.false_eq_true, reduceCtorEq, z_lt0, i1_eq0, i0_eq1, i1_eq1, xrZ0, xrZ1, xrZt, n32_eq0, n32_eq1, n32_gt0, n32_gt1, n32_lt1, n32_le1, n32_0le, tf0, tf1, xaI_of, q400a, q400b, q400m, q400l, q400g, q400r, q400s, q400e, hi]
      · intro o k z1 z2
        rw [xu_rne z1, g1 o k z1 z2]
      · intro k hk2
        by_cases q : k = i
        · rw [q, xu_ee]
        · rw [xu_kne q, g2 k (by omega)]
      · rw [xu_rne (by decide), g3]
      · rw [xu_rne (by decide), g4]
      · rw [xu_rne (by decide), g5]) (xu (xu (xu I 209 28 0) 209 33 0) 209 31 0) ⟨fun o k z1 z2 => by
        by_cases q : o = 209
        · subst q
          rw [xu_kne (by omega), xu_kne (by omega), xu_kne (by omega)]
        · rw [xu_rne q, xu_rne q, xu_rne q], fun k z => absurd z (Nat.not_lt_zero k), xu_ee, by rw [xu_kne (by decide), xu_kne (by decide), xu_ee], by rw [xu_kne (by decide), xu_ee]⟩
  refine RR_eq h1 (RR_eq (bX12_laysVotes_1 _ e L K J _) ?_)
  simp (disch := omega) only [n32_ltE, n32_leE, n32_eqE, n32_eqm, m1_eqn, n32_ge0, n32_lt0, n32_nat, n32_succ, n32_add, xin_n32, xin_b1, xin_b2, cond_true, cond_false, if_true, if_false, xcI_some, xcV_some, xcJ_some, xcR_some, xu_ee, xu_rne, xu_kne, ite_self, not_true_eq_false, not_false_eq_true, ne_eq, true_and, and_true, false_and, and_false, m1_lt0, m1_eq0, eq_self, Bool.false_eq_true, reduceCtorEq, z_lt0, i1_eq0, i0_eq1, i1_eq1, xrZ0, xrZ1, xrZt, n32_eq0, n32_eq1, n32_gt0, n32_gt1, n32_lt1, n32_le1, n32_0le, tf0, tf1, xaI_of, q20a, q20b, q20m, q20l, q20g, q20r, q20s, q20e, q72a, q72b, q72m, q72l, q72g, q72r, q72s, q72e, q120a, q120b, q120m, q120l, q120g, q120r, q120s, q120e, q168a, q168b, q168m, q168l, q168g, q168r, q168s, q168e, q400a, q400b, q400m, q400l, q400g, q400r, q400s, q400e, bX12_laysVotes_0, bX12_laysVotes_2, bX12_laysVotes_4, bX12_laysVotes_5, ekX12_laysVotes_6_6, bX12_laysVotes_7, bX12_laysVotes_8, bX12_laysVotes_9, bX12_laysVotes_10, Nat.lt_irrefl]
  obtain ⟨M, e1, e2, e3, e4, e5, e6⟩ := xfor (fun i K => xlim (xcall xprog (d + 3)) mX12_laysVotes 3 [.ref 209, .int (n32 i), xD, xD] [] (xst e L K J))
    (fun i K => (∀ o k, o ≠ 219 → (o ≠ 209 ∨ (k ≠ 28 ∧ k ≠ 31 ∧ k ≠ 33)) → K o k = I o k) ∧ (∀ s t, s < 20 → t < 20 → K 219 (20 * s + t) = mkN S i s t) ∧ K 209 31 = n32 (lnN S i) ∧ (∀ v, v < 32 → bt (K 209 28) v = exN (fun i => exN (fun j => ob S v j i) i) i) ∧ K 209 33 = n32 (sumN (fun i => sumN (fun j => gp S j i) i) i)) (n := sK S) (fun i K hi ⟨f1, f2, f3, f4, f5⟩ => by
      have hS2 : K 211 = S := (funext fun k => f1 211 k (by decide) (Or.inl (by decide))).trans hS
      have s1 := k_sl hk hi
      have t1 := k_tl hk hi
      have v1 := k_vl hk hi
      have hs : so S i < 20 := by omega
      have ht : ta S i < 20 := by omega
      -- the link
      have em : mkN S (i + 1) (so S i) (ta S i) = mkN S i (so S i) (ta S i) ||| (1 <<< (n32 (vo S i) &&& 31)) := (mkN_s S i _ _).trans (if_pos ⟨rfl, rfl⟩)
      have hl : xlim (xcall xprog (d + 3)) mX12_laysVotes 3 [.ref 209, .int (n32 i), xD, xD] [] (xst e L K J) = xlim (xcall xprog (d + 3)) mX12_laysVotes 6 [.ref 209, .int (n32 i), xD, .int (n32 0)] [] (xst e L (xu (xu K 209 31 (n32 (lnN S (i + 1)))) 219 (20 * so S i + ta S i) (mkN S (i + 1) (so S i) (ta S i))) J) := by
        refine (bX12_laysVotes_3 _ e L K J _).trans ?_
        rw [lnN_s, em]
        have hb : 20 * so S i + ta S i < 400 := by omega
        by_cases q : mkN S i (so S i) (ta S i) = 0
        · simp (disch := omega) only [n32_ltE, n32_leE, n32_eqE, n32_eqm, m1_eqn, n32_ge0, n32_lt0, n32_nat, n32_succ, n32_add, xin_n32, xin_b1, xin_b2, cond_true, cond_false, if_true, if_false, xcI_some, xcV_some, xcJ_some, xcR_some, xu_ee, xu_rne, xu_kne, ite_self, not_true_eq_false, not_false_eq_true, ne_eq, true_and, and_true, false_and, and_false, m1_lt0, m1_eq0, eq_self, Bool.false_eq_true, reduceCtorEq, z_lt0, i1_eq0, i0_eq1, i1_eq1, xrZ0, xrZ1, xrZt, n32_eq0, n32_eq1, n32_gt0, n32_gt1, n32_lt1, n32_le1, n32_0le, tf0, tf1, xaI_of, q20a, q20b, q20m, q20l, q20g, q20r, q20s, q20e, q72a, q72b, q72m, q72l, q72g, q72r, q72s, q72e, q120a, q120b, q120m, q120l, q120g, q120r, q120s, q120e, q168a, q168b, q168m, q168l, q168g, q168r, q168s, q168e, q400a, q400b, q400m, q400l, q400g, q400r, q400s, q400e, bX12_laysVotes_0, bX12_laysVotes_2, bX12_laysVotes_4, bX12_laysVotes_5, ekX12_laysVotes_6_6, bX12_laysVotes_7, bX12_laysVotes_8, bX12_laysVotes_9, bX12_laysVotes_10, hS2, k_3 hk, hi, k_so hk hi, k_ta hk hi, k_vo hk hi, n32_20, f2 _ _ hs ht, q, f3]
          rfl
        · simp (disch := omega) only [n32_ltE, n32_leE, n32_eqE, n32_eqm, m1_eqn, n32_ge0, n32_lt0, n32_nat, n32_succ, n32_add, xin_n32, xin_b1, xin_b2, cond_true, cond_false, if_true, if_false, xcI_some, xcV_some, xcJ_some, xcR_some, xu_ee, xu_rne, xu_kne, ite_self, not_true_eq_false, not_false_eq_true, ne_eq, true_and, and_true, false_and, and_false, m1_lt0, m1_eq0, eq_self, Bool.false_eq_true, reduceCtorEq, z_lt0, i1_eq0, i0_eq1, i1_eq1, xrZ0, xrZ1, xrZt, n32_eq0, n32_eq1, n32_gt0, n32_gt1, n32_lt1, n32_le1, n32_0le, tf0, tf1, xaI_of, q20a, q20b, q20m, q20l, q20g, q20r, q20s, q20e, q72a, q72b, q72m, q72l, q72g, q72r, q72s, q72e, q120a, q120b, q120m, q120l, q120g, q120r, q120s, q120e, q168a, q168b, q168m, q168l, q168g, q168r, q168s, q168e, q400a, q400b, q400m, q400l, q400g, q400r, q400s, q400e, bX12_laysVotes_0, bX12_laysVotes_2, bX12_laysVotes_4, bX12_laysVotes_5, ekX12_laysVotes_6_6, bX12_laysVotes_7, bX12_laysVotes_8, bX12_laysVotes_9, bX12_laysVotes_10, hS2, k_3 hk, hi, k_so hk hi, k_ta hk hi, k_vo hk hi, n32_20, f2 _ _ hs ht, q, f3, Int32.add_zero]
          rfl
      -- the pairs
      obtain ⟨M, e1, e2, e3, e4, e5, e6⟩ := xfor (fun j K => xlim (xcall xprog (d + 3)) mX12_laysVotes 6 [.ref 209, .int (n32 i), xD, .int (n32 j)] [] (xst e L K J))
        (fun j K => (∀ o k, o ≠ 219 → (o ≠ 209 ∨ (k ≠ 28 ∧ k ≠ 31 ∧ k ≠ 33)) → K o k = I o k) ∧ (∀ s t, s < 20 → t < 20 → K 219 (20 * s + t) = mkN S (i + 1) s t) ∧ K 209 31 = n32 (lnN S (i + 1)) ∧ (∀ v, v < 32 → bt (K 209 28) v = (exN (fun i => exN (fun j => ob S v j i) i) i || exN (fun j => ob S v j i) j)) ∧ K 209 33 = n32 (sumN (fun i => sumN (fun j => gp S j i) i) i + sumN (fun j => gp S j i) j)) (n := i) (fun j K hj ⟨g1, g2, g3, g4, g5⟩ => by
          have hS3 : K 211 = S := (funext fun k => g1 211 k (by decide) (Or.inl (by decide))).trans hS
          have hR3 : RT S K := fun b hb => ⟨(g1 217 b (by decide) (Or.inl (by decide))).trans (hR b hb).1, (g1 218 b (by decide) (Or.inl (by decide))).trans (hR b hb).2⟩
          have hof : ofp S j i < 2147483648 := by
            unfold ofp
            have := ofn_le (S := S) (a := so S j) (b := ta S j) (c := so S i) (x := ta S i)
            by_cases q : vo S j = vo S i
            · rw [if_pos q]; omega
            · rw [if_neg q]; omega
          have e0 := bX12_laysVotes_6 (xcall xprog (d + 3)) e L K J (n32 i) (n32 j)
          by_cases q : ofp S j i = 0
          · refine ⟨K, e0.trans ?_, g1, g2, g3, ?_, ?_⟩
            · simp (disch := omega) only [n32_ltE, n32_leE, n32_eqE, n32_eqm, m1_eqn, n32_ge0, n32_lt0, n32_nat, n32_succ, n32_add, xin_n32, xin_b1, xin_b2, cond_true, cond_false, if_true, if_false, xcI_some, xcV_some, xcJ_some, xcR_some, xu_ee, xu_rne, xu_kne, ite_self, not_true_eq_false, not_false_eq_true, ne_eq, true_and, and_true, false_and, and_false, m1_lt0, m1_eq0, eq_self, Bool.false_eq_true, reduceCtorEq, z_lt0, i1_eq0, i0_eq1, i1_eq1, xrZ0, xrZ1, xrZt, n32_eq0, n32_eq1, n32_gt0, n32_gt1, n32_lt1, n32_le1, n32_0le, tf0, tf1, xaI_of, q20a, q20b, q20m, q20l, q20g, q20r, q20s, q20e, q72a, q72b, q72m, q72l, q72g, q72r, q72s, q72e, q120a, q120b, q120m, q120l, q120g, q120r, q120s, q120e, q168a, q168b, q168m, q168l, q168g, q168r, q168s, q168e, q400a, q400b, q400m, q400l, q400g, q400r, q400s, q400e, bX12_laysVotes_0, bX12_laysVotes_2, bX12_laysVotes_4, bX12_laysVotes_5, ekX12_laysVotes_6_6, bX12_laysVotes_7, bX12_laysVotes_8, bX12_laysVotes_9, bX12_laysVotes_10, hj, r_offence hS3 hw hR3 hk (show j < sK S by omega) hi, q]
            · intro v hv
              rw [g4 v hv, exN_s]
              simp [ob, q]
            · rw [g5, sumN_s]
              simp [gp, q]
          · have hvv : vo S j = vo S i := by
              by_cases z : vo S j = vo S i
              · exact z
              · exact absurd (by unfold ofp; rw [if_neg z]) q
            refine ⟨xu (xu K 209 28 (K 209 28 ||| (1 <<< (n32 (vo S i) &&& 31)))) 209 33 (K 209 33 + 1), e0.trans ?_, ?_, ?_, ?_, ?_, ?_⟩
            · simp (disch := omega) only [n32_ltE, n32_leE, n32_eqE, n32_eqm, m1_eqn, n32_ge0, n32_lt0, n32_nat, n32_succ, n32_add, xin_n32, xin_b1, xin_b2, cond_true, cond_false, if_true, if_false, xcI_some, xcV_some, xcJ_some, xcR_some, xu_ee, xu_rne, xu_kne, ite_self, not_true_eq_false, not_false_eq_true, ne_eq, true_and, and_true, false_and, and_false, m1_lt0, m1_eq0, eq_self, Bool.false_eq_true, reduceCtorEq, z_lt0, i1_eq0, i0_eq1, i1_eq1, xrZ0, xrZ1, xrZt, n32_eq0, n32_eq1, n32_gt0, n32_gt1, n32_lt1, n32_le1, n32_0le, tf0, tf1, xaI_of, q20a, q20b, q20m, q20l, q20g, q20r, q20s, q20e, q72a, q72b, q72m, q72l, q72g, q72r, q72s, q72e, q120a, q120b, q120m, q120l, q120g, q120r, q120s, q120e, q168a, q168b, q168m, q168l, q168g, q168r, q168s, q168e, q400a, q400b, q400m, q400l, q400g, q400r, q400s, q400e, bX12_laysVotes_0, bX12_laysVotes_2, bX12_laysVotes_4, bX12_laysVotes_5, ekX12_laysVotes_6_6, bX12_laysVotes_7, bX12_laysVotes_8, bX12_laysVotes_9, bX12_laysVotes_10, hj, r_offence hS3 hw hR3 hk (show j < sK S by omega) hi, q, hS3, k_vo hk hi]
            · intro o k z1 z2
              rw [← g1 o k z1 z2]
              by_cases z : o = 209
              · subst z
                rw [xu_kne (by omega), xu_kne (by omega)]
              · rw [xu_rne z, xu_rne z]
            · intro s t z1 z2
              rw [xu_rne (by decide), xu_rne (by decide), g2 s t z1 z2]
            · rw [xu_kne (by decide), xu_kne (by decide), g3]
            · intro v hv
              rw [xu_kne (by decide), xu_ee, bt_set _ (by omega) hv, g4 v hv, exN_s, Bool.or_assoc]
              have : ob S v j i = decide (v = vo S i) := by
                unfold ob
                by_cases z : v = vo S i
                · simp [q, z, hvv, hj]
                · have z' : ¬ vo S j = v := fun h => z (by omega)
                  simp [z, z']
              rw [this]
            · rw [xu_ee, g5, sumN_s, n32_succ]
              have : gp S j i = 1 := by
                unfold gp
                rw [if_pos ⟨hj, q⟩]
              rw [this, Nat.add_assoc]) (xu (xu K 209 31 (n32 (lnN S (i + 1)))) 219 (20 * so S i + ta S i) (mkN S (i + 1) (so S i) (ta S i))) ⟨fun o k z1 z2 => by
          rw [xu_rne z1, ← f1 o k z1 z2]
          by_cases z : o = 209
          · subst z
            rw [xu_kne (by omega)]
          · rw [xu_rne z], fun s t z1 z2 => by
          by_cases q : s = so S i ∧ t = ta S i
          · rw [q.1, q.2, xu_ee]
          · rw [xu_kne (by omega), xu_rne (by decide), f2 s t z1 z2, mkN_s, if_neg (by omega)], by rw [xu_rne (by decide), xu_ee], fun v hv => by
          rw [xu_rne (by decide), xu_kne (by decide), f4 v hv]
          show _ = (_ || false)
          rw [Bool.or_false], by
          rw [xu_rne (by decide), xu_kne (by decide), f5]
          rfl⟩
      refine ⟨M, hl.trans (e1.trans ?_), e2, e3, e4, ?_, ?_⟩
      · refine (bX12_laysVotes_6 _ e L M J _ _).trans ?_
        simp (disch := omega) only [n32_ltE, n32_leE, n32_eqE, n32_eqm, m1_eqn, n32_ge0, n32_lt0, n32_nat, n32_succ, n32_add, xin_n32, xin_b1, xin_b2, cond_true, cond_false, if_true, if_false, xcI_some, xcV_some, xcJ_some, xcR_some, xu_ee, xu_rne, xu_kne, ite_self, not_true_eq_false, not_false_eq_true, ne_eq, true_and, and_true, false_and, and_false, m1_lt0, m1_eq0, eq_self, Bool.false_eq_true, reduceCtorEq, z_lt0, i1_eq0, i0_eq1, i1_eq1, xrZ0, xrZ1, xrZt, n32_eq0, n32_eq1, n32_gt0, n32_gt1, n32_lt1, n32_le1, n32_0le, tf0, tf1, xaI_of, q20a, q20b, q20m, q20l, q20g, q20r, q20s, q20e, q72a, q72b, q72m, q72l, q72g, q72r, q72s, q72e, q120a, q120b, q120m, q120l, q120g, q120r, q120s, q120e, q168a, q168b, q168m, q168l, q168g, q168r, q168s, q168e, q400a, q400b, q400m, q400l, q400g, q400r, q400s, q400e, bX12_laysVotes_0, bX12_laysVotes_2, bX12_laysVotes_4, bX12_laysVotes_5, ekX12_laysVotes_6_6, bX12_laysVotes_7, bX12_laysVotes_8, bX12_laysVotes_9, bX12_laysVotes_10, Nat.lt_irrefl]
      · intro v hv
        rw [e5 v hv, exN_s]
      · rw [e6, sumN_s]) K ⟨h2, fun s t z1 z2 => h3 _ (by omega), h4, fun v hv => by rw [h5, bt_zero]; rfl, h6⟩
  refine RR_eq e1 (RR_eq (bX12_laysVotes_3 _ e L M J _) ?_)
  have hS2 : M 211 = S := (funext fun k => e2 211 k (by decide) (Or.inl (by decide))).trans hS
  simp (disch := omega) only [n32_ltE, n32_leE, n32_eqE, n32_eqm, m1_eqn, n32_ge0, n32_lt0, n32_nat, n32_succ, n32_add, xin_n32, xin_b1, xin_b2, cond_true, cond_false, if_true, if_false, xcI_some, xcV_some, xcJ_some, xcR_some, xu_ee, xu_rne, xu_kne, ite_self, not_true_eq_false, not_false_eq_true, ne_eq, true_and, and_true, false_and, and_false, m1_lt0, m1_eq0, eq_self, Bool.false_eq_true, reduceCtorEq, z_lt0, i1_eq0, i0_eq1, i1_eq1, xrZ0, xrZ1, xrZt, n32_eq0, n32_eq1, n32_gt0, n32_gt1, n32_lt1, n32_le1, n32_0le, tf0, tf1, xaI_of, q20a, q20b, q20m, q20l, q20g, q20r, q20s, q20e, q72a, q72b, q72m, q72l, q72g, q72r, q72s, q72e, q120a, q120b, q120m, q120l, q120g, q120r, q120s, q120e, q168a, q168b, q168m, q168l, q168g, q168r, q168s, q168e, q400a, q400b, q400m, q400l, q400g, q400r, q400s, q400e, bX12_laysVotes_0, bX12_laysVotes_2, bX12_laysVotes_4, bX12_laysVotes_5, ekX12_laysVotes_6_6, bX12_laysVotes_7, bX12_laysVotes_8, bX12_laysVotes_9, bX12_laysVotes_10, hS2, k_3 hk, Nat.lt_irrefl]
  exact RR_V ⟨rfl, e2, e3, e4, ofS_of hk hw (fun v hv => (e5 v hv).trans (ofd_r hk hv)), by rw [e6, prS_r]⟩
end LK
