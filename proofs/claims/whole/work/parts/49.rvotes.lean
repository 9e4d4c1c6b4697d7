/-! The reference's votes. -/
section RV
variable {d e L : Nat} {S : TS} {I : TI} {J : TJ} {a b s t v k i : Nat}
theorem r_offenceBy {s1 t1 s2 t2 : Nat} (hS : I 211 = S) (hw : wfT S) (hR : RT S I) (h1 : s1 < sB S) (h2 : t1 < sB S) (h3 : s2 < sB S) (h4 : t2 < sB S) : xcall xprog (d + 2) 194 [.ref 209, .int (n32 s1), .int (n32 t1), .int (n32 s2), .int (n32 t2)] (xst e L I J) = some (some (.int (n32 (ofn S s1 t1 s2 t2))), xst e L I J) := by
  have l1 := lv_20 hw h1
  have l2 := lv_20 hw h2
  have l3 := lv_20 hw h3
  have l4 := lv_20 hw h4
  rw [aX12_offenceBy, bX12_offenceBy_0, r_level hS hw hR h2]
  simp (disch := omega) only [n32_ltE, n32_leE, n32_eqE, n32_eqm, m1_eqn, n32_ge0, n32_lt0, n32_nat, n32_succ, n32_add, xin_n32, xin_b1, xin_b2, cond_true, cond_false, if_true, if_false, xcI_some, xcV_some, xcJ_some, xcR_some, xu_ee, xu_rne, xu_kne, ite_self, not_true_eq_false, not_false_eq_true, ne_eq, true_and, and_true, false_and, and_false, m1_lt0, m1_eq0, eq_self, Bool.false_eq_true, reduceCtorEq, z_lt0, i1_eq0, i0_eq1, i1_eq1, xrZ0, xrZ1, xrZt, n32_eq0, n32_eq1, n32_gt0, n32_gt1, n32_lt1, n32_le1, n32_0le, tf0, tf1, xaI_of, ekX12_offenceBy_0_5, ekX12_offenceBy_0_2, bX12_offenceBy_0, ekX12_offenceBy_1_12, ekX12_offenceBy_1_9, ekX12_offenceBy_1_5, ekX12_offenceBy_1_2, bX12_offenceBy_1, ekX12_offenceBy_2_12, ekX12_offenceBy_2_9, ekX12_offenceBy_2_5, ekX12_offenceBy_2_2, bX12_offenceBy_2, bX12_offenceBy_3, bX12_offenceBy_4, bX12_offenceBy_5, bX12_offenceBy_6, bX12_offenceBy_7, r_level hS hw hR h1, r_level hS hw hR h2, r_level hS hw hR h3, r_level hS hw hR h4]
  unfold ofn
  generalize lv S s1 = A at *
  generalize lv S t1 = B at *
  generalize lv S s2 = C at *
  generalize lv S t2 = D at *
  by_cases q1 : B = D
  · simp only [q1, if_true]
    rfl
  · simp only [q1, if_false]
    by_cases q4 : (A < C ∧ D < B) ∨ (C < A ∧ B < D)
    · rw [if_pos q4]
      rcases q4 with ⟨z1, z2⟩ | ⟨z1, z2⟩
      · have z3 : ¬ B ≤ D := by omega
        simp only [z1, z3, if_true, if_false]
        rfl
      · have z3 : ¬ A < C := by omega
        have z4 : ¬ D ≤ B := by omega
        simp only [z1, z3, z4, if_true, if_false]
        rfl
    · rw [if_neg q4]
      by_cases z1 : A < C
      · have z2 : B ≤ D := by omega
        have z3 : ¬ C < A := by omega
        simp only [z1, z2, z3, if_true, if_false]
        rfl
      · by_cases z2 : C < A
        · have z3 : D ≤ B := by omega
          simp only [z1, z2, z3, if_true, if_false]
          rfl
        · simp only [z1, z2, if_false]
          rfl
theorem r_offence (hS : I 211 = S) (hw : wfT S) (hR : RT S I) (hk : wfK S) (hi : i < sK S) (hj : k < sK S) : xcall xprog (d + 3) 195 [.ref 209, .int (n32 i), .int (n32 k)] (xst e L I J) = some (some (.int (n32 (ofp S i k))), xst e L I J) := by
  have h48 := k_48 hk
  have h8 := wf_V8 hw
  have v1 := k_vl hk hi
  have v2 := k_vl hk hj
  rw [aX12_offence, bX12_offence_0]
  simp (disch := omega) only [n32_ltE, n32_leE, n32_eqE, n32_eqm, m1_eqn, n32_ge0, n32_lt0, n32_nat, n32_succ, n32_add, xin_n32, xin_b1, xin_b2, cond_true, cond_false, if_true, if_false, xcI_some, xcV_some, xcJ_some, xcR_some, xu_ee, xu_rne, xu_kne, ite_self, not_true_eq_false, not_false_eq_true, ne_eq, true_and, and_true, false_and, and_false, m1_lt0, m1_eq0, eq_self, Bool.false_eq_true, reduceCtorEq, z_lt0, i1_eq0, i0_eq1, i1_eq1, xrZ0, xrZ1, xrZt, n32_eq0, n32_eq1, n32_gt0, n32_gt1, n32_lt1, n32_le1, n32_0le, tf0, tf1, xaI_of, q72a, q72b, q72m, q72l, q72g, q72r, q72s, q72e, q120a, q120b, q120m, q120l, q120g, q120r, q120s, q120e, q168a, q168b, q168m, q168l, q168g, q168r, q168s, q168e, ekX12_offence_0_38, bX12_offence_0, bX12_offence_1, bX12_offence_2, hS, k_vo hk hi, k_vo hk hj, k_so hk hi, k_so hk hj, k_ta hk hi, k_ta hk hj, r_offenceBy hS hw hR (k_sl hk hi) (k_tl hk hi) (k_sl hk hj) (k_tl hk hj)]
  unfold ofp
  by_cases q : vo S i = vo S k
  · simp only [q, if_true]
  · simp only [q, if_false]
    rfl
theorem r_offenceOf (hS : I 211 = S) (hw : wfT S) (hR : RT S I) (hk : wfK S) (hv : v < 8) (hs : s < sB S) (ht : t < sB S) : xcall xprog (d + 3) 224 [.ref 209, .int (n32 v), .int (n32 s), .int (n32 t)] (xst e L I J) = some (some (.int (n32 (lof S v s t (sK S)))), xst e L I J) := by
  have h48 := k_48 hk
  have h8 := wf_V8 hw
  refine (aX12_offenceOf _ e L I J _ _ _).trans ((bX12_offenceOf_0 _ e L I J _ _ _).trans ?_)
  obtain ⟨l, h1, h2⟩ := xfor (fun i l => xlim (xcall xprog (d + 2)) mX12_offenceOf 1 [.ref 209, .int (n32 v), .int (n32 s), .int (n32 t), .int (n32 l), .int (n32 i), xD] [] (xst e L I J)) (fun i l => l = lof S v s t i) (n := sK S) (fun i l hi hl => by
    refine ⟨lof S v s t (i + 1), ?_, rfl⟩
    refine (bX12_offenceOf_1 _ e L I J _ _ _ _ (n32 i)).trans ?_
    have v1 := k_vl hk hi
    have l2 := lof_le (S := S) (v := v) (s := s) (t := t) (n := i)
    have l3 := ofn_le (S := S) (a := so S i) (b := ta S i) (c := s) (x := t)
    simp (disch := omega) only [n32_ltE, n32_leE, n32_eqE, n32_eqm, m1_eqn, n32_ge0, n32_lt0, n32_nat, n32_succ, n32_add, xin_n32, xin_b1, xin_b2, cond_true, cond_false, if_true, if_false, xcI_some, xcV_some, xcJ_some, xcR_some, xu_ee, xu_rne, xu_kne, ite_self, not_true_eq_false, not_false_eq_true, ne_eq, true_and, and_true, false_and, and_false, m1_lt0, m1_eq0, eq_self, Bool.false_eq_true, reduceCtorEq, z_lt0, i1_eq0, i0_eq1, i1_eq1, xrZ0, xrZ1, xrZt, n32_eq0, n32_eq1, n32_gt0, n32_gt1, n32_lt1, n32_le1, n32_0le, tf0, tf1, xaI_of, q72a, q72b, q72m, q72l, q72g, q72r, q72s, q72e, q120a, q120b, q120m, q120l, q120g, q120r, q120s, q120e, q168a, q168b, q168m, q168l, q168g, q168r, q168s, q168e, bX12_offenceOf_0, ekX12_offenceOf_1_29, bX12_offenceOf_2, bX12_offenceOf_3, bX12_offenceOf_4, bX12_offenceOf_5, bX12_offenceOf_6, bX12_offenceOf_7, hS, k_3 hk, hi, k_vo hk hi, k_so hk hi, k_ta hk hi, r_offenceBy hS hw hR (k_sl hk hi) (k_tl hk hi) hs ht]
    rw [lof_s]
    subst hl
    generalize ofn S (so S i) (ta S i) s t = h at *
    generalize lof S v s t i = l at *
    by_cases q1 : vo S i = v
    · by_cases q2 : h = 0
      · simp [q1, q2]
      · by_cases q3 : l = 0
        · simp [q1, q2, q3]
        · by_cases q4 : h < l
          · simp [q1, q2, q3, q4]
          · simp [q1, q2, q3, q4]
    · simp [q1]) 0 rfl
  refine h1.trans ?_
  subst h2
  refine (bX12_offenceOf_1 _ e L I J _ _ _ _ (n32 (sK S))).trans ?_
  simp (disch := omega) only [n32_ltE, n32_leE, n32_eqE, n32_eqm, m1_eqn, n32_ge0, n32_lt0, n32_nat, n32_succ, n32_add, xin_n32, xin_b1, xin_b2, cond_true, cond_false, if_true, if_false, xcI_some, xcV_some, xcJ_some, xcR_some, xu_ee, xu_rne, xu_kne, ite_self, not_true_eq_false, not_false_eq_true, ne_eq, true_and, and_true, false_and, and_false, m1_lt0, m1_eq0, eq_self, Bool.false_eq_true, reduceCtorEq, z_lt0, i1_eq0, i0_eq1, i1_eq1, xrZ0, xrZ1, xrZt, n32_eq0, n32_eq1, n32_gt0, n32_gt1, n32_lt1, n32_le1, n32_0le, tf0, tf1, xaI_of, q72a, q72b, q72m, q72l, q72g, q72r, q72s, q72e, q120a, q120b, q120m, q120l, q120g, q120r, q120s, q120e, q168a, q168b, q168m, q168l, q168g, q168r, q168s, q168e, bX12_offenceOf_0, ekX12_offenceOf_1_29, bX12_offenceOf_2, bX12_offenceOf_3, bX12_offenceOf_4, bX12_offenceOf_5, bX12_offenceOf_6, bX12_offenceOf_7, hS, k_3 hk, Nat.lt_irrefl]
theorem r_votesOf (hS : I 211 = S) (hk : wfK S) (hw : wfT S) (hv : v < 8) : xcall xprog (d + 1) 207 [.ref 209, .int (n32 v)] (xst e L I J) = some (some (.int (n32 (cntN (fun i => vo S i == v) (sK S)))), xst e L I J) := by
  have h48 := k_48 hk
  have h8 := wf_V8 hw
  refine (aX12_votesOf _ e L I J _).trans ((bX12_votesOf_0 _ e L I J _).trans ?_)
  obtain ⟨l, h1, h2⟩ := xfor (fun i l => xlim (xcall xprog d) mX12_votesOf 1 [.ref 209, .int (n32 v), .int (n32 l), .int (n32 i)] [] (xst e L I J)) (fun i l => l = cntN (fun i => vo S i == v) i) (n := sK S) (fun i l hi hl => by
    refine ⟨cntN (fun i => vo S i == v) (i + 1), ?_, rfl⟩
    refine (bX12_votesOf_1 _ e L I J _ _ (n32 i)).trans ?_
    have v1 := k_vl hk hi
    simp (disch := omega) only [n32_ltE, n32_leE, n32_eqE, n32_eqm, m1_eqn, n32_ge0, n32_lt0, n32_nat, n32_succ, n32_add, xin_n32, xin_b1, xin_b2, cond_true, cond_false, if_true, if_false, xcI_some, xcV_some, xcJ_some, xcR_some, xu_ee, xu_rne, xu_kne, ite_self, not_true_eq_false, not_false_eq_true, ne_eq, true_and, and_true, false_and, and_false, m1_lt0, m1_eq0, eq_self, Bool.false_eq_true, reduceCtorEq, z_lt0, i1_eq0, i0_eq1, i1_eq1, xrZ0, xrZ1, xrZt, n32_eq0, n32_eq1, n32_gt0, n32_gt1, n32_lt1, n32_le1, n32_0le, tf0, tf1, xaI_of, q72a, q72b, q72m, q72l, q72g, q72r, q72s, q72e, bX12_votesOf_0, bX12_votesOf_2, bX12_votesOf_3, bX12_votesOf_4, hS, k_3 hk, hi, k_vo hk hi]
    subst hl
    rw [cntN_s]
    by_cases q : vo S i = v
    · simp [q]
    · simp [q]) 0 rfl
  refine h1.trans ?_
  subst h2
  refine (bX12_votesOf_1 _ e L I J _ _ (n32 (sK S))).trans ?_
  simp (disch := omega) only [n32_ltE, n32_leE, n32_eqE, n32_eqm, m1_eqn, n32_ge0, n32_lt0, n32_nat, n32_succ, n32_add, xin_n32, xin_b1, xin_b2, cond_true, cond_false, if_true, if_false, xcI_some, xcV_some, xcJ_some, xcR_some, xu_ee, xu_rne, xu_kne, ite_self, not_true_eq_false, not_false_eq_true, ne_eq, true_and, and_true, false_and, and_false, m1_lt0, m1_eq0, eq_self, Bool.false_eq_true, reduceCtorEq, z_lt0, i1_eq0, i0_eq1, i1_eq1, xrZ0, xrZ1, xrZt, n32_eq0, n32_eq1, n32_gt0, n32_gt1, n32_lt1, n32_le1, n32_0le, tf0, tf1, xaI_of, q72a, q72b, q72m, q72l, q72g, q72r, q72s, q72e, bX12_votesOf_0, bX12_votesOf_2, bX12_votesOf_3, bX12_votesOf_4, hS, k_3 hk, Nat.lt_irrefl]
end RV
/-! Sums of numbers. -/
def sumN (f : Nat → Nat) : Nat → Nat
  | 0 => 0
  | n + 1 => sumN f n + f n
theorem sumN_s (f : Nat → Nat) (n : Nat) : sumN f (n + 1) = sumN f n + f n := rfl
theorem sumN_c {f g : Nat → Nat} {n : Nat} (h : ∀ i, i < n → f i = g i) : sumN f n = sumN g n := by
  induction n with
  | zero => rfl
  | succ n ih => rw [sumN_s, sumN_s, ih (fun i hi => h i (by omega)), h n (by omega)]
theorem sumN_add {f g : Nat → Nat} {n : Nat} : sumN (fun i => f i + g i) n = sumN f n + sumN g n := by
  induction n with
  | zero => rfl
  | succ n ih => rw [sumN_s, sumN_s, sumN_s, ih]; omega
theorem sumN_0 {n : Nat} : sumN (fun _ => 0) n = 0 := by
  induction n with
  | zero => rfl
  | succ n ih => rw [sumN_s, ih]
theorem sumN_swap {f : Nat → Nat → Nat} {m n : Nat} : sumN (fun i => sumN (fun k => f i k) m) n = sumN (fun k => sumN (fun i => f i k) n) m := by
  induction n with
  | zero =>
    show 0 = sumN (fun _ => 0) m
    rw [sumN_0]
  | succ n ih =>
    rw [sumN_s, ih, ← sumN_add]
    rfl
theorem sumN_tail {f : Nat → Nat} {a : Nat} : ∀ (m : Nat), (∀ j, a ≤ j → j < a + m → f j = 0) → sumN f (a + m) = sumN f a
  | 0, _ => rfl
  | m + 1, h => by
    rw [show a + (m + 1) = a + m + 1 from rfl, sumN_s, sumN_tail m (fun j h1 h2 => h j h1 (by omega)), h (a + m) (by omega) (by omega)]
    omega
theorem sumN_tl {f : Nat → Nat} {a b : Nat} (hab : a ≤ b) (h : ∀ j, a ≤ j → j < b → f j = 0) : sumN f b = sumN f a := by
  obtain ⟨m, rfl⟩ : ∃ m, b = a + m := ⟨b - a, by omega⟩
  exact sumN_tail m h
