/-! The reference's acts and rows of states. -/
section RAC
variable {d e L : Nat} {S X Y : TS} {N : Nat → Int64} {I K M : TI} {J J' : TJ} {a b s t v k i n r m : Nat}
/-- nothing but the row of the state has changed, and the flag -/
def dfr (K I : TI) : Prop := ∀ o k, o ≠ 211 → (o ≠ 209 ∨ k ≠ 34) → K o k = I o k
theorem RS_new {K : TI} (hW : WS S) (h : K 211 = S) (h0 : K 209 34 = 0) : RS S K := ⟨hW, h, fun q => absurd h0 q⟩
theorem r_doesVote (hC : RS S I) (hv : v < sV S) (hs : s < sB S) (ht : t < sB S) (hq : why S v s t = 0) : RR (xcall xprog (d + 1) 213 [.ref 209, .int (n32 v), .int (n32 s), .int (n32 t)] (xst e L I J)) (zV e L fun K J' => J' = J ∧ RS (svote S v s t) K ∧ dfr K I) := by
  obtain ⟨q1, q2, q3, q4, q5⟩ := why_0 hq
  have hk := hC.1.2.1
  have hS := hC.2.1
  have h3 : I 211 3 = n32 (sK S) := by rw [hS]; exact k_3 hk
  refine RR_eq ((aX12_doesVote _ e L I J _ _ _).trans (bX12_doesVote_0 _ e L I J _ _ _)) ?_
  simp (disch := omega) only [n32_ltE, n32_leE, n32_eqE, n32_eqm, m1_eqn, n32_ge0, n32_lt0, n32_nat, n32_succ, n32_add, xin_n32, xin_b1, xin_b2, cond_true, cond_false, if_true, if_false, xcI_some, xcV_some, xcJ_some, xcR_some, xu_ee, xu_rne, xu_kne, ite_self, not_true_eq_false, not_false_eq_true, ne_eq, true_and, and_true, false_and, and_false, m1_lt0, m1_eq0, eq_self, Bool.false_eq_true, reduceCtorEq, z_lt0, i1_eq0, i0_eq1, i1_eq1, xrZ0, xrZ1, xrZt, n32_eq0, n32_eq1, n32_gt0, n32_gt1, n32_lt1, n32_le1, n32_0le, tf0, tf1, xaI_of, q72a, q72b, q72m, q72l, q72g, q72r, q72s, q72e, q120a, q120b, q120m, q120l, q120g, q120r, q120s, q120e, q168a, q168b, q168m, q168l, q168g, q168r, q168s, q168e, h3]
  refine RR_V ⟨rfl, RS_new (WS_sv hC.1 q5 hv hs ht q1 q2 q3) ?_ xu_ee, fun o k z1 z2 => ?_⟩
  · rw [xu_rne (by decide), xu_row, xu_row, xu_row, xu_row, hS]
    rfl
  · by_cases z : o = 209
    · subst z
      rw [xu_kne (by omega), xu_rne (by decide), xu_rne (by decide), xu_rne (by decide), xu_rne (by decide)]
    · rw [xu_rne z, xu_rne z1, xu_rne z1, xu_rne z1, xu_rne z1]
theorem r_doesLook (hC : RS S I) (hv : v < sV S) (hb : b < sB S) : RR (xcall xprog (d + 1) 214 [.ref 209, .int (n32 v), .int (n32 b)] (xst e L I J)) (zV e L fun K J' => J' = J ∧ RS (slook S v b) K ∧ dfr K I) := by
  have h8 := wf_V8 hC.1.1
  refine RR_eq ((aX12_doesLook _ e L I J _ _).trans (bX12_doesLook_0 _ e L I J _ _)) ?_
  simp (disch := omega) only [n32_ltE, n32_leE, n32_eqE, n32_eqm, m1_eqn, n32_ge0, n32_lt0, n32_nat, n32_succ, n32_add, xin_n32, xin_b1, xin_b2, cond_true, cond_false, if_true, if_false, xcI_some, xcV_some, xcJ_some, xcR_some, xu_ee, xu_rne, xu_kne, ite_self, not_true_eq_false, not_false_eq_true, ne_eq, true_and, and_true, false_and, and_false, m1_lt0, m1_eq0, eq_self, Bool.false_eq_true, reduceCtorEq, z_lt0, i1_eq0, i0_eq1, i1_eq1, xrZ0, xrZ1, xrZt, n32_eq0, n32_eq1, n32_gt0, n32_gt1, n32_lt1, n32_le1, n32_0le, tf0, tf1, xaI_of, q216a, q216b, q216m, q216l, q216g, q216r, q216s, q216e]
  refine RR_V ⟨rfl, RS_new (WS_sl hC.1 hv hb) ?_ xu_ee, fun o k z1 z2 => ?_⟩
  · rw [xu_rne (by decide), xu_row, hC.2.1]
    rfl
  · by_cases z : o = 209
    · subst z
      rw [xu_kne (by omega), xu_rne (by decide)]
    · rw [xu_rne z, xu_rne z1]
theorem r_doesGrow (hC : RS S I) (hB : sB S < 20) (hb : b < sB S) : RR (xcall xprog (d + 1) 215 [.ref 209, .int (n32 b)] (xst e L I J)) (zV e L fun K J' => J' = J ∧ RS (sgrow S b) K ∧ dfr K I) := by
  have hS := hC.2.1
  have h2 : I 211 2 = n32 (sB S) := by rw [hS]; exact wf_2 hC.1.1
  refine RR_eq ((aX12_doesGrow _ e L I J _).trans (bX12_doesGrow_0 _ e L I J _)) ?_
  simp (disch := omega) only [n32_ltE, n32_leE, n32_eqE, n32_eqm, m1_eqn, n32_ge0, n32_lt0, n32_nat, n32_succ, n32_add, xin_n32, xin_b1, xin_b2, cond_true, cond_false, if_true, if_false, xcI_some, xcV_some, xcJ_some, xcR_some, xu_ee, xu_rne, xu_kne, ite_self, not_true_eq_false, not_false_eq_true, ne_eq, true_and, and_true, false_and, and_false, m1_lt0, m1_eq0, eq_self, Bool.false_eq_true, reduceCtorEq, z_lt0, i1_eq0, i0_eq1, i1_eq1, xrZ0, xrZ1, xrZt, n32_eq0, n32_eq1, n32_gt0, n32_gt1, n32_lt1, n32_le1, n32_0le, tf0, tf1, xaI_of, q12a, q12b, q12m, q12l, q12g, q12r, q12s, q12e, q32a, q32b, q32m, q32l, q32g, q32r, q32s, q32e, q52a, q52b, q52m, q52l, q52g, q52r, q52s, q52e, h2]
  refine RR_V ⟨rfl, RS_new (WS_sg hC.1 hB hb) ?_ xu_ee, fun o k z1 z2 => ?_⟩
  · rw [xu_rne (by decide), xu_row, xu_row, xu_row, xu_row, hS]
    rfl
  · by_cases z : o = 209
    · subst z
      rw [xu_kne (by omega), xu_rne (by decide), xu_rne (by decide), xu_rne (by decide), xu_rne (by decide)]
    · rw [xu_rne z, xu_rne z1, xu_rne z1, xu_rne z1, xu_rne z1]
theorem r_copies_223 : RR (xcall xprog (d + 1) 220 [.ref 209, .ref 223] (xst e L I J)) (zV e L fun K J' => J' = J ∧ (∀ o, o ≠ 223 → K o = I o) ∧ ∀ i, i < 222 → K 223 i = I 211 (2 + i)) := by
  refine RR_eq ((aX12_copies_209_223 _ e L I J).trans (bX12_copies_209_223_0 _ e L I J)) ?_
  obtain ⟨K, h1, h2, h3⟩ := xfor (fun i K => xlim (xcall xprog d) mX12_copies 1 [.ref 209, .ref 223, .int (n32 i)] [] (xst e L K J)) (fun i K => (∀ o, o ≠ 223 → K o = I o) ∧ ∀ j, j < i → K 223 j = I 211 (2 + j)) (n := 222) (fun i K hi ⟨g1, g2⟩ => by
    refine ⟨xu K 223 i (I 211 (2 + i)), ?_, fun o z => by rw [xu_rne z, g1 o z], fun j hj => ?_⟩
    · refine (bX12_copies_209_223_1 _ e L K J _).trans ?_
      simp (disch := omega) only [n32_ltE, n32_leE, n32_eqE, n32_eqm, m1_eqn, n32_ge0, n32_lt0, n32_nat, n32_succ, n32_add, xin_n32, xin_b1, xin_b2, cond_true, cond_false, if_true, if_false, xcI_some, xcV_some, xcJ_some, xcR_some, xu_ee, xu_rne, xu_kne, ite_self, not_true_eq_false, not_false_eq_true, ne_eq, true_and, and_true, false_and, and_false, m1_lt0, m1_eq0, eq_self, Bool.false_eq_true, reduceCtorEq, z_lt0, i1_eq0, i0_eq1, i1_eq1, xrZ0, xrZ1, xrZt, n32_eq0, n32_eq1, n32_gt0, n32_gt1, n32_lt1, n32_le1, n32_0le, tf0, tf1, xaI_of, q2a, q2b, q2m, q2l, q2g, q2r, q2s, q2e, q222a, q222b, q222m, q222l, q222g, q222r, q222s, q222e, hi, g1 211 (by decide)]
    · by_cases z : j = i
      · rw [z, xu_ee]
      · rw [xu_kne z, g2 j (by omega)]) I ⟨fun _ _ => rfl, fun j hj => absurd hj (Nat.not_lt_zero j)⟩
  refine RR_eq (h1.trans (bX12_copies_209_223_1 _ e L K J _)) ?_
  simp (disch := omega) only [n32_ltE, n32_leE, n32_eqE, n32_eqm, m1_eqn, n32_ge0, n32_lt0, n32_nat, n32_succ, n32_add, xin_n32, xin_b1, xin_b2, cond_true, cond_false, if_true, if_false, xcI_some, xcV_some, xcJ_some, xcR_some, xu_ee, xu_rne, xu_kne, ite_self, not_true_eq_false, not_false_eq_true, ne_eq, true_and, and_true, false_and, and_false, m1_lt0, m1_eq0, eq_self, Bool.false_eq_true, reduceCtorEq, z_lt0, i1_eq0, i0_eq1, i1_eq1, xrZ0, xrZ1, xrZt, n32_eq0, n32_eq1, n32_gt0, n32_gt1, n32_lt1, n32_le1, n32_0le, tf0, tf1, xaI_of, q222a, q222b, q222m, q222l, q222g, q222r, q222s, q222e, Nat.lt_irrefl, bX12_copies_209_223_2]
  exact RR_V ⟨rfl, h2, h3⟩
theorem r_stores_223 (hm : I 209 38 = n32 m) (h8 : m ≤ 8) : RR (xcall xprog (d + 1) 219 [.ref 209, .ref 223] (xst e L I J)) (zV e L fun K J' => J' = J ∧ (∀ o k, o ≠ 222 → (o ≠ 209 ∨ k ≠ 38) → K o k = I o k) ∧ ((m < 8 ∧ K 209 38 = n32 (m + 1) ∧ (∀ k, k < 222 * m → K 222 k = I 222 k) ∧ ∀ i, i < 222 → K 222 (222 * m + i) = I 223 i) ∨ (m = 8 ∧ K 209 38 = n32 8 ∧ (∀ k, k < 1554 → K 222 k = I 222 (k + 222)) ∧ ∀ i, i < 222 → K 222 (1554 + i) = I 223 i))) := by
  refine RR_eq ((aX12_stores_209_223 _ e L I J).trans (bX12_stores_209_223_0 _ e L I J)) ?_
  -- the last copy, from m' states on
  have last : ∀ (M : TI) (m' : Nat), m' < 8 → M 209 38 = n32 m' → ∃ K, xlim (xcall xprog d) mX12_stores 3 [.ref 209, .ref 223, xD] [] (xst e L M J) = some (none, xst e L (xu K 209 38 (n32 (m' + 1))) J) ∧ (∀ o, o ≠ 222 → K o = M o) ∧ (∀ k, k < 222 * m' → K 222 k = M 222 k) ∧ ∀ i, i < 222 → K 222 (222 * m' + i) = M 223 i := by
    intro M m' hm' hM
    have e222 : (222 : Int32) * n32 m' = n32 (222 * m') := n32_mul
    obtain ⟨K, h1, h2, h3, h4⟩ := xfor (fun i K => xlim (xcall xprog d) mX12_stores 4 [.ref 209, .ref 223, .int (n32 i)] [] (xst e L K J)) (fun i K => (∀ o, o ≠ 222 → K o = M o) ∧ (∀ k, k < 222 * m' → K 222 k = M 222 k) ∧ ∀ j, j < i → K 222 (222 * m' + j) = M 223 j) (n := 222) (fun i K hi ⟨g1, g2, g3⟩ => by
      refine ⟨xu K 222 (222 * m' + i) (M 223 i), ?_, fun o z => by rw [xu_rne z, g1 o z], fun k hk => by rw [xu_kne (by omega), g2 k hk], fun j hj => ?_⟩
      · refine (bX12_stores_209_223_4 _ e L K J _).trans ?_
        have h38 : K 209 38 = n32 m' := by rw [g1 209 (by decide), hM]
        have hb : 222 * m' + i < 1776 := by omega
        simp (disch := omega) only [n32_ltE, n32_leE, n32_eqE, n32_eqm, m1_eqn, n32_ge0, n32_lt0, n32_nat, n32_succ, n32_add, xin_n32, xin_b1, xin_b2, cond_true, cond_false, if_true, if_false, xcI_some, xcV_some, xcJ_some, xcR_some, xu_ee, xu_rne, xu_kne, ite_self, not_true_eq_false, not_false_eq_true, ne_eq, true_and, and_true, false_and, and_false, m1_lt0, m1_eq0, eq_self, Bool.false_eq_true, reduceCtorEq, z_lt0, i1_eq0, i0_eq1, i1_eq1, xrZ0, xrZ1, xrZt, n32_eq0, n32_eq1, n32_gt0, n32_gt1, n32_lt1, n32_le1, n32_0le, tf0, tf1, xaI_of, q222a, q222b, q222m, q222l, q222g, q222r, q222s, q222e, hi, h38, e222, g1 223 (by decide)]
      · by_cases z : j = i
        · rw [z, xu_ee]
        · rw [xu_kne (by omega), g3 j (by omega)]) M ⟨fun _ _ => rfl, fun _ _ => rfl, fun j hj => absurd hj (Nat.not_lt_zero j)⟩
    refine ⟨K, (bX12_stores_209_223_3 _ e L M J).trans (h1.trans ((bX12_stores_209_223_4 _ e L K J _).trans ?_)), h2, h3, h4⟩
    have h38 : K 209 38 = n32 m' := by rw [h2 209 (by decide), hM]
    simp (disch := omega) only [n32_ltE, n32_leE, n32_eqE, n32_eqm, m1_eqn, n32_ge0, n32_lt0, n32_nat, n32_succ, n32_add, xin_n32, xin_b1, xin_b2, cond_true, cond_false, if_true, if_false, xcI_some, xcV_some, xcJ_some, xcR_some, xu_ee, xu_rne, xu_kne, ite_self, not_true_eq_false, not_false_eq_true, ne_eq, true_and, and_true, false_and, and_false, m1_lt0, m1_eq0, eq_self, Bool.false_eq_true, reduceCtorEq, z_lt0, i1_eq0, i0_eq1, i1_eq1, xrZ0, xrZ1, xrZt, n32_eq0, n32_eq1, n32_gt0, n32_gt1, n32_lt1, n32_le1, n32_0le, tf0, tf1, xaI_of, q222a, q222b, q222m, q222l, q222g, q222r, q222s, q222e, Nat.lt_irrefl, bX12_stores_209_223_5, h38]
  by_cases q : m = 8
  · subst q
    simp (disch := omega) only [n32_ltE, n32_leE, n32_eqE, n32_eqm, m1_eqn, n32_ge0, n32_lt0, n32_nat, n32_succ, n32_add, xin_n32, xin_b1, xin_b2, cond_true, cond_false, if_true, if_false, xcI_some, xcV_some, xcJ_some, xcR_some, xu_ee, xu_rne, xu_kne, ite_self, not_true_eq_false, not_false_eq_true, ne_eq, true_and, and_true, false_and, and_false, m1_lt0, m1_eq0, eq_self, Bool.false_eq_true, reduceCtorEq, z_lt0, i1_eq0, i0_eq1, i1_eq1, xrZ0, xrZ1, xrZt, n32_eq0, n32_eq1, n32_gt0, n32_gt1, n32_lt1, n32_le1, n32_0le, tf0, tf1, xaI_of, q8a, q8b, q8m, q8l, q8g, q8r, q8s, q8e, hm]
    obtain ⟨M, h1, h2, h3, h4⟩ := xfor (fun i K => xlim (xcall xprog d) mX12_stores 1 [.ref 209, .ref 223, .int (n32 i)] [] (xst e L K J)) (fun i K => (∀ o, o ≠ 222 → K o = I o) ∧ (∀ j, j < i → K 222 j = I 222 (j + 222)) ∧ ∀ j, i ≤ j → K 222 j = I 222 j) (n := 1554) (fun i K hi ⟨g1, g2, g3⟩ => by
      refine ⟨xu K 222 i (I 222 (i + 222)), ?_, fun o z => by rw [xu_rne z, g1 o z], fun j hj => ?_, fun j hj => by rw [xu_kne (by omega), g3 j (by omega)]⟩
      · refine (bX12_stores_209_223_1 _ e L K J _).trans ?_
        simp (disch := omega) only [n32_ltE, n32_leE, n32_eqE, n32_eqm, m1_eqn, n32_ge0, n32_lt0, n32_nat, n32_succ, n32_add, xin_n32, xin_b1, xin_b2, cond_true, cond_false, if_true, if_false, xcI_some, xcV_some, xcJ_some, xcR_some, xu_ee, xu_rne, xu_kne, ite_self, not_true_eq_false, not_false_eq_true, ne_eq, true_and, and_true, false_and, and_false, m1_lt0, m1_eq0, eq_self, Bool.false_eq_true, reduceCtorEq, z_lt0, i1_eq0, i0_eq1, i1_eq1, xrZ0, xrZ1, xrZt, n32_eq0, n32_eq1, n32_gt0, n32_gt1, n32_lt1, n32_le1, n32_0le, tf0, tf1, xaI_of, q222a, q222b, q222m, q222l, q222g, q222r, q222s, q222e, q1554a, q1554b, q1554m, q1554l, q1554g, q1554r, q1554s, q1554e, hi, g3 (i + 222) (by omega)]
      · by_cases z : j = i
        · rw [z, xu_ee]
        · rw [xu_kne z, g2 j (by omega)]) I ⟨fun _ _ => rfl, fun j hj => absurd hj (Nat.not_lt_zero j), fun _ _ => rfl⟩
    refine RR_eq (h1.trans (bX12_stores_209_223_1 _ e L M J _)) ?_
    simp (disch := omega) only [n32_ltE, n32_leE, n32_eqE, n32_eqm, m1_eqn, n32_ge0, n32_lt0, n32_nat, n32_succ, n32_add, xin_n32, xin_b1, xin_b2, cond_true, cond_false, if_true, if_false, xcI_some, xcV_some, xcJ_some, xcR_some, xu_ee, xu_rne, xu_kne, ite_self, not_true_eq_false, not_false_eq_true, ne_eq, true_and, and_true, false_and, and_false, m1_lt0, m1_eq0, eq_self, Bool.false_eq_true, reduceCtorEq, z_lt0, i1_eq0, i0_eq1, i1_eq1, xrZ0, xrZ1, xrZt, n32_eq0, n32_eq1, n32_gt0, n32_gt1, n32_lt1, n32_le1, n32_0le, tf0, tf1, xaI_of, q1554a, q1554b, q1554m, q1554l, q1554g, q1554r, q1554s, q1554e, Nat.lt_irrefl]
    refine RR_eq (bX12_stores_209_223_2 _ e L M J) ?_
    obtain ⟨K, k1, k2, k3, k4⟩ := last (xu M 209 38 7) 7 (by omega) (by rw [xu_ee]; rfl)
    refine RR_eq k1 (RR_V ⟨rfl, fun o k z1 z2 => ?_, Or.inr ⟨xu_ee, fun k hk => ?_, fun i hi => ?_⟩⟩)
    · by_cases z : o = 209
      · subst z
        rw [xu_kne (by omega), k2 209 (by decide), xu_kne (by omega), h2 209 (by decide)]
      · rw [xu_rne z, k2 o z1, xu_rne z, h2 o z1]
    · rw [xu_rne (by decide), k3 k (by omega), xu_rne (by decide), h3 k hk]
    · rw [xu_rne (by decide)]
      have := k4 i hi
      rw [xu_rne (by decide), h2 223 (by decide)] at this
      exact this
  · have hlt : m < 8 := by omega
    simp (disch := omega) only [n32_ltE, n32_leE, n32_eqE, n32_eqm, m1_eqn, n32_ge0, n32_lt0, n32_nat, n32_succ, n32_add, xin_n32, xin_b1, xin_b2, cond_true, cond_false, if_true, if_false, xcI_some, xcV_some, xcJ_some, xcR_some, xu_ee, xu_rne, xu_kne, ite_self, not_true_eq_false, not_false_eq_true, ne_eq, true_and, and_true, false_and, and_false, m1_lt0, m1_eq0, eq_self, Bool.false_eq_true, reduceCtorEq, z_lt0, i1_eq0, i0_eq1, i1_eq1, xrZ0, xrZ1, xrZt, n32_eq0, n32_eq1, n32_gt0, n32_gt1, n32_lt1, n32_le1, n32_0le, tf0, tf1, xaI_of, q8a, q8b, q8m, q8l, q8g, q8r, q8s, q8e, hm, q]
    obtain ⟨K, k1, k2, k3, k4⟩ := last I m hlt hm
    refine RR_eq k1 (RR_V ⟨rfl, fun o k z1 z2 => ?_, Or.inl ⟨hlt, xu_ee, fun k hk => ?_, fun i hi => ?_⟩⟩)
    · by_cases z : o = 209
      · subst z
        rw [xu_kne (by omega), k2 209 (by decide)]
      · rw [xu_rne z, k2 o z1]
    · rw [xu_rne (by decide), k3 k hk]
    · rw [xu_rne (by decide), k4 i hi]
theorem r_copies_224 : RR (xcall xprog (d + 1) 220 [.ref 209, .ref 224] (xst e L I J)) (zV e L fun K J' => J' = J ∧ (∀ o, o ≠ 224 → K o = I o) ∧ ∀ i, i < 222 → K 224 i = I 211 (2 + i)) := by
  refine RR_eq ((aX12_copies_209_224 _ e L I J).trans (bX12_copies_209_224_0 _ e L I J)) ?_
  obtain ⟨K, h1, h2, h3⟩ := xfor (fun i K => xlim (xcall xprog d) mX12_copies 1 [.ref 209, .ref 224, .int (n32 i)] [] (xst e L K J)) (fun i K => (∀ o, o ≠ 224 → K o = I o) ∧ ∀ j, j < i → K 224 j = I 211 (2 + j)) (n := 222) (fun i K hi ⟨g1, g2⟩ => by
    refine ⟨xu K 224 i (I 211 (2 + i)), ?_, fun o z => by rw [xu_rne z, g1 o z], fun j hj => ?_⟩
    · refine (bX12_copies_209_224_1 _ e L K J _).trans ?_
      simp (disch := omega) only [n32_ltE, n32_leE, n32_eqE, n32_eqm, m1_eqn, n32_ge0, n32_lt0, n32_nat, n32_succ, n32_add, xin_n32, xin_b1, xin_b2, cond_true, cond_false, if_true, if_false, xcI_some, xcV_some, xcJ_some, xcR_some, xu_ee, xu_rne, xu_kne, ite_self, not_true_eq_false, not_false_eq_true, ne_eq, true_and, and_true, false_and, and_false, m1_lt0, m1_eq0, eq_self, Bool.false_eq_true, reduceCtorEq, z_lt0, i1_eq0, i0_eq1, i1_eq1, xrZ0, xrZ1, xrZt, n32_eq0, n32_eq1, n32_gt0, n32_gt1, n32_lt1, n32_le1, n32_0le, tf0, tf1, xaI_of, q2a, q2b, q2m, q2l, q2g, q2r, q2s, q2e, q222a, q222b, q222m, q222l, q222g, q222r, q222s, q222e, hi, g1 211 (by decide)]
    · by_cases z : j = i
      · rw [z, xu_ee]
      · rw [xu_kne z, g2 j (by omega)]) I ⟨fun _ _ => rfl, fun j hj => absurd hj (Nat.not_lt_zero j)⟩
  refine RR_eq (h1.trans (bX12_copies_209_224_1 _ e L K J _)) ?_
  simp (disch := omega) only [n32_ltE, n32_leE, n32_eqE, n32_eqm, m1_eqn, n32_ge0, n32_lt0, n32_nat, n32_succ, n32_add, xin_n32, xin_b1, xin_b2, cond_true, cond_false, if_true, if_false, xcI_some, xcV_some, xcJ_some, xcR_some, xu_ee, xu_rne, xu_kne, ite_self, not_true_eq_false, not_false_eq_true, ne_eq, true_and, and_true, false_and, and_false, m1_lt0, m1_eq0, eq_self, Bool.false_eq_true, reduceCtorEq, z_lt0, i1_eq0, i0_eq1, i1_eq1, xrZ0, xrZ1, xrZt, n32_eq0, n32_eq1, n32_gt0, n32_gt1, n32_lt1, n32_le1, n32_0le, tf0, tf1, xaI_of, q222a, q222b, q222m, q222l, q222g, q222r, q222s, q222e, Nat.lt_irrefl, bX12_copies_209_224_2]
  exact RR_V ⟨rfl, h2, h3⟩
theorem r_stores_224 (hm : I 209 38 = n32 m) (h8 : m ≤ 8) : RR (xcall xprog (d + 1) 219 [.ref 209, .ref 224] (xst e L I J)) (zV e L fun K J' => J' = J ∧ (∀ o k, o ≠ 222 → (o ≠ 209 ∨ k ≠ 38) → K o k = I o k) ∧ ((m < 8 ∧ K 209 38 = n32 (m + 1) ∧ (∀ k, k < 222 * m → K 222 k = I 222 k) ∧ ∀ i, i < 222 → K 222 (222 * m + i) = I 224 i) ∨ (m = 8 ∧ K 209 38 = n32 8 ∧ (∀ k, k < 1554 → K 222 k = I 222 (k + 222)) ∧ ∀ i, i < 222 → K 222 (1554 + i) = I 224 i))) := by
  refine RR_eq ((aX12_stores_209_224 _ e L I J).trans (bX12_stores_209_224_0 _ e L I J)) ?_
  -- the last copy, from m' states on
  have last : ∀ (M : TI) (m' : Nat), m' < 8 → M 209 38 = n32 m' → ∃ K, xlim (xcall xprog d) mX12_stores 3 [.ref 209, .ref 224, xD] [] (xst e L M J) = some (none, xst e L (xu K 209 38 (n32 (m' + 1))) J) ∧ (∀ o, o ≠ 222 → K o = M o) ∧ (∀ k, k < 222 * m' → K 222 k = M 222 k) ∧ ∀ i, i < 222 → K 222 (222 * m' + i) = M 224 i := by
    intro M m' hm' hM
    have e222 : (222 : Int32) * n32 m' = n32 (222 * m') := n32_mul
    obtain ⟨K, h1, h2, h3, h4⟩ := xfor (fun i K => xlim (xcall xprog d) mX12_stores 4 [.ref 209, .ref 224, .int (n32 i)] [] (xst e L K J)) (fun i K => (∀ o, o ≠ 222 → K o = M o) ∧ (∀ k, k < 222 * m' → K 222 k = M 222 k) ∧ ∀ j, j < i → K 222 (222 * m' + j) = M 224 j) (n := 222) (fun i K hi ⟨g1, g2, g3⟩ => by
      refine ⟨xu K 222 (222 * m' + i) (M 224 i), ?_, fun o z => by rw [xu_rne z, g1 o z], fun k hk => by rw [xu_kne (by omega), g2 k hk], fun j hj => ?_⟩
      · refine (bX12_stores_209_224_4 _ e L K J _).trans ?_
        have h38 : K 209 38 = n32 m' := by rw [g1 209 (by decide), hM]
        have hb : 222 * m' + i < 1776 := by omega
        simp (disch := omega) only [n32_ltE, n32_leE, n32_eqE, n32_eqm, m1_eqn, n32_ge0, n32_lt0, n32_nat, n32_succ, n32_add, xin_n32, xin_b1, xin_b2, cond_true, cond_false, if_true, if_false, xcI_some, xcV_some, xcJ_some, xcR_some, xu_ee, xu_rne, xu_kne, ite_self, not_true_eq_false, not_false_eq_true, ne_eq, true_and, and_true, false_and, and_false, m1_lt0, m1_eq0, eq_self, Bool.false_eq_true, reduceCtorEq, z_lt0, i1_eq0, i0_eq1, i1_eq1, xrZ0, xrZ1, xrZt, n32_eq0, n32_eq1, n32_gt0, n32_gt1, n32_lt1, n32_le1, n32_0le, tf0, tf1, xaI_of, q222a, q222b, q222m, q222l, q222g, q222r, q222s, q222e, hi, h38, e222, g1 224 (by decide)]
      · by_cases z : j = i
        · rw [z, xu_ee]
        · rw [xu_kne (by omega), g3 j (by omega)]) M ⟨fun _ _ => rfl, fun _ _ => rfl, fun j hj => absurd hj (Nat.not_lt_zero j)⟩
    refine ⟨K, (bX12_stores_209_224_3 _ e L M J).trans (h1.trans ((bX12_stores_209_224_4 _ e L K J _).trans ?_)), h2, h3, h4⟩
    have h38 : K 209 38 = n32 m' := by rw [h2 209 (by decide), hM]
    simp (disch := omega) only [n32_ltE, n32_leE, n32_eqE, n32_eqm, m1_eqn, n32_ge0, n32_lt0, n32_nat, n32_succ, n32_add, xin_n32, xin_b1, xin_b2, cond_true, cond_false, if_true, if_false, xcI_some, xcV_some, xcJ_some, xcR_some, xu_ee, xu_rne, xu_kne, ite_self, not_true_eq_false, not_false_eq_true, ne_eq, true_and, and_true, false_and, and_false, m1_lt0, m1_eq0, eq_self, Bool.false_eq_true, reduceCtorEq, z_lt0, i1_eq0, i0_eq1, i1_eq1, xrZ0, xrZ1, xrZt, n32_eq0, n32_eq1, n32_gt0, n32_gt1, n32_lt1, n32_le1, n32_0le, tf0, tf1, xaI_of, q222a, q222b, q222m, q222l, q222g, q222r, q222s, q222e, Nat.lt_irrefl, bX12_stores_209_224_5, h38]
  by_cases q : m = 8
  · subst q
    simp (disch := omega) only [n32_ltE, n32_leE, n32_eqE, n32_eqm, m1_eqn, n32_ge0, n32_lt0, n32_nat, n32_succ, n32_add, xin_n32, xin_b1, xin_b2, cond_true, cond_false, if_true, if_false, xcI_some, xcV_some, xcJ_some, xcR_some, xu_ee, xu_rne, xu_kne, ite_self, not_true_eq_false, not_false_eq_true, ne_eq, true_and, and_true, false_and, and_false, m1_lt0, m1_eq0, eq_self, Bool.false_eq_true, reduceCtorEq, z_lt0, i1_eq0, i0_eq1, i1_eq1, xrZ0, xrZ1, xrZt, n32_eq0, n32_eq1, n32_gt0, n32_gt1, n32_lt1, n32_le1, n32_0le, tf0, tf1, xaI_of, q8a, q8b, q8m, q8l, q8g, q8r, q8s, q8e, hm]
    obtain ⟨M, h1, h2, h3, h4⟩ := xfor (fun i K => xlim (xcall xprog d) mX12_stores 1 [.ref 209, .ref 224, .int (n32 i)] [] (xst e L K J)) (fun i K => (∀ o, o ≠ 222 → K o = I o) ∧ (∀ j, j < i → K 222 j = I 222 (j + 222)) ∧ ∀ j, i ≤ j → K 222 j = I 222 j) (n := 1554) (fun i K hi ⟨g1, g2, g3⟩ => by
      refine ⟨xu K 222 i (I 222 (i + 222)), ?_, fun o z => by rw [xu_rne z, g1 o z], fun j hj => ?_, fun j hj => by rw [xu_kne (by omega), g3 j (by omega)]⟩
      · refine (bX12_stores_209_224_1 _ e L K J _).trans ?_
        simp (disch := omega) only [n32_ltE, n32_leE, n32_eqE, n32_eqm, m1_eqn, n32_ge0, n32_lt0, n32_nat, n32_succ, n32_add, xin_n32, xin_b1, xin_b2, cond_true, cond_false, if_true, if_false, xcI_some, xcV_some, xcJ_some, xcR_some, xu_ee, xu_rne, xu_kne, ite_self, not_true_eq_false, not_false_eq_true, ne_eq, true_and, and_true, false_and, and_false, m1_lt0, m1_eq0, eq_self, Bool.false_eq_true, reduceCtorEq, z_lt0, i1_eq0, i0_eq1, i1_eq1, xrZ0, xrZ1, xrZt, n32_eq0, n32_eq1, n32_gt0, n32_gt1, n32_lt1, n32_le1, n32_0le, tf0, tf1, xaI_of, q222a, q222b, q222m, q222l, q222g, q222r, q222s, q222e, q1554a, q1554b, q1554m, q1554l, q1554g, q1554r, q1554s, q1554e, hi, g3 (i + 222) (by omega)]
      · by_cases z : j = i
        · rw [z, xu_ee]
        · rw [xu_kne z, g2 j (by omega)]) I ⟨fun _ _ => rfl, fun j hj => absurd hj (Nat.not_lt_zero j), fun _ _ => rfl⟩
    refine RR_eq (h1.trans (bX12_stores_209_224_1 _ e L M J _)) ?_
    simp (disch := omega) only [n32_ltE, n32_leE, n32_eqE, n32_eqm, m1_eqn, n32_ge0, n32_lt0, n32_nat, n32_succ, n32_add, xin_n32, xin_b1, xin_b2, cond_true, cond_false, if_true, if_false, xcI_some, xcV_some, xcJ_some, xcR_some, xu_ee, xu_rne, xu_kne, ite_self, not_true_eq_false, not_false_eq_true, ne_eq, true_and, and_true, false_and, and_false, m1_lt0, m1_eq0, eq_self, Bool.false_eq_true, reduceCtorEq, z_lt0, i1_eq0, i0_eq1, i1_eq1, xrZ0, xrZ1, xrZt, n32_eq0, n32_eq1, n32_gt0, n32_gt1, n32_lt1, n32_le1, n32_0le, tf0, tf1, xaI_of, q1554a, q1554b, q1554m, q1554l, q1554g, q1554r, q1554s, q1554e, Nat.lt_irrefl]
    refine RR_eq (bX12_stores_209_224_2 _ e L M J) ?_
    obtain ⟨K, k1, k2, k3, k4⟩ := last (xu M 209 38 7) 7 (by omega) (by rw [xu_ee]; rfl)
    refine RR_eq k1 (RR_V ⟨rfl, fun o k z1 z2 => ?_, Or.inr ⟨xu_ee, fun k hk => ?_, fun i hi => ?_⟩⟩)
    · by_cases z : o = 209
      · subst z
        rw [xu_kne (by omega), k2 209 (by decide), xu_kne (by omega), h2 209 (by decide)]
      · rw [xu_rne z, k2 o z1, xu_rne z, h2 o z1]
    · rw [xu_rne (by decide), k3 k (by omega), xu_rne (by decide), h3 k hk]
    · rw [xu_rne (by decide)]
      have := k4 i hi
      rw [xu_rne (by decide), h2 224 (by decide)] at this
      exact this
  · have hlt : m < 8 := by omega
    simp (disch := omega) only [n32_ltE, n32_leE, n32_eqE, n32_eqm, m1_eqn, n32_ge0, n32_lt0, n32_nat, n32_succ, n32_add, xin_n32, xin_b1, xin_b2, cond_true, cond_false, if_true, if_false, xcI_some, xcV_some, xcJ_some, xcR_some, xu_ee, xu_rne, xu_kne, ite_self, not_true_eq_false, not_false_eq_true, ne_eq, true_and, and_true, false_and, and_false, m1_lt0, m1_eq0, eq_self, Bool.false_eq_true, reduceCtorEq, z_lt0, i1_eq0, i0_eq1, i1_eq1, xrZ0, xrZ1, xrZt, n32_eq0, n32_eq1, n32_gt0, n32_gt1, n32_lt1, n32_le1, n32_0le, tf0, tf1, xaI_of, q8a, q8b, q8m, q8l, q8g, q8r, q8s, q8e, hm, q]
    obtain ⟨K, k1, k2, k3, k4⟩ := last I m hlt hm
    refine RR_eq k1 (RR_V ⟨rfl, fun o k z1 z2 => ?_, Or.inl ⟨hlt, xu_ee, fun k hk => ?_, fun i hi => ?_⟩⟩)
    · by_cases z : o = 209
      · subst z
        rw [xu_kne (by omega), k2 209 (by decide)]
      · rw [xu_rne z, k2 o z1]
    · rw [xu_rne (by decide), k3 k hk]
    · rw [xu_rne (by decide), k4 i hi]
theorem r_brings_222 (hn : n ≤ 1554) : RR (xcall xprog (d + 1) 221 [.ref 209, .ref 222, .int (n32 n)] (xst e L I J)) (zV e L fun K J' => J' = J ∧ dfr K I ∧ K 209 34 = 0 ∧ (∀ i, i < 222 → K 211 (2 + i) = I 222 (n + i)) ∧ ∀ k, (k < 2 ∨ 224 ≤ k) → K 211 k = I 211 k) := by
  refine RR_eq ((aX12_brings_209_222 _ e L I J _).trans (bX12_brings_209_222_0 _ e L I J _)) ?_
  obtain ⟨K, h1, h2, h3, h4⟩ := xfor (fun i K => xlim (xcall xprog d) mX12_brings 1 [.ref 209, .ref 222, .int (n32 n), .int (n32 i)] [] (xst e L K J)) (fun i K => (∀ o, o ≠ 211 → K o = I o) ∧ (∀ j, j < i → K 211 (2 + j) = I 222 (n + j)) ∧ ∀ k, (k < 2 ∨ 224 ≤ k) → K 211 k = I 211 k) (n := 222) (fun i K hi ⟨g1, g2, g3⟩ => by
    refine ⟨xu K 211 (2 + i) (I 222 (n + i)), ?_, fun o z => by rw [xu_rne z, g1 o z], fun j hj => ?_, fun k hk => by rw [xu_kne (by omega), g3 k hk]⟩
    · refine (bX12_brings_209_222_1 _ e L K J _ _).trans ?_
      simp (disch := omega) only [n32_ltE, n32_leE, n32_eqE, n32_eqm, m1_eqn, n32_ge0, n32_lt0, n32_nat, n32_succ, n32_add, xin_n32, xin_b1, xin_b2, cond_true, cond_false, if_true, if_false, xcI_some, xcV_some, xcJ_some, xcR_some, xu_ee, xu_rne, xu_kne, ite_self, not_true_eq_false, not_false_eq_true, ne_eq, true_and, and_true, false_and, and_false, m1_lt0, m1_eq0, eq_self, Bool.false_eq_true, reduceCtorEq, z_lt0, i1_eq0, i0_eq1, i1_eq1, xrZ0, xrZ1, xrZt, n32_eq0, n32_eq1, n32_gt0, n32_gt1, n32_lt1, n32_le1, n32_0le, tf0, tf1, xaI_of, q2a, q2b, q2m, q2l, q2g, q2r, q2s, q2e, q222a, q222b, q222m, q222l, q222g, q222r, q222s, q222e, hi, g1 222 (by decide)]
    · by_cases z : j = i
      · rw [z, xu_ee]
      · rw [xu_kne (by omega), g2 j (by omega)]) I ⟨fun _ _ => rfl, fun j hj => absurd hj (Nat.not_lt_zero j), fun _ _ => rfl⟩
  refine RR_eq (h1.trans (bX12_brings_209_222_1 _ e L K J _ _)) ?_
  simp (disch := omega) only [n32_ltE, n32_leE, n32_eqE, n32_eqm, m1_eqn, n32_ge0, n32_lt0, n32_nat, n32_succ, n32_add, xin_n32, xin_b1, xin_b2, cond_true, cond_false, if_true, if_false, xcI_some, xcV_some, xcJ_some, xcR_some, xu_ee, xu_rne, xu_kne, ite_self, not_true_eq_false, not_false_eq_true, ne_eq, true_and, and_true, false_and, and_false, m1_lt0, m1_eq0, eq_self, Bool.false_eq_true, reduceCtorEq, z_lt0, i1_eq0, i0_eq1, i1_eq1, xrZ0, xrZ1, xrZt, n32_eq0, n32_eq1, n32_gt0, n32_gt1, n32_lt1, n32_le1, n32_0le, tf0, tf1, xaI_of, q222a, q222b, q222m, q222l, q222g, q222r, q222s, q222e, Nat.lt_irrefl, bX12_brings_209_222_2]
  refine RR_V ⟨rfl, fun o k z1 z2 => ?_, xu_ee, fun i hi => by rw [xu_rne (by decide), h3 i hi], fun k hk => by rw [xu_rne (by decide), h4 k hk]⟩
  by_cases z : o = 209
  · subst z
    rw [xu_kne (by omega), h2 209 (by decide)]
  · rw [xu_rne z, h2 o z1]
theorem r_brings_224 : RR (xcall xprog (d + 1) 221 [.ref 209, .ref 224, .int 0] (xst e L I J)) (zV e L fun K J' => J' = J ∧ dfr K I ∧ K 209 34 = 0 ∧ (∀ i, i < 222 → K 211 (2 + i) = I 224 i) ∧ ∀ k, (k < 2 ∨ 224 ≤ k) → K 211 k = I 211 k) := by
  refine RR_eq ((aX12_brings_209_224 _ e L I J _).trans (bX12_brings_209_224_0 _ e L I J _)) ?_
  obtain ⟨K, h1, h2, h3, h4⟩ := xfor (fun i K => xlim (xcall xprog d) mX12_brings 1 [.ref 209, .ref 224, .int 0, .int (n32 i)] [] (xst e L K J)) (fun i K => (∀ o, o ≠ 211 → K o = I o) ∧ (∀ j, j < i → K 211 (2 + j) = I 224 j) ∧ ∀ k, (k < 2 ∨ 224 ≤ k) → K 211 k = I 211 k) (n := 222) (fun i K hi ⟨g1, g2, g3⟩ => by
    refine ⟨xu K 211 (2 + i) (I 224 i), ?_, fun o z => by rw [xu_rne z, g1 o z], fun j hj => ?_, fun k hk => by rw [xu_kne (by omega), g3 k hk]⟩
    · refine (bX12_brings_209_224_1 _ e L K J _ _).trans ?_
      have ez : (0 : Int32) + n32 i = n32 i := Int32.zero_add _
      simp (disch := omega) only [n32_ltE, n32_leE, n32_eqE, n32_eqm, m1_eqn, n32_ge0, n32_lt0, n32_nat, n32_succ, n32_add, xin_n32, xin_b1, xin_b2, cond_true, cond_false, if_true, if_false, xcI_some, xcV_some, xcJ_some, xcR_some, xu_ee, xu_rne, xu_kne, ite_self, not_true_eq_false, not_false_eq_true, ne_eq, true_and, and_true, false_and, and_false, m1_lt0, m1_eq0, eq_self, Bool.false_eq_true, reduceCtorEq, z_lt0, i1_eq0, i0_eq1, i1_eq1, xrZ0, xrZ1, xrZt, n32_eq0, n32_eq1, n32_gt0, n32_gt1, n32_lt1, n32_le1, n32_0le, tf0, tf1, xaI_of, q2a, q2b, q2m, q2l, q2g, q2r, q2s, q2e, q222a, q222b, q222m, q222l, q222g, q222r, q222s, q222e, hi, ez, g1 224 (by decide)]
    · by_cases z : j = i
      · rw [z, xu_ee]
      · rw [xu_kne (by omega), g2 j (by omega)]) I ⟨fun _ _ => rfl, fun j hj => absurd hj (Nat.not_lt_zero j), fun _ _ => rfl⟩
  refine RR_eq (h1.trans (bX12_brings_209_224_1 _ e L K J _ _)) ?_
  simp (disch := omega) only [n32_ltE, n32_leE, n32_eqE, n32_eqm, m1_eqn, n32_ge0, n32_lt0, n32_nat, n32_succ, n32_add, xin_n32, xin_b1, xin_b2, cond_true, cond_false, if_true, if_false, xcI_some, xcV_some, xcJ_some, xcR_some, xu_ee, xu_rne, xu_kne, ite_self, not_true_eq_false, not_false_eq_true, ne_eq, true_and, and_true, false_and, and_false, m1_lt0, m1_eq0, eq_self, Bool.false_eq_true, reduceCtorEq, z_lt0, i1_eq0, i0_eq1, i1_eq1, xrZ0, xrZ1, xrZt, n32_eq0, n32_eq1, n32_gt0, n32_gt1, n32_lt1, n32_le1, n32_0le, tf0, tf1, xaI_of, q222a, q222b, q222m, q222l, q222g, q222r, q222s, q222e, Nat.lt_irrefl, bX12_brings_209_224_2]
  refine RR_V ⟨rfl, fun o k z1 z2 => ?_, xu_ee, fun i hi => by rw [xu_rne (by decide), h3 i hi], fun k hk => by rw [xu_rne (by decide), h4 k hk]⟩
  by_cases z : o = 209
  · subst z
    rw [xu_kne (by omega), h2 209 (by decide)]
  · rw [xu_rne z, h2 o z1]
end RAC
