/-! The calls need and way. -/
def NR (S : TS) (x y V : Int32) (U : Option Int32) : Prop := (∃ s t m, s < sB S ∧ t < sB S ∧ x = n32 s ∧ y = n32 t ∧ pt S s = true ∧ pt S t = true ∧ anc (par S) s t = true ∧ MN S s t m ∧ V = n32 (pc m) ∧ U = some (n32 m)) ∨ ((∀ s t m, s < sB S → t < sB S → x = n32 s → y = n32 t → pt S s = true → pt S t = true → anc (par S) s t = true → ¬ MN S s t m) ∧ V = -1 ∧ U = none)
noncomputable def ndV (S : TS) (s t : Nat) : Int32 := @dite _ (∃ m, MN S s t m) (Classical.propDecidable _) (fun h => n32 (pc h.choose)) (fun _ => -1)
noncomputable def wayF (S : TS) (t : Nat) (n : Nat) : Int32 × Int32 := xfold (fun s z => if (jst S s = true ∧ anc (par S) s t = true) ∧ ndV S s t ≠ -1 ∧ (z.1 = -1 ∨ ndV S s t < z.1) then (ndV S s t, n32 s) else z) n (-1, -1)
noncomputable def wayV (S : TS) (y : Int32) : Int32 := if (y < 0 ∨ ¬ y < n32 (sB S)) ∨ pt S y.toNatClampNeg = false then -1 else if jst S y.toNatClampNeg = true then 0 else (wayF S y.toNatClampNeg y.toNatClampNeg).1
noncomputable def wayU (S : TS) (y : Int32) : Option Int32 := if (y < 0 ∨ ¬ y < n32 (sB S)) ∨ pt S y.toNatClampNeg = false then none else if jst S y.toNatClampNeg = true then some (-1) else if (wayF S y.toNatClampNeg y.toNatClampNeg).1 = -1 then none else some (wayF S y.toNatClampNeg y.toNatClampNeg).2
section WA
variable {d e L : Nat} {S : TS} {N : Nat → Int64} {I K M : TI} {J : TJ} {a b s t v k i n w m x : Nat}
theorem NR_u {x y V V' : Int32} {U U' : Option Int32} (hw : wfT S) (h : NR S x y V U) (h' : NR S x y V' U') : V = V' ∧ U = U' := by
  have h20 := wf_B hw
  rcases h with ⟨s, t, m, a1, a2, a3, a4, a5, a6, a7, a8, a9, a10⟩ | ⟨a1, a2, a3⟩
  · rcases h' with ⟨s', t', m', b1, b2, b3, b4, b5, b6, b7, b8, b9, b10⟩ | ⟨b1, b2, b3⟩
    · have e1 : s = s' := (n32_inj (by omega) (by omega)).mp (a3.symm.trans b3)
      have e2 : t = t' := (n32_inj (by omega) (by omega)).mp (a4.symm.trans b4)
      subst e1 e2
      have e3 := MN_u a8 b8
      subst e3
      exact ⟨a9.trans b9.symm, a10.trans b10.symm⟩
    · exact absurd a8 (b1 s t m a1 a2 a3 a4 a5 a6 a7)
  · rcases h' with ⟨s', t', m', b1, b2, b3, b4, b5, b6, b7, b8, b9, b10⟩ | ⟨b1, b2, b3⟩
    · exact absurd b8 (a1 s' t' m' b1 b2 b3 b4 b5 b6 b7)
    · exact ⟨a2.trans b2.symm, a3.trans b3.symm⟩
theorem ok_no (h : ∀ y, y < 256 → okN S s t y = false) : ¬ MN S s t m := fun q => by
  have := h m q.1
  rw [q.2.1] at this
  cases this
theorem ndV_y (h : MN S s t m) : ndV S s t = n32 (pc m) := by
  unfold ndV
  rw [dif_pos ⟨m, h⟩]
  have := MN_u (Classical.choose_spec (p := fun m => MN S s t m) ⟨m, h⟩) h
  exact congrArg (fun z => n32 (pc z)) this
theorem ndV_n (h : ∀ y, y < 256 → okN S s t y = false) : ndV S s t = -1 := by
  unfold ndV
  rw [dif_neg (fun ⟨m, q⟩ => ok_no h q)]
theorem ndV_or (s t : Nat) : ndV S s t = -1 ∨ ∃ k, k ≤ 8 ∧ ndV S s t = n32 k := by
  by_cases h : ∃ m, MN S s t m
  · obtain ⟨m, h⟩ := h
    exact Or.inr ⟨pc m, pc_le m, ndV_y h⟩
  · left
    unfold ndV
    rw [dif_neg h]
/-- class frame of the two -/
def ufr (K I : TI) : Prop := ∀ o k, ¬ (47 ≤ o ∧ o < 71) → (o ≠ 6 ∨ k ≠ 3) → o ≠ 71 → K o k = I o k
/-- reference frame of the two -/
def vfr (K I : TI) : Prop := ∀ o k, ¬ (217 ≤ o ∧ o < 222) → (o ≠ 209 ∨ ¬ (k = 0 ∨ (26 ≤ k ∧ k ≤ 34) ∨ (39 ≤ k ∧ k ≤ 41))) → K o k = I o k
theorem c_need (hC : CS S N I J) (x y : Int32) : RR (xcall xprog (d + 8) 131 [.ref 0, .int x, .int y] (xst e L I J)) (zI e L fun V K J' => J' = J ∧ CS S N K J ∧ ufr K I ∧ K 71 1 = I 71 1 ∧ ∃ U, NR S x y V U ∧ K 71 0 = U.getD (I 71 0)) := by
  have hw := hC.1.1
  have h20 := wf_B hw
  refine RR_eq ((aX11_need _ e L I J _ _).trans (bX11_need_0 _ e L I J _ _)) ?_
  refine RR_cV (c_fresh (d := d + 1) hC) (fun K J' ⟨j1, f1, hF, hC2⟩ => ?_)
  subst j1
  rw [ekX11_need_0_2]
  by_cases hl : lnk S x y
  · rw [c_isLink_l hC2.2.1 hw hl]
    obtain ⟨s, t, l1, l2, rfl, rfl, l3, l4, l5⟩ := hl
    simp (disch := omega) only [n32_ltE, n32_leE, n32_eqE, n32_eqm, m1_eqn, n32_ge0, n32_lt0, n32_nat, n32_succ, n32_add, xin_n32, xin_b1, xin_b2, cond_true, cond_false, if_true, if_false, xcI_some, xcV_some, xcJ_some, xcR_some, xu_ee, xu_rne, xu_kne, ite_self, not_true_eq_false, not_false_eq_true, ne_eq, true_and, and_true, false_and, and_false, m1_lt0, m1_eq0, eq_self, Bool.false_eq_true, reduceCtorEq, z_lt0, i1_eq0, i0_eq1, i1_eq1, xrZ0, xrZ1, xrZt, n32_eq0, n32_eq1, n32_gt0, n32_gt1, n32_lt1, n32_le1, n32_0le, tf0, tf1, xaI_of, ekX11_need_0_7]
    have hask : RR (xcall xprog (d + 6 + 1) 62 [.ref 71, .int (n32 s), .int (n32 t)] (xst e L K J')) (zI e L fun V M J'' => J'' = J' ∧ (∀ o k, (o ≠ 71 ∨ ¬ (k = 0 ∨ k = 2)) → M o k = K o k) ∧ ∃ U, NR S (n32 s) (n32 t) V U ∧ M 71 0 = U.getD (K 71 0)) := by
      refine RR_eq ((aX6_askNeed _ e L K J' _ _).trans (bX6_askNeed_0 _ e L K J' _ _)) ?_
      refine RR_cI (c_fewest (d := d + 1) hC2 hF l1 l2 l3 l4) (fun V M J'' ⟨j2, g1, g2⟩ => ?_)
      subst j2
      rw [ekX6_askNeed_0_3]
      rcases g2 with ⟨m, m1, m2, m3⟩ | ⟨m1, m2⟩
      · have pcm := pc_le m
        subst m2
        simp (disch := omega) only [n32_ltE, n32_leE, n32_eqE, n32_eqm, m1_eqn, n32_ge0, n32_lt0, n32_nat, n32_succ, n32_add, xin_n32, xin_b1, xin_b2, cond_true, cond_false, if_true, if_false, xcI_some, xcV_some, xcJ_some, xcR_some, xu_ee, xu_rne, xu_kne, ite_self, not_true_eq_false, not_false_eq_true, ne_eq, true_and, and_true, false_and, and_false, m1_lt0, m1_eq0, eq_self, Bool.false_eq_true, reduceCtorEq, z_lt0, i1_eq0, i0_eq1, i1_eq1, xrZ0, xrZ1, xrZt, n32_eq0, n32_eq1, n32_gt0, n32_gt1, n32_lt1, n32_le1, n32_0le, tf0, tf1, xaI_of, bX6_askNeed_1]
        refine RR_I ⟨rfl, fun o k z => ?_, some (n32 m), Or.inl ⟨s, t, m, l1, l2, rfl, rfl, l3, l4, l5, m1, rfl, rfl⟩, ?_⟩
        · rw [← g1 o k (by omega)]
          by_cases q : o = 71
          · subst q
            rw [xu_kne (by omega)]
          · rw [xu_rne q]
        · rw [xu_ee, m3]
          rfl
      · subst m2
        simp (disch := omega) only [n32_ltE, n32_leE, n32_eqE, n32_eqm, m1_eqn, n32_ge0, n32_lt0, n32_nat, n32_succ, n32_add, xin_n32, xin_b1, xin_b2, cond_true, cond_false, if_true, if_false, xcI_some, xcV_some, xcJ_some, xcR_some, xu_ee, xu_rne, xu_kne, ite_self, not_true_eq_false, not_false_eq_true, ne_eq, true_and, and_true, false_and, and_false, m1_lt0, m1_eq0, eq_self, Bool.false_eq_true, reduceCtorEq, z_lt0, i1_eq0, i0_eq1, i1_eq1, xrZ0, xrZ1, xrZt, n32_eq0, n32_eq1, n32_gt0, n32_gt1, n32_lt1, n32_le1, n32_0le, tf0, tf1, xaI_of, bX6_askNeed_1]
        refine RR_I ⟨rfl, fun o k z => g1 o k (by omega), none, Or.inr ⟨fun s' t' m' z1 z2 z3 z4 z5 z6 z7 => ?_, rfl, rfl⟩, g1 71 0 (Or.inr (by decide))⟩
        have e1 : s = s' := (n32_inj (by omega) (by omega)).mp z3
        have e2 : t = t' := (n32_inj (by omega) (by omega)).mp z4
        subst e1 e2
        exact ok_no m1
    refine RR_cI hask (fun V M J'' ⟨j2, g1, U, g2, g3⟩ => ?_)
    subst j2
    simp (disch := omega) only [n32_ltE, n32_leE, n32_eqE, n32_eqm, m1_eqn, n32_ge0, n32_lt0, n32_nat, n32_succ, n32_add, xin_n32, xin_b1, xin_b2, cond_true, cond_false, if_true, if_false, xcI_some, xcV_some, xcJ_some, xcR_some, xu_ee, xu_rne, xu_kne, ite_self, not_true_eq_false, not_false_eq_true, ne_eq, true_and, and_true, false_and, and_false, m1_lt0, m1_eq0, eq_self, Bool.false_eq_true, reduceCtorEq, z_lt0, i1_eq0, i0_eq1, i1_eq1, xrZ0, xrZ1, xrZt, n32_eq0, n32_eq1, n32_gt0, n32_gt1, n32_lt1, n32_le1, n32_0le, tf0, tf1, xaI_of, ekX11_need_0_13, ekX11_need_0_7, ekX11_need_0_2, bX11_need_0, bX11_need_1, bX11_need_2]
    have hM : ∀ o k, o ≠ 71 → M o k = K o k := fun o k z => g1 o k (Or.inl z)
    refine RR_I ⟨rfl, CS_71 hM hC2, fun o k z1 z2 z3 => (hM o k z3).trans (f1 o k z1 z2), (g1 71 1 (Or.inr (by decide))).trans (f1 71 1 (by omega) (Or.inl (by decide))), U, g2, ?_⟩
    rw [g3, f1 71 0 (by omega) (Or.inl (by decide))]
  · rw [c_isLink_n hC2.2.1 hw hl]
    simp (disch := omega) only [n32_ltE, n32_leE, n32_eqE, n32_eqm, m1_eqn, n32_ge0, n32_lt0, n32_nat, n32_succ, n32_add, xin_n32, xin_b1, xin_b2, cond_true, cond_false, if_true, if_false, xcI_some, xcV_some, xcJ_some, xcR_some, xu_ee, xu_rne, xu_kne, ite_self, not_true_eq_false, not_false_eq_true, ne_eq, true_and, and_true, false_and, and_false, m1_lt0, m1_eq0, eq_self, Bool.false_eq_true, reduceCtorEq, z_lt0, i1_eq0, i0_eq1, i1_eq1, xrZ0, xrZ1, xrZt, n32_eq0, n32_eq1, n32_gt0, n32_gt1, n32_lt1, n32_le1, n32_0le, tf0, tf1, xaI_of, ekX11_need_0_13, ekX11_need_0_7, ekX11_need_0_2, bX11_need_0, bX11_need_1, bX11_need_2]
    exact RR_I ⟨rfl, hC2, fun o k z1 z2 z3 => f1 o k z1 z2, f1 71 1 (by omega) (Or.inl (by decide)), none, Or.inr ⟨fun s t m z1 z2 z3 z4 z5 z6 z7 _ => hl ⟨s, t, z1, z2, z3, z4, z5, z6, z7⟩, rfl, rfl⟩, f1 71 0 (by omega) (Or.inl (by decide))⟩
theorem r_need (hC : RS S I) (x y : Int32) : RR (xcall xprog (d + 9) 231 [.ref 209, .int x, .int y] (xst e L I J)) (zI e L fun V K J' => J' = J ∧ RS S K ∧ vfr K I ∧ K 209 41 = I 209 41 ∧ ∃ U, NR S x y V U ∧ K 209 40 = U.getD (I 209 40)) := by
  have hw := hC.1.1
  have h20 := wf_B hw
  have v0 : vfr (xu I 209 0 0) I := fun o k z1 z2 => by
    by_cases z : o = 209
    · subst z
      rw [xu_kne (by omega)]
    · rw [xu_rne z]
  refine RR_eq ((aX12_need _ e L I J _ _).trans (bX12_need_0 _ e L I J _ _)) ?_
  by_cases hl : lnk S x y
  · refine RR_cI (r_isLink_l (d := d) (RS_0 (x := 0) hC) hl) (fun z K J' ⟨z1, j1, f1, hF, hC2⟩ => ?_)
    subst z1 j1
    obtain ⟨s, t, l1, l2, rfl, rfl, l3, l4, l5⟩ := hl
    simp (disch := omega) only [n32_ltE, n32_leE, n32_eqE, n32_eqm, m1_eqn, n32_ge0, n32_lt0, n32_nat, n32_succ, n32_add, xin_n32, xin_b1, xin_b2, cond_true, cond_false, if_true, if_false, xcI_some, xcV_some, xcJ_some, xcR_some, xu_ee, xu_rne, xu_kne, ite_self, not_true_eq_false, not_false_eq_true, ne_eq, true_and, and_true, false_and, and_false, m1_lt0, m1_eq0, eq_self, Bool.false_eq_true, reduceCtorEq, z_lt0, i1_eq0, i0_eq1, i1_eq1, xrZ0, xrZ1, xrZt, n32_eq0, n32_eq1, n32_gt0, n32_gt1, n32_lt1, n32_le1, n32_0le, tf0, tf1, xaI_of, ekX12_need_0_6]
    refine RR_cI (r_needOf (d := d + 2) hC2 hF l1 l2) (fun V M J'' ⟨j2, g1, g2⟩ => ?_)
    subst j2
    have hM : vfr M I := fun o k z1 z2 => by rw [g1 o k (by omega), f1 o k z1 (by omega), v0 o k z1 z2]
    have c40 : M 209 40 = I 209 40 := by rw [g1 209 40 (Or.inr (by decide)), f1 209 40 (by decide) (Or.inr (by decide)), xu_kne (by decide)]
    have c41 : M 209 41 = I 209 41 := by rw [g1 209 41 (Or.inr (by decide)), f1 209 41 (by decide) (Or.inr (by decide)), xu_kne (by decide)]
    have hRM : RS S M := by
      refine ⟨hC2.1, (funext fun k => g1 211 k (Or.inl (by decide))).trans hC2.2.1, fun q => ?_⟩
      have : M = xu K 209 39 (M 209 39) := by
        funext o k
        by_cases z : o = 209 ∧ k = 39
        · rw [z.1, z.2, xu_ee]
        · rw [g1 o k (by omega)]
          exact (if_neg z).symm
      rw [this]
      exact Rf_k (Or.inr (by omega)) hF
    rcases g2 with ⟨m, m1, m2, m3⟩ | ⟨m1, m2⟩
    · have pcm := pc_le m
      subst m2
      simp (disch := omega) only [n32_ltE, n32_leE, n32_eqE, n32_eqm, m1_eqn, n32_ge0, n32_lt0, n32_nat, n32_succ, n32_add, xin_n32, xin_b1, xin_b2, cond_true, cond_false, if_true, if_false, xcI_some, xcV_some, xcJ_some, xcR_some, xu_ee, xu_rne, xu_kne, ite_self, not_true_eq_false, not_false_eq_true, ne_eq, true_and, and_true, false_and, and_false, m1_lt0, m1_eq0, eq_self, Bool.false_eq_true, reduceCtorEq, z_lt0, i1_eq0, i0_eq1, i1_eq1, xrZ0, xrZ1, xrZt, n32_eq0, n32_eq1, n32_gt0, n32_gt1, n32_lt1, n32_le1, n32_0le, tf0, tf1, xaI_of, ekX12_need_0_11, bX12_need_2, bX12_need_3]
      refine RR_I ⟨rfl, RS_k (Or.inr (by omega)) hRM, fun o k z1 z2 => ?_, by rw [xu_kne (by decide), c41], some (n32 m), Or.inl ⟨s, t, m, l1, l2, rfl, rfl, l3, l4, l5, m1, rfl, rfl⟩, ?_⟩
      · rw [← hM o k z1 z2]
        by_cases z : o = 209
        · subst z
          rw [xu_kne (by omega)]
        · rw [xu_rne z]
      · rw [xu_ee, m3]
        rfl
    · subst m2
      simp (disch := omega) only [n32_ltE, n32_leE, n32_eqE, n32_eqm, m1_eqn, n32_ge0, n32_lt0, n32_nat, n32_succ, n32_add, xin_n32, xin_b1, xin_b2, cond_true, cond_false, if_true, if_false, xcI_some, xcV_some, xcJ_some, xcR_some, xu_ee, xu_rne, xu_kne, ite_self, not_true_eq_false, not_false_eq_true, ne_eq, true_and, and_true, false_and, and_false, m1_lt0, m1_eq0, eq_self, Bool.false_eq_true, reduceCtorEq, z_lt0, i1_eq0, i0_eq1, i1_eq1, xrZ0, xrZ1, xrZt, n32_eq0, n32_eq1, n32_gt0, n32_gt1, n32_lt1, n32_le1, n32_0le, tf0, tf1, xaI_of, ekX12_need_0_11, bX12_need_2, bX12_need_3]
      refine RR_I ⟨rfl, hRM, hM, c41, none, Or.inr ⟨fun s' t' m' z1 z2 z3 z4 z5 z6 z7 => ?_, rfl, rfl⟩, c40⟩
      have e1 : s = s' := (n32_inj (by omega) (by omega)).mp z3
      have e2 : t = t' := (n32_inj (by omega) (by omega)).mp z4
      subst e1 e2
      exact ok_no m1
  · refine RR_cI (r_isLink_n (d := d) (RS_0 (x := 0) hC) hl) (fun z K J' ⟨z1, j1, f1, hC2⟩ => ?_)
    subst z1 j1
    simp (disch := omega) only [n32_ltE, n32_leE, n32_eqE, n32_eqm, m1_eqn, n32_ge0, n32_lt0, n32_nat, n32_succ, n32_add, xin_n32, xin_b1, xin_b2, cond_true, cond_false, if_true, if_false, xcI_some, xcV_some, xcJ_some, xcR_some, xu_ee, xu_rne, xu_kne, ite_self, not_true_eq_false, not_false_eq_true, ne_eq, true_and, and_true, false_and, and_false, m1_lt0, m1_eq0, eq_self, Bool.false_eq_true, reduceCtorEq, z_lt0, i1_eq0, i0_eq1, i1_eq1, xrZ0, xrZ1, xrZt, n32_eq0, n32_eq1, n32_gt0, n32_gt1, n32_lt1, n32_le1, n32_0le, tf0, tf1, xaI_of, ekX12_need_0_6, bX12_need_1, bX12_need_2, bX12_need_3]
    have hK : vfr K I := fun o k z1 z2 => by rw [f1 o k z1 (by omega), v0 o k z1 z2]
    exact RR_I ⟨rfl, hC2, hK, by rw [f1 209 41 (by decide) (Or.inr (by decide)), xu_kne (by decide)], none, Or.inr ⟨fun s t m z1 z2 z3 z4 z5 z6 z7 _ => hl ⟨s, t, z1, z2, z3, z4, z5, z6, z7⟩, rfl, rfl⟩, by rw [f1 209 40 (by decide) (Or.inr (by decide)), xu_kne (by decide)]; rfl⟩
theorem wayF_s (S : TS) (t n : Nat) : wayF S t (n + 1) = if (jst S n = true ∧ anc (par S) n t = true) ∧ ndV S n t ≠ -1 ∧ ((wayF S t n).1 = -1 ∨ ndV S n t < (wayF S t n).1) then (ndV S n t, n32 n) else wayF S t n := rfl
theorem wayF_or (t n : Nat) : (wayF S t n).1 = -1 ∨ ∃ k, k ≤ 8 ∧ (wayF S t n).1 = n32 k := by
  induction n with
  | zero => exact Or.inl rfl
  | succ n ih =>
    rw [wayF_s]
    by_cases q : (jst S n = true ∧ anc (par S) n t = true) ∧ ndV S n t ≠ -1 ∧ ((wayF S t n).1 = -1 ∨ ndV S n t < (wayF S t n).1)
    · rw [if_pos q]
      exact ndV_or n t
    · rw [if_neg q]
      exact ih
theorem wayF_tail (h : t ≤ n) : wayF S t n = wayF S t t := by
  obtain ⟨m, rfl⟩ : ∃ m, n = t + m := ⟨n - t, by omega⟩
  clear h
  induction m with
  | zero => rfl
  | succ m ih =>
    rw [show t + (m + 1) = t + m + 1 from rfl, wayF_s, if_neg, ih]
    rintro ⟨⟨_, q⟩, _⟩
    have := anc_lt q
    omega
theorem wayF_zero (h : (wayF S t n).1 = 0) : ∀ m, n ≤ m → wayF S t m = wayF S t n := by
  intro m hm
  obtain ⟨j, rfl⟩ : ∃ j, m = n + j := ⟨m - n, by omega⟩
  clear hm
  induction j with
  | zero => rfl
  | succ j ih =>
    rw [show n + (j + 1) = n + j + 1 from rfl, wayF_s, if_neg, ih]
    rintro ⟨_, q1, q2⟩
    rw [ih, h] at q2
    rcases q2 with q2 | q2
    · exact absurd q2 (by decide)
    · rcases ndV_or (S := S) (n + j) t with z | ⟨k, k1, k2⟩
      · exact q1 z
      · rw [k2] at q2
        exact n32_neg (by omega) q2
theorem wayV_n {y : Int32} (h : (y < 0 ∨ ¬ y < n32 (sB S)) ∨ pt S y.toNatClampNeg = false) : wayV S y = -1 ∧ wayU S y = none := ⟨if_pos h, if_pos h⟩
theorem way_ok (hw : wfT S) (ht : t < sB S) (hp : pt S t = true) : ¬ (((n32 t) < 0 ∨ ¬ (n32 t) < n32 (sB S)) ∨ pt S (n32 t).toNatClampNeg = false) := by
  have h20 := wf_B hw
  rw [n32_nat (by omega), hp]
  rintro ((h | h) | h)
  · exact n32_neg (by omega) h
  · exact h ((n32_lt (by omega) (by omega)).mpr ht)
  · cases h
theorem wayV_j (hw : wfT S) (ht : t < sB S) (hp : pt S t = true) (hj : jst S t = true) : wayV S (n32 t) = 0 ∧ wayU S (n32 t) = some (-1) := by
  have h20 := wf_B hw
  unfold wayV wayU
  rw [if_neg (way_ok hw ht hp), if_neg (way_ok hw ht hp), n32_nat (by omega), if_pos hj, if_pos hj]
  exact ⟨rfl, rfl⟩
theorem wayV_f (hw : wfT S) (ht : t < sB S) (hp : pt S t = true) (hj : ¬ jst S t = true) : wayV S (n32 t) = (wayF S t t).1 ∧ wayU S (n32 t) = if (wayF S t t).1 = -1 then none else some (wayF S t t).2 := by
  have h20 := wf_B hw
  unfold wayV wayU
  rw [if_neg (way_ok hw ht hp), if_neg (way_ok hw ht hp), n32_nat (by omega), if_neg hj, if_neg hj]
  exact ⟨rfl, rfl⟩
theorem c_way (hC : CS S N I J) (y : Int32) : RR (xcall xprog (d + 9) 133 [.ref 0, .int y] (xst e L I J)) (zI e L fun V K J' => J' = J ∧ CS S N K J ∧ ufr K I ∧ K 71 0 = I 71 0 ∧ V = wayV S y ∧ K 71 1 = (wayU S y).getD (I 71 1)) := by
  have hw := hC.1.1
  have hk := hC.1.2.1
  have h20 := wf_B hw
  refine RR_eq ((aX11_way _ e L I J _).trans (bX11_way_0 _ e L I J _)) ?_
  refine RR_cV (c_fresh (d := d + 2) hC) (fun K J' ⟨j1, f1, hF, hC2⟩ => ?_)
  subst j1
  rw [ekX11_way_0_2]
  have c0 : K 71 0 = I 71 0 := f1 71 0 (by omega) (Or.inl (by decide))
  have c1 : K 71 1 = I 71 1 := f1 71 1 (by omega) (Or.inl (by decide))
  have uf : ufr K I := fun o k z1 z2 z3 => f1 o k z1 z2
  rcases inr_or y (sB S) (by omega) with ⟨t, ht, rfl⟩ | hy
  rotate_left
  · rw [c_isPoint_n hC2.2.1 hw hy]
    simp (disch := omega) only [n32_ltE, n32_leE, n32_eqE, n32_eqm, m1_eqn, n32_ge0, n32_lt0, n32_nat, n32_succ, n32_add, xin_n32, xin_b1, xin_b2, cond_true, cond_false, if_true, if_false, xcI_some, xcV_some, xcJ_some, xcR_some, xu_ee, xu_rne, xu_kne, ite_self, not_true_eq_false, not_false_eq_true, ne_eq, true_and, and_true, false_and, and_false, m1_lt0, m1_eq0, eq_self, Bool.false_eq_true, reduceCtorEq, z_lt0, i1_eq0, i0_eq1, i1_eq1, xrZ0, xrZ1, xrZt, n32_eq0, n32_eq1, n32_gt0, n32_gt1, n32_lt1, n32_le1, n32_0le, tf0, tf1, xaI_of, ekX11_way_0_11, ekX11_way_0_6, ekX11_way_0_2, bX11_way_0, bX11_way_1, bX11_way_2]
    obtain ⟨w1, w2⟩ := wayV_n (S := S) (y := y) (Or.inl hy)
    exact RR_I ⟨rfl, hC2, uf, c0, w1.symm, by rw [w2, c1]; rfl⟩
  rw [c_isPoint_y hC2.2.1 hw ht]
  by_cases hp : pt S t = true
  rotate_left
  · simp (disch := omega) only [n32_ltE, n32_leE, n32_eqE, n32_eqm, m1_eqn, n32_ge0, n32_lt0, n32_nat, n32_succ, n32_add, xin_n32, xin_b1, xin_b2, cond_true, cond_false, if_true, if_false, xcI_some, xcV_some, xcJ_some, xcR_some, xu_ee, xu_rne, xu_kne, ite_self, not_true_eq_false, not_false_eq_true, ne_eq, true_and, and_true, false_and, and_false, m1_lt0, m1_eq0, eq_self, Bool.false_eq_true, reduceCtorEq, z_lt0, i1_eq0, i0_eq1, i1_eq1, xrZ0, xrZ1, xrZt, n32_eq0, n32_eq1, n32_gt0, n32_gt1, n32_lt1, n32_le1, n32_0le, tf0, tf1, xaI_of, ekX11_way_0_11, ekX11_way_0_6, ekX11_way_0_2, bX11_way_0, bX11_way_1, bX11_way_2, hp]
    obtain ⟨w1, w2⟩ := wayV_n (S := S) (y := n32 t) (Or.inr (by rw [n32_nat (by omega)]; simpa using hp))
    exact RR_I ⟨rfl, hC2, uf, c0, w1.symm, by rw [w2, c1]; rfl⟩
  simp (disch := omega) only [n32_ltE, n32_leE, n32_eqE, n32_eqm, m1_eqn, n32_ge0, n32_lt0, n32_nat, n32_succ, n32_add, xin_n32, xin_b1, xin_b2, cond_true, cond_false, if_true, if_false, xcI_some, xcV_some, xcJ_some, xcR_some, xu_ee, xu_rne, xu_kne, ite_self, not_true_eq_false, not_false_eq_true, ne_eq, true_and, and_true, false_and, and_false, m1_lt0, m1_eq0, eq_self, Bool.false_eq_true, reduceCtorEq, z_lt0, i1_eq0, i0_eq1, i1_eq1, xrZ0, xrZ1, xrZt, n32_eq0, n32_eq1, n32_gt0, n32_gt1, n32_lt1, n32_le1, n32_0le, tf0, tf1, xaI_of, ekX11_way_0_6, hp]
  have hask : RR (xcall xprog (d + 7 + 1) 63 [.ref 71, .int (n32 t)] (xst e L K J')) (zI e L fun V M J'' => J'' = J' ∧ (∀ o k, (o ≠ 71 ∨ ¬ (k = 1 ∨ k = 2)) → M o k = K o k) ∧ V = wayV S (n32 t) ∧ M 71 1 = (wayU S (n32 t)).getD (K 71 1)) := by
    refine RR_eq ((aX6_askWay _ e L K J' _).trans (bX6_askWay_0 _ e L K J' _)) ?_
    rw [hF.1]
    simp only [bt_t1 (jS S) (show t < 32 by omega), jS_b hw ht]
    refine RR_if (fun hj => ?_) (fun hj => ?_)
    · obtain ⟨w1, w2⟩ := wayV_j hw ht hp hj
      refine RR_I ⟨rfl, fun o k z => ?_, w1.symm, by rw [w2, xu_ee]; rfl⟩
      by_cases q : o = 71
      · subst q
        rw [xu_kne (by omega)]
      · rw [xu_rne q]
    · obtain ⟨w1, w2⟩ := wayV_f hw ht hp hj
      rw [w1, w2]
      refine RR_eq (bX6_askWay_1 _ e L K J' _) ?_
      obtain ⟨M, h1, h2, h3⟩ := xfor (fun i M => xlim (xcall xprog (d + 7)) mX6_askWay 2 [.ref 71, .int (n32 t), .int (wayF S t i).1, .int (n32 i), xD] [] (xst e L M J')) (fun i M => (∀ o k, (o ≠ 71 ∨ ¬ (k = 1 ∨ k = 2)) → M o k = K o k) ∧ M 71 1 = if (wayF S t i).1 = -1 then K 71 1 else (wayF S t i).2) (n := t) (fun i M hi ⟨g1, g2⟩ => by
        have hiB : i < sB S := by omega
        have hM : ∀ o k, o ≠ 71 → M o k = K o k := fun o k z => g1 o k (Or.inl z)
        have hC3 : CS S N M J' := CS_71 hM hC2
        have hT3 := hC3.2.1
        have jM : M 47 0 = jS S := (hM 47 0 (by decide)).trans hF.1
        have e0 := bX6_askWay_2 (xcall xprog (d + 7)) e L M J' (n32 t) (wayF S t i).1 (n32 i)
        by_cases qj : jst S i = true
        · by_cases qa : anc (par S) i t = true
          · have hF3 : Fi S M := by
              obtain ⟨h1, h2, h3, h4, h5, h6, h7, h8, h9, n, h10, h11, h12, h13⟩ := hF
              refine ⟨by rw [hM 47 0 (by decide), h1], by rw [hM 47 1 (by decide), h2], by rw [hM 47 2 (by decide), h3], by rw [hM 47 3 (by decide), h4], by rw [hM 47 4 (by decide), h5], by rw [hM 47 5 (by decide), h6], by rw [hM 47 6 (by decide), h7], fun s t z1 z2 => by rw [hM (51 + s) t (by omega), h8 s t z1 z2], fun b hb => by rw [hM 49 b (by decide), h9 b hb], n, h10, by rw [hM 47 7 (by decide), h11], fun k hk => by rw [hM 48 k (by decide), h12 k hk], by rw [hM 47 8 (by decide)]; exact h13⟩
            obtain ⟨o, o1, V, P, J2, o2, j2, p1, p2⟩ := c_fewest (d := d + 2) (e := e) (L := L) hC3 hF3 hiB ht (jst_pt hw hk qj) hp
            subst j2
            have hnd : V = ndV S i t := by
              rcases p2 with ⟨m, m1, m2, m3⟩ | ⟨m1, m2⟩
              · rw [m2, ndV_y m1]
              · rw [m2, ndV_n m1]
            have e1 : xlim (xcall xprog (d + 7)) mX6_askWay 2 [.ref 71, .int (n32 t), .int (wayF S t i).1, .int (n32 i), xD] [] (xst e L M J2) = kX6_askWay_2_22 (xcall xprog (d + 7)) 71 (n32 t) (wayF S t i).1 (n32 i) V (xst e L P J2) := by
              refine e0.trans ?_
              simp (disch := omega) only [n32_ltE, n32_leE, n32_eqE, n32_eqm, m1_eqn, n32_ge0, n32_lt0, n32_nat, n32_succ, n32_add, xin_n32, xin_b1, xin_b2, cond_true, cond_false, if_true, if_false, xcI_some, xcV_some, xcJ_some, xcR_some, xu_ee, xu_rne, xu_kne, ite_self, not_true_eq_false, not_false_eq_true, ne_eq, true_and, and_true, false_and, and_false, m1_lt0, m1_eq0, eq_self, Bool.false_eq_true, reduceCtorEq, z_lt0, i1_eq0, i0_eq1, i1_eq1, xrZ0, xrZ1, xrZt, n32_eq0, n32_eq1, n32_gt0, n32_gt1, n32_lt1, n32_le1, n32_0le, tf0, tf1, xaI_of, hi, jM, bt_t1, jS_b hw hiB, qj, c_isAhead hT3 hw (show i < 32 by omega) ht, qa, ekX6_askWay_2_17]
              rw [o1, o2]
              rfl
            rw [ekX6_askWay_2_22, hnd] at e1
            have gp : ∀ o k, (o ≠ 71 ∨ ¬ (k = 1 ∨ k = 2)) → P o k = K o k := fun o k z => (p1 o k (by omega)).trans (g1 o k z)
            have p71 : P 71 1 = M 71 1 := p1 71 1 (Or.inr (by decide))
            have upd : ∀ o k, (o ≠ 71 ∨ ¬ (k = 1 ∨ k = 2)) → xu P 71 1 (n32 i) o k = K o k := fun o k z => by
              rw [← gp o k z]
              by_cases q : o = 71
              · subst q
                rw [xu_kne (by omega)]
              · rw [xu_rne q]
            by_cases c : ndV S i t ≠ -1 ∧ ((wayF S t i).1 = -1 ∨ ndV S i t < (wayF S t i).1)
            · have ef : wayF S t (i + 1) = (ndV S i t, n32 i) := (wayF_s S t i).trans (if_pos ⟨⟨qj, qa⟩, c⟩)
              refine ⟨xu P 71 1 (n32 i), e1.trans ?_, upd, ?_⟩
              · rw [ef]
                by_cases c2 : (wayF S t i).1 = -1
                · simp (disch := omega) only [n32_ltE, n32_leE, n32_eqE, n32_eqm, m1_eqn, n32_ge0, n32_lt0, n32_nat, n32_succ, n32_add, xin_n32, xin_b1, xin_b2, cond_true, cond_false, if_true, if_false, xcI_some, xcV_some, xcJ_some, xcR_some, xu_ee, xu_rne, xu_kne, ite_self, not_true_eq_false, not_false_eq_true, ne_eq, true_and, and_true, false_and, and_false, m1_lt0, m1_eq0, eq_self, Bool.false_eq_true, reduceCtorEq, z_lt0, i1_eq0, i0_eq1, i1_eq1, xrZ0, xrZ1, xrZt, n32_eq0, n32_eq1, n32_gt0, n32_gt1, n32_lt1, n32_le1, n32_0le, tf0, tf1, xaI_of, c.1, c2, bX6_askWay_3, bX6_askWay_4]
                · have c3 : ndV S i t < (wayF S t i).1 := c.2.resolve_left c2
                  simp (disch := omega) only [n32_ltE, n32_leE, n32_eqE, n32_eqm, m1_eqn, n32_ge0, n32_lt0, n32_nat, n32_succ, n32_add, xin_n32, xin_b1, xin_b2, cond_true, cond_false, if_true, if_false, xcI_some, xcV_some, xcJ_some, xcR_some, xu_ee, xu_rne, xu_kne, ite_self, not_true_eq_false, not_false_eq_true, ne_eq, true_and, and_true, false_and, and_false, m1_lt0, m1_eq0, eq_self, Bool.false_eq_true, reduceCtorEq, z_lt0, i1_eq0, i0_eq1, i1_eq1, xrZ0, xrZ1, xrZt, n32_eq0, n32_eq1, n32_gt0, n32_gt1, n32_lt1, n32_le1, n32_0le, tf0, tf1, xaI_of, c.1, c2, c3, bX6_askWay_3, bX6_askWay_4]
              · rw [ef, xu_ee]
                exact (if_neg c.1).symm
            · have ef : wayF S t (i + 1) = wayF S t i := (wayF_s S t i).trans (if_neg (fun h => c h.2))
              refine ⟨P, e1.trans ?_, gp, ?_⟩
              · rw [ef]
                by_cases c2 : ndV S i t = -1
                · simp (disch := omega) only [n32_ltE, n32_leE, n32_eqE, n32_eqm, m1_eqn, n32_ge0, n32_lt0, n32_nat, n32_succ, n32_add, xin_n32, xin_b1, xin_b2, cond_true, cond_false, if_true, if_false, xcI_some, xcV_some, xcJ_some, xcR_some, xu_ee, xu_rne, xu_kne, ite_self, not_true_eq_false, not_false_eq_true, ne_eq, true_and, and_true, false_and, and_false, m1_lt0, m1_eq0, eq_self, Bool.false_eq_true, reduceCtorEq, z_lt0, i1_eq0, i0_eq1, i1_eq1, xrZ0, xrZ1, xrZt, n32_eq0, n32_eq1, n32_gt0, n32_gt1, n32_lt1, n32_le1, n32_0le, tf0, tf1, xaI_of, c2, bX6_askWay_4]
                · have c3 : ¬ (wayF S t i).1 = -1 := fun h => c ⟨c2, Or.inl h⟩
                  have c4 : ¬ ndV S i t < (wayF S t i).1 := fun h => c ⟨c2, Or.inr h⟩
                  simp (disch := omega) only [n32_ltE, n32_leE, n32_eqE, n32_eqm, m1_eqn, n32_ge0, n32_lt0, n32_nat, n32_succ, n32_add, xin_n32, xin_b1, xin_b2, cond_true, cond_false, if_true, if_false, xcI_some, xcV_some, xcJ_some, xcR_some, xu_ee, xu_rne, xu_kne, ite_self, not_true_eq_false, not_false_eq_true, ne_eq, true_and, and_true, false_and, and_false, m1_lt0, m1_eq0, eq_self, Bool.false_eq_true, reduceCtorEq, z_lt0, i1_eq0, i0_eq1, i1_eq1, xrZ0, xrZ1, xrZt, n32_eq0, n32_eq1, n32_gt0, n32_gt1, n32_lt1, n32_le1, n32_0le, tf0, tf1, xaI_of, c2, c3, c4, bX6_askWay_4]
              · rw [ef, p71, g2]
          · have ef : wayF S t (i + 1) = wayF S t i := (wayF_s S t i).trans (if_neg (fun h => qa h.1.2))
            refine ⟨M, e0.trans ?_, g1, by rw [ef]; exact g2⟩
            rw [ef]
            simp (disch := omega) only [n32_ltE, n32_leE, n32_eqE, n32_eqm, m1_eqn, n32_ge0, n32_lt0, n32_nat, n32_succ, n32_add, xin_n32, xin_b1, xin_b2, cond_true, cond_false, if_true, if_false, xcI_some, xcV_some, xcJ_some, xcR_some, xu_ee, xu_rne, xu_kne, ite_self, not_true_eq_false, not_false_eq_true, ne_eq, true_and, and_true, false_and, and_false, m1_lt0, m1_eq0, eq_self, Bool.false_eq_true, reduceCtorEq, z_lt0, i1_eq0, i0_eq1, i1_eq1, xrZ0, xrZ1, xrZt, n32_eq0, n32_eq1, n32_gt0, n32_gt1, n32_lt1, n32_le1, n32_0le, tf0, tf1, xaI_of, hi, jM, bt_t1, jS_b hw hiB, qj, c_isAhead hT3 hw (show i < 32 by omega) ht, qa, ekX6_askWay_2_17, bX6_askWay_4]
        · have ef : wayF S t (i + 1) = wayF S t i := (wayF_s S t i).trans (if_neg (fun h => qj h.1.1))
          refine ⟨M, e0.trans ?_, g1, by rw [ef]; exact g2⟩
          rw [ef]
          simp (disch := omega) only [n32_ltE, n32_leE, n32_eqE, n32_eqm, m1_eqn, n32_ge0, n32_lt0, n32_nat, n32_succ, n32_add, xin_n32, xin_b1, xin_b2, cond_true, cond_false, if_true, if_false, xcI_some, xcV_some, xcJ_some, xcR_some, xu_ee, xu_rne, xu_kne, ite_self, not_true_eq_false, not_false_eq_true, ne_eq, true_and, and_true, false_and, and_false, m1_lt0, m1_eq0, eq_self, Bool.false_eq_true, reduceCtorEq, z_lt0, i1_eq0, i0_eq1, i1_eq1, xrZ0, xrZ1, xrZt, n32_eq0, n32_eq1, n32_gt0, n32_gt1, n32_lt1, n32_le1, n32_0le, tf0, tf1, xaI_of, hi, jM, bt_t1, jS_b hw hiB, qj, bX6_askWay_4]) K ⟨fun _ _ _ => rfl, (if_pos rfl).symm⟩
      refine RR_eq (h1.trans (bX6_askWay_2 _ e L M J' _ _ _)) ?_
      simp (disch := omega) only [n32_ltE, n32_leE, n32_eqE, n32_eqm, m1_eqn, n32_ge0, n32_lt0, n32_nat, n32_succ, n32_add, xin_n32, xin_b1, xin_b2, cond_true, cond_false, if_true, if_false, xcI_some, xcV_some, xcJ_some, xcR_some, xu_ee, xu_rne, xu_kne, ite_self, not_true_eq_false, not_false_eq_true, ne_eq, true_and, and_true, false_and, and_false, m1_lt0, m1_eq0, eq_self, Bool.false_eq_true, reduceCtorEq, z_lt0, i1_eq0, i0_eq1, i1_eq1, xrZ0, xrZ1, xrZt, n32_eq0, n32_eq1, n32_gt0, n32_gt1, n32_lt1, n32_le1, n32_0le, tf0, tf1, xaI_of, Nat.lt_irrefl, bX6_askWay_5]
      refine RR_I ⟨rfl, h2, rfl, ?_⟩
      rw [h3]
      by_cases q : (wayF S t t).1 = -1
      · rw [if_pos q, if_pos q]
        rfl
      · rw [if_neg q, if_neg q]
        rfl
  refine RR_cI hask (fun V M J'' ⟨j2, g1, g2, g3⟩ => ?_)
  subst j2
  simp (disch := omega) only [n32_ltE, n32_leE, n32_eqE, n32_eqm, m1_eqn, n32_ge0, n32_lt0, n32_nat, n32_succ, n32_add, xin_n32, xin_b1, xin_b2, cond_true, cond_false, if_true, if_false, xcI_some, xcV_some, xcJ_some, xcR_some, xu_ee, xu_rne, xu_kne, ite_self, not_true_eq_false, not_false_eq_true, ne_eq, true_and, and_true, false_and, and_false, m1_lt0, m1_eq0, eq_self, Bool.false_eq_true, reduceCtorEq, z_lt0, i1_eq0, i0_eq1, i1_eq1, xrZ0, xrZ1, xrZt, n32_eq0, n32_eq1, n32_gt0, n32_gt1, n32_lt1, n32_le1, n32_0le, tf0, tf1, xaI_of, ekX11_way_0_11, ekX11_way_0_6, ekX11_way_0_2, bX11_way_0, bX11_way_1, bX11_way_2]
  have hM : ∀ o k, o ≠ 71 → M o k = K o k := fun o k z => g1 o k (Or.inl z)
  refine RR_I ⟨rfl, CS_71 hM hC2, fun o k z1 z2 z3 => (hM o k z3).trans (f1 o k z1 z2), (g1 71 0 (Or.inr (by decide))).trans c0, g2, ?_⟩
  rw [g3, c1]
end WA
