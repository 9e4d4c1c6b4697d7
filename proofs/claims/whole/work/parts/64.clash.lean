/-! Calls that only ask: clashes, counts. -/
def CP (S : TS) (a b : Nat) : Bool := fin S a && ptn S a b
/-- the first clash -/
def CM (S : TS) (a b : Nat) : Prop := a < b ∧ b < sB S ∧ CP S a b = true ∧ (∀ a' b', a' < a → a' < b' → b' < sB S → CP S a' b' = false) ∧ ∀ b', a < b' → b' < b → CP S a b' = false
section QC
variable {d e L : Nat} {S : TS} {N : Nat → Int64} {I K M : TI} {J : TJ} {a b s t v k i n w : Nat}
theorem CP_sym : CP S a b = CP S b a := by
  unfold CP ptn
  have e : (b == a) = (a == b) := by
    by_cases h : a = b
    · rw [h]
    · have h' : ¬ b = a := fun z => h z.symm
      rw [show (b == a) = false from beq_eq_false_iff_ne.mpr h', show (a == b) = false from beq_eq_false_iff_ne.mpr h]
  rw [e]
  cases fin S a <;> cases fin S b <;> cases anc (par S) a b <;> cases anc (par S) b a <;> simp
theorem pair_loop {β : Type} (f1 : Nat → β) (f2 : Nat → Nat → β) (R : Nat → Nat → β) (Z : β) (h1 : ∀ i, i < sB S → f1 i = f2 i (i + 1)) (h2 : ∀ i k, i < k → k < sB S → f2 i k = if CP S i k = true then R i k else f2 i (k + 1)) (h3 : ∀ i, i < sB S → f2 i (sB S) = f1 (i + 1)) (h4 : f1 (sB S) = Z) : (∃ a b, CM S a b ∧ f1 0 = R a b) ∨ ((∀ a b, a < b → b < sB S → CP S a b = false) ∧ f1 0 = Z) := by
  have inner : ∀ i, i < sB S → (∃ b, i < b ∧ b < sB S ∧ CP S i b = true ∧ (∀ b', i < b' → b' < b → CP S i b' = false) ∧ f1 i = R i b) ∨ ((∀ b, i < b → b < sB S → CP S i b = false) ∧ f1 i = f1 (i + 1)) := by
    intro i hi
    have key : ∀ m, i + 1 + m ≤ sB S → (∃ b, i < b ∧ b < sB S ∧ CP S i b = true ∧ (∀ b', i < b' → b' < b → CP S i b' = false) ∧ f1 i = R i b) ∨ ((∀ b, i < b → b < i + 1 + m → CP S i b = false) ∧ f1 i = f2 i (i + 1 + m)) := by
      intro m
      induction m with
      | zero => exact fun _ => Or.inr ⟨fun b z1 z2 => by omega, h1 i hi⟩
      | succ m ih =>
        intro hm
        rcases ih (by omega) with h | ⟨c1, c2⟩
        · exact Or.inl h
        · have e2 := h2 i (i + 1 + m) (by omega) (by omega)
          cases q : CP S i (i + 1 + m) with
          | true =>
            rw [if_pos q] at e2
            exact Or.inl ⟨i + 1 + m, by omega, by omega, q, fun b' z1 z2 => c1 b' z1 z2, c2.trans e2⟩
          | false =>
            rw [if_neg (by rw [q]; decide)] at e2
            refine Or.inr ⟨fun b z1 z2 => ?_, c2.trans e2⟩
            by_cases z : b = i + 1 + m
            · rw [z, q]
            · exact c1 b z1 (by omega)
    obtain ⟨m, hm⟩ : ∃ m, i + 1 + m = sB S := ⟨sB S - (i + 1), by omega⟩
    rcases key m (by omega) with h | ⟨c1, c2⟩
    · exact Or.inl h
    · rw [hm] at c1 c2
      exact Or.inr ⟨c1, c2.trans (h3 i hi)⟩
  have outer : ∀ m, m ≤ sB S → (∃ a b, CM S a b ∧ f1 0 = R a b) ∨ ((∀ a b, a < m → a < b → b < sB S → CP S a b = false) ∧ f1 0 = f1 m) := by
    intro m
    induction m with
    | zero => exact fun _ => Or.inr ⟨fun a b z => absurd z (Nat.not_lt_zero a), rfl⟩
    | succ m ih =>
      intro hm
      rcases ih (by omega) with h | ⟨c1, c2⟩
      · exact Or.inl h
      · rcases inner m (by omega) with ⟨b, d1, d2, d3, d4, d5⟩ | ⟨d1, d2⟩
        · exact Or.inl ⟨m, b, ⟨d1, d2, d3, fun a' b' z1 z2 z3 => c1 a' b' z1 z2 z3, d4⟩, c2.trans d5⟩
        · refine Or.inr ⟨fun a b z1 z2 z3 => ?_, c2.trans d2⟩
          by_cases z : a = m
          · subst z
            exact d1 b z2 z3
          · exact c1 a b (by omega) z2 z3
  rcases outer (sB S) (Nat.le_refl _) with h | ⟨c1, c2⟩
  · exact Or.inl h
  · exact Or.inr ⟨fun a b z1 z2 => c1 a b (by omega) z1 z2, c2.trans h4⟩
theorem CM_u {a' b' : Nat} (h : CM S a b) (h' : CM S a' b') : a = a' ∧ b = b' := by
  obtain ⟨h1, h2, h3, h4, h5⟩ := h
  obtain ⟨k1, k2, k3, k4, k5⟩ := h'
  have e1 : a = a' := by
    by_cases z : a < a'
    · rw [k4 a b z h1 h2] at h3
      cases h3
    · by_cases z2 : a' < a
      · rw [h4 a' b' z2 k1 k2] at k3
        cases k3
      · omega
  subst e1
  refine ⟨rfl, ?_⟩
  by_cases z : b < b'
  · rw [k5 b h1 z] at h3
    cases h3
  · by_cases z2 : b' < b
    · rw [h5 b' k1 z2] at k3
      cases k3
    · omega
theorem c_clashFirst (hC : CS S N I J) (hF : Fi S I) : (∃ a b, CM S a b ∧ xcall xprog (d + 3) 55 [.ref 47] (xst e L I J) = some (some (.int (n32 a)), xst e L I J) ∧ xcall xprog (d + 2) 56 [.ref 47, .int (n32 a)] (xst e L I J) = some (some (.int (n32 b)), xst e L I J)) ∨ ((∀ a b, a < b → b < sB S → CP S a b = false) ∧ xcall xprog (d + 3) 55 [.ref 47] (xst e L I J) = some (some (.int (-1)), xst e L I J)) := by
  have hw := hC.1.1
  have hT := hC.2.1
  have h20 := wf_B hw
  have e0 : xcall xprog (d + 3) 55 [.ref 47] (xst e L I J) = xlim (xcall xprog (d + 2)) mX4_clashFirst 1 [.ref 47, .int (n32 0)] [] (xst e L I J) := (aX4_clashFirst _ e L I J).trans (bX4_clashFirst_0 _ e L I J)
  rw [e0]
  have key := xfirst (fun i => xlim (xcall xprog (d + 2)) mX4_clashFirst 1 [.ref 47, .int (n32 i)] [] (xst e L I J)) (fun i => fin S i && exN (ptn S i) (sB S)) (fun i => some (some (.int (n32 i)), xst e L I J)) (Z := some (some (.int (-1)), xst e L I J)) (n := sB S) (fun i hi hp => by
    refine (bX4_clashFirst_1 _ e L I J _).trans ?_
    by_cases q1 : fin S i = true
    · rcases c_clashWith (d := d) (e := e) (L := L) hC hF hi with ⟨o, o1, o2, o3, o4⟩ | ⟨o1, o2⟩
      · simp only [q1, Bool.true_and] at hp
        have : exN (ptn S i) (sB S) = true := (exN_iff _ _).mpr ⟨o, o1, o2⟩
        rw [this] at hp
        cases hp
      · simp (disch := omega) only [n32_ltE, n32_leE, n32_eqE, n32_eqm, m1_eqn, n32_ge0, n32_lt0, n32_nat, n32_succ, n32_add, xin_n32, xin_b1, xin_b2, cond_true, cond_false, if_true, if_false, xcI_some, xcV_some, xcJ_some, xcR_some, xu_ee, xu_rne, xu_kne, ite_self, not_true_eq_false, not_false_eq_true, ne_eq, true_and, and_true, false_and, and_false, m1_lt0, m1_eq0, eq_self, Bool.false_eq_true, reduceCtorEq, z_lt0, i1_eq0, i0_eq1, i1_eq1, xrZ0, xrZ1, xrZt, n32_eq0, n32_eq1, n32_gt0, n32_gt1, n32_lt1, n32_le1, n32_0le, tf0, tf1, xaI_of, bX4_clashFirst_0, ekX4_clashFirst_1_15, bX4_clashFirst_2, bX4_clashFirst_3, t7_B hT hw, hi, hF.2.1, bt_t1, fS_b hw hi, q1, o2]
    · simp (disch := omega) only [n32_ltE, n32_leE, n32_eqE, n32_eqm, m1_eqn, n32_ge0, n32_lt0, n32_nat, n32_succ, n32_add, xin_n32, xin_b1, xin_b2, cond_true, cond_false, if_true, if_false, xcI_some, xcV_some, xcJ_some, xcR_some, xu_ee, xu_rne, xu_kne, ite_self, not_true_eq_false, not_false_eq_true, ne_eq, true_and, and_true, false_and, and_false, m1_lt0, m1_eq0, eq_self, Bool.false_eq_true, reduceCtorEq, z_lt0, i1_eq0, i0_eq1, i1_eq1, xrZ0, xrZ1, xrZt, n32_eq0, n32_eq1, n32_gt0, n32_gt1, n32_lt1, n32_le1, n32_0le, tf0, tf1, xaI_of, bX4_clashFirst_0, ekX4_clashFirst_1_15, bX4_clashFirst_2, bX4_clashFirst_3, t7_B hT hw, hi, hF.2.1, bt_t1, fS_b hw hi, q1]) (fun i hi hp => by
    refine (bX4_clashFirst_1 _ e L I J _).trans ?_
    rw [Bool.and_eq_true] at hp
    obtain ⟨q1, q2⟩ := hp
    rcases c_clashWith (d := d) (e := e) (L := L) hC hF hi with ⟨o, o1, o2, o3, o4⟩ | ⟨o1, o2⟩
    · simp (disch := omega) only [n32_ltE, n32_leE, n32_eqE, n32_eqm, m1_eqn, n32_ge0, n32_lt0, n32_nat, n32_succ, n32_add, xin_n32, xin_b1, xin_b2, cond_true, cond_false, if_true, if_false, xcI_some, xcV_some, xcJ_some, xcR_some, xu_ee, xu_rne, xu_kne, ite_self, not_true_eq_false, not_false_eq_true, ne_eq, true_and, and_true, false_and, and_false, m1_lt0, m1_eq0, eq_self, Bool.false_eq_true, reduceCtorEq, z_lt0, i1_eq0, i0_eq1, i1_eq1, xrZ0, xrZ1, xrZt, n32_eq0, n32_eq1, n32_gt0, n32_gt1, n32_lt1, n32_le1, n32_0le, tf0, tf1, xaI_of, bX4_clashFirst_0, ekX4_clashFirst_1_15, bX4_clashFirst_2, bX4_clashFirst_3, t7_B hT hw, hi, hF.2.1, bt_t1, fS_b hw hi, q1, o4]
    · rw [exN_0 _ _ o1] at q2
      cases q2) (by
    refine (bX4_clashFirst_1 _ e L I J _).trans ?_
    simp (disch := omega) only [n32_ltE, n32_leE, n32_eqE, n32_eqm, m1_eqn, n32_ge0, n32_lt0, n32_nat, n32_succ, n32_add, xin_n32, xin_b1, xin_b2, cond_true, cond_false, if_true, if_false, xcI_some, xcV_some, xcJ_some, xcR_some, xu_ee, xu_rne, xu_kne, ite_self, not_true_eq_false, not_false_eq_true, ne_eq, true_and, and_true, false_and, and_false, m1_lt0, m1_eq0, eq_self, Bool.false_eq_true, reduceCtorEq, z_lt0, i1_eq0, i0_eq1, i1_eq1, xrZ0, xrZ1, xrZt, n32_eq0, n32_eq1, n32_gt0, n32_gt1, n32_lt1, n32_le1, n32_0le, tf0, tf1, xaI_of, bX4_clashFirst_0, ekX4_clashFirst_1_15, bX4_clashFirst_2, bX4_clashFirst_3, t7_B hT hw, Nat.lt_irrefl])
  rcases key with ⟨a, k1, k2, k3, k4⟩ | ⟨k1, k2⟩
  · left
    rw [Bool.and_eq_true] at k2
    obtain ⟨q1, q2⟩ := k2
    rcases c_clashWith (d := d) (e := e) (L := L) hC hF k1 with ⟨o, o1, o2, o3, o4⟩ | ⟨o1, o2⟩
    · have hao : CP S a o = true := by unfold CP; rw [q1, o2]; rfl
      -- nothing ahead of a clashes with anything
      have none1 : ∀ j b', j < a → b' < sB S → CP S j b' = false := by
        intro j b' z1 z2
        cases q : CP S j b' with
        | false => rfl
        | true =>
          have := k3 j z1
          unfold CP at q
          rw [Bool.and_eq_true] at q
          rw [q.1, Bool.true_and] at this
          have q3 : exN (ptn S j) (sB S) = true := (exN_iff _ _).mpr ⟨b', z2, q.2⟩
          rw [q3] at this
          cases this
      have hlt : a < o := by
        by_cases z : o < a
        · have := none1 o a z k1
          rw [CP_sym, hao] at this
          cases this
        · by_cases z2 : o = a
          · subst z2
            unfold ptn at o2
            simp at o2
          · omega
      refine ⟨a, o, ⟨hlt, o1, hao, fun a' b' z1 z2 z3 => none1 a' b' z1 z3, fun b' z1 z2 => ?_⟩, k4, o4⟩
      unfold CP
      rw [o3 b' z2, Bool.and_false]
    · rw [exN_0 _ _ o1] at q2
      cases q2
  · right
    refine ⟨fun a b z1 z2 => ?_, k2⟩
    cases q : CP S a b with
    | false => rfl
    | true =>
      have := k1 a (by omega)
      unfold CP at q
      rw [Bool.and_eq_true] at q
      rw [q.1, Bool.true_and] at this
      have q3 : exN (ptn S a) (sB S) = true := (exN_iff _ _).mpr ⟨b, z2, q.2⟩
      rw [q3] at this
      cases this
theorem r_clashOf (hC : RS S I) {x : Int32} : RR (xcall xprog (d + 8) 235 [.ref 209, .int x] (xst e L I J)) (zI e L fun y K J' => J' = J ∧ lfr K I ∧ RS S K ∧ ((∃ a b, CM S a b ∧ y = if x = 0 then n32 a else n32 b) ∨ ((∀ a b, a < b → b < sB S → CP S a b = false) ∧ y = -1))) := by
  have hw := hC.1.1
  have h20 := wf_B hw
  refine RR_eq ((aX12_clashOf _ e L I J _).trans (bX12_clashOf_0 _ e L I J _)) ?_
  refine RR_cV (r_lays (d := d) hC) (fun K J' ⟨j1, f1, hF, hC2⟩ => ?_)
  subst j1
  have hS := hC2.2.1
  rw [ekX12_clashOf_0_1]
  have key := pair_loop (S := S) (fun i => xlim (xcall xprog (d + 7)) mX12_clashOf 1 [.ref 209, .int x, .int (n32 i), xD] [] (xst e L K J')) (fun i k => xlim (xcall xprog (d + 7)) mX12_clashOf 2 [.ref 209, .int x, .int (n32 i), .int (n32 k)] [] (xst e L K J')) (fun a b => some (some (.int (if x = 0 then n32 a else n32 b)), xst e L K J')) (some (some (.int (-1)), xst e L K J')) (fun i hi => by
    refine (bX12_clashOf_1 _ e L K J' _ _).trans ?_
    simp (disch := omega) only [n32_ltE, n32_leE, n32_eqE, n32_eqm, m1_eqn, n32_ge0, n32_lt0, n32_nat, n32_succ, n32_add, xin_n32, xin_b1, xin_b2, cond_true, cond_false, if_true, if_false, xcI_some, xcV_some, xcJ_some, xcR_some, xu_ee, xu_rne, xu_kne, ite_self, not_true_eq_false, not_false_eq_true, ne_eq, true_and, and_true, false_and, and_false, m1_lt0, m1_eq0, eq_self, Bool.false_eq_true, reduceCtorEq, z_lt0, i1_eq0, i0_eq1, i1_eq1, xrZ0, xrZ1, xrZt, n32_eq0, n32_eq1, n32_gt0, n32_gt1, n32_lt1, n32_le1, n32_0le, tf0, tf1, xaI_of, hS, wf_2 hw, hi]) (fun i k hi hk => by
    refine (bX12_clashOf_2 _ e L K J' _ _ _).trans ?_
    have hiB : i < sB S := by omega
    unfold CP ptn
    simp (disch := omega) only [n32_ltE, n32_leE, n32_eqE, n32_eqm, m1_eqn, n32_ge0, n32_lt0, n32_nat, n32_succ, n32_add, xin_n32, xin_b1, xin_b2, cond_true, cond_false, if_true, if_false, xcI_some, xcV_some, xcJ_some, xcR_some, xu_ee, xu_rne, xu_kne, ite_self, not_true_eq_false, not_false_eq_true, ne_eq, true_and, and_true, false_and, and_false, m1_lt0, m1_eq0, eq_self, Bool.false_eq_true, reduceCtorEq, z_lt0, i1_eq0, i0_eq1, i1_eq1, xrZ0, xrZ1, xrZt, n32_eq0, n32_eq1, n32_gt0, n32_gt1, n32_lt1, n32_le1, n32_0le, tf0, tf1, xaI_of, hS, wf_2 hw, hk, ekX12_clashOf_0_1, bX12_clashOf_0, ekX12_clashOf_2_24, ekX12_clashOf_2_19, ekX12_clashOf_2_14, ekX12_clashOf_2_9, bX12_clashOf_3, bX12_clashOf_4, bX12_clashOf_5, bX12_clashOf_6, bX12_clashOf_7, bX12_clashOf_8, sX12_bitOf, hF.2.2.1, bt_t1, fS_b hw hiB, fS_b hw hk, r_isAhead hw hF.1 (show i < 32 by omega) hk, r_isAhead hw hF.1 (show k < 32 by omega) hiB]
    have hki : ¬ k = i := by omega
    cases fin S i <;> cases fin S k <;> cases anc (par S) i k <;> cases anc (par S) k i <;> simp [hki] <;> by_cases z : x = 0 <;> simp [z]) (fun i hi => by
    refine (bX12_clashOf_2 _ e L K J' _ _ _).trans ?_
    simp (disch := omega) only [n32_ltE, n32_leE, n32_eqE, n32_eqm, m1_eqn, n32_ge0, n32_lt0, n32_nat, n32_succ, n32_add, xin_n32, xin_b1, xin_b2, cond_true, cond_false, if_true, if_false, xcI_some, xcV_some, xcJ_some, xcR_some, xu_ee, xu_rne, xu_kne, ite_self, not_true_eq_false, not_false_eq_true, ne_eq, true_and, and_true, false_and, and_false, m1_lt0, m1_eq0, eq_self, Bool.false_eq_true, reduceCtorEq, z_lt0, i1_eq0, i0_eq1, i1_eq1, xrZ0, xrZ1, xrZt, n32_eq0, n32_eq1, n32_gt0, n32_gt1, n32_lt1, n32_le1, n32_0le, tf0, tf1, xaI_of, hS, wf_2 hw, Nat.lt_irrefl, ekX12_clashOf_0_1, bX12_clashOf_0, ekX12_clashOf_2_24, ekX12_clashOf_2_19, ekX12_clashOf_2_14, ekX12_clashOf_2_9, bX12_clashOf_3, bX12_clashOf_4, bX12_clashOf_5, bX12_clashOf_6, bX12_clashOf_7, bX12_clashOf_8]) (by
    refine (bX12_clashOf_1 _ e L K J' _ _).trans ?_
    simp (disch := omega) only [n32_ltE, n32_leE, n32_eqE, n32_eqm, m1_eqn, n32_ge0, n32_lt0, n32_nat, n32_succ, n32_add, xin_n32, xin_b1, xin_b2, cond_true, cond_false, if_true, if_false, xcI_some, xcV_some, xcJ_some, xcR_some, xu_ee, xu_rne, xu_kne, ite_self, not_true_eq_false, not_false_eq_true, ne_eq, true_and, and_true, false_and, and_false, m1_lt0, m1_eq0, eq_self, Bool.false_eq_true, reduceCtorEq, z_lt0, i1_eq0, i0_eq1, i1_eq1, xrZ0, xrZ1, xrZt, n32_eq0, n32_eq1, n32_gt0, n32_gt1, n32_lt1, n32_le1, n32_0le, tf0, tf1, xaI_of, hS, wf_2 hw, Nat.lt_irrefl, ekX12_clashOf_0_1, bX12_clashOf_0, ekX12_clashOf_2_24, ekX12_clashOf_2_19, ekX12_clashOf_2_14, ekX12_clashOf_2_9, bX12_clashOf_3, bX12_clashOf_4, bX12_clashOf_5, bX12_clashOf_6, bX12_clashOf_7, bX12_clashOf_8])
  rcases key with ⟨a, b, k1, k2⟩ | ⟨k1, k2⟩
  · refine RR_eq k2 (RR_I ⟨rfl, f1, hC2, Or.inl ⟨a, b, k1, rfl⟩⟩)
  · refine RR_eq k2 (RR_I ⟨rfl, f1, hC2, Or.inr ⟨k1, rfl⟩⟩)
theorem pair_or (S : TS) : (∃ a b, CM S a b) ∨ ∀ a b, a < b → b < sB S → CP S a b = false := by
  rcases pair_loop (S := S) (fun _ => ()) (fun _ _ => ()) (fun _ _ => ()) () (fun _ _ => rfl) (fun _ _ _ _ => by split <;> rfl) (fun _ _ => rfl) rfl with ⟨a, b, h, _⟩ | ⟨h, _⟩
  · exact Or.inl ⟨a, b, h⟩
  · exact Or.inr h
theorem CM_no (h : CM S a b) (h' : ∀ a b, a < b → b < sB S → CP S a b = false) : False := by
  have := h' a b h.1 h.2.1
  rw [h.2.2.1] at this
  cases this
theorem q_clash (hW : WS S) : same S N 135 236 [] := by
  have h20 := wf_B hW.1
  rcases pair_or S with ⟨a, b, hm⟩ | hm
  · have ha : a < 20 := by have := hm.1; have := hm.2.1; omega
    refine ⟨1, fun d e L I J hC => ?_, fun d e L I J hC => ?_⟩
    · refine RR_eq ((aX11_clash _ e L I J).trans (bX11_clash_0 _ e L I J)) ?_
      refine RR_cV (c_fresh (d := d + 5) hC) (fun K J' ⟨j1, f1, hF, hC2⟩ => ?_)
      subst j1
      rw [ekX11_clash_0_2]
      rcases c_clashFirst (d := d + 8) (e := e) (L := L) hC2 hF with ⟨a', b', z1, z2, z3⟩ | ⟨z1, z2⟩
      · obtain ⟨rfl, rfl⟩ := CM_u hm z1
        rw [z2]
        simp (disch := omega) only [n32_ltE, n32_leE, n32_eqE, n32_eqm, m1_eqn, n32_ge0, n32_lt0, n32_nat, n32_succ, n32_add, xin_n32, xin_b1, xin_b2, cond_true, cond_false, if_true, if_false, xcI_some, xcV_some, xcJ_some, xcR_some, xu_ee, xu_rne, xu_kne, ite_self, not_true_eq_false, not_false_eq_true, ne_eq, true_and, and_true, false_and, and_false, m1_lt0, m1_eq0, eq_self, Bool.false_eq_true, reduceCtorEq, z_lt0, i1_eq0, i0_eq1, i1_eq1, xrZ0, xrZ1, xrZt, n32_eq0, n32_eq1, n32_gt0, n32_gt1, n32_lt1, n32_le1, n32_0le, tf0, tf1, xaI_of, ekX11_clash_0_5, ekX11_clash_0_2, bX11_clash_0, bX11_clash_1, bX11_clash_2]
        exact RR_I ⟨rfl, rfl, f1, hC2⟩
      · exact absurd z1 (fun h => CM_no hm h)
    · refine RR_eq ((aX12_clash _ e L I J).trans (bX12_clash_0 _ e L I J)) ?_
      refine RR_cI (r_clashOf (d := d + 3) (RS_0 hC)) (fun x K J' ⟨j1, f1, hC2, hx⟩ => ?_)
      subst j1
      rcases hx with ⟨a', b', z1, z2⟩ | ⟨z1, z2⟩
      · obtain ⟨rfl, rfl⟩ := CM_u hm z1
        rw [if_pos rfl] at z2
        subst z2
        simp (disch := omega) only [n32_ltE, n32_leE, n32_eqE, n32_eqm, m1_eqn, n32_ge0, n32_lt0, n32_nat, n32_succ, n32_add, xin_n32, xin_b1, xin_b2, cond_true, cond_false, if_true, if_false, xcI_some, xcV_some, xcJ_some, xcR_some, xu_ee, xu_rne, xu_kne, ite_self, not_true_eq_false, not_false_eq_true, ne_eq, true_and, and_true, false_and, and_false, m1_lt0, m1_eq0, eq_self, Bool.false_eq_true, reduceCtorEq, z_lt0, i1_eq0, i0_eq1, i1_eq1, xrZ0, xrZ1, xrZt, n32_eq0, n32_eq1, n32_gt0, n32_gt1, n32_lt1, n32_le1, n32_0le, tf0, tf1, xaI_of, ekX12_clash_0_5, bX12_clash_0, bX12_clash_1, ekX12_clash_2_0, bX12_clash_2, sX12_truth]
        exact RR_I (oR_l f1 hC2)
      · exact absurd z1 (fun h => CM_no hm h)
  · refine ⟨0, fun d e L I J hC => ?_, fun d e L I J hC => ?_⟩
    · refine RR_eq ((aX11_clash _ e L I J).trans (bX11_clash_0 _ e L I J)) ?_
      refine RR_cV (c_fresh (d := d + 5) hC) (fun K J' ⟨j1, f1, hF, hC2⟩ => ?_)
      subst j1
      rw [ekX11_clash_0_2]
      rcases c_clashFirst (d := d + 8) (e := e) (L := L) hC2 hF with ⟨a', b', z1, z2, z3⟩ | ⟨z1, z2⟩
      · exact absurd hm (fun h => CM_no z1 h)
      · rw [z2]
        simp (disch := omega) only [n32_ltE, n32_leE, n32_eqE, n32_eqm, m1_eqn, n32_ge0, n32_lt0, n32_nat, n32_succ, n32_add, xin_n32, xin_b1, xin_b2, cond_true, cond_false, if_true, if_false, xcI_some, xcV_some, xcJ_some, xcR_some, xu_ee, xu_rne, xu_kne, ite_self, not_true_eq_false, not_false_eq_true, ne_eq, true_and, and_true, false_and, and_false, m1_lt0, m1_eq0, eq_self, Bool.false_eq_true, reduceCtorEq, z_lt0, i1_eq0, i0_eq1, i1_eq1, xrZ0, xrZ1, xrZt, n32_eq0, n32_eq1, n32_gt0, n32_gt1, n32_lt1, n32_le1, n32_0le, tf0, tf1, xaI_of, ekX11_clash_0_5, ekX11_clash_0_2, bX11_clash_0, bX11_clash_1, bX11_clash_2]
        exact RR_I ⟨rfl, rfl, f1, hC2⟩
    · refine RR_eq ((aX12_clash _ e L I J).trans (bX12_clash_0 _ e L I J)) ?_
      refine RR_cI (r_clashOf (d := d + 3) (RS_0 hC)) (fun x K J' ⟨j1, f1, hC2, hx⟩ => ?_)
      subst j1
      rcases hx with ⟨a', b', z1, z2⟩ | ⟨z1, z2⟩
      · exact absurd hm (fun h => CM_no z1 h)
      · subst z2
        simp (disch := omega) only [n32_ltE, n32_leE, n32_eqE, n32_eqm, m1_eqn, n32_ge0, n32_lt0, n32_nat, n32_succ, n32_add, xin_n32, xin_b1, xin_b2, cond_true, cond_false, if_true, if_false, xcI_some, xcV_some, xcJ_some, xcR_some, xu_ee, xu_rne, xu_kne, ite_self, not_true_eq_false, not_false_eq_true, ne_eq, true_and, and_true, false_and, and_false, m1_lt0, m1_eq0, eq_self, Bool.false_eq_true, reduceCtorEq, z_lt0, i1_eq0, i0_eq1, i1_eq1, xrZ0, xrZ1, xrZt, n32_eq0, n32_eq1, n32_gt0, n32_gt1, n32_lt1, n32_le1, n32_0le, tf0, tf1, xaI_of, ekX12_clash_0_5, bX12_clash_0, bX12_clash_1, ekX12_clash_2_0, bX12_clash_2, sX12_truth]
        exact RR_I (oR_l f1 hC2)
theorem q_clashAt (hW : WS S) (x : Int32) : same S N 136 237 [.int x] := by
  have h20 := wf_B hW.1
  by_cases hx : x < 0 ∨ ¬ x ≤ 1
  · refine ⟨-1, fun d e L I J hC => ?_, fun d e L I J hC => ?_⟩
    · refine RR_eq ((aX11_clashAt _ e L I J _).trans (bX11_clashAt_0 _ e L I J _)) ?_
      refine RR_cV (c_fresh (d := d + 5) hC) (fun K J' ⟨j1, f1, hF, hC2⟩ => ?_)
      subst j1
      rw [ekX11_clashAt_0_2]
      have key : ∀ y, RR (kX11_clashAt_0_5 (xcall xprog (d + 11)) 0 x y (xst e L K J')) (zI e L (oC S N I J' (-1))) := fun y => by
        rw [ekX11_clashAt_0_5]
        refine RR_if (fun q => ?_) (fun q => ?_)
        · simp (disch := omega) only [n32_ltE, n32_leE, n32_eqE, n32_eqm, m1_eqn, n32_ge0, n32_lt0, n32_nat, n32_succ, n32_add, xin_n32, xin_b1, xin_b2, cond_true, cond_false, if_true, if_false, xcI_some, xcV_some, xcJ_some, xcR_some, xu_ee, xu_rne, xu_kne, ite_self, not_true_eq_false, not_false_eq_true, ne_eq, true_and, and_true, false_and, and_false, m1_lt0, m1_eq0, eq_self, Bool.false_eq_true, reduceCtorEq, z_lt0, i1_eq0, i0_eq1, i1_eq1, xrZ0, xrZ1, xrZt, n32_eq0, n32_eq1, n32_gt0, n32_gt1, n32_lt1, n32_le1, n32_0le, tf0, tf1, xaI_of, ekX11_clashAt_0_5, ekX11_clashAt_0_2, bX11_clashAt_0, bX11_clashAt_1, bX11_clashAt_2, ekX11_clashAt_3_3, bX11_clashAt_3, bX11_clashAt_4]
          exact RR_I ⟨rfl, rfl, f1, hC2⟩
        · rcases hx with hx | hx
          · simp (disch := omega) only [n32_ltE, n32_leE, n32_eqE, n32_eqm, m1_eqn, n32_ge0, n32_lt0, n32_nat, n32_succ, n32_add, xin_n32, xin_b1, xin_b2, cond_true, cond_false, if_true, if_false, xcI_some, xcV_some, xcJ_some, xcR_some, xu_ee, xu_rne, xu_kne, ite_self, not_true_eq_false, not_false_eq_true, ne_eq, true_and, and_true, false_and, and_false, m1_lt0, m1_eq0, eq_self, Bool.false_eq_true, reduceCtorEq, z_lt0, i1_eq0, i0_eq1, i1_eq1, xrZ0, xrZ1, xrZt, n32_eq0, n32_eq1, n32_gt0, n32_gt1, n32_lt1, n32_le1, n32_0le, tf0, tf1, xaI_of, hx, ekX11_clashAt_0_5, ekX11_clashAt_0_2, bX11_clashAt_0, bX11_clashAt_1, bX11_clashAt_2, ekX11_clashAt_3_3, bX11_clashAt_3, bX11_clashAt_4]
            exact RR_I ⟨rfl, rfl, f1, hC2⟩
          · simp (disch := omega) only [n32_ltE, n32_leE, n32_eqE, n32_eqm, m1_eqn, n32_ge0, n32_lt0, n32_nat, n32_succ, n32_add, xin_n32, xin_b1, xin_b2, cond_true, cond_false, if_true, if_false, xcI_some, xcV_some, xcJ_some, xcR_some, xu_ee, xu_rne, xu_kne, ite_self, not_true_eq_false, not_false_eq_true, ne_eq, true_and, and_true, false_and, and_false, m1_lt0, m1_eq0, eq_self, Bool.false_eq_true, reduceCtorEq, z_lt0, i1_eq0, i0_eq1, i1_eq1, xrZ0, xrZ1, xrZt, n32_eq0, n32_eq1, n32_gt0, n32_gt1, n32_lt1, n32_le1, n32_0le, tf0, tf1, xaI_of, hx, ekX11_clashAt_0_5, ekX11_clashAt_0_2, bX11_clashAt_0, bX11_clashAt_1, bX11_clashAt_2, ekX11_clashAt_3_3, bX11_clashAt_3, bX11_clashAt_4]
            exact RR_I ⟨rfl, rfl, f1, hC2⟩
      rcases c_clashFirst (d := d + 8) (e := e) (L := L) hC2 hF with ⟨a', b', z1, z2, z3⟩ | ⟨z1, z2⟩
      · rw [z2]
        exact key _
      · rw [z2]
        exact key _
    · refine RR_eq ((aX12_clashAt _ e L I J _).trans (bX12_clashAt_0 _ e L I J _)) ?_
      rcases hx with hx | hx
      · simp (disch := omega) only [n32_ltE, n32_leE, n32_eqE, n32_eqm, m1_eqn, n32_ge0, n32_lt0, n32_nat, n32_succ, n32_add, xin_n32, xin_b1, xin_b2, cond_true, cond_false, if_true, if_false, xcI_some, xcV_some, xcJ_some, xcR_some, xu_ee, xu_rne, xu_kne, ite_self, not_true_eq_false, not_false_eq_true, ne_eq, true_and, and_true, false_and, and_false, m1_lt0, m1_eq0, eq_self, Bool.false_eq_true, reduceCtorEq, z_lt0, i1_eq0, i0_eq1, i1_eq1, xrZ0, xrZ1, xrZt, n32_eq0, n32_eq1, n32_gt0, n32_gt1, n32_lt1, n32_le1, n32_0le, tf0, tf1, xaI_of, hx, sX12_isIn, ekX12_clashAt_0_10, ekX12_clashAt_0_6, bX12_clashAt_0, bX12_clashAt_1, bX12_clashAt_2]
        exact RR_I (oR_0 hC)
      · simp (disch := omega) only [n32_ltE, n32_leE, n32_eqE, n32_eqm, m1_eqn, n32_ge0, n32_lt0, n32_nat, n32_succ, n32_add, xin_n32, xin_b1, xin_b2, cond_true, cond_false, if_true, if_false, xcI_some, xcV_some, xcJ_some, xcR_some, xu_ee, xu_rne, xu_kne, ite_self, not_true_eq_false, not_false_eq_true, ne_eq, true_and, and_true, false_and, and_false, m1_lt0, m1_eq0, eq_self, Bool.false_eq_true, reduceCtorEq, z_lt0, i1_eq0, i0_eq1, i1_eq1, xrZ0, xrZ1, xrZt, n32_eq0, n32_eq1, n32_gt0, n32_gt1, n32_lt1, n32_le1, n32_0le, tf0, tf1, xaI_of, hx, sX12_isIn, ekX12_clashAt_0_10, ekX12_clashAt_0_6, bX12_clashAt_0, bX12_clashAt_1, bX12_clashAt_2]
        exact RR_I (oR_0 hC)
  have hx0 : ¬ x < 0 := fun h => hx (Or.inl h)
  have hx1 : x ≤ 1 := by
    by_cases h : x ≤ 1
    · exact h
    · exact absurd (Or.inr h) hx
  rcases pair_or S with ⟨a, b, hm⟩ | hm
  · have ha : a < 20 := by have := hm.1; have := hm.2.1; omega
    refine ⟨if x = 0 then n32 a else n32 b, fun d e L I J hC => ?_, fun d e L I J hC => ?_⟩
    · refine RR_eq ((aX11_clashAt _ e L I J _).trans (bX11_clashAt_0 _ e L I J _)) ?_
      refine RR_cV (c_fresh (d := d + 5) hC) (fun K J' ⟨j1, f1, hF, hC2⟩ => ?_)
      subst j1
      rw [ekX11_clashAt_0_2]
      rcases c_clashFirst (d := d + 8) (e := e) (L := L) hC2 hF with ⟨a', b', z1, z2, z3⟩ | ⟨z1, z2⟩
      · obtain ⟨rfl, rfl⟩ := CM_u hm z1
        have z3' : xcall xprog (d + 11) 56 [.ref 47, .int (n32 a)] (xst e L K J') = some (some (.int (n32 b)), xst e L K J') := by
          rcases c_clashFirst (d := d + 9) (e := e) (L := L) hC2 hF with ⟨a', b', y1, y2, y3⟩ | ⟨y1, y2⟩
          · obtain ⟨rfl, rfl⟩ := CM_u hm y1
            exact y3
          · exact absurd y1 (fun h => CM_no hm h)
        rw [z2]
        simp (disch := omega) only [n32_ltE, n32_leE, n32_eqE, n32_eqm, m1_eqn, n32_ge0, n32_lt0, n32_nat, n32_succ, n32_add, xin_n32, xin_b1, xin_b2, cond_true, cond_false, if_true, if_false, xcI_some, xcV_some, xcJ_some, xcR_some, xu_ee, xu_rne, xu_kne, ite_self, not_true_eq_false, not_false_eq_true, ne_eq, true_and, and_true, false_and, and_false, m1_lt0, m1_eq0, eq_self, Bool.false_eq_true, reduceCtorEq, z_lt0, i1_eq0, i0_eq1, i1_eq1, xrZ0, xrZ1, xrZt, n32_eq0, n32_eq1, n32_gt0, n32_gt1, n32_lt1, n32_le1, n32_0le, tf0, tf1, xaI_of, ekX11_clashAt_0_5, ekX11_clashAt_0_2, bX11_clashAt_0, bX11_clashAt_1, bX11_clashAt_2, ekX11_clashAt_3_3, bX11_clashAt_3, bX11_clashAt_4, hx0, hx1, z3']
        by_cases q : x = 0
        · simp only [q, if_true]
          exact RR_I ⟨rfl, rfl, f1, hC2⟩
        · simp only [q, if_false]
          exact RR_I ⟨rfl, rfl, f1, hC2⟩
      · exact absurd z1 (fun h => CM_no hm h)
    · refine RR_eq ((aX12_clashAt _ e L I J _).trans (bX12_clashAt_0 _ e L I J _)) ?_
      simp (disch := omega) only [n32_ltE, n32_leE, n32_eqE, n32_eqm, m1_eqn, n32_ge0, n32_lt0, n32_nat, n32_succ, n32_add, xin_n32, xin_b1, xin_b2, cond_true, cond_false, if_true, if_false, xcI_some, xcV_some, xcJ_some, xcR_some, xu_ee, xu_rne, xu_kne, ite_self, not_true_eq_false, not_false_eq_true, ne_eq, true_and, and_true, false_and, and_false, m1_lt0, m1_eq0, eq_self, Bool.false_eq_true, reduceCtorEq, z_lt0, i1_eq0, i0_eq1, i1_eq1, xrZ0, xrZ1, xrZt, n32_eq0, n32_eq1, n32_gt0, n32_gt1, n32_lt1, n32_le1, n32_0le, tf0, tf1, xaI_of, hx0, hx1, sX12_isIn, ekX12_clashAt_0_10, ekX12_clashAt_0_6, bX12_clashAt_0, bX12_clashAt_1, bX12_clashAt_2]
      refine RR_cI (r_clashOf (d := d + 3) (RS_0 hC)) (fun y K J' ⟨j1, f1, hC2, hy⟩ => ?_)
      subst j1
      rcases hy with ⟨a', b', z1, z2⟩ | ⟨z1, z2⟩
      · obtain ⟨rfl, rfl⟩ := CM_u hm z1
        subst z2
        simp (disch := omega) only [n32_ltE, n32_leE, n32_eqE, n32_eqm, m1_eqn, n32_ge0, n32_lt0, n32_nat, n32_succ, n32_add, xin_n32, xin_b1, xin_b2, cond_true, cond_false, if_true, if_false, xcI_some, xcV_some, xcJ_some, xcR_some, xu_ee, xu_rne, xu_kne, ite_self, not_true_eq_false, not_false_eq_true, ne_eq, true_and, and_true, false_and, and_false, m1_lt0, m1_eq0, eq_self, Bool.false_eq_true, reduceCtorEq, z_lt0, i1_eq0, i0_eq1, i1_eq1, xrZ0, xrZ1, xrZt, n32_eq0, n32_eq1, n32_gt0, n32_gt1, n32_lt1, n32_le1, n32_0le, tf0, tf1, xaI_of, ekX12_clashAt_0_10, ekX12_clashAt_0_6, bX12_clashAt_0, bX12_clashAt_1, bX12_clashAt_2]
        exact RR_I (oR_l f1 hC2)
      · exact absurd z1 (fun h => CM_no hm h)
  · refine ⟨-1, fun d e L I J hC => ?_, fun d e L I J hC => ?_⟩
    · refine RR_eq ((aX11_clashAt _ e L I J _).trans (bX11_clashAt_0 _ e L I J _)) ?_
      refine RR_cV (c_fresh (d := d + 5) hC) (fun K J' ⟨j1, f1, hF, hC2⟩ => ?_)
      subst j1
      rw [ekX11_clashAt_0_2]
      rcases c_clashFirst (d := d + 8) (e := e) (L := L) hC2 hF with ⟨a', b', z1, z2, z3⟩ | ⟨z1, z2⟩
      · exact absurd hm (fun h => CM_no z1 h)
      · rw [z2]
        simp (disch := omega) only [n32_ltE, n32_leE, n32_eqE, n32_eqm, m1_eqn, n32_ge0, n32_lt0, n32_nat, n32_succ, n32_add, xin_n32, xin_b1, xin_b2, cond_true, cond_false, if_true, if_false, xcI_some, xcV_some, xcJ_some, xcR_some, xu_ee, xu_rne, xu_kne, ite_self, not_true_eq_false, not_false_eq_true, ne_eq, true_and, and_true, false_and, and_false, m1_lt0, m1_eq0, eq_self, Bool.false_eq_true, reduceCtorEq, z_lt0, i1_eq0, i0_eq1, i1_eq1, xrZ0, xrZ1, xrZt, n32_eq0, n32_eq1, n32_gt0, n32_gt1, n32_lt1, n32_le1, n32_0le, tf0, tf1, xaI_of, ekX11_clashAt_0_5, ekX11_clashAt_0_2, bX11_clashAt_0, bX11_clashAt_1, bX11_clashAt_2, ekX11_clashAt_3_3, bX11_clashAt_3, bX11_clashAt_4]
        exact RR_I ⟨rfl, rfl, f1, hC2⟩
    · refine RR_eq ((aX12_clashAt _ e L I J _).trans (bX12_clashAt_0 _ e L I J _)) ?_
      simp (disch := omega) only [n32_ltE, n32_leE, n32_eqE, n32_eqm, m1_eqn, n32_ge0, n32_lt0, n32_nat, n32_succ, n32_add, xin_n32, xin_b1, xin_b2, cond_true, cond_false, if_true, if_false, xcI_some, xcV_some, xcJ_some, xcR_some, xu_ee, xu_rne, xu_kne, ite_self, not_true_eq_false, not_false_eq_true, ne_eq, true_and, and_true, false_and, and_false, m1_lt0, m1_eq0, eq_self, Bool.false_eq_true, reduceCtorEq, z_lt0, i1_eq0, i0_eq1, i1_eq1, xrZ0, xrZ1, xrZt, n32_eq0, n32_eq1, n32_gt0, n32_gt1, n32_lt1, n32_le1, n32_0le, tf0, tf1, xaI_of, hx0, hx1, sX12_isIn, ekX12_clashAt_0_10, ekX12_clashAt_0_6, bX12_clashAt_0, bX12_clashAt_1, bX12_clashAt_2]
      refine RR_cI (r_clashOf (d := d + 3) (RS_0 hC)) (fun y K J' ⟨j1, f1, hC2, hy⟩ => ?_)
      subst j1
      rcases hy with ⟨a', b', z1, z2⟩ | ⟨z1, z2⟩
      · exact absurd hm (fun h => CM_no z1 h)
      · subst z2
        simp (disch := omega) only [n32_ltE, n32_leE, n32_eqE, n32_eqm, m1_eqn, n32_ge0, n32_lt0, n32_nat, n32_succ, n32_add, xin_n32, xin_b1, xin_b2, cond_true, cond_false, if_true, if_false, xcI_some, xcV_some, xcJ_some, xcR_some, xu_ee, xu_rne, xu_kne, ite_self, not_true_eq_false, not_false_eq_true, ne_eq, true_and, and_true, false_and, and_false, m1_lt0, m1_eq0, eq_self, Bool.false_eq_true, reduceCtorEq, z_lt0, i1_eq0, i0_eq1, i1_eq1, xrZ0, xrZ1, xrZt, n32_eq0, n32_eq1, n32_gt0, n32_gt1, n32_lt1, n32_le1, n32_0le, tf0, tf1, xaI_of, ekX12_clashAt_0_10, ekX12_clashAt_0_6, bX12_clashAt_0, bX12_clashAt_1, bX12_clashAt_2]
        exact RR_I (oR_l f1 hC2)
end QC
