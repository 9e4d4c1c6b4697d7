/-! Votes: how they offend one another. -/
def wfK (S : TS) : Prop := sK S ≤ 48 ∧ S 3 = n32 (sK S) ∧ ∀ i, i < sK S → S (72 + i) = n32 (vo S i) ∧ vo S i < sV S ∧ S (120 + i) = n32 (so S i) ∧ so S i < sB S ∧ S (168 + i) = n32 (ta S i) ∧ ta S i < sB S ∧ pt S (so S i) = true ∧ pt S (ta S i) = true ∧ anc (par S) (so S i) (ta S i) = true
def Ac (a : Nat) (S : TS) (I : TI) : Prop := I a 0 = S 3 ∧ (∀ i, i < sK S → I (a + 1) i = S (72 + i) ∧ I (a + 2) i = S (120 + i) ∧ I (a + 3) i = S (168 + i)) ∧ ∀ v, v < sV S → I (a + 4) v = S (216 + v)
/-- how two votes of one voter offend one another -/
def ofn (S : TS) (s1 t1 s2 t2 : Nat) : Nat := if lv S t1 = lv S t2 then 1 else if (lv S s1 < lv S s2 ∧ lv S t2 < lv S t1) ∨ (lv S s2 < lv S s1 ∧ lv S t1 < lv S t2) then 2 else 0
def ofp (S : TS) (i k : Nat) : Nat := if vo S i = vo S k then ofn S (so S i) (ta S i) (so S k) (ta S k) else 0
/-- the least offence with those of v among the first n -/
def lof (S : TS) (v s t : Nat) (n : Nat) : Nat := xfold (fun i l => if vo S i = v ∧ ofn S (so S i) (ta S i) s t ≠ 0 ∧ (l = 0 ∨ ofn S (so S i) (ta S i) s t < l) then ofn S (so S i) (ta S i) s t else l) n 0
theorem ofn_le {S : TS} {a b c x : Nat} : ofn S a b c x ≤ 2 := by
  unfold ofn
  by_cases h : lv S b = lv S x
  · rw [if_pos h]; omega
  · rw [if_neg h]
    by_cases h2 : (lv S a < lv S c ∧ lv S x < lv S b) ∨ (lv S c < lv S a ∧ lv S b < lv S x)
    · rw [if_pos h2]; omega
    · rw [if_neg h2]; omega
theorem lof_s (S : TS) (v s t n : Nat) : lof S v s t (n + 1) = if vo S n = v ∧ ofn S (so S n) (ta S n) s t ≠ 0 ∧ (lof S v s t n = 0 ∨ ofn S (so S n) (ta S n) s t < lof S v s t n) then ofn S (so S n) (ta S n) s t else lof S v s t n := rfl
theorem lof_le {S : TS} {v s t n : Nat} : lof S v s t n ≤ 2 := by
  induction n with
  | zero => exact Nat.zero_le _
  | succ n ih =>
    rw [lof_s]
    have := ofn_le (S := S) (a := so S n) (b := ta S n) (c := s) (x := t)
    by_cases h : vo S n = v ∧ ofn S (so S n) (ta S n) s t ≠ 0 ∧ (lof S v s t n = 0 ∨ ofn S (so S n) (ta S n) s t < lof S v s t n)
    · rw [if_pos h]; omega
    · rw [if_neg h]; exact ih
section VT
variable {d e L : Nat} {S : TS} {N : Nat → Int64} {I : TI} {J : TJ} {a b s t v k i : Nat}
theorem k_48 (hk : wfK S) : sK S ≤ 48 := hk.1
theorem k_3 (hk : wfK S) : S 3 = n32 (sK S) := hk.2.1
theorem k_vo (hk : wfK S) (h : i < sK S) : S (72 + i) = n32 (vo S i) := (hk.2.2 i h).1
theorem k_vl (hk : wfK S) (h : i < sK S) : vo S i < sV S := (hk.2.2 i h).2.1
theorem k_so (hk : wfK S) (h : i < sK S) : S (120 + i) = n32 (so S i) := (hk.2.2 i h).2.2.1
theorem k_sl (hk : wfK S) (h : i < sK S) : so S i < sB S := (hk.2.2 i h).2.2.2.1
theorem k_ta (hk : wfK S) (h : i < sK S) : S (168 + i) = n32 (ta S i) := (hk.2.2 i h).2.2.2.2.1
theorem k_tl (hk : wfK S) (h : i < sK S) : ta S i < sB S := (hk.2.2 i h).2.2.2.2.2.1
theorem k_ps (hk : wfK S) (h : i < sK S) : pt S (so S i) = true := (hk.2.2 i h).2.2.2.2.2.2.1
theorem k_pt (hk : wfK S) (h : i < sK S) : pt S (ta S i) = true := (hk.2.2 i h).2.2.2.2.2.2.2.1
theorem k_an (hk : wfK S) (h : i < sK S) : anc (par S) (so S i) (ta S i) = true := (hk.2.2 i h).2.2.2.2.2.2.2.2
theorem a_K (hA : Ac 37 S I) (hk : wfK S) : I 37 0 = n32 (sK S) := hA.1.trans hk.2.1
theorem a_vo (hA : Ac 37 S I) (hk : wfK S) (h : i < sK S) : I 38 i = n32 (vo S i) := (hA.2.1 i h).1.trans (k_vo hk h)
theorem a_so (hA : Ac 37 S I) (hk : wfK S) (h : i < sK S) : I 39 i = n32 (so S i) := (hA.2.1 i h).2.1.trans (k_so hk h)
theorem a_ta (hA : Ac 37 S I) (hk : wfK S) (h : i < sK S) : I 40 i = n32 (ta S i) := (hA.2.1 i h).2.2.trans (k_ta hk h)
theorem a_lo (hA : Ac 37 S I) (h : v < sV S) : I 41 v = S (216 + v) := hA.2.2 v h
theorem lv_20 (hw : wfT S) (hb : b < sB S) : lv S b < 20 := by
  have h20 := wf_B hw
  have := lv_le (S := S) (b := b)
  omega
theorem c_offenceWith (hT : Tr 7 S N I J) (hw : wfT S) (hA : Ac 37 S I) (hk : wfK S) (hi : i < sK S) (hs : s < sB S) (ht : t < sB S) (ps : pt S s = true) (pq : pt S t = true) : xcall xprog (d + 1) 108 [.ref 37, .int (n32 i), .int (n32 s), .int (n32 t)] (xst e L I J) = some (some (.int (n32 (ofn S (so S i) (ta S i) s t))), xst e L I J) := by
  have h20 := wf_B hw
  have h48 := k_48 hk
  have l1 := lv_20 hw (k_sl hk hi)
  have l2 := lv_20 hw (k_tl hk hi)
  have l3 := lv_20 hw hs
  have l4 := lv_20 hw ht
  have b1 := k_sl hk hi
  have b2 := k_tl hk hi
  have n1 : (n32 i).toNatClampNeg = i := n32_nat (by omega)
  rw [sX10_offenceWith d e L I J _ _ _ (xin_n32 (by omega) (by omega)) (by rw [n1, a_so hA hk hi]; exact xin_n32 (by omega) (by omega)) (xin_n32 (by omega) (by omega)) (by rw [n1, a_ta hA hk hi]; exact xin_n32 (by omega) (by omega)) (xin_n32 (by omega) (by omega))]
  simp (disch := omega) only [n32_ltE, n32_leE, n32_eqE, n32_eqm, m1_eqn, n32_ge0, n32_lt0, n32_nat, n32_succ, n32_add, xin_n32, xin_b1, xin_b2, cond_true, cond_false, if_true, if_false, xcI_some, xcV_some, xcJ_some, xcR_some, xu_ee, xu_rne, xu_kne, ite_self, not_true_eq_false, not_false_eq_true, ne_eq, true_and, and_true, false_and, and_false, m1_lt0, m1_eq0, eq_self, Bool.false_eq_true, reduceCtorEq, z_lt0, i1_eq0, i0_eq1, i1_eq1, xrZ0, xrZ1, xrZt, n32_eq0, n32_eq1, n32_gt0, n32_gt1, n32_lt1, n32_le1, n32_0le, tf0, tf1, xaI_of, a_so hA hk hi, a_ta hA hk hi, t7_lv hT b1, t7_lv hT b2, t7_lv hT hs, t7_lv hT ht, lvc_t (k_ps hk hi), lvc_t (k_pt hk hi), lvc_t ps, lvc_t pq, n32_deq, n32_dlt, n32_dle]
  unfold ofn
  generalize lv S (so S i) = A at *
  generalize lv S (ta S i) = B at *
  generalize lv S s = C at *
  generalize lv S t = D at *
  by_cases q1 : B = D
  · simp only [q1, if_true]
    rfl
  · simp only [q1, if_false]
    by_cases q2 : A < C
    · by_cases q3 : B ≤ D
      · have q4 : ¬ ((A < C ∧ D < B) ∨ (C < A ∧ B < D)) := by omega
        rw [if_neg q4]
        have q5 : A ≤ C := by omega
        simp only [q2, q3, q5, if_true, if_false]
        rfl
      · have q4 : (A < C ∧ D < B) ∨ (C < A ∧ B < D) := by omega
        rw [if_pos q4]
        simp only [q2, q3, if_true, if_false]
        rfl
    · by_cases q3 : A ≤ C
      · have q4 : ¬ ((A < C ∧ D < B) ∨ (C < A ∧ B < D)) := by omega
        rw [if_neg q4]
        simp only [q2, q3, if_true, if_false]
        rfl
      · by_cases q5 : B < D
        · have q4 : (A < C ∧ D < B) ∨ (C < A ∧ B < D) := by omega
          rw [if_pos q4]
          simp only [q2, q3, q5, if_true, if_false]
          rfl
        · have q4 : ¬ ((A < C ∧ D < B) ∨ (C < A ∧ B < D)) := by omega
          rw [if_neg q4]
          simp only [q2, q3, q5, if_false]
          rfl
theorem c_offenceBetween (hT : Tr 7 S N I J) (hw : wfT S) (hA : Ac 37 S I) (hk : wfK S) (hi : i < sK S) (hj : k < sK S) : xcall xprog (d + 2) 109 [.ref 37, .int (n32 i), .int (n32 k)] (xst e L I J) = some (some (.int (n32 (ofp S i k))), xst e L I J) := by
  have h48 := k_48 hk
  have h8 := wf_V8 hw
  have v1 := k_vl hk hi
  have v2 := k_vl hk hj
  rw [aX10_offenceBetween, bX10_offenceBetween_0]
  simp (disch := omega) only [n32_ltE, n32_leE, n32_eqE, n32_eqm, m1_eqn, n32_ge0, n32_lt0, n32_nat, n32_succ, n32_add, xin_n32, xin_b1, xin_b2, cond_true, cond_false, if_true, if_false, xcI_some, xcV_some, xcJ_some, xcR_some, xu_ee, xu_rne, xu_kne, ite_self, not_true_eq_false, not_false_eq_true, ne_eq, true_and, and_true, false_and, and_false, m1_lt0, m1_eq0, eq_self, Bool.false_eq_true, reduceCtorEq, z_lt0, i1_eq0, i0_eq1, i1_eq1, xrZ0, xrZ1, xrZt, n32_eq0, n32_eq1, n32_gt0, n32_gt1, n32_lt1, n32_le1, n32_0le, tf0, tf1, xaI_of, ekX10_offenceBetween_0_19, bX10_offenceBetween_0, bX10_offenceBetween_1, bX10_offenceBetween_2, a_vo hA hk hi, a_vo hA hk hj, a_so hA hk hj, a_ta hA hk hj, c_offenceWith hT hw hA hk hi (k_sl hk hj) (k_tl hk hj) (k_ps hk hj) (k_pt hk hj)]
  unfold ofp
  by_cases q : vo S i = vo S k
  · simp only [q, if_true]
  · simp only [q, if_false]
    rfl
theorem c_offenceOf (hT : Tr 7 S N I J) (hw : wfT S) (hA : Ac 37 S I) (hk : wfK S) (hv : v < 8) (hs : s < sB S) (ht : t < sB S) (ps : pt S s = true) (pq : pt S t = true) : xcall xprog (d + 2) 107 [.ref 37, .int (n32 v), .int (n32 s), .int (n32 t)] (xst e L I J) = some (some (.int (n32 (lof S v s t (sK S)))), xst e L I J) := by
  have h48 := k_48 hk
  have h8 := wf_V8 hw
  refine (aX10_offenceOf _ e L I J _ _ _).trans ((bX10_offenceOf_0 _ e L I J _ _ _).trans ?_)
  obtain ⟨l, h1, h2⟩ := xfor (fun i l => xlim (xcall xprog (d + 1)) mX10_offenceOf 1 [.ref 37, .int (n32 v), .int (n32 s), .int (n32 t), .int (n32 l), .int (n32 i), xD] [] (xst e L I J)) (fun i l => l = lof S v s t i) (n := sK S) (fun i l hi hl => by
    refine ⟨lof S v s t (i + 1), ?_, rfl⟩
    refine (bX10_offenceOf_1 _ e L I J _ _ _ _ (n32 i)).trans ?_
    have v1 := k_vl hk hi
    have l2 := lof_le (S := S) (v := v) (s := s) (t := t) (n := i)
    have l3 := ofn_le (S := S) (a := so S i) (b := ta S i) (c := s) (x := t)
    simp (disch := omega) only [n32_ltE, n32_leE, n32_eqE, n32_eqm, m1_eqn, n32_ge0, n32_lt0, n32_nat, n32_succ, n32_add, xin_n32, xin_b1, xin_b2, cond_true, cond_false, if_true, if_false, xcI_some, xcV_some, xcJ_some, xcR_some, xu_ee, xu_rne, xu_kne, ite_self, not_true_eq_false, not_false_eq_true, ne_eq, true_and, and_true, false_and, and_false, m1_lt0, m1_eq0, eq_self, Bool.false_eq_true, reduceCtorEq, z_lt0, i1_eq0, i0_eq1, i1_eq1, xrZ0, xrZ1, xrZt, n32_eq0, n32_eq1, n32_gt0, n32_gt1, n32_lt1, n32_le1, n32_0le, tf0, tf1, xaI_of, bX10_offenceOf_0, ekX10_offenceOf_1_14, bX10_offenceOf_2, bX10_offenceOf_3, bX10_offenceOf_4, a_K hA hk, hi, a_vo hA hk hi, c_offenceWith hT hw hA hk hi hs ht ps pq]
    rw [lof_s]
    subst hl
    generalize ofn S (so S i) (ta S i) s t = h at *
    generalize lof S v s t i = l at *
    by_cases q1 : vo S i = v
    · by_cases q2 : h = 0
      · simp [q1, q2]
      · by_cases q3 : l = 0
        · simp [q1, q2, q3]
        · by_cases q4 : h < l
          · simp [q1, q2, q3, q4]
          · simp [q1, q2, q3, q4]
    · simp [q1]) 0 rfl
  refine h1.trans ?_
  subst h2
  refine (bX10_offenceOf_1 _ e L I J _ _ _ _ (n32 (sK S))).trans ?_
  simp (disch := omega) only [n32_ltE, n32_leE, n32_eqE, n32_eqm, m1_eqn, n32_ge0, n32_lt0, n32_nat, n32_succ, n32_add, xin_n32, xin_b1, xin_b2, cond_true, cond_false, if_true, if_false, xcI_some, xcV_some, xcJ_some, xcR_some, xu_ee, xu_rne, xu_kne, ite_self, not_true_eq_false, not_false_eq_true, ne_eq, true_and, and_true, false_and, and_false, m1_lt0, m1_eq0, eq_self, Bool.false_eq_true, reduceCtorEq, z_lt0, i1_eq0, i0_eq1, i1_eq1, xrZ0, xrZ1, xrZt, n32_eq0, n32_eq1, n32_gt0, n32_gt1, n32_lt1, n32_le1, n32_0le, tf0, tf1, xaI_of, bX10_offenceOf_0, ekX10_offenceOf_1_14, bX10_offenceOf_2, bX10_offenceOf_3, bX10_offenceOf_4, a_K hA hk, Nat.lt_irrefl]
theorem c_votesOf (hA : Ac 37 S I) (hk : wfK S) (hw : wfT S) (hv : v < 8) : xcall xprog (d + 1) 103 [.ref 37, .int (n32 v)] (xst e L I J) = some (some (.int (n32 (cntN (fun i => vo S i == v) (sK S)))), xst e L I J) := by
  have h48 := k_48 hk
  have h8 := wf_V8 hw
  refine (aX10_votesOf _ e L I J _).trans ((bX10_votesOf_0 _ e L I J _).trans ?_)
  obtain ⟨l, h1, h2⟩ := xfor (fun i l => xlim (xcall xprog d) mX10_votesOf 1 [.ref 37, .int (n32 v), .int (n32 l), .int (n32 i)] [] (xst e L I J)) (fun i l => l = cntN (fun i => vo S i == v) i) (n := sK S) (fun i l hi hl => by
    refine ⟨cntN (fun i => vo S i == v) (i + 1), ?_, rfl⟩
    refine (bX10_votesOf_1 _ e L I J _ _ (n32 i)).trans ?_
    have v1 := k_vl hk hi
    simp (disch := omega) only [n32_ltE, n32_leE, n32_eqE, n32_eqm, m1_eqn, n32_ge0, n32_lt0, n32_nat, n32_succ, n32_add, xin_n32, xin_b1, xin_b2, cond_true, cond_false, if_true, if_false, xcI_some, xcV_some, xcJ_some, xcR_some, xu_ee, xu_rne, xu_kne, ite_self, not_true_eq_false, not_false_eq_true, ne_eq, true_and, and_true, false_and, and_false, m1_lt0, m1_eq0, eq_self, Bool.false_eq_true, reduceCtorEq, z_lt0, i1_eq0, i0_eq1, i1_eq1, xrZ0, xrZ1, xrZt, n32_eq0, n32_eq1, n32_gt0, n32_gt1, n32_lt1, n32_le1, n32_0le, tf0, tf1, xaI_of, bX10_votesOf_0, bX10_votesOf_2, bX10_votesOf_3, a_K hA hk, hi, a_vo hA hk hi]
    subst hl
    rw [cntN_s]
    by_cases q : vo S i = v
    · simp [q]
    · simp [q]) 0 rfl
  refine h1.trans ?_
  subst h2
  refine (bX10_votesOf_1 _ e L I J _ _ (n32 (sK S))).trans ?_
  simp (disch := omega) only [n32_ltE, n32_leE, n32_eqE, n32_eqm, m1_eqn, n32_ge0, n32_lt0, n32_nat, n32_succ, n32_add, xin_n32, xin_b1, xin_b2, cond_true, cond_false, if_true, if_false, xcI_some, xcV_some, xcJ_some, xcR_some, xu_ee, xu_rne, xu_kne, ite_self, not_true_eq_false, not_false_eq_true, ne_eq, true_and, and_true, false_and, and_false, m1_lt0, m1_eq0, eq_self, Bool.false_eq_true, reduceCtorEq, z_lt0, i1_eq0, i0_eq1, i1_eq1, xrZ0, xrZ1, xrZt, n32_eq0, n32_eq1, n32_gt0, n32_gt1, n32_lt1, n32_le1, n32_0le, tf0, tf1, xaI_of, bX10_votesOf_0, bX10_votesOf_2, bX10_votesOf_3, a_K hA hk, Nat.lt_irrefl]
/-- whether some i below n has p -/
def exN (p : Nat → Bool) : Nat → Bool
  | 0 => false
  | n + 1 => exN p n || p n
theorem exN_iff (p : Nat → Bool) : ∀ n, exN p n = true ↔ ∃ i, i < n ∧ p i = true
  | 0 => by
    constructor
    · intro h; cases h
    · rintro ⟨i, h, _⟩; omega
  | n + 1 => by
    show (exN p n || p n) = true ↔ _
    rw [Bool.or_eq_true, exN_iff p n]
    constructor
    · rintro (⟨i, h, q⟩ | h)
      · exact ⟨i, by omega, q⟩
      · exact ⟨n, by omega, h⟩
    · rintro ⟨i, h, q⟩
      by_cases e : i = n
      · subst e; exact Or.inr q
      · exact Or.inl ⟨i, by omega, q⟩
def hld (S : TS) (v s t : Nat) : Bool := exN (fun i => vo S i == v && so S i == s && ta S i == t) (sK S)
theorem c_holds (hA : Ac 37 S I) (hk : wfK S) (hw : wfT S) (hv : v < 8) (hs : s < 20) (ht : t < 20) : xcall xprog (d + 1) 104 [.ref 37, .int (n32 v), .int (n32 s), .int (n32 t)] (xst e L I J) = some (some (.int (if hld S v s t = true then 1 else 0)), xst e L I J) := by
  have h48 := k_48 hk
  have h8 := wf_V8 hw
  have h20 := wf_B hw
  refine (aX10_holds _ e L I J _ _ _).trans ((bX10_holds_0 _ e L I J _ _ _).trans ?_)
  have key := xforx (fun i (_ : Unit) => xlim (xcall xprog d) mX10_holds 1 [.ref 37, .int (n32 v), .int (n32 s), .int (n32 t), .int (n32 i)] [] (xst e L I J)) (fun i _ => exN (fun i => vo S i == v && so S i == s && ta S i == t) i = false) (fun r => r = some (some (.int 1), xst e L I J) ∧ hld S v s t = true) (n := sK S) (fun i l hi hl => by
    have v1 := k_vl hk hi
    have s1 := k_sl hk hi
    have t1 := k_tl hk hi
    have e1 := bX10_holds_1 (xcall xprog d) e L I J (n32 v) (n32 s) (n32 t) (n32 i)
    by_cases q : vo S i = v ∧ so S i = s ∧ ta S i = t
    · right
      refine ⟨e1.trans ?_, (exN_iff _ _).mpr ⟨i, hi, by simp [q]⟩⟩
      simp (disch := omega) only [n32_ltE, n32_leE, n32_eqE, n32_eqm, m1_eqn, n32_ge0, n32_lt0, n32_nat, n32_succ, n32_add, xin_n32, xin_b1, xin_b2, cond_true, cond_false, if_true, if_false, xcI_some, xcV_some, xcJ_some, xcR_some, xu_ee, xu_rne, xu_kne, ite_self, not_true_eq_false, not_false_eq_true, ne_eq, true_and, and_true, false_and, and_false, m1_lt0, m1_eq0, eq_self, Bool.false_eq_true, reduceCtorEq, z_lt0, i1_eq0, i0_eq1, i1_eq1, xrZ0, xrZ1, xrZt, n32_eq0, n32_eq1, n32_gt0, n32_gt1, n32_lt1, n32_le1, n32_0le, tf0, tf1, xaI_of, bX10_holds_0, bX10_holds_2, bX10_holds_3, a_K hA hk, hi, a_vo hA hk hi, a_so hA hk hi, a_ta hA hk hi, q.1, q.2.1, q.2.2]
    · left
      refine ⟨(), e1.trans ?_, ?_⟩
      · simp (disch := omega) only [n32_ltE, n32_leE, n32_eqE, n32_eqm, m1_eqn, n32_ge0, n32_lt0, n32_nat, n32_succ, n32_add, xin_n32, xin_b1, xin_b2, cond_true, cond_false, if_true, if_false, xcI_some, xcV_some, xcJ_some, xcR_some, xu_ee, xu_rne, xu_kne, ite_self, not_true_eq_false, not_false_eq_true, ne_eq, true_and, and_true, false_and, and_false, m1_lt0, m1_eq0, eq_self, Bool.false_eq_true, reduceCtorEq, z_lt0, i1_eq0, i0_eq1, i1_eq1, xrZ0, xrZ1, xrZt, n32_eq0, n32_eq1, n32_gt0, n32_gt1, n32_lt1, n32_le1, n32_0le, tf0, tf1, xaI_of, bX10_holds_0, bX10_holds_2, bX10_holds_3, a_K hA hk, hi, a_vo hA hk hi, a_so hA hk hi, a_ta hA hk hi]
        by_cases q1 : vo S i = v
        · by_cases q2 : so S i = s
          · have q3 : ¬ ta S i = t := fun h => q ⟨q1, q2, h⟩
            simp only [q1, q2, q3, if_true, if_false]
          · simp only [q1, q2, if_true, if_false]
        · simp only [q1, if_false]
      · show (exN _ i || _) = false
        rw [hl]
        by_cases q1 : vo S i = v
        · by_cases q2 : so S i = s
          · have q3 : ¬ ta S i = t := fun h => q ⟨q1, q2, h⟩
            simp [q3]
          · simp [q2]
        · simp [q1]) () rfl
  rcases key with ⟨_, h1, h2⟩ | ⟨h1, h2⟩
  · refine h1.trans ((bX10_holds_1 _ e L I J _ _ _ (n32 (sK S))).trans ?_)
    have h3 : hld S v s t = false := h2
    simp (disch := omega) only [n32_ltE, n32_leE, n32_eqE, n32_eqm, m1_eqn, n32_ge0, n32_lt0, n32_nat, n32_succ, n32_add, xin_n32, xin_b1, xin_b2, cond_true, cond_false, if_true, if_false, xcI_some, xcV_some, xcJ_some, xcR_some, xu_ee, xu_rne, xu_kne, ite_self, not_true_eq_false, not_false_eq_true, ne_eq, true_and, and_true, false_and, and_false, m1_lt0, m1_eq0, eq_self, Bool.false_eq_true, reduceCtorEq, z_lt0, i1_eq0, i0_eq1, i1_eq1, xrZ0, xrZ1, xrZt, n32_eq0, n32_eq1, n32_gt0, n32_gt1, n32_lt1, n32_le1, n32_0le, tf0, tf1, xaI_of, bX10_holds_0, bX10_holds_2, bX10_holds_3, a_K hA hk, Nat.lt_irrefl, h3]
  · rw [h2]
    exact h1
/-- why a vote is not given -/
def why (S : TS) (v s t : Nat) : Nat := if (pt S s && pt S t) = true then (if anc (par S) s t = true then (if hld S v s t = true then 3 else if sK S < 48 then 0 else 4) else 2) else 1
theorem c_whyNotVote (hT : Tr 7 S N I J) (hw : wfT S) (hA : Ac 37 S I) (hk : wfK S) (hv : v < 8) (hs : s < sB S) (ht : t < sB S) : xcall xprog (d + 3) 105 [.ref 37, .int (n32 v), .int (n32 s), .int (n32 t)] (xst e L I J) = some (some (.int (n32 (why S v s t))), xst e L I J) := by
  have h48 := k_48 hk
  have h20 := wf_B hw
  rw [aX10_whyNotVote, bX10_whyNotVote_0, c_isPoint_y hT hw hs]
  simp (disch := omega) only [n32_ltE, n32_leE, n32_eqE, n32_eqm, m1_eqn, n32_ge0, n32_lt0, n32_nat, n32_succ, n32_add, xin_n32, xin_b1, xin_b2, cond_true, cond_false, if_true, if_false, xcI_some, xcV_some, xcJ_some, xcR_some, xu_ee, xu_rne, xu_kne, ite_self, not_true_eq_false, not_false_eq_true, ne_eq, true_and, and_true, false_and, and_false, m1_lt0, m1_eq0, eq_self, Bool.false_eq_true, reduceCtorEq, z_lt0, i1_eq0, i0_eq1, i1_eq1, xrZ0, xrZ1, xrZt, n32_eq0, n32_eq1, n32_gt0, n32_gt1, n32_lt1, n32_le1, n32_0le, tf0, tf1, xaI_of, q48a, q48b, q48m, q48l, q48g, q48r, q48s, q48e, ekX10_whyNotVote_0_8, ekX10_whyNotVote_0_3, bX10_whyNotVote_0, bX10_whyNotVote_1, ekX10_whyNotVote_2_4, bX10_whyNotVote_2, ekX10_whyNotVote_3_4, bX10_whyNotVote_3, bX10_whyNotVote_4, bX10_whyNotVote_5, bX10_whyNotVote_6, c_isPoint_y hT hw ht, c_isAhead hT hw (show s < 32 by omega) ht, c_holds hA hk hw hv (show s < 20 by omega) (show t < 20 by omega), a_K hA hk]
  unfold why
  cases pt S s <;> cases pt S t <;> cases anc (par S) s t <;> cases hld S v s t <;> by_cases q : sK S < 48 <;> simp [q] <;> rfl
end VT
