/-! Offenders, pairs, links: the class's two methods and the reference's one. -/
def gp (S : TS) (i k : Nat) : Nat := if i < k ∧ ofp S i k ≠ 0 then 1 else 0
def ob (S : TS) (v i k : Nat) : Bool := decide (i < k) && (decide (ofp S i k ≠ 0) && decide (vo S i = v))
def prS (S : TS) : Nat := sumN (fun i => sumN (fun k => gp S i k) (sK S)) (sK S)
def ofd (S : TS) (v : Nat) : Bool := exN (fun i => exN (fun k => ob S v i k) (sK S)) (sK S)
def ofS (S : TS) : Int32 := bs (ofd S) 8
/-- the voters of a link, after n votes; how many links were voted for -/
def mkN (S : TS) (n s t : Nat) : Int32 := xfold (fun i a => if so S i = s ∧ ta S i = t then a ||| (1 <<< (n32 (vo S i) &&& 31)) else a) n 0
def lnN (S : TS) (n : Nat) : Nat := xfold (fun i c => if mkN S i (so S i) (ta S i) = 0 then c + 1 else c) n 0
def mk (S : TS) (s t : Nat) : Int32 := mkN S (sK S) s t
theorem mkN_s (S : TS) (n s t : Nat) : mkN S (n + 1) s t = if so S n = s ∧ ta S n = t then mkN S n s t ||| (1 <<< (n32 (vo S n) &&& 31)) else mkN S n s t := rfl
theorem lnN_s (S : TS) (n : Nat) : lnN S (n + 1) = if mkN S n (so S n) (ta S n) = 0 then lnN S n + 1 else lnN S n := rfl
theorem exN_s (p : Nat → Bool) (n : Nat) : exN p (n + 1) = (exN p n || p n) := rfl
theorem exN_0 (p : Nat → Bool) (n : Nat) (h : ∀ i, i < n → p i = false) : exN p n = false := by
  cases q : exN p n with
  | false => rfl
  | true =>
    obtain ⟨i, h1, h2⟩ := (exN_iff p n).mp q
    rw [h i h1] at h2
    cases h2
theorem Tr_c {t : Nat} {S : TS} {N : Nat → Int64} {I K : TI} {J : TJ} (h : ∀ o k, t ≤ o → o < t + 30 → K o k = I o k) (hw : wfT S) (hT : Tr t S N I J) : Tr t S N K J := by
  have h20 := wf_B hw
  obtain ⟨h0, h1, h2, h3, h4⟩ := hT
  refine ⟨(h t 0 (by omega) (by omega)).trans h0, (h t 1 (by omega) (by omega)).trans h1, (h t 2 (by omega) (by omega)).trans h2, fun v hv => ⟨(h3 v hv).1, (h (t + 2) v (by omega) (by omega)).trans (h3 v hv).2⟩, fun b hb => ?_⟩
  obtain ⟨q1, q2, q3, q4, q5, q6, q7⟩ := h4 b hb
  exact ⟨q1, (h (t + 4) b (by omega) (by omega)).trans q2, (h (t + 5) b (by omega) (by omega)).trans q3, (h (t + 6) b (by omega) (by omega)).trans q4, (h (t + 7) b (by omega) (by omega)).trans q5, (h (t + 8) b (by omega) (by omega)).trans q6, fun v hv => (h (t + 10 + b) v (by omega) (by omega)).trans (q7 v hv)⟩
theorem Ac_c {a : Nat} {S : TS} {I K : TI} (h : ∀ o k, a ≤ o → o < a + 5 → K o k = I o k) (hA : Ac a S I) : Ac a S K :=
  ⟨(h a 0 (by omega) (by omega)).trans hA.1, fun i hi => ⟨(h (a + 1) i (by omega) (by omega)).trans (hA.2.1 i hi).1, (h (a + 2) i (by omega) (by omega)).trans (hA.2.1 i hi).2.1, (h (a + 3) i (by omega) (by omega)).trans (hA.2.1 i hi).2.2⟩, fun v hv => (h (a + 4) v (by omega) (by omega)).trans (hA.2.2 v hv)⟩
section OF
variable {d e L : Nat} {S : TS} {N : Nat → Int64} {I : TI} {J : TJ} {a b s t v k i : Nat}
theorem ob_vo (hk : wfK S) (hw : wfT S) (hi : i < sK S) (h : ob S v i k = true) : v < 8 := by
  have h8 := wf_V8 hw
  have := k_vl hk hi
  unfold ob at h
  simp only [Bool.and_eq_true, decide_eq_true_eq] at h
  omega
theorem ofS_of (hk : wfK S) (hw : wfT S) {x : Int32} (h : ∀ v, v < 32 → bt x v = ofd S v) : x = ofS S := by
  apply bt_ext
  intro v hv
  unfold ofS
  rw [h v hv, bt_bs _ hv 8 (by omega)]
  by_cases h8 : v < 8
  · simp [h8]
  · have : ofd S v = false := by
      unfold ofd
      refine exN_0 _ _ (fun i hi => exN_0 _ _ (fun k hk2 => ?_))
      cases q : ob S v i k with
      | false => rfl
      | true => exact absurd (ob_vo hk hw hi q) h8
    simp [h8, this]
theorem c_findOffenders (hT : Tr 7 S N I J) (hw : wfT S) (hA : Ac 37 S I) (hk : wfK S) : RR (xcall xprog (d + 3) 45 [.ref 47] (xst e L I J)) (zV e L fun K J' => J' = J ∧ (∀ o k, (o ≠ 47 ∨ (k ≠ 2 ∧ k ≠ 3)) → K o k = I o k) ∧ K 47 2 = ofS S ∧ K 47 3 = n32 (prS S)) := by
  have h48 := k_48 hk
  have h8 := wf_V8 hw
  refine RR_eq ((aX4_findOffenders _ e L I J).trans (bX4_findOffenders_0 _ e L I J)) ?_
  obtain ⟨K, h1, h2, h3, h4⟩ := xfor (fun i K => xlim (xcall xprog (d + 2)) mX4_findOffenders 1 [.ref 47, .int (n32 i), xD] [] (xst e L K J))
    (fun i K => (∀ o k, (o ≠ 47 ∨ (k ≠ 2 ∧ k ≠ 3)) → K o k = I o k) ∧ (∀ v, v < 32 → bt (K 47 2) v = exN (fun i => exN (fun k => ob S v i k) (sK S)) i) ∧ K 47 3 = n32 (sumN (fun i => sumN (fun k => gp S i k) (sK S)) i)) (n := sK S) (fun i K hi ⟨g1, g2, g3⟩ => by
      have hT' : Tr 7 S N K J := Tr_c (fun o k q1 q2 => g1 o k (Or.inl (by omega))) hw hT
      obtain ⟨m, hm⟩ : ∃ m, i + 1 + m = sK S := ⟨sK S - (i + 1), by omega⟩
      obtain ⟨K', e1, e2, e3, e4⟩ := xfor (fun j K' => xlim (xcall xprog (d + 2)) mX4_findOffenders 2 [.ref 47, .int (n32 i), .int (n32 (i + 1 + j))] [] (xst e L K' J))
        (fun j K' => (∀ o k, (o ≠ 47 ∨ (k ≠ 2 ∧ k ≠ 3)) → K' o k = I o k) ∧ (∀ v, v < 32 → bt (K' 47 2) v = (exN (fun i => exN (fun k => ob S v i k) (sK S)) i || exN (fun k => ob S v i k) (i + 1 + j))) ∧ K' 47 3 = n32 (sumN (fun i => sumN (fun k => gp S i k) (sK S)) i + sumN (fun k => gp S i k) (i + 1 + j))) (n := m) (fun j K' hj ⟨f1, f2, f3⟩ => by
          have hT2 : Tr 7 S N K' J := Tr_c (fun o k q1 q2 => f1 o k (Or.inl (by omega))) hw hT
          have hA2 : Ac 37 S K' := Ac_c (fun o k q1 q2 => f1 o k (Or.inl (by omega))) hA
          have hlt : i + 1 + j < sK S := by omega
          have hv1 := k_vl hk hi
          have hof : ofp S i (i + 1 + j) < 2147483648 := by
            unfold ofp
            have := ofn_le (S := S) (a := so S i) (b := ta S i) (c := so S (i + 1 + j)) (x := ta S (i + 1 + j))
            by_cases q : vo S i = vo S (i + 1 + j)
            · rw [if_pos q]; omega
            · rw [if_neg q]; omega
          have e0 := bX4_findOffenders_2 (xcall xprog (d + 2)) e L K' J (n32 i) (n32 (i + 1 + j))
          by_cases q : ofp S i (i + 1 + j) = 0
          · refine ⟨K', e0.trans ?_, f1, ?_, ?_⟩
            · simp (disch := omega) only [n32_ltE, n32_leE, n32_eqE, n32_eqm, m1_eqn, n32_ge0, n32_lt0, n32_nat, n32_succ, n32_add, xin_n32, xin_b1, xin_b2, cond_true, cond_false, if_true, if_false, xcI_some, xcV_some, xcJ_some, xcR_some, xu_ee, xu_rne, xu_kne, ite_self, not_true_eq_false, not_false_eq_true, ne_eq, true_and, and_true, false_and, and_false, m1_lt0, m1_eq0, eq_self, Bool.false_eq_true, reduceCtorEq, z_lt0, i1_eq0, i0_eq1, i1_eq1, xrZ0, xrZ1, xrZt, n32_eq0, n32_eq1, n32_gt0, n32_gt1, n32_lt1, n32_le1, n32_0le, tf0, tf1, xaI_of, bX4_findOffenders_0, ekX4_findOffenders_2_9, bX4_findOffenders_3, bX4_findOffenders_4, bX4_findOffenders_5, a_K hA2 hk, hlt, c_offenceBetween hT2 hw hA2 hk hi hlt, q]
              rfl
            · intro v hv
              rw [f2 v hv, show i + 1 + (j + 1) = i + 1 + j + 1 from rfl, exN_s]
              simp [ob, q]
            · rw [f3, show i + 1 + (j + 1) = i + 1 + j + 1 from rfl, sumN_s]
              simp [gp, q]
          · refine ⟨xu (xu K' 47 2 (K' 47 2 ||| (1 <<< (n32 (vo S i) &&& 31)))) 47 3 (K' 47 3 + 1), e0.trans ?_, ?_, ?_, ?_⟩
            · simp (disch := omega) only [n32_ltE, n32_leE, n32_eqE, n32_eqm, m1_eqn, n32_ge0, n32_lt0, n32_nat, n32_succ, n32_add, xin_n32, xin_b1, xin_b2, cond_true, cond_false, if_true, if_false, xcI_some, xcV_some, xcJ_some, xcR_some, xu_ee, xu_rne, xu_kne, ite_self, not_true_eq_false, not_false_eq_true, ne_eq, true_and, and_true, false_and, and_false, m1_lt0, m1_eq0, eq_self, Bool.false_eq_true, reduceCtorEq, z_lt0, i1_eq0, i0_eq1, i1_eq1, xrZ0, xrZ1, xrZt, n32_eq0, n32_eq1, n32_gt0, n32_gt1, n32_lt1, n32_le1, n32_0le, tf0, tf1, xaI_of, bX4_findOffenders_0, ekX4_findOffenders_2_9, bX4_findOffenders_3, bX4_findOffenders_4, bX4_findOffenders_5, a_K hA2 hk, hlt, c_offenceBetween hT2 hw hA2 hk hi hlt, q, a_vo hA2 hk hi]
              rfl
            · intro o k h
              rw [← f1 o k h]
              rcases h with h | ⟨z1, z2⟩
              · rw [xu_rne h, xu_rne h]
              · by_cases h : o = 47
                · subst h
                  rw [xu_kne z2, xu_kne z1]
                · rw [xu_rne h, xu_rne h]
            · intro v hv
              rw [xu_kne (by decide), xu_ee, bt_set _ (by omega) hv, f2 v hv, show i + 1 + (j + 1) = i + 1 + j + 1 from rfl, exN_s, Bool.or_assoc]
              have : ob S v i (i + 1 + j) = decide (v = vo S i) := by
                unfold ob
                by_cases z : v = vo S i
                · simp [q, z]
                  omega
                · have z' : ¬ vo S i = v := fun h => z h.symm
                  simp [z, z']
              rw [this]
            · rw [xu_ee, f3, show i + 1 + (j + 1) = i + 1 + j + 1 from rfl, sumN_s, n32_succ]
              have : gp S i (i + 1 + j) = 1 := by
                unfold gp
                rw [if_pos ⟨by omega, q⟩]
              rw [this, Nat.add_assoc]) K ⟨g1, fun v hv => by
          rw [g2 v hv, exN_0 (fun k => ob S v i k) (i + 1 + 0) (fun k hk2 => by unfold ob; simp; omega), Bool.or_false], by
          rw [g3, sumN_tl (f := fun k => gp S i k) (a := 0) (b := i + 1 + 0) (Nat.zero_le _) (fun k _ hk2 => by unfold gp; rw [if_neg (by omega)])]
          rfl⟩
      refine ⟨K', ?_, e2, ?_, ?_⟩
      · refine (bX4_findOffenders_1 _ e L K J (n32 i)).trans ?_
        have hA1 : Ac 37 S K := Ac_c (fun o k q1 q2 => g1 o k (Or.inl (by omega))) hA
        have hA3 : Ac 37 S K' := Ac_c (fun o k q1 q2 => e2 o k (Or.inl (by omega))) hA
        rw [a_K hA1 hk, if_pos ((n32_lt (by omega) (by omega)).mpr hi), n32_succ]
        refine e1.trans ?_
        refine (bX4_findOffenders_2 _ e L K' J _ _).trans ?_
        rw [hm]
        simp (disch := omega) only [n32_ltE, n32_leE, n32_eqE, n32_eqm, m1_eqn, n32_ge0, n32_lt0, n32_nat, n32_succ, n32_add, xin_n32, xin_b1, xin_b2, cond_true, cond_false, if_true, if_false, xcI_some, xcV_some, xcJ_some, xcR_some, xu_ee, xu_rne, xu_kne, ite_self, not_true_eq_false, not_false_eq_true, ne_eq, true_and, and_true, false_and, and_false, m1_lt0, m1_eq0, eq_self, Bool.false_eq_true, reduceCtorEq, z_lt0, i1_eq0, i0_eq1, i1_eq1, xrZ0, xrZ1, xrZt, n32_eq0, n32_eq1, n32_gt0, n32_gt1, n32_lt1, n32_le1, n32_0le, tf0, tf1, xaI_of, bX4_findOffenders_0, ekX4_findOffenders_2_9, bX4_findOffenders_3, bX4_findOffenders_4, bX4_findOffenders_5, a_K hA3 hk, Nat.lt_irrefl]
      · intro v hv
        rw [exN_s, e3 v hv, hm]
      · rw [sumN_s, e4, hm]) (xu (xu I 47 2 0) 47 3 0) ⟨fun o k h => by
        rcases h with h | ⟨z1, z2⟩
        · rw [xu_rne h, xu_rne h]
        · by_cases h : o = 47
          · subst h
            rw [xu_kne z2, xu_kne z1]
          · rw [xu_rne h, xu_rne h], fun v hv => by
        rw [xu_kne (by decide), xu_ee, bt_zero]
        rfl, by
        rw [xu_ee]
        rfl⟩
  refine RR_eq h1 (RR_eq (bX4_findOffenders_1 _ e L K J _) ?_)
  have hA1 : Ac 37 S K := Ac_c (fun o k q1 q2 => h2 o k (Or.inl (by omega))) hA
  simp (disch := omega) only [n32_ltE, n32_leE, n32_eqE, n32_eqm, m1_eqn, n32_ge0, n32_lt0, n32_nat, n32_succ, n32_add, xin_n32, xin_b1, xin_b2, cond_true, cond_false, if_true, if_false, xcI_some, xcV_some, xcJ_some, xcR_some, xu_ee, xu_rne, xu_kne, ite_self, not_true_eq_false, not_false_eq_true, ne_eq, true_and, and_true, false_and, and_false, m1_lt0, m1_eq0, eq_self, Bool.false_eq_true, reduceCtorEq, z_lt0, i1_eq0, i0_eq1, i1_eq1, xrZ0, xrZ1, xrZt, n32_eq0, n32_eq1, n32_gt0, n32_gt1, n32_lt1, n32_le1, n32_0le, tf0, tf1, xaI_of, bX4_findOffenders_0, ekX4_findOffenders_2_9, bX4_findOffenders_3, bX4_findOffenders_4, bX4_findOffenders_5, a_K hA1 hk, Nat.lt_irrefl]
  exact RR_V ⟨rfl, h2, ofS_of hk hw h3, h4⟩
end OF
