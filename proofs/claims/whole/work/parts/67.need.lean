/-! What a link needs. -/
def bcE (v : Int32) : Int32 :=
  (fun a => (fun b => (fun c => (fun f => (fun g => g &&& 63) (f + (Int32.toUInt32 f >>> (Int32.toUInt32 16 &&& Int32.toUInt32 31)).toInt32)) (c + (Int32.toUInt32 c >>> (Int32.toUInt32 8 &&& Int32.toUInt32 31)).toInt32)) ((b + (Int32.toUInt32 b >>> (Int32.toUInt32 4 &&& Int32.toUInt32 31)).toInt32) &&& 252645135)) ((a &&& 858993459) + ((Int32.toUInt32 a >>> (Int32.toUInt32 2 &&& Int32.toUInt32 31)).toInt32 &&& 858993459))) (v - ((Int32.toUInt32 v >>> (Int32.toUInt32 1 &&& Int32.toUInt32 31)).toInt32 &&& 1431655765))
/-- how many bits -/
def pc (x : Nat) : Nat := cntN (fun v => bt (n32 x) v) 8
theorem bc_all : ∀ x, x < 256 → bcE (n32 x) = n32 (pc x) := by decide +kernel
theorem pc_le (x : Nat) : pc x ≤ 8 := by
  unfold pc
  have : ∀ (p : Nat → Bool) n, cntN p n ≤ n := by
    intro p n
    induction n with
    | zero => exact Nat.le_refl _
    | succ n ih =>
      rw [cntN_s]
      split <;> omega
  exact this _ 8
def frv (S : TS) (s t : Nat) (v : Nat) : Bool := !(bt (mk S s t) v) && (!(bt (ofS S) v) && decide (lof S v s t (sK S) = 0))
def frS (S : TS) (s t : Nat) : Int32 := bs (frv S s t) (sV S)
/-- whether these voters more would do -/
def okN (S : TS) (s t x : Nat) : Bool := decide ((n32 x &&& frS S s t) = n32 x) && cts S (mk S s t ||| n32 x) t
/-- the fewest, and of like ones the least -/
def MN (S : TS) (s t m : Nat) : Prop := m < 256 ∧ okN S s t m = true ∧ ∀ y, y < 256 → okN S s t y = true → pc m < pc y ∨ (pc m = pc y ∧ m ≤ y)
section NE
variable {d e L : Nat} {S : TS} {N : Nat → Int64} {I K M : TI} {J : TJ} {a b s t v k i n w m x : Nat}
theorem j_bitCount (hx : x < 256) : xcall xprog (d + 1) 275 [.int (n32 x)] (xst e L I J) = some (some (.int (n32 (pc x))), xst e L I J) := by
  refine (sJ6_bitCount_0f7a4 d e L I J (n32 x)).trans ?_
  exact congrArg (fun z => some (some (Value.int z), xst e L I J)) (bc_all x hx)
theorem MN_u {m' : Nat} (h : MN S s t m) (h' : MN S s t m') : m = m' := by
  have q1 := h.2.2 m' h'.1 h'.2.1
  have q2 := h'.2.2 m h.1 h.2.1
  omega
theorem sub_iff (a b : Int32) : ((a &&& (b ^^^ (-1))) = 0) = ((a &&& b) = a) := by
  apply propext
  constructor
  · intro h
    apply bt_ext
    intro k hk
    have q : bt (a &&& (b ^^^ (-1))) k = false := by rw [h, bt_zero]
    rw [bt_and, bt_xor, bt_neg1 hk] at q
    rw [bt_and]
    cases h1 : bt a k <;> cases h2 : bt b k <;> simp_all
  · intro h
    apply bt_ext
    intro k hk
    have q : bt (a &&& b) k = bt a k := by rw [h]
    rw [bt_and] at q
    rw [bt_and, bt_xor, bt_neg1 hk, bt_zero]
    cases h1 : bt a k <;> cases h2 : bt b k <;> simp_all
theorem c_freeVoters (hC : CS S N I J) (hF : Fi S I) (hs : s < sB S) (ht : t < sB S) (ps : pt S s = true) (pq : pt S t = true) : xcall xprog (d + 3) 65 [.ref 71, .int (n32 s), .int (n32 t)] (xst e L I J) = some (some (.int (frS S s t)), xst e L I J) := by
  obtain ⟨⟨hw, hk, hl⟩, hT, hA, _⟩ := hC
  have h20 := wf_B hw
  have h8 := wf_V8 hw
  have hs20 : s < 20 := by omega
  have ht20 : t < 20 := by omega
  refine (aX6_freeVoters _ e L I J _ _).trans ((bX6_freeVoters_0 _ e L I J _ _).trans ?_)
  simp (disch := omega) only [n32_ltE, n32_leE, n32_eqE, n32_eqm, m1_eqn, n32_ge0, n32_lt0, n32_nat, n32_succ, n32_add, xin_n32, xin_b1, xin_b2, cond_true, cond_false, if_true, if_false, xcI_some, xcV_some, xcJ_some, xcR_some, xu_ee, xu_rne, xu_kne, ite_self, not_true_eq_false, not_false_eq_true, ne_eq, true_and, and_true, false_and, and_false, m1_lt0, m1_eq0, eq_self, Bool.false_eq_true, reduceCtorEq, z_lt0, i1_eq0, i0_eq1, i1_eq1, xrZ0, xrZ1, xrZt, n32_eq0, n32_eq1, n32_gt0, n32_gt1, n32_lt1, n32_le1, n32_0le, tf0, tf1, xaI_of, xaR_50, xaI_of (G0_51 s hs20), hF.2.2.2.2.2.2.2.1 s t hs20 ht20, hF.2.2.1]
  obtain ⟨r, h1, h2⟩ := xfor (fun i r => xlim (xcall xprog (d + 2)) mX6_freeVoters 1 [.ref 71, .int (n32 s), .int (n32 t), .int (mk S s t ||| ofS S), .int r, .int (n32 i)] [] (xst e L I J)) (fun i r => r = bs (frv S s t) i) (n := sV S) (fun i r hi hr => by
    subst hr
    refine ⟨bs (frv S s t) (i + 1), ?_, rfl⟩
    refine (bX6_freeVoters_1 _ e L I J _ _ _ _ _).trans ?_
    have hi8 : i < 8 := by omega
    have hlf := lof_le (S := S) (v := i) (s := s) (t := t) (n := sK S)
    have e1 : bs (frv S s t) (i + 1) = bif frv S s t i then bs (frv S s t) i ||| (1 <<< (n32 i &&& 31)) else bs (frv S s t) i := rfl
    rw [e1]
    have e2 : frv S s t i = (!(bt (mk S s t) i) && (!(bt (ofS S) i) && decide (lof S i s t (sK S) = 0))) := rfl
    rw [e2]
    simp (disch := omega) only [n32_ltE, n32_leE, n32_eqE, n32_eqm, m1_eqn, n32_ge0, n32_lt0, n32_nat, n32_succ, n32_add, xin_n32, xin_b1, xin_b2, cond_true, cond_false, if_true, if_false, xcI_some, xcV_some, xcJ_some, xcR_some, xu_ee, xu_rne, xu_kne, ite_self, not_true_eq_false, not_false_eq_true, ne_eq, true_and, and_true, false_and, and_false, m1_lt0, m1_eq0, eq_self, Bool.false_eq_true, reduceCtorEq, z_lt0, i1_eq0, i0_eq1, i1_eq1, xrZ0, xrZ1, xrZt, n32_eq0, n32_eq1, n32_gt0, n32_gt1, n32_lt1, n32_le1, n32_0le, tf0, tf1, xaI_of, t7_V hT hw, hi, bt_t0, bt_or, bX6_freeVoters_0, ekX6_freeVoters_1_18, bX6_freeVoters_2, bX6_freeVoters_3, c_offenceOf hT hw hA hk hi8 hs ht ps pq]
    cases bt (mk S s t) i <;> cases bt (ofS S) i <;> by_cases q : lof S i s t (sK S) = 0 <;> simp [q]) 0 rfl
  refine h1.trans ?_
  subst h2
  refine (bX6_freeVoters_1 _ e L I J _ _ _ _ _).trans ?_
  simp (disch := omega) only [n32_ltE, n32_leE, n32_eqE, n32_eqm, m1_eqn, n32_ge0, n32_lt0, n32_nat, n32_succ, n32_add, xin_n32, xin_b1, xin_b2, cond_true, cond_false, if_true, if_false, xcI_some, xcV_some, xcJ_some, xcR_some, xu_ee, xu_rne, xu_kne, ite_self, not_true_eq_false, not_false_eq_true, ne_eq, true_and, and_true, false_and, and_false, m1_lt0, m1_eq0, eq_self, Bool.false_eq_true, reduceCtorEq, z_lt0, i1_eq0, i0_eq1, i1_eq1, xrZ0, xrZ1, xrZt, n32_eq0, n32_eq1, n32_gt0, n32_gt1, n32_lt1, n32_le1, n32_0le, tf0, tf1, xaI_of, t7_V hT hw, Nat.lt_irrefl, bX6_freeVoters_0, ekX6_freeVoters_1_18, bX6_freeVoters_2, bX6_freeVoters_3]
  rfl
/-- class frame of asking for a need -/
def nfr (K I : TI) : Prop := ∀ o k, (o ≠ 71 ∨ k ≠ 2) → K o k = I o k
theorem CS_71 (h : ∀ o k, o ≠ 71 → K o k = I o k) (hC : CS S N I J) : CS S N K J := by
  refine ⟨hC.1, Tr_c (fun o k q1 q2 => h o k (by omega)) hC.1.1 hC.2.1, Ac_c (fun o k q1 q2 => h o k (by omega)) hC.2.2.1, fun q => ?_⟩
  obtain ⟨h1, h2, h3, h4, h5, h6, h7, h8, h9, n, h10, h11, h12, h13⟩ := hC.2.2.2 (by rw [← h 6 3 (by decide)]; exact q)
  refine ⟨?_, ?_, ?_, ?_, ?_, ?_, ?_, ?_, ?_, n, h10, ?_, ?_, ?_⟩
  · rw [h 47 0 (by decide), h1]
  · rw [h 47 1 (by decide), h2]
  · rw [h 47 2 (by decide), h3]
  · rw [h 47 3 (by decide), h4]
  · rw [h 47 4 (by decide), h5]
  · rw [h 47 5 (by decide), h6]
  · rw [h 47 6 (by decide), h7]
  · intro s t z1 z2
    rw [h (51 + s) t (by omega), h8 s t z1 z2]
  · intro b hb
    rw [h 49 b (by decide), h9 b hb]
  · rw [h 47 7 (by decide), h11]
  · intro k hk
    rw [h 48 k (by decide), h12 k hk]
  · rw [h 47 8 (by decide)]
    exact h13
theorem c_fewest (hC : CS S N I J) (hF : Fi S I) (hs : s < sB S) (ht : t < sB S) (ps : pt S s = true) (pq : pt S t = true) : RR (xcall xprog (d + 5) 64 [.ref 71, .int (n32 s), .int (n32 t)] (xst e L I J)) (zI e L fun x K J' => J' = J ∧ nfr K I ∧ ((∃ m, MN S s t m ∧ x = n32 (pc m) ∧ K 71 2 = n32 m) ∨ ((∀ y, y < 256 → okN S s t y = false) ∧ x = -1))) := by
  have hw := hC.1.1
  have h20 := wf_B hw
  have hs20 : s < 20 := by omega
  have ht20 : t < 20 := by omega
  refine RR_eq ((aX6_fewestVoters _ e L I J _ _).trans (bX6_fewestVoters_0 _ e L I J _ _)) ?_
  simp (disch := omega) only [n32_ltE, n32_leE, n32_eqE, n32_eqm, m1_eqn, n32_ge0, n32_lt0, n32_nat, n32_succ, n32_add, xin_n32, xin_b1, xin_b2, cond_true, cond_false, if_true, if_false, xcI_some, xcV_some, xcJ_some, xcR_some, xu_ee, xu_rne, xu_kne, ite_self, not_true_eq_false, not_false_eq_true, ne_eq, true_and, and_true, false_and, and_false, m1_lt0, m1_eq0, eq_self, Bool.false_eq_true, reduceCtorEq, z_lt0, i1_eq0, i0_eq1, i1_eq1, xrZ0, xrZ1, xrZt, n32_eq0, n32_eq1, n32_gt0, n32_gt1, n32_lt1, n32_le1, n32_0le, tf0, tf1, xaI_of, xaR_50, xaI_of (G0_51 s hs20), hF.2.2.2.2.2.2.2.1 s t hs20 ht20, c_freeVoters hC hF hs ht ps pq, ekX6_fewestVoters_0_11]
  -- the state: the fewest so far, and those found
  obtain ⟨z, h1, h2, h3⟩ := xfor (fun i (z : Int32 × TI) => xlim (xcall xprog (d + 4)) mX6_fewestVoters 1 [.ref 71, xD, .int (n32 t), .int (mk S s t), .int (frS S s t), .int z.1, .int (n32 i), xD] [] (xst e L z.2 J)) (fun i z => nfr z.2 I ∧ ((∃ m, m < i ∧ okN S s t m = true ∧ (∀ y, y < i → okN S s t y = true → pc m < pc y ∨ (pc m = pc y ∧ m ≤ y)) ∧ z.1 = n32 (pc m) ∧ z.2 71 2 = n32 m) ∨ ((∀ y, y < i → okN S s t y = false) ∧ z.1 = -1))) (n := 256) (fun i ⟨z1, z2⟩ hi ⟨g1, g2⟩ => by
    have e0 := bX6_fewestVoters_1 (xcall xprog (d + 4)) e L z2 J (n32 t) (mk S s t) (frS S s t) z1 (n32 i)
    have hC2 : CS S N z2 J := CS_71 (fun o k q => g1 o k (Or.inl q)) hC
    have ecw := c_countsWith (d := d) (e := e) (L := L) hC2.2.1 hw ht pq (x := mk S s t ||| n32 i)
    have ebc := j_bitCount (d := d + 3) (e := e) (L := L) (I := z2) (J := J) hi
    have h255 : i ≤ 255 := by omega
    have pci := pc_le i
    -- one round's end
    have noch : okN S s t i = false → xlim (xcall xprog (d + 4)) mX6_fewestVoters 4 [.ref 71, xD, .int (n32 t), .int (mk S s t), .int (frS S s t), .int z1, .int (n32 i), xD] [.int 1] (xst e L z2 J) = xlim (xcall xprog (d + 4)) mX6_fewestVoters 1 [.ref 71, xD, .int (n32 t), .int (mk S s t), .int (frS S s t), .int z1, .int (n32 (i + 1)), xD] [] (xst e L z2 J) := by
      intro q
      refine (bX6_fewestVoters_4 _ e L z2 J _ _ _ _ _ _).trans ?_
      simp only [sub_iff]
      unfold okN at q
      by_cases q1 : (n32 i &&& frS S s t) = n32 i
      · have q2 : cts S (mk S s t ||| n32 i) t = false := by
          cases h3 : cts S (mk S s t ||| n32 i) t with
          | false => rfl
          | true =>
            rw [h3, decide_eq_true q1] at q
            cases q
        simp (disch := omega) only [n32_ltE, n32_leE, n32_eqE, n32_eqm, m1_eqn, n32_ge0, n32_lt0, n32_nat, n32_succ, n32_add, xin_n32, xin_b1, xin_b2, cond_true, cond_false, if_true, if_false, xcI_some, xcV_some, xcJ_some, xcR_some, xu_ee, xu_rne, xu_kne, ite_self, not_true_eq_false, not_false_eq_true, ne_eq, true_and, and_true, false_and, and_false, m1_lt0, m1_eq0, eq_self, Bool.false_eq_true, reduceCtorEq, z_lt0, i1_eq0, i0_eq1, i1_eq1, xrZ0, xrZ1, xrZt, n32_eq0, n32_eq1, n32_gt0, n32_gt1, n32_lt1, n32_le1, n32_0le, tf0, tf1, xaI_of, q255a, q255b, q255m, q255l, q255g, q255r, q255s, q255e, q1, ecw, q2, ekX6_fewestVoters_0_11, bX6_fewestVoters_0, ekX6_fewestVoters_1_7, bX6_fewestVoters_2, bX6_fewestVoters_3, ekX6_fewestVoters_4_19, ekX6_fewestVoters_4_16, bX6_fewestVoters_5, bX6_fewestVoters_6]
      · simp (disch := omega) only [n32_ltE, n32_leE, n32_eqE, n32_eqm, m1_eqn, n32_ge0, n32_lt0, n32_nat, n32_succ, n32_add, xin_n32, xin_b1, xin_b2, cond_true, cond_false, if_true, if_false, xcI_some, xcV_some, xcJ_some, xcR_some, xu_ee, xu_rne, xu_kne, ite_self, not_true_eq_false, not_false_eq_true, ne_eq, true_and, and_true, false_and, and_false, m1_lt0, m1_eq0, eq_self, Bool.false_eq_true, reduceCtorEq, z_lt0, i1_eq0, i0_eq1, i1_eq1, xrZ0, xrZ1, xrZt, n32_eq0, n32_eq1, n32_gt0, n32_gt1, n32_lt1, n32_le1, n32_0le, tf0, tf1, xaI_of, q255a, q255b, q255m, q255l, q255g, q255r, q255s, q255e, q1, ekX6_fewestVoters_0_11, bX6_fewestVoters_0, ekX6_fewestVoters_1_7, bX6_fewestVoters_2, bX6_fewestVoters_3, ekX6_fewestVoters_4_19, ekX6_fewestVoters_4_16, bX6_fewestVoters_5, bX6_fewestVoters_6]
    have ch : okN S s t i = true → xlim (xcall xprog (d + 4)) mX6_fewestVoters 4 [.ref 71, xD, .int (n32 t), .int (mk S s t), .int (frS S s t), .int z1, .int (n32 i), xD] [.int 1] (xst e L z2 J) = xlim (xcall xprog (d + 4)) mX6_fewestVoters 1 [.ref 71, xD, .int (n32 t), .int (mk S s t), .int (frS S s t), .int (n32 (pc i)), .int (n32 (i + 1)), xD] [] (xst e L (xu z2 71 2 (n32 i)) J) := by
      intro q
      refine (bX6_fewestVoters_4 _ e L z2 J _ _ _ _ _ _).trans ?_
      simp only [sub_iff]
      unfold okN at q
      rw [Bool.and_eq_true] at q
      have q1 := of_decide_eq_true q.1
      simp (disch := omega) only [n32_ltE, n32_leE, n32_eqE, n32_eqm, m1_eqn, n32_ge0, n32_lt0, n32_nat, n32_succ, n32_add, xin_n32, xin_b1, xin_b2, cond_true, cond_false, if_true, if_false, xcI_some, xcV_some, xcJ_some, xcR_some, xu_ee, xu_rne, xu_kne, ite_self, not_true_eq_false, not_false_eq_true, ne_eq, true_and, and_true, false_and, and_false, m1_lt0, m1_eq0, eq_self, Bool.false_eq_true, reduceCtorEq, z_lt0, i1_eq0, i0_eq1, i1_eq1, xrZ0, xrZ1, xrZt, n32_eq0, n32_eq1, n32_gt0, n32_gt1, n32_lt1, n32_le1, n32_0le, tf0, tf1, xaI_of, q255a, q255b, q255m, q255l, q255g, q255r, q255s, q255e, q1, ecw, q.2, ekX6_fewestVoters_0_11, bX6_fewestVoters_0, ekX6_fewestVoters_1_7, bX6_fewestVoters_2, bX6_fewestVoters_3, ekX6_fewestVoters_4_19, ekX6_fewestVoters_4_16, bX6_fewestVoters_5, bX6_fewestVoters_6, ebc]
    have fr2 : nfr (xu z2 71 2 (n32 i)) I := fun o k z => by
      rw [← g1 o k z]
      by_cases q : o = 71
      · subst q
        rw [xu_kne (by omega)]
      · rw [xu_rne q]
    rcases g2 with ⟨m, m1, m2, m3, m4, m5⟩ | ⟨m1, m2⟩
    · have pcm := pc_le m
      simp only at m4 m5
      subst m4
      by_cases q : pc i < pc m
      · have e1 : xlim (xcall xprog (d + 4)) mX6_fewestVoters 1 [.ref 71, xD, .int (n32 t), .int (mk S s t), .int (frS S s t), .int (n32 (pc m)), .int (n32 i), xD] [] (xst e L z2 J) = xlim (xcall xprog (d + 4)) mX6_fewestVoters 4 [.ref 71, xD, .int (n32 t), .int (mk S s t), .int (frS S s t), .int (n32 (pc m)), .int (n32 i), xD] [.int 1] (xst e L z2 J) := by
          refine e0.trans ?_
          simp (disch := omega) only [n32_ltE, n32_leE, n32_eqE, n32_eqm, m1_eqn, n32_ge0, n32_lt0, n32_nat, n32_succ, n32_add, xin_n32, xin_b1, xin_b2, cond_true, cond_false, if_true, if_false, xcI_some, xcV_some, xcJ_some, xcR_some, xu_ee, xu_rne, xu_kne, ite_self, not_true_eq_false, not_false_eq_true, ne_eq, true_and, and_true, false_and, and_false, m1_lt0, m1_eq0, eq_self, Bool.false_eq_true, reduceCtorEq, z_lt0, i1_eq0, i0_eq1, i1_eq1, xrZ0, xrZ1, xrZt, n32_eq0, n32_eq1, n32_gt0, n32_gt1, n32_lt1, n32_le1, n32_0le, tf0, tf1, xaI_of, q255a, q255b, q255m, q255l, q255g, q255r, q255s, q255e, h255, ebc, ekX6_fewestVoters_1_7, q, bX6_fewestVoters_2]
        cases ho : okN S s t i with
        | true =>
          refine ⟨(n32 (pc i), xu z2 71 2 (n32 i)), e1.trans (ch ho), fr2, Or.inl ⟨i, by omega, ho, fun y hy hoy => ?_, rfl, (xu_ee : xu z2 71 2 (n32 i) 71 2 = n32 i)⟩⟩
          by_cases zy : y = i
          · subst zy
            exact Or.inr ⟨rfl, Nat.le_refl _⟩
          · have := m3 y (by omega) hoy
            omega
        | false =>
          refine ⟨(n32 (pc m), z2), e1.trans (noch ho), g1, Or.inl ⟨m, by omega, m2, fun y hy hoy => ?_, rfl, m5⟩⟩
          by_cases zy : y = i
          · subst zy
            rw [ho] at hoy
            cases hoy
          · exact m3 y (by omega) hoy
      · refine ⟨(n32 (pc m), z2), e0.trans ?_, g1, Or.inl ⟨m, by omega, m2, fun y hy hoy => ?_, rfl, m5⟩⟩
        · simp (disch := omega) only [n32_ltE, n32_leE, n32_eqE, n32_eqm, m1_eqn, n32_ge0, n32_lt0, n32_nat, n32_succ, n32_add, xin_n32, xin_b1, xin_b2, cond_true, cond_false, if_true, if_false, xcI_some, xcV_some, xcJ_some, xcR_some, xu_ee, xu_rne, xu_kne, ite_self, not_true_eq_false, not_false_eq_true, ne_eq, true_and, and_true, false_and, and_false, m1_lt0, m1_eq0, eq_self, Bool.false_eq_true, reduceCtorEq, z_lt0, i1_eq0, i0_eq1, i1_eq1, xrZ0, xrZ1, xrZt, n32_eq0, n32_eq1, n32_gt0, n32_gt1, n32_lt1, n32_le1, n32_0le, tf0, tf1, xaI_of, q255a, q255b, q255m, q255l, q255g, q255r, q255s, q255e, h255, ebc, ekX6_fewestVoters_1_7, q, bX6_fewestVoters_3]
          refine (bX6_fewestVoters_4 _ e L z2 J _ _ _ _ _ _).trans ?_
          by_cases q1 : (n32 i &&& (frS S s t ^^^ (-1))) = 0
          · simp (disch := omega) only [n32_ltE, n32_leE, n32_eqE, n32_eqm, m1_eqn, n32_ge0, n32_lt0, n32_nat, n32_succ, n32_add, xin_n32, xin_b1, xin_b2, cond_true, cond_false, if_true, if_false, xcI_some, xcV_some, xcJ_some, xcR_some, xu_ee, xu_rne, xu_kne, ite_self, not_true_eq_false, not_false_eq_true, ne_eq, true_and, and_true, false_and, and_false, m1_lt0, m1_eq0, eq_self, Bool.false_eq_true, reduceCtorEq, z_lt0, i1_eq0, i0_eq1, i1_eq1, xrZ0, xrZ1, xrZt, n32_eq0, n32_eq1, n32_gt0, n32_gt1, n32_lt1, n32_le1, n32_0le, tf0, tf1, xaI_of, q255a, q255b, q255m, q255l, q255g, q255r, q255s, q255e, q1, ekX6_fewestVoters_0_11, bX6_fewestVoters_0, ekX6_fewestVoters_1_7, bX6_fewestVoters_2, bX6_fewestVoters_3, ekX6_fewestVoters_4_19, ekX6_fewestVoters_4_16, bX6_fewestVoters_5, bX6_fewestVoters_6]
          · simp (disch := omega) only [n32_ltE, n32_leE, n32_eqE, n32_eqm, m1_eqn, n32_ge0, n32_lt0, n32_nat, n32_succ, n32_add, xin_n32, xin_b1, xin_b2, cond_true, cond_false, if_true, if_false, xcI_some, xcV_some, xcJ_some, xcR_some, xu_ee, xu_rne, xu_kne, ite_self, not_true_eq_false, not_false_eq_true, ne_eq, true_and, and_true, false_and, and_false, m1_lt0, m1_eq0, eq_self, Bool.false_eq_true, reduceCtorEq, z_lt0, i1_eq0, i0_eq1, i1_eq1, xrZ0, xrZ1, xrZt, n32_eq0, n32_eq1, n32_gt0, n32_gt1, n32_lt1, n32_le1, n32_0le, tf0, tf1, xaI_of, q255a, q255b, q255m, q255l, q255g, q255r, q255s, q255e, q1, ekX6_fewestVoters_0_11, bX6_fewestVoters_0, ekX6_fewestVoters_1_7, bX6_fewestVoters_2, bX6_fewestVoters_3, ekX6_fewestVoters_4_19, ekX6_fewestVoters_4_16, bX6_fewestVoters_5, bX6_fewestVoters_6]
        · by_cases zy : y = i
          · subst zy
            omega
          · exact m3 y (by omega) hoy
    · simp only at m2
      subst m2
      have e1 : xlim (xcall xprog (d + 4)) mX6_fewestVoters 1 [.ref 71, xD, .int (n32 t), .int (mk S s t), .int (frS S s t), .int (-1), .int (n32 i), xD] [] (xst e L z2 J) = xlim (xcall xprog (d + 4)) mX6_fewestVoters 4 [.ref 71, xD, .int (n32 t), .int (mk S s t), .int (frS S s t), .int (-1), .int (n32 i), xD] [.int 1] (xst e L z2 J) := by
        refine e0.trans ?_
        simp (disch := omega) only [n32_ltE, n32_leE, n32_eqE, n32_eqm, m1_eqn, n32_ge0, n32_lt0, n32_nat, n32_succ, n32_add, xin_n32, xin_b1, xin_b2, cond_true, cond_false, if_true, if_false, xcI_some, xcV_some, xcJ_some, xcR_some, xu_ee, xu_rne, xu_kne, ite_self, not_true_eq_false, not_false_eq_true, ne_eq, true_and, and_true, false_and, and_false, m1_lt0, m1_eq0, eq_self, Bool.false_eq_true, reduceCtorEq, z_lt0, i1_eq0, i0_eq1, i1_eq1, xrZ0, xrZ1, xrZt, n32_eq0, n32_eq1, n32_gt0, n32_gt1, n32_lt1, n32_le1, n32_0le, tf0, tf1, xaI_of, q255a, q255b, q255m, q255l, q255g, q255r, q255s, q255e, h255, bX6_fewestVoters_2]
      cases ho : okN S s t i with
      | true =>
        refine ⟨(n32 (pc i), xu z2 71 2 (n32 i)), e1.trans (ch ho), fr2, Or.inl ⟨i, by omega, ho, fun y hy hoy => ?_, rfl, (xu_ee : xu z2 71 2 (n32 i) 71 2 = n32 i)⟩⟩
        by_cases zy : y = i
        · subst zy
          exact Or.inr ⟨rfl, Nat.le_refl _⟩
        · rw [m1 y (by omega)] at hoy
          cases hoy
      | false =>
        refine ⟨(-1, z2), e1.trans (noch ho), g1, Or.inr ⟨fun y hy => ?_, rfl⟩⟩
        by_cases zy : y = i
        · rw [zy, ho]
        · exact m1 y (by omega)) (-1, I) ⟨fun _ _ _ => rfl, Or.inr ⟨fun y hy => absurd hy (Nat.not_lt_zero y), rfl⟩⟩
  obtain ⟨z1, z2⟩ := z
  refine RR_eq (h1.trans (bX6_fewestVoters_1 _ e L z2 J _ _ _ _ _)) ?_
  have h255 : ¬ (256 : Nat) ≤ 255 := by omega
  simp (disch := omega) only [n32_ltE, n32_leE, n32_eqE, n32_eqm, m1_eqn, n32_ge0, n32_lt0, n32_nat, n32_succ, n32_add, xin_n32, xin_b1, xin_b2, cond_true, cond_false, if_true, if_false, xcI_some, xcV_some, xcJ_some, xcR_some, xu_ee, xu_rne, xu_kne, ite_self, not_true_eq_false, not_false_eq_true, ne_eq, true_and, and_true, false_and, and_false, m1_lt0, m1_eq0, eq_self, Bool.false_eq_true, reduceCtorEq, z_lt0, i1_eq0, i0_eq1, i1_eq1, xrZ0, xrZ1, xrZt, n32_eq0, n32_eq1, n32_gt0, n32_gt1, n32_lt1, n32_le1, n32_0le, tf0, tf1, xaI_of, q255a, q255b, q255m, q255l, q255g, q255r, q255s, q255e, h255, bX6_fewestVoters_6]
  refine RR_I ⟨rfl, h2, ?_⟩
  rcases h3 with ⟨m, m1, m2, m3, m4, m5⟩ | ⟨m1, m2⟩
  · exact Or.inl ⟨m, ⟨m1, m2, m3⟩, m4, m5⟩
  · exact Or.inr ⟨m1, m2⟩
theorem bt_n32 {y k : Nat} (hk : k < 32) : bt (n32 y) k = y.testBit k := by
  show (BitVec.ofNat 32 y).getLsbD k = y.testBit k
  rw [BitVec.getLsbD_ofNat]
  simp [hk]
theorem bt_nat8 (z : Int32) (h : ∀ k, 8 ≤ k → k < 32 → bt z k = false) : ∃ y, y < 256 ∧ z = n32 y := by
  refine ⟨z.toBitVec.toNat, ?_, ?_⟩
  · apply Nat.lt_pow_two_of_testBit (n := 8)
    intro i hi
    by_cases h32 : i < 32
    · exact h i hi h32
    · exact Nat.testBit_lt_two_pow (Nat.lt_of_lt_of_le z.toBitVec.isLt (Nat.pow_le_pow_right (by omega) (by omega)))
  · apply Int32.toBitVec_inj.mp
    show z.toBitVec = BitVec.ofNat 32 z.toBitVec.toNat
    rw [BitVec.ofNat_toNat, BitVec.setWidth_eq]
theorem sub_le {y f : Nat} (hy : y < 256) (h : (n32 y &&& n32 f) = n32 y) : y ≤ f := by
  have : y &&& f = y := by
    apply Nat.eq_of_testBit_eq
    intro k
    rw [Nat.testBit_and]
    by_cases hk : k < 32
    · have q : bt (n32 y &&& n32 f) k = bt (n32 y) k := by rw [h]
      rw [bt_and, bt_n32 hk, bt_n32 hk] at q
      exact q
    · rw [Nat.testBit_lt_two_pow (Nat.lt_of_lt_of_le hy (show 256 ≤ 2 ^ k from Nat.le_trans (show 256 ≤ 2 ^ 32 by decide) (Nat.pow_le_pow_right (by omega) (by omega))))]
      rfl
  rw [← this]
  exact Nat.and_le_right
theorem cntN_b {p : Nat → Bool} {V : Nat} (hp : ∀ v, V ≤ v → v < n → p v = false) : cntN p n ≤ V := by
  induction n with
  | zero => exact Nat.zero_le _
  | succ n ih =>
    rw [cntN_s]
    by_cases q : V ≤ n
    · rw [if_neg (by rw [hp n q (by omega)]; decide)]
      exact ih (fun v z1 z2 => hp v z1 (by omega))
    · have : ∀ (p : Nat → Bool) n, cntN p n ≤ n := by
        intro p n
        induction n with
        | zero => exact Nat.le_refl _
        | succ n ih =>
          rw [cntN_s]
          split <;> omega
      have := this p n
      split <;> omega
theorem frS_b (hw : wfT S) (hk : k < 32) : bt (frS S s t) k = (decide (k < sV S) && frv S s t k) := bt_bs _ hk _ (by have := wf_V8 hw; omega)
theorem ok_pc (hw : wfT S) (h : okN S s t x = true) : pc x ≤ sV S := by
  unfold okN at h
  rw [Bool.and_eq_true] at h
  have h1 := of_decide_eq_true h.1
  refine cntN_b (fun v z1 z2 => ?_)
  have q : bt (n32 x &&& frS S s t) v = bt (n32 x) v := by rw [h1]
  rw [bt_and, frS_b hw (by omega)] at q
  rw [← q]
  simp [show ¬ v < sV S by omega]
theorem pc_0 : pc 0 = 0 := by decide
theorem pc_pos (h : 0 < x) (hx : x < 256) : 0 < pc x := by
  have : ∀ x, x < 256 → 0 < x → 0 < pc x := by decide +kernel
  exact this x hx h
theorem r_bitsIn : xcall xprog (d + 1) 229 [.int (n32 x)] (xst e L I J) = some (some (.int (n32 (pc x))), xst e L I J) := by
  refine (aX12_bitsIn _ e L I J _).trans ((bX12_bitsIn_0 _ e L I J _).trans ?_)
  obtain ⟨r, h1, h2⟩ := xfor (fun i (r : Nat) => xlim (xcall xprog d) mX12_bitsIn 1 [.int (n32 x), .int (n32 r), .int (n32 i)] [] (xst e L I J)) (fun i r => r = cntN (fun v => bt (n32 x) v) i) (n := 8) (fun i r hi hr => by
    subst hr
    refine ⟨cntN (fun v => bt (n32 x) v) (i + 1), ?_, rfl⟩
    refine (bX12_bitsIn_1 _ e L I J _ _ _).trans ?_
    rw [cntN_s]
    simp (disch := omega) only [n32_ltE, n32_leE, n32_eqE, n32_eqm, m1_eqn, n32_ge0, n32_lt0, n32_nat, n32_succ, n32_add, xin_n32, xin_b1, xin_b2, cond_true, cond_false, if_true, if_false, xcI_some, xcV_some, xcJ_some, xcR_some, xu_ee, xu_rne, xu_kne, ite_self, not_true_eq_false, not_false_eq_true, ne_eq, true_and, and_true, false_and, and_false, m1_lt0, m1_eq0, eq_self, Bool.false_eq_true, reduceCtorEq, z_lt0, i1_eq0, i0_eq1, i1_eq1, xrZ0, xrZ1, xrZt, n32_eq0, n32_eq1, n32_gt0, n32_gt1, n32_lt1, n32_le1, n32_0le, tf0, tf1, xaI_of, q8a, q8b, q8m, q8l, q8g, q8r, q8s, q8e, hi, bt_test]
    cases bt (n32 x) i
    · simp only [Bool.false_eq_true, if_false, Int32.add_zero]
    · simp only [if_true, n32_succ]) 0 rfl
  subst h2
  refine h1.trans ((bX12_bitsIn_1 _ e L I J _ _ _).trans ?_)
  simp (disch := omega) only [n32_ltE, n32_leE, n32_eqE, n32_eqm, m1_eqn, n32_ge0, n32_lt0, n32_nat, n32_succ, n32_add, xin_n32, xin_b1, xin_b2, cond_true, cond_false, if_true, if_false, xcI_some, xcV_some, xcJ_some, xcR_some, xu_ee, xu_rne, xu_kne, ite_self, not_true_eq_false, not_false_eq_true, ne_eq, true_and, and_true, false_and, and_false, m1_lt0, m1_eq0, eq_self, Bool.false_eq_true, reduceCtorEq, z_lt0, i1_eq0, i0_eq1, i1_eq1, xrZ0, xrZ1, xrZt, n32_eq0, n32_eq1, n32_gt0, n32_gt1, n32_lt1, n32_le1, n32_0le, tf0, tf1, xaI_of, q8a, q8b, q8m, q8l, q8g, q8r, q8s, q8e, Nat.lt_irrefl, bX12_bitsIn_2]
  rfl
theorem Rf_k {y : Int32} {k : Nat} (hk : k < 26 ∨ 34 < k) (h : Rf S I) : Rf S (xu I 209 k y) := by
  obtain ⟨h1, h2, h3, h4, h5, h6, h7, h8, h9, h10, n, h11, h12, h13⟩ := h
  refine ⟨RT_c (by rw [xu_rne (by decide)]) (by rw [xu_rne (by decide)]) h1, ?_, ?_, ?_, ?_, ?_, ?_, ?_, ?_, ?_, n, h11, ?_, ?_⟩
  · rw [xu_kne (by omega), h2]
  · rw [xu_kne (by omega), h3]
  · rw [xu_kne (by omega), h4]
  · rw [xu_kne (by omega), h5]
  · rw [xu_kne (by omega), h6]
  · rw [xu_kne (by omega), h7]
  · rw [xu_kne (by omega), h8]
  · rw [xu_rne (by decide)]; exact h9
  · rw [xu_rne (by decide)]; exact h10
  · rw [xu_kne (by omega), h12]
  · rw [xu_rne (by decide)]; exact h13
theorem RS_k {y : Int32} {k : Nat} (hk : k < 26 ∨ 34 < k) (h : RS S I) : RS S (xu I 209 k y) := ⟨h.1, by rw [xu_rne (by decide)]; exact h.2.1, fun q => Rf_k hk (h.2.2 (by rwa [xu_kne (by omega)] at q))⟩
/-- reference frame of asking for a need -/
def mfr (K I : TI) : Prop := ∀ o k, (o ≠ 209 ∨ k ≠ 39) → K o k = I o k
theorem mfr_x {y : Int32} (h : mfr K I) : mfr (xu K 209 39 y) I := fun o k z => by
  rw [← h o k z]
  by_cases q : o = 209
  · subst q
    rw [xu_kne (by omega)]
  · rw [xu_rne q]
theorem r_needOf (hC : RS S I) (hF : Rf S I) (hs : s < sB S) (ht : t < sB S) : RR (xcall xprog (d + 6) 230 [.ref 209, .int (n32 s), .int (n32 t)] (xst e L I J)) (zI e L fun x K J' => J' = J ∧ mfr K I ∧ ((∃ m, MN S s t m ∧ x = n32 (pc m) ∧ K 209 39 = n32 m) ∨ ((∀ y, y < 256 → okN S s t y = false) ∧ x = -1))) := by
  have hw := hC.1.1
  have hk := hC.1.2.1
  have h20 := wf_B hw
  have h8 := wf_V8 hw
  refine RR_eq ((aX12_needOf _ e L I J _ _).trans (bX12_needOf_0 _ e L I J _ _)) ?_
  have hm := hF.2.2.2.2.2.2.2.2.1 s t (by omega) (by omega)
  have hC1 := RS_k (k := 39) (y := 0) (Or.inr (by omega)) hC
  have hF1 := Rf_k (k := 39) (y := 0) (Or.inr (by omega)) hF
  have f1 : mfr (xu I 209 39 0) I := mfr_x (fun _ _ _ => rfl)
  generalize hI1 : xu I 209 39 0 = I1 at hC1 hF1 f1
  have hS := hC1.2.1
  simp (disch := omega) only [n32_ltE, n32_leE, n32_eqE, n32_eqm, m1_eqn, n32_ge0, n32_lt0, n32_nat, n32_succ, n32_add, xin_n32, xin_b1, xin_b2, cond_true, cond_false, if_true, if_false, xcI_some, xcV_some, xcJ_some, xcR_some, xu_ee, xu_rne, xu_kne, ite_self, not_true_eq_false, not_false_eq_true, ne_eq, true_and, and_true, false_and, and_false, m1_lt0, m1_eq0, eq_self, Bool.false_eq_true, reduceCtorEq, z_lt0, i1_eq0, i0_eq1, i1_eq1, xrZ0, xrZ1, xrZt, n32_eq0, n32_eq1, n32_gt0, n32_gt1, n32_lt1, n32_le1, n32_0le, tf0, tf1, xaI_of, n32_20, hm, hI1, r_counts hS hw hF1.1 ht, ekX12_needOf_0_15]
  have or0 : mk S s t ||| n32 0 = mk S s t := by
    apply bt_ext
    intro k hk2
    rw [bt_or, show n32 0 = (0 : Int32) from rfl, bt_zero, Bool.or_false]
  have an0 : (n32 0 &&& frS S s t) = n32 0 := by
    apply bt_ext
    intro k hk2
    rw [bt_and, show n32 0 = (0 : Int32) from rfl, bt_zero, Bool.false_and]
  have ok0 : okN S s t 0 = cts S (mk S s t) t := by
    unfold okN
    rw [or0, an0]
    simp
  by_cases hct : cts S (mk S s t) t = true
  · simp only [hct, not_true_eq_false, if_false]
    refine RR_I ⟨rfl, f1, Or.inl ⟨0, ⟨by omega, by rw [ok0, hct], fun y hy hoy => ?_⟩, by rw [pc_0]; rfl, by rw [← hI1, xu_ee]; rfl⟩⟩
    rw [pc_0]
    omega
  simp only [hct, not_false_eq_true, if_true, Bool.false_eq_true]
  refine RR_eq (bX12_needOf_1 _ e L I1 J _ _ _) ?_
  -- who may
  obtain ⟨r, h1, h2⟩ := xfor (fun i r => xlim (xcall xprog (d + 5)) mX12_needOf 2 [.ref 209, .int (n32 s), .int (n32 t), .int (mk S s t), .int r, .int (n32 i), xD] [] (xst e L I1 J)) (fun i r => r = bs (frv S s t) i) (n := sV S) (fun i r hi hr => by
    subst hr
    refine ⟨bs (frv S s t) (i + 1), ?_, rfl⟩
    refine (bX12_needOf_2 _ e L I1 J _ _ _ _ _).trans ?_
    have hi8 : i < 8 := by omega
    have hlf := lof_le (S := S) (v := i) (s := s) (t := t) (n := sK S)
    have e1 : bs (frv S s t) (i + 1) = bif frv S s t i then bs (frv S s t) i ||| (1 <<< (n32 i &&& 31)) else bs (frv S s t) i := rfl
    rw [e1]
    have e2 : frv S s t i = (!(bt (mk S s t) i) && (!(bt (ofS S) i) && decide (lof S i s t (sK S) = 0))) := rfl
    rw [e2]
    simp (disch := omega) only [n32_ltE, n32_leE, n32_eqE, n32_eqm, m1_eqn, n32_ge0, n32_lt0, n32_nat, n32_succ, n32_add, xin_n32, xin_b1, xin_b2, cond_true, cond_false, if_true, if_false, xcI_some, xcV_some, xcJ_some, xcR_some, xu_ee, xu_rne, xu_kne, ite_self, not_true_eq_false, not_false_eq_true, ne_eq, true_and, and_true, false_and, and_false, m1_lt0, m1_eq0, eq_self, Bool.false_eq_true, reduceCtorEq, z_lt0, i1_eq0, i0_eq1, i1_eq1, xrZ0, xrZ1, xrZt, n32_eq0, n32_eq1, n32_gt0, n32_gt1, n32_lt1, n32_le1, n32_0le, tf0, tf1, xaI_of, q20a, q20b, q20m, q20l, q20g, q20r, q20s, q20e, hS, wf_1 hw, hi, sX12_bitOf, hF1.2.2.2.1, bt_t1, ekX12_needOf_0_15, bX12_needOf_0, bX12_needOf_1, ekX12_needOf_2_19, ekX12_needOf_2_13, ekX12_needOf_2_9, bX12_needOf_3, bX12_needOf_4, ekX12_needOf_6_17, ekX12_needOf_6_9, bX12_needOf_7, bX12_needOf_8, bX12_needOf_9, bX12_needOf_10, r_offenceOf hS hw hF1.1 hk hi8 hs ht]
    cases bt (mk S s t) i <;> cases bt (ofS S) i <;> by_cases q : lof S i s t (sK S) = 0 <;> simp [q]) 0 rfl
  subst h2
  refine RR_eq (h1.trans (bX12_needOf_2 _ e L I1 J _ _ _ _ _)) ?_
  simp (disch := omega) only [n32_ltE, n32_leE, n32_eqE, n32_eqm, m1_eqn, n32_ge0, n32_lt0, n32_nat, n32_succ, n32_add, xin_n32, xin_b1, xin_b2, cond_true, cond_false, if_true, if_false, xcI_some, xcV_some, xcJ_some, xcR_some, xu_ee, xu_rne, xu_kne, ite_self, not_true_eq_false, not_false_eq_true, ne_eq, true_and, and_true, false_and, and_false, m1_lt0, m1_eq0, eq_self, Bool.false_eq_true, reduceCtorEq, z_lt0, i1_eq0, i0_eq1, i1_eq1, xrZ0, xrZ1, xrZt, n32_eq0, n32_eq1, n32_gt0, n32_gt1, n32_lt1, n32_le1, n32_0le, tf0, tf1, xaI_of, hS, wf_1 hw, Nat.lt_irrefl, bX12_needOf_4]
  rw [show bs (frv S s t) (sV S) = frS S s t from rfl]
  obtain ⟨f, f256, hf⟩ := bt_nat8 (frS S s t) (fun k k1 k2 => by rw [frS_b hw k2]; simp [show ¬ k < sV S by omega])
  rw [hf]
  have okf : ∀ y, y < 256 → okN S s t y = true → 1 ≤ y ∧ y ≤ f := fun y hy hoy => by
    constructor
    · by_cases z : y = 0
      · subst z
        rw [ok0] at hoy
        exact absurd hoy hct
      · omega
    · unfold okN at hoy
      rw [Bool.and_eq_true, hf] at hoy
      exact sub_le hy (of_decide_eq_true hoy.1)
  have inner : ∀ n, n ≤ 8 → (∃ x, 1 ≤ x ∧ x ≤ f ∧ okN S s t x = true ∧ pc x = n ∧ (∀ y, 1 ≤ y → y < x → ¬ (okN S s t y = true ∧ pc y = n)) ∧ xlim (xcall xprog (d + 5)) mX12_needOf 6 [.ref 209, xD, .int (n32 t), .int (mk S s t), .int (n32 f), .int (n32 n), .int 1] [] (xst e L I1 J) = some (some (.int (n32 n)), xst e L (xu I1 209 39 (n32 x)) J)) ∨ ((∀ y, 1 ≤ y → y ≤ f → ¬ (okN S s t y = true ∧ pc y = n)) ∧ xlim (xcall xprog (d + 5)) mX12_needOf 6 [.ref 209, xD, .int (n32 t), .int (mk S s t), .int (n32 f), .int (n32 n), .int 1] [] (xst e L I1 J) = xlim (xcall xprog (d + 5)) mX12_needOf 5 [.ref 209, xD, .int (n32 t), .int (mk S s t), .int (n32 f), .int (n32 (n + 1)), xD] [] (xst e L I1 J)) := by
    intro n hn
    have key := xfirst (fun j => xlim (xcall xprog (d + 5)) mX12_needOf 6 [.ref 209, xD, .int (n32 t), .int (mk S s t), .int (n32 f), .int (n32 n), .int (n32 (1 + j))] [] (xst e L I1 J)) (fun j => okN S s t (1 + j) && decide (pc (1 + j) = n)) (fun j => some (some (.int (n32 n)), xst e L (xu I1 209 39 (n32 (1 + j))) J)) (Z := xlim (xcall xprog (d + 5)) mX12_needOf 5 [.ref 209, xD, .int (n32 t), .int (mk S s t), .int (n32 f), .int (n32 (n + 1)), xD] [] (xst e L I1 J)) (n := f) (fun j hj hp => by
        refine (bX12_needOf_6 _ e L I1 J _ _ _ _ _).trans ?_
        have hle : 1 + j ≤ f := by omega
        have pcl := pc_le (1 + j)
        unfold okN at hp
        rw [hf] at hp
        by_cases q1 : (n32 (1 + j) &&& n32 f) = n32 (1 + j)
        · by_cases q2 : pc (1 + j) = n
          · have q3 : cts S (mk S s t ||| n32 (1 + j)) t = false := by
              cases h3 : cts S (mk S s t ||| n32 (1 + j)) t with
              | false => rfl
              | true =>
                rw [h3, decide_eq_true q1, decide_eq_true q2] at hp
                cases hp
            simp (disch := omega) only [n32_ltE, n32_leE, n32_eqE, n32_eqm, m1_eqn, n32_ge0, n32_lt0, n32_nat, n32_succ, n32_add, xin_n32, xin_b1, xin_b2, cond_true, cond_false, if_true, if_false, xcI_some, xcV_some, xcJ_some, xcR_some, xu_ee, xu_rne, xu_kne, ite_self, not_true_eq_false, not_false_eq_true, ne_eq, true_and, and_true, false_and, and_false, m1_lt0, m1_eq0, eq_self, Bool.false_eq_true, reduceCtorEq, z_lt0, i1_eq0, i0_eq1, i1_eq1, xrZ0, xrZ1, xrZt, n32_eq0, n32_eq1, n32_gt0, n32_gt1, n32_lt1, n32_le1, n32_0le, tf0, tf1, xaI_of, q20a, q20b, q20m, q20l, q20g, q20r, q20s, q20e, hle, q1, r_bitsIn, q2, r_counts hS hw hF1.1 ht, q3, ekX12_needOf_0_15, bX12_needOf_0, bX12_needOf_1, ekX12_needOf_2_19, ekX12_needOf_2_13, ekX12_needOf_2_9, bX12_needOf_3, bX12_needOf_4, ekX12_needOf_6_17, ekX12_needOf_6_9, bX12_needOf_7, bX12_needOf_8, bX12_needOf_9, bX12_needOf_10]
            rfl
          · simp (disch := omega) only [n32_ltE, n32_leE, n32_eqE, n32_eqm, m1_eqn, n32_ge0, n32_lt0, n32_nat, n32_succ, n32_add, xin_n32, xin_b1, xin_b2, cond_true, cond_false, if_true, if_false, xcI_some, xcV_some, xcJ_some, xcR_some, xu_ee, xu_rne, xu_kne, ite_self, not_true_eq_false, not_false_eq_true, ne_eq, true_and, and_true, false_and, and_false, m1_lt0, m1_eq0, eq_self, Bool.false_eq_true, reduceCtorEq, z_lt0, i1_eq0, i0_eq1, i1_eq1, xrZ0, xrZ1, xrZt, n32_eq0, n32_eq1, n32_gt0, n32_gt1, n32_lt1, n32_le1, n32_0le, tf0, tf1, xaI_of, q20a, q20b, q20m, q20l, q20g, q20r, q20s, q20e, hle, q1, r_bitsIn, q2, ekX12_needOf_0_15, bX12_needOf_0, bX12_needOf_1, ekX12_needOf_2_19, ekX12_needOf_2_13, ekX12_needOf_2_9, bX12_needOf_3, bX12_needOf_4, ekX12_needOf_6_17, ekX12_needOf_6_9, bX12_needOf_7, bX12_needOf_8, bX12_needOf_9, bX12_needOf_10]
            rfl
        · simp (disch := omega) only [n32_ltE, n32_leE, n32_eqE, n32_eqm, m1_eqn, n32_ge0, n32_lt0, n32_nat, n32_succ, n32_add, xin_n32, xin_b1, xin_b2, cond_true, cond_false, if_true, if_false, xcI_some, xcV_some, xcJ_some, xcR_some, xu_ee, xu_rne, xu_kne, ite_self, not_true_eq_false, not_false_eq_true, ne_eq, true_and, and_true, false_and, and_false, m1_lt0, m1_eq0, eq_self, Bool.false_eq_true, reduceCtorEq, z_lt0, i1_eq0, i0_eq1, i1_eq1, xrZ0, xrZ1, xrZt, n32_eq0, n32_eq1, n32_gt0, n32_gt1, n32_lt1, n32_le1, n32_0le, tf0, tf1, xaI_of, q20a, q20b, q20m, q20l, q20g, q20r, q20s, q20e, hle, q1, ekX12_needOf_0_15, bX12_needOf_0, bX12_needOf_1, ekX12_needOf_2_19, ekX12_needOf_2_13, ekX12_needOf_2_9, bX12_needOf_3, bX12_needOf_4, ekX12_needOf_6_17, ekX12_needOf_6_9, bX12_needOf_7, bX12_needOf_8, bX12_needOf_9, bX12_needOf_10]
          rfl) (fun j hj hp => by
        refine (bX12_needOf_6 _ e L I1 J _ _ _ _ _).trans ?_
        have hle : 1 + j ≤ f := by omega
        have pcl := pc_le (1 + j)
        unfold okN at hp
        rw [hf] at hp
        simp only [Bool.and_eq_true, decide_eq_true_eq] at hp
        obtain ⟨⟨q1, q3⟩, q2⟩ := hp
        simp (disch := omega) only [n32_ltE, n32_leE, n32_eqE, n32_eqm, m1_eqn, n32_ge0, n32_lt0, n32_nat, n32_succ, n32_add, xin_n32, xin_b1, xin_b2, cond_true, cond_false, if_true, if_false, xcI_some, xcV_some, xcJ_some, xcR_some, xu_ee, xu_rne, xu_kne, ite_self, not_true_eq_false, not_false_eq_true, ne_eq, true_and, and_true, false_and, and_false, m1_lt0, m1_eq0, eq_self, Bool.false_eq_true, reduceCtorEq, z_lt0, i1_eq0, i0_eq1, i1_eq1, xrZ0, xrZ1, xrZt, n32_eq0, n32_eq1, n32_gt0, n32_gt1, n32_lt1, n32_le1, n32_0le, tf0, tf1, xaI_of, q20a, q20b, q20m, q20l, q20g, q20r, q20s, q20e, hle, q1, r_bitsIn, q2, r_counts hS hw hF1.1 ht, q3, ekX12_needOf_0_15, bX12_needOf_0, bX12_needOf_1, ekX12_needOf_2_19, ekX12_needOf_2_13, ekX12_needOf_2_9, bX12_needOf_3, bX12_needOf_4, ekX12_needOf_6_17, ekX12_needOf_6_9, bX12_needOf_7, bX12_needOf_8, bX12_needOf_9, bX12_needOf_10]) (by
        refine (bX12_needOf_6 _ e L I1 J _ _ _ _ _).trans ?_
        have hle : ¬ 1 + f ≤ f := by omega
        simp (disch := omega) only [n32_ltE, n32_leE, n32_eqE, n32_eqm, m1_eqn, n32_ge0, n32_lt0, n32_nat, n32_succ, n32_add, xin_n32, xin_b1, xin_b2, cond_true, cond_false, if_true, if_false, xcI_some, xcV_some, xcJ_some, xcR_some, xu_ee, xu_rne, xu_kne, ite_self, not_true_eq_false, not_false_eq_true, ne_eq, true_and, and_true, false_and, and_false, m1_lt0, m1_eq0, eq_self, Bool.false_eq_true, reduceCtorEq, z_lt0, i1_eq0, i0_eq1, i1_eq1, xrZ0, xrZ1, xrZt, n32_eq0, n32_eq1, n32_gt0, n32_gt1, n32_lt1, n32_le1, n32_0le, tf0, tf1, xaI_of, q20a, q20b, q20m, q20l, q20g, q20r, q20s, q20e, hle, ekX12_needOf_0_15, bX12_needOf_0, bX12_needOf_1, ekX12_needOf_2_19, ekX12_needOf_2_13, ekX12_needOf_2_9, bX12_needOf_3, bX12_needOf_4, ekX12_needOf_6_17, ekX12_needOf_6_9, bX12_needOf_7, bX12_needOf_8, bX12_needOf_9, bX12_needOf_10])
    rcases key with ⟨j, k1, k2, k3, k4⟩ | ⟨k1, k2⟩
    · rw [Bool.and_eq_true] at k2
      refine Or.inl ⟨1 + j, by omega, by omega, k2.1, of_decide_eq_true k2.2, fun y y1 y2 hq => ?_, k4⟩
      have := k3 (y - 1) (by omega)
      rw [show 1 + (y - 1) = y by omega, hq.1, hq.2] at this
      simp at this
    · refine Or.inr ⟨fun y y1 y2 hq => ?_, k2⟩
      have := k1 (y - 1) (by omega)
      rw [show 1 + (y - 1) = y by omega, hq.1, hq.2] at this
      simp at this
  have outer : ∀ j, j ≤ sV S → (∃ x, MN S s t x ∧ xlim (xcall xprog (d + 5)) mX12_needOf 5 [.ref 209, xD, .int (n32 t), .int (mk S s t), .int (n32 f), .int 1, xD] [] (xst e L I1 J) = some (some (.int (n32 (pc x))), xst e L (xu I1 209 39 (n32 x)) J)) ∨ ((∀ y, y < 256 → okN S s t y = true → j < pc y) ∧ xlim (xcall xprog (d + 5)) mX12_needOf 5 [.ref 209, xD, .int (n32 t), .int (mk S s t), .int (n32 f), .int 1, xD] [] (xst e L I1 J) = xlim (xcall xprog (d + 5)) mX12_needOf 5 [.ref 209, xD, .int (n32 t), .int (mk S s t), .int (n32 f), .int (n32 (1 + j)), xD] [] (xst e L I1 J)) := by
    intro j
    induction j with
    | zero => exact fun _ => Or.inr ⟨fun y hy hoy => pc_pos (okf y hy hoy).1 hy, rfl⟩
    | succ j ih =>
      intro hj
      rcases ih (by omega) with h | ⟨c1, c2⟩
      · exact Or.inl h
      · have e5 : xlim (xcall xprog (d + 5)) mX12_needOf 5 [.ref 209, xD, .int (n32 t), .int (mk S s t), .int (n32 f), .int (n32 (1 + j)), xD] [] (xst e L I1 J) = xlim (xcall xprog (d + 5)) mX12_needOf 6 [.ref 209, xD, .int (n32 t), .int (mk S s t), .int (n32 f), .int (n32 (1 + j)), .int 1] [] (xst e L I1 J) := by
          refine (bX12_needOf_5 _ e L I1 J _ _ _ _).trans ?_
          have hle : 1 + j ≤ sV S := by omega
          simp (disch := omega) only [n32_ltE, n32_leE, n32_eqE, n32_eqm, m1_eqn, n32_ge0, n32_lt0, n32_nat, n32_succ, n32_add, xin_n32, xin_b1, xin_b2, cond_true, cond_false, if_true, if_false, xcI_some, xcV_some, xcJ_some, xcR_some, xu_ee, xu_rne, xu_kne, ite_self, not_true_eq_false, not_false_eq_true, ne_eq, true_and, and_true, false_and, and_false, m1_lt0, m1_eq0, eq_self, Bool.false_eq_true, reduceCtorEq, z_lt0, i1_eq0, i0_eq1, i1_eq1, xrZ0, xrZ1, xrZt, n32_eq0, n32_eq1, n32_gt0, n32_gt1, n32_lt1, n32_le1, n32_0le, tf0, tf1, xaI_of, hS, wf_1 hw, hle]
        rcases inner (1 + j) (by omega) with ⟨x, x1, x2, x3, x4, x5, x6⟩ | ⟨x1, x2⟩
        · refine Or.inl ⟨x, ⟨by omega, x3, fun y hy hoy => ?_⟩, ?_⟩
          · have p1 := c1 y hy hoy
            have p2 := okf y hy hoy
            by_cases z : pc y = 1 + j
            · right
              refine ⟨by omega, ?_⟩
              by_cases z2 : y < x
              · exact absurd ⟨hoy, z⟩ (x5 y p2.1 z2)
              · omega
            · left
              omega
          · rw [x4]
            exact c2.trans (e5.trans x6)
        · refine Or.inr ⟨fun y hy hoy => ?_, c2.trans (e5.trans x2)⟩
          have p1 := c1 y hy hoy
          have p2 := okf y hy hoy
          by_cases z : pc y = 1 + j
          · exact absurd ⟨hoy, z⟩ (x1 y p2.1 p2.2)
          · omega
  rcases outer (sV S) (Nat.le_refl _) with ⟨x, x1, x2⟩ | ⟨c1, c2⟩
  · exact RR_eq x2 (RR_I ⟨rfl, mfr_x f1, Or.inl ⟨x, x1, rfl, xu_ee⟩⟩)
  · refine RR_eq (c2.trans (bX12_needOf_5 _ e L I1 J _ _ _ _)) ?_
    have hle : ¬ 1 + sV S ≤ sV S := by omega
    simp (disch := omega) only [n32_ltE, n32_leE, n32_eqE, n32_eqm, m1_eqn, n32_ge0, n32_lt0, n32_nat, n32_succ, n32_add, xin_n32, xin_b1, xin_b2, cond_true, cond_false, if_true, if_false, xcI_some, xcV_some, xcJ_some, xcR_some, xu_ee, xu_rne, xu_kne, ite_self, not_true_eq_false, not_false_eq_true, ne_eq, true_and, and_true, false_and, and_false, m1_lt0, m1_eq0, eq_self, Bool.false_eq_true, reduceCtorEq, z_lt0, i1_eq0, i0_eq1, i1_eq1, xrZ0, xrZ1, xrZt, n32_eq0, n32_eq1, n32_gt0, n32_gt1, n32_lt1, n32_le1, n32_0le, tf0, tf1, xaI_of, hS, wf_1 hw, hle, bX12_needOf_10]
    refine RR_I ⟨rfl, f1, Or.inr ⟨fun y hy => ?_, rfl⟩⟩
    cases q : okN S s t y with
    | false => rfl
    | true =>
      have p1 := c1 y hy q
      have p2 := ok_pc hw q
      omega
end NE
