/-! The reference's stack of a sentence. -/
def nt (k : Nat) : List Cd := List.replicate k (20, 0, 0)
def n20 (k : Nat) : List Nat := List.replicate k 20
section STK
variable {d d' e L : Nat} {I K M M' : TI} {J N : TJ} {P Q R : List Cd} {X Y : List Nat} {c : Cd} {i j k m n a t dp : Nat} {x y till : Int32} {cf : xCF}
theorem n20_s : X ++ n20 (k + 1) = (X ++ n20 k) ++ [20] := by
  unfold n20
  rw [List.replicate_succ', List.append_assoc]
theorem nt_s : (Q ++ [(20, 0, 0)]) ++ nt k = Q ++ nt (k + 1) := by
  unfold nt
  rw [List.replicate_succ, List.append_assoc]
  rfl
theorem nt_e : (Q ++ nt k) ++ [(20, 0, 0)] = Q ++ nt (k + 1) := by
  unfold nt
  rw [List.replicate_succ', List.append_assoc]
theorem l1 {α : Type} {A : List α} {b : α} : (A ++ [b]).length = A.length + 1 := by rw [List.length_append, List.length_singleton]
theorem nt_len : (Q ++ nt k).length = Q.length + k := by unfold nt; rw [List.length_append, List.length_replicate]
theorem n20_len : (X ++ n20 k).length = X.length + k := by unfold n20; rw [List.length_append, List.length_replicate]
theorem r_nots : ∀ k (Q : List Cd) (M : TI), Stk (X ++ n20 k) M → RfS Q M → Q.length + k < 45 → X.length + k < 45 → M 209 52 = n32 (dp + k) → dp + k < 1000 → clr X 20 → (∀ b, b ∈ X → b < 100) → ∃ M', xlim (xcall xprog (d + 1)) mX12_nots 0 [.ref 209] [] (xst e L M N) = some (none, xst e L M' N) ∧ Stk X M' ∧ RfS (Q ++ nt k) M' ∧ M' 209 52 = n32 dp ∧ (∀ q, 50 ≤ q → q ≤ 53 → q ≠ 51 → q ≠ 52 → M' 209 q = M 209 q) ∧ pR M' M := by
  intro k
  induction k with
  | zero =>
    intro Q M hX hQ h1 h2 h52 h9 hc hb
    have hX' : Stk X M := by
      unfold n20 at hX
      rw [List.replicate_zero, List.append_nil] at hX
      exact hX
    refine ⟨M, ?_, hX', by unfold nt; rw [List.replicate_zero, List.append_nil]; exact hQ, h52, fun _ _ _ _ _ => rfl, pR_r⟩
    by_cases z : X.length = 0
    · rw [bX12_nots_0, hX'.1, z, if_pos (show n32 0 ≤ 0 by decide), bX12_nots_1]
    · obtain ⟨b, b1, b2, b3, b4⟩ := clr_top hX' hc z (by omega) hb
      have q1 : ¬ n32 (X.length - 1 + 1) ≤ 0 := fun y => absurd ((n32_ge0 (by omega)).mp y) (by omega)
      have e1 : n32 (X.length - 1 + 1) - 1 = n32 (X.length - 1) := n32_sub (b := 1) (by omega)
      have q2 : ¬ n32 b = 20 := lit_ne (b := 20) (by omega) (by omega) b3
      rw [bX12_nots_0, b1, if_neg q1, e1, xin_n32 (by omega) (show X.length - 1 < 45 by omega), cond_true, n32_nat (by omega), b2, if_neg q2, bX12_nots_1]
  | succ k ih =>
    intro Q M hX hQ h1 h2 h52 h9 hc hb
    rw [n20_s] at hX
    obtain ⟨t1, t2⟩ := Stk_top hX
    rw [n20_len] at t1 t2
    have q1 : ¬ n32 (X.length + k + 1) ≤ 0 := fun y => absurd ((n32_ge0 (by omega)).mp y) (by omega)
    have e1 : n32 (X.length + k + 1) - 1 = n32 (X.length + k) := n32_sub (b := 1) (by omega)
    have e2 : n32 (dp + (k + 1)) - 1 = n32 (dp + k) := n32_sub (b := 1) (by omega)
    have q2 : n32 20 = 20 := rfl
    generalize hMa : xu (xu M 209 51 (n32 (X.length + k))) 209 52 (n32 (dp + k)) = Ma
    have ma : ∀ o, o ≠ 209 → Ma o = M o := fun o z => by rw [← hMa, xu_rne z, xu_rne z]
    have m9 : ∀ q, q ≠ 51 → q ≠ 52 → Ma 209 q = M 209 q := fun q z1 z2 => by rw [← hMa, xu_kne z2, xu_kne z1]
    have m51 : Ma 209 51 = n32 (X.length + k) := by rw [← hMa, xu_kne (by decide), xu_ee]
    have m52 : Ma 209 52 = n32 (dp + k) := by rw [← hMa, xu_ee]
    obtain ⟨Mb, b1, b2, b3, b4⟩ := r_code (d := d) (e := e) (L := L) (N := N) (a := 20) (x := 0) (y := 0) (till := 20) (RfS_c (m9 49 (by omega) (by omega)) (ma 213 (by omega)) hQ) (by omega) rfl
    obtain ⟨M', c1, c2, c3, c4, c5, c6⟩ := ih (Q ++ [(20, 0, 0)]) Mb (Stk_pop hX (by rw [b4 51 (by omega), m51, n20_len]) ((b3 227 (by omega) (by omega)).trans (ma 227 (by omega)))) b2 (by rw [l1]; omega) (by omega) (by rw [b4 52 (by omega), m52]) (by omega) hc hb
    refine ⟨M', ?_, c2, by rw [← nt_s]; exact c3, c4, fun q z1 z2 z3 z4 => by rw [c5 q z1 z2 z3 z4, b4 q (by omega), m9 q z3 z4], ?_⟩
    · rw [bX12_nots_0, t1, if_neg q1, e1, xin_n32 (by omega) (show X.length + k < 45 by omega), cond_true, n32_nat (by omega), t2, if_pos q2, h52, e2, hMa, b1, xcV_some, ekX12_nots_0_28, c1]
    · refine ⟨fun o z1 z2 z3 => by rw [c6.1 o z1 z2 z3, b3 o z1 z2, ma o z1], fun q z => by rw [c6.2 q z, b4 q (by omega), m9 q (by omega) (by omega)]⟩
/-- a joining word is taken off the stack -/
theorem r_join1 (ha : a = 21 ∨ (a = 22 ∧ till = 22)) (hX : Stk (X ++ [a]) M) (hQ : RfS Q M) (h1 : Q.length < 45) (h2 : X.length < 45) : ∃ M', xlim (xcall xprog (d + 1)) mX12_joins 0 [.ref 209, .int till] [] (xst e L M N) = xlim (xcall xprog (d + 1)) mX12_joins 0 [.ref 209, .int till] [] (xst e L M' N) ∧ Stk X M' ∧ RfS (Q ++ [(a, 0, 0)]) M' ∧ (∀ q, 50 ≤ q → q ≤ 53 → q ≠ 51 → M' 209 q = M 209 q) ∧ pR M' M := by
  obtain ⟨t1, t2⟩ := Stk_top hX
  have q1 : ¬ n32 (X.length + 1) ≤ 0 := fun y => absurd ((n32_ge0 (by omega)).mp y) (by omega)
  have e1 : n32 (X.length + 1) - 1 = n32 X.length := n32_sub (b := 1) (by omega)
  have x1 : xin (n32 X.length) 45 = true := xin_n32 (by omega) (by omega)
  have step : xlim (xcall xprog (d + 1)) mX12_joins 0 [.ref 209, .int till] [] (xst e L M N) = xlim (xcall xprog (d + 1)) mX12_joins 1 [.ref 209, .int till] [] (xst e L M N) := by
    rw [bX12_joins_0, t1, if_neg q1, e1, x1, cond_true, cond_true, n32_nat (by omega), t2]
    rcases ha with rfl | ⟨rfl, rfl⟩
    · rw [if_pos (show n32 21 = 21 from rfl)]
    · rw [if_neg (show ¬ n32 22 = 21 by decide), if_pos (show n32 22 = 22 from rfl), if_pos (show (22 : Int32) = 22 from rfl)]
  generalize hMa : xu M 209 51 (n32 X.length) = Ma
  have ma : ∀ o, o ≠ 209 → Ma o = M o := fun o z => by rw [← hMa, xu_rne z]
  have m9 : ∀ q, q ≠ 51 → Ma 209 q = M 209 q := fun q z => by rw [← hMa, xu_kne z]
  obtain ⟨Mb, b1, b2, b3, b4⟩ := r_code (d := d) (e := e) (L := L) (N := N) (a := a) (x := 0) (y := 0) (till := n32 a) (RfS_c (m9 49 (by omega)) (ma 213 (by omega)) hQ) h1 rfl
  refine ⟨Mb, ?_, Stk_pop hX (by rw [b4 51 (by omega), ← hMa, xu_ee]) ((b3 227 (by omega) (by omega)).trans (ma 227 (by omega))), b2, fun q z1 z2 z3 => by rw [b4 q (by omega), m9 q z3], ⟨fun o z1 z2 z3 => by rw [b3 o z1 z2, ma o z1], fun q z => by rw [b4 q (by omega), m9 q (by omega)]⟩⟩
  rw [step, bX12_joins_1, t1, e1, x1, cond_true, n32_nat (by omega), hMa, t2, b1, xcV_some, ekX12_joins_1_14]
theorem r_join0 (hX : Stk X M) (h2 : X.length < 45) (hb : ∀ b, b ∈ X → b < 100) (h21 : clr X 21) (h22 : clr X 22 ∨ ¬ till = 22) : xlim (xcall xprog (d + 1)) mX12_joins 0 [.ref 209, .int till] [] (xst e L M N) = some (none, xst e L M N) := by
  by_cases z : X.length = 0
  · rw [bX12_joins_0, hX.1, z, if_pos (show n32 0 ≤ 0 by decide), bX12_joins_2]
  · obtain ⟨b, b1, b2, b3, b4⟩ := clr_top hX h21 z (by omega) hb
    have q1 : ¬ n32 (X.length - 1 + 1) ≤ 0 := fun y => absurd ((n32_ge0 (by omega)).mp y) (by omega)
    have e1 : n32 (X.length - 1 + 1) - 1 = n32 (X.length - 1) := n32_sub (b := 1) (by omega)
    have q2 : ¬ n32 b = 21 := lit_ne (b := 21) (by omega) (by omega) b3
    rw [bX12_joins_0, b1, if_neg q1, e1, xin_n32 (by omega) (show X.length - 1 < 45 by omega), cond_true, cond_true, n32_nat (by omega), b2, if_neg q2]
    rcases h22 with h22 | h22
    · obtain ⟨b', c1, c2, c3, c4⟩ := clr_top hX h22 z (by omega) hb
      rw [b2] at c2
      have q3 : ¬ n32 b = 22 := by rw [c2]; exact lit_ne (b := 22) (by omega) (by omega) c3
      rw [if_neg q3, bX12_joins_2]
    · by_cases y : n32 b = 22
      · rw [if_pos y, if_neg h22, bX12_joins_2]
      · rw [if_neg y, bX12_joins_2]
/-- what waits on the stack: an OR, an AND -/
def wt2 (ow aw : Bool) : List Nat := (if ow = true then [22] else []) ++ (if aw = true then [21] else [])
def fl2 (ow aw : Bool) : List Cd := (if aw = true then [(21, 0, 0)] else []) ++ (if ow = true then [(22, 0, 0)] else [])
theorem r_joinA {ow aw : Bool} (hX : Stk (X ++ wt2 ow aw) M) (hQ : RfS Q M) (h1 : Q.length + 2 < 45) (h2 : X.length + 2 < 45) (hb : ∀ b, b ∈ X → b < 100) (h21 : clr X 21) (h22 : clr X 22) : ∃ M', xcall xprog (d + 2) 256 [.ref 209, .int 22] (xst e L M N) = some (none, xst e L M' N) ∧ Stk X M' ∧ RfS (Q ++ fl2 ow aw) M' ∧ (∀ q, 50 ≤ q → q ≤ 53 → q ≠ 51 → M' 209 q = M 209 q) ∧ pR M' M := by
  rw [aX12_joins]
  have low : ∀ (M : TI) (Q : List Cd), Stk (X ++ (if ow = true then [22] else [])) M → RfS Q M → Q.length + 1 < 45 → ∃ M', xlim (xcall xprog (d + 1)) mX12_joins 0 [.ref 209, .int 22] [] (xst e L M N) = some (none, xst e L M' N) ∧ Stk X M' ∧ RfS (Q ++ (if ow = true then [(22, 0, 0)] else [])) M' ∧ (∀ q, 50 ≤ q → q ≤ 53 → q ≠ 51 → M' 209 q = M 209 q) ∧ pR M' M := fun M Q hX hQ hl => by
    cases ow with
    | false =>
      rw [if_neg Bool.false_ne_true, List.append_nil] at hX
      refine ⟨M, r_join0 hX (by omega) hb h21 (Or.inl h22), hX, ?_, fun _ _ _ _ => rfl, pR_r⟩
      rw [if_neg Bool.false_ne_true, List.append_nil]
      exact hQ
    | true =>
      rw [if_pos rfl] at hX
      obtain ⟨M', a1, a2, a3, a4, a5⟩ := r_join1 (d := d) (e := e) (L := L) (N := N) (till := 22) (Or.inr ⟨rfl, rfl⟩) hX hQ (by omega) (by omega)
      refine ⟨M', a1.trans (r_join0 a2 (by omega) hb h21 (Or.inl h22)), a2, ?_, a4, a5⟩
      rw [if_pos rfl]
      exact a3
  cases aw with
  | false =>
    have e1 : X ++ wt2 ow false = X ++ (if ow = true then [22] else []) := by unfold wt2; rw [if_neg Bool.false_ne_true, List.append_nil]
    have e2 : fl2 ow false = (if ow = true then [(22, 0, 0)] else []) := by unfold fl2; rw [if_neg Bool.false_ne_true, List.nil_append]
    rw [e1] at hX
    rw [e2]
    exact low M Q hX hQ (by omega)
  | true =>
    have e1 : X ++ wt2 ow true = (X ++ (if ow = true then [22] else [])) ++ [21] := by unfold wt2; rw [if_pos (show true = true from rfl), List.append_assoc]
    have e2 : Q ++ fl2 ow true = (Q ++ [(21, 0, 0)]) ++ (if ow = true then [(22, 0, 0)] else []) := by unfold fl2; rw [if_pos (show true = true from rfl), List.append_assoc]
    rw [e1] at hX
    rw [e2]
    have hlen : (X ++ (if ow = true then [22] else [])).length < 45 := by
      cases ow
      · rw [if_neg Bool.false_ne_true, List.append_nil]; omega
      · rw [if_pos rfl, l1]; omega
    obtain ⟨M1, a1, a2, a3, a4, a5⟩ := r_join1 (d := d) (e := e) (L := L) (N := N) (till := 22) (Or.inl rfl) hX hQ (by omega) hlen
    obtain ⟨M', b1, b2, b3, b4, b5⟩ := low M1 (Q ++ [(21, 0, 0)]) a2 a3 (by rw [l1]; omega)
    exact ⟨M', a1.trans b1, b2, b3, fun q z1 z2 z3 => (b4 q z1 z2 z3).trans (a4 q z1 z2 z3), pR_t a5 b5⟩
/-- with an AND at hand only an AND is taken off -/
theorem r_joinB {ow aw : Bool} (hX : Stk (X ++ wt2 ow aw) M) (hQ : RfS Q M) (h1 : Q.length + 2 < 45) (h2 : X.length + 2 < 45) (hb : ∀ b, b ∈ X → b < 100) (h21 : clr X 21) : ∃ M', xcall xprog (d + 2) 256 [.ref 209, .int 21] (xst e L M N) = some (none, xst e L M' N) ∧ Stk (X ++ wt2 ow false) M' ∧ RfS (Q ++ fl2 false aw) M' ∧ (∀ q, 50 ≤ q → q ≤ 53 → q ≠ 51 → M' 209 q = M 209 q) ∧ pR M' M := by
  rw [aX12_joins]
  have e0 : X ++ wt2 ow false = X ++ (if ow = true then [22] else []) := by unfold wt2; rw [if_neg Bool.false_ne_true, List.append_nil]
  have hlen : (X ++ (if ow = true then [22] else [])).length < 45 := by
    cases ow
    · rw [if_neg Bool.false_ne_true, List.append_nil]; omega
    · rw [if_pos rfl, l1]; omega
  have hb2 : ∀ b, b ∈ X ++ (if ow = true then [22] else []) → b < 100 := fun b hm => by
    rcases List.mem_append.mp hm with z | z
    · exact hb b z
    · cases ow
      · rw [if_neg Bool.false_ne_true] at z; cases z
      · rw [if_pos rfl, List.mem_singleton] at z; omega
  have hc2 : clr (X ++ (if ow = true then [22] else [])) 21 := by
    cases ow
    · rw [if_neg Bool.false_ne_true, List.append_nil]; exact h21
    · rw [if_pos rfl]
      intro Y z
      have := congrArg List.getLast? z
      rw [List.getLast?_concat, List.getLast?_concat] at this
      injection this with this
      omega
  have n22 : ¬ (21 : Int32) = 22 := by decide
  cases aw with
  | false =>
    rw [e0] at hX ⊢
    refine ⟨M, r_join0 hX hlen hb2 hc2 (Or.inr n22), hX, ?_, fun _ _ _ _ => rfl, pR_r⟩
    have : fl2 false false = [] := rfl
    rw [this, List.append_nil]
    exact hQ
  | true =>
    have e1 : X ++ wt2 ow true = (X ++ (if ow = true then [22] else [])) ++ [21] := by unfold wt2; rw [if_pos (show true = true from rfl), List.append_assoc]
    rw [e1] at hX
    rw [e0]
    obtain ⟨M1, a1, a2, a3, a4, a5⟩ := r_join1 (d := d) (e := e) (L := L) (N := N) (till := 21) (Or.inl rfl) hX hQ (by omega) hlen
    exact ⟨M1, a1.trans (r_join0 a2 hlen hb2 hc2 (Or.inr n22)), a2, a3, a4, a5⟩
end STK
