/-! Codes of a sentence as a list. -/
abbrev Cd : Type := Nat × Int32 × Int32
def gc (P : List Cd) (i : Nat) : Cd := P.getD i (0, 0, 0)
def dpl (P : List Cd) : Nat → Nat
  | 0 => 0
  | i + 1 => if (gc P i).1 = 20 then dpl P i else if (gc P i).1 = 21 ∨ (gc P i).1 = 22 then dpl P i - 1 else dpl P i + 1
def okl (P : List Cd) (i : Nat) : Prop := ((gc P i).1 < 10 ∨ ((gc P i).1 = 20 ∧ 1 ≤ dpl P i) ∨ (((gc P i).1 = 21 ∨ (gc P i).1 = 22) ∧ 2 ≤ dpl P i)) ∧ ((gc P i).1 = 5 → ∃ b, b < 20 ∧ (gc P i).2.2 = n32 b) ∧ (6 ≤ (gc P i).1 → (gc P i).1 < 10 → ∃ g n, 60 ≤ g ∧ g ≤ 62 ∧ n < 1000 ∧ (gc P i).2.1 = n32 g ∧ (gc P i).2.2 = n32 n)
def good (P : List Cd) : Prop := ∀ i, i < P.length → okl P i
/-- how many truths lie ready behind all of them -/
def dpt (P : List Cd) : Nat := dpl P P.length
def ClS (P : List Cd) (I : TI) : Prop := I 119 1 = n32 P.length ∧ ∀ i, i < P.length → I 120 i = n32 (kdm (gc P i).1) ∧ I 121 i = (gc P i).2.1 ∧ I 122 i = (gc P i).2.2
def RfS (P : List Cd) (M : TI) : Prop := M 209 49 = n32 P.length ∧ ∀ i, i < P.length → M 213 (3 * i) = n32 (gc P i).1 ∧ M 213 (3 * i + 1) = (gc P i).2.1 ∧ M 213 (3 * i + 2) = (gc P i).2.2
def Stk (X : List Nat) (M : TI) : Prop := M 209 51 = n32 X.length ∧ ∀ i, i < X.length → M 227 i = n32 (X.getD i 0)
section COD
variable {d d' e L : Nat} {I K M M' : TI} {J N : TJ} {P Q R : List Cd} {X Y : List Nat} {c : Cd} {i j k m n a t dp : Nat} {x y till : Int32} {cf : xCF}
theorem gc_l (h : i < P.length) : gc (P ++ R) i = gc P i := by
  unfold gc
  rw [List.getD_eq_getElem?_getD, List.getD_eq_getElem?_getD, List.getElem?_append_left h]
theorem gc_e : gc (P ++ [c]) P.length = c := by
  unfold gc
  rw [List.getD_eq_getElem?_getD, List.getElem?_append_right (Nat.le_refl _), Nat.sub_self]
  rfl
theorem gd_l (h : i < X.length) : (X ++ Y).getD i 0 = X.getD i 0 := by
  rw [List.getD_eq_getElem?_getD, List.getD_eq_getElem?_getD, List.getElem?_append_left h]
theorem gd_e : (X ++ [a]).getD X.length 0 = a := by
  rw [List.getD_eq_getElem?_getD, List.getElem?_append_right (Nat.le_refl _), Nat.sub_self]
  rfl
theorem dpl_l (h : i ≤ P.length) : dpl (P ++ R) i = dpl P i := by
  induction i with
  | zero => rfl
  | succ i ih =>
    show (if _ then _ else if _ then _ else _) = (if _ then _ else if _ then _ else _)
    rw [gc_l (by omega), ih (by omega)]
theorem okl_l (h : i < P.length) (hk : okl P i) : okl (P ++ R) i := by
  unfold okl at hk ⊢
  rw [gc_l h, dpl_l (by omega)]
  exact hk
theorem good_a (h : good P) (h1 : c.1 < 10 ∨ (c.1 = 20 ∧ 1 ≤ dpt P) ∨ ((c.1 = 21 ∨ c.1 = 22) ∧ 2 ≤ dpt P)) (h2 : c.1 = 5 → ∃ b, b < 20 ∧ c.2.2 = n32 b) (h3 : 6 ≤ c.1 → c.1 < 10 → ∃ g n, 60 ≤ g ∧ g ≤ 62 ∧ n < 1000 ∧ c.2.1 = n32 g ∧ c.2.2 = n32 n) : good (P ++ [c]) := by
  intro i hi
  rw [List.length_append, List.length_singleton] at hi
  by_cases z : i < P.length
  · exact okl_l z (h i z)
  · have : i = P.length := by omega
    subst this
    unfold okl
    rw [gc_e, dpl_l (Nat.le_refl _)]
    exact ⟨h1, h2, h3⟩
theorem dpt_a : dpt (P ++ [c]) = if c.1 = 20 then dpt P else if c.1 = 21 ∨ c.1 = 22 then dpt P - 1 else dpt P + 1 := by
  unfold dpt
  rw [List.length_append, List.length_singleton]
  show (if _ then _ else if _ then _ else _) = _
  rw [gc_e, dpl_l (Nat.le_refl _)]
theorem c_addStep (h : ClS P I) (hl : P.length < 40) (hx : till = n32 (kdm a)) : ∃ K, xcall xprog (d + 1) 74 [.ref 119, .int till, .int x, .int y] (xst e L I J) = some (some (.int 1), xst e L K J) ∧ ClS (P ++ [(a, x, y)]) K ∧ K 119 0 = I 119 0 ∧ ∀ o, ¬ (119 ≤ o ∧ o < 123) → K o = I o := by
  subst hx
  obtain ⟨h1, h2⟩ := h
  refine ⟨xu (xu (xu (xu I 120 P.length (n32 (kdm a))) 121 P.length x) 122 P.length y) 119 1 (n32 (P.length + 1)), ?_, ⟨?_, fun i hi => ?_⟩, ?_, fun o z => ?_⟩
  · rw [aX7_addStep, bX7_addStep_0, h1, if_pos ((q40l (by omega)).mpr hl), bX7_addStep_1, h1, xin_n32 (by omega) hl, cond_true, cond_true, cond_true, n32_nat (by omega), n32_succ]
  · rw [xu_ee, List.length_append, List.length_singleton]
  · rw [List.length_append, List.length_singleton] at hi
    have k0 : (xu (xu (xu (xu I 120 P.length (n32 (kdm a))) 121 P.length x) 122 P.length y) 119 1 (n32 (P.length + 1))) 120 = up (I 120) P.length (n32 (kdm a)) := by rw [xu_rne (by decide), xu_rne (by decide), xu_rne (by decide), xu_row]
    have k1 : (xu (xu (xu (xu I 120 P.length (n32 (kdm a))) 121 P.length x) 122 P.length y) 119 1 (n32 (P.length + 1))) 121 = up (I 121) P.length x := by rw [xu_rne (by decide), xu_rne (by decide), xu_row, xu_rne (by decide)]
    have k2 : (xu (xu (xu (xu I 120 P.length (n32 (kdm a))) 121 P.length x) 122 P.length y) 119 1 (n32 (P.length + 1))) 122 = up (I 122) P.length y := by rw [xu_rne (by decide), xu_row, xu_rne (by decide), xu_rne (by decide)]
    rw [k0, k1, k2]
    by_cases z : i < P.length
    · rw [up_ne (by omega), up_ne (by omega), up_ne (by omega), gc_l z]
      exact h2 i z
    · have : i = P.length := by omega
      subst this
      rw [up_eq, up_eq, up_eq, gc_e]
      exact ⟨rfl, rfl, rfl⟩
  · rw [xu_kne (by decide), xu_rne (by decide), xu_rne (by decide), xu_rne (by decide)]
  · rw [xu_rne (by omega), xu_rne (by omega), xu_rne (by omega), xu_rne (by omega)]
theorem r_code (h : RfS P M) (hl : P.length < 45) (hx : till = n32 a) : ∃ K, xcall xprog (d + 1) 255 [.ref 209, .int till, .int x, .int y] (xst e L M N) = some (none, xst e L K N) ∧ RfS (P ++ [(a, x, y)]) K ∧ (∀ o, o ≠ 209 → o ≠ 213 → K o = M o) ∧ ∀ q, q ≠ 49 → K 209 q = M 209 q := by
  subst hx
  obtain ⟨h1, h2⟩ := h
  have e0 : (3 : Int32) * n32 P.length = n32 (3 * P.length) := n32_mul (a := 3)
  have e1 : n32 (3 * P.length) + 1 = n32 (3 * P.length + 1) := n32_succ
  have e2 : n32 (3 * P.length) + 2 = n32 (3 * P.length + 2) := n32_add (b := 2)
  refine ⟨xu (xu (xu (xu M 213 (3 * P.length) (n32 a)) 213 (3 * P.length + 1) x) 213 (3 * P.length + 2) y) 209 49 (n32 (P.length + 1)), ?_, ⟨?_, fun i hi => ?_⟩, fun o z1 z2 => ?_, fun q z => ?_⟩
  · rw [aX12_code, bX12_code_0, h1, e0, e1, e2, xin_n32 (by omega) (show 3 * P.length < 135 by omega), xin_n32 (by omega) (show 3 * P.length + 1 < 135 by omega), xin_n32 (by omega) (show 3 * P.length + 2 < 135 by omega), cond_true, cond_true, cond_true, n32_nat (by omega), n32_nat (by omega), n32_nat (by omega), n32_succ]
  · rw [xu_ee, List.length_append, List.length_singleton]
  · rw [List.length_append, List.length_singleton] at hi
    rw [xu_rne (by decide)]
    by_cases z : i < P.length
    · rw [xu_kne (by omega), xu_kne (by omega), xu_kne (by omega), xu_kne (by omega), xu_kne (by omega), xu_kne (by omega), xu_kne (by omega), xu_kne (by omega), xu_kne (by omega), gc_l z]
      exact h2 i z
    · have : i = P.length := by omega
      subst this
      rw [xu_kne (by omega), xu_kne (by omega), xu_ee, xu_kne (by omega), xu_ee, xu_ee, gc_e]
      exact ⟨rfl, rfl, rfl⟩
  · rw [xu_rne z1, xu_rne z2, xu_rne z2, xu_rne z2]
  · rw [xu_kne z, xu_rne (by decide), xu_rne (by decide), xu_rne (by decide)]
theorem Stk_c (h1 : M' 209 51 = M 209 51) (h2 : M' 227 = M 227) (h : Stk X M) : Stk X M' := ⟨h1.trans h.1, by rw [h2]; exact h.2⟩
theorem RfS_c (h1 : M' 209 49 = M 209 49) (h2 : M' 213 = M 213) (h : RfS P M) : RfS P M' := ⟨h1.trans h.1, by rw [h2]; exact h.2⟩
theorem ClS_c (h : ∀ o, 119 ≤ o → o < 123 → K o = I o) (hP : ClS P I) : ClS P K := ⟨by rw [h 119 (by omega) (by omega)]; exact hP.1, by rw [h 120 (by omega) (by omega), h 121 (by omega) (by omega), h 122 (by omega) (by omega)]; exact hP.2⟩
/-- the cells of the reference that a sentence's codes change -/
def pR (M' M : TI) : Prop := (∀ o, o ≠ 209 → o ≠ 213 → o ≠ 227 → M' o = M o) ∧ ∀ q, ¬ (49 ≤ q ∧ q ≤ 53) → M' 209 q = M 209 q
theorem pR_r : pR M M := ⟨fun _ _ _ _ => rfl, fun _ _ => rfl⟩
theorem pR_t {M2 : TI} (h : pR M' M) (h' : pR M2 M') : pR M2 M := ⟨fun o z1 z2 z3 => (h'.1 o z1 z2 z3).trans (h.1 o z1 z2 z3), fun q z => (h'.2 q z).trans (h.2 q z)⟩
/-- one is taken off the stack -/
theorem Stk_pop (h : Stk (X ++ [a]) M) (h1 : M' 209 51 = n32 X.length) (h2 : M' 227 = M 227) : Stk X M' := ⟨h1, fun i hi => by rw [h2, h.2 i (by rw [List.length_append, List.length_singleton]; omega), gd_l hi]⟩
theorem Stk_push (h : Stk X M) (h1 : M' 209 51 = n32 (X.length + 1)) (h2 : M' 227 = up (M 227) X.length (n32 a)) : Stk (X ++ [a]) M' := by
  refine ⟨by rw [h1, List.length_append, List.length_singleton], fun i hi => ?_⟩
  rw [List.length_append, List.length_singleton] at hi
  rw [h2]
  by_cases z : i < X.length
  · rw [up_ne (by omega), gd_l z, h.2 i z]
  · have : i = X.length := by omega
    subst this
    rw [up_eq, gd_e]
theorem Stk_top (h : Stk (X ++ [a]) M) : M 209 51 = n32 (X.length + 1) ∧ M 227 X.length = n32 a := ⟨by rw [h.1, List.length_append, List.length_singleton], by rw [h.2 _ (by rw [List.length_append, List.length_singleton]; omega), gd_e]⟩
/-- the stack's top is no NOT, no AND, no OR -/
def clr (X : List Nat) (a : Nat) : Prop := ∀ Y, X ≠ Y ++ [a]
theorem clr_top (h : Stk X M) (hc : clr X a) (h0 : X.length ≠ 0) (ha : a < 100) (hX : ∀ b, b ∈ X → b < 100) : ∃ b, M 209 51 = n32 (X.length - 1 + 1) ∧ M 227 (X.length - 1) = n32 b ∧ b ≠ a ∧ b < 100 := by
  have hn : X ≠ [] := fun z => h0 (by rw [z]; rfl)
  have e := List.dropLast_concat_getLast hn
  refine ⟨X.getLast hn, ?_, ?_, fun z => hc X.dropLast (by rw [← z]; exact e.symm), hX _ (List.getLast_mem hn)⟩
  · rw [h.1, Nat.sub_add_cancel (by omega)]
  · rw [← e] at h
    have := (Stk_top h).2
    rw [List.length_dropLast] at this
    exact this
end COD
