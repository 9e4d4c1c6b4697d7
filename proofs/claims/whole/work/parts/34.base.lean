/-! Numbers and loops. -/
abbrev n32 (i : Nat) : Int32 := Int32.ofNat i
theorem n32_toInt {a : Nat} (h : a < 2147483648) : (n32 a).toInt = (a : Int) := Int32.toInt_ofNat_of_lt h
theorem n32_nat {a : Nat} (h : a < 2147483648) : (n32 a).toNatClampNeg = a := by
  show (n32 a).toInt.toNat = a
  rw [n32_toInt h]
  rfl
theorem n32_lt {a b : Nat} (ha : a < 2147483648) (hb : b < 2147483648) : n32 a < n32 b ↔ a < b := by
  rw [Int32.lt_iff_toInt_lt, n32_toInt ha, n32_toInt hb]
  omega
theorem n32_le {a b : Nat} (ha : a < 2147483648) (hb : b < 2147483648) : n32 a ≤ n32 b ↔ a ≤ b := by
  rw [Int32.le_iff_toInt_le, n32_toInt ha, n32_toInt hb]
  omega
theorem n32_inj {a b : Nat} (ha : a < 2147483648) (hb : b < 2147483648) : n32 a = n32 b ↔ a = b := by
  constructor
  · intro h
    have := congrArg Int32.toInt h
    rw [n32_toInt ha, n32_toInt hb] at this
    omega
  · intro h; rw [h]
theorem n32_neg {a : Nat} (ha : a < 2147483648) : ¬ n32 a < 0 := by
  rw [show (0 : Int32) = n32 0 from rfl, n32_lt ha (by omega)]
  omega
theorem n32_add {a b : Nat} : n32 a + n32 b = n32 (a + b) := (Int32.ofNat_add a b).symm
theorem n32_succ {a : Nat} : n32 a + 1 = n32 (a + 1) := (Int32.ofNat_add a 1).symm
theorem n32_ne1 {a : Nat} (ha : a < 2147483648) : n32 a ≠ -1 := by
  intro h
  exact n32_neg ha (by rw [h]; decide)
theorem xin_n32 {a n : Nat} (ha : a < 2147483648) (h : a < n) : xin (n32 a) n = true := by
  unfold xin
  rw [n32_nat ha]
  simp [n32_neg ha, h]
/-- a loop's rounds: the same answer all along -/
theorem xfor {α β : Type} (f : Nat → α → β) (P : Nat → α → Prop) {n : Nat} (h : ∀ i a, i < n → P i a → ∃ a', f i a = f (i + 1) a' ∧ P (i + 1) a') : ∀ a, P 0 a → ∃ a', f 0 a = f n a' ∧ P n a' := by
  induction n with
  | zero => exact fun a ha => ⟨a, rfl, ha⟩
  | succ n ih =>
    intro a ha
    obtain ⟨a', h1, h2⟩ := ih (fun i a hi => h i a (by omega)) a ha
    obtain ⟨b, h3, h4⟩ := h n a' (by omega) h2
    exact ⟨b, h1.trans h3, h4⟩
/-- the same, with a way out -/
theorem xforx {α β : Type} (f : Nat → α → β) (P : Nat → α → Prop) (Z : β → Prop) {n : Nat} (h : ∀ i a, i < n → P i a → (∃ a', f i a = f (i + 1) a' ∧ P (i + 1) a') ∨ Z (f i a)) : ∀ a, P 0 a → (∃ a', f 0 a = f n a' ∧ P n a') ∨ Z (f 0 a) := by
  induction n with
  | zero => exact fun a ha => Or.inl ⟨a, rfl, ha⟩
  | succ n ih =>
    intro a ha
    rcases ih (fun i a hi => h i a (by omega)) a ha with ⟨a', h1, h2⟩ | h1
    · rcases h n a' (by omega) h2 with ⟨b, h3, h4⟩ | h3
      · exact Or.inl ⟨b, h1.trans h3, h4⟩
      · exact Or.inr (by rw [h1]; exact h3)
    · exact Or.inr h1
/-- the same as a function -/
def xfold {α : Type} (g : Nat → α → α) : Nat → α → α
  | 0, a => a
  | n + 1, a => g n (xfold g n a)
theorem xfor_fold {α β : Type} (f : Nat → α → β) (g : Nat → α → α) {n : Nat} (h : ∀ i a, i < n → f i a = f (i + 1) (g i a)) (a : α) : f 0 a = f n (xfold g n a) := by
  induction n with
  | zero => rfl
  | succ n ih => exact (ih (fun i a hi => h i a (by omega))).trans (h n _ (by omega))
/-- the first place below n where p holds, or -1 -/
def xfind (p : Nat → Bool) : Nat → Int32
  | 0 => -1
  | n + 1 => if xfind p n = -1 then (bif p n then n32 n else -1) else xfind p n
theorem xcI_some {x : Int32} {σ : xS} {c : Int32 → xS → Option xOut} : xcI (some (some (.int x), σ)) c = c x σ := rfl
theorem xcJ_some {x : Int64} {σ : xS} {c : Int64 → xS → Option xOut} : xcJ (some (some (.long x), σ)) c = c x σ := rfl
theorem xcR_some {x : Nat} {σ : xS} {c : Nat → xS → Option xOut} : xcR (some (some (.ref x), σ)) c = c x σ := rfl
