/-! The call said on both sides. -/
/-- the block that is number x of those with p, below n -/
def fnd (p : Nat → Bool) (x : Int32) : Nat → Int32
  | 0 => -1
  | n + 1 => if fnd p x n = -1 then (if p n = true then (if n32 (cntN p n) = x then n32 n else -1) else -1) else fnd p x n
section SAX
variable {d e L : Nat} {S S' X Y : TS} {N N' : Nat → Int64} {I K M : TI} {J J' J2 : TJ} {a b c s t u v k i n r m o q w j : Nat} {p p' : Nat → Bool} {x : Int32}
theorem n32_m1 (h : i < 1000) : ¬ n32 i = -1 := fun z => by
  have h1 : (n32 i).toInt = (-1 : Int32).toInt := by rw [z]
  have h2 : (n32 i).toNatClampNeg = (-1 : Int32).toNatClampNeg := by rw [z]
  rw [n32_nat (by omega)] at h2
  have : i = 0 := by rw [h2]; decide
  subst this
  exact absurd z (by decide)
theorem fnd_s : fnd p x (n + 1) = if fnd p x n = -1 then (if p n = true then (if n32 (cntN p n) = x then n32 n else -1) else -1) else fnd p x n := rfl
theorem fnd_hit (hi : i < 1000) (h0 : fnd p x i = -1) (h1 : p i = true) (h2 : n32 (cntN p i) = x) : ∀ m, fnd p x (i + 1 + m) = n32 i := by
  intro m
  induction m with
  | zero => rw [Nat.add_zero, fnd_s, if_pos h0, if_pos h1, if_pos h2]
  | succ m ih =>
    show fnd p x (i + 1 + m + 1) = _
    rw [fnd_s, ih, if_neg (n32_m1 hi)]
theorem fnd_on (h0 : fnd p x i = -1) (h : ¬ (p i = true ∧ n32 (cntN p i) = x)) : fnd p x (i + 1) = -1 := by
  rw [fnd_s, if_pos h0]
  by_cases q : p i = true
  · rw [if_pos q, if_neg (fun z => h ⟨q, z⟩)]
  · rw [if_neg q]
theorem cnt_c (h : ∀ k, k < n → p k = p' k) : cntN p n = cntN p' n := by
  induction n with
  | zero => rfl
  | succ n ih => rw [cntN_s, cntN_s, ih (fun k hk => h k (by omega)), h n (by omega)]
theorem cnt_o (h : ∀ k, n ≤ k → k < n + m → p k = false) : cntN p (n + m) = cntN p n := by
  induction m with
  | zero => rfl
  | succ m ih =>
    show cntN p (n + m + 1) = _
    rw [cntN_s, ih (fun k z1 z2 => h k z1 (by omega)), h (n + m) (by omega) (by omega)]
    rfl
theorem fnd_c (h : ∀ k, k < n → p k = p' k) : fnd p x n = fnd p' x n := by
  induction n with
  | zero => rfl
  | succ n ih => rw [fnd_s, fnd_s, ih (fun k hk => h k (by omega)), h n (by omega), cnt_c (fun k hk => h k (by omega))]
theorem fnd_o (h : ∀ k, n ≤ k → k < n + m → p k = false) : fnd p x (n + m) = fnd p x n := by
  induction m with
  | zero => rfl
  | succ m ih =>
    show fnd p x (n + m + 1) = _
    rw [fnd_s, ih (fun k z1 z2 => h k z1 (by omega)), h (n + m) (by omega) (by omega)]
    by_cases q : fnd p x n = -1
    · rw [if_pos q, if_neg (by decide), q]
    · rw [if_neg q]
theorem cnt_le : cntN p n ≤ n := by
  induction n with
  | zero => exact Nat.le_refl _
  | succ n ih => rw [cntN_s]; split <;> omega
theorem c_placeOfBit {z : Int32} : xcall xprog (d + 1) 154 [.int z, .int x] (xst e L I J) = some (some (.int (fnd (bt z) x 20)), xst e L I J) := by
  refine (aX11_placeOfBit _ e L I J _ _).trans ((bX11_placeOfBit_0 _ e L I J _ _).trans ?_)
  have main : ∀ m i, i + m = 20 → fnd (bt z) x i = -1 → xlim (xcall xprog d) mX11_placeOfBit 1 [.int z, .int x, .int (n32 (cntN (bt z) i)), .int (n32 i)] [] (xst e L I J) = some (some (.int (fnd (bt z) x 20)), xst e L I J) := by
    intro m
    induction m with
    | zero =>
      intro i hi h0
      have : i = 20 := by omega
      subst this
      refine (bX11_placeOfBit_1 _ e L I J _ _ _ _).trans ((if_neg (by decide)).trans ?_)
      rw [bX11_placeOfBit_4, h0]
    | succ m ih =>
      intro i hi h0
      refine (bX11_placeOfBit_1 _ e L I J _ _ _ _).trans ((if_pos ((n32_lt (b := 20) (by omega) (by omega)).mpr (by omega))).trans ?_)
      rw [bt_test _ (by omega)]
      cases hp : bt z i
      · refine (if_neg (by decide)).trans ?_
        rw [bX11_placeOfBit_3, n32_succ]
        have ec : cntN (bt z) (i + 1) = cntN (bt z) i := by rw [cntN_s, hp]; rfl
        rw [← ec]
        exact ih (i + 1) (by omega) (fnd_on h0 (fun z => by rw [hp] at z; exact absurd z.1 (by decide)))
      · refine (if_pos (by decide)).trans ?_
        by_cases q : n32 (cntN (bt z) i) = x
        · rw [if_pos q]
          have := fnd_hit (by omega) h0 hp q m
          rw [show i + 1 + m = 20 by omega] at this
          rw [this]
        · rw [if_neg q, bX11_placeOfBit_2, bX11_placeOfBit_3, n32_succ, n32_succ]
          have ec : cntN (bt z) (i + 1) = cntN (bt z) i + 1 := by rw [cntN_s, hp]; rfl
          rw [← ec]
          exact ih (i + 1) (by omega) (fnd_on h0 (fun z => q z.2))
  exact main 20 0 (by omega) rfl
end SAX
