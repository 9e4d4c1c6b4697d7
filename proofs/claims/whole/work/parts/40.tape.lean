/-! Bytes put behind one another: the tape, and the latest tag. -/
def pl (o f r : Nat) : Nat → (Nat → Nat → Int32) → List Int32 → Nat → Nat → Int32
  | _, I, [] => I
  | n, I, v :: vs => pl o f r (n + 1) (xu (xu I r n v) o f (n32 (n + 1))) vs
section PL
variable {o f r : Nat}
theorem pl_fr {a : Nat} (h1 : a ≠ o) (h2 : a ≠ r) : ∀ (vs : List Int32) (n : Nat) (I : Nat → Nat → Int32), pl o f r n I vs a = I a
  | [], n, I => rfl
  | v :: vs, n, I => by
    show pl o f r (n + 1) (xu (xu I r n v) o f (n32 (n + 1))) vs a = I a
    rw [pl_fr h1 h2 vs, xu_ne h1, xu_ne h2]
theorem pl_len (hr : o ≠ r) : ∀ (vs : List Int32) (n : Nat) (I : Nat → Nat → Int32), I o f = n32 n → pl o f r n I vs o f = n32 (n + vs.length)
  | [], n, I, h => h
  | v :: vs, n, I, h => by
    show pl o f r (n + 1) (xu (xu I r n v) o f (n32 (n + 1))) vs o f = _
    rw [pl_len hr vs (n + 1) _ (by simp [xu]), List.length_cons]
    congr 1
    omega
theorem pl_of (hr : o ≠ r) {b : Nat} (hb : b ≠ f) : ∀ (vs : List Int32) (n : Nat) (I : Nat → Nat → Int32), pl o f r n I vs o b = I o b
  | [], n, I => rfl
  | v :: vs, n, I => by
    show pl o f r (n + 1) (xu (xu I r n v) o f (n32 (n + 1))) vs o b = _
    rw [pl_of hr hb vs]
    simp [xu, hb, hr]
theorem pl_row (hr : o ≠ r) : ∀ (vs : List Int32) (n : Nat) (I : Nat → Nat → Int32) (k : Nat), pl o f r n I vs r k = if n ≤ k ∧ k < n + vs.length then vs.getD (k - n) 0 else I r k
  | [], n, I, k => by
    rw [if_neg (by rw [List.length_nil]; omega)]
    rfl
  | v :: vs, n, I, k => by
    show pl o f r (n + 1) (xu (xu I r n v) o f (n32 (n + 1))) vs r k = _
    rw [pl_row hr vs, List.length_cons]
    have hx : xu (xu I r n v) o f (n32 (n + 1)) r k = if k = n then v else I r k := by
      simp [xu, Ne.symm hr]
    rw [hx]
    by_cases h1 : k = n
    · subst h1
      rw [if_neg (by omega), if_pos rfl, if_pos (by omega)]
      simp
    · by_cases h2 : n + 1 ≤ k ∧ k < n + 1 + vs.length
      · rw [if_pos h2, if_pos (by omega)]
        obtain ⟨j, rfl⟩ : ∃ j, k = n + 1 + j := ⟨k - (n + 1), by omega⟩
        rw [show n + 1 + j - (n + 1) = j by omega, show n + 1 + j - n = j + 1 by omega]
        simp
      · rw [if_neg h2, if_neg h1, if_neg (by omega)]
end PL
section TP
variable {d e L n : Nat} {I : Nat → Nat → Int32} {J : Nat → Nat → Int64}
theorem put1 {v : Int32} (h : I 1 1 = n32 n) (hn : n < 940) : xcall xprog (d + 1) 7 [.ref 1, .int v] (xst e L I J) = some (none, xst e L (pl 1 1 2 n I [v &&& 255]) J) := by
  rw [aX1_put_1, bX1_put_1_0, h, if_neg (n32_neg (by omega)), if_pos (show n32 n < (940 : Int32) from (n32_lt (by omega) (by decide)).mpr hn), xin_n32 (by omega) hn, cond_true, bX1_put_1_1, n32_nat (by omega), n32_succ]
  rfl
theorem put3 {v : Int32} (h : I 3 1 = n32 n) (hn : n < 32) : xcall xprog (d + 1) 7 [.ref 3, .int v] (xst e L I J) = some (none, xst e L (pl 3 1 4 n I [v &&& 255]) J) := by
  rw [aX1_put_3, bX1_put_3_0, h, if_neg (n32_neg (by omega)), if_pos (show n32 n < (32 : Int32) from (n32_lt (by omega) (by decide)).mpr hn), xin_n32 (by omega) hn, cond_true, bX1_put_3_1, n32_nat (by omega), n32_succ]
  rfl
/-- the four bytes of a number, from the highest -/
def bh (v s : Int32) : Int32 := (Int32.toUInt32 v >>> (Int32.toUInt32 s &&& Int32.toUInt32 31)).toInt32 &&& 255
def by4 (v : Int32) : List Int32 := [bh v 24, bh v 16, bh v 8, v &&& 255]
theorem putNumber {v : Int32} (h : I 1 1 = n32 n) (hn : n + 4 ≤ 940) : xcall xprog (d + 2) 8 [.ref 1, .int v] (xst e L I J) = some (none, xst e L (pl 1 1 2 n I (by4 v)) J) := by
  have q : ∀ (vs : List Int32), pl 1 1 2 n I vs 1 1 = n32 (n + vs.length) := fun vs => pl_len (by decide) vs n I h
  refine (aX1_putNumber _ e L I J v).trans ((bX1_putNumber_0 _ e L I J v).trans ?_)
  refine xk0 (put1 (n := n) h (by omega)) ((ekX1_putNumber_0_4 _ e L _ J v).trans ?_)
  refine xk0 (put1 (n := n + 1) (q [bh v 24]) (by omega)) ((ekX1_putNumber_0_9 _ e L _ J v).trans ?_)
  refine xk0 (put1 (n := n + 2) (q [bh v 24, bh v 16]) (by omega)) ((ekX1_putNumber_0_14 _ e L _ J v).trans ?_)
  exact xk0 (put1 (n := n + 3) (q [bh v 24, bh v 16, bh v 8]) (by omega)) rfl
theorem feedC {a b c x y : Int32} (h : I 1 1 = n32 n) (hn : n ≤ 940) : xcall xprog (d + 3) 112 [.ref 0, .int a, .int b, .int c, .int x, .int y] (xst e L I J) = if n + 20 ≤ 940 then some (some (.int (n32 (n + 20))), xst e L (pl 1 1 2 n I (by4 a ++ by4 b ++ by4 c ++ by4 x ++ by4 y)) J) else some (some (.int (-1)), xst e L I J) := by
  have q : ∀ (vs : List Int32), pl 1 1 2 n I vs 1 1 = n32 (n + vs.length) := fun vs => pl_len (by decide) vs n I h
  refine (aX11_feed _ e L I J a b c x y).trans ((bX11_feed_0 _ e L I J a b c x y).trans ?_)
  rw [h, show n32 n + 20 = n32 (n + 20) from n32_add]
  by_cases hc : n + 20 ≤ 940
  · rw [if_pos (show n32 (n + 20) ≤ (940 : Int32) from (n32_le (by omega) (by decide)).mpr hc), if_pos hc]
    refine (bX11_feed_1 _ e L I J a b c x y).trans ?_
    refine xk0 (putNumber (n := n) h (by omega)) ((ekX11_feed_1_3 _ e L _ J b c x y).trans ?_)
    refine xk0 (putNumber (n := n + 4) (q (by4 a)) (by omega)) ((ekX11_feed_1_7 _ e L _ J c x y).trans ?_)
    refine xk0 (putNumber (n := n + 8) (q (by4 a ++ by4 b)) (by omega)) ((ekX11_feed_1_11 _ e L _ J x y).trans ?_)
    refine xk0 (putNumber (n := n + 12) (q (by4 a ++ by4 b ++ by4 c)) (by omega)) ((ekX11_feed_1_15 _ e L _ J y).trans ?_)
    refine xk0 (putNumber (n := n + 16) (q (by4 a ++ by4 b ++ by4 c ++ by4 x)) (by omega)) ((ekX11_feed_1_19 _ e L _ J).trans ?_)
    exact congrArg (fun z => some (some (Value.int z), xst e L (pl 1 1 2 n I (by4 a ++ by4 b ++ by4 c ++ by4 x ++ by4 y)) J)) (q (by4 a ++ by4 b ++ by4 c ++ by4 x ++ by4 y))
  · rw [if_neg (fun g : n32 (n + 20) ≤ (940 : Int32) => hc ((n32_le (b := 940) (by omega) (by decide)).mp g)), if_neg hc]
end TP
