/-! Bytes put behind one another: the tape, and the latest tag. -/
def pl (o f r : Nat) : Nat → (Nat → Nat → Int32) → List Int32 → Nat → Nat → Int32
  | _, I, [] => I
  | n, I, v :: vs => pl o f r (n + 1) (xu (xu I r n v) o f (n32 (n + 1))) vs
section PL
variable {o f r : Nat}
theorem pl_fr {a : Nat} (h1 : a ≠ o) (h2 : a ≠ r) : ∀ (vs : List Int32) (n : Nat) (I : Nat → Nat → Int32), pl o f r n I vs a = I a
  | [], n, I => rfl
  | v :: vs, n, I => by
    show pl o f r (n + 1) (xu (xu I r n v) o f (n32 (n + 1))) vs a = I a
    rw [pl_fr h1 h2 vs, xu_ne h1, xu_ne h2]
theorem pl_len (hr : o ≠ r) : ∀ (vs : List Int32) (n : Nat) (I : Nat → Nat → Int32), I o f = n32 n → pl o f r n I vs o f = n32 (n + vs.length)
  | [], n, I, h => h
  | v :: vs, n, I, h => by
    show pl o f r (n + 1) (xu (xu I r n v) o f (n32 (n + 1))) vs o f = _
    rw [pl_len hr vs (n + 1) _ (by simp [xu]), List.length_cons]
    congr 1
    omega
theorem pl_of (hr : o ≠ r) {b : Nat} (hb : b ≠ f) : ∀ (vs : List Int32) (n : Nat) (I : Nat → Nat → Int32), pl o f r n I vs o b = I o b
  | [], n, I => rfl
  | v :: vs, n, I => by
    show pl o f r (n + 1) (xu (xu I r n v) o f (n32 (n + 1))) vs o b = _
    rw [pl_of hr hb vs]
    simp [xu, hb, hr]
theorem pl_row (hr : o ≠ r) : ∀ (vs : List Int32) (n : Nat) (I : Nat → Nat → Int32) (k : Nat), pl o f r n I vs r k = if n ≤ k ∧ k < n + vs.length then vs.getD (k - n) 0 else I r k
  | [], n, I, k => by
    rw [if_neg (by rw [List.length_nil]; omega)]
    rfl
  | v :: vs, n, I, k => by
    show pl o f r (n + 1) (xu (xu I r n v) o f (n32 (n + 1))) vs r k = _
    rw [pl_row hr vs, List.length_cons]
    have hx : xu (xu I r n v) o f (n32 (n + 1)) r k = if k = n then v else I r k := by
      simp [xu, Ne.symm hr]
    rw [hx]
    by_cases h1 : k = n
    · subst h1
      rw [if_neg (by omega), if_pos rfl, if_pos (by omega)]
      simp
    · by_cases h2 : n + 1 ≤ k ∧ k < n + 1 + vs.length
      · rw [if_pos h2, if_pos (by omega)]
        obtain ⟨j, rfl⟩ : ∃ j, k = n + 1 + j := ⟨k - (n + 1), by omega⟩
        rw [show n + 1 + j - (n + 1) = j by omega, show n + 1 + j - n = j + 1 by omega]
        simp
      · rw [if_neg h2, if_neg h1, if_neg (by omega)]
theorem pl_app : ∀ (xs ys : List Int32) (n : Nat) (I : Nat → Nat → Int32), pl o f r n I (xs ++ ys) = pl o f r (n + xs.length) (pl o f r n I xs) ys
  | [], ys, n, I => rfl
  | v :: xs, ys, n, I => by
    show pl o f r (n + 1) (xu (xu I r n v) o f (n32 (n + 1))) (xs ++ ys) = _
    rw [pl_app xs ys, List.length_cons, show n + 1 + xs.length = n + (xs.length + 1) by omega]
    rfl
theorem pl5 {A B C X Y : List Int32} {n : Nat} {I : Nat → Nat → Int32} (ha : A.length = 4) (hb : B.length = 4) (hc : C.length = 4) (hx : X.length = 4) : pl o f r (n + 4 + 4 + 4 + 4) (pl o f r (n + 4 + 4 + 4) (pl o f r (n + 4 + 4) (pl o f r (n + 4) (pl o f r n I A) B) C) X) Y = pl o f r n I (A ++ B ++ C ++ X ++ Y) := by
  rw [pl_app, pl_app, pl_app, pl_app]
  simp only [List.length_append, ha, hb, hc, hx]
theorem pl4 {n : Nat} {I : Nat → Nat → Int32} {a b c x : Int32} : pl o f r (n + 1 + 1 + 1) (pl o f r (n + 1 + 1) (pl o f r (n + 1) (pl o f r n I [a]) [b]) [c]) [x] = pl o f r n I [a, b, c, x] := rfl
end PL
section TP
variable {d e L n : Nat} {I : Nat → Nat → Int32} {J : Nat → Nat → Int64}
theorem put1 {v : Int32} (h : I 1 1 = n32 n) (hn : n < 940) : xcall xprog (d + 1) 7 [.ref 1, .int v] (xst e L I J) = some (none, xst e L (pl 1 1 2 n I [v &&& 255]) J) := by
  rw [aX1_put_1, bX1_put_1_0, h, if_neg (n32_neg (by omega)), if_pos (show n32 n < (940 : Int32) from (n32_lt (by omega) (by decide)).mpr hn), xin_n32 (by omega) hn, cond_true, bX1_put_1_1, n32_nat (by omega), n32_succ]
  rfl
theorem put3 {v : Int32} (h : I 3 1 = n32 n) (hn : n < 32) : xcall xprog (d + 1) 7 [.ref 3, .int v] (xst e L I J) = some (none, xst e L (pl 3 1 4 n I [v &&& 255]) J) := by
  rw [aX1_put_3, bX1_put_3_0, h, if_neg (n32_neg (by omega)), if_pos (show n32 n < (32 : Int32) from (n32_lt (by omega) (by decide)).mpr hn), xin_n32 (by omega) hn, cond_true, bX1_put_3_1, n32_nat (by omega), n32_succ]
  rfl
/-- the four bytes of a number, from the highest -/
def bh (v s : Int32) : Int32 := (Int32.toUInt32 v >>> (Int32.toUInt32 s &&& Int32.toUInt32 31)).toInt32 &&& 255
def by4 (v : Int32) : List Int32 := [bh v 24, bh v 16, bh v 8, v &&& 255]
theorem putNumber {v : Int32} (h : I 1 1 = n32 n) (hn : n + 4 ≤ 940) : xcall xprog (d + 2) 8 [.ref 1, .int v] (xst e L I J) = some (none, xst e L (pl 1 1 2 n I (by4 v)) J) := by
  have q : ∀ (vs : List Int32), pl 1 1 2 n I vs 1 1 = n32 (n + vs.length) := fun vs => pl_len (by decide) vs n I h
  refine (aX1_putNumber _ e L I J v).trans ((bX1_putNumber_0 _ e L I J v).trans ?_)
  refine xk0 (put1 (n := n) h (by omega)) ((ekX1_putNumber_0_4 _ e L _ J v).trans ?_)
  refine xk0 (put1 (n := n + 1) (q [bh v 24]) (by omega)) ((ekX1_putNumber_0_9 _ e L _ J v).trans ?_)
  refine xk0 (put1 (n := n + 2) (q [bh v 24, bh v 16]) (by omega)) ((ekX1_putNumber_0_14 _ e L _ J v).trans ?_)
  exact xk0 (put1 (n := n + 3) (q [bh v 24, bh v 16, bh v 8]) (by omega)) rfl
theorem feedC {a b c x y : Int32} (h : I 1 1 = n32 n) (hn : n ≤ 940) : xcall xprog (d + 3) 112 [.ref 0, .int a, .int b, .int c, .int x, .int y] (xst e L I J) = if n + 20 ≤ 940 then some (some (.int (n32 (n + 20))), xst e L (pl 1 1 2 n I (by4 a ++ by4 b ++ by4 c ++ by4 x ++ by4 y)) J) else some (some (.int (-1)), xst e L I J) := by
  have q : ∀ (vs : List Int32), pl 1 1 2 n I vs 1 1 = n32 (n + vs.length) := fun vs => pl_len (by decide) vs n I h
  refine (aX11_feed _ e L I J a b c x y).trans ((bX11_feed_0 _ e L I J a b c x y).trans ?_)
  rw [h, show n32 n + 20 = n32 (n + 20) from n32_add]
  by_cases hc : n + 20 ≤ 940
  · rw [if_pos (show n32 (n + 20) ≤ (940 : Int32) from (n32_le (by omega) (by decide)).mpr hc), if_pos hc]
    refine (bX11_feed_1 _ e L I J a b c x y).trans ?_
    refine xk0 (putNumber (n := n) h (by omega)) ((ekX11_feed_1_3 _ e L _ J b c x y).trans ?_)
    refine xk0 (putNumber (n := n + 4) (q (by4 a)) (by omega)) ((ekX11_feed_1_7 _ e L _ J c x y).trans ?_)
    refine xk0 (putNumber (n := n + 8) (q (by4 a ++ by4 b)) (by omega)) ((ekX11_feed_1_11 _ e L _ J x y).trans ?_)
    refine xk0 (putNumber (n := n + 12) (q (by4 a ++ by4 b ++ by4 c)) (by omega)) ((ekX11_feed_1_15 _ e L _ J y).trans ?_)
    refine xk0 (putNumber (n := n + 16) (q (by4 a ++ by4 b ++ by4 c ++ by4 x)) (by omega)) ((ekX11_feed_1_19 _ e L _ J).trans ?_)
    exact congrArg (fun z => some (some (Value.int z), xst e L (pl 1 1 2 n I (by4 a ++ by4 b ++ by4 c ++ by4 x ++ by4 y)) J)) (q (by4 a ++ by4 b ++ by4 c ++ by4 x ++ by4 y))
  · rw [if_neg (fun g : n32 (n + 20) ≤ (940 : Int32) => hc ((n32_le (b := 940) (by omega) (by decide)).mp g)), if_neg hc]
end TP
section TR
variable {d e L n : Nat} {I : Nat → Nat → Int32} {J : Nat → Nat → Int64}
def rb (v s : Int32) : Int32 := Int8.toInt32 (Int32.toInt8 (Int8.toInt32 (Int32.toInt8 (v >>> (s &&& 31)))))
def rb4 (v : Int32) : List Int32 := [rb v 24, rb v 16, rb v 8, rb v 0]
theorem four1 {cf : xCF} {v s s' : Int32} (hs : ¬ s < 0) (hs' : s + (-8) = s') (h : I 209 2 = n32 n) (hn : n < 940) : xlim cf mX12_four 1 [.ref 209, .int v, .int s] [] (xst e L I J) = xlim cf mX12_four 1 [.ref 209, .int v, .int s'] [] (xst e L (pl 209 2 210 n I [rb v s]) J) := by
  subst hs'
  rw [bX12_four_1, if_neg hs, h, xin_n32 (by omega) hn, cond_true, n32_nat (by omega), n32_succ]
  rfl
theorem fourR {v : Int32} (h : I 209 2 = n32 n) (hn : n + 4 ≤ 940) : xcall xprog (d + 1) 158 [.ref 209, .int v] (xst e L I J) = some (none, xst e L (pl 209 2 210 n I (rb4 v)) J) := by
  have h1 := pl_len (o := 209) (f := 2) (r := 210) (by decide) [rb v 24] n I h
  have h2 := pl_len (o := 209) (f := 2) (r := 210) (by decide) [rb v 16] (n + 1) _ h1
  have h3 := pl_len (o := 209) (f := 2) (r := 210) (by decide) [rb v 8] (n + 1 + 1) _ h2
  refine (aX12_four _ e L I J v).trans ((bX12_four_0 _ e L I J v).trans ?_)
  refine (four1 (n := n) (s := 24) (s' := 16) (by decide) (by decide) h (by omega)).trans ?_
  refine (four1 (n := n + 1) (s := 16) (s' := 8) (by decide) (by decide) h1 (by omega)).trans ?_
  refine (four1 (n := n + 1 + 1) (s := 8) (s' := 0) (by decide) (by decide) h2 (by omega)).trans ?_
  refine (four1 (n := n + 1 + 1 + 1) (s := 0) (s' := -8) (by decide) (by decide) h3 (by omega)).trans ?_
  refine (bX12_four_1 _ e L _ J v (-8)).trans ?_
  rw [if_pos (by decide)]
  exact (bX12_four_2 _ e L _ J).trans (congrArg (fun z => some (none, xst e L z J)) pl4)
theorem rb4_len (v : Int32) : (rb4 v).length = 4 := rfl
theorem feedR {a b c x y : Int32} (h : I 209 2 = n32 n) (hn : n ≤ 940) : xcall xprog (d + 2) 157 [.ref 209, .int a, .int b, .int c, .int x, .int y] (xst e L I J) = if n + 20 ≤ 940 then some (some (.int (n32 (n + 20))), xst e L (pl 209 2 210 n (xu I 209 0 0) (rb4 a ++ rb4 b ++ rb4 c ++ rb4 x ++ rb4 y)) J) else some (some (.int (-1)), xst e L (xu I 209 0 0) J) := by
  have h' : xu I 209 0 0 209 2 = n32 n := by simpa [xu] using h
  have st : ∀ (v : Int32) (m : Nat) (K : Nat → Nat → Int32), K 209 2 = n32 m → pl 209 2 210 m K (rb4 v) 209 2 = n32 (m + 4) := fun v m K hk => by rw [pl_len (by decide) _ _ _ hk, rb4_len]
  have h1 := st a _ _ h'
  have h2 := st b _ _ h1
  have h3 := st c _ _ h2
  have h4 := st x _ _ h3
  have h5 := st y _ _ h4
  refine (aX12_feed _ e L I J a b c x y).trans ((bX12_feed_0 _ e L I J a b c x y).trans ?_)
  rw [h, show n32 n + 20 = n32 (n + 20) from n32_add]
  by_cases hc : n + 20 ≤ 940
  · rw [if_pos (show n32 (n + 20) ≤ (940 : Int32) from (n32_le (by omega) (by decide)).mpr hc), if_pos hc]
    refine (bX12_feed_1 _ e L _ J a b c x y).trans ?_
    refine xk0 (fourR h' (by omega)) ((ekX12_feed_1_2 _ e L _ J b c x y).trans ?_)
    refine xk0 (fourR h1 (by omega)) ((ekX12_feed_1_5 _ e L _ J c x y).trans ?_)
    refine xk0 (fourR h2 (by omega)) ((ekX12_feed_1_8 _ e L _ J x y).trans ?_)
    refine xk0 (fourR h3 (by omega)) ((ekX12_feed_1_11 _ e L _ J y).trans ?_)
    refine xk0 (fourR h4 (by omega)) ((ekX12_feed_1_14 _ e L _ J).trans ?_)
    rw [h5, pl5 (rb4_len a) (rb4_len b) (rb4_len c) (rb4_len x)]
  · rw [if_neg (fun g : n32 (n + 20) ≤ (940 : Int32) => hc ((n32_le (b := 940) (by omega) (by decide)).mp g)), if_neg hc]
end TR
