/-! Sets as bits. -/
def bt (x : Int32) (k : Nat) : Bool := x.toBitVec.getLsbD k
theorem bt_ext {x y : Int32} (h : ∀ k, k < 32 → bt x k = bt y k) : x = y := Int32.toBitVec_inj.mp (BitVec.eq_of_getLsbD_eq h)
theorem bt_or (x y : Int32) (k : Nat) : bt (x ||| y) k = (bt x k || bt y k) := by
  unfold bt
  rw [Int32.toBitVec_or, BitVec.getLsbD_or]
theorem bt_and (x y : Int32) (k : Nat) : bt (x &&& y) k = (bt x k && bt y k) := by
  unfold bt
  rw [Int32.toBitVec_and, BitVec.getLsbD_and]
theorem bt_xor (x y : Int32) (k : Nat) : bt (x ^^^ y) k = (bt x k ^^ bt y k) := by
  unfold bt
  rw [Int32.toBitVec_xor, BitVec.getLsbD_xor]
theorem bt_zero (k : Nat) : bt 0 k = false := by
  show (0#32).getLsbD k = false
  simp
theorem bt_one {k : Nat} (h : k < 32) : bt 1 k = decide (k = 0) := by
  have : ∀ k, k < 32 → bt 1 k = decide (k = 0) := by decide
  exact this k h
theorem bt_neg1 {k : Nat} (h : k < 32) : bt (-1) k = true := by
  have : ∀ k, k < 32 → bt (-1) k = true := by decide
  exact this k h
theorem sh31 : ∀ k, k < 32 → (n32 k &&& 31).toBitVec.smod 32 = BitVec.ofNat 32 k := by decide
theorem shl_bv (x : Int32) {k : Nat} (h : k < 32) : (x <<< (n32 k &&& 31)).toBitVec = x.toBitVec <<< k := by
  rw [Int32.toBitVec_shiftLeft, sh31 k h]
  show x.toBitVec <<< (BitVec.ofNat 32 k).toNat = _
  rw [BitVec.toNat_ofNat, Nat.mod_eq_of_lt (by omega)]
theorem shr_bv (x : Int32) {k : Nat} (h : k < 32) : (x >>> (n32 k &&& 31)).toBitVec = x.toBitVec.sshiftRight k := by
  rw [Int32.toBitVec_shiftRight, sh31 k h]
  unfold BitVec.sshiftRight'
  rw [BitVec.toNat_ofNat, Nat.mod_eq_of_lt (by omega)]
theorem bt_bit {j k : Nat} (hj : j < 32) (hk : k < 32) : bt (1 <<< (n32 j &&& 31)) k = decide (k = j) := by
  unfold bt
  rw [shl_bv 1 hj, BitVec.getLsbD_shiftLeft]
  show (decide (k < 32) && !decide (k < j) && bt 1 (k - j)) = decide (k = j)
  by_cases h : k < j
  · simp [h, show ¬ k = j by omega]
  · rw [bt_one (by omega)]
    by_cases h2 : k = j
    · subst h2; simp [hk]
    · simp [hk, h2, show ¬ k - j = 0 by omega]
theorem bt_test (x : Int32) {k : Nat} (hk : k < 32) : (x >>> (n32 k &&& 31)) &&& 1 = if bt x k then 1 else 0 := by
  apply bt_ext
  intro i hi
  rw [bt_and, bt_one hi]
  by_cases h : i = 0
  · subst h
    have : bt (x >>> (n32 k &&& 31)) 0 = bt x k := by
      unfold bt
      rw [shr_bv x hk, BitVec.getLsbD_sshiftRight]
      simp [hk]
    rw [this]
    cases bt x k
    · exact (bt_zero 0).symm
    · rfl
  · have e : (bt (x >>> (n32 k &&& 31)) i && decide (i = 0)) = false := by simp [h]
    rw [e]
    cases bt x k
    · exact (bt_zero i).symm
    · exact ((bt_one hi).trans (by simp [h])).symm
theorem bt_set (x : Int32) {j k : Nat} (hj : j < 32) (hk : k < 32) : bt (x ||| (1 <<< (n32 j &&& 31))) k = (bt x k || decide (k = j)) := by rw [bt_or, bt_bit hj hk]
/-- the set of those below n for which p holds -/
def bs (p : Nat → Bool) : Nat → Int32
  | 0 => 0
  | n + 1 => bif p n then bs p n ||| (1 <<< (n32 n &&& 31)) else bs p n
theorem bt_bs (p : Nat → Bool) {k : Nat} (hk : k < 32) : ∀ (n : Nat), n ≤ 32 → bt (bs p n) k = (decide (k < n) && p k)
  | 0, _ => by
    show bt 0 k = _
    rw [bt_zero]
    simp
  | n + 1, h => by
    have ih := bt_bs p hk n (by omega)
    show bt (bif p n then bs p n ||| (1 <<< (n32 n &&& 31)) else bs p n) k = _
    cases hp : p n with
    | true =>
      show bt (bs p n ||| (1 <<< (n32 n &&& 31))) k = _
      rw [bt_set _ (by omega) hk, ih]
      by_cases h2 : k = n
      · subst h2; simp [hp]
      · by_cases h3 : k < n
        · simp [h3, h2, show k < n + 1 by omega]
        · simp [h3, h2, show ¬ k < n + 1 by omega]
    | false =>
      show bt (bs p n) k = _
      rw [ih]
      by_cases h2 : k = n
      · subst h2; simp [hp]
      · by_cases h3 : k < n
        · simp [h3, show k < n + 1 by omega]
        · simp [h3, show ¬ k < n + 1 by omega]
