/-! How many bits a set of blocks has. -/
def sA (y : Nat) : Nat := y - ((y / 2) &&& 1431655765)
def sC (a : Nat) : Nat := (a &&& 858993459) + ((a / 4) &&& 858993459)
def s12 (y : Nat) : Nat := sC (sA y)
def bcR (b : Int32) : Int32 :=
  (fun c => (fun f => (fun g => g &&& 63) (f + (Int32.toUInt32 f >>> (Int32.toUInt32 16 &&& Int32.toUInt32 31)).toInt32)) (c + (Int32.toUInt32 c >>> (Int32.toUInt32 8 &&& Int32.toUInt32 31)).toInt32)) ((b + (Int32.toUInt32 b >>> (Int32.toUInt32 4 &&& Int32.toUInt32 31)).toInt32) &&& 252645135)
section BIT
variable {a b n y k m : Nat}
theorem sp_and {m : Nat} (hm : ∀ j, j < 28 → m.testBit (j + 4) = m.testBit j) (ha : a < 16) (hb : b < 268435456) : (16 * b + a) &&& m = 16 * (b &&& m) + (a &&& m) := by
  have h16 : (16 : Nat) = 2 ^ 4 := by decide
  have ha2 : a < 2 ^ 4 := by omega
  have ha3 : a &&& m < 2 ^ 4 := Nat.lt_of_le_of_lt Nat.and_le_left ha2
  apply Nat.eq_of_testBit_eq
  intro j
  rw [Nat.testBit_and, h16, Nat.testBit_two_pow_mul_add _ ha2, Nat.testBit_two_pow_mul_add _ ha3]
  by_cases q : j < 4
  · rw [if_pos q, if_pos q, Nat.testBit_and]
  · rw [if_neg q, if_neg q, Nat.testBit_and]
    by_cases q2 : j - 4 < 28
    · have := hm (j - 4) q2
      rw [show j - 4 + 4 = j by omega] at this
      rw [this]
    · have : b.testBit (j - 4) = false := Nat.testBit_lt_two_pow (Nat.lt_of_lt_of_le hb (Nat.le_trans (show 268435456 ≤ 2 ^ 28 by decide) (Nat.pow_le_pow_right (by decide) (by omega))))
      rw [this, Bool.false_and, Bool.false_and]
theorem m5 : ∀ j, j < 28 → (1431655765 : Nat).testBit (j + 4) = (1431655765 : Nat).testBit j := by decide
theorem m3 : ∀ j, j < 28 → (858993459 : Nat).testBit (j + 4) = (858993459 : Nat).testBit j := by decide
theorem d5 : ∀ a, a < 16 → ∀ e, e < 2 → (a / 2 + 8 * e) &&& 1431655765 = (a / 2) &&& 1431655765 := by decide
theorem d3 : ∀ a, a < 16 → ∀ e, e < 4 → (a / 4 + 4 * e) &&& 858993459 = (a / 4) &&& 858993459 := by decide
theorem sA_le : (y / 2) &&& 1431655765 ≤ y := Nat.le_trans Nat.and_le_left (Nat.div_le_self _ _)
theorem sA_s (ha : a < 16) (hb : b < 268435456) : sA (16 * b + a) = 16 * sA b + sA a := by
  have h1 : (16 * b + a) / 2 = 16 * (b / 2) + (a / 2 + 8 * (b % 2)) := by omega
  have h2 := sp_and m5 (a := a / 2 + 8 * (b % 2)) (b := b / 2) (by omega) (by omega)
  have h3 := d5 a ha (b % 2) (by omega)
  have l1 := sA_le (y := b)
  have l2 := sA_le (y := a)
  unfold sA
  rw [h1, h2, h3]
  omega
theorem sC_s (ha : a < 16) (hb : b < 268435456) : sC (16 * b + a) = 16 * sC b + sC a := by
  have h1 : (16 * b + a) / 4 = 16 * (b / 4) + (a / 4 + 4 * (b % 4)) := by omega
  have h2 := sp_and m3 (a := a / 4 + 4 * (b % 4)) (b := b / 4) (by omega) (by omega)
  have h3 := d3 a ha (b % 4) (by omega)
  have h4 := sp_and m3 ha hb
  unfold sC
  rw [h1, h2, h3, h4]
  omega
theorem s12_s (ha : a < 16) (hb : b < 268435456) : s12 (16 * b + a) = 16 * s12 b + s12 a := by
  have l1 : sA b ≤ b := Nat.sub_le _ _
  have l2 : sA a ≤ a := Nat.sub_le _ _
  unfold s12
  rw [sA_s ha hb, sC_s (by omega) (by omega)]
theorem cnt4 : ∀ a, a < 16 → cntN (fun k => a.testBit k) 4 = s12 a := by decide
theorem s12_4 : ∀ a, a < 16 → s12 a ≤ 4 := by decide
theorem cnt_s (ha : a < 16) : cntN (fun k => (16 * b + a).testBit k) (4 + n) = cntN (fun k => a.testBit k) 4 + cntN (fun k => b.testBit k) n := by
  have h16 : (16 : Nat) = 2 ^ 4 := by decide
  have ha2 : a < 2 ^ 4 := by omega
  have ht : ∀ k, (16 * b + a).testBit k = if k < 4 then a.testBit k else b.testBit (k - 4) := fun k => by rw [h16, Nat.testBit_two_pow_mul_add _ ha2]
  induction n with
  | zero =>
    have e : ∀ m, m ≤ 4 → cntN (fun k => (16 * b + a).testBit k) m = cntN (fun k => a.testBit k) m := by
      intro m
      induction m with
      | zero => intro _; rfl
      | succ m ih =>
        intro hm
        have t := ht m
        rw [if_pos (show m < 4 by omega)] at t
        rw [cntN_s, cntN_s, ih (by omega), t]
    exact e 4 (by omega)
  | succ n ih =>
    show cntN (fun k => (16 * b + a).testBit k) (4 + n + 1) = _
    have t := ht (4 + n)
    rw [if_neg (show ¬ 4 + n < 4 by omega), show 4 + n - 4 = n by omega] at t
    rw [cntN_s (fun k => (16 * b + a).testBit k) (4 + n), ih, t, cntN_s (fun k => b.testBit k) n]
    by_cases q : b.testBit n = true
    · rw [if_pos q, if_pos q]; omega
    · rw [if_neg q, if_neg q]
theorem bcR_all : ∀ p0, p0 < 5 → ∀ p1, p1 < 5 → ∀ p2, p2 < 5 → ∀ p3, p3 < 5 → ∀ p4, p4 < 5 → bcR (n32 (16 * (16 * (16 * (16 * p4 + p3) + p2) + p1) + p0)) = n32 (p0 + p1 + p2 + p3 + p4) := by decide +kernel
theorem ush1 (y : Int32) : (Int32.toUInt32 y >>> (Int32.toUInt32 1 &&& Int32.toUInt32 31)).toInt32 = n32 (y.toBitVec.toNat / 2) := by
  apply Int32.toBitVec_inj.mp
  show (Int32.toUInt32 y >>> (Int32.toUInt32 1 &&& Int32.toUInt32 31)).toBitVec = BitVec.ofNat 32 (y.toBitVec.toNat / 2)
  rw [UInt32.toBitVec_shiftRight, show (Int32.toUInt32 1 &&& Int32.toUInt32 31).toBitVec % 32 = BitVec.ofNat 32 1 by decide]
  show y.toBitVec >>> (BitVec.ofNat 32 1) = BitVec.ofNat 32 (y.toBitVec.toNat / 2)
  apply BitVec.eq_of_toNat_eq
  have hl := y.toBitVec.isLt
  rw [BitVec.ushiftRight_eq', BitVec.toNat_ushiftRight, BitVec.toNat_ofNat, BitVec.toNat_ofNat, Nat.shiftRight_eq_div_pow, Nat.mod_eq_of_lt (show 1 < 2 ^ 32 by decide), Nat.mod_eq_of_lt]
  · exact Nat.lt_of_le_of_lt (Nat.div_le_self _ _) hl
theorem ush2 (y : Int32) : (Int32.toUInt32 y >>> (Int32.toUInt32 2 &&& Int32.toUInt32 31)).toInt32 = n32 (y.toBitVec.toNat / 4) := by
  apply Int32.toBitVec_inj.mp
  show (Int32.toUInt32 y >>> (Int32.toUInt32 2 &&& Int32.toUInt32 31)).toBitVec = BitVec.ofNat 32 (y.toBitVec.toNat / 4)
  rw [UInt32.toBitVec_shiftRight, show (Int32.toUInt32 2 &&& Int32.toUInt32 31).toBitVec % 32 = BitVec.ofNat 32 2 by decide]
  show y.toBitVec >>> (BitVec.ofNat 32 2) = BitVec.ofNat 32 (y.toBitVec.toNat / 4)
  apply BitVec.eq_of_toNat_eq
  have hl := y.toBitVec.isLt
  rw [BitVec.ushiftRight_eq', BitVec.toNat_ushiftRight, BitVec.toNat_ofNat, BitVec.toNat_ofNat, Nat.shiftRight_eq_div_pow, Nat.mod_eq_of_lt (show 2 < 2 ^ 32 by decide), Nat.mod_eq_of_lt]
  · exact Nat.lt_of_le_of_lt (Nat.div_le_self _ _) hl
theorem n32_bv (h : y < 4294967296) : (n32 y).toBitVec.toNat = y := by
  show (BitVec.ofNat 32 y).toNat = y
  rw [BitVec.toNat_ofNat]
  omega
theorem n32_a (ha : a < 4294967296) (hb : b < 4294967296) : n32 a &&& n32 b = n32 (a &&& b) := by
  apply Int32.toBitVec_inj.mp
  apply BitVec.eq_of_toNat_eq
  have hl : a &&& b ≤ a := Nat.and_le_left
  rw [Int32.toBitVec_and, BitVec.toNat_and, n32_bv ha, n32_bv hb, n32_bv (by omega)]
theorem bc_s12 (h : y < 1048576) : bcE (n32 y) = bcR (n32 (s12 y)) := by
  have l1 := sA_le (y := y)
  have l2 : sA y ≤ y := Nat.sub_le _ _
  have e1 : n32 y - ((Int32.toUInt32 (n32 y) >>> (Int32.toUInt32 1 &&& Int32.toUInt32 31)).toInt32 &&& 1431655765) = n32 (sA y) := by
    rw [ush1, n32_bv (by omega)]
    have := n32_a (a := y / 2) (b := 1431655765) (by omega) (by omega)
    rw [show (1431655765 : Int32) = n32 1431655765 from rfl, this, n32_sub l1]
    rfl
  have e2 : (n32 (sA y) &&& 858993459) + ((Int32.toUInt32 (n32 (sA y)) >>> (Int32.toUInt32 2 &&& Int32.toUInt32 31)).toInt32 &&& 858993459) = n32 (s12 y) := by
    rw [ush2, n32_bv (by omega), show (858993459 : Int32) = n32 858993459 from rfl, n32_a (by omega) (by omega), n32_a (by omega) (by omega), n32_add]
    rfl
  unfold bcE
  dsimp only
  rw [e1, e2]
  rfl
/-- the JDK's bitCount of a set of blocks -/
theorem bc_20 (h : y < 1048576) : bcE (n32 y) = n32 (cntN (fun k => y.testBit k) 20) := by
  have d0 : y = 16 * (y / 16) + y % 16 := by omega
  have d1 : y / 16 = 16 * (y / 256) + y / 16 % 16 := by omega
  have d2 : y / 256 = 16 * (y / 4096) + y / 256 % 16 := by omega
  have d3 : y / 4096 = 16 * (y / 65536) + y / 4096 % 16 := by omega
  have c0 : cntN (fun k => y.testBit k) (4 + 16) = s12 (y % 16) + cntN (fun k => (y / 16).testBit k) 16 := by
    have := cnt_s (a := y % 16) (b := y / 16) (n := 16) (by omega)
    rw [← d0, cnt4 _ (by omega)] at this
    exact this
  have c1 : cntN (fun k => (y / 16).testBit k) (4 + 12) = s12 (y / 16 % 16) + cntN (fun k => (y / 256).testBit k) 12 := by
    have := cnt_s (a := y / 16 % 16) (b := y / 256) (n := 12) (by omega)
    rw [← d1, cnt4 _ (by omega)] at this
    exact this
  have c2 : cntN (fun k => (y / 256).testBit k) (4 + 8) = s12 (y / 256 % 16) + cntN (fun k => (y / 4096).testBit k) 8 := by
    have := cnt_s (a := y / 256 % 16) (b := y / 4096) (n := 8) (by omega)
    rw [← d2, cnt4 _ (by omega)] at this
    exact this
  have c3 : cntN (fun k => (y / 4096).testBit k) (4 + 4) = s12 (y / 4096 % 16) + cntN (fun k => (y / 65536).testBit k) 4 := by
    have := cnt_s (a := y / 4096 % 16) (b := y / 65536) (n := 4) (by omega)
    rw [← d3, cnt4 _ (by omega)] at this
    exact this
  have c4 := cnt4 (y / 65536) (by omega)
  have s0 : s12 y = 16 * s12 (y / 16) + s12 (y % 16) := by
    have := s12_s (a := y % 16) (b := y / 16) (by omega) (by omega)
    rw [← d0] at this
    exact this
  have s1 : s12 (y / 16) = 16 * s12 (y / 256) + s12 (y / 16 % 16) := by
    have := s12_s (a := y / 16 % 16) (b := y / 256) (by omega) (by omega)
    rw [← d1] at this
    exact this
  have s2 : s12 (y / 256) = 16 * s12 (y / 4096) + s12 (y / 256 % 16) := by
    have := s12_s (a := y / 256 % 16) (b := y / 4096) (by omega) (by omega)
    rw [← d2] at this
    exact this
  have s3 : s12 (y / 4096) = 16 * s12 (y / 65536) + s12 (y / 4096 % 16) := by
    have := s12_s (a := y / 4096 % 16) (b := y / 65536) (by omega) (by omega)
    rw [← d3] at this
    exact this
  have l0 := s12_4 (y % 16) (by omega)
  have l1 := s12_4 (y / 16 % 16) (by omega)
  have l2 := s12_4 (y / 256 % 16) (by omega)
  have l3 := s12_4 (y / 4096 % 16) (by omega)
  have l4 := s12_4 (y / 65536) (by omega)
  rw [bc_s12 h, s0, s1, s2, s3, bcR_all _ (by omega) _ (by omega) _ (by omega) _ (by omega) _ (by omega)]
  congr 1
  show _ = cntN (fun k => y.testBit k) (4 + 16)
  rw [c0]
  show _ = _ + cntN (fun k => (y / 16).testBit k) (4 + 12)
  rw [c1]
  show _ = _ + (_ + cntN (fun k => (y / 256).testBit k) (4 + 8))
  rw [c2]
  show _ = _ + (_ + (_ + cntN (fun k => (y / 4096).testBit k) (4 + 4)))
  rw [c3, c4]
  omega
end BIT
