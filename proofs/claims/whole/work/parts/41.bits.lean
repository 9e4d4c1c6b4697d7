/-! Bits. -/
theorem x255 {i : Nat} (h : i < 32) : (255#32).getLsbD i = decide (i < 8) := by
  have : ∀ i, i < 32 → (255#32).getLsbD i = decide (i < 8) := by decide
  exact this i h
theorem and255 (a b : Int32) (h : ∀ i, i < 8 → a.toBitVec.getLsbD i = b.toBitVec.getLsbD i) : a &&& 255 = b &&& 255 := by
  apply Int32.toBitVec_inj.mp
  rw [Int32.toBitVec_and, Int32.toBitVec_and]
  apply BitVec.eq_of_getLsbD_eq
  intro i hi
  rw [BitVec.getLsbD_and, BitVec.getLsbD_and, show (255 : Int32).toBitVec = 255#32 from rfl, x255 hi]
  by_cases h8 : i < 8
  · rw [h i h8]
  · simp [h8]
theorem i8bit (x : Int32) {i : Nat} (h : i < 8) : (Int8.toInt32 (Int32.toInt8 x)).toBitVec.getLsbD i = x.toBitVec.getLsbD i := by
  rw [Int8.toBitVec_toInt32, Int32.toBitVec_toInt8, BitVec.getLsbD_signExtend, BitVec.getLsbD_signExtend]
  simp [h, show i < 32 by omega]
theorem shr_bit (v s : Int32) (k : Nat) (hk : k ≤ 24) (h1 : (Int32.toUInt32 s &&& Int32.toUInt32 31).toBitVec % 32 = BitVec.ofNat 32 k) (h2 : (s &&& 31).toBitVec.smod 32 = BitVec.ofNat 32 k) {i : Nat} (hi : i < 8) : (Int32.toUInt32 v >>> (Int32.toUInt32 s &&& Int32.toUInt32 31)).toInt32.toBitVec.getLsbD i = (v >>> (s &&& 31)).toBitVec.getLsbD i := by
  have e1 : (Int32.toUInt32 v >>> (Int32.toUInt32 s &&& Int32.toUInt32 31)).toInt32.toBitVec = v.toBitVec >>> (BitVec.ofNat 32 k) := by
    show (Int32.toUInt32 v >>> (Int32.toUInt32 s &&& Int32.toUInt32 31)).toBitVec = _
    rw [UInt32.toBitVec_shiftRight, h1]
    rfl
  have e2 : (v >>> (s &&& 31)).toBitVec = v.toBitVec.sshiftRight' (BitVec.ofNat 32 k) := by
    rw [Int32.toBitVec_shiftRight, h2]
  have e3 : (BitVec.ofNat 32 k).toNat = k := by
    rw [BitVec.toNat_ofNat]
    exact Nat.mod_eq_of_lt (by omega)
  rw [e1, e2, BitVec.ushiftRight_eq']
  unfold BitVec.sshiftRight'
  rw [e3, BitVec.getLsbD_ushiftRight, BitVec.getLsbD_sshiftRight]
  simp [show k + i < 32 by omega, show i < 32 by omega]
theorem bh_rb (v s : Int32) (k : Nat) (hk : k ≤ 24) (h1 : (Int32.toUInt32 s &&& Int32.toUInt32 31).toBitVec % 32 = BitVec.ofNat 32 k) (h2 : (s &&& 31).toBitVec.smod 32 = BitVec.ofNat 32 k) : bh v s = rb v s &&& 255 := by
  unfold bh rb
  apply and255
  intro i hi
  rw [i8bit _ hi, i8bit _ hi]
  exact shr_bit v s k hk h1 h2 hi
theorem b0_rb (v : Int32) : v &&& 255 = rb v 0 &&& 255 := by
  unfold rb
  apply and255
  intro i hi
  rw [i8bit _ hi, i8bit _ hi, show v >>> ((0 : Int32) &&& 31) = v from by simp]
theorem by4_rb4 (v : Int32) : by4 v = (rb4 v).map (fun x => x &&& 255) := by
  unfold by4 rb4
  rw [bh_rb v 24 24 (by decide) (by decide) (by decide), bh_rb v 16 16 (by decide) (by decide) (by decide), bh_rb v 8 8 (by decide) (by decide) (by decide), b0_rb v]
  rfl
