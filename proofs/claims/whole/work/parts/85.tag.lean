/-! The call tag. -/
/-- what has been put, on either side -/
def CT (l : List Nat) (I : TI) : Prop := I 3 1 = n32 l.length ∧ ∀ i, i < l.length → I 4 i = n32 (l.getD i 0)
def RT2 (l : List Nat) (I : TI) : Prop := I 209 43 = n32 l.length ∧ ∀ i, i < l.length → I 225 i = n32 (l.getD i 0)
def cgf (K I : TI) : Prop := ∀ o k, o ≠ 4 → (o ≠ 3 ∨ k ≠ 1) → K o k = I o k
def rgf (K I : TI) : Prop := ∀ o k, o ≠ 225 → (o ≠ 209 ∨ k ≠ 43) → K o k = I o k
/-- the letters of a name, j of them at most -/
def nmB (w : Nat) : Nat → List Nat
  | 0 => []
  | j + 1 => (if w / 256 ^ j % 256 = 0 then [] else [w / 256 ^ j % 256]) ++ nmB w j
def dgs (n : Nat) : List Nat := (if n ≤ 9 then [] else [48 + n / 10]) ++ [48 + n % 10]
section TAG
variable {d e L : Nat} {S S' X Y : TS} {N N' : Nat → Int64} {I K M : TI} {J J' J2 : TJ} {a b c s t u v k i n r m o q w j : Nat} {l l' : List Nat}
theorem cgf_r : cgf I I := fun _ _ _ _ => rfl
theorem cgf_t (h : cgf M K) (h' : cgf K I) : cgf M I := fun o k z1 z2 => (h o k z1 z2).trans (h' o k z1 z2)
theorem rgf_r : rgf I I := fun _ _ _ _ => rfl
theorem rgf_t (h : rgf M K) (h' : rgf K I) : rgf M I := fun o k z1 z2 => (h o k z1 z2).trans (h' o k z1 z2)
theorem a255 (h : c < 256) : n32 c &&& 255 = n32 c := by
  apply Int32.toBitVec_inj.mp
  apply BitVec.eq_of_toNat_eq
  show (BitVec.ofNat 32 c &&& BitVec.ofNat 32 255).toNat = (BitVec.ofNat 32 c).toNat
  rw [BitVec.toNat_and, BitVec.toNat_ofNat, BitVec.toNat_ofNat, Nat.mod_eq_of_lt (show c < 2 ^ 32 by omega), Nat.mod_eq_of_lt (show 255 < 2 ^ 32 by decide), show 255 = 2 ^ 8 - 1 by decide, Nat.and_two_pow_sub_one_eq_mod, Nat.mod_eq_of_lt h]
theorem byte_of (h : c < 128) : Int8.toInt32 (Int32.toInt8 (Int8.toInt32 (Int32.toInt8 (n32 c)))) = n32 c := by
  have : ∀ c : Fin 128, Int8.toInt32 (Int32.toInt8 (Int8.toInt32 (Int32.toInt8 (n32 c.val)))) = n32 c.val := by decide +kernel
  exact this ⟨c, h⟩
theorem getD_l (h : i < l.length) : (l ++ [c]).getD i 0 = l.getD i 0 := by
  rw [List.getD_eq_getElem?_getD, List.getD_eq_getElem?_getD, List.getElem?_append_left h]
theorem getD_e : (l ++ [c]).getD l.length 0 = c := by
  rw [List.getD_eq_getElem?_getD, List.getElem?_append_right (Nat.le_refl _), Nat.sub_self]
  rfl
theorem c_put3 (h : CT l I) (hl : l.length < 32) (hc : c < 256) : ∃ K, xcall xprog (d + 1) 7 [.ref 3, .int (n32 c)] (xst e L I J) = some (none, xst e L K J) ∧ CT (l ++ [c]) K ∧ cgf K I := by
  refine ⟨xu (xu I 4 l.length (n32 c)) 3 1 (n32 (l.length + 1)), ?_, ⟨?_, fun i hi => ?_⟩, fun o k z1 z2 => ?_⟩
  · rw [aX1_put_3, bX1_put_3_0, h.1, a255 hc]
    have z1 : ¬ n32 l.length < 0 := fun q => absurd ((n32_lt (b := 0) (by omega) (by omega)).mp q) (by omega)
    have z2 : n32 l.length < 32 := (n32_lt (b := 32) (by omega) (by omega)).mpr hl
    rw [if_neg z1, if_pos z2, xin_n32 (by omega) hl, cond_true, n32_nat (by omega), n32_succ, bX1_put_3_1]
  · rw [xu_ee, List.length_append]; rfl
  · rw [xu_rne (by decide)]
    rw [List.length_append] at hi
    have hi' : i < l.length + 1 := hi
    by_cases z : i = l.length
    · rw [z, xu_ee, getD_e]
    · rw [xu_kne z, h.2 i (by omega), getD_l (by omega)]
  · by_cases z : o = 3
    · subst z
      rw [xu_kne (by omega), xu_rne z1]
    · rw [xu_rne z, xu_rne z1]
theorem r_puts (h : RT2 l I) (hl : l.length < 30) (hc : c < 128) : ∃ K, xcall xprog (d + 1) 241 [.ref 209, .int (n32 c)] (xst e L I J) = some (none, xst e L K J) ∧ RT2 (l ++ [c]) K ∧ rgf K I := by
  refine ⟨xu (xu I 225 l.length (n32 c)) 209 43 (n32 (l.length + 1)), ?_, ⟨?_, fun i hi => ?_⟩, fun o k z1 z2 => ?_⟩
  · rw [aX12_puts, bX12_puts_0, h.1, byte_of hc, xin_n32 (by omega) hl, cond_true, n32_nat (by omega), n32_succ]
  · rw [xu_ee, List.length_append]; rfl
  · rw [xu_rne (by decide)]
    rw [List.length_append] at hi
    have hi' : i < l.length + 1 := hi
    by_cases z : i = l.length
    · rw [z, xu_ee, getD_e]
    · rw [xu_kne z, h.2 i (by omega), getD_l (by omega)]
  · by_cases z : o = 209
    · subst z
      rw [xu_kne (by omega), xu_rne z1]
    · rw [xu_rne z, xu_rne z1]
theorem j7 (h : j ≤ 7) : j = 0 ∨ j = 1 ∨ j = 2 ∨ j = 3 ∨ j = 4 ∨ j = 5 ∨ j = 6 ∨ j = 7 := by omega
theorem sh_c (h : j ≤ 7) : ((Int32.toInt64 (n32 (8 * j))).toUInt64 &&& Int64.toUInt64 63).toBitVec % 64 = BitVec.ofNat 64 (8 * j) := by
  rcases j7 h with rfl | rfl | rfl | rfl | rfl | rfl | rfl | rfl <;> decide
theorem p256 : (256 : Nat) ^ j = 2 ^ (8 * j) := by rw [Nat.pow_mul]
theorem let_c (hw : w < 72057594037927936) (hj : j ≤ 7) : (Int64.toInt32 (Int64.toUInt64 (Int64.ofNat w) >>> ((Int32.toInt64 (n32 (8 * j))).toUInt64 &&& Int64.toUInt64 63)).toInt64) &&& 255 = n32 (w / 256 ^ j % 256) := by
  apply Int32.toBitVec_inj.mp
  have hx : ((Int64.toUInt64 (Int64.ofNat w) >>> ((Int32.toInt64 (n32 (8 * j))).toUInt64 &&& Int64.toUInt64 63)).toInt64).toBitVec = BitVec.ofNat 64 (w / 256 ^ j) := by
    show (Int64.toUInt64 (Int64.ofNat w) >>> ((Int32.toInt64 (n32 (8 * j))).toUInt64 &&& Int64.toUInt64 63)).toBitVec = _
    rw [UInt64.toBitVec_shiftRight, sh_c hj]
    show BitVec.ofNat 64 w >>> (BitVec.ofNat 64 (8 * j)) = BitVec.ofNat 64 (w / 256 ^ j)
    apply BitVec.eq_of_toNat_eq
    rw [BitVec.ushiftRight_eq', BitVec.toNat_ushiftRight, BitVec.toNat_ofNat, BitVec.toNat_ofNat, BitVec.toNat_ofNat, Nat.shiftRight_eq_div_pow, Nat.mod_eq_of_lt (show w < 2 ^ 64 by omega), Nat.mod_eq_of_lt (show 8 * j < 2 ^ 64 by omega), ← p256, Nat.mod_eq_of_lt]
    exact Nat.lt_of_le_of_lt (Nat.div_le_self _ _) (by omega)
  apply BitVec.eq_of_toNat_eq
  rw [Int32.toBitVec_and, BitVec.toNat_and, Int64.toBitVec_toInt32, BitVec.signExtend_eq_setWidth_of_le _ (by decide), hx, BitVec.toNat_setWidth, BitVec.toNat_ofNat, show (255 : Int32).toBitVec.toNat = 2 ^ 8 - 1 by decide, Nat.and_two_pow_sub_one_eq_mod]
  show _ = (BitVec.ofNat 32 (w / 256 ^ j % 256)).toNat
  rw [BitVec.toNat_ofNat]
  have : w / 256 ^ j < 2 ^ 64 := Nat.lt_of_le_of_lt (Nat.div_le_self _ _) (by omega)
  omega
end TAG
