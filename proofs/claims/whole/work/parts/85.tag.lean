/-! The call tag. -/
/-- what has been put, on either side -/
def CT (l : List Nat) (I : TI) : Prop := I 3 1 = n32 l.length ∧ ∀ i, i < l.length → I 4 i = n32 (l.getD i 0)
def RT2 (l : List Nat) (I : TI) : Prop := I 209 43 = n32 l.length ∧ ∀ i, i < l.length → I 225 i = n32 (l.getD i 0)
def cgf (K I : TI) : Prop := ∀ o k, o ≠ 4 → (o ≠ 3 ∨ k ≠ 1) → K o k = I o k
def rgf (K I : TI) : Prop := ∀ o k, o ≠ 225 → (o ≠ 209 ∨ k ≠ 43) → K o k = I o k
/-- the letters of a name, j of them at most -/
def nmB (w : Nat) : Nat → List Nat
  | 0 => []
  | j + 1 => (if w / 256 ^ j % 256 = 0 then [] else [w / 256 ^ j % 256]) ++ nmB w j
def dgs (n : Nat) : List Nat := (if n ≤ 9 then [] else [48 + n / 10]) ++ [48 + n % 10]
section TAG
variable {d e L : Nat} {S S' X Y : TS} {N N' : Nat → Int64} {I K M : TI} {J J' J2 : TJ} {a b c s t u v k i n r m o q w j : Nat} {l l' : List Nat}
theorem cgf_r : cgf I I := fun _ _ _ _ => rfl
theorem cgf_t (h : cgf M K) (h' : cgf K I) : cgf M I := fun o k z1 z2 => (h o k z1 z2).trans (h' o k z1 z2)
theorem rgf_r : rgf I I := fun _ _ _ _ => rfl
theorem rgf_t (h : rgf M K) (h' : rgf K I) : rgf M I := fun o k z1 z2 => (h o k z1 z2).trans (h' o k z1 z2)
theorem a255 (h : c < 256) : n32 c &&& 255 = n32 c := by
  apply Int32.toBitVec_inj.mp
  apply BitVec.eq_of_toNat_eq
  show (BitVec.ofNat 32 c &&& BitVec.ofNat 32 255).toNat = (BitVec.ofNat 32 c).toNat
  rw [BitVec.toNat_and, BitVec.toNat_ofNat, BitVec.toNat_ofNat, Nat.mod_eq_of_lt (show c < 2 ^ 32 by omega), Nat.mod_eq_of_lt (show 255 < 2 ^ 32 by decide), show 255 = 2 ^ 8 - 1 by decide, Nat.and_two_pow_sub_one_eq_mod, Nat.mod_eq_of_lt h]
theorem byte_of (h : c < 128) : Int8.toInt32 (Int32.toInt8 (Int8.toInt32 (Int32.toInt8 (n32 c)))) = n32 c := by
  have : ∀ c : Fin 128, Int8.toInt32 (Int32.toInt8 (Int8.toInt32 (Int32.toInt8 (n32 c.val)))) = n32 c.val := by decide +kernel
  exact this ⟨c, h⟩
theorem getD_l (h : i < l.length) : (l ++ [c]).getD i 0 = l.getD i 0 := by
  rw [List.getD_eq_getElem?_getD, List.getD_eq_getElem?_getD, List.getElem?_append_left h]
theorem getD_e : (l ++ [c]).getD l.length 0 = c := by
  rw [List.getD_eq_getElem?_getD, List.getElem?_append_right (Nat.le_refl _), Nat.sub_self]
  rfl
theorem c_put3 (h : CT l I) (hl : l.length < 32) (hc : c < 256) : ∃ K, xcall xprog (d + 1) 7 [.ref 3, .int (n32 c)] (xst e L I J) = some (none, xst e L K J) ∧ CT (l ++ [c]) K ∧ cgf K I := by
  refine ⟨xu (xu I 4 l.length (n32 c)) 3 1 (n32 (l.length + 1)), ?_, ⟨?_, fun i hi => ?_⟩, fun o k z1 z2 => ?_⟩
  · rw [aX1_put_3, bX1_put_3_0, h.1, a255 hc]
    have z1 : ¬ n32 l.length < 0 := fun q => absurd ((n32_lt (b := 0) (by omega) (by omega)).mp q) (by omega)
    have z2 : n32 l.length < 32 := (n32_lt (b := 32) (by omega) (by omega)).mpr hl
    rw [if_neg z1, if_pos z2, xin_n32 (by omega) hl, cond_true, n32_nat (by omega), n32_succ, bX1_put_3_1]
  · rw [xu_ee, List.length_append]; rfl
  · rw [xu_rne (by decide)]
    rw [List.length_append] at hi
    have hi' : i < l.length + 1 := hi
    by_cases z : i = l.length
    · rw [z, xu_ee, getD_e]
    · rw [xu_kne z, h.2 i (by omega), getD_l (by omega)]
  · by_cases z : o = 3
    · subst z
      rw [xu_kne (by omega), xu_rne z1]
    · rw [xu_rne z, xu_rne z1]
theorem r_puts (h : RT2 l I) (hl : l.length < 30) (hc : c < 128) : ∃ K, xcall xprog (d + 1) 241 [.ref 209, .int (n32 c)] (xst e L I J) = some (none, xst e L K J) ∧ RT2 (l ++ [c]) K ∧ rgf K I := by
  refine ⟨xu (xu I 225 l.length (n32 c)) 209 43 (n32 (l.length + 1)), ?_, ⟨?_, fun i hi => ?_⟩, fun o k z1 z2 => ?_⟩
  · rw [aX12_puts, bX12_puts_0, h.1, byte_of hc, xin_n32 (by omega) hl, cond_true, n32_nat (by omega), n32_succ]
  · rw [xu_ee, List.length_append]; rfl
  · rw [xu_rne (by decide)]
    rw [List.length_append] at hi
    have hi' : i < l.length + 1 := hi
    by_cases z : i = l.length
    · rw [z, xu_ee, getD_e]
    · rw [xu_kne z, h.2 i (by omega), getD_l (by omega)]
  · by_cases z : o = 209
    · subst z
      rw [xu_kne (by omega), xu_rne z1]
    · rw [xu_rne z, xu_rne z1]
theorem j7 (h : j ≤ 7) : j = 0 ∨ j = 1 ∨ j = 2 ∨ j = 3 ∨ j = 4 ∨ j = 5 ∨ j = 6 ∨ j = 7 := by omega
theorem sh_c (h : j ≤ 7) : ((Int32.toInt64 (n32 (8 * j))).toUInt64 &&& Int64.toUInt64 63).toBitVec % 64 = BitVec.ofNat 64 (8 * j) := by
  rcases j7 h with rfl | rfl | rfl | rfl | rfl | rfl | rfl | rfl <;> decide
theorem p256 : (256 : Nat) ^ j = 2 ^ (8 * j) := by rw [Nat.pow_mul]
theorem let_c (hw : w < 72057594037927936) (hj : j ≤ 7) : (Int64.toInt32 (Int64.toUInt64 (Int64.ofNat w) >>> ((Int32.toInt64 (n32 (8 * j))).toUInt64 &&& Int64.toUInt64 63)).toInt64) &&& 255 = n32 (w / 256 ^ j % 256) := by
  apply Int32.toBitVec_inj.mp
  have hx : ((Int64.toUInt64 (Int64.ofNat w) >>> ((Int32.toInt64 (n32 (8 * j))).toUInt64 &&& Int64.toUInt64 63)).toInt64).toBitVec = BitVec.ofNat 64 (w / 256 ^ j) := by
    show (Int64.toUInt64 (Int64.ofNat w) >>> ((Int32.toInt64 (n32 (8 * j))).toUInt64 &&& Int64.toUInt64 63)).toBitVec = _
    rw [UInt64.toBitVec_shiftRight, sh_c hj]
    show BitVec.ofNat 64 w >>> (BitVec.ofNat 64 (8 * j)) = BitVec.ofNat 64 (w / 256 ^ j)
    apply BitVec.eq_of_toNat_eq
    rw [BitVec.ushiftRight_eq', BitVec.toNat_ushiftRight, BitVec.toNat_ofNat, BitVec.toNat_ofNat, BitVec.toNat_ofNat, Nat.shiftRight_eq_div_pow, Nat.mod_eq_of_lt (show w < 2 ^ 64 by omega), Nat.mod_eq_of_lt (show 8 * j < 2 ^ 64 by omega), ← p256, Nat.mod_eq_of_lt]
    exact Nat.lt_of_le_of_lt (Nat.div_le_self _ _) (by omega)
  apply BitVec.eq_of_toNat_eq
  rw [Int32.toBitVec_and, BitVec.toNat_and, Int64.toBitVec_toInt32, BitVec.signExtend_eq_setWidth_of_le _ (by decide), hx, BitVec.toNat_setWidth, BitVec.toNat_ofNat, show (255 : Int32).toBitVec.toNat = 2 ^ 8 - 1 by decide, Nat.and_two_pow_sub_one_eq_mod]
  show _ = (BitVec.ofNat 32 (w / 256 ^ j % 256)).toNat
  rw [BitVec.toNat_ofNat]
  have : w / 256 ^ j < 2 ^ 64 := Nat.lt_of_le_of_lt (Nat.div_le_self _ _) (by omega)
  omega
theorem sh_r (h : j ≤ 7) : (Int32.toInt64 (n32 (8 * j)) &&& 63).toBitVec.smod 64 = BitVec.ofNat 64 (8 * j) := by
  rcases j7 h with rfl | rfl | rfl | rfl | rfl | rfl | rfl | rfl <;> decide
theorem let_r (hw : w < 72057594037927936) (hj : j ≤ 7) : (Int64.ofNat w >>> (Int32.toInt64 (n32 (8 * j)) &&& 63)) &&& (Int64.ofNat 255) = Int64.ofNat (w / 256 ^ j % 256) := by
  apply Int64.toBitVec_inj.mp
  have hm : (BitVec.ofNat 64 w).msb = false := by
    rw [BitVec.msb_eq_false_iff_two_mul_lt, BitVec.toNat_ofNat]
    omega
  rw [Int64.toBitVec_and, Int64.toBitVec_shiftRight, sh_r hj, BitVec.sshiftRight_eq']
  show (BitVec.ofNat 64 w).sshiftRight (BitVec.ofNat 64 (8 * j)).toNat &&& BitVec.ofNat 64 255 = BitVec.ofNat 64 (w / 256 ^ j % 256)
  rw [BitVec.sshiftRight_eq_of_msb_false hm]
  apply BitVec.eq_of_toNat_eq
  rw [BitVec.toNat_and, BitVec.toNat_ushiftRight, BitVec.toNat_ofNat, BitVec.toNat_ofNat, BitVec.toNat_ofNat, BitVec.toNat_ofNat, Nat.shiftRight_eq_div_pow, Nat.mod_eq_of_lt (show w < 2 ^ 64 by omega), Nat.mod_eq_of_lt (show 8 * j < 2 ^ 64 by omega), ← p256, Nat.mod_eq_of_lt (show 255 < 2 ^ 64 by decide), show 255 = 2 ^ 8 - 1 by decide, Nat.and_two_pow_sub_one_eq_mod]
  omega
theorem m8 : n32 (8 * (j + 1)) + (-8) = n32 (8 * j) := by
  have h : n32 (8 * (j + 1)) = n32 (8 * j) + n32 8 := by rw [n32_add]; congr 1
  rw [h, Int32.add_assoc]
  show n32 (8 * j) + ((8 : Int32) + (-8)) = n32 (8 * j)
  rw [show (8 : Int32) + (-8) = 0 by decide, Int32.add_zero]
theorem nmB_len : (nmB w j).length ≤ j := by
  induction j with
  | zero => exact Nat.le_refl _
  | succ j ih =>
    show ((if w / 256 ^ j % 256 = 0 then [] else [w / 256 ^ j % 256]) ++ nmB w j).length ≤ j + 1
    rw [List.length_append]
    split
    · rw [List.length_nil]; omega
    · rw [List.length_singleton]; omega
theorem n32_0 (h : c < 1000) : n32 c = 0 ↔ c = 0 := n32_inj (b := 0) (by omega) (by omega)
theorem c_putName (hw : w < 72057594037927936) (h : CT l I) (hl : l.length + 7 ≤ 32) : ∃ K, xcall xprog (d + 2) 9 [.ref 3, .long (Int64.ofNat w)] (xst e L I J) = some (none, xst e L K J) ∧ CT (l ++ nmB w 7) K ∧ cgf K I := by
  rw [aX1_putName, bX1_putName_0]
  have main : ∀ j, j ≤ 7 → ∀ l I, CT l I → l.length + j ≤ 32 → ∃ K, xlim (xcall xprog (d + 1)) mX1_putName 1 [.ref 3, .long (Int64.ofNat w), xD, .int (n32 (8 * j) + (-8)), xD] [] (xst e L I J) = some (none, xst e L K J) ∧ CT (l ++ nmB w j) K ∧ cgf K I := by
    intro j
    induction j with
    | zero =>
      intro _ l I h _
      refine ⟨I, ?_, by rw [show nmB w 0 = [] from rfl, List.append_nil]; exact h, cgf_r⟩
      rw [bX1_putName_1]
      exact (if_pos (by decide)).trans (bX1_putName_3 _ e L I J)
    | succ j ih =>
      intro hj l I h hl
      have z0 : ¬ n32 (8 * j) < 0 := fun q => absurd ((n32_lt (b := 0) (by omega) (by omega)).mp q) (by omega)
      have hc : w / 256 ^ j % 256 < 256 := Nat.mod_lt _ (by decide)
      rw [m8, bX1_putName_1, if_neg z0, let_c hw (by omega)]
      have en : nmB w (j + 1) = (if w / 256 ^ j % 256 = 0 then [] else [w / 256 ^ j % 256]) ++ nmB w j := rfl
      by_cases q : w / 256 ^ j % 256 = 0
      · rw [if_pos ((n32_0 (by omega)).mpr q), bX1_putName_2, en, if_pos q, List.nil_append]
        exact ih (by omega) l I h (by omega)
      · obtain ⟨K, k1, k2, k3⟩ := c_put3 (d := d) (e := e) (L := L) (J := J) (c := w / 256 ^ j % 256) h (by omega) hc
        rw [if_neg (fun z => q ((n32_0 (by omega)).mp z)), k1, xcV_some, ekX1_putName_1_13, bX1_putName_2, en, if_neg q]
        obtain ⟨M, m1, m2, m3⟩ := ih (by omega) (l ++ [w / 256 ^ j % 256]) K k2 (by rw [List.length_append, List.length_singleton]; omega)
        exact ⟨M, m1, by rw [← List.append_assoc]; exact m2, cgf_t m3 k3⟩
  exact main 7 (by omega) l I h hl
theorem r_spells (hw : w < 72057594037927936) (hb : ∀ j, j < 8 → w / 256 ^ j % 256 < 128) (h : RT2 l I) (hl : l.length + 7 ≤ 30) : ∃ K, xcall xprog (d + 2) 242 [.ref 209, .long (Int64.ofNat w)] (xst e L I J) = some (none, xst e L K J) ∧ RT2 (l ++ nmB w 7) K ∧ rgf K I := by
  rw [aX12_spells, bX12_spells_0]
  have main : ∀ j, j ≤ 8 → ∀ l I, RT2 l I → l.length + (nmB w j).length ≤ 30 → ∃ K, xlim (xcall xprog (d + 1)) mX12_spells 1 [.ref 209, .long (Int64.ofNat w), xD, .int (n32 (8 * j) + (-8))] [] (xst e L I J) = some (none, xst e L K J) ∧ RT2 (l ++ nmB w j) K ∧ rgf K I := by
    intro j
    induction j with
    | zero =>
      intro _ l I h _
      refine ⟨I, ?_, by rw [show nmB w 0 = [] from rfl, List.append_nil]; exact h, rgf_r⟩
      rw [bX12_spells_1]
      exact (if_pos (by decide)).trans (bX12_spells_3 _ e L I J)
    | succ j ih =>
      intro hj l I h hl
      have z0 : ¬ n32 (8 * j) < 0 := fun q => absurd ((n32_lt (b := 0) (by omega) (by omega)).mp q) (by omega)
      have hc := hb j (by omega)
      have en : nmB w (j + 1) = (if w / 256 ^ j % 256 = 0 then [] else [w / 256 ^ j % 256]) ++ nmB w j := rfl
      rw [en, List.length_append] at hl
      rw [m8, bX12_spells_1, if_neg z0, let_r hw (by omega)]
      by_cases q : w / 256 ^ j % 256 = 0
      · rw [if_pos q] at hl
        rw [q, if_pos (by decide), bX12_spells_2, en, if_pos q, List.nil_append]
        exact ih (by omega) l I h (by rw [List.length_nil] at hl; omega)
      · rw [if_neg q, List.length_singleton] at hl
        have qz : ¬ lg_cmp (Int64.ofNat (w / 256 ^ j % 256)) (Int64.ofNat 0) = 0 := by
          rw [lg_cmp_eq]
          intro z
          have z2 := congrArg (fun x => x.toBitVec.toNat) z
          have z3 : (BitVec.ofNat 64 (w / 256 ^ j % 256)).toNat = (BitVec.ofNat 64 0).toNat := z2
          rw [BitVec.toNat_ofNat, BitVec.toNat_ofNat] at z3
          omega
        have hn : Int64.toInt32 (Int64.ofNat (w / 256 ^ j % 256)) = n32 (w / 256 ^ j % 256) := by
          apply Int32.toBitVec_inj.mp
          rw [Int64.toBitVec_toInt32, BitVec.signExtend_eq_setWidth_of_le _ (by decide)]
          show (BitVec.ofNat 64 (w / 256 ^ j % 256)).setWidth 32 = BitVec.ofNat 32 (w / 256 ^ j % 256)
          apply BitVec.eq_of_toNat_eq
          rw [BitVec.toNat_setWidth, BitVec.toNat_ofNat, BitVec.toNat_ofNat]
          omega
        obtain ⟨K, k1, k2, k3⟩ := r_puts (d := d) (e := e) (L := L) (J := J) (c := w / 256 ^ j % 256) h (by omega) hc
        rw [if_neg qz, hn, k1, xcV_some, ekX12_spells_1_17, bX12_spells_2, en, if_neg q]
        obtain ⟨M, m1, m2, m3⟩ := ih (by omega) (l ++ [w / 256 ^ j % 256]) K k2 (by rw [List.length_append, List.length_singleton]; omega)
        exact ⟨M, m1, by rw [← List.append_assoc]; exact m2, rgf_t m3 k3⟩
  have e8 : nmB w 8 = nmB w 7 := by
    show (if w / 256 ^ 7 % 256 = 0 then [] else [w / 256 ^ 7 % 256]) ++ nmB w 7 = nmB w 7
    have : w / 256 ^ 7 % 256 = 0 := by
      rw [Nat.div_eq_of_lt (by omega)]
    rw [if_pos this, List.nil_append]
  have hlen := nmB_len (w := w) (j := 7)
  have := main 8 (by omega) l I h (by rw [e8]; omega)
  rw [e8] at this
  exact this
theorem c_putsL (cs : List Nat) : ∀ l I, CT l I → (∀ c, c ∈ cs → c < 256) → l.length + cs.length ≤ 32 → ∃ K, xputs (xcall xprog (d + 1)) 7 3 (cs.map n32) (xst e L I J) = some (none, xst e L K J) ∧ CT (l ++ cs) K ∧ cgf K I := by
  induction cs with
  | nil => intro l I h _ _; exact ⟨I, rfl, by rw [List.append_nil]; exact h, cgf_r⟩
  | cons c cs ih =>
    intro l I h hc hl
    rw [List.length_cons] at hl
    obtain ⟨K, k1, k2, k3⟩ := c_put3 (d := d) (e := e) (L := L) (J := J) (c := c) h (by omega) (hc c (List.mem_cons_self ..))
    obtain ⟨M, m1, m2, m3⟩ := ih (l ++ [c]) K k2 (fun x hx => hc x (List.mem_cons_of_mem _ hx)) (by rw [List.length_append, List.length_singleton]; omega)
    refine ⟨M, ?_, by rw [List.append_assoc] at m2; exact m2, cgf_t m3 k3⟩
    show (bif xis (xst e L I J).1 1 3 then xcV (xcall xprog (d + 1) 7 [.ref 3, .int (n32 c)] (xst e L I J)) (xputs (xcall xprog (d + 1)) 7 3 (cs.map n32)) else none) = _
    rw [show xis (xst e L I J).1 1 3 = true from rfl, cond_true, k1, xcV_some]
    exact m1
theorem c_putDigits (hn : n < 100) (h : CT l I) (hl : l.length + 2 ≤ 32) : ∃ K, xcall xprog (d + 2) 11 [.ref 3, .int (n32 n)] (xst e L I J) = some (none, xst e L K J) ∧ CT (l ++ dgs n) K ∧ cgf K I := by
  rw [aX1_putDigits, bX1_putDigits_0]
  have ed : n32 n / 10 = n32 (n / 10) := n32_div (b := 10) (by omega) (by omega)
  have er : n32 n - n32 n / 10 * 10 = n32 (n % 10) := n32_rem (b := 10) (by omega) (by omega)
  have e48 : ∀ x, (48 : Int32) + n32 x = n32 (48 + x) := fun x => n32_add
  have last : ∀ l I, CT l I → l.length < 32 → ∃ K, xlim (xcall xprog (d + 1)) mX1_putDigits 1 [.ref 3, .int (n32 n)] [] (xst e L I J) = some (none, xst e L K J) ∧ CT (l ++ [48 + n % 10]) K ∧ cgf K I := by
    intro l I h hl
    obtain ⟨K, k1, k2, k3⟩ := c_put3 (d := d) (e := e) (L := L) (J := J) (c := 48 + n % 10) h hl (by omega)
    refine ⟨K, (bX1_putDigits_1 _ e L I J _).trans ((if_neg (by decide)).trans ?_), k2, k3⟩
    rw [er, e48, k1, xcV_some, ekX1_putDigits_1_6]
  unfold dgs
  by_cases q : n ≤ 9
  · rw [if_pos (show n32 n ≤ 9 from (n32_le (b := 9) (by omega) (by omega)).mpr q), if_pos q, List.nil_append]
    exact last l I h (by omega)
  · obtain ⟨K, k1, k2, k3⟩ := c_put3 (d := d) (e := e) (L := L) (J := J) (c := 48 + n / 10) h (by omega) (by omega)
    obtain ⟨M, m1, m2, m3⟩ := last (l ++ [48 + n / 10]) K k2 (by rw [List.length_append, List.length_singleton]; omega)
    refine ⟨M, (if_neg (fun z => q ((n32_le (b := 9) (by omega) (by omega)).mp z))).trans ((if_neg (by decide)).trans ?_), by rw [if_neg q, ← List.append_assoc]; exact m2, cgf_t m3 k3⟩
    rw [ed, e48, k1, xcV_some, ekX1_putDigits_0_9]
    exact m1
theorem r_laysNumber (hn : n < 100) (h : RT2 l I) (hl : l.length + 2 ≤ 30) : ∃ K, xcall xprog (d + 2) 243 [.ref 209, .int (n32 n)] (xst e L I J) = some (none, xst e L K J) ∧ RT2 (l ++ dgs n) K ∧ rgf K I := by
  rw [aX12_laysNumber, bX12_laysNumber_0]
  have ed : n32 n / 10 = n32 (n / 10) := n32_div (b := 10) (by omega) (by omega)
  have er : n32 n - n32 n / 10 * 10 = n32 (n % 10) := n32_rem (b := 10) (by omega) (by omega)
  have e48 : ∀ x, (48 : Int32) + n32 x = n32 (48 + x) := fun x => n32_add
  have last : ∀ l I, RT2 l I → l.length < 30 → ∃ K, xlim (xcall xprog (d + 1)) mX12_laysNumber 1 [.ref 209, .int (n32 n)] [] (xst e L I J) = some (none, xst e L K J) ∧ RT2 (l ++ [48 + n % 10]) K ∧ rgf K I := by
    intro l I h hl
    obtain ⟨K, k1, k2, k3⟩ := r_puts (d := d) (e := e) (L := L) (J := J) (c := 48 + n % 10) h hl (by omega)
    refine ⟨K, (bX12_laysNumber_1 _ e L I J _).trans ((if_neg (by decide)).trans ?_), k2, k3⟩
    rw [er, e48, k1, xcV_some, ekX12_laysNumber_1_6]
  unfold dgs
  by_cases q : n ≤ 9
  · rw [if_pos (show n32 n ≤ 9 from (n32_le (b := 9) (by omega) (by omega)).mpr q), if_pos q, List.nil_append]
    exact last l I h (by omega)
  · obtain ⟨K, k1, k2, k3⟩ := r_puts (d := d) (e := e) (L := L) (J := J) (c := 48 + n / 10) h (by omega) (by omega)
    obtain ⟨M, m1, m2, m3⟩ := last (l ++ [48 + n / 10]) K k2 (by rw [List.length_append, List.length_singleton]; omega)
    refine ⟨M, (if_neg (fun z => q ((n32_le (b := 9) (by omega) (by omega)).mp z))).trans ((if_neg (by decide)).trans ?_), by rw [if_neg q, ← List.append_assoc]; exact m2, rgf_t m3 k3⟩
    rw [ed, e48, k1, xcV_some, ekX12_laysNumber_0_9]
    exact m1
end TAG
