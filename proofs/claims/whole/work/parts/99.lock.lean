/-! Both sides read the same tokens. -/
def Src (T : Nat → Int32) (n most : Nat) (I M : TI) : Prop := most ≤ 900 ∧ n ≤ 940 ∧ I 1 1 = n32 n ∧ I 2 = T ∧ I 5 6 = n32 (min n most) ∧ I 5 7 = bI (decide (most < n)) ∧ M 209 3 = n32 n ∧ M 209 5 = n32 most ∧ (∀ i, i < n → M 210 i &&& 255 = T i) ∧ ∃ p q, I 5 5 = n32 p ∧ M 209 4 = n32 q ∧ p ≤ n ∧ q ≤ n ∧ (p = q ∨ (most < n ∧ most ≤ p ∧ most ≤ q))
/-- a word of at most seven small letters -/
def Wd (x : Int64) : Prop := ∃ w, 0 < w ∧ w < 72057594037927936 ∧ (∀ j, w / 256 ^ j % 256 < 128) ∧ x = Int64.ofNat w
def Tok (I : TI) (J : TJ) (M : TI) (N : TJ) : Prop := I 5 8 = M 209 13 ∧ (
  (I 5 0 = 0 ∧ M 209 12 = 0) ∨ (I 5 0 = 1 ∧ M 209 12 = 4) ∨
  (I 5 0 = 3 ∧ M 209 12 = 2 ∧ I 5 11 = M 209 15 ∧ ∃ m, m < 1000 ∧ M 209 15 = n32 m) ∨
  (∃ g, (g = 40 ∨ g = 41 ∨ (59 ≤ g ∧ g ≤ 62)) ∧ I 5 0 = n32 g ∧ M 209 12 = 3 ∧ M 209 15 = n32 g) ∨
  (I 5 0 = kwN (N 209 18) 21 ∧ M 209 12 = 1 ∧ J 5 1 = N 209 18 ∧ Wd (N 209 18)))
section LCK
variable {d d' e L : Nat} {T : Nat → Int32} {I K M M' : TI} {J J' N N' : TJ} {p q n k i m a j w b most : Nat} {s : Bool} {x : Int32}
theorem wd_s (hw : w < 281474976710656) (hb : b < 128) : (Int64.ofNat w <<< (Int32.toInt64 8 &&& 63)) ||| Int32.toInt64 (n32 b) = Int64.ofNat (256 * w + b) := by
  apply Int64.toBitVec_inj.mp
  rw [Int64.toBitVec_or, Int64.toBitVec_shiftLeft, show (Int32.toInt64 8 &&& 63).toBitVec.smod 64 = BitVec.ofNat 64 8 by decide, Int32.toBitVec_toInt64]
  show BitVec.ofNat 64 w <<< BitVec.ofNat 64 8 ||| (BitVec.ofNat 32 b).signExtend 64 = BitVec.ofNat 64 (256 * w + b)
  have hm : (BitVec.ofNat 32 b).msb = false := by
    rw [BitVec.msb_eq_false_iff_two_mul_lt, BitVec.toNat_ofNat]
    omega
  rw [BitVec.signExtend_eq_setWidth_of_msb_false hm]
  apply BitVec.eq_of_toNat_eq
  have e1 : (BitVec.ofNat 64 w <<< BitVec.ofNat 64 8).toNat = w <<< 8 := by
    rw [BitVec.shiftLeft_eq', BitVec.toNat_shiftLeft, BitVec.toNat_ofNat, BitVec.toNat_ofNat, Nat.mod_eq_of_lt (show w < 2 ^ 64 by omega), Nat.mod_eq_of_lt (show 8 < 2 ^ 64 by omega), Nat.mod_eq_of_lt]
    rw [Nat.shiftLeft_eq]
    omega
  have e2 : ((BitVec.ofNat 32 b).setWidth 64).toNat = b := by
    rw [BitVec.toNat_setWidth, BitVec.toNat_ofNat]
    omega
  rw [BitVec.toNat_or, e1, e2, ← Nat.shiftLeft_add_eq_or_of_lt (show b < 2 ^ 8 by omega), BitVec.toNat_ofNat, Nat.shiftLeft_eq]
  omega
theorem by_s (hb : b < 128) (h : ∀ j, w / 256 ^ j % 256 < 128) : ∀ j, (256 * w + b) / 256 ^ j % 256 < 128 := by
  intro j
  cases j with
  | zero => rw [Nat.pow_zero]; omega
  | succ j =>
    rw [Nat.pow_succ, Nat.mul_comm (256 ^ j) 256, ← Nat.div_div_eq_div_mul, show (256 * w + b) / 256 = w by omega]
    exact h j
theorem ltr_n (hm : m < 256) : (ltr (n32 m) = true) ↔ (97 ≤ m ∧ m ≤ 122) := by
  have e1 : (n32 m < 97) = (m < 97) := n32_ltE (b := 97) (by omega) (by omega)
  have e2 : (n32 m ≤ 122) = (m ≤ 122) := n32_leE (b := 122) (by omega) (by omega)
  unfold ltr
  simp only [e1, e2, Bool.and_eq_true, Bool.not_eq_true', decide_eq_false_iff_not, decide_eq_true_eq]
  omega
theorem dgt_n (hm : m < 256) : (dgt (n32 m) = true) ↔ (48 ≤ m ∧ m ≤ 57) := by
  have e1 : (n32 m < 48) = (m < 48) := n32_ltE (b := 48) (by omega) (by omega)
  have e2 : (n32 m ≤ 57) = (m ≤ 57) := n32_leE (b := 57) (by omega) (by omega)
  unfold dgt
  simp only [e1, e2, Bool.and_eq_true, Bool.not_eq_true', decide_eq_false_iff_not, decide_eq_true_eq]
  omega
theorem nm_w (hk : k ≤ 7) (hb : ∀ i, i < k → ∃ b, b < 256 ∧ T (p + i) = n32 b) (h : ∀ i, i < k → ltr (T (p + i)) = true) : ∃ w, w < 256 ^ k ∧ (0 < k → 0 < w) ∧ (∀ j, w / 256 ^ j % 256 < 128) ∧ nmF T p k = Int64.ofNat w ∧ wdF T p k = Int64.ofNat w := by
  induction k with
  | zero => exact ⟨0, by omega, by omega, fun j => by rw [Nat.zero_div]; omega, rfl, rfl⟩
  | succ k ih =>
    obtain ⟨w, h1, h2, h3, h4, h5⟩ := ih (by omega) (fun i hi => hb i (by omega)) (fun i hi => h i (by omega))
    obtain ⟨b, b1, b2⟩ := hb k (by omega)
    have hl := h k (by omega)
    have hl2 := hl
    rw [b2] at hl2
    obtain ⟨l1, l2⟩ := (ltr_n b1).mp hl2
    have hw6 : w < 281474976710656 := Nat.lt_of_lt_of_le h1 (Nat.le_trans (Nat.pow_le_pow_right (by omega) (show k ≤ 6 by omega)) (by decide))
    refine ⟨256 * w + b, by rw [Nat.pow_succ]; omega, fun _ => by omega, by_s (by omega) h3, ?_, ?_⟩
    · show (if _ then _ else _) = _
      rw [if_pos hl, h4, b2, wd_s hw6 (by omega)]
    · show (if _ then _ else _) = _
      rw [if_pos (by omega), h5, b2, wd_s hw6 (by omega)]
theorem nu_n (hk : k ≤ 3) (hb : ∀ i, i < k → ∃ b, b < 256 ∧ T (p + i) = n32 b) (h : ∀ i, i < k → ltr (T (p + i)) = false ∧ dgt (T (p + i)) = true) : ∃ m, m < 10 ^ k ∧ nuF T p k = n32 m ∧ numF T p k = n32 m := by
  induction k with
  | zero => exact ⟨0, by omega, rfl, rfl⟩
  | succ k ih =>
    obtain ⟨m, h1, h2, h3⟩ := ih (by omega) (fun i hi => hb i (by omega)) (fun i hi => h i (by omega))
    obtain ⟨b, b1, b2⟩ := hb k (by omega)
    obtain ⟨hl, hd⟩ := h k (by omega)
    rw [b2] at hd
    obtain ⟨l1, l2⟩ := (dgt_n b1).mp hd
    have e1 : n32 b - 48 = n32 (b - 48) := n32_sub (b := 48) l1
    have e2 : n32 m * 10 = n32 (m * 10) := n32_mul (b := 10)
    have e3 : (10 : Int32) * n32 m = n32 (10 * m) := n32_mul (a := 10)
    refine ⟨m * 10 + (b - 48), by rw [Nat.pow_succ]; omega, ?_, ?_⟩
    · show (if _ then _ else _) = _
      rw [if_neg (by rw [hl]; decide), h2, b2, e1, e2, n32_add]
    · show (if _ then _ else _) = _
      have e4 : n32 (10 * m + b) - 48 = n32 (10 * m + b - 48) := n32_sub (b := 48) (by omega)
      rw [if_pos (by omega), h3, b2, e3, n32_add, e4]
      congr 1
      omega
theorem RN_u (h : RN T p n k) (h' : RN T p n m) : k = m := by
  obtain ⟨h1, h2, h3⟩ := h
  obtain ⟨g1, g2, g3⟩ := h'
  rcases Nat.lt_trichotomy k m with z | z | z
  · have := g2 k z
    rcases h3 with y | y
    · omega
    · rw [y] at this; cases this
  · exact z
  · have := h2 m z
    rcases g3 with y | y
    · omega
    · rw [y] at this; cases this
theorem all_i : (allF T p s k = true) ↔ ∀ i, i < k → ltr (T (p + i)) = s := by
  induction k with
  | zero => exact ⟨fun _ i hi => absurd hi (Nat.not_lt_zero i), fun _ => rfl⟩
  | succ k ih =>
    show (allF T p s k && (ltr (T (p + k)) == s)) = true ↔ _
    rw [Bool.and_eq_true, ih, beq_iff_eq]
    constructor
    · intro h i hi
      by_cases z : i = k
      · rw [z]; exact h.2
      · exact h.1 i (by omega)
    · intro h
      exact ⟨fun i hi => h i (by omega), h k (by omega)⟩
theorem dc_0 : (dcF T p k = 0) ↔ ∀ i, i < k → ltr (T (p + i)) = true := by
  induction k with
  | zero => exact ⟨fun _ i hi => absurd hi (Nat.not_lt_zero i), fun _ => rfl⟩
  | succ k ih =>
    show (if _ then _ else _) = 0 ↔ _
    by_cases h : ltr (T (p + k)) = true
    · rw [if_pos h, ih]
      constructor
      · intro g i hi
        by_cases z : i = k
        · rw [z]; exact h
        · exact g i (by omega)
      · intro g i hi
        exact g i (by omega)
    · rw [if_neg h]
      exact ⟨fun z => absurd z (by omega), fun z => absurd (z k (by omega)) h⟩
theorem lc_0 : (lcF T p k = 0) ↔ ∀ i, i < k → ltr (T (p + i)) = false := by
  induction k with
  | zero => exact ⟨fun _ i hi => absurd hi (Nat.not_lt_zero i), fun _ => rfl⟩
  | succ k ih =>
    show (if _ then _ else _) = 0 ↔ _
    by_cases h : ltr (T (p + k)) = true
    · rw [if_pos h]
      exact ⟨fun z => absurd z (by omega), fun z => absurd (z k (by omega)) (by rw [h]; decide)⟩
    · have h' : ltr (T (p + k)) = false := by cases z : ltr (T (p + k)) <;> simp_all
      rw [if_neg h, ih]
      constructor
      · intro g i hi
        by_cases z : i = k
        · rw [z]; exact h'
        · exact g i (by omega)
      · intro g i hi
        exact g i (by omega)
/-- both sides' words for a run are the same -/
theorem tok_run (hm : M 209 12 = tkF (ltr (T p)) (allF T p (ltr (T p)) k) k) (h15 : M 209 15 = numF T p k) (h18 : N 209 18 = wdF T p k) (h8 : I 5 8 = M 209 13) (h1 : J 5 1 = nmF T p k) (h11 : I 5 11 = nuF T p k) (h0 : I 5 0 = (if dcF T p k = 0 ∧ lcF T p k ≤ 7 then kwN (nmF T p k) 21 else if lcF T p k = 0 ∧ dcF T p k ≤ 3 then 3 else 1)) (hk : 0 < k) (hr : RN T p n k) (hb : ∀ i, i < n → ∃ b, b < 256 ∧ T i = n32 b) : Tok I J M N := by
  refine ⟨h8, ?_⟩
  obtain ⟨r1, r2, r3⟩ := hr
  have hb' : ∀ i, i < k → ∃ b, b < 256 ∧ T (p + i) = n32 b := fun i hi => hb _ (by omega)
  have hld := lc_dc (T := T) (p := p) (k := k)
  have hp0 : T (p + 0) = T p := rfl
  unfold tkF at hm
  cases hs : ltr (T p) with
  | true =>
    rw [hs] at hm
    have l0 : ¬ lcF T p k = 0 := fun z => by
      have := lc_0.mp z 0 hk
      rw [hp0, hs] at this
      cases this
    cases ha : allF T p true k with
    | true =>
      have hal := all_i.mp ha
      have d0 := dc_0.mpr hal
      rw [ha, if_neg (by decide), if_pos rfl] at hm
      by_cases k7 : k ≤ 7
      · rw [if_pos k7] at hm
        rw [if_pos ⟨d0, by omega⟩] at h0
        obtain ⟨w, w1, w2, w3, w4, w5⟩ := nm_w k7 hb' hal
        have hw7 : w < 72057594037927936 := Nat.lt_of_lt_of_le w1 (Nat.le_trans (Nat.pow_le_pow_right (by omega) k7) (by decide))
        refine Or.inr (Or.inr (Or.inr (Or.inr ⟨?_, hm, ?_, w, w2 hk, hw7, w3, h18.trans w5⟩)))
        · rw [h0, h18, w4, w5]
        · rw [h1, h18, w4, w5]
      · rw [if_neg k7] at hm
        rw [if_neg (fun z => k7 (by omega)), if_neg (fun z => l0 z.1)] at h0
        exact Or.inr (Or.inl ⟨h0, hm⟩)
    | false =>
      rw [ha, if_pos rfl] at hm
      have d0 : ¬ dcF T p k = 0 := fun z => by
        have := all_i.mpr (dc_0.mp z)
        rw [ha] at this
        cases this
      rw [if_neg (fun z => d0 z.1), if_neg (fun z => l0 z.1)] at h0
      exact Or.inr (Or.inl ⟨h0, hm⟩)
  | false =>
    rw [hs] at hm
    have d0 : ¬ dcF T p k = 0 := fun z => by
      have := dc_0.mp z 0 hk
      rw [hp0, hs] at this
      cases this
    rw [if_neg (fun z => d0 z.1)] at h0
    cases ha : allF T p false k with
    | true =>
      have hal := all_i.mp ha
      have l0 := lc_0.mpr hal
      rw [ha, if_neg (by decide), if_neg (by decide)] at hm
      by_cases k3 : k ≤ 3
      · rw [if_pos k3] at hm
        rw [if_pos ⟨l0, by omega⟩] at h0
        obtain ⟨m, m1, m2, m3⟩ := nu_n k3 hb' (fun i hi => ⟨hal i hi, by
          have := r2 i hi
          rw [hal i hi, Bool.false_or] at this
          exact this⟩)
        have hm3 : m < 1000 := Nat.lt_of_lt_of_le m1 (Nat.le_trans (Nat.pow_le_pow_right (by omega) k3) (by decide))
        exact Or.inr (Or.inr (Or.inl ⟨h0, hm, by rw [h11, h15, m2, m3], m, hm3, h15.trans m3⟩))
      · rw [if_neg k3] at hm
        rw [if_neg (fun z => k3 (by omega))] at h0
        exact Or.inr (Or.inl ⟨h0, hm⟩)
    | false =>
      rw [ha, if_pos rfl] at hm
      have l0 : ¬ lcF T p k = 0 := fun z => by
        have := all_i.mpr (lc_0.mp z)
        rw [ha] at this
        cases this
      rw [if_neg (fun z => l0 z.1)] at h0
      exact Or.inr (Or.inl ⟨h0, hm⟩)
theorem lk_next (h : Src T n most I M) : ∃ K J' M' N', xcall xprog (d + 2) 89 [.ref 5] (xst e L I J) = some (none, xst e L K J') ∧ xcall xprog (d' + 2) 167 [.ref 209] (xst e L M N) = some (none, xst e L M' N') ∧ caF K I J' J ∧ nxF M' M N' N ∧ Src T n most K M' ∧ Tok K J' M' N' := by
  obtain ⟨s1, s2, s3, s4, s5, s6, s7, s8, s9, p, q, s10, s11, s12, s13, s14⟩ := h
  have hx : Rtx T n M := ⟨s2, s7, s9⟩
  have hb : ∀ i, i < n → ∃ b, b < 256 ∧ T i = n32 b := fun i hi => Rtx_b hx hi
  obtain ⟨p1, K, J', c1, c2, c3, c4, c5, c6, c7⟩ := c_advance (d := d) (e := e) (L := L) (J := J) (most := most) s3 s2 s5 s6 s10 s12 (by rw [s4]; exact hb)
  obtain ⟨q1, M', N', r1, r2, r3, r4, r5, r6, r7⟩ := r_next (d := d') (e := e) (L := L) (N := N) s1 hx s8 s11 s13
  rw [s4] at c4 c5 c7
  refine ⟨K, J', M', N', c1, r1, c6, r6, ?_⟩
  have src : ∀ p2 q2, K 5 5 = n32 p2 → M' 209 4 = n32 q2 → p2 ≤ n → q2 ≤ n → (p2 = q2 ∨ (most < n ∧ most ≤ p2 ∧ most ≤ q2)) → Src T n most K M' := fun p2 q2 z1 z2 z3 z4 z5 => ⟨s1, s2, (c6.1 1 1 (by omega)).trans s3, (funext fun i => c6.1 2 i (by omega)).trans s4, (c6.1 5 6 (by omega)).trans s5, (c6.1 5 7 (by omega)).trans s6, (r6.1 209 3 (by omega)).trans s7, (r6.1 209 5 (by omega)).trans s8, fun i hi => by rw [r6.1 210 i (by omega)]; exact s9 i hi, p2, q2, z1, z2, z3, z4, z5⟩
  have bl : ∀ {y : Bool}, y = true → y = false → False := fun {y} z1 z2 => by rw [z1] at z2; cases z2
  rcases c7 with ⟨a1, a2, a3, a4⟩ | ⟨a1, a2, k, a3, a4⟩
  · by_cases hmn : most < n
    · have hq1 : most ≤ q1 := by
        rcases s14 with z | z
        · rcases r5 with y | y
          · omega
          · by_cases w : q1 < p1
            · exact (bl (c4 q1 (by omega) w) y).elim
            · omega
        · omega
      rcases r7 with ⟨b1, b2, b3, b4, b5⟩ | ⟨b1, _⟩
      · refine ⟨src p1 q1 a4 b5 (by omega) r3 (Or.inr ⟨hmn, by omega, hq1⟩), ?_, Or.inr (Or.inl ⟨?_, b4⟩)⟩
        · rw [a2, b3, Nat.min_eq_right (by omega)]
        · rw [a3, decide_eq_true hmn]; rfl
      · exact absurd ⟨hmn, hq1⟩ b1
    · have hpq : p = q := by omega
      have hp1 : p1 = n := by omega
      have hq1 : q1 = n := by
        rcases r5 with y | y
        · exact y
        · by_cases w : q1 < p1
          · exact (bl (c4 q1 (by omega) w) y).elim
          · omega
      rcases r7 with ⟨b1, _⟩ | ⟨b1, b2, b3⟩
      · exact absurd b1 hmn
      · rcases b3 with ⟨b3, b4, b5⟩ | ⟨b3, _⟩ | ⟨b3, _⟩
        · refine ⟨src p1 q1 a4 b5 (by omega) r3 (Or.inl (by omega)), ?_, Or.inl ⟨?_, b4⟩⟩
          · rw [a2, b2, Nat.min_eq_left (by omega), hq1]
          · rw [a3, decide_eq_false hmn]; rfl
        · omega
        · omega
  · have hpq : p = q := by omega
    have hbp : blk (T p1) = false := by
      rcases c5 with z | z
      · omega
      · exact z
    have hq1 : q1 = p1 := by
      rcases Nat.lt_trichotomy q1 p1 with w | w | w
      · rcases r5 with y | y
        · omega
        · exact (bl (c4 q1 (by omega) w) y).elim
      · exact w
      · exact (bl (r4 p1 (by omega) w) hbp).elim
    subst hq1
    rcases r7 with ⟨b1, b2, _⟩ | ⟨b1, b2, b3⟩
    · omega
    · have e8 : K 5 8 = M' 209 13 := a2.trans b2.symm
      rcases b3 with ⟨b3, _⟩ | ⟨b3, b4, b5, b6, b7, b8⟩ | ⟨b3, m, b4, b5, b6, b7, b8, b9⟩
      · omega
      · have hk0 : k = 0 := by
          rcases Nat.eq_zero_or_pos k with z | z
          · exact z
          · have := a3.2.1 0 z
            rw [show q1 + 0 = q1 from rfl, b4, b5] at this
            cases this
        rcases a4 with ⟨_, a5, a6⟩ | ⟨a5, _⟩
        · refine ⟨src (q1 + 1) (q1 + 1) a6 b8 (by omega) (by omega) (Or.inl rfl), e8, ?_⟩
          obtain ⟨g, g1, g2⟩ := hb q1 b3
          cases hsg : sgn (T q1) with
          | true =>
            rw [hsg, if_pos rfl] at a5 b6
            refine Or.inr (Or.inr (Or.inr (Or.inl ⟨g, ?_, a5.trans g2, b6, b7.trans g2⟩)))
            rw [g2] at hsg
            have f1 : (n32 g = 59) = (g = 59) := n32_eqE (b := 59) (by omega) (by omega)
            have f2 : (n32 g = 40) = (g = 40) := n32_eqE (b := 40) (by omega) (by omega)
            have f3 : (n32 g = 41) = (g = 41) := n32_eqE (b := 41) (by omega) (by omega)
            have f4 : (n32 g < 60) = (g < 60) := n32_ltE (b := 60) (by omega) (by omega)
            have f5 : (n32 g ≤ 62) = (g ≤ 62) := n32_leE (b := 62) (by omega) (by omega)
            unfold sgn at hsg
            simp only [f1, f2, f3, f4, f5, Bool.or_eq_true, Bool.and_eq_true, Bool.not_eq_true', decide_eq_false_iff_not, decide_eq_true_eq] at hsg
            omega
          | false =>
            rw [hsg, if_neg (by decide)] at a5 b6
            exact Or.inr (Or.inl ⟨a5, b6⟩)
        · omega
      · have hkm : k = m := RN_u a3 b5
        subst hkm
        rcases a4 with ⟨a5, _⟩ | ⟨a5, a6, a7, a9, a10⟩
        · omega
        · exact ⟨src (q1 + k) (q1 + k) a6 b6 b5.1 b5.1 (Or.inl rfl), tok_run b7 b8 b9 e8 a7 a9 a10 a5 a3 hb⟩
end LCK
