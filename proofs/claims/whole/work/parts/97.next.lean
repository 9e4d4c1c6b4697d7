/-! The reference's tokens. -/
def blk (x : Int32) : Bool := decide (x = 32) || decide (x = 10)
def bI (b : Bool) : Int32 := if b = true then 1 else 0
def pk (T : Nat → Int32) (n q : Nat) : Int32 := if q < n then T q else -1
def sgn (x : Int32) : Bool := decide (x = 59) || decide (x = 40) || decide (x = 41) || (!decide (x < 60) && decide (x ≤ 62))
/-- the reference's text -/
def Rtx (T : Nat → Int32) (n : Nat) (M : TI) : Prop := n ≤ 940 ∧ M 209 3 = n32 n ∧ ∀ i, i < n → M 210 i &&& 255 = T i
def allF (T : Nat → Int32) (a : Nat) (s : Bool) : Nat → Bool
  | 0 => true
  | k + 1 => allF T a s k && (ltr (T (a + k)) == s)
def wdF (T : Nat → Int32) (a : Nat) : Nat → Int64
  | 0 => Int64.ofNat 0
  | k + 1 => if k < 7 then (wdF T a k <<< (Int32.toInt64 8 &&& 63)) ||| Int32.toInt64 (T (a + k)) else wdF T a k
def numF (T : Nat → Int32) (a : Nat) : Nat → Int32
  | 0 => 0
  | k + 1 => if k < 3 then 10 * numF T a k + T (a + k) - 48 else numF T a k
section NXT
variable {d e L : Nat} {T : Nat → Int32} {I K M M' : TI} {J J' N N' : TJ} {p q n k i m a : Nat} {b s : Bool} {x : Int32}
theorem bI_0 : (bI b = 0) = (b = false) := by cases b <;> decide
theorem bI_f0 : bI false = 0 := rfl
theorem bI_t0 : ¬ bI true = 0 := by decide
theorem bI_t : bI true = 1 := rfl
theorem bI_f : bI false = 0 := rfl
theorem xrZ_b {σ : xS} : xrZ (bI b) σ = some (some (.int (bI b)), σ) := by cases b <;> rfl
theorem bI_e : (bI b = bI s) = (b = s) := by cases b <;> cases s <;> decide
theorem blk_t (h : blk x = true) : x = 32 ∨ x = 10 := by
  unfold blk at h
  simpa using h
theorem blk_f (h : blk x = false) : ¬ x = 32 ∧ ¬ x = 10 := by
  unfold blk at h
  simpa using h
theorem and255_n (x : Int32) : x &&& 255 = n32 (x.toBitVec.toNat % 256) := by
  apply Int32.toBitVec_inj.mp
  apply BitVec.eq_of_toNat_eq
  rw [Int32.toBitVec_and]
  show (x.toBitVec &&& 255#32).toNat = (BitVec.ofNat 32 (x.toBitVec.toNat % 256)).toNat
  rw [BitVec.toNat_and, show (255#32).toNat = 2^8 - 1 from rfl, Nat.and_two_pow_sub_one_eq_mod, BitVec.toNat_ofNat]
  omega
theorem Rtx_c (h1 : M' 209 3 = M 209 3) (h2 : M' 210 = M 210) (h : Rtx T n M) : Rtx T n M' := ⟨h.1, h1.trans h.2.1, by rw [h2]; exact h.2.2⟩
theorem Rtx_b (h : Rtx T n M) (hi : i < n) : ∃ b, b < 256 ∧ T i = n32 b := ⟨_, Nat.mod_lt _ (by omega), (h.2.2 i hi).symm.trans (and255_n _)⟩
theorem r_peek (h : Rtx T n M) (hq : M 209 4 = n32 q) (hqn : q ≤ n) : xcall xprog (d + 1) 164 [.ref 209] (xst e L M N) = some (some (.int (pk T n q)), xst e L M N) := by
  obtain ⟨h1, h2, h3⟩ := h
  refine (sX12_peek d e L M N (fun z => ?_)).trans ?_
  · rw [hq, h2] at z
    have := (n32_lt (by omega) (by omega)).mp z
    rw [hq]
    exact xin_b1 (by omega) (by omega)
  · rw [hq, h2]
    unfold pk
    by_cases z : q < n
    · rw [if_pos ((n32_lt (by omega) (by omega)).mpr z), if_pos z, n32_nat (by omega), h3 q z]
    · rw [if_neg (fun w => z ((n32_lt (by omega) (by omega)).mp w)), if_neg z]
theorem small_E : (if x < 97 then (0 : Int32) else (if x ≤ 122 then (1 : Int32) else 0)) = bI (ltr x) := by
  unfold ltr bI
  by_cases h1 : x < 97
  · simp [h1]
  · by_cases h2 : x ≤ 122 <;> simp [h1, h2]
theorem digit_E : (if x < 48 then (0 : Int32) else (if x ≤ 57 then (1 : Int32) else 0)) = bI (dgt x) := by
  unfold dgt bI
  by_cases h1 : x < 48
  · simp [h1]
  · by_cases h2 : x ≤ 57 <;> simp [h1, h2]
theorem r_small : xcall xprog (d + 1) 165 [.int x] (xst e L M N) = some (some (.int (bI (ltr x))), xst e L M N) := (sX12_isSmall d e L M N x).trans (by rw [small_E])
theorem r_digit : xcall xprog (d + 1) 166 [.int x] (xst e L M N) = some (some (.int (bI (dgt x))), xst e L M N) := (sX12_isDigit d e L M N x).trans (by rw [digit_E])
theorem r_skip : ∀ m q (M : TI), q + m = n → Rtx T n M → M 209 4 = n32 q → ∃ q1 M', q ≤ q1 ∧ q1 ≤ n ∧ (∀ i, q ≤ i → i < q1 → blk (T i) = true) ∧ (q1 = n ∨ blk (T q1) = false) ∧ M' 209 4 = n32 q1 ∧ (∀ o k, (o ≠ 209 ∨ k ≠ 4) → M' o k = M o k) ∧ xlim (xcall xprog (d + 1)) mX12_next 0 [.ref 209, xD, xD, xD] [] (xst e L M N) = xlim (xcall xprog (d + 1)) mX12_next 2 [.ref 209, xD, xD, xD] [] (xst e L M' N) := by
  intro m
  induction m with
  | zero =>
    intro q M hm h hq
    have hp : pk T n q = -1 := if_neg (by omega)
    refine ⟨q, M, by omega, by omega, fun i z1 z2 => absurd z2 (by omega), Or.inl (by omega), hq, fun _ _ _ => rfl, ?_⟩
    rw [bX12_next_0, r_peek h hq (by omega), xcI_some, ekX12_next_0_1, hp, if_neg (by decide), r_peek h hq (by omega), xcI_some, ekX12_next_0_5, hp, if_neg (by decide)]
  | succ m ih =>
    intro q M hm h hq
    have hp : pk T n q = T q := if_pos (by omega)
    by_cases hb : blk (T q) = true
    · obtain ⟨q1, M', h1, h2, h3, h4, h5, h6, h7⟩ := ih (q + 1) (xu M 209 4 (n32 (q + 1))) (by omega) (Rtx_c (xu_kne (by decide)) (xu_rne (by decide)) h) xu_ee
      refine ⟨q1, M', by omega, h2, fun i z1 z2 => ?_, h4, h5, fun o k z => ?_, ?_⟩
      · by_cases y : i = q
        · rw [y]; exact hb
        · exact h3 i (by omega) z2
      · rw [h6 o k z]
        by_cases y : o = 209
        · subst y
          exact xu_kne (by omega)
        · rw [xu_rne y]
      · rw [← h7, bX12_next_0, r_peek h hq (by omega), xcI_some, ekX12_next_0_1, hp]
        have e1 : xlim (xcall xprog (d + 1)) mX12_next 1 [.ref 209, xD, xD, xD] [] (xst e L M N) = xlim (xcall xprog (d + 1)) mX12_next 0 [.ref 209, xD, xD, xD] [] (xst e L (xu M 209 4 (n32 (q + 1))) N) := by rw [bX12_next_1, hq, n32_succ]
        rcases blk_t hb with z | z
        · rw [if_pos z, e1]
        · by_cases y : T q = 32
          · rw [if_pos y, e1]
          · rw [if_neg y, r_peek h hq (by omega), xcI_some, ekX12_next_0_5, hp, if_pos z, e1]
    · have hb' : blk (T q) = false := by cases z : blk (T q) <;> simp_all
      obtain ⟨b1, b2⟩ := blk_f hb'
      refine ⟨q, M, by omega, by omega, fun i z1 z2 => absurd z2 (by omega), Or.inr hb', hq, fun _ _ _ => rfl, ?_⟩
      rw [bX12_next_0, r_peek h hq (by omega), xcI_some, ekX12_next_0_1, hp, if_neg b1, r_peek h hq (by omega), xcI_some, ekX12_next_0_5, hp, if_neg b2]
/-- what the reference has read of a run -/
def RRr (T : Nat → Int32) (M0 : TI) (N0 : TJ) (a k : Nat) (M : TI) (N : TJ) : Prop := M 209 4 = n32 (a + k) ∧ M 209 14 = n32 k ∧ M 209 15 = numF T a k ∧ N 209 18 = wdF T a k ∧ (∀ o q, (o ≠ 209 ∨ ¬ (q = 4 ∨ q = 14 ∨ q = 15)) → M o q = M0 o q) ∧ ∀ o q, (o ≠ 209 ∨ q ≠ 18) → N o q = N0 o q
theorem Rrr_t {M0 : TI} {N0 : TJ} (h : Rtx T n M0) (r : RRr T M0 N0 a k M N) : Rtx T n M := Rtx_c (r.2.2.2.2.1 209 3 (by omega)) (funext fun i => r.2.2.2.2.1 210 i (by omega)) h
theorem r_run10 {M0 : TI} {N0 : TJ} (h : Rtx T n M0) (hk : a + k < n) (r : RRr T M0 N0 a k M N) : ∃ M' N', xlim (xcall xprog (d + 1)) mX12_next 10 [.ref 209, xD, .int (bI s), .int (bI (allF T a s k))] [] (xst e L M N) = xlim (xcall xprog (d + 1)) mX12_next 9 [.ref 209, xD, .int (bI s), .int (bI (allF T a s (k + 1)))] [] (xst e L M' N') ∧ RRr T M0 N0 a (k + 1) M' N' := by
  have h9 := h.1
  have ht := Rrr_t h r
  obtain ⟨r1, r2, r3, r4, r5, r6⟩ := r
  have hp : pk T n (a + k) = T (a + k) := if_pos hk
  have s1 : xlim (xcall xprog (d + 1)) mX12_next 10 [.ref 209, xD, .int (bI s), .int (bI (allF T a s k))] [] (xst e L M N) = xlim (xcall xprog (d + 1)) mX12_next 12 [.ref 209, xD, .int (bI s), xD] [.int (bI (allF T a s (k + 1)))] (xst e L M N) := by
    have e1 : allF T a s (k + 1) = (allF T a s k && (ltr (T (a + k)) == s)) := rfl
    rw [bX12_next_10, e1]
    cases z : allF T a s k with
    | false => rw [if_pos bI_f0, bX12_next_11, Bool.false_and]; rfl
    | true =>
      rw [if_neg bI_t0, r_peek ht r1 (by omega), xcI_some, ekX12_next_10_3, hp, r_small, xcI_some, ekX12_next_10_4, Bool.true_and]
      by_cases y : ltr (T (a + k)) = s
      · rw [if_pos (by rw [y]), beq_iff_eq.mpr y]; rfl
      · rw [if_neg (by rw [bI_e]; exact y), bX12_next_11, beq_eq_false_iff_ne.mpr y]; rfl
  have s2 : ∃ N', xlim (xcall xprog (d + 1)) mX12_next 12 [.ref 209, xD, .int (bI s), xD] [.int (bI (allF T a s (k + 1)))] (xst e L M N) = xlim (xcall xprog (d + 1)) mX12_next 13 [.ref 209, xD, .int (bI s), .int (bI (allF T a s (k + 1)))] [] (xst e L M N') ∧ N' 209 18 = wdF T a (k + 1) ∧ ∀ o q, (o ≠ 209 ∨ q ≠ 18) → N' o q = N0 o q := by
    rw [bX12_next_12, r2]
    by_cases z : k < 7
    · refine ⟨xu N 209 18 ((N 209 18 <<< (Int32.toInt64 8 &&& 63)) ||| Int32.toInt64 (T (a + k))), ?_, ?_, fun o q y => ?_⟩
      · rw [if_pos ((q7l (by omega)).mpr z), r_peek ht r1 (by omega), xcI_some, ekX12_next_12_11, hp]
      · rw [xu_ee, r4]
        exact (if_pos z).symm
      · by_cases w : o = 209
        · subst w
          rw [xu_kne (by omega), r6 209 q y]
        · rw [xu_rne w, r6 o q y]
    · refine ⟨N, ?_, ?_, r6⟩
      · rw [if_neg (fun w => z ((q7l (by omega)).mp w))]
      · rw [r4]
        exact (if_neg z).symm
  obtain ⟨N', s2, n1, n2⟩ := s2
  have s3 : ∃ M', xlim (xcall xprog (d + 1)) mX12_next 13 [.ref 209, xD, .int (bI s), .int (bI (allF T a s (k + 1)))] [] (xst e L M N') = xlim (xcall xprog (d + 1)) mX12_next 14 [.ref 209, xD, .int (bI s), .int (bI (allF T a s (k + 1)))] [] (xst e L M' N') ∧ M' 209 15 = numF T a (k + 1) ∧ ∀ o q, (o ≠ 209 ∨ q ≠ 15) → M' o q = M o q := by
    rw [bX12_next_13, r2]
    by_cases z : k < 3
    · refine ⟨xu M 209 15 (10 * M 209 15 + T (a + k) - 48), ?_, ?_, fun o q y => ?_⟩
      · rw [if_pos ((q3l (by omega)).mpr z), r_peek ht r1 (by omega), xcI_some, ekX12_next_13_10, hp]
      · rw [xu_ee, r3]
        exact (if_pos z).symm
      · by_cases w : o = 209
        · subst w
          rw [xu_kne (by omega)]
        · rw [xu_rne w]
    · refine ⟨M, ?_, ?_, fun _ _ _ => rfl⟩
      · rw [if_neg (fun w => z ((q3l (by omega)).mp w))]
      · rw [r3]
        exact (if_neg z).symm
  obtain ⟨M', s3, m1, m2⟩ := s3
  refine ⟨xu (xu M' 209 14 (n32 (k + 1))) 209 4 (n32 (a + k + 1)), N', ?_, ⟨xu_ee, by rw [xu_kne (by decide), xu_ee], by rw [xu_kne (by decide), xu_kne (by decide), m1], n1, fun o q z => ?_, n2⟩⟩
  · rw [s1, s2, s3, bX12_next_14, m2 209 14 (by omega), m2 209 4 (by omega), r1, r2, n32_succ, n32_succ]
  · by_cases w : o = 209
    · subst w
      rw [xu_kne (by omega), xu_kne (by omega), m2 209 q (by omega), r5 209 q z]
    · rw [xu_rne w, xu_rne w, m2 o q (by omega), r5 o q z]
theorem r_run {M0 : TI} {N0 : TJ} (h : Rtx T n M0) : ∀ m k, a + k + m = n → ∀ M N, RRr T M0 N0 a k M N → (∀ i, i < k → (ltr (T (a + i)) || dgt (T (a + i))) = true) → ∃ k1 M' N', xlim (xcall xprog (d + 1)) mX12_next 9 [.ref 209, xD, .int (bI s), .int (bI (allF T a s k))] [] (xst e L M N) = xlim (xcall xprog (d + 1)) mX12_next 15 [.ref 209, xD, .int (bI s), .int (bI (allF T a s k1))] [] (xst e L M' N') ∧ k ≤ k1 ∧ RN T a n k1 ∧ RRr T M0 N0 a k1 M' N' := by
  intro m
  have h9 := h.1
  induction m with
  | zero =>
    intro k hk M N r hr
    have ht := Rrr_t h r
    have hp : pk T n (a + k) = -1 := if_neg (by omega)
    refine ⟨k, M, N, ?_, Nat.le_refl _, ⟨by omega, hr, Or.inl (by omega)⟩, r⟩
    rw [bX12_next_9, r_peek ht r.1 (by omega), xcI_some, ekX12_next_9_1, hp, r_small, xcI_some, ekX12_next_9_2, if_pos (show bI (ltr (-1)) = 0 by decide), r_peek ht r.1 (by omega), xcI_some, ekX12_next_9_5, hp, r_digit, xcI_some, ekX12_next_9_6, if_pos (show bI (dgt (-1)) = 0 by decide)]
  | succ m ih =>
    intro k hk M N r hr
    have ht := Rrr_t h r
    have hp : pk T n (a + k) = T (a + k) := if_pos (by omega)
    have go : (ltr (T (a + k)) || dgt (T (a + k))) = true → ∃ k1 M' N', xlim (xcall xprog (d + 1)) mX12_next 10 [.ref 209, xD, .int (bI s), .int (bI (allF T a s k))] [] (xst e L M N) = xlim (xcall xprog (d + 1)) mX12_next 15 [.ref 209, xD, .int (bI s), .int (bI (allF T a s k1))] [] (xst e L M' N') ∧ k ≤ k1 ∧ RN T a n k1 ∧ RRr T M0 N0 a k1 M' N' := fun hl => by
      obtain ⟨M2, N2, g1, g2⟩ := r_run10 (d := d) (e := e) (L := L) (s := s) h (show a + k < n by omega) r
      obtain ⟨k1, M', N', f1, f2, f3, f4⟩ := ih (k + 1) (by omega) M2 N2 g2 (fun i hi => by
        by_cases z : i = k
        · rw [z]; exact hl
        · exact hr i (by omega))
      exact ⟨k1, M', N', g1.trans f1, by omega, f3, f4⟩
    rw [bX12_next_9, r_peek ht r.1 (by omega), xcI_some, ekX12_next_9_1, hp, r_small, xcI_some, ekX12_next_9_2]
    cases z : ltr (T (a + k)) with
    | true =>
      rw [if_neg bI_t0]
      exact go (by rw [z]; rfl)
    | false =>
      rw [if_pos bI_f0, r_peek ht r.1 (by omega), xcI_some, ekX12_next_9_5, hp, r_digit, xcI_some, ekX12_next_9_6]
      cases y : dgt (T (a + k)) with
      | true =>
        rw [if_neg bI_t0]
        exact go (by rw [y, Bool.or_true])
      | false =>
        rw [if_pos bI_f0]
        exact ⟨k, M, N, rfl, Nat.le_refl _, ⟨by omega, hr, Or.inr (by rw [z, y]; rfl)⟩, r⟩
def tkF (s al : Bool) (k : Nat) : Int32 := if al = false then 4 else if s = true then (if k ≤ 7 then 1 else 4) else (if k ≤ 3 then 2 else 4)
theorem r_run15 (h14 : M 209 14 = n32 k) (hk : k ≤ 940) : xlim (xcall xprog (d + 1)) mX12_next 15 [.ref 209, xD, .int (bI s), .int (bI b)] [] (xst e L M N) = some (none, xst e L (xu M 209 12 (tkF s b k)) N) := by
  unfold tkF
  rw [bX12_next_15, h14]
  cases b with
  | false => rw [if_pos bI_f0, if_pos rfl, bX12_next_18, bX12_next_21]
  | true =>
    rw [if_neg bI_t0, if_neg (fun h : true = false => Bool.noConfusion h)]
    cases s with
    | false =>
      rw [if_pos bI_f0, if_neg Bool.false_ne_true, bX12_next_16, bX12_next_17]
      by_cases z : k ≤ 3
      · rw [if_pos ((q3r (by omega)).mpr z), if_pos z, bX12_next_19, if_pos bI_f0, bX12_next_20, bX12_next_21]
      · rw [if_neg (fun w => z ((q3r (by omega)).mp w)), if_neg z, bX12_next_18, bX12_next_21]
    | true =>
      rw [if_neg bI_t0, if_pos rfl, bX12_next_17]
      by_cases z : k ≤ 7
      · rw [if_pos ((q7r (by omega)).mpr z), if_pos z, bX12_next_19, if_neg bI_t0, bX12_next_21]
      · rw [if_neg (fun w => z ((q7r (by omega)).mp w)), if_neg z, bX12_next_18, bX12_next_21]
/-- cells that next changes -/
def nxF (M' M : TI) (N' N : TJ) : Prop := (∀ o q, (o ≠ 209 ∨ ¬ (q = 4 ∨ (12 ≤ q ∧ q ≤ 15))) → M' o q = M o q) ∧ ∀ o q, (o ≠ 209 ∨ q ≠ 18) → N' o q = N o q
/-- the token that stands at q1, as the reference has it -/
def RTk (T : Nat → Int32) (n most q1 : Nat) (M : TI) (N : TJ) : Prop :=
  (most < n ∧ most ≤ q1 ∧ M 209 13 = n32 most ∧ M 209 12 = 4 ∧ M 209 4 = n32 q1) ∨
  (¬ (most < n ∧ most ≤ q1) ∧ M 209 13 = n32 q1 ∧ (
    (q1 = n ∧ M 209 12 = 0 ∧ M 209 4 = n32 q1) ∨
    (q1 < n ∧ ltr (T q1) = false ∧ dgt (T q1) = false ∧ M 209 12 = (if sgn (T q1) = true then 3 else 4) ∧ M 209 15 = T q1 ∧ M 209 4 = n32 (q1 + 1)) ∨
    (q1 < n ∧ ∃ k, 0 < k ∧ RN T q1 n k ∧ M 209 4 = n32 (q1 + k) ∧ M 209 12 = tkF (ltr (T q1)) (allF T q1 (ltr (T q1)) k) k ∧ M 209 15 = numF T q1 k ∧ N 209 18 = wdF T q1 k)))
theorem sgn_E {A B : Option xOut} : (if x = 59 then A else if x = 40 then A else if x = 41 then A else if x < 60 then B else if x ≤ 62 then A else B) = if sgn x = true then A else B := by
  unfold sgn
  by_cases h1 : x = 59
  · simp [h1]
  by_cases h2 : x = 40
  · simp [h2]
  by_cases h3 : x = 41
  · simp [h3]
  by_cases h4 : x < 60
  · simp [h1, h2, h3, h4]
  by_cases h5 : x ≤ 62
  · simp [h1, h2, h3, h4, h5]
  · simp [h1, h2, h3, h4, h5]
theorem r_next {most : Nat} (hm : most ≤ 900) (h : Rtx T n M) (hl : M 209 5 = n32 most) (hq : M 209 4 = n32 q) (hqn : q ≤ n) : ∃ q1 M' N', xcall xprog (d + 2) 167 [.ref 209] (xst e L M N) = some (none, xst e L M' N') ∧ q ≤ q1 ∧ q1 ≤ n ∧ (∀ i, q ≤ i → i < q1 → blk (T i) = true) ∧ (q1 = n ∨ blk (T q1) = false) ∧ nxF M' M N' N ∧ RTk T n most q1 M' N' := by
  obtain ⟨q1, M1, h1, h2, h3, h4, h5, h6, h7⟩ := r_skip (d := d) (e := e) (L := L) (N := N) (n - q) q M (by omega) h hq
  have h9 := h.1
  have g3 : M1 209 3 = n32 n := (h6 209 3 (by omega)).trans h.2.1
  have g5 : M1 209 5 = n32 most := (h6 209 5 (by omega)).trans hl
  rw [aX12_next, h7, bX12_next_2, g3, g5, h5]
  by_cases c1 : most < n ∧ most ≤ q1
  · refine ⟨q1, xu (xu (xu (xu M1 209 13 (n32 q1)) 209 14 0) 209 13 (n32 most)) 209 12 4, N, ?_, h1, h2, h3, h4, ⟨fun o k z => ?_, fun _ _ _ => rfl⟩, Or.inl ⟨c1.1, c1.2, ?_, xu_ee, ?_⟩⟩
    · rw [if_neg (fun w => absurd ((n32_le (by omega) (by omega)).mp w) (by omega)), if_neg (fun w => absurd ((n32_lt (by omega) (by omega)).mp w) (by omega))]
    · by_cases w : o = 209
      · subst w
        rw [xu_kne (by omega), xu_kne (by omega), xu_kne (by omega), xu_kne (by omega), h6 209 k (by omega)]
      · rw [xu_rne w, xu_rne w, xu_rne w, xu_rne w, h6 o k (by omega)]
    · rw [xu_kne (by decide), xu_ee]
    · rw [xu_kne (by decide), xu_kne (by decide), xu_kne (by decide), xu_kne (by decide), h5]
  · have e3 : ∀ A B : Option xOut, (if n32 n ≤ n32 most then A else if n32 q1 < n32 most then A else B) = A := fun A B => by
      by_cases z : n ≤ most
      · rw [if_pos ((n32_le (by omega) (by omega)).mpr z)]
      · rw [if_neg (fun w => z ((n32_le (by omega) (by omega)).mp w)), if_pos ((n32_lt (by omega) (by omega)).mpr (by omega))]
    rw [e3]
    have hM : ∀ M2, M2 = xu (xu M1 209 13 (n32 q1)) 209 14 0 → M2 209 4 = n32 q1 ∧ M2 209 13 = n32 q1 ∧ M2 209 14 = 0 ∧ (∀ o k, (o ≠ 209 ∨ ¬ (k = 4 ∨ k = 13 ∨ k = 14)) → M2 o k = M o k) := fun M2 e2 => by
      subst e2
      refine ⟨?_, ?_, xu_ee, fun o k z => ?_⟩
      · rw [xu_kne (by decide), xu_kne (by decide), h5]
      · rw [xu_kne (by decide), xu_ee]
      · by_cases w : o = 209
        · subst w
          rw [xu_kne (by omega), xu_kne (by omega), h6 209 k (by omega)]
        · rw [xu_rne w, xu_rne w, h6 o k (by omega)]
    generalize xu (xu M1 209 13 (n32 q1)) 209 14 0 = M2 at hM ⊢
    obtain ⟨m4, m13, m14, mf⟩ := hM M2 rfl
    have ht : Rtx T n M2 := Rtx_c (mf 209 3 (by omega)) (funext fun i => mf 210 i (by omega)) h
    rw [bX12_next_3, r_peek ht m4 h2, xcI_some, ekX12_next_3_1]
    by_cases c2 : q1 = n
    · have hp : pk T n q1 = -1 := if_neg (by omega)
      refine ⟨q1, xu M2 209 12 0, N, ?_, h1, h2, h3, h4, ⟨fun o k z => ?_, fun _ _ _ => rfl⟩, Or.inr ⟨c1, ?_, Or.inl ⟨c2, xu_ee, ?_⟩⟩⟩
      · rw [hp, if_pos (by decide)]
      · by_cases w : o = 209
        · subst w
          rw [xu_kne (by omega), mf 209 k (by omega)]
        · rw [xu_rne w, mf o k (by omega)]
      · rw [xu_kne (by decide), m13]
      · rw [xu_kne (by decide), m4]
    · have hp : pk T n q1 = T q1 := if_pos (by omega)
      obtain ⟨b, hb, eb⟩ := Rtx_b h (show q1 < n by omega)
      rw [hp, if_neg (by rw [eb]; exact n32_neg (by omega)), bX12_next_4, r_small, xcI_some, ekX12_next_4_1]
      have run : (ltr (T q1) || dgt (T q1)) = true → ∃ q2 M' N', xlim (xcall xprog (d + 1)) mX12_next 8 [.ref 209, .int (T q1), xD, xD] [] (xst e L M2 N) = some (none, xst e L M' N') ∧ q ≤ q2 ∧ q2 ≤ n ∧ (∀ i, q ≤ i → i < q2 → blk (T i) = true) ∧ (q2 = n ∨ blk (T q2) = false) ∧ nxF M' M N' N ∧ RTk T n most q2 M' N' := fun hl => by
        rw [bX12_next_8, r_small, xcI_some, ekX12_next_8_1]
        have r0 : RRr T M2 N q1 0 (xu M2 209 15 0) (xu N 209 18 (Int64.ofNat 0)) := ⟨by rw [xu_kne (by decide), m4]; rfl, by rw [xu_kne (by decide), m14]; rfl, xu_ee, xu_ee, fun o k z => by
          by_cases w : o = 209
          · subst w
            rw [xu_kne (by omega)]
          · rw [xu_rne w], fun o k z => by
          by_cases w : o = 209
          · subst w
            rw [xu_kne (by omega)]
          · rw [xu_rne w]⟩
        obtain ⟨k, M3, N3, f1, f2, f3, f4, f5, f6, f7, f8, f9⟩ := r_run (d := d) (e := e) (L := L) (s := ltr (T q1)) ht (n - q1) 0 (by omega) _ _ r0 (fun i hi => absurd hi (Nat.not_lt_zero i))
        have k0 : 0 < k := by
          rcases Nat.eq_zero_or_pos k with w | w
          · rcases f3.2.2 with y | y
            · omega
            · rw [w] at y
              rw [show q1 + 0 = q1 from rfl, hl] at y
              cases y
          · exact w
        have k9 := f3.1
        refine ⟨q1, xu M3 209 12 (tkF (ltr (T q1)) (allF T q1 (ltr (T q1)) k) k), N3, ?_, h1, h2, h3, h4, ⟨fun o k z => ?_, f9⟩, Or.inr ⟨c1, ?_, Or.inr (Or.inr ⟨by omega, k, k0, f3, ?_, xu_ee, ?_, f7⟩)⟩⟩
        · exact (f1.trans (r_run15 f5 (by omega)))
        · by_cases w : o = 209
          · subst w
            rw [xu_kne (by omega), f8 209 k (by omega), mf 209 k (by omega)]
          · rw [xu_rne w, f8 o k (by omega), mf o k (by omega)]
        · rw [xu_kne (by decide), f8 209 13 (by omega), m13]
        · rw [xu_kne (by decide), f4]
        · rw [xu_kne (by decide), f6]
      cases z : ltr (T q1) with
      | true =>
        rw [if_neg bI_t0]
        exact run (by rw [z]; rfl)
      | false =>
        rw [if_pos bI_f0, r_digit, xcI_some, ekX12_next_4_4]
        cases y : dgt (T q1) with
        | true =>
          rw [if_neg bI_t0]
          exact run (by rw [y, Bool.or_true])
        | false =>
          rw [if_pos bI_f0, sgn_E]
          refine ⟨q1, xu (xu (xu M2 209 12 (if sgn (T q1) = true then 3 else 4)) 209 15 (T q1)) 209 4 (n32 (q1 + 1)), N, ?_, h1, h2, h3, h4, ⟨fun o k z => ?_, fun _ _ _ => rfl⟩, Or.inr ⟨c1, ?_, Or.inr (Or.inl ⟨by omega, z, y, ?_, ?_, xu_ee⟩)⟩⟩
          · by_cases w : sgn (T q1) = true
            · rw [if_pos w, if_pos w, bX12_next_5, bX12_next_7, m4, n32_succ]
            · rw [if_neg w, if_neg w, bX12_next_6, bX12_next_7, m4, n32_succ]
          · by_cases w : o = 209
            · subst w
              rw [xu_kne (by omega), xu_kne (by omega), xu_kne (by omega), mf 209 k (by omega)]
            · rw [xu_rne w, xu_rne w, xu_rne w, mf o k (by omega)]
          · rw [xu_kne (by decide), xu_kne (by decide), xu_kne (by decide), m13]
          · rw [xu_kne (by decide), xu_kne (by decide), xu_ee]
          · rw [xu_kne (by decide), xu_ee]
end NXT
