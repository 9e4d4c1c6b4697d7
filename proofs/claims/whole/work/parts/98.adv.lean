/-! The class's tokens. -/
/-- the token that stands at p1, as the class has it -/
def CTk (T : Nat → Int32) (n most p1 : Nat) (I : TI) (J : TJ) : Prop :=
  (min n most ≤ p1 ∧ I 5 8 = n32 (min n most) ∧ I 5 0 = bI (decide (most < n)) ∧ I 5 5 = n32 p1) ∨
  (p1 < min n most ∧ I 5 8 = n32 p1 ∧ ∃ k, RN T p1 n k ∧ (
    (k = 0 ∧ I 5 0 = (if sgn (T p1) = true then T p1 else 1) ∧ I 5 5 = n32 (p1 + 1)) ∨
    (0 < k ∧ I 5 5 = n32 (p1 + k) ∧ J 5 1 = nmF T p1 k ∧ I 5 11 = nuF T p1 k ∧ I 5 0 = (if dcF T p1 k = 0 ∧ lcF T p1 k ≤ 7 then kwN (nmF T p1 k) 21 else if lcF T p1 k = 0 ∧ dcF T p1 k ≤ 3 then 3 else 1))))
/-- cells that advance changes -/
def caF (K I : TI) (J' J : TJ) : Prop := (∀ o q, (o ≠ 5 ∨ ¬ (q = 0 ∨ q = 5 ∨ (8 ≤ q ∧ q ≤ 11))) → K o q = I o q) ∧ ∀ o q, (o ≠ 5 ∨ q ≠ 1) → J' o q = J o q
section ADV
variable {d e L : Nat} {T : Nat → Int32} {I K M M' : TI} {J J' N N' : TJ} {p q n k i m a E most : Nat} {b s : Bool} {x : Int32}
theorem blank_E : (if x = 32 then (1 : Int32) else (if x = 10 then (1 : Int32) else 0)) = bI (blk x) := by
  unfold blk bI
  by_cases h1 : x = 32
  · simp [h1]
  · by_cases h2 : x = 10 <;> simp [h1, h2]
theorem sign_E (hm : m < 256) (hx : x = n32 m) : (if x < 59 then ((if x = 40 then (1 : Int32) else (if x = 41 then (1 : Int32) else 0)) : Int32) else (if x ≤ 62 then (1 : Int32) else (if x = 40 then (1 : Int32) else (if x = 41 then (1 : Int32) else 0)))) = bI (sgn x) := by
  subst hx
  have e1 : (n32 m < 59) = (m < 59) := n32_ltE (b := 59) (by omega) (by omega)
  have e2 : (n32 m ≤ 62) = (m ≤ 62) := n32_leE (b := 62) (by omega) (by omega)
  have e3 : (n32 m = 40) = (m = 40) := n32_eqE (b := 40) (by omega) (by omega)
  have e4 : (n32 m = 41) = (m = 41) := n32_eqE (b := 41) (by omega) (by omega)
  have e5 : (n32 m = 59) = (m = 59) := n32_eqE (b := 59) (by omega) (by omega)
  have e6 : (n32 m < 60) = (m < 60) := n32_ltE (b := 60) (by omega) (by omega)
  unfold sgn bI
  simp only [e1, e2, e3, e4, e5, e6]
  by_cases h1 : m < 59
  · have : ¬ m = 59 := by omega
    have : m < 60 := by omega
    by_cases h3 : m = 40
    · simp [h3]
    · by_cases h4 : m = 41
      · simp [h4]
      · simp [*]
  · by_cases h2 : m ≤ 62
    · by_cases h5 : m = 59
      · simp [h5]
      · have : ¬ m < 60 := by omega
        simp [*]
    · have : ¬ m = 59 := by omega
      have : ¬ m = 40 := by omega
      have : ¬ m = 41 := by omega
      simp [*]
theorem lc_dc : lcF T p k + dcF T p k = k := by
  induction k with
  | zero => rfl
  | succ k ih =>
    show (if _ then _ else _) + (if _ then _ else _) = _
    by_cases h : ltr (T (p + k)) = true
    · rw [if_pos h, if_pos h]; omega
    · rw [if_neg h, if_neg h]; omega
theorem c_skip (h9 : E ≤ 940) : ∀ m p (I : TI), E ≤ p + m → p ≤ 940 → I 5 6 = n32 E → I 5 5 = n32 p → ∃ p1 K, p ≤ p1 ∧ (p1 = p ∨ p1 ≤ E) ∧ (∀ i, p ≤ i → i < p1 → blk (I 2 i) = true) ∧ (E ≤ p1 ∨ blk (I 2 p1) = false) ∧ K 5 5 = n32 p1 ∧ (∀ o k, (o ≠ 5 ∨ k ≠ 5) → K o k = I o k) ∧ xlim (xcall xprog (d + 1)) mX9_advance 0 [.ref 5, xD] [] (xst e L I J) = xlim (xcall xprog (d + 1)) mX9_advance 1 [.ref 5, xD] [] (xst e L K J) := by
  intro m
  induction m with
  | zero =>
    intro p I hm hp h6 h5
    refine ⟨p, I, Nat.le_refl _, Or.inl rfl, fun i z1 z2 => absurd z2 (by omega), Or.inl (by omega), h5, fun _ _ _ => rfl, ?_⟩
    rw [bX9_advance_0, h5, h6, if_neg (fun w => absurd ((n32_lt (by omega) (by omega)).mp w) (by omega))]
  | succ m ih =>
    intro p I hm hp h6 h5
    by_cases hE : E ≤ p
    · refine ⟨p, I, Nat.le_refl _, Or.inl rfl, fun i z1 z2 => absurd z2 (by omega), Or.inl hE, h5, fun _ _ _ => rfl, ?_⟩
      rw [bX9_advance_0, h5, h6, if_neg (fun w => absurd ((n32_lt (by omega) (by omega)).mp w) (by omega))]
    · have e0 : xlim (xcall xprog (d + 1)) mX9_advance 0 [.ref 5, xD] [] (xst e L I J) = if bI (blk (I 2 p)) = 0 then xlim (xcall xprog (d + 1)) mX9_advance 1 [.ref 5, xD] [] (xst e L I J) else xlim (xcall xprog (d + 1)) mX9_advance 0 [.ref 5, xD] [] (xst e L (xu I 5 5 (n32 (p + 1))) J) := by
        rw [bX9_advance_0, h5, h6, if_pos ((n32_lt (by omega) (by omega)).mpr (by omega)), xin_n32 (by omega) (by omega), cond_true, n32_nat (by omega), sX9_isBlank, xcI_some, blank_E, ekX9_advance_0_11, h5, n32_succ]
      rw [e0]
      cases hb : blk (I 2 p) with
      | false =>
        rw [if_pos bI_f0]
        exact ⟨p, I, Nat.le_refl _, Or.inl rfl, fun i z1 z2 => absurd z2 (by omega), Or.inr hb, h5, fun _ _ _ => rfl, rfl⟩
      | true =>
        rw [if_neg bI_t0]
        obtain ⟨p1, K, h1, h2, h3, h4, h7, h8, h10⟩ := ih (p + 1) (xu I 5 5 (n32 (p + 1))) (by omega) (by omega) (by rw [xu_kne (by decide), h6]) xu_ee
        have e2 : (xu I 5 5 (n32 (p + 1))) 2 = I 2 := xu_rne (by decide)
        rw [e2] at h3 h4
        refine ⟨p1, K, by omega, Or.inr (by omega), fun i z1 z2 => ?_, h4, h7, fun o k z => ?_, h10⟩
        · by_cases y : i = p
          · rw [y]; exact hb
          · exact h3 i (by omega) z2
        · rw [h8 o k z]
          by_cases y : o = 5
          · subst y
            exact xu_kne (by omega)
          · rw [xu_rne y]
theorem c_advance (hn : I 1 1 = n32 n) (h9 : n ≤ 940) (h6 : I 5 6 = n32 (min n most)) (h7 : I 5 7 = bI (decide (most < n))) (h5 : I 5 5 = n32 p) (hp : p ≤ n) (hb : ∀ i, i < n → ∃ b, b < 256 ∧ I 2 i = n32 b) : ∃ p1 K J', xcall xprog (d + 2) 89 [.ref 5] (xst e L I J) = some (none, xst e L K J') ∧ p ≤ p1 ∧ (p1 = p ∨ p1 ≤ min n most) ∧ (∀ i, p ≤ i → i < p1 → blk (I 2 i) = true) ∧ (min n most ≤ p1 ∨ blk (I 2 p1) = false) ∧ caF K I J' J ∧ CTk (I 2) n most p1 K J' := by
  obtain ⟨p1, K, q1, q2, q3, q4, q5, q6, q7⟩ := c_skip (d := d) (e := e) (L := L) (J := J) (E := min n most) (by omega) (min n most) p I (by omega) (by omega) h6 h5
  rw [aX9_advance, q7, bX9_advance_1, q5, q6 5 6 (by omega), h6, q6 5 7 (by omega), h7]
  by_cases c1 : min n most ≤ p1
  · have fr : ∀ v, caF (xu (xu K 5 8 (n32 (min n most))) 5 0 v) I J J := fun v => ⟨fun o q z => by
      by_cases w : o = 5
      · subst w
        rw [xu_kne (by omega), xu_kne (by omega), q6 5 q (by omega)]
      · rw [xu_rne w, xu_rne w, q6 o q (by omega)], fun _ _ _ => rfl⟩
    refine ⟨p1, xu (xu K 5 8 (n32 (min n most))) 5 0 (bI (decide (most < n))), J, ?_, q1, q2, q3, q4, fr _, Or.inl ⟨c1, ?_, xu_ee, ?_⟩⟩
    · rw [if_neg (fun w => absurd ((n32_lt (by omega) (by omega)).mp w) (by omega))]
      cases z : decide (most < n) with
      | false => rw [if_pos bI_f0, bX9_advance_2, bX9_advance_3]; rfl
      | true => rw [if_neg bI_t0, bX9_advance_3]; rfl
    · rw [xu_kne (by decide), xu_ee]
    · rw [xu_kne (by decide), xu_kne (by decide), q5]
  · rw [if_pos ((n32_lt (by omega) (by omega)).mpr (by omega)), bX9_advance_4, q5]
    have k1 : (xu K 5 8 (n32 p1)) 2 = I 2 := by rw [xu_rne (by decide)]; exact funext fun i => q6 2 i (by omega)
    obtain ⟨k, K2, J2, r1, r2, r3, r4, r5, r6, r7, r8, r9⟩ := c_readRun (d := d) (e := e) (L := L) (I := xu K 5 8 (n32 p1)) (J := J) (n := n) (p := p1) (by rw [xu_rne (by decide), q6 1 1 (by omega), hn]) h9 (by rw [xu_kne (by decide), q5]) (by omega)
    rw [k1] at r2 r4 r5 r6 r7
    have fr : ∀ o q, (o ≠ 5 ∨ ¬ (q = 5 ∨ (8 ≤ q ∧ q ≤ 11))) → K2 o q = I o q := fun o q z => by
      rw [r8 o q (by omega)]
      by_cases w : o = 5
      · subst w
        rw [xu_kne (by omega), q6 5 q (by omega)]
      · rw [xu_rne w, q6 o q (by omega)]
    have e8 : K2 5 8 = n32 p1 := by rw [r8 5 8 (by omega), xu_ee]
    have e2 : K2 2 = I 2 := funext fun i => fr 2 i (by omega)
    have hk := r2.1
    have hld := lc_dc (T := I 2) (p := p1) (k := k)
    rw [r1, xcV_some, ekX9_advance_4_5, r4, r5, n32_add, hld, r3, e2]
    rcases Nat.eq_zero_or_pos k with k0 | k0
    · subst k0
      obtain ⟨b, hb1, hb2⟩ := hb p1 (by omega)
      have fr2 : ∀ v w, caF (xu (xu K2 5 0 v) 5 5 w) I J2 J := fun v w => ⟨fun o q z => by
        by_cases y : o = 5
        · subst y
          rw [xu_kne (by omega), xu_kne (by omega), fr 5 q (by omega)]
        · rw [xu_rne y, xu_rne y, fr o q (by omega)], r9⟩
      refine ⟨p1, xu (xu K2 5 0 (if sgn (I 2 p1) = true then I 2 p1 else 1)) 5 5 (n32 (p1 + 1)), J2, ?_, q1, q2, q3, q4, fr2 _ _, Or.inr ⟨by omega, ?_, 0, r2, Or.inl ⟨rfl, ?_, xu_ee⟩⟩⟩
      · rw [if_pos (show n32 0 = 0 from rfl), xin_n32 (by omega) (show p1 + 0 < 940 by omega), cond_true, n32_nat (by omega), show p1 + 0 = p1 from rfl, sX9_isSign, xcI_some, sign_E hb1 hb2, ekX9_advance_4_21]
        cases z : sgn (I 2 p1) with
        | false => rw [if_pos bI_f0, if_neg Bool.false_ne_true, bX9_advance_5, bX9_advance_6, bX9_advance_11, r3, n32_succ]
        | true => rw [if_neg bI_t0, if_pos rfl, bX9_advance_6, bX9_advance_11, r3, n32_succ]
      · rw [xu_kne (by decide), xu_kne (by decide), e8]
      · rw [xu_kne (by decide), xu_ee]
    · have kn : ¬ n32 k = 0 := fun w => absurd ((n32_eq0 (by omega)).mp w) (by omega)
      rw [if_neg kn, bX9_advance_7, r4, r5, r7]
      have fr2 : ∀ v, caF (xu K2 5 0 v) I J2 J := fun v => ⟨fun o q z => by
        by_cases y : o = 5
        · subst y
          rw [xu_kne (by omega), fr 5 q (by omega)]
        · rw [xu_rne y, fr o q (by omega)], r9⟩
      have out : ∀ {r : Option xOut} v, r = some (none, xst e L (xu K2 5 0 v) J2) → v = (if dcF (I 2) p1 k = 0 ∧ lcF (I 2) p1 k ≤ 7 then kwN (nmF (I 2) p1 k) 21 else if lcF (I 2) p1 k = 0 ∧ dcF (I 2) p1 k ≤ 3 then 3 else 1) → ∃ p1 K J', r = some (none, xst e L K J') ∧ p ≤ p1 ∧ (p1 = p ∨ p1 ≤ min n most) ∧ (∀ i, p ≤ i → i < p1 → blk (I 2 i) = true) ∧ (min n most ≤ p1 ∨ blk (I 2 p1) = false) ∧ caF K I J' J ∧ CTk (I 2) n most p1 K J' := fun v hr hv =>
        ⟨p1, _, J2, hr, q1, q2, q3, q4, fr2 v, Or.inr ⟨by omega, by rw [xu_kne (by decide), e8], k, r2, Or.inr ⟨k0, by rw [xu_kne (by decide), r3], r7, by rw [xu_kne (by decide), r6], by rw [xu_ee, hv]⟩⟩⟩
      have d0 : (n32 (dcF (I 2) p1 k) = 0) = (dcF (I 2) p1 k = 0) := n32_eq0 (by omega)
      have l0 : (n32 (lcF (I 2) p1 k) = 0) = (lcF (I 2) p1 k = 0) := n32_eq0 (by omega)
      have l7 : (n32 (lcF (I 2) p1 k) ≤ 7) = (lcF (I 2) p1 k ≤ 7) := n32_leE (b := 7) (by omega) (by omega)
      have d3 : (n32 (dcF (I 2) p1 k) ≤ 3) = (dcF (I 2) p1 k ≤ 3) := n32_leE (b := 3) (by omega) (by omega)
      simp only [d0, l7]
      by_cases w1 : dcF (I 2) p1 k = 0 ∧ lcF (I 2) p1 k ≤ 7
      · refine out (kwN (nmF (I 2) p1 k) 21) ?_ (by rw [if_pos w1])
        rw [if_pos w1.1, if_pos w1.2, c_kindOfWord, xcI_some, ekX9_advance_7_10, bX9_advance_11]
      · have e8 : ∀ A B : Option xOut, (if dcF (I 2) p1 k = 0 then if lcF (I 2) p1 k ≤ 7 then A else B else B) = B := fun A B => by
          by_cases y : dcF (I 2) p1 k = 0
          · rw [if_pos y, if_neg (fun z => w1 ⟨y, z⟩)]
          · rw [if_neg y]
        rw [e8, bX9_advance_8, r4, r5]
        simp only [l0, d3]
        by_cases w2 : lcF (I 2) p1 k = 0 ∧ dcF (I 2) p1 k ≤ 3
        · refine out 3 ?_ (by rw [if_neg w1, if_pos w2])
          rw [if_pos w2.1, if_pos w2.2, bX9_advance_10, bX9_advance_11]
        · refine out 1 ?_ (by rw [if_neg w1, if_neg w2])
          by_cases y : lcF (I 2) p1 k = 0
          · rw [if_pos y, if_neg (fun z => w2 ⟨y, z⟩), bX9_advance_9, bX9_advance_10, bX9_advance_11]
          · rw [if_neg y, bX9_advance_9, bX9_advance_10, bX9_advance_11]
end ADV
