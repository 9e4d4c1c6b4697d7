/-! Just and final points, the base, weights of looks, the way: as functions of the state. -/
def cl (S : TS) (s t : Nat) : Bool := decide (mk S s t ≠ 0) && cts S (mk S s t) t
def jn (S : TS) : Nat → Nat → Bool
  | 0, _ => false
  | n + 1, x => if x = n then (decide (n = 0) || exN (fun s => cl S s n && jn S n s) n) else jn S n x
def jst (S : TS) (t : Nat) : Bool := jn S (t + 1) t
def fin (S : TS) (s : Nat) : Bool := decide (s = 0) || (jst S s && exN (fun t => cl S s t && decide (lv S t = lv S s + 1)) (sB S))
def jS (S : TS) : Int32 := bs (jst S) (sB S)
def fS (S : TS) : Int32 := bs (fin S) (sB S)
def c1 (S : TS) (s t : Nat) : Nat := if cl S s t = true then 1 else 0
def cmS (S : TS) : Nat := sumN (fun t => sumN (fun s => c1 S s t) (sB S)) (sB S)
def bsN (S : TS) (n : Nat) : Nat := xfold (fun b a => if jst S b = true ∧ lv S a < lv S b then b else a) n 0
def bse (S : TS) : Nat := bsN S (sB S)
def bsI (S : TS) : Int32 := if sB S = 0 then -1 else n32 (bse S)
def lk (S : TS) (v : Nat) : Nat := (S (216 + v)).toNatClampNeg
def wfL (S : TS) : Prop := ∀ v, v < sV S → S (216 + v) = -1 ∨ (S (216 + v) = n32 (lk S v) ∧ lk S v < sB S)
def hc (S : TS) (b v : Nat) : Bool := decide (S (216 + v) ≠ -1) && (!(bt (ofS S) v) && (decide (b = lk S v) || anc (par S) b (lk S v)))
def hfN (S : TS) (n b : Nat) : Int32 := xfold (fun v a => if hc S b v = true then a + wt S (bse S) v else a) n 0
def hft (S : TS) (b : Nat) : Int32 := hfN S (sV S) b
/-- the heaviest on b among those below n; -1: none -/
def bon (S : TS) (b n : Nat) : Int32 := xfold (fun x best => if (0 < x ∧ par S x = b) ∧ (best = -1 ∨ ¬ hft S x ≤ hft S best.toNatClampNeg) then n32 x else best) n (-1)
def wy (S : TS) : Nat → Int32
  | 0 => bsI S
  | k + 1 => if wy S k = -1 then -1 else bon S (wy S k).toNatClampNeg (sB S)
theorem hfN_s (S : TS) (n b : Nat) : hfN S (n + 1) b = if hc S b n = true then hfN S n b + wt S (bse S) n else hfN S n b := rfl
theorem bon_s (S : TS) (b n : Nat) : bon S b (n + 1) = if (0 < n ∧ par S n = b) ∧ (bon S b n = -1 ∨ ¬ hft S n ≤ hft S (bon S b n).toNatClampNeg) then n32 n else bon S b n := rfl
theorem bsN_s (S : TS) (n : Nat) : bsN S (n + 1) = if jst S n = true ∧ lv S (bsN S n) < lv S n then n else bsN S n := rfl
section JU
variable {S : TS} {a b s t v k i n x : Nat}
theorem jn_jst : ∀ n, jn S n x = (decide (x < n) && jst S x)
  | 0 => by simp [jn]
  | n + 1 => by
    by_cases h : x = n
    · subst h
      simp [jst]
    · have e : jn S (n + 1) x = jn S n x := if_neg h
      rw [e, jn_jst n]
      by_cases h2 : x < n
      · simp [h2, show x < n + 1 by omega]
      · simp [h2, show ¬ x < n + 1 by omega]
theorem jst_eq : jst S t = (decide (t = 0) || exN (fun s => cl S s t && jst S s) t) := by
  have e : jst S t = (decide (t = 0) || exN (fun s => cl S s t && jn S t s) t) := if_pos rfl
  rw [e]
  congr 1
  rw [Bool.eq_iff_iff, exN_iff, exN_iff]
  constructor
  · rintro ⟨s, h1, h2⟩
    rw [jn_jst] at h2
    refine ⟨s, h1, ?_⟩
    simpa [h1] using h2
  · rintro ⟨s, h1, h2⟩
    refine ⟨s, h1, ?_⟩
    rw [jn_jst]
    simpa [h1] using h2
theorem jst_0 : jst S 0 = true := by rw [jst_eq]; rfl
theorem mkN_ne (h : mkN S n s t ≠ 0) : ∃ i, i < n ∧ so S i = s ∧ ta S i = t := by
  induction n with
  | zero => exact absurd rfl h
  | succ n ih =>
    rw [mkN_s] at h
    by_cases q : so S n = s ∧ ta S n = t
    · exact ⟨n, by omega, q.1, q.2⟩
    · rw [if_neg q] at h
      obtain ⟨i, h1, h2⟩ := ih h
      exact ⟨i, by omega, h2⟩
theorem cl_ne (h : cl S s t = true) : mk S s t ≠ 0 := by
  unfold cl at h
  rw [Bool.and_eq_true] at h
  exact of_decide_eq_true h.1
theorem mk_facts (hk : wfK S) (h : mk S s t ≠ 0) : s < sB S ∧ t < sB S ∧ pt S s = true ∧ pt S t = true ∧ anc (par S) s t = true := by
  obtain ⟨i, h1, rfl, rfl⟩ := mkN_ne h
  exact ⟨k_sl hk h1, k_tl hk h1, k_ps hk h1, k_pt hk h1, k_an hk h1⟩
theorem cl_facts (hk : wfK S) (h : cl S s t = true) : s < sB S ∧ t < sB S ∧ pt S s = true ∧ pt S t = true ∧ anc (par S) s t = true := mk_facts hk (cl_ne h)
theorem pt_0 (hw : wfT S) : pt S 0 = true := by
  unfold pt hei
  rw [hgt_z (Nat.not_lt_zero _)]
  simp
theorem lv_0 : lv S 0 = 0 := by
  unfold lv hei
  rw [hgt_z (Nat.not_lt_zero _)]
  simp
theorem jst_pt (hw : wfT S) (hk : wfK S) (h : jst S t = true) : pt S t = true := by
  rw [jst_eq, Bool.or_eq_true, exN_iff] at h
  rcases h with h | ⟨s, h1, h2⟩
  · rw [of_decide_eq_true h]
    exact pt_0 hw
  · rw [Bool.and_eq_true] at h2
    exact (cl_facts hk h2.1).2.2.2.1
theorem bsN_lt (h : 0 < n) : bsN S n < n := by
  induction n with
  | zero => omega
  | succ n ih =>
    rw [bsN_s]
    by_cases q : jst S n = true ∧ lv S (bsN S n) < lv S n
    · rw [if_pos q]; omega
    · rw [if_neg q]
      by_cases h0 : 0 < n
      · have := ih h0; omega
      · have : n = 0 := by omega
        subst this
        exact Nat.zero_lt_one
theorem bsN_j : jst S (bsN S n) = true := by
  induction n with
  | zero => exact jst_0
  | succ n ih =>
    rw [bsN_s]
    by_cases q : jst S n = true ∧ lv S (bsN S n) < lv S n
    · rw [if_pos q]; exact q.1
    · rw [if_neg q]; exact ih
theorem bse_lt (h : 0 < sB S) : bse S < sB S := bsN_lt h
theorem bon_or (b n : Nat) : bon S b n = -1 ∨ ∃ y, y < n ∧ 0 < y ∧ par S y = b ∧ bon S b n = n32 y := by
  induction n with
  | zero => exact Or.inl rfl
  | succ n ih =>
    rw [bon_s]
    by_cases q : (0 < n ∧ par S n = b) ∧ (bon S b n = -1 ∨ ¬ hft S n ≤ hft S (bon S b n).toNatClampNeg)
    · rw [if_pos q]
      exact Or.inr ⟨n, by omega, q.1.1, q.1.2, rfl⟩
    · rw [if_neg q]
      rcases ih with h | ⟨y, h1, h2, h3, h4⟩
      · exact Or.inl h
      · exact Or.inr ⟨y, by omega, h2, h3, h4⟩
theorem bon_m1 (hw : wfT S) (hn : n ≤ b + 1) (hb : b < sB S) : bon S b n = -1 := by
  rcases bon_or (S := S) b n with h | ⟨y, h1, h2, h3, h4⟩
  · exact h
  · have := wf_wp hw y h2 (by omega)
    omega
theorem wy_or (hw : wfT S) (k : Nat) : wy S k = -1 ∨ ∃ y, y < sB S ∧ k ≤ y ∧ wy S k = n32 y := by
  have h20 := wf_B hw
  induction k with
  | zero =>
    show bsI S = -1 ∨ ∃ y, y < sB S ∧ 0 ≤ y ∧ bsI S = n32 y
    unfold bsI
    by_cases h : sB S = 0
    · exact Or.inl (if_pos h)
    · rw [if_neg h]
      exact Or.inr ⟨bse S, bse_lt (by omega), Nat.zero_le _, rfl⟩
  | succ k ih =>
    show (if wy S k = -1 then -1 else bon S (wy S k).toNatClampNeg (sB S)) = -1 ∨ ∃ y, y < sB S ∧ k + 1 ≤ y ∧ (if wy S k = -1 then -1 else bon S (wy S k).toNatClampNeg (sB S)) = n32 y
    rcases ih with h | ⟨y, h1, h2, h3⟩
    · rw [if_pos h]
      exact Or.inl rfl
    · rw [if_neg (by rw [h3]; exact n32_ne1 (by omega)), h3, n32_nat (by omega)]
      rcases bon_or (S := S) y (sB S) with q | ⟨z, q1, q2, q3, q4⟩
      · exact Or.inl q
      · have := wf_wp hw z q2 q1
        exact Or.inr ⟨z, q1, by omega, q4⟩
/-- the way has n blocks -/
def WY (S : TS) (n : Nat) : Prop := n ≤ 20 ∧ (∀ k, k < n → wy S k ≠ -1) ∧ wy S n = -1
theorem WY_u {m : Nat} (h : WY S n) (h' : WY S m) : n = m := by
  obtain ⟨_, h1, h2⟩ := h
  obtain ⟨_, h3, h4⟩ := h'
  by_cases q : n < m
  · exact absurd h2 (h3 n q)
  · by_cases q2 : m < n
    · exact absurd h4 (h1 m q2)
    · omega
end JU
/-- what the class works out -/
def Fi (S : TS) (I : TI) : Prop := I 47 0 = jS S ∧ I 47 1 = fS S ∧ I 47 2 = ofS S ∧ I 47 3 = n32 (prS S) ∧ I 47 4 = n32 (lnN S (sK S)) ∧ I 47 5 = n32 (cmS S) ∧ I 47 6 = bsI S ∧ (∀ s t, s < 20 → t < 20 → I (51 + s) t = mk S s t) ∧ (∀ b, b < sB S → I 49 b = hft S b) ∧ ∃ n, WY S n ∧ I 47 7 = n32 n ∧ (∀ k, k < n → I 48 k = wy S k) ∧ ∀ x, x < 32 → bt (I 47 8) x = exN (fun k => decide (wy S k = n32 x)) n
/-- what the reference works out -/
def Rf (S : TS) (I : TI) : Prop := RT S I ∧ I 209 26 = jS S ∧ I 209 27 = fS S ∧ I 209 28 = ofS S ∧ I 209 33 = n32 (prS S) ∧ I 209 31 = n32 (lnN S (sK S)) ∧ I 209 32 = n32 (cmS S) ∧ I 209 29 = bsI S ∧ (∀ s t, s < 20 → t < 20 → I 219 (20 * s + t) = mk S s t) ∧ (∀ b, b < sB S → I 220 b = hft S b) ∧ ∃ n, WY S n ∧ I 209 30 = n32 n ∧ ∀ k, k < n → I 221 k = wy S k
