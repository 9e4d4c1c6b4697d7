/-! The tree of blocks as numbers: p gives the block on which a block is. -/
def hgt (p : Nat → Nat) (b : Nat) : Nat := if p b < b then hgt p (p b) + 1 else 0
termination_by b
decreasing_by assumption
def ahs (p : Nat → Nat) (b : Nat) : Int32 := if p b < b then ahs p (p b) ||| (1 <<< (n32 (p b) &&& 31)) else 0
termination_by b
decreasing_by assumption
def anc (p : Nat → Nat) (a b : Nat) : Bool := if p b < b then (a == p b) || anc p a (p b) else false
termination_by b
decreasing_by assumption
/-- the block at height h on the way to b, or b itself where it is no higher -/
def clm (p : Nat → Nat) (h b : Nat) : Nat := if p b < b then (if h < hgt p b then clm p h (p b) else b) else b
termination_by b
decreasing_by assumption
section TREE
variable {p : Nat → Nat} {a b c n : Nat}
theorem hgt_s (h : p b < b) : hgt p b = hgt p (p b) + 1 := by rw [hgt, if_pos h]
theorem hgt_z (h : ¬ p b < b) : hgt p b = 0 := by rw [hgt, if_neg h]
theorem ahs_s (h : p b < b) : ahs p b = ahs p (p b) ||| (1 <<< (n32 (p b) &&& 31)) := by rw [ahs, if_pos h]
theorem ahs_z (h : ¬ p b < b) : ahs p b = 0 := by rw [ahs, if_neg h]
theorem anc_s (h : p b < b) : anc p a b = ((a == p b) || anc p a (p b)) := by rw [anc, if_pos h]
theorem anc_z (h : ¬ p b < b) : anc p a b = false := by rw [anc, if_neg h]
theorem hgt_le : hgt p b ≤ b := by
  induction b using Nat.strongRecOn with
  | _ b ih =>
    by_cases h : p b < b
    · rw [hgt_s h]
      have := ih (p b) h
      omega
    · rw [hgt_z h]
      omega
theorem anc_lt (h : anc p a b = true) : a < b := by
  induction b using Nat.strongRecOn with
  | _ b ih =>
    by_cases hb : p b < b
    · rw [anc_s hb, Bool.or_eq_true] at h
      rcases h with h | h
      · have := beq_iff_eq.mp h
        omega
      · have := ih (p b) hb h
        omega
    · rw [anc_z hb] at h
      cases h
theorem anc_hgt (h : anc p a b = true) : hgt p a < hgt p b := by
  induction b using Nat.strongRecOn with
  | _ b ih =>
    by_cases hb : p b < b
    · rw [anc_s hb, Bool.or_eq_true] at h
      rw [hgt_s hb]
      rcases h with h | h
      · rw [beq_iff_eq.mp h]
        omega
      · have := ih (p b) hb h
        omega
    · rw [anc_z hb] at h
      cases h
theorem anc_par (h : p b < b) : anc p (p b) b = true := by
  rw [anc_s h]
  simp
theorem anc_up (h : p b < b) (ha : anc p a (p b) = true) : anc p a b = true := by
  rw [anc_s h, ha]
  simp
theorem anc_tr (h1 : anc p a b = true) (h2 : anc p b c = true) : anc p a c = true := by
  induction c using Nat.strongRecOn with
  | _ c ih =>
    by_cases hc : p c < c
    · rw [anc_s hc, Bool.or_eq_true] at h2
      rcases h2 with h2 | h2
      · rw [beq_iff_eq.mp h2] at h1
        exact anc_up hc h1
      · exact anc_up hc (ih (p c) hc h2)
    · rw [anc_z hc] at h2
      cases h2
theorem anc_cmp (h1 : anc p a c = true) (h2 : anc p b c = true) : a = b ∨ anc p a b = true ∨ anc p b a = true := by
  induction c using Nat.strongRecOn with
  | _ c ih =>
    by_cases hc : p c < c
    · rw [anc_s hc, Bool.or_eq_true] at h1 h2
      rcases h1 with h1 | h1
      · have q1 := beq_iff_eq.mp h1
        rcases h2 with h2 | h2
        · have q2 := beq_iff_eq.mp h2
          exact Or.inl (by omega)
        · rw [← q1] at h2
          exact Or.inr (Or.inr h2)
      · rcases h2 with h2 | h2
        · have q2 := beq_iff_eq.mp h2
          rw [← q2] at h1
          exact Or.inr (Or.inl h1)
        · exact ih (p c) hc h1 h2
    · rw [anc_z hc] at h2
      cases h2
theorem bt_ahs (ha : a < 32) (hb : b ≤ 32) : bt (ahs p b) a = anc p a b := by
  induction b using Nat.strongRecOn with
  | _ b ih =>
    by_cases h : p b < b
    · rw [ahs_s h, anc_s h, bt_set _ (by omega) ha, ih (p b) h (by omega), Bool.or_comm]
      congr 1
    · rw [ahs_z h, anc_z h, bt_zero]
/-- below n every block but the first is on an earlier one -/
def wp (p : Nat → Nat) (n : Nat) : Prop := ∀ b, 0 < b → b < n → p b < b
theorem wp_0 (hw : wp p n) (hb : b < n) : hgt p b = 0 ↔ b = 0 := by
  constructor
  · intro h
    by_cases h0 : b = 0
    · exact h0
    · rw [hgt_s (hw b (by omega) hb)] at h
      omega
  · intro h
    subst h
    exact hgt_z (by omega)
theorem anc_0 (hw : wp p n) (hb : b < n) (h : b ≠ 0) : anc p 0 b = true := by
  induction b using Nat.strongRecOn with
  | _ b ih =>
    have q := hw b (by omega) hb
    by_cases h0 : p b = 0
    · rw [anc_s q, h0]
      simp
    · exact anc_up q (ih (p b) q (by omega) h0)
theorem clm_h (h' : Nat) (h : h' ≤ hgt p b) : hgt p (clm p h' b) = h' := by
  induction b using Nat.strongRecOn with
  | _ b ih =>
    rw [clm]
    by_cases hb : p b < b
    · rw [if_pos hb]
      by_cases q : h' < hgt p b
      · rw [if_pos q]
        rw [hgt_s hb] at q
        exact ih (p b) hb (by omega)
      · rw [if_neg q]
        omega
    · rw [if_neg hb]
      rw [hgt_z hb] at h ⊢
      omega
theorem clm_a (h' : Nat) (h : h' ≤ hgt p b) : clm p h' b = b ∨ anc p (clm p h' b) b = true := by
  induction b using Nat.strongRecOn with
  | _ b ih =>
    rw [clm]
    by_cases hb : p b < b
    · rw [if_pos hb]
      by_cases q : h' < hgt p b
      · rw [if_pos q]
        rw [hgt_s hb] at q
        rcases ih (p b) hb (by omega) with h | h
        · rw [h]
          exact Or.inr (anc_par hb)
        · exact Or.inr (anc_up hb h)
      · rw [if_neg q]
        exact Or.inl rfl
    · rw [if_neg hb]
      exact Or.inl rfl
theorem anc_uniq (h1 : anc p a c = true) (h2 : anc p b c = true) (h : hgt p a = hgt p b) : a = b := by
  rcases anc_cmp h1 h2 with q | q | q
  · exact q
  · have := anc_hgt q
    omega
  · have := anc_hgt q
    omega
theorem clm_uniq (h1 : anc p a b = true) : clm p (hgt p a) b = a := by
  have l := anc_hgt h1
  rcases clm_a (p := p) (b := b) (hgt p a) (by omega) with h | h
  · have q := clm_h (p := p) (b := b) (hgt p a) (by omega)
    rw [h] at q
    omega
  · exact anc_uniq h h1 (clm_h _ (by omega))
theorem clm_le (h' : Nat) : clm p h' b ≤ b := by
  induction b using Nat.strongRecOn with
  | _ b ih =>
    rw [clm]
    by_cases hb : p b < b
    · rw [if_pos hb]
      by_cases q : h' < hgt p b
      · rw [if_pos q]
        have := ih (p b) hb
        omega
      · rw [if_neg q]
        omega
    · rw [if_neg hb]
      omega
end TREE
section TREE2
variable {p q : Nat → Nat} {n : Nat}
theorem hgt_c (h : ∀ b, b < n → p b = q b) {b : Nat} (hb : b < n) : hgt p b = hgt q b := by
  induction b using Nat.strongRecOn with
  | _ b ih =>
    by_cases hc : p b < b
    · have hq : q b < b := by rw [← h b hb]; exact hc
      rw [hgt_s hc, hgt_s hq, ih (p b) hc (by omega), h b hb]
    · have hq : ¬ q b < b := by rw [← h b hb]; exact hc
      rw [hgt_z hc, hgt_z hq]
theorem ahs_c (h : ∀ b, b < n → p b = q b) {b : Nat} (hb : b < n) : ahs p b = ahs q b := by
  induction b using Nat.strongRecOn with
  | _ b ih =>
    by_cases hc : p b < b
    · have hq : q b < b := by rw [← h b hb]; exact hc
      rw [ahs_s hc, ahs_s hq, ih (p b) hc (by omega), h b hb]
    · have hq : ¬ q b < b := by rw [← h b hb]; exact hc
      rw [ahs_z hc, ahs_z hq]
end TREE2
/-! The state as the reference's row: S 0 epoch, S 1 voters, S 2 blocks, S 3 votes, then rows. -/
abbrev TS : Type := Nat → Int32
def sE (S : TS) : Nat := (S 0).toNatClampNeg
def sV (S : TS) : Nat := (S 1).toNatClampNeg
def sB (S : TS) : Nat := (S 2).toNatClampNeg
def sK (S : TS) : Nat := (S 3).toNatClampNeg
def par (S : TS) (b : Nat) : Nat := (S (12 + b)).toNatClampNeg
def vo (S : TS) (i : Nat) : Nat := (S (72 + i)).toNatClampNeg
def so (S : TS) (i : Nat) : Nat := (S (120 + i)).toNatClampNeg
def ta (S : TS) (i : Nat) : Nat := (S (168 + i)).toNatClampNeg
def hei (S : TS) (b : Nat) : Nat := hgt (par S) b
def lv (S : TS) (b : Nat) : Nat := hei S b / sE S
def pt (S : TS) (b : Nat) : Bool := hei S b % sE S == 0
/-- the weight of a voter by a block -/
def wt (S : TS) (b v : Nat) : Int32 := if S (32 + b) = n32 v then S (52 + b) else if par S b < b then wt S (par S b) v else S (4 + v)
termination_by b
decreasing_by assumption
/-- the tree's part of a good state -/
def wfT (S : TS) : Prop := 1 ≤ sE S ∧ sE S ≤ 4 ∧ S 0 = n32 (sE S) ∧ sV S ≤ 8 ∧ S 1 = n32 (sV S) ∧ sB S ≤ 20 ∧ S 2 = n32 (sB S) ∧
  (∀ v, v < sV S → ∃ w, w ≤ 9 ∧ S (4 + v) = n32 w) ∧ (0 < sB S → S 12 = -1) ∧ (∀ b, 0 < b → b < sB S → S (12 + b) = n32 (par S b) ∧ par S b < b) ∧
  (∀ b, b < sB S → (S (32 + b) = -1 ∨ ∃ v, v < sV S ∧ S (32 + b) = n32 v) ∧ ∃ w, w ≤ 9 ∧ S (52 + b) = n32 w)
theorem wt_c {S S' : TS} {n v : Nat} (h4 : S (4 + v) = S' (4 + v)) (h : ∀ b, b < n → S (12 + b) = S' (12 + b) ∧ S (32 + b) = S' (32 + b) ∧ S (52 + b) = S' (52 + b)) {b : Nat} (hb : b < n) : wt S b v = wt S' b v := by
  induction b using Nat.strongRecOn with
  | _ b ih =>
    obtain ⟨h1, h2, h3⟩ := h b hb
    have e : par S b = par S' b := by unfold par; rw [h1]
    have e1 : wt S b v = if S (32 + b) = n32 v then S (52 + b) else if par S b < b then wt S (par S b) v else S (4 + v) := by rw [wt]
    have e2 : wt S' b v = if S' (32 + b) = n32 v then S' (52 + b) else if par S' b < b then wt S' (par S' b) v else S' (4 + v) := by rw [wt]
    rw [e1, e2, h2, h3, e, h4]
    by_cases q : par S' b < b
    · rw [if_pos q, if_pos q, ← ih (par S' b) q (by omega)]
    · rw [if_neg q, if_neg q]
