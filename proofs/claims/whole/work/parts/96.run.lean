/-! Runs of letters and digits on the tape. -/
def ltr (x : Int32) : Bool := !decide (x < 97) && decide (x ≤ 122)
def dgt (x : Int32) : Bool := !decide (x < 48) && decide (x ≤ 57)
def lcF (t : Nat → Int32) (p : Nat) : Nat → Nat
  | 0 => 0
  | k + 1 => if ltr (t (p + k)) = true then lcF t p k + 1 else lcF t p k
def dcF (t : Nat → Int32) (p : Nat) : Nat → Nat
  | 0 => 0
  | k + 1 => if ltr (t (p + k)) = true then dcF t p k else dcF t p k + 1
def nmF (t : Nat → Int32) (p : Nat) : Nat → Int64
  | 0 => Int64.ofNat 0
  | k + 1 => if ltr (t (p + k)) = true then (nmF t p k <<< (Int32.toInt64 8 &&& 63)) ||| Int32.toInt64 (t (p + k)) else nmF t p k
def nuF (t : Nat → Int32) (p : Nat) : Nat → Int32
  | 0 => 0
  | k + 1 => if ltr (t (p + k)) = true then nuF t p k else nuF t p k * 10 + (t (p + k) - 48)
/-- k signs from p on are a run that ends there -/
def RN (t : Nat → Int32) (p n k : Nat) : Prop := p + k ≤ n ∧ (∀ i, i < k → (ltr (t (p + i)) || dgt (t (p + i))) = true) ∧ (p + k = n ∨ (ltr (t (p + k)) || dgt (t (p + k))) = false)
section RUN
variable {d e L : Nat} {I K M : TI} {J J' : TJ} {p n k i m : Nat}
theorem ltr_t {x : Int32} (h : ltr x = true) : ¬ x < 97 ∧ x ≤ 122 := by
  unfold ltr at h
  simp only [Bool.and_eq_true, Bool.not_eq_true', decide_eq_false_iff_not, decide_eq_true_eq] at h
  exact h
theorem ltr_f {x : Int32} (h : ¬ ltr x = true) : x < 97 ∨ ¬ x ≤ 122 := by
  unfold ltr at h
  simp only [Bool.and_eq_true, Bool.not_eq_true', decide_eq_false_iff_not, decide_eq_true_eq] at h
  by_cases q : x < 97
  · exact Or.inl q
  · exact Or.inr (fun z => h ⟨q, z⟩)
theorem dgt_t {x : Int32} (h : dgt x = true) : ¬ x < 48 ∧ x ≤ 57 := by
  unfold dgt at h
  simp only [Bool.and_eq_true, Bool.not_eq_true', decide_eq_false_iff_not, decide_eq_true_eq] at h
  exact h
theorem dgt_f {x : Int32} (h : ¬ dgt x = true) : x < 48 ∨ ¬ x ≤ 57 := by
  unfold dgt at h
  simp only [Bool.and_eq_true, Bool.not_eq_true', decide_eq_false_iff_not, decide_eq_true_eq] at h
  by_cases q : x < 48
  · exact Or.inl q
  · exact Or.inr (fun z => h ⟨q, z⟩)
/-- what readRun has read -/
def RRd (I0 : TI) (J0 : TJ) (p k : Nat) (I : TI) (J : TJ) : Prop := I 5 5 = n32 (p + k) ∧ I 5 9 = n32 (lcF (I0 2) p k) ∧ I 5 10 = n32 (dcF (I0 2) p k) ∧ I 5 11 = nuF (I0 2) p k ∧ J 5 1 = nmF (I0 2) p k ∧ (∀ o q, (o ≠ 5 ∨ ¬ (q = 5 ∨ q = 9 ∨ q = 10 ∨ q = 11)) → I o q = I0 o q) ∧ ∀ o q, (o ≠ 5 ∨ q ≠ 1) → J o q = J0 o q
theorem c_readRun (hn : I 1 1 = n32 n) (h940 : n ≤ 940) (hp : I 5 5 = n32 p) (hpn : p ≤ n) : ∃ k K J', xcall xprog (d + 1) 90 [.ref 5] (xst e L I J) = some (none, xst e L K J') ∧ RN (I 2) p n k ∧ RRd I J p k K J' := by
  rw [aX9_readRun, bX9_readRun_0]
  have main : ∀ m k, p + k + m = n → ∀ K J', RRd I J p k K J' → (∀ i, i < k → (ltr (I 2 (p + i)) || dgt (I 2 (p + i))) = true) → ∃ k K2 J2, xlim (xcall xprog d) mX9_readRun 1 [.ref 5, xD] [] (xst e L K J') = some (none, xst e L K2 J2) ∧ RN (I 2) p n k ∧ RRd I J p k K2 J2 := by
    intro m
    induction m with
    | zero =>
      intro k hk K J' h hr
      refine ⟨k, K, J', ?_, ⟨by omega, hr, Or.inl (by omega)⟩, h⟩
      rw [bX9_readRun_1, h.1, h.2.2.2.2.2.1 1 1 (by omega), hn, if_neg (fun z => absurd ((n32_lt (by omega) (by omega)).mp z) (by omega)), bX9_readRun_4]
    | succ m ih =>
      intro k hk K J' h hr
      obtain ⟨h1, h2, h3, h4, h5, h6, h7⟩ := id h
      have e2 : K 2 (p + k) = I 2 (p + k) := h6 2 _ (by omega)
      rw [bX9_readRun_1, h1, h6 1 1 (by omega), hn, if_pos ((n32_lt (by omega) (by omega)).mpr (show p + k < n by omega)), xin_n32 (by omega) (show p + k < 940 by omega), cond_true, n32_nat (by omega), e2]
      have nb : ∀ K J', RRd I J p (k + 1) (xu K 5 5 (n32 (p + k) + 1)) J' → (ltr (I 2 (p + k)) || dgt (I 2 (p + k))) = true → K 5 5 = n32 (p + k) → ∃ k K2 J2, xlim (xcall xprog d) mX9_readRun 3 [.ref 5, xD] [] (xst e L K J') = some (none, xst e L K2 J2) ∧ RN (I 2) p n k ∧ RRd I J p k K2 J2 := fun K J' h hl h5 => by
        rw [bX9_readRun_3, h5]
        refine ih (k + 1) (by omega) _ _ h (fun i hi => ?_)
        by_cases z : i = k
        · rw [z]; exact hl
        · exact hr i (by omega)
      by_cases q : ltr (I 2 (p + k)) = true
      · obtain ⟨q1, q2⟩ := ltr_t q
        rw [if_neg q1, if_pos q2]
        refine nb _ _ ⟨?_, ?_, ?_, ?_, ?_, fun o w z => ?_, fun o w z => ?_⟩ (by rw [q]; rfl) (by rw [xu_kne (by decide), h1])
        · rw [xu_ee, n32_succ]; rfl
        · rw [xu_kne (by decide), xu_ee, h2, n32_succ]
          exact congrArg n32 (if_pos q).symm
        · rw [xu_kne (by decide), xu_kne (by decide), h3]
          exact congrArg n32 (if_pos q).symm
        · rw [xu_kne (by decide), xu_kne (by decide), h4]
          exact (if_pos q).symm
        · rw [xu_ee, h5]
          exact (if_pos q).symm
        · by_cases y : o = 5
          · subst y
            rw [xu_kne (by omega), xu_kne (by omega), h6 5 w z]
          · rw [xu_rne y, xu_rne y, h6 o w z]
        · by_cases y : o = 5
          · subst y
            rw [xu_kne (by omega), h7 5 w z]
          · rw [xu_rne y, h7 o w z]
      · have hx2 : ∀ Z, xlim (xcall xprog d) mX9_readRun 2 [.ref 5, .int (I 2 (p + k))] [] (xst e L K J') = Z → (if I 2 (p + k) < 97 then xlim (xcall xprog d) mX9_readRun 2 [.ref 5, .int (I 2 (p + k))] [] (xst e L K J') else if I 2 (p + k) ≤ 122 then xlim (xcall xprog d) mX9_readRun 3 [.ref 5, xD] [] (xst e L (xu K 5 9 (K 5 9 + 1)) (xu J' 5 1 ((J' 5 1 <<< (Int32.toInt64 8 &&& 63)) ||| Int32.toInt64 (I 2 (p + k))))) else xlim (xcall xprog d) mX9_readRun 2 [.ref 5, .int (I 2 (p + k))] [] (xst e L K J')) = Z := fun Z hZ => by
          rcases ltr_f q with z | z
          · rw [if_pos z]; exact hZ
          · by_cases y : I 2 (p + k) < 97
            · rw [if_pos y]; exact hZ
            · rw [if_neg y, if_neg z]; exact hZ
        by_cases w : dgt (I 2 (p + k)) = true
        · obtain ⟨w1, w2⟩ := dgt_t w
          obtain ⟨k', K2, J2, r1, r2, r3⟩ := nb (xu (xu K 5 10 (K 5 10 + 1)) 5 11 (K 5 11 * 10 + (I 2 (p + k) - 48))) J' ⟨by rw [xu_ee, n32_succ]; rfl, by rw [xu_kne (by decide), xu_kne (by decide), xu_kne (by decide), h2]; exact congrArg n32 (if_neg q).symm, by rw [xu_kne (by decide), xu_kne (by decide), xu_ee, h3, n32_succ]; exact congrArg n32 (if_neg q).symm, by rw [xu_kne (by decide), xu_ee, h4]; exact (if_neg q).symm, by rw [h5]; exact (if_neg q).symm, fun o v z => by
              by_cases y : o = 5
              · subst y
                rw [xu_kne (by omega), xu_kne (by omega), xu_kne (by omega), h6 5 v z]
              · rw [xu_rne y, xu_rne y, xu_rne y, h6 o v z], h7⟩ (by rw [w, Bool.or_true]) (by rw [xu_kne (by decide), xu_kne (by decide), h1])
          exact ⟨k', K2, J2, hx2 _ (by rw [bX9_readRun_2, if_neg w1, if_pos w2]; exact r1), r2, r3⟩
        · refine ⟨k, K, J', hx2 _ ?_, ⟨by omega, hr, Or.inr ?_⟩, h⟩
          · rw [bX9_readRun_2]
            rcases dgt_f w with z | z
            · rw [if_pos z, bX9_readRun_4]
            · by_cases y : I 2 (p + k) < 48
              · rw [if_pos y, bX9_readRun_4]
              · rw [if_neg y, if_neg z, bX9_readRun_4]
          · cases h1 : ltr (I 2 (p + k)) <;> cases h2 : dgt (I 2 (p + k)) <;> simp_all
  refine main (n - p) 0 (by omega) _ _ ⟨?_, ?_, ?_, ?_, xu_ee, fun o q z => ?_, fun o q z => ?_⟩ (fun i hi => absurd hi (Nat.not_lt_zero i))
  · rw [xu_kne (by decide), xu_kne (by decide), xu_kne (by decide), hp]; rfl
  · rw [xu_kne (by decide), xu_kne (by decide), xu_ee]; rfl
  · rw [xu_kne (by decide), xu_ee]; rfl
  · rw [xu_ee]; rfl
  · by_cases y : o = 5
    · subst y
      rw [xu_kne (by omega), xu_kne (by omega), xu_kne (by omega)]
    · rw [xu_rne y, xu_rne y, xu_rne y]
  · by_cases y : o = 5
    · subst y
      rw [xu_kne (by omega)]
    · rw [xu_rne y]
end RUN
