/-! Reserved words. -/
/-- the class's kind of a word, by the first n reserved ones -/
def kwN (w : Int64) : Nat → Int32
  | 0 => 2
  | n + 1 => if kwN w n = 2 then (if xwd n = w then n32 (64 + n) else 2) else kwN w n
section WRD
variable {d e L : Nat} {I : TI} {J : TJ}
theorem bX9_kindOfWord_1 (cf : xCF) (v0 : Int64) (v2 : Int32) : xlim cf mX9_kindOfWord 1 [.long v0, xD, .int v2] [] (xst e L I J) = (if v2 < 21 then xaJ (xst e L I J) 1000001 v2 (fun w => if lg_cmp w v0 = 0 then some (some (.int (64 + v2)), xst e L I J) else xlim cf mX9_kindOfWord 2 [.long v0, xD, .int v2] [] (xst e L I J)) else xlim cf mX9_kindOfWord 3 [xD, xD, xD] [] (xst e L I J)) := (xlim_eq cf mX9_kindOfWord 1 _ _ _).trans rfl
theorem kw_s {w : Int64} {n : Nat} : kwN w (n + 1) = if kwN w n = 2 then (if xwd n = w then n32 (64 + n) else 2) else kwN w n := rfl
theorem kw_hit {w : Int64} {i : Nat} (hi : i < 1000) (h0 : kwN w i = 2) (h1 : xwd i = w) : ∀ m, kwN w (i + 1 + m) = n32 (64 + i) := by
  intro m
  induction m with
  | zero => rw [Nat.add_zero, kw_s, if_pos h0, if_pos h1]
  | succ m ih =>
    show kwN w (i + 1 + m + 1) = _
    have hz : ¬ n32 (64 + i) = 2 := fun z => absurd ((n32_inj (b := 2) (by omega) (by omega)).mp z) (by omega)
    rw [kw_s, ih, if_neg hz]
theorem xaJ_w {i : Nat} {f : Int64 → Option xOut} (h : i < 21) : xaJ (xst e L I J) 1000001 (n32 i) f = f (xwd i) := by
  unfold xaJ
  rw [show Nat.beq 1000001 1000001 = true by decide, cond_true, xin_n32 (by omega) h, cond_true, n32_nat (by omega)]
theorem c_kindOfWord {w : Int64} : xcall xprog (d + 1) 91 [.long w] (xst e L I J) = some (some (.int (kwN w 21)), xst e L I J) := by
  refine (aX9_kindOfWord _ e L I J _).trans ((bX9_kindOfWord_0 _ e L I J _).trans ?_)
  have main : ∀ m i, i + m = 21 → kwN w i = 2 → xlim (xcall xprog d) mX9_kindOfWord 1 [.long w, xD, .int (n32 i)] [] (xst e L I J) = some (some (.int (kwN w 21)), xst e L I J) := by
    intro m
    induction m with
    | zero =>
      intro i hi h0
      have : i = 21 := by omega
      subst this
      refine (bX9_kindOfWord_1 _ _ _).trans ((if_neg (by decide)).trans ?_)
      rw [bX9_kindOfWord_3, h0]
    | succ m ih =>
      intro i hi h0
      refine (bX9_kindOfWord_1 _ _ _).trans ((if_pos ((n32_lt (b := 21) (by omega) (by omega)).mpr (by omega))).trans ?_)
      rw [xaJ_w (by omega)]
      by_cases q : xwd i = w
      · rw [if_pos ((lg_cmp_eq _ _).mpr q)]
        have h1 := kw_hit (by omega) h0 q m
        rw [show i + 1 + m = 21 by omega] at h1
        have e64 : (64 : Int32) + n32 i = n32 (64 + i) := n32_add
        rw [h1, e64]
      · rw [if_neg (fun z => q ((lg_cmp_eq _ _).mp z)), bX9_kindOfWord_2, n32_succ]
        exact ih (i + 1) (by omega) (by rw [kw_s, if_pos h0, if_neg q])
  exact main 21 0 (by omega) rfl
end WRD
