/-! The calls drawn and odds. -/
section DR
variable {d e L : Nat} {S S' : TS} {N N' : Nat → Int64} {I K M : TI} {J J' : TJ} {a b s t v k i n r m o q : Nat} {x y : Int32}
theorem deeds_a : (deeds S x (n + 1)).1 = (deed (deeds S x n).1 (deeds S x n).2.1).1 := rfl
theorem deeds_b : (deeds S x (n + 1)).2.1 = (deed (deeds S x n).1 (deeds S x n).2.1).2.1 := rfl
theorem deeds_c : (deeds S x (n + 1)).2.2 = if (deed (deeds S x n).1 (deeds S x n).2.1).2.2 = true then (deeds S x n).2.2 + 1 else (deeds S x n).2.2 := rfl
theorem c_doDeeds_0 (hC : CS S N I J) (hB : sB S = 0) (hn : n ≤ 60) : xcall xprog (d + 7) 40 [.ref 78, .ref 6, .int (n32 n), .int y] (xst e L I J) = some (some (.int 0), xst e L (xu I 78 0 y) J) := by
  have e2 : (xu I 78 0 y) 7 2 = 0 := by rw [xu_rne (by decide), t7_B hC.2.1 hC.1.1, hB]; rfl
  rw [aX3_doDeeds, bX3_doDeeds_0, bX3_doDeeds_1, e2, if_pos (by decide : (0 : Int32) ≤ 0), bX3_doDeeds_3, ite_self]
theorem c_doDeeds (hC : CS S N I J) (hN : NZ S N) (hB : 0 < sB S) (hn : n ≤ 60) : RR (xcall xprog (d + 7) 40 [.ref 78, .ref 6, .int (n32 n), .int y] (xst e L I J)) (zI e L fun r K J' => r = n32 (deeds S y n).2.2 ∧ CS (deeds S y n).1 N K J' ∧ efr K I ∧ jfr J' J) := by
  refine RR_eq ((aX3_doDeeds _ e L I J _ _).trans (bX3_doDeeds_0 _ e L I J _ _)) ?_
  have main : ∀ m i, i + m = n → ∀ K J', CS (deeds S y i).1 N K J' → K 78 0 = (deeds S y i).2.1 → efr K I → jfr J' J → RR (xlim (xcall xprog (d + 6)) mX3_doDeeds 1 [.ref 78, .ref 6, .int (n32 n), xD, .int (n32 (deeds S y i).2.2), .int (n32 i)] [] (xst e L K J')) (zI e L fun r K J' => r = n32 (deeds S y n).2.2 ∧ CS (deeds S y n).1 N K J' ∧ efr K I ∧ jfr J' J) := by
    intro m
    induction m with
    | zero =>
      intro i hi K J' k1 k2 k3 k4
      have : i = n := by omega
      subst this
      refine RR_eq (bX3_doDeeds_1 _ e L K J' _ _ _) ?_
      rw [if_neg (fun h => absurd ((n32_lt (by omega) (by omega)).mp h) (Nat.lt_irrefl i)), bX3_doDeeds_3]
      exact RR_I ⟨rfl, k1, k3, k4⟩
    | succ m ih =>
      intro i hi K J' k1 k2 k3 k4
      obtain ⟨p1, p2, p3⟩ := deeds_pre (x := y) (n := i) hC.1 hB
      have hB' : 0 < sB (deeds S y i).1 := by have := p1.2.2.2.1; omega
      have h20 := wf_B p2.1
      have z0 : ¬ n32 (sB (deeds S y i).1) ≤ 0 := by rw [n32_ge0 (by omega)]; omega
      refine RR_eq (bX3_doDeeds_1 _ e L K J' _ _ _) ?_
      rw [if_pos ((n32_lt (by omega) (by omega)).mpr (show i < n by omega)), t7_B k1.2.1 k1.1.1, if_neg z0]
      refine RR_cI (c_doDeed (d := d) k1 (NZ_same p1.2.2.2.1 hN) hB' k2) (fun r P J2 ⟨g1, g2, g3, g4, g5⟩ => ?_)
      rw [ekX3_doDeeds_1_9]
      have nx := ih (i + 1) (by omega) P J2 (by rw [deeds_a]; exact g2) (by rw [deeds_b]; exact g3) (efr_t g5 k3) (jfr_t g1 k4)
      rw [deeds_c] at nx
      by_cases q : r = 0
      · rw [if_pos q, n32_succ]
        rw [if_pos (g4.mp q)] at nx
        refine RR_eq (bX3_doDeeds_2 _ e L P J2 _ _ _) ?_
        rw [n32_succ]
        exact nx
      · rw [if_neg q]
        rw [if_neg (fun h => q (g4.mpr h))] at nx
        refine RR_eq (bX3_doDeeds_2 _ e L P J2 _ _ _) ?_
        rw [n32_succ]
        exact nx
  exact main n 0 (by omega) _ J (CS_78 hC) xu_ee efr_78 jfr_r
theorem efr_m (h : efr K (mrk I)) : ∀ o k, ¬ (7 ≤ o ∧ o < 42) → o ≠ 6 → o ≠ 78 → o ≠ 208 → K o k = I o k := fun o k z1 z2 z3 z4 => by rw [h o k z1 (Or.inl z2) z3, mrk_ne z4]
end DR
