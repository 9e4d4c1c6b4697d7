/-! Fractions: guilt and mean; forks; counts. -/
section FR
variable {d e L : Nat} {S : TS} {N : Nat → Int64} {I K M : TI} {J : TJ} {a b s t v k i n w : Nat} {σ : xS}
theorem half_mod {g s : Nat} (h : g % s ≠ 0) (hs : 0 < s) : 2 * (s % (g % s)) < s := by
  have h1 : g % s < s := Nat.mod_lt _ hs
  have h2 : s % (g % s) < g % s := Nat.mod_lt _ (by omega)
  have h3 := Nat.div_add_mod s (g % s)
  have h4 : 1 ≤ s / (g % s) := (Nat.le_div_iff_mul_le (by omega)).mpr (by omega)
  have h5 : g % s * 1 ≤ g % s * (s / (g % s)) := Nat.mul_le_mul_left _ h4
  omega
theorem c_gcd_loop : ∀ (k g s i : Nat), g < 2147483648 → s < 2 ^ k → k ≤ 20 → i + 2 * k + 1 ≤ 64 → xlim (xcall xprog d) mX11_greatestDivisor 1 [xD, xD, .int (n32 g), .int (n32 s), .int (n32 i), xD] [] (xst e L I J) = some (some (.int (n32 (Nat.gcd s g))), xst e L I J)
  | 0, g, s, i, hg, hs, hk, hi => by
    have : s = 0 := by
      have : (2 : Nat) ^ 0 = 1 := rfl
      omega
    subst this
    have h64 : i < 64 := by omega
    refine (bX11_greatestDivisor_1 _ e L I J _ _ _).trans ?_
    simp (disch := omega) only [n32_ltE, n32_leE, n32_eqE, n32_eqm, m1_eqn, n32_ge0, n32_lt0, n32_nat, n32_succ, n32_add, xin_n32, xin_b1, xin_b2, cond_true, cond_false, if_true, if_false, xcI_some, xcV_some, xcJ_some, xcR_some, xu_ee, xu_rne, xu_kne, ite_self, not_true_eq_false, not_false_eq_true, ne_eq, true_and, and_true, false_and, and_false, m1_lt0, m1_eq0, eq_self, Bool.false_eq_true, reduceCtorEq, z_lt0, i1_eq0, i0_eq1, i1_eq1, xrZ0, xrZ1, xrZt, n32_eq0, n32_eq1, n32_gt0, n32_gt1, n32_lt1, n32_le1, n32_0le, tf0, tf1, xaI_of, q64a, q64b, q64m, q64l, q64g, q64r, q64s, q64e, h64, bX11_greatestDivisor_0, bX11_greatestDivisor_2]
    rw [Nat.gcd_zero_left]
  | k + 1, g, s, i, hg, hs, hk, hi => by
    have h64 : i < 64 := by omega
    have hp : (2 : Nat) ^ (k + 1) = 2 * 2 ^ k := by rw [Nat.pow_succ]; omega
    have hpb : (2 : Nat) ^ (k + 1) ≤ 2 ^ 20 := Nat.pow_le_pow_right (by omega) hk
    have hp20 : (2 : Nat) ^ 20 = 1048576 := rfl
    refine (bX11_greatestDivisor_1 _ e L I J _ _ _).trans ?_
    by_cases h0 : s = 0
    · subst h0
      simp (disch := omega) only [n32_ltE, n32_leE, n32_eqE, n32_eqm, m1_eqn, n32_ge0, n32_lt0, n32_nat, n32_succ, n32_add, xin_n32, xin_b1, xin_b2, cond_true, cond_false, if_true, if_false, xcI_some, xcV_some, xcJ_some, xcR_some, xu_ee, xu_rne, xu_kne, ite_self, not_true_eq_false, not_false_eq_true, ne_eq, true_and, and_true, false_and, and_false, m1_lt0, m1_eq0, eq_self, Bool.false_eq_true, reduceCtorEq, z_lt0, i1_eq0, i0_eq1, i1_eq1, xrZ0, xrZ1, xrZt, n32_eq0, n32_eq1, n32_gt0, n32_gt1, n32_lt1, n32_le1, n32_0le, tf0, tf1, xaI_of, q64a, q64b, q64m, q64l, q64g, q64r, q64s, q64e, h64, bX11_greatestDivisor_0, bX11_greatestDivisor_2]
      rw [Nat.gcd_zero_left]
    · simp (disch := omega) only [n32_ltE, n32_leE, n32_eqE, n32_eqm, m1_eqn, n32_ge0, n32_lt0, n32_nat, n32_succ, n32_add, xin_n32, xin_b1, xin_b2, cond_true, cond_false, if_true, if_false, xcI_some, xcV_some, xcJ_some, xcR_some, xu_ee, xu_rne, xu_kne, ite_self, not_true_eq_false, not_false_eq_true, ne_eq, true_and, and_true, false_and, and_false, m1_lt0, m1_eq0, eq_self, Bool.false_eq_true, reduceCtorEq, z_lt0, i1_eq0, i0_eq1, i1_eq1, xrZ0, xrZ1, xrZt, n32_eq0, n32_eq1, n32_gt0, n32_gt1, n32_lt1, n32_le1, n32_0le, tf0, tf1, xaI_of, q64a, q64b, q64m, q64l, q64g, q64r, q64s, q64e, h64, h0, n32_rem]
      have hm : g % s < s := Nat.mod_lt _ (by omega)
      have h65 : i + 1 < 64 := by omega
      refine (bX11_greatestDivisor_1 _ e L I J _ _ _).trans ?_
      have eg : Nat.gcd s g = Nat.gcd (g % s) s := Nat.gcd_rec s g
      by_cases h1 : g % s = 0
      · simp (disch := omega) only [n32_ltE, n32_leE, n32_eqE, n32_eqm, m1_eqn, n32_ge0, n32_lt0, n32_nat, n32_succ, n32_add, xin_n32, xin_b1, xin_b2, cond_true, cond_false, if_true, if_false, xcI_some, xcV_some, xcJ_some, xcR_some, xu_ee, xu_rne, xu_kne, ite_self, not_true_eq_false, not_false_eq_true, ne_eq, true_and, and_true, false_and, and_false, m1_lt0, m1_eq0, eq_self, Bool.false_eq_true, reduceCtorEq, z_lt0, i1_eq0, i0_eq1, i1_eq1, xrZ0, xrZ1, xrZt, n32_eq0, n32_eq1, n32_gt0, n32_gt1, n32_lt1, n32_le1, n32_0le, tf0, tf1, xaI_of, q64a, q64b, q64m, q64l, q64g, q64r, q64s, q64e, h65, h1, bX11_greatestDivisor_0, bX11_greatestDivisor_2]
        rw [eg, h1, Nat.gcd_zero_left]
      · simp (disch := omega) only [n32_ltE, n32_leE, n32_eqE, n32_eqm, m1_eqn, n32_ge0, n32_lt0, n32_nat, n32_succ, n32_add, xin_n32, xin_b1, xin_b2, cond_true, cond_false, if_true, if_false, xcI_some, xcV_some, xcJ_some, xcR_some, xu_ee, xu_rne, xu_kne, ite_self, not_true_eq_false, not_false_eq_true, ne_eq, true_and, and_true, false_and, and_false, m1_lt0, m1_eq0, eq_self, Bool.false_eq_true, reduceCtorEq, z_lt0, i1_eq0, i0_eq1, i1_eq1, xrZ0, xrZ1, xrZt, n32_eq0, n32_eq1, n32_gt0, n32_gt1, n32_lt1, n32_le1, n32_0le, tf0, tf1, xaI_of, q64a, q64b, q64m, q64l, q64g, q64r, q64s, q64e, h65, h1, n32_rem]
        have hh := half_mod h1 (by omega)
        rw [c_gcd_loop k (g % s) (s % (g % s)) (i + 1 + 1) (by omega) (by omega) (by omega) (by omega), eg, Nat.gcd_rec (g % s) s]
theorem c_part {x : Int32} (ha : a < 1000) (hb0 : 0 < b) (hb : b < 1000) : xcall xprog (d + 2) 152 [.int (n32 a), .int (n32 b), .int x] (xst e L I J) = some (some (.int (n32 ((if x = 0 then a else b) / Nat.gcd a b))), xst e L I J) := by
  have hg : 0 < Nat.gcd a b := Nat.gcd_pos_of_pos_right a hb0
  have hgl : Nat.gcd a b ≤ b := Nat.gcd_le_right a hb0
  have e1 : xcall xprog (d + 1) 153 [.int (n32 a), .int (n32 b)] (xst e L I J) = some (some (.int (n32 (Nat.gcd a b))), xst e L I J) := by
    refine (aX11_greatestDivisor _ e L I J _ _).trans ((bX11_greatestDivisor_0 _ e L I J _ _).trans ?_)
    rw [Nat.gcd_comm]
    exact c_gcd_loop 10 a b 0 (by omega) (by have : (2 : Nat) ^ 10 = 1024 := rfl; omega) (by omega) (by omega)
  have h0 : ¬ Nat.gcd a b = 0 := by omega
  rw [aX11_partOfFraction, bX11_partOfFraction_0, e1]
  by_cases hx : x = 0
  · simp (disch := omega) only [n32_ltE, n32_leE, n32_eqE, n32_eqm, m1_eqn, n32_ge0, n32_lt0, n32_nat, n32_succ, n32_add, xin_n32, xin_b1, xin_b2, cond_true, cond_false, if_true, if_false, xcI_some, xcV_some, xcJ_some, xcR_some, xu_ee, xu_rne, xu_kne, ite_self, not_true_eq_false, not_false_eq_true, ne_eq, true_and, and_true, false_and, and_false, m1_lt0, m1_eq0, eq_self, Bool.false_eq_true, reduceCtorEq, z_lt0, i1_eq0, i0_eq1, i1_eq1, xrZ0, xrZ1, xrZt, n32_eq0, n32_eq1, n32_gt0, n32_gt1, n32_lt1, n32_le1, n32_0le, tf0, tf1, xaI_of, ekX11_partOfFraction_0_2, bX11_partOfFraction_0, bX11_partOfFraction_1, bX11_partOfFraction_2, bX11_partOfFraction_3, bX11_partOfFraction_4, hx, h0, n32_div]
  · simp (disch := omega) only [n32_ltE, n32_leE, n32_eqE, n32_eqm, m1_eqn, n32_ge0, n32_lt0, n32_nat, n32_succ, n32_add, xin_n32, xin_b1, xin_b2, cond_true, cond_false, if_true, if_false, xcI_some, xcV_some, xcJ_some, xcR_some, xu_ee, xu_rne, xu_kne, ite_self, not_true_eq_false, not_false_eq_true, ne_eq, true_and, and_true, false_and, and_false, m1_lt0, m1_eq0, eq_self, Bool.false_eq_true, reduceCtorEq, z_lt0, i1_eq0, i0_eq1, i1_eq1, xrZ0, xrZ1, xrZt, n32_eq0, n32_eq1, n32_gt0, n32_gt1, n32_lt1, n32_le1, n32_0le, tf0, tf1, xaI_of, ekX11_partOfFraction_0_2, bX11_partOfFraction_0, bX11_partOfFraction_1, bX11_partOfFraction_2, bX11_partOfFraction_3, bX11_partOfFraction_4, hx, h0, n32_div]
theorem r_gcd_loop {x : Int32} (hb0 : 0 < b) : ∀ (y z : Nat), z < 1000 → y < 1000 → (0 < y ∨ 0 < z) → xlim (xcall xprog d) mX12_least 1 [.int (n32 a), .int (n32 b), .int x, .int (n32 z), .int (n32 y), xD] [] (xst e L I J) = xlim (xcall xprog d) mX12_least 2 [.int (n32 a), .int (n32 b), .int x, .int (n32 (Nat.gcd y z)), xD, xD] [] (xst e L I J) := by
  intro y
  induction y using Nat.strongRecOn with
  | _ y ih =>
    intro z hz hy hp
    refine (bX12_least_1 _ e L I J _ _ _ _ _).trans ?_
    by_cases h0 : y = 0
    · subst h0
      simp (disch := omega) only [n32_ltE, n32_leE, n32_eqE, n32_eqm, m1_eqn, n32_ge0, n32_lt0, n32_nat, n32_succ, n32_add, xin_n32, xin_b1, xin_b2, cond_true, cond_false, if_true, if_false, xcI_some, xcV_some, xcJ_some, xcR_some, xu_ee, xu_rne, xu_kne, ite_self, not_true_eq_false, not_false_eq_true, ne_eq, true_and, and_true, false_and, and_false, m1_lt0, m1_eq0, eq_self, Bool.false_eq_true, reduceCtorEq, z_lt0, i1_eq0, i0_eq1, i1_eq1, xrZ0, xrZ1, xrZt, n32_eq0, n32_eq1, n32_gt0, n32_gt1, n32_lt1, n32_le1, n32_0le, tf0, tf1, xaI_of]
      rw [Nat.gcd_zero_left]
    · simp (disch := omega) only [n32_ltE, n32_leE, n32_eqE, n32_eqm, m1_eqn, n32_ge0, n32_lt0, n32_nat, n32_succ, n32_add, xin_n32, xin_b1, xin_b2, cond_true, cond_false, if_true, if_false, xcI_some, xcV_some, xcJ_some, xcR_some, xu_ee, xu_rne, xu_kne, ite_self, not_true_eq_false, not_false_eq_true, ne_eq, true_and, and_true, false_and, and_false, m1_lt0, m1_eq0, eq_self, Bool.false_eq_true, reduceCtorEq, z_lt0, i1_eq0, i0_eq1, i1_eq1, xrZ0, xrZ1, xrZt, n32_eq0, n32_eq1, n32_gt0, n32_gt1, n32_lt1, n32_le1, n32_0le, tf0, tf1, xaI_of, h0, n32_rem]
      have hm : z % y < y := Nat.mod_lt _ (by omega)
      rw [ih (z % y) hm y hy (by omega) (Or.inr (by omega)), Nat.gcd_rec y z]
theorem r_least {x : Int32} (ha : a < 1000) (hb0 : 0 < b) (hb : b < 1000) : xcall xprog (d + 1) 238 [.int (n32 a), .int (n32 b), .int x] (xst e L I J) = some (some (.int (n32 ((if x = 0 then a else b) / Nat.gcd a b))), xst e L I J) := by
  have hg : 0 < Nat.gcd a b := Nat.gcd_pos_of_pos_right a hb0
  have hgl : Nat.gcd a b ≤ b := Nat.gcd_le_right a hb0
  have h0 : ¬ Nat.gcd a b = 0 := by omega
  refine (aX12_least _ e L I J _ _ _).trans ((bX12_least_0 _ e L I J _ _ _).trans ?_)
  rw [r_gcd_loop hb0 a b (by omega) (by omega) (Or.inr hb0)]
  by_cases hx : x = 0
  · simp (disch := omega) only [n32_ltE, n32_leE, n32_eqE, n32_eqm, m1_eqn, n32_ge0, n32_lt0, n32_nat, n32_succ, n32_add, xin_n32, xin_b1, xin_b2, cond_true, cond_false, if_true, if_false, xcI_some, xcV_some, xcJ_some, xcR_some, xu_ee, xu_rne, xu_kne, ite_self, not_true_eq_false, not_false_eq_true, ne_eq, true_and, and_true, false_and, and_false, m1_lt0, m1_eq0, eq_self, Bool.false_eq_true, reduceCtorEq, z_lt0, i1_eq0, i0_eq1, i1_eq1, xrZ0, xrZ1, xrZt, n32_eq0, n32_eq1, n32_gt0, n32_gt1, n32_lt1, n32_le1, n32_0le, tf0, tf1, xaI_of, bX12_least_0, bX12_least_2, bX12_least_3, bX12_least_4, hx, h0, n32_div]
  · simp (disch := omega) only [n32_ltE, n32_leE, n32_eqE, n32_eqm, m1_eqn, n32_ge0, n32_lt0, n32_nat, n32_succ, n32_add, xin_n32, xin_b1, xin_b2, cond_true, cond_false, if_true, if_false, xcI_some, xcV_some, xcJ_some, xcR_some, xu_ee, xu_rne, xu_kne, ite_self, not_true_eq_false, not_false_eq_true, ne_eq, true_and, and_true, false_and, and_false, m1_lt0, m1_eq0, eq_self, Bool.false_eq_true, reduceCtorEq, z_lt0, i1_eq0, i0_eq1, i1_eq1, xrZ0, xrZ1, xrZt, n32_eq0, n32_eq1, n32_gt0, n32_gt1, n32_lt1, n32_le1, n32_0le, tf0, tf1, xaI_of, bX12_least_0, bX12_least_2, bX12_least_3, bX12_least_4, hx, h0, n32_div]
/-- weights as numbers -/
def tw (S : TS) (v : Nat) : Nat := (S (4 + v)).toNatClampNeg
theorem tw_eq (hw : wfT S) (hv : v < sV S) : S (4 + v) = n32 (tw S v) ∧ tw S v ≤ 9 := by
  obtain ⟨w, h1, h2⟩ := wf_w hw hv
  unfold tw
  rw [h2, n32_nat (by omega)]
  exact ⟨rfl, h1⟩
def swN (S : TS) (set : Int32) (n : Nat) : Nat := sumN (fun v => if bt set v = true then tw S v else 0) n
theorem smv_n (hw : wfT S) {set : Int32} (hn : n ≤ sV S) : smv (fun v => S (4 + v)) set n = n32 (swN S set n) := by
  induction n with
  | zero => rfl
  | succ n ih =>
    show (if bt set n = true then smv (fun v => S (4 + v)) set n + S (4 + n) else smv (fun v => S (4 + v)) set n) = n32 (swN S set n + (if bt set n = true then tw S n else 0))
    rw [ih (by omega)]
    by_cases q : bt set n = true
    · rw [if_pos q, if_pos q, (tw_eq hw (show n < sV S by omega)).1, n32_add]
    · rw [if_neg q, if_neg q, Nat.add_zero]
theorem swN_le (hw : wfT S) {set : Int32} (hn : n ≤ sV S) : swN S set n ≤ 9 * n := by
  induction n with
  | zero => exact Nat.le_refl _
  | succ n ih =>
    have := ih (by omega)
    have h9 := (tw_eq hw (show n < sV S by omega)).2
    show swN S set n + (if bt set n = true then tw S n else 0) ≤ 9 * (n + 1)
    split <;> omega
theorem c_guilt_t (hC : CS S N I J) {x : Int32} (h0 : ¬ x < 0) (h1 : x ≤ 1) (ha : swN S 255 (sV S) ≠ 0) : RR (xcall xprog (d + 7) 137 [.ref 0, .int x] (xst e L I J)) (zI e L (oC S N I J (n32 ((if x = 0 then swN S (ofS S) (sV S) else swN S 255 (sV S)) / Nat.gcd (swN S (ofS S) (sV S)) (swN S 255 (sV S)))))) := by
  have hw := hC.1.1
  have h8 := wf_V8 hw
  have l1 := swN_le hw (set := 255) (Nat.le_refl (sV S))
  have l2 := swN_le hw (set := ofS S) (Nat.le_refl (sV S))
  have es : ∀ {I : TI} {J : TJ} (set : Int32), Tr 7 S N I J → smv (I 9) set (sV S) = n32 (swN S set (sV S)) := fun set hT => (smv_c (fun v hv => t7_told hT hv)).trans (smv_n hw (Nat.le_refl _))
  refine RR_eq ((aX11_guilt _ e L I J _).trans (bX11_guilt_0 _ e L I J _)) ?_
  rw [c_sumOf (t7_V hC.2.1 hw) h8 G0_9, es 255 hC.2.1]
  simp (disch := omega) only [n32_ltE, n32_leE, n32_eqE, n32_eqm, m1_eqn, n32_ge0, n32_lt0, n32_nat, n32_succ, n32_add, xin_n32, xin_b1, xin_b2, cond_true, cond_false, if_true, if_false, xcI_some, xcV_some, xcJ_some, xcR_some, xu_ee, xu_rne, xu_kne, ite_self, not_true_eq_false, not_false_eq_true, ne_eq, true_and, and_true, false_and, and_false, m1_lt0, m1_eq0, eq_self, Bool.false_eq_true, reduceCtorEq, z_lt0, i1_eq0, i0_eq1, i1_eq1, xrZ0, xrZ1, xrZt, n32_eq0, n32_eq1, n32_gt0, n32_gt1, n32_lt1, n32_le1, n32_0le, tf0, tf1, xaI_of, ekX11_guilt_0_6, ha, h0, h1]
  refine RR_eq (bX11_guilt_2 _ e L I J _ _) ?_
  refine RR_cV (c_fresh (d := d) hC) (fun K J' ⟨j1, f1, hF, hC2⟩ => ?_)
  subst j1
  rw [ekX11_guilt_2_2, c_sumOf (t7_V hC2.2.1 hw) h8 G0_9, hF.2.2.1, es (ofS S) hC2.2.1, xcI_some, ekX11_guilt_2_11, c_part (by omega) (by omega) (by omega), xcI_some, ekX11_guilt_2_14]
  exact RR_I ⟨rfl, rfl, f1, hC2⟩
theorem c_guilt_f (hC : CS S N I J) {x : Int32} (h : swN S 255 (sV S) = 0 ∨ x < 0 ∨ ¬ x ≤ 1) : xcall xprog (d + 7) 137 [.ref 0, .int x] (xst e L I J) = some (some xT, xst (e + 1) L I J) := by
  have hw := hC.1.1
  have h8 := wf_V8 hw
  have l1 := swN_le hw (set := 255) (Nat.le_refl (sV S))
  have es : smv (I 9) 255 (sV S) = n32 (swN S 255 (sV S)) := (smv_c (fun v hv => t7_told hC.2.1 hv)).trans (smv_n hw (Nat.le_refl _))
  refine (aX11_guilt _ e L I J _).trans ((bX11_guilt_0 _ e L I J _).trans ?_)
  rw [c_sumOf (t7_V hC.2.1 hw) h8 G0_9, es]
  by_cases q : swN S 255 (sV S) = 0
  · simp (disch := omega) only [n32_ltE, n32_leE, n32_eqE, n32_eqm, m1_eqn, n32_ge0, n32_lt0, n32_nat, n32_succ, n32_add, xin_n32, xin_b1, xin_b2, cond_true, cond_false, if_true, if_false, xcI_some, xcV_some, xcJ_some, xcR_some, xu_ee, xu_rne, xu_kne, ite_self, not_true_eq_false, not_false_eq_true, ne_eq, true_and, and_true, false_and, and_false, m1_lt0, m1_eq0, eq_self, Bool.false_eq_true, reduceCtorEq, z_lt0, i1_eq0, i0_eq1, i1_eq1, xrZ0, xrZ1, xrZt, n32_eq0, n32_eq1, n32_gt0, n32_gt1, n32_lt1, n32_le1, n32_0le, tf0, tf1, xaI_of, ekX11_guilt_0_6, q, bX11_guilt_1]
  · rcases h with h | h | h
    · exact absurd h q
    · simp (disch := omega) only [n32_ltE, n32_leE, n32_eqE, n32_eqm, m1_eqn, n32_ge0, n32_lt0, n32_nat, n32_succ, n32_add, xin_n32, xin_b1, xin_b2, cond_true, cond_false, if_true, if_false, xcI_some, xcV_some, xcJ_some, xcR_some, xu_ee, xu_rne, xu_kne, ite_self, not_true_eq_false, not_false_eq_true, ne_eq, true_and, and_true, false_and, and_false, m1_lt0, m1_eq0, eq_self, Bool.false_eq_true, reduceCtorEq, z_lt0, i1_eq0, i0_eq1, i1_eq1, xrZ0, xrZ1, xrZt, n32_eq0, n32_eq1, n32_gt0, n32_gt1, n32_lt1, n32_le1, n32_0le, tf0, tf1, xaI_of, ekX11_guilt_0_6, q, h, bX11_guilt_1]
    · simp (disch := omega) only [n32_ltE, n32_leE, n32_eqE, n32_eqm, m1_eqn, n32_ge0, n32_lt0, n32_nat, n32_succ, n32_add, xin_n32, xin_b1, xin_b2, cond_true, cond_false, if_true, if_false, xcI_some, xcV_some, xcJ_some, xcR_some, xu_ee, xu_rne, xu_kne, ite_self, not_true_eq_false, not_false_eq_true, ne_eq, true_and, and_true, false_and, and_false, m1_lt0, m1_eq0, eq_self, Bool.false_eq_true, reduceCtorEq, z_lt0, i1_eq0, i0_eq1, i1_eq1, xrZ0, xrZ1, xrZt, n32_eq0, n32_eq1, n32_gt0, n32_gt1, n32_lt1, n32_le1, n32_0le, tf0, tf1, xaI_of, ekX11_guilt_0_6, q, h, bX11_guilt_1]
theorem bt255 (hv : v < 8) : bt 255 v = true := by
  have := x255 (i := v) (by omega)
  show (255#32).getLsbD v = true
  rw [this]
  simp [hv]
theorem r_guilt_loop (hC : RS S I) (hF : Rf S I) {x : Int32} : xlim (xcall xprog (d + 1)) mX12_guilt 1 [.ref 209, .int x, .int 0, .int 0, .int 0] [] (xst e L I J) = xlim (xcall xprog (d + 1)) mX12_guilt 4 [.ref 209, .int x, .int (n32 (swN S 255 (sV S))), .int (n32 (swN S (ofS S) (sV S))), xD] [] (xst e L I J) := by
  have hw := hC.1.1
  have hS := hC.2.1
  have h8 := wf_V8 hw
  obtain ⟨z, h1, h2⟩ := xfor (fun i (z : Nat × Nat) => xlim (xcall xprog (d + 1)) mX12_guilt 1 [.ref 209, .int x, .int (n32 z.1), .int (n32 z.2), .int (n32 i)] [] (xst e L I J)) (fun i z => z = (swN S 255 i, swN S (ofS S) i)) (n := sV S) (fun i z hi hz => by
    subst hz
    refine ⟨(swN S 255 (i + 1), swN S (ofS S) (i + 1)), ?_, rfl⟩
    refine (bX12_guilt_1 _ e L I J _ _ _ _).trans ?_
    have e1 : swN S 255 (i + 1) = swN S 255 i + tw S i := by
      show swN S 255 i + (if bt 255 i = true then tw S i else 0) = _
      rw [if_pos (bt255 (by omega))]
    have e2 : swN S (ofS S) (i + 1) = swN S (ofS S) i + (if bt (ofS S) i = true then tw S i else 0) := rfl
    rw [e1, e2]
    by_cases q : bt (ofS S) i = true
    · simp (disch := omega) only [n32_ltE, n32_leE, n32_eqE, n32_eqm, m1_eqn, n32_ge0, n32_lt0, n32_nat, n32_succ, n32_add, xin_n32, xin_b1, xin_b2, cond_true, cond_false, if_true, if_false, xcI_some, xcV_some, xcJ_some, xcR_some, xu_ee, xu_rne, xu_kne, ite_self, not_true_eq_false, not_false_eq_true, ne_eq, true_and, and_true, false_and, and_false, m1_lt0, m1_eq0, eq_self, Bool.false_eq_true, reduceCtorEq, z_lt0, i1_eq0, i0_eq1, i1_eq1, xrZ0, xrZ1, xrZt, n32_eq0, n32_eq1, n32_gt0, n32_gt1, n32_lt1, n32_le1, n32_0le, tf0, tf1, xaI_of, q4a, q4b, q4m, q4l, q4g, q4r, q4s, q4e, ekX12_guilt_0_1, bX12_guilt_0, ekX12_guilt_1_19, bX12_guilt_2, bX12_guilt_3, ekX12_guilt_4_6, bX12_guilt_4, bX12_guilt_5, bX12_guilt_6, ekX12_guilt_7_0, bX12_guilt_7, ekX12_guilt_8_3, bX12_guilt_8, hS, wf_1 hw, hi, sX12_bitOf, hF.2.2.2.1, bt_t1, q, (tw_eq hw hi).1]
    · simp (disch := omega) only [n32_ltE, n32_leE, n32_eqE, n32_eqm, m1_eqn, n32_ge0, n32_lt0, n32_nat, n32_succ, n32_add, xin_n32, xin_b1, xin_b2, cond_true, cond_false, if_true, if_false, xcI_some, xcV_some, xcJ_some, xcR_some, xu_ee, xu_rne, xu_kne, ite_self, not_true_eq_false, not_false_eq_true, ne_eq, true_and, and_true, false_and, and_false, m1_lt0, m1_eq0, eq_self, Bool.false_eq_true, reduceCtorEq, z_lt0, i1_eq0, i0_eq1, i1_eq1, xrZ0, xrZ1, xrZt, n32_eq0, n32_eq1, n32_gt0, n32_gt1, n32_lt1, n32_le1, n32_0le, tf0, tf1, xaI_of, q4a, q4b, q4m, q4l, q4g, q4r, q4s, q4e, ekX12_guilt_0_1, bX12_guilt_0, ekX12_guilt_1_19, bX12_guilt_2, bX12_guilt_3, ekX12_guilt_4_6, bX12_guilt_4, bX12_guilt_5, bX12_guilt_6, ekX12_guilt_7_0, bX12_guilt_7, ekX12_guilt_8_3, bX12_guilt_8, hS, wf_1 hw, hi, sX12_bitOf, hF.2.2.2.1, bt_t1, q, (tw_eq hw hi).1, Int32.add_zero, Nat.add_zero]) (0, 0) rfl
  subst h2
  refine h1.trans ((bX12_guilt_1 _ e L I J _ _ _ _).trans ?_)
  simp (disch := omega) only [n32_ltE, n32_leE, n32_eqE, n32_eqm, m1_eqn, n32_ge0, n32_lt0, n32_nat, n32_succ, n32_add, xin_n32, xin_b1, xin_b2, cond_true, cond_false, if_true, if_false, xcI_some, xcV_some, xcJ_some, xcR_some, xu_ee, xu_rne, xu_kne, ite_self, not_true_eq_false, not_false_eq_true, ne_eq, true_and, and_true, false_and, and_false, m1_lt0, m1_eq0, eq_self, Bool.false_eq_true, reduceCtorEq, z_lt0, i1_eq0, i0_eq1, i1_eq1, xrZ0, xrZ1, xrZt, n32_eq0, n32_eq1, n32_gt0, n32_gt1, n32_lt1, n32_le1, n32_0le, tf0, tf1, xaI_of, hS, wf_1 hw, Nat.lt_irrefl]
theorem r_guilt_t (hC : RS S I) {x : Int32} (h0 : ¬ x < 0) (h1 : x ≤ 1) (ha : swN S 255 (sV S) ≠ 0) : RR (xcall xprog (d + 8) 239 [.ref 209, .int x] (xst e L I J)) (zI e L fun y K J' => oR S I J (n32 ((if x = 0 then swN S (ofS S) (sV S) else swN S 255 (sV S)) / Nat.gcd (swN S (ofS S) (sV S)) (swN S 255 (sV S)))) y K J' ∧ K 209 0 = 0) := by
  have hw := hC.1.1
  have h8 := wf_V8 hw
  have l1 := swN_le hw (set := 255) (Nat.le_refl (sV S))
  have l2 := swN_le hw (set := ofS S) (Nat.le_refl (sV S))
  refine RR_eq ((aX12_guilt _ e L I J _).trans (bX12_guilt_0 _ e L I J _)) ?_
  refine RR_cV (r_lays (d := d) hC) (fun K J' ⟨j1, f1, hF, hC2⟩ => ?_)
  subst j1
  rw [ekX12_guilt_0_1, r_guilt_loop (d := d + 6) hC2 hF]
  have fr : rfr (xu K 209 0 0) I := rfr_t rfr_0 (lfr_rfr f1)
  have ep : ∀ d, xcall xprog (d + 1) 238 [.int (n32 (swN S (ofS S) (sV S))), .int (n32 (swN S 255 (sV S))), .int x] (xst e L (xu K 209 0 0) J') = some (some (.int (n32 ((if x = 0 then swN S (ofS S) (sV S) else swN S 255 (sV S)) / Nat.gcd (swN S (ofS S) (sV S)) (swN S 255 (sV S))))), xst e L (xu K 209 0 0) J') := fun d => r_least (by omega) (by omega) (by omega)
  simp (disch := omega) only [n32_ltE, n32_leE, n32_eqE, n32_eqm, m1_eqn, n32_ge0, n32_lt0, n32_nat, n32_succ, n32_add, xin_n32, xin_b1, xin_b2, cond_true, cond_false, if_true, if_false, xcI_some, xcV_some, xcJ_some, xcR_some, xu_ee, xu_rne, xu_kne, ite_self, not_true_eq_false, not_false_eq_true, ne_eq, true_and, and_true, false_and, and_false, m1_lt0, m1_eq0, eq_self, Bool.false_eq_true, reduceCtorEq, z_lt0, i1_eq0, i0_eq1, i1_eq1, xrZ0, xrZ1, xrZt, n32_eq0, n32_eq1, n32_gt0, n32_gt1, n32_lt1, n32_le1, n32_0le, tf0, tf1, xaI_of, q4a, q4b, q4m, q4l, q4g, q4r, q4s, q4e, ekX12_guilt_0_1, bX12_guilt_0, ekX12_guilt_1_19, bX12_guilt_2, bX12_guilt_3, ekX12_guilt_4_6, bX12_guilt_4, bX12_guilt_5, bX12_guilt_6, ekX12_guilt_7_0, bX12_guilt_7, ekX12_guilt_8_3, bX12_guilt_8, ha, sX12_isIn, h0, h1, r_throws_f, ep]
  exact RR_I ⟨⟨rfl, rfl, fr, RS_0 hC2⟩, xu_ee⟩
theorem r_guilt_f (hC : RS S I) {x : Int32} (h : swN S 255 (sV S) = 0 ∨ x < 0 ∨ ¬ x ≤ 1) : RR (xcall xprog (d + 8) 239 [.ref 209, .int x] (xst e L I J)) (zI e L fun y K J' => oR S I J 0 y K J' ∧ K 209 0 = 1) := by
  have hw := hC.1.1
  have h8 := wf_V8 hw
  have l1 := swN_le hw (set := 255) (Nat.le_refl (sV S))
  refine RR_eq ((aX12_guilt _ e L I J _).trans (bX12_guilt_0 _ e L I J _)) ?_
  refine RR_cV (r_lays (d := d) hC) (fun K J' ⟨j1, f1, hF, hC2⟩ => ?_)
  subst j1
  rw [ekX12_guilt_0_1, r_guilt_loop (d := d + 6) hC2 hF]
  have fr : rfr (xu K 209 0 1) I := rfr_t rfr_0 (lfr_rfr f1)
  by_cases q : swN S 255 (sV S) = 0
  · simp (disch := omega) only [n32_ltE, n32_leE, n32_eqE, n32_eqm, m1_eqn, n32_ge0, n32_lt0, n32_nat, n32_succ, n32_add, xin_n32, xin_b1, xin_b2, cond_true, cond_false, if_true, if_false, xcI_some, xcV_some, xcJ_some, xcR_some, xu_ee, xu_rne, xu_kne, ite_self, not_true_eq_false, not_false_eq_true, ne_eq, true_and, and_true, false_and, and_false, m1_lt0, m1_eq0, eq_self, Bool.false_eq_true, reduceCtorEq, z_lt0, i1_eq0, i0_eq1, i1_eq1, xrZ0, xrZ1, xrZt, n32_eq0, n32_eq1, n32_gt0, n32_gt1, n32_lt1, n32_le1, n32_0le, tf0, tf1, xaI_of, q4a, q4b, q4m, q4l, q4g, q4r, q4s, q4e, ekX12_guilt_0_1, bX12_guilt_0, ekX12_guilt_1_19, bX12_guilt_2, bX12_guilt_3, ekX12_guilt_4_6, bX12_guilt_4, bX12_guilt_5, bX12_guilt_6, ekX12_guilt_7_0, bX12_guilt_7, ekX12_guilt_8_3, bX12_guilt_8, q, r_throws_t]
    exact RR_I ⟨⟨rfl, rfl, fr, RS_0 hC2⟩, xu_ee⟩
  · rcases h with h | h | h
    · exact absurd h q
    · simp (disch := omega) only [n32_ltE, n32_leE, n32_eqE, n32_eqm, m1_eqn, n32_ge0, n32_lt0, n32_nat, n32_succ, n32_add, xin_n32, xin_b1, xin_b2, cond_true, cond_false, if_true, if_false, xcI_some, xcV_some, xcJ_some, xcR_some, xu_ee, xu_rne, xu_kne, ite_self, not_true_eq_false, not_false_eq_true, ne_eq, true_and, and_true, false_and, and_false, m1_lt0, m1_eq0, eq_self, Bool.false_eq_true, reduceCtorEq, z_lt0, i1_eq0, i0_eq1, i1_eq1, xrZ0, xrZ1, xrZt, n32_eq0, n32_eq1, n32_gt0, n32_gt1, n32_lt1, n32_le1, n32_0le, tf0, tf1, xaI_of, q4a, q4b, q4m, q4l, q4g, q4r, q4s, q4e, ekX12_guilt_0_1, bX12_guilt_0, ekX12_guilt_1_19, bX12_guilt_2, bX12_guilt_3, ekX12_guilt_4_6, bX12_guilt_4, bX12_guilt_5, bX12_guilt_6, ekX12_guilt_7_0, bX12_guilt_7, ekX12_guilt_8_3, bX12_guilt_8, q, sX12_isIn, h, r_throws_t]
      exact RR_I ⟨⟨rfl, rfl, fr, RS_0 hC2⟩, xu_ee⟩
    · simp (disch := omega) only [n32_ltE, n32_leE, n32_eqE, n32_eqm, m1_eqn, n32_ge0, n32_lt0, n32_nat, n32_succ, n32_add, xin_n32, xin_b1, xin_b2, cond_true, cond_false, if_true, if_false, xcI_some, xcV_some, xcJ_some, xcR_some, xu_ee, xu_rne, xu_kne, ite_self, not_true_eq_false, not_false_eq_true, ne_eq, true_and, and_true, false_and, and_false, m1_lt0, m1_eq0, eq_self, Bool.false_eq_true, reduceCtorEq, z_lt0, i1_eq0, i0_eq1, i1_eq1, xrZ0, xrZ1, xrZt, n32_eq0, n32_eq1, n32_gt0, n32_gt1, n32_lt1, n32_le1, n32_0le, tf0, tf1, xaI_of, q4a, q4b, q4m, q4l, q4g, q4r, q4s, q4e, ekX12_guilt_0_1, bX12_guilt_0, ekX12_guilt_1_19, bX12_guilt_2, bX12_guilt_3, ekX12_guilt_4_6, bX12_guilt_4, bX12_guilt_5, bX12_guilt_6, ekX12_guilt_7_0, bX12_guilt_7, ekX12_guilt_8_3, bX12_guilt_8, q, sX12_isIn, h, r_throws_t]
      exact RR_I ⟨⟨rfl, rfl, fr, RS_0 hC2⟩, xu_ee⟩
end FR
