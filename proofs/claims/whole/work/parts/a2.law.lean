/-! The law's blocks. -/
section LWB
variable {d d' e e' L i j cm rm mid : Nat} {as : List Value} {v : Option Value} {x y : Int32} {xs : Nat → Int32} {I K M : TI} {J J' : TJ} {A B : Option xOut} {cf : xCF}
theorem yrow {L' : Nat} (h : xcall xprog d mid as (xst e L I J) = some (v, xst e' L' K J')) : K 1000000 = I 1000000 := (ycall_mo xprog d mid as _ v _ h (show G0.length ≤ 1000 by decide +kernel)).2
theorem lw_stp (h : stp cm rm as) (hI : Inv I J) : ∃ x K J', xcall xprog (d + 40) cm (.ref 0 :: as) (xst e L I J) = some (some (.int x), xst e L K J') ∧ K 1000000 = I 1000000 ∧ ∃ M J'', xcall xprog (d + 40) rm (.ref 209 :: as) (xst e L K J') = some (some (.int x), xst e L M J'') ∧ Inv M J'' ∧ M 1000000 = I 1000000 := by
  obtain ⟨o, r1, x, K, J1, r2, o2, s1, y, M, J2, s2, z, hM⟩ := h d e L I J hI
  subst r2
  subst s2
  subst z
  have k := yrow r1
  exact ⟨x, K, J1, r1, k, M, J2, s1, hM, (yrow s1).trans k⟩
def LG (d L e i : Nat) (xs : Nat → Int32) (r : Option xOut) : Prop := ∃ e' M J', e' ≤ e + 1 ∧ r = xlim (xcall xprog (d + 41)) mL_law 48 [.ref 1000000, .ref 0, .ref 209, .ref 232, .int (n32 (6 * i)), xD, xD] [] (xst e' L M J') ∧ Inv M J' ∧ M 1000000 = xs
theorem LG_if {c : Prop} [Decidable c] (hA : LG d L e i xs A) (hB : LG d L e i xs B) : LG d L e i xs (if c then A else B) := by
  by_cases h : c
  · rw [if_pos h]; exact hA
  · rw [if_neg h]; exact hB
theorem lx (hi : 6 * i + 6 ≤ L) (hL : L ≤ 3072) (hj : j < 6) : xin (n32 (6 * i) + n32 j) L = true := by
  rw [n32_add]
  exact xin_n32 (by omega) (by omega)
theorem ly (hi : 6 * i + 6 ≤ L) (hL : L ≤ 3072) (hj : j < 6) : (n32 (6 * i) + n32 j).toNatClampNeg = 6 * i + j := by
  rw [n32_add]
  exact n32_nat (by omega)
theorem w_ok (h : cf mid as (xst e L I J) = some (some (.int x), xst e L K J)) : xwrap1 cf mid as 232 (xst e L I J) = some (some (.int 0), xst e L K (xu J 232 0 x.toInt64)) := by
  unfold xwrap1
  rw [h]
  rfl
theorem w_no (h : cf mid as (xst e L I J) = some (some xT, xst e' L I J)) : xwrap1 cf mid as 232 (xst e L I J) = some (some (.int 1), xst e' L I J) := by
  unfold xwrap1
  rw [h]
  exact if_pos rfl
theorem w_270 {a b : Int32} : xcall xprog (d + 1) 270 [.ref 0, .int a, .int b, .ref 232] (xst e L I J) = xwrap1 (xcall xprog d) 116 [.ref 0, .int a, .int b] 232 (xst e L I J) := rfl
theorem w_271 {a b c : Int32} : xcall xprog (d + 1) 271 [.ref 0, .int a, .int b, .int c, .ref 232] (xst e L I J) = xwrap1 (xcall xprog d) 122 [.ref 0, .int a, .int b, .int c] 232 (xst e L I J) := rfl
theorem w_272 {a : Int32} : xcall xprog (d + 1) 272 [.ref 0, .int a, .ref 232] (xst e L I J) = xwrap1 (xcall xprog d) 137 [.ref 0, .int a] 232 (xst e L I J) := rfl
theorem w_273 {a : Int32} : xcall xprog (d + 1) 273 [.ref 0, .int a, .ref 232] (xst e L I J) = xwrap1 (xcall xprog d) 138 [.ref 0, .int a] 232 (xst e L I J) := rfl
theorem i11 : (1 : Int32) = 1 := rfl
theorem u232 {w : Int64} : ∀ o k, o ≠ 232 → (xu J 232 0 w) o k = J o k := fun o k z => by rw [xu_rne z]
theorem lw_b2 (hI : Inv I J) (hi : 6 * i + 6 ≤ L) (hL : L ≤ 3072) : LG d L e i (I 1000000) (xlim (xcall xprog (d + 41)) mL_law 2 [.ref 1000000, .ref 0, .ref 209, .ref 232, .int (n32 (6 * i)), xD, xD] [] (xst e L I J)) := by
  have x1 : xin (n32 (6 * i) + 1) L = true := lx (j := 1) hi hL (by omega)
  have y1 : (n32 (6 * i) + 1).toNatClampNeg = 6 * i + 1 := ly (j := 1) hi hL (by omega)
  have x2 : xin (n32 (6 * i) + 2) L = true := lx (j := 2) hi hL (by omega)
  have y2 : (n32 (6 * i) + 2).toNatClampNeg = 6 * i + 2 := ly (j := 2) hi hL (by omega)
  have x3 : xin (n32 (6 * i) + 3) L = true := lx (j := 3) hi hL (by omega)
  have y3 : (n32 (6 * i) + 3).toNatClampNeg = 6 * i + 3 := ly (j := 3) hi hL (by omega)
  have x4 : xin (n32 (6 * i) + 4) L = true := lx (j := 4) hi hL (by omega)
  have y4 : (n32 (6 * i) + 4).toNatClampNeg = 6 * i + 4 := ly (j := 4) hi hL (by omega)
  have x5 : xin (n32 (6 * i) + 5) L = true := lx (j := 5) hi hL (by omega)
  have y5 : (n32 (6 * i) + 5).toNatClampNeg = 6 * i + 5 := ly (j := 5) hi hL (by omega)
  obtain ⟨x, K, J1, a1, a2, M, J2, a3, a4, a5⟩ := lw_stp (d := d + 1) (e := e) (L := L) (s_feed (I 1000000 (6 * i + 1)) (I 1000000 (6 * i + 2)) (I 1000000 (6 * i + 3)) (I 1000000 (6 * i + 4)) (I 1000000 (6 * i + 5))) hI
  refine ⟨e, M, J2, Nat.le_succ e, ?_, a4, a5⟩
  rw [bL_law_2, x1, cond_true, x2, cond_true, x3, cond_true, x4, cond_true, x5, cond_true, y1, y2, y3, y4, y5, a1, xcI_some, ekL_law_2_26, x1, cond_true, x2, cond_true, x3, cond_true, x4, cond_true, x5, cond_true, y1, y2, y3, y4, y5, a2, a3, xcI_some, ekL_law_2_53, if_pos rfl]
theorem lw_b3 (hI : Inv I J) (hi : 6 * i + 6 ≤ L) (hL : L ≤ 3072) : LG d L e i (I 1000000) (xlim (xcall xprog (d + 41)) mL_law 3 [.ref 1000000, .ref 0, .ref 209, .ref 232, .int (n32 (6 * i)), xD, xD] [] (xst e L I J)) := by
  have x1 : xin (n32 (6 * i) + 1) L = true := lx (j := 1) hi hL (by omega)
  have y1 : (n32 (6 * i) + 1).toNatClampNeg = 6 * i + 1 := ly (j := 1) hi hL (by omega)
  obtain ⟨x, K, J1, a1, a2, M, J2, a3, a4, a5⟩ := lw_stp (d := d + 1) (e := e) (L := L) (s_end (I 1000000 (6 * i + 1))) hI
  refine ⟨e, M, J2, Nat.le_succ e, ?_, a4, a5⟩
  rw [bL_law_3, x1, cond_true, y1, a1, xcI_some, ekL_law_3_6, x1, cond_true, y1, a2, a3, xcI_some, ekL_law_3_13, if_pos rfl]
theorem lw_b4 (hI : Inv I J) (hi : 6 * i + 6 ≤ L) (hL : L ≤ 3072) : LG d L e i (I 1000000) (xlim (xcall xprog (d + 41)) mL_law 4 [.ref 1000000, .ref 0, .ref 209, .ref 232, .int (n32 (6 * i)), xD, xD] [] (xst e L I J)) := by
  obtain ⟨x, K, J1, a1, a2, M, J2, a3, a4, a5⟩ := lw_stp (d := d + 1) (e := e) (L := L) (s_chain) hI
  refine ⟨e, M, J2, Nat.le_succ e, ?_, a4, a5⟩
  rw [bL_law_4, a1, xcI_some, ekL_law_4_1, a3, xcI_some, ekL_law_4_3, if_pos rfl]
theorem lw_b5 (hI : Inv I J) (hi : 6 * i + 6 ≤ L) (hL : L ≤ 3072) : LG d L e i (I 1000000) (xlim (xcall xprog (d + 41)) mL_law 5 [.ref 1000000, .ref 0, .ref 209, .ref 232, .int (n32 (6 * i)), xD, xD] [] (xst e L I J)) := by
  obtain ⟨x, K, J1, a1, a2, M, J2, a3, a4, a5⟩ := lw_stp (d := d + 1) (e := e) (L := L) (s_fault) hI
  refine ⟨e, M, J2, Nat.le_succ e, ?_, a4, a5⟩
  rw [bL_law_5, a1, xcI_some, ekL_law_5_1, a3, xcI_some, ekL_law_5_3, if_pos rfl]
theorem lw_b6 (hI : Inv I J) (hi : 6 * i + 6 ≤ L) (hL : L ≤ 3072) : LG d L e i (I 1000000) (xlim (xcall xprog (d + 41)) mL_law 6 [.ref 1000000, .ref 0, .ref 209, .ref 232, .int (n32 (6 * i)), xD, xD] [] (xst e L I J)) := by
  have x1 : xin (n32 (6 * i) + 1) L = true := lx (j := 1) hi hL (by omega)
  have y1 : (n32 (6 * i) + 1).toNatClampNeg = 6 * i + 1 := ly (j := 1) hi hL (by omega)
  have x2 : xin (n32 (6 * i) + 2) L = true := lx (j := 2) hi hL (by omega)
  have y2 : (n32 (6 * i) + 2).toNatClampNeg = 6 * i + 2 := ly (j := 2) hi hL (by omega)
  rcases w_block (I 1000000 (6 * i + 1)) (I 1000000 (6 * i + 2)) d (d + 1) e L I J hI with ⟨x, K, a1, a2⟩ | ⟨a1, a2⟩
  · obtain ⟨M, b1, b2, b3⟩ := a2 (xu J 232 0 x.toInt64) u232
    have k1 : K 1000000 = I 1000000 := yrow a1
    refine ⟨e, M, xu J 232 0 x.toInt64, Nat.le_succ e, ?_, b2, (yrow b1).trans k1⟩
    rw [bL_law_6, x1, cond_true, x2, cond_true, y1, y2, w_270, w_ok a1, xcI_some, ekL_law_6_12, x1, cond_true, x2, cond_true, y1, y2, k1, b1, xcI_some, ekL_law_6_25, sX12_thrown, xcI_some, ekL_law_6_28, b3, if_pos i00, bL_law_7, if_pos i00, xu_ee, if_pos ((lg_cmp_eq _ _).mpr rfl), bL_law_8]
  · obtain ⟨y, M, b1, b2, b3⟩ := a2 (e + 1)
    refine ⟨e + 1, M, J, Nat.le_refl _, ?_, b2, yrow b1⟩
    rw [bL_law_6, x1, cond_true, x2, cond_true, y1, y2, w_270, w_no a1, xcI_some, ekL_law_6_12, x1, cond_true, x2, cond_true, y1, y2, b1, xcI_some, ekL_law_6_25, sX12_thrown, xcI_some, ekL_law_6_28, b3, if_pos i11, bL_law_7, if_neg i10, bL_law_8]
theorem lw_b9 (hI : Inv I J) (hi : 6 * i + 6 ≤ L) (hL : L ≤ 3072) : LG d L e i (I 1000000) (xlim (xcall xprog (d + 41)) mL_law 9 [.ref 1000000, .ref 0, .ref 209, .ref 232, .int (n32 (6 * i)), xD, xD] [] (xst e L I J)) := by
  have x1 : xin (n32 (6 * i) + 1) L = true := lx (j := 1) hi hL (by omega)
  have y1 : (n32 (6 * i) + 1).toNatClampNeg = 6 * i + 1 := ly (j := 1) hi hL (by omega)
  have x2 : xin (n32 (6 * i) + 2) L = true := lx (j := 2) hi hL (by omega)
  have y2 : (n32 (6 * i) + 2).toNatClampNeg = 6 * i + 2 := ly (j := 2) hi hL (by omega)
  obtain ⟨x, K, J1, a1, a2, M, J2, a3, a4, a5⟩ := lw_stp (d := d + 1) (e := e) (L := L) (s_ahead (I 1000000 (6 * i + 1)) (I 1000000 (6 * i + 2))) hI
  refine ⟨e, M, J2, Nat.le_succ e, ?_, a4, a5⟩
  rw [bL_law_9, x1, cond_true, x2, cond_true, y1, y2, a1, xcI_some, ekL_law_9_11, x1, cond_true, x2, cond_true, y1, y2, a2, a3, xcI_some, ekL_law_9_23, if_pos rfl]
theorem lw_b10 (hI : Inv I J) (hi : 6 * i + 6 ≤ L) (hL : L ≤ 3072) : LG d L e i (I 1000000) (xlim (xcall xprog (d + 41)) mL_law 10 [.ref 1000000, .ref 0, .ref 209, .ref 232, .int (n32 (6 * i)), xD, xD] [] (xst e L I J)) := by
  have x1 : xin (n32 (6 * i) + 1) L = true := lx (j := 1) hi hL (by omega)
  have y1 : (n32 (6 * i) + 1).toNatClampNeg = 6 * i + 1 := ly (j := 1) hi hL (by omega)
  have x2 : xin (n32 (6 * i) + 2) L = true := lx (j := 2) hi hL (by omega)
  have y2 : (n32 (6 * i) + 2).toNatClampNeg = 6 * i + 2 := ly (j := 2) hi hL (by omega)
  obtain ⟨x, K, J1, a1, a2, M, J2, a3, a4, a5⟩ := lw_stp (d := d + 1) (e := e) (L := L) (s_fork (I 1000000 (6 * i + 1)) (I 1000000 (6 * i + 2))) hI
  refine ⟨e, M, J2, Nat.le_succ e, ?_, a4, a5⟩
  rw [bL_law_10, x1, cond_true, x2, cond_true, y1, y2, a1, xcI_some, ekL_law_10_11, x1, cond_true, x2, cond_true, y1, y2, a2, a3, xcI_some, ekL_law_10_23, if_pos rfl]
theorem lw_b11 (hI : Inv I J) (hi : 6 * i + 6 ≤ L) (hL : L ≤ 3072) : LG d L e i (I 1000000) (xlim (xcall xprog (d + 41)) mL_law 11 [.ref 1000000, .ref 0, .ref 209, .ref 232, .int (n32 (6 * i)), xD, xD] [] (xst e L I J)) := by
  have x1 : xin (n32 (6 * i) + 1) L = true := lx (j := 1) hi hL (by omega)
  have y1 : (n32 (6 * i) + 1).toNatClampNeg = 6 * i + 1 := ly (j := 1) hi hL (by omega)
  have x2 : xin (n32 (6 * i) + 2) L = true := lx (j := 2) hi hL (by omega)
  have y2 : (n32 (6 * i) + 2).toNatClampNeg = 6 * i + 2 := ly (j := 2) hi hL (by omega)
  obtain ⟨x, K, J1, a1, a2, M, J2, a3, a4, a5⟩ := lw_stp (d := d + 1) (e := e) (L := L) (s_weight (I 1000000 (6 * i + 1)) (I 1000000 (6 * i + 2))) hI
  refine ⟨e, M, J2, Nat.le_succ e, ?_, a4, a5⟩
  rw [bL_law_11, x1, cond_true, x2, cond_true, y1, y2, a1, xcI_some, ekL_law_11_11, x1, cond_true, x2, cond_true, y1, y2, a2, a3, xcI_some, ekL_law_11_23, if_pos rfl]
theorem lw_b12 (hI : Inv I J) (hi : 6 * i + 6 ≤ L) (hL : L ≤ 3072) : LG d L e i (I 1000000) (xlim (xcall xprog (d + 41)) mL_law 12 [.ref 1000000, .ref 0, .ref 209, .ref 232, .int (n32 (6 * i)), xD, xD] [] (xst e L I J)) := by
  have x1 : xin (n32 (6 * i) + 1) L = true := lx (j := 1) hi hL (by omega)
  have y1 : (n32 (6 * i) + 1).toNatClampNeg = 6 * i + 1 := ly (j := 1) hi hL (by omega)
  have x2 : xin (n32 (6 * i) + 2) L = true := lx (j := 2) hi hL (by omega)
  have y2 : (n32 (6 * i) + 2).toNatClampNeg = 6 * i + 2 := ly (j := 2) hi hL (by omega)
  obtain ⟨x, K, J1, a1, a2, M, J2, a3, a4, a5⟩ := lw_stp (d := d + 1) (e := e) (L := L) (s_voter (I 1000000 (6 * i + 1)) (I 1000000 (6 * i + 2))) hI
  refine ⟨e, M, J2, Nat.le_succ e, ?_, a4, a5⟩
  rw [bL_law_12, x1, cond_true, x2, cond_true, y1, y2, a1, xcI_some, ekL_law_12_11, x1, cond_true, x2, cond_true, y1, y2, a2, a3, xcI_some, ekL_law_12_23, if_pos rfl]
theorem lw_b13 (hI : Inv I J) (hi : 6 * i + 6 ≤ L) (hL : L ≤ 3072) : LG d L e i (I 1000000) (xlim (xcall xprog (d + 41)) mL_law 13 [.ref 1000000, .ref 0, .ref 209, .ref 232, .int (n32 (6 * i)), xD, xD] [] (xst e L I J)) := by
  have x1 : xin (n32 (6 * i) + 1) L = true := lx (j := 1) hi hL (by omega)
  have y1 : (n32 (6 * i) + 1).toNatClampNeg = 6 * i + 1 := ly (j := 1) hi hL (by omega)
  have x2 : xin (n32 (6 * i) + 2) L = true := lx (j := 2) hi hL (by omega)
  have y2 : (n32 (6 * i) + 2).toNatClampNeg = 6 * i + 2 := ly (j := 2) hi hL (by omega)
  obtain ⟨x, K, J1, a1, a2, M, J2, a3, a4, a5⟩ := lw_stp (d := d + 1) (e := e) (L := L) (s_vote (I 1000000 (6 * i + 1)) (I 1000000 (6 * i + 2))) hI
  refine ⟨e, M, J2, Nat.le_succ e, ?_, a4, a5⟩
  rw [bL_law_13, x1, cond_true, x2, cond_true, y1, y2, a1, xcI_some, ekL_law_13_11, x1, cond_true, x2, cond_true, y1, y2, a2, a3, xcI_some, ekL_law_13_23, if_pos rfl]
theorem lw_b14 (hI : Inv I J) (hi : 6 * i + 6 ≤ L) (hL : L ≤ 3072) : LG d L e i (I 1000000) (xlim (xcall xprog (d + 41)) mL_law 14 [.ref 1000000, .ref 0, .ref 209, .ref 232, .int (n32 (6 * i)), xD, xD] [] (xst e L I J)) := by
  have x1 : xin (n32 (6 * i) + 1) L = true := lx (j := 1) hi hL (by omega)
  have y1 : (n32 (6 * i) + 1).toNatClampNeg = 6 * i + 1 := ly (j := 1) hi hL (by omega)
  have x2 : xin (n32 (6 * i) + 2) L = true := lx (j := 2) hi hL (by omega)
  have y2 : (n32 (6 * i) + 2).toNatClampNeg = 6 * i + 2 := ly (j := 2) hi hL (by omega)
  have x3 : xin (n32 (6 * i) + 3) L = true := lx (j := 3) hi hL (by omega)
  have y3 : (n32 (6 * i) + 3).toNatClampNeg = 6 * i + 3 := ly (j := 3) hi hL (by omega)
  rcases w_link (I 1000000 (6 * i + 1)) (I 1000000 (6 * i + 2)) (I 1000000 (6 * i + 3)) d (d + 1) e L I J hI with ⟨x, K, a1, a2⟩ | ⟨a1, a2⟩
  · obtain ⟨M, b1, b2, b3⟩ := a2 (xu J 232 0 x.toInt64) u232
    have k1 : K 1000000 = I 1000000 := yrow a1
    refine ⟨e, M, xu J 232 0 x.toInt64, Nat.le_succ e, ?_, b2, (yrow b1).trans k1⟩
    rw [bL_law_14, x1, cond_true, x2, cond_true, x3, cond_true, y1, y2, y3, w_271, w_ok a1, xcI_some, ekL_law_14_17, x1, cond_true, x2, cond_true, x3, cond_true, y1, y2, y3, k1, b1, xcI_some, ekL_law_14_35, sX12_thrown, xcI_some, ekL_law_14_38, b3, if_pos i00, bL_law_15, if_pos i00, xu_ee, if_pos ((lg_cmp_eq _ _).mpr rfl), bL_law_16]
  · obtain ⟨y, M, b1, b2, b3⟩ := a2 (e + 1)
    refine ⟨e + 1, M, J, Nat.le_refl _, ?_, b2, yrow b1⟩
    rw [bL_law_14, x1, cond_true, x2, cond_true, x3, cond_true, y1, y2, y3, w_271, w_no a1, xcI_some, ekL_law_14_17, x1, cond_true, x2, cond_true, x3, cond_true, y1, y2, y3, b1, xcI_some, ekL_law_14_35, sX12_thrown, xcI_some, ekL_law_14_38, b3, if_pos i11, bL_law_15, if_neg i10, bL_law_16]
theorem lw_b17 (hI : Inv I J) (hi : 6 * i + 6 ≤ L) (hL : L ≤ 3072) : LG d L e i (I 1000000) (xlim (xcall xprog (d + 41)) mL_law 17 [.ref 1000000, .ref 0, .ref 209, .ref 232, .int (n32 (6 * i)), xD, xD] [] (xst e L I J)) := by
  have x1 : xin (n32 (6 * i) + 1) L = true := lx (j := 1) hi hL (by omega)
  have y1 : (n32 (6 * i) + 1).toNatClampNeg = 6 * i + 1 := ly (j := 1) hi hL (by omega)
  have x2 : xin (n32 (6 * i) + 2) L = true := lx (j := 2) hi hL (by omega)
  have y2 : (n32 (6 * i) + 2).toNatClampNeg = 6 * i + 2 := ly (j := 2) hi hL (by omega)
  have x3 : xin (n32 (6 * i) + 3) L = true := lx (j := 3) hi hL (by omega)
  have y3 : (n32 (6 * i) + 3).toNatClampNeg = 6 * i + 3 := ly (j := 3) hi hL (by omega)
  obtain ⟨x, K, J1, a1, a2, M, J2, a3, a4, a5⟩ := lw_stp (d := d + 1) (e := e) (L := L) (s_votes (I 1000000 (6 * i + 1)) (I 1000000 (6 * i + 2)) (I 1000000 (6 * i + 3))) hI
  refine ⟨e, M, J2, Nat.le_succ e, ?_, a4, a5⟩
  rw [bL_law_17, x1, cond_true, x2, cond_true, x3, cond_true, y1, y2, y3, a1, xcI_some, ekL_law_17_16, x1, cond_true, x2, cond_true, x3, cond_true, y1, y2, y3, a2, a3, xcI_some, ekL_law_17_33, if_pos rfl]
theorem lw_b18 (hI : Inv I J) (hi : 6 * i + 6 ≤ L) (hL : L ≤ 3072) : LG d L e i (I 1000000) (xlim (xcall xprog (d + 41)) mL_law 18 [.ref 1000000, .ref 0, .ref 209, .ref 232, .int (n32 (6 * i)), xD, xD] [] (xst e L I J)) := by
  have x1 : xin (n32 (6 * i) + 1) L = true := lx (j := 1) hi hL (by omega)
  have y1 : (n32 (6 * i) + 1).toNatClampNeg = 6 * i + 1 := ly (j := 1) hi hL (by omega)
  have x2 : xin (n32 (6 * i) + 2) L = true := lx (j := 2) hi hL (by omega)
  have y2 : (n32 (6 * i) + 2).toNatClampNeg = 6 * i + 2 := ly (j := 2) hi hL (by omega)
  obtain ⟨x, K, J1, a1, a2, M, J2, a3, a4, a5⟩ := lw_stp (d := d + 1) (e := e) (L := L) (s_looks (I 1000000 (6 * i + 1)) (I 1000000 (6 * i + 2))) hI
  refine ⟨e, M, J2, Nat.le_succ e, ?_, a4, a5⟩
  rw [bL_law_18, x1, cond_true, x2, cond_true, y1, y2, a1, xcI_some, ekL_law_18_11, x1, cond_true, x2, cond_true, y1, y2, a2, a3, xcI_some, ekL_law_18_23, if_pos rfl]
theorem lw_b19 (hI : Inv I J) (hi : 6 * i + 6 ≤ L) (hL : L ≤ 3072) : LG d L e i (I 1000000) (xlim (xcall xprog (d + 41)) mL_law 19 [.ref 1000000, .ref 0, .ref 209, .ref 232, .int (n32 (6 * i)), xD, xD] [] (xst e L I J)) := by
  have x1 : xin (n32 (6 * i) + 1) L = true := lx (j := 1) hi hL (by omega)
  have y1 : (n32 (6 * i) + 1).toNatClampNeg = 6 * i + 1 := ly (j := 1) hi hL (by omega)
  obtain ⟨x, K, J1, a1, a2, M, J2, a3, a4, a5⟩ := lw_stp (d := d + 1) (e := e) (L := L) (s_grows (I 1000000 (6 * i + 1))) hI
  refine ⟨e, M, J2, Nat.le_succ e, ?_, a4, a5⟩
  rw [bL_law_19, x1, cond_true, y1, a1, xcI_some, ekL_law_19_6, x1, cond_true, y1, a2, a3, xcI_some, ekL_law_19_13, if_pos rfl]
theorem lw_b20 (hI : Inv I J) (hi : 6 * i + 6 ≤ L) (hL : L ≤ 3072) : LG d L e i (I 1000000) (xlim (xcall xprog (d + 41)) mL_law 20 [.ref 1000000, .ref 0, .ref 209, .ref 232, .int (n32 (6 * i)), xD, xD] [] (xst e L I J)) := by
  obtain ⟨x, K, J1, a1, a2, M, J2, a3, a4, a5⟩ := lw_stp (d := d + 1) (e := e) (L := L) (s_undo) hI
  refine ⟨e, M, J2, Nat.le_succ e, ?_, a4, a5⟩
  rw [bL_law_20, a1, xcI_some, ekL_law_20_1, a3, xcI_some, ekL_law_20_3, if_pos rfl]
theorem lw_b21 (hI : Inv I J) (hi : 6 * i + 6 ≤ L) (hL : L ≤ 3072) : LG d L e i (I 1000000) (xlim (xcall xprog (d + 41)) mL_law 21 [.ref 1000000, .ref 0, .ref 209, .ref 232, .int (n32 (6 * i)), xD, xD] [] (xst e L I J)) := by
  have x1 : xin (n32 (6 * i) + 1) L = true := lx (j := 1) hi hL (by omega)
  have y1 : (n32 (6 * i) + 1).toNatClampNeg = 6 * i + 1 := ly (j := 1) hi hL (by omega)
  have x2 : xin (n32 (6 * i) + 2) L = true := lx (j := 2) hi hL (by omega)
  have y2 : (n32 (6 * i) + 2).toNatClampNeg = 6 * i + 2 := ly (j := 2) hi hL (by omega)
  have x3 : xin (n32 (6 * i) + 3) L = true := lx (j := 3) hi hL (by omega)
  have y3 : (n32 (6 * i) + 3).toNatClampNeg = 6 * i + 3 := ly (j := 3) hi hL (by omega)
  obtain ⟨x, K, J1, a1, a2, M, J2, a3, a4, a5⟩ := lw_stp (d := d + 1) (e := e) (L := L) (s_offends (I 1000000 (6 * i + 1)) (I 1000000 (6 * i + 2)) (I 1000000 (6 * i + 3))) hI
  refine ⟨e, M, J2, Nat.le_succ e, ?_, a4, a5⟩
  rw [bL_law_21, x1, cond_true, x2, cond_true, x3, cond_true, y1, y2, y3, a1, xcI_some, ekL_law_21_16, x1, cond_true, x2, cond_true, x3, cond_true, y1, y2, y3, a2, a3, xcI_some, ekL_law_21_33, if_pos rfl]
theorem lw_b22 (hI : Inv I J) (hi : 6 * i + 6 ≤ L) (hL : L ≤ 3072) : LG d L e i (I 1000000) (xlim (xcall xprog (d + 41)) mL_law 22 [.ref 1000000, .ref 0, .ref 209, .ref 232, .int (n32 (6 * i)), xD, xD] [] (xst e L I J)) := by
  have x1 : xin (n32 (6 * i) + 1) L = true := lx (j := 1) hi hL (by omega)
  have y1 : (n32 (6 * i) + 1).toNatClampNeg = 6 * i + 1 := ly (j := 1) hi hL (by omega)
  have x2 : xin (n32 (6 * i) + 2) L = true := lx (j := 2) hi hL (by omega)
  have y2 : (n32 (6 * i) + 2).toNatClampNeg = 6 * i + 2 := ly (j := 2) hi hL (by omega)
  obtain ⟨x, K, J1, a1, a2, M, J2, a3, a4, a5⟩ := lw_stp (d := d + 1) (e := e) (L := L) (s_evidence (I 1000000 (6 * i + 1)) (I 1000000 (6 * i + 2))) hI
  refine ⟨e, M, J2, Nat.le_succ e, ?_, a4, a5⟩
  rw [bL_law_22, x1, cond_true, x2, cond_true, y1, y2, a1, xcI_some, ekL_law_22_11, x1, cond_true, x2, cond_true, y1, y2, a2, a3, xcI_some, ekL_law_22_23, if_pos rfl]
theorem lw_b23 (hI : Inv I J) (hi : 6 * i + 6 ≤ L) (hL : L ≤ 3072) : LG d L e i (I 1000000) (xlim (xcall xprog (d + 41)) mL_law 23 [.ref 1000000, .ref 0, .ref 209, .ref 232, .int (n32 (6 * i)), xD, xD] [] (xst e L I J)) := by
  have x1 : xin (n32 (6 * i) + 1) L = true := lx (j := 1) hi hL (by omega)
  have y1 : (n32 (6 * i) + 1).toNatClampNeg = 6 * i + 1 := ly (j := 1) hi hL (by omega)
  obtain ⟨x, K, J1, a1, a2, M, J2, a3, a4, a5⟩ := lw_stp (d := d + 1) (e := e) (L := L) (s_now (I 1000000 (6 * i + 1))) hI
  refine ⟨e, M, J2, Nat.le_succ e, ?_, a4, a5⟩
  rw [bL_law_23, x1, cond_true, y1, a1, xcI_some, ekL_law_23_6, x1, cond_true, y1, a2, a3, xcI_some, ekL_law_23_13, if_pos rfl]
theorem lw_b24 (hI : Inv I J) (hi : 6 * i + 6 ≤ L) (hL : L ≤ 3072) : LG d L e i (I 1000000) (xlim (xcall xprog (d + 41)) mL_law 24 [.ref 1000000, .ref 0, .ref 209, .ref 232, .int (n32 (6 * i)), xD, xD] [] (xst e L I J)) := by
  have x1 : xin (n32 (6 * i) + 1) L = true := lx (j := 1) hi hL (by omega)
  have y1 : (n32 (6 * i) + 1).toNatClampNeg = 6 * i + 1 := ly (j := 1) hi hL (by omega)
  obtain ⟨x, K, J1, a1, a2, M, J2, a3, a4, a5⟩ := lw_stp (d := d + 1) (e := e) (L := L) (s_chosen (I 1000000 (6 * i + 1))) hI
  refine ⟨e, M, J2, Nat.le_succ e, ?_, a4, a5⟩
  rw [bL_law_24, x1, cond_true, y1, a1, xcI_some, ekL_law_24_6, x1, cond_true, y1, a2, a3, xcI_some, ekL_law_24_13, if_pos rfl]
theorem lw_b25 (hI : Inv I J) (hi : 6 * i + 6 ≤ L) (hL : L ≤ 3072) : LG d L e i (I 1000000) (xlim (xcall xprog (d + 41)) mL_law 25 [.ref 1000000, .ref 0, .ref 209, .ref 232, .int (n32 (6 * i)), xD, xD] [] (xst e L I J)) := by
  have x1 : xin (n32 (6 * i) + 1) L = true := lx (j := 1) hi hL (by omega)
  have y1 : (n32 (6 * i) + 1).toNatClampNeg = 6 * i + 1 := ly (j := 1) hi hL (by omega)
  have x2 : xin (n32 (6 * i) + 2) L = true := lx (j := 2) hi hL (by omega)
  have y2 : (n32 (6 * i) + 2).toNatClampNeg = 6 * i + 2 := ly (j := 2) hi hL (by omega)
  obtain ⟨x, K, J1, a1, a2, M, J2, a3, a4, a5⟩ := lw_stp (d := d + 1) (e := e) (L := L) (s_need (I 1000000 (6 * i + 1)) (I 1000000 (6 * i + 2))) hI
  refine ⟨e, M, J2, Nat.le_succ e, ?_, a4, a5⟩
  rw [bL_law_25, x1, cond_true, x2, cond_true, y1, y2, a1, xcI_some, ekL_law_25_11, x1, cond_true, x2, cond_true, y1, y2, a2, a3, xcI_some, ekL_law_25_23, if_pos rfl]
theorem lw_b26 (hI : Inv I J) (hi : 6 * i + 6 ≤ L) (hL : L ≤ 3072) : LG d L e i (I 1000000) (xlim (xcall xprog (d + 41)) mL_law 26 [.ref 1000000, .ref 0, .ref 209, .ref 232, .int (n32 (6 * i)), xD, xD] [] (xst e L I J)) := by
  obtain ⟨x, K, J1, a1, a2, M, J2, a3, a4, a5⟩ := lw_stp (d := d + 1) (e := e) (L := L) (s_needed) hI
  refine ⟨e, M, J2, Nat.le_succ e, ?_, a4, a5⟩
  rw [bL_law_26, a1, xcI_some, ekL_law_26_1, a3, xcI_some, ekL_law_26_3, if_pos rfl]
theorem lw_b27 (hI : Inv I J) (hi : 6 * i + 6 ≤ L) (hL : L ≤ 3072) : LG d L e i (I 1000000) (xlim (xcall xprog (d + 41)) mL_law 27 [.ref 1000000, .ref 0, .ref 209, .ref 232, .int (n32 (6 * i)), xD, xD] [] (xst e L I J)) := by
  have x1 : xin (n32 (6 * i) + 1) L = true := lx (j := 1) hi hL (by omega)
  have y1 : (n32 (6 * i) + 1).toNatClampNeg = 6 * i + 1 := ly (j := 1) hi hL (by omega)
  obtain ⟨x, K, J1, a1, a2, M, J2, a3, a4, a5⟩ := lw_stp (d := d + 1) (e := e) (L := L) (s_way (I 1000000 (6 * i + 1))) hI
  refine ⟨e, M, J2, Nat.le_succ e, ?_, a4, a5⟩
  rw [bL_law_27, x1, cond_true, y1, a1, xcI_some, ekL_law_27_6, x1, cond_true, y1, a2, a3, xcI_some, ekL_law_27_13, if_pos rfl]
theorem lw_b28 (hI : Inv I J) (hi : 6 * i + 6 ≤ L) (hL : L ≤ 3072) : LG d L e i (I 1000000) (xlim (xcall xprog (d + 41)) mL_law 28 [.ref 1000000, .ref 0, .ref 209, .ref 232, .int (n32 (6 * i)), xD, xD] [] (xst e L I J)) := by
  obtain ⟨x, K, J1, a1, a2, M, J2, a3, a4, a5⟩ := lw_stp (d := d + 1) (e := e) (L := L) (s_wayFrom) hI
  refine ⟨e, M, J2, Nat.le_succ e, ?_, a4, a5⟩
  rw [bL_law_28, a1, xcI_some, ekL_law_28_1, a3, xcI_some, ekL_law_28_3, if_pos rfl]
theorem lw_b29 (hI : Inv I J) (hi : 6 * i + 6 ≤ L) (hL : L ≤ 3072) : LG d L e i (I 1000000) (xlim (xcall xprog (d + 41)) mL_law 29 [.ref 1000000, .ref 0, .ref 209, .ref 232, .int (n32 (6 * i)), xD, xD] [] (xst e L I J)) := by
  obtain ⟨x, K, J1, a1, a2, M, J2, a3, a4, a5⟩ := lw_stp (d := d + 1) (e := e) (L := L) (s_clash) hI
  refine ⟨e, M, J2, Nat.le_succ e, ?_, a4, a5⟩
  rw [bL_law_29, a1, xcI_some, ekL_law_29_1, a3, xcI_some, ekL_law_29_3, if_pos rfl]
theorem lw_b30 (hI : Inv I J) (hi : 6 * i + 6 ≤ L) (hL : L ≤ 3072) : LG d L e i (I 1000000) (xlim (xcall xprog (d + 41)) mL_law 30 [.ref 1000000, .ref 0, .ref 209, .ref 232, .int (n32 (6 * i)), xD, xD] [] (xst e L I J)) := by
  have x1 : xin (n32 (6 * i) + 1) L = true := lx (j := 1) hi hL (by omega)
  have y1 : (n32 (6 * i) + 1).toNatClampNeg = 6 * i + 1 := ly (j := 1) hi hL (by omega)
  obtain ⟨x, K, J1, a1, a2, M, J2, a3, a4, a5⟩ := lw_stp (d := d + 1) (e := e) (L := L) (s_clashAt (I 1000000 (6 * i + 1))) hI
  refine ⟨e, M, J2, Nat.le_succ e, ?_, a4, a5⟩
  rw [bL_law_30, x1, cond_true, y1, a1, xcI_some, ekL_law_30_6, x1, cond_true, y1, a2, a3, xcI_some, ekL_law_30_13, if_pos rfl]
theorem lw_b31 (hI : Inv I J) (hi : 6 * i + 6 ≤ L) (hL : L ≤ 3072) : LG d L e i (I 1000000) (xlim (xcall xprog (d + 41)) mL_law 31 [.ref 1000000, .ref 0, .ref 209, .ref 232, .int (n32 (6 * i)), xD, xD] [] (xst e L I J)) := by
  have x1 : xin (n32 (6 * i) + 1) L = true := lx (j := 1) hi hL (by omega)
  have y1 : (n32 (6 * i) + 1).toNatClampNeg = 6 * i + 1 := ly (j := 1) hi hL (by omega)
  rcases w_guilt (I 1000000 (6 * i + 1)) d (d + 1) e L I J hI with ⟨x, K, a1, a2⟩ | ⟨a1, a2⟩
  · obtain ⟨M, b1, b2, b3⟩ := a2 (xu J 232 0 x.toInt64) u232
    have k1 : K 1000000 = I 1000000 := yrow a1
    refine ⟨e, M, xu J 232 0 x.toInt64, Nat.le_succ e, ?_, b2, (yrow b1).trans k1⟩
    rw [bL_law_31, x1, cond_true, y1, w_272, w_ok a1, xcI_some, ekL_law_31_7, x1, cond_true, y1, k1, b1, xcI_some, ekL_law_31_15, sX12_thrown, xcI_some, ekL_law_31_18, b3, if_pos i00, bL_law_32, if_pos i00, xu_ee, if_pos ((lg_cmp_eq _ _).mpr rfl), bL_law_33]
  · obtain ⟨y, M, b1, b2, b3⟩ := a2 (e + 1)
    refine ⟨e + 1, M, J, Nat.le_refl _, ?_, b2, yrow b1⟩
    rw [bL_law_31, x1, cond_true, y1, w_272, w_no a1, xcI_some, ekL_law_31_7, x1, cond_true, y1, b1, xcI_some, ekL_law_31_15, sX12_thrown, xcI_some, ekL_law_31_18, b3, if_pos i11, bL_law_32, if_neg i10, bL_law_33]
theorem lw_b34 (hI : Inv I J) (hi : 6 * i + 6 ≤ L) (hL : L ≤ 3072) : LG d L e i (I 1000000) (xlim (xcall xprog (d + 41)) mL_law 34 [.ref 1000000, .ref 0, .ref 209, .ref 232, .int (n32 (6 * i)), xD, xD] [] (xst e L I J)) := by
  have x1 : xin (n32 (6 * i) + 1) L = true := lx (j := 1) hi hL (by omega)
  have y1 : (n32 (6 * i) + 1).toNatClampNeg = 6 * i + 1 := ly (j := 1) hi hL (by omega)
  rcases w_mean (I 1000000 (6 * i + 1)) d (d + 1) e L I J hI with ⟨x, K, a1, a2⟩ | ⟨a1, a2⟩
  · obtain ⟨M, b1, b2, b3⟩ := a2 (xu J 232 0 x.toInt64) u232
    have k1 : K 1000000 = I 1000000 := yrow a1
    refine ⟨e, M, xu J 232 0 x.toInt64, Nat.le_succ e, ?_, b2, (yrow b1).trans k1⟩
    rw [bL_law_34, x1, cond_true, y1, w_273, w_ok a1, xcI_some, ekL_law_34_7, x1, cond_true, y1, k1, b1, xcI_some, ekL_law_34_15, sX12_thrown, xcI_some, ekL_law_34_18, b3, if_pos i00, bL_law_35, if_pos i00, xu_ee, if_pos ((lg_cmp_eq _ _).mpr rfl), bL_law_36]
  · obtain ⟨y, M, b1, b2, b3⟩ := a2 (e + 1)
    refine ⟨e + 1, M, J, Nat.le_refl _, ?_, b2, yrow b1⟩
    rw [bL_law_34, x1, cond_true, y1, w_273, w_no a1, xcI_some, ekL_law_34_7, x1, cond_true, y1, b1, xcI_some, ekL_law_34_15, sX12_thrown, xcI_some, ekL_law_34_18, b3, if_pos i11, bL_law_35, if_neg i10, bL_law_36]
theorem lw_b37 (hI : Inv I J) (hi : 6 * i + 6 ≤ L) (hL : L ≤ 3072) : LG d L e i (I 1000000) (xlim (xcall xprog (d + 41)) mL_law 37 [.ref 1000000, .ref 0, .ref 209, .ref 232, .int (n32 (6 * i)), xD, xD] [] (xst e L I J)) := by
  have x1 : xin (n32 (6 * i) + 1) L = true := lx (j := 1) hi hL (by omega)
  have y1 : (n32 (6 * i) + 1).toNatClampNeg = 6 * i + 1 := ly (j := 1) hi hL (by omega)
  obtain ⟨x, K, J1, a1, a2, M, J2, a3, a4, a5⟩ := lw_stp (d := d + 1) (e := e) (L := L) (s_tag (I 1000000 (6 * i + 1))) hI
  refine ⟨e, M, J2, Nat.le_succ e, ?_, a4, a5⟩
  rw [bL_law_37, x1, cond_true, y1, a1, xcI_some, ekL_law_37_6, x1, cond_true, y1, a2, a3, xcI_some, ekL_law_37_13, if_pos rfl]
theorem lw_b38 (hI : Inv I J) (hi : 6 * i + 6 ≤ L) (hL : L ≤ 3072) : LG d L e i (I 1000000) (xlim (xcall xprog (d + 41)) mL_law 38 [.ref 1000000, .ref 0, .ref 209, .ref 232, .int (n32 (6 * i)), xD, xD] [] (xst e L I J)) := by
  have x1 : xin (n32 (6 * i) + 1) L = true := lx (j := 1) hi hL (by omega)
  have y1 : (n32 (6 * i) + 1).toNatClampNeg = 6 * i + 1 := ly (j := 1) hi hL (by omega)
  obtain ⟨x, K, J1, a1, a2, M, J2, a3, a4, a5⟩ := lw_stp (d := d + 1) (e := e) (L := L) (s_byteAt (I 1000000 (6 * i + 1))) hI
  refine ⟨e, M, J2, Nat.le_succ e, ?_, a4, a5⟩
  rw [bL_law_38, x1, cond_true, y1, a1, xcI_some, ekL_law_38_6, x1, cond_true, y1, a2, a3, xcI_some, ekL_law_38_13, if_pos rfl]
theorem lw_b39 (hI : Inv I J) (hi : 6 * i + 6 ≤ L) (hL : L ≤ 3072) : LG d L e i (I 1000000) (xlim (xcall xprog (d + 41)) mL_law 39 [.ref 1000000, .ref 0, .ref 209, .ref 232, .int (n32 (6 * i)), xD, xD] [] (xst e L I J)) := by
  have x1 : xin (n32 (6 * i) + 1) L = true := lx (j := 1) hi hL (by omega)
  have y1 : (n32 (6 * i) + 1).toNatClampNeg = 6 * i + 1 := ly (j := 1) hi hL (by omega)
  have x2 : xin (n32 (6 * i) + 2) L = true := lx (j := 2) hi hL (by omega)
  have y2 : (n32 (6 * i) + 2).toNatClampNeg = 6 * i + 2 := ly (j := 2) hi hL (by omega)
  obtain ⟨x, K, J1, a1, a2, M, J2, a3, a4, a5⟩ := lw_stp (d := d + 1) (e := e) (L := L) (s_drawn (I 1000000 (6 * i + 1)) (I 1000000 (6 * i + 2))) hI
  refine ⟨e, M, J2, Nat.le_succ e, ?_, a4, a5⟩
  rw [bL_law_39, x1, cond_true, x2, cond_true, y1, y2, a1, xcI_some, ekL_law_39_11, x1, cond_true, x2, cond_true, y1, y2, a2, a3, xcI_some, ekL_law_39_23, if_pos rfl]
theorem lw_b40 (hI : Inv I J) (hi : 6 * i + 6 ≤ L) (hL : L ≤ 3072) : LG d L e i (I 1000000) (xlim (xcall xprog (d + 41)) mL_law 40 [.ref 1000000, .ref 0, .ref 209, .ref 232, .int (n32 (6 * i)), xD, xD] [] (xst e L I J)) := by
  have x1 : xin (n32 (6 * i) + 1) L = true := lx (j := 1) hi hL (by omega)
  have y1 : (n32 (6 * i) + 1).toNatClampNeg = 6 * i + 1 := ly (j := 1) hi hL (by omega)
  have x2 : xin (n32 (6 * i) + 2) L = true := lx (j := 2) hi hL (by omega)
  have y2 : (n32 (6 * i) + 2).toNatClampNeg = 6 * i + 2 := ly (j := 2) hi hL (by omega)
  have x3 : xin (n32 (6 * i) + 3) L = true := lx (j := 3) hi hL (by omega)
  have y3 : (n32 (6 * i) + 3).toNatClampNeg = 6 * i + 3 := ly (j := 3) hi hL (by omega)
  obtain ⟨x, K, J1, a1, a2, M, J2, a3, a4, a5⟩ := lw_stp (d := d + 1) (e := e) (L := L) (s_odds (I 1000000 (6 * i + 1)) (I 1000000 (6 * i + 2)) (I 1000000 (6 * i + 3))) hI
  refine ⟨e, M, J2, Nat.le_succ e, ?_, a4, a5⟩
  rw [bL_law_40, x1, cond_true, x2, cond_true, x3, cond_true, y1, y2, y3, a1, xcI_some, ekL_law_40_16, x1, cond_true, x2, cond_true, x3, cond_true, y1, y2, y3, a2, a3, xcI_some, ekL_law_40_33, if_pos rfl]
theorem lw_b41 (hI : Inv I J) (hi : 6 * i + 6 ≤ L) (hL : L ≤ 3072) : LG d L e i (I 1000000) (xlim (xcall xprog (d + 41)) mL_law 41 [.ref 1000000, .ref 0, .ref 209, .ref 232, .int (n32 (6 * i)), xD, xD] [] (xst e L I J)) := by
  have x1 : xin (n32 (6 * i) + 1) L = true := lx (j := 1) hi hL (by omega)
  have y1 : (n32 (6 * i) + 1).toNatClampNeg = 6 * i + 1 := ly (j := 1) hi hL (by omega)
  obtain ⟨x, K, J1, a1, a2, M, J2, a3, a4, a5⟩ := lw_stp (d := d + 1) (e := e) (L := L) (s_book (I 1000000 (6 * i + 1))) hI
  refine ⟨e, M, J2, Nat.le_succ e, ?_, a4, a5⟩
  rw [bL_law_41, x1, cond_true, y1, a1, xcI_some, ekL_law_41_6, x1, cond_true, y1, a2, a3, xcI_some, ekL_law_41_13, if_pos rfl]
theorem lw_b42 (hI : Inv I J) (hi : 6 * i + 6 ≤ L) (hL : L ≤ 3072) : LG d L e i (I 1000000) (xlim (xcall xprog (d + 41)) mL_law 42 [.ref 1000000, .ref 0, .ref 209, .ref 232, .int (n32 (6 * i)), xD, xD] [] (xst e L I J)) := by
  have x1 : xin (n32 (6 * i) + 1) L = true := lx (j := 1) hi hL (by omega)
  have y1 : (n32 (6 * i) + 1).toNatClampNeg = 6 * i + 1 := ly (j := 1) hi hL (by omega)
  obtain ⟨x, K, J1, a1, a2, M, J2, a3, a4, a5⟩ := lw_stp (d := d + 1) (e := e) (L := L) (s_told (I 1000000 (6 * i + 1))) hI
  refine ⟨e, M, J2, Nat.le_succ e, ?_, a4, a5⟩
  rw [bL_law_42, x1, cond_true, y1, a1, xcI_some, ekL_law_42_6, x1, cond_true, y1, a2, a3, xcI_some, ekL_law_42_13, if_pos rfl]
theorem lw_b43 (hI : Inv I J) (hi : 6 * i + 6 ≤ L) (hL : L ≤ 3072) : LG d L e i (I 1000000) (xlim (xcall xprog (d + 41)) mL_law 43 [.ref 1000000, .ref 0, .ref 209, .ref 232, .int (n32 (6 * i)), xD, xD] [] (xst e L I J)) := by
  obtain ⟨x, K, J1, a1, a2, M, J2, a3, a4, a5⟩ := lw_stp (d := d + 1) (e := e) (L := L) (s_sentence) hI
  refine ⟨e, M, J2, Nat.le_succ e, ?_, a4, a5⟩
  rw [bL_law_43, a1, xcI_some, ekL_law_43_1, a3, xcI_some, ekL_law_43_3, if_pos rfl]
theorem lw_b44 (hI : Inv I J) (hi : 6 * i + 6 ≤ L) (hL : L ≤ 3072) : LG d L e i (I 1000000) (xlim (xcall xprog (d + 41)) mL_law 44 [.ref 1000000, .ref 0, .ref 209, .ref 232, .int (n32 (6 * i)), xD, xD] [] (xst e L I J)) := by
  have x1 : xin (n32 (6 * i) + 1) L = true := lx (j := 1) hi hL (by omega)
  have y1 : (n32 (6 * i) + 1).toNatClampNeg = 6 * i + 1 := ly (j := 1) hi hL (by omega)
  obtain ⟨x, K, J1, a1, a2, M, J2, a3, a4, a5⟩ := lw_stp (d := d + 1) (e := e) (L := L) (s_said (I 1000000 (6 * i + 1))) hI
  refine ⟨e, M, J2, Nat.le_succ e, ?_, a4, a5⟩
  rw [bL_law_44, x1, cond_true, y1, a1, xcI_some, ekL_law_44_6, x1, cond_true, y1, a2, a3, xcI_some, ekL_law_44_13, if_pos rfl]
theorem lw_b45 (hI : Inv I J) (hi : 6 * i + 6 ≤ L) (hL : L ≤ 3072) : LG d L e i (I 1000000) (xlim (xcall xprog (d + 41)) mL_law 45 [.ref 1000000, .ref 0, .ref 209, .ref 232, .int (n32 (6 * i)), xD, xD] [] (xst e L I J)) := by
  have x1 : xin (n32 (6 * i) + 1) L = true := lx (j := 1) hi hL (by omega)
  have y1 : (n32 (6 * i) + 1).toNatClampNeg = 6 * i + 1 := ly (j := 1) hi hL (by omega)
  obtain ⟨x, K, J1, a1, a2, M, J2, a3, a4, a5⟩ := lw_stp (d := d + 1) (e := e) (L := L) (s_image (I 1000000 (6 * i + 1))) hI
  refine ⟨e, M, J2, Nat.le_succ e, ?_, a4, a5⟩
  rw [bL_law_45, x1, cond_true, y1, a1, xcI_some, ekL_law_45_6, x1, cond_true, y1, a2, a3, xcI_some, ekL_law_45_13, if_pos rfl]
theorem lw_b46 (hI : Inv I J) (hi : 6 * i + 6 ≤ L) (hL : L ≤ 3072) : LG d L e i (I 1000000) (xlim (xcall xprog (d + 41)) mL_law 46 [.ref 1000000, .ref 0, .ref 209, .ref 232, .int (n32 (6 * i)), xD, xD] [] (xst e L I J)) := by
  have x1 : xin (n32 (6 * i) + 1) L = true := lx (j := 1) hi hL (by omega)
  have y1 : (n32 (6 * i) + 1).toNatClampNeg = 6 * i + 1 := ly (j := 1) hi hL (by omega)
  obtain ⟨x, K, J1, a1, a2, M, J2, a3, a4, a5⟩ := lw_stp (d := d + 1) (e := e) (L := L) (s_restore (I 1000000 (6 * i + 1))) hI
  refine ⟨e, M, J2, Nat.le_succ e, ?_, a4, a5⟩
  rw [bL_law_46, x1, cond_true, y1, a1, xcI_some, ekL_law_46_6, x1, cond_true, y1, a2, a3, xcI_some, ekL_law_46_13, if_pos rfl]
theorem lw_b47 (hI : Inv I J) (hi : 6 * i + 6 ≤ L) (hL : L ≤ 3072) : LG d L e i (I 1000000) (xlim (xcall xprog (d + 41)) mL_law 47 [.ref 1000000, .ref 0, .ref 209, .ref 232, .int (n32 (6 * i)), xD, xD] [] (xst e L I J)) := by
  have x1 : xin (n32 (6 * i) + 1) L = true := lx (j := 1) hi hL (by omega)
  have y1 : (n32 (6 * i) + 1).toNatClampNeg = 6 * i + 1 := ly (j := 1) hi hL (by omega)
  obtain ⟨x, K, J1, a1, a2, M, J2, a3, a4, a5⟩ := lw_stp (d := d + 1) (e := e) (L := L) (s_count (I 1000000 (6 * i + 1))) hI
  refine ⟨e, M, J2, Nat.le_succ e, ?_, a4, a5⟩
  rw [bL_law_47, x1, cond_true, y1, a1, xcI_some, ekL_law_47_6, x1, cond_true, y1, a2, a3, xcI_some, ekL_law_47_13, if_pos rfl]
theorem lw_head (hI : Inv I J) (hi : 6 * i + 6 ≤ L) (hL : L ≤ 3072) : LG d L e i (I 1000000) (xlim (xcall xprog (d + 41)) mL_law 1 [.ref 1000000, .ref 0, .ref 209, .ref 232, .int (n32 (6 * i)), xD, xD] [] (xst e L I J)) := by
  have z : n32 (6 * i) ≤ Int32.ofNat L - 6 := by
    have e6 : Int32.ofNat L - 6 = n32 (L - 6) := n32_sub (b := 6) (by omega)
    rw [e6]
    exact (n32_le (by omega) (by omega)).mpr (by omega)
  rw [bL_law_1, if_pos z, xin_n32 (by omega) (show 6 * i < L by omega), cond_true]
  exact LG_if (lw_b2 hI hi hL) (LG_if (lw_b3 hI hi hL) (LG_if (lw_b4 hI hi hL) (LG_if (lw_b5 hI hi hL) (LG_if (lw_b6 hI hi hL) (LG_if (lw_b9 hI hi hL) (LG_if (lw_b10 hI hi hL) (LG_if (lw_b11 hI hi hL) (LG_if (lw_b12 hI hi hL) (LG_if (lw_b13 hI hi hL) (LG_if (lw_b14 hI hi hL) (LG_if (lw_b17 hI hi hL) (LG_if (lw_b18 hI hi hL) (LG_if (lw_b19 hI hi hL) (LG_if (lw_b20 hI hi hL) (LG_if (lw_b21 hI hi hL) (LG_if (lw_b22 hI hi hL) (LG_if (lw_b23 hI hi hL) (LG_if (lw_b24 hI hi hL) (LG_if (lw_b25 hI hi hL) (LG_if (lw_b26 hI hi hL) (LG_if (lw_b27 hI hi hL) (LG_if (lw_b28 hI hi hL) (LG_if (lw_b29 hI hi hL) (LG_if (lw_b30 hI hi hL) (LG_if (lw_b31 hI hi hL) (LG_if (lw_b34 hI hi hL) (LG_if (lw_b37 hI hi hL) (LG_if (lw_b38 hI hi hL) (LG_if (lw_b39 hI hi hL) (LG_if (lw_b40 hI hi hL) (LG_if (lw_b41 hI hi hL) (LG_if (lw_b42 hI hi hL) (LG_if (lw_b43 hI hi hL) (LG_if (lw_b44 hI hi hL) (LG_if (lw_b45 hI hi hL) (LG_if (lw_b46 hI hi hL) (LG_if (lw_b47 hI hi hL) ((⟨e, I, J, Nat.le_succ e, rfl, hI, rfl⟩)))))))))))))))))))))))))))))))))))))))
end LWB
