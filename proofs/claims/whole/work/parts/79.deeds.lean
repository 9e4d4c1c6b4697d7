/-! Deeds drawn by a seed. -/
def rnd (x : Int32) : Int32 := x * 1103515245 + 12345
theorem dv_ex : ∃ f : Int32 → Nat → Nat, ∀ x n, f x n = ((rnd x).toBitVec.toNat / 256) % n := ⟨fun x n => ((rnd x).toBitVec.toNat / 256) % n, fun _ _ => rfl⟩
/-- a number below n, drawn by a seed (chosen, so that the kernel does not reckon with it) -/
noncomputable def dv : Int32 → Nat → Nat := Classical.choose dv_ex
theorem dv_eq (x : Int32) (n : Nat) : dv x n = ((rnd x).toBitVec.toNat / 256) % n := Classical.choose_spec dv_ex x n
/-- one deed by its numbers: what, block, voter, target, and the seeds behind them -/
def deedG (S : TS) (w b v t : Nat) (x2 x3 x4 : Int32) : TS × Int32 × Bool :=
  if w = 0 then (if sB S < 20 then (sgrow S b, x2, true) else (S, x2, false))
  else if sV S = 0 then (S, x2, false)
  else if w < 3 then (if S (216 + v) = n32 b then (S, x3, false) else (slook S v b, x3, true))
  else if why S v b t = 0 then (svote S v b t, x4, true) else (S, x4, false)
/-- one deed: the state, the seed, whether it was done -/
noncomputable def deed (S : TS) (x : Int32) : TS × Int32 × Bool := deedG S (dv x 8) (dv (rnd x) (sB S)) (dv (rnd (rnd x)) (sV S)) (dv (rnd (rnd (rnd x))) (sB S)) (rnd (rnd x)) (rnd (rnd (rnd x))) (rnd (rnd (rnd (rnd x))))
/-- n deeds: the state, the seed, how many were done -/
noncomputable def deeds (S : TS) (x : Int32) : Nat → TS × Int32 × Nat
  | 0 => (S, x, 0)
  | n + 1 => ((deed (deeds S x n).1 (deeds S x n).2.1).1, (deed (deeds S x n).1 (deeds S x n).2.1).2.1, if (deed (deeds S x n).1 (deeds S x n).2.1).2.2 = true then (deeds S x n).2.2 + 1 else (deeds S x n).2.2)
section DD
variable {d e L : Nat} {S S' : TS} {N N' : Nat → Int64} {I K M : TI} {J J' : TJ} {a b s t v k i n r m o q : Nat} {x : Int32}
theorem ush8 (y : Int32) : (Int32.toUInt32 y >>> (Int32.toUInt32 8 &&& Int32.toUInt32 31)).toInt32 = n32 (y.toBitVec.toNat / 256) := by
  apply Int32.toBitVec_inj.mp
  show (Int32.toUInt32 y >>> (Int32.toUInt32 8 &&& Int32.toUInt32 31)).toBitVec = BitVec.ofNat 32 (y.toBitVec.toNat / 256)
  rw [UInt32.toBitVec_shiftRight, show (Int32.toUInt32 8 &&& Int32.toUInt32 31).toBitVec % 32 = BitVec.ofNat 32 8 by decide]
  show y.toBitVec >>> (BitVec.ofNat 32 8) = BitVec.ofNat 32 (y.toBitVec.toNat / 256)
  apply BitVec.eq_of_toNat_eq
  have hl := y.toBitVec.isLt
  rw [BitVec.ushiftRight_eq', BitVec.toNat_ushiftRight, BitVec.toNat_ofNat, BitVec.toNat_ofNat, Nat.shiftRight_eq_div_pow, Nat.mod_eq_of_lt (show 8 < 2 ^ 32 by decide), Nat.mod_eq_of_lt]
  exact Nat.lt_of_le_of_lt (Nat.div_le_self _ _) hl
theorem dv_lt (h : 0 < n) : dv x n < n := by rw [dv_eq]; exact Nat.mod_lt _ h
theorem dv_val (hn : n < 1000) : (Int32.toUInt32 (x * 1103515245 + 12345) >>> (Int32.toUInt32 8 &&& Int32.toUInt32 31)).toInt32 - (Int32.toUInt32 (x * 1103515245 + 12345) >>> (Int32.toUInt32 8 &&& Int32.toUInt32 31)).toInt32 / n32 n * n32 n = n32 (dv x n) := by
  rw [ush8, dv_eq]
  have hl := (x * 1103515245 + 12345).toBitVec.isLt
  exact n32_rem (Nat.lt_of_le_of_lt (Nat.div_le_div_right (Nat.le_of_lt hl)) (by decide)) (by omega)
theorem c_draw (h0 : 0 < n) (hn : n < 1000) (hx : I 78 0 = x) : xcall xprog (d + 1) 42 [.ref 78, .int (n32 n)] (xst e L I J) = some (some (.int (n32 (dv x n))), xst e L (xu I 78 0 (rnd x)) J) := by
  have h1 : ¬ n = 0 := by omega
  rw [aX3_draw, bX3_draw_0, hx, dv_val hn]
  simp (disch := omega) only [n32_ltE, n32_leE, n32_eqE, n32_eqm, m1_eqn, n32_ge0, n32_lt0, n32_nat, n32_succ, n32_add, xin_n32, xin_b1, xin_b2, cond_true, cond_false, if_true, if_false, xcI_some, xcV_some, xcJ_some, xcR_some, xu_ee, xu_rne, xu_kne, ite_self, not_true_eq_false, not_false_eq_true, ne_eq, true_and, and_true, false_and, and_false, m1_lt0, m1_eq0, eq_self, Bool.false_eq_true, reduceCtorEq, z_lt0, i1_eq0, i0_eq1, i1_eq1, xrZ0, xrZ1, xrZt, n32_eq0, n32_eq1, n32_gt0, n32_gt1, n32_lt1, n32_le1, n32_0le, tf0, tf1, xaI_of, h1, bX3_draw_2]
  rfl
theorem r_draw (h0 : 0 < n) (hn : n < 1000) (hx : I 209 44 = x) : xcall xprog (d + 1) 246 [.ref 209, .int (n32 n)] (xst e L I J) = some (some (.int (n32 (dv x n))), xst e L (xu I 209 44 (rnd x)) J) := by
  have h1 : ¬ n = 0 := by omega
  rw [aX12_draw, bX12_draw_0, hx, dv_val hn]
  simp (disch := omega) only [n32_ltE, n32_leE, n32_eqE, n32_eqm, m1_eqn, n32_ge0, n32_lt0, n32_nat, n32_succ, n32_add, xin_n32, xin_b1, xin_b2, cond_true, cond_false, if_true, if_false, xcI_some, xcV_some, xcJ_some, xcR_some, xu_ee, xu_rne, xu_kne, ite_self, not_true_eq_false, not_false_eq_true, ne_eq, true_and, and_true, false_and, and_false, m1_lt0, m1_eq0, eq_self, Bool.false_eq_true, reduceCtorEq, z_lt0, i1_eq0, i0_eq1, i1_eq1, xrZ0, xrZ1, xrZt, n32_eq0, n32_eq1, n32_gt0, n32_gt1, n32_lt1, n32_le1, n32_0le, tf0, tf1, xaI_of, h1]
  rfl
theorem deedG_pre {x2 x3 x4 : Int32} (hW : WS S) (hb : b < sB S) (hv : sV S ≠ 0 → v < sV S) (ht : t < sB S) : pre S (deedG S n b v t x2 x3 x4).1 ∧ WS (deedG S n b v t x2 x3 x4).1 ∧ ∀ k, 224 ≤ k → S k = (deedG S n b v t x2 x3 x4).1 k := by
  have hw := hW.1
  have h8 := wf_V8 hw
  have h20 := wf_B hw
  unfold deedG
  by_cases q : n = 0
  · rw [if_pos q]
    by_cases q1 : sB S < 20
    · rw [if_pos q1]
      exact ⟨pre_sg hw q1, WS_sg hW q1 hb, fun k hk => (sg_ne (by omega) (by omega) (by omega) (by omega)).symm⟩
    · rw [if_neg q1]
      exact ⟨pre_r, hW, fun _ _ => rfl⟩
  · rw [if_neg q]
    by_cases q1 : sV S = 0
    · rw [if_pos q1]
      exact ⟨pre_r, hW, fun _ _ => rfl⟩
    · rw [if_neg q1]
      have hvl := hv q1
      by_cases q2 : n < 3
      · rw [if_pos q2]
        by_cases q3 : S (216 + v) = n32 b
        · rw [if_pos q3]
          exact ⟨pre_r, hW, fun _ _ => rfl⟩
        · rw [if_neg q3]
          exact ⟨pre_sl hw hW.2.1.1, WS_sl hW hvl hb, fun k hk => (sl_ne (by omega)).symm⟩
      · rw [if_neg q2]
        by_cases q3 : why S v b t = 0
        · rw [if_pos q3]
          obtain ⟨z1, z2, z3, z4, z5⟩ := why_0 q3
          exact ⟨pre_sv hw z5, WS_sv hW z5 hvl hb ht z1 z2 z3, fun k hk => (sv_ne (by omega) (by omega) (by omega) (by omega)).symm⟩
        · rw [if_neg q3]
          exact ⟨pre_r, hW, fun _ _ => rfl⟩
theorem deed_pre (hW : WS S) (hB : 0 < sB S) : pre S (deed S x).1 ∧ WS (deed S x).1 ∧ ∀ k, 224 ≤ k → S k = (deed S x).1 k := by
  unfold deed
  exact deedG_pre hW (dv_lt hB) (fun h => dv_lt (by omega)) (dv_lt hB)
theorem deeds_pre (hW : WS S) (hB : 0 < sB S) : pre S (deeds S x n).1 ∧ WS (deeds S x n).1 ∧ ∀ k, 224 ≤ k → S k = (deeds S x n).1 k := by
  induction n with
  | zero => exact ⟨pre_r, hW, fun _ _ => rfl⟩
  | succ n ih =>
    obtain ⟨i1, i2, i3⟩ := ih
    have hB' : 0 < sB (deeds S x n).1 := by have := i1.2.2.2.1; omega
    obtain ⟨j1, j2, j3⟩ := deed_pre (x := (deeds S x n).2.1) i2 hB'
    exact ⟨pre_t i1 j1, j2, fun k hk => (i3 k hk).trans (j3 k hk)⟩
theorem deeds_le : (deeds S x n).2.2 ≤ n := by
  induction n with
  | zero => exact Nat.le_refl _
  | succ n ih =>
    have e : (deeds S x (n + 1)).2.2 = if (deed (deeds S x n).1 (deeds S x n).2.1).2.2 = true then (deeds S x n).2.2 + 1 else (deeds S x n).2.2 := rfl
    rw [e]
    split <;> omega
/-- class frame of deeds -/
def efr (K I : TI) : Prop := ∀ o k, ¬ (7 ≤ o ∧ o < 42) → (o ≠ 6 ∨ k ≠ 3) → o ≠ 78 → K o k = I o k
theorem CS_78 {y : Int32} (hC : CS S N I J) : CS S N (xu I 78 0 y) J := CS_o (fun o k z1 z2 => by rw [xu_rne (by omega)]) (by rw [xu_rne (by decide)]) hC
theorem efr_78 {y : Int32} : efr (xu I 78 0 y) I := fun o k _ _ z => by rw [xu_rne z]
theorem efr_t (h : efr M K) (h' : efr K I) : efr M I := fun o k z1 z2 z3 => (h o k z1 z2 z3).trans (h' o k z1 z2 z3)
theorem efr_a (h : afr M K) (h' : efr K I) : efr M I := fun o k z1 z2 z3 => (h o k z1 z2).trans (h' o k z1 z2 z3)
theorem jfr_t {A B C : TJ} (h : jfr A B) (h' : jfr B C) : jfr A C := fun o k z => (h o k z).trans (h' o k z)
theorem c_doDeed (hC : CS S N I J) (hN : NZ S N) (hB : 0 < sB S) (hx : I 78 0 = x) : RR (xcall xprog (d + 6) 41 [.ref 78, .ref 6] (xst e L I J)) (zI e L fun r K J' => jfr J' J ∧ CS (deed S x).1 N K J' ∧ K 78 0 = (deed S x).2.1 ∧ (r = 0 ↔ (deed S x).2.2 = true) ∧ efr K I) := by
  have hw := hC.1.1
  have h8 := wf_V8 hw
  have h20 := wf_B hw
  refine RR_eq ((aX3_doDeed _ e L I J).trans (bX3_doDeed_0 _ e L I J)) ?_
  have e1 : ∀ d, xcall xprog (d + 1) 42 [.ref 78, .int 8] (xst e L I J) = some (some (.int (n32 (dv x 8))), xst e L (xu I 78 0 (rnd x)) J) := fun d => c_draw (n := 8) (by omega) (by omega) hx
  rw [e1 (d + 4), xcI_some, ekX3_doDeed_0_2]
  generalize hI1 : xu I 78 0 (rnd x) = I1
  have x1 : I1 78 0 = rnd x := by rw [← hI1, xu_ee]
  have C1 : CS S N I1 J := by rw [← hI1]; exact CS_78 hC
  have F1 : efr I1 I := by rw [← hI1]; exact efr_78
  have e2 : ∀ d, xcall xprog (d + 1) 42 [.ref 78, .int (n32 (sB S))] (xst e L I1 J) = some (some (.int (n32 (dv (rnd x) (sB S)))), xst e L (xu I1 78 0 (rnd (rnd x))) J) := fun d => c_draw hB (by omega) x1
  rw [t7_B C1.2.1 hw, e2 (d + 4), xcI_some, ekX3_doDeed_0_8]
  generalize hI2 : xu I1 78 0 (rnd (rnd x)) = I2
  have x2 : I2 78 0 = rnd (rnd x) := by rw [← hI2, xu_ee]
  have C2 : CS S N I2 J := by rw [← hI2]; exact CS_78 C1
  have F2 : efr I2 I := by rw [← hI2]; exact efr_t efr_78 F1
  have hb := dv_lt (x := rnd x) hB
  have hd8 := dv_lt (x := x) (n := 8) (by omega)
  unfold deed deedG
  by_cases q : dv x 8 = 0
  · rw [if_pos q, q, if_pos (show n32 0 = (0 : Int32) from rfl)]
    refine RR_cI (c_tryGrow (d := d + 3) C2 hN hb) (fun r K J' ⟨j1, hK⟩ => ?_)
    rw [ekX3_doDeed_0_14]
    rcases hK with ⟨q1, r1, hK, fK⟩ | ⟨q1, r1, hK, j2⟩
    · rw [if_pos q1]
      subst r1
      exact RR_I ⟨j1, hK, by rw [fK 78 0 (by omega) (Or.inl (by decide)), x2], ⟨fun _ => rfl, fun _ => rfl⟩, efr_a fK F2⟩
    · have q2 : ¬ sB S < 20 := by omega
      rw [if_neg q2]
      subst r1 hK j2
      exact RR_I ⟨jfr_r, C2, x2, ⟨fun h => absurd h (by decide), fun h => by cases h⟩, F2⟩
  · have qz : ¬ n32 (dv x 8) = 0 := fun h => q ((n32_inj (b := 0) (by omega) (by omega)).mp h)
    rw [if_neg q, if_neg qz]
    refine RR_eq (bX3_doDeed_1 _ e L I2 J _ _) ?_
    rw [t7_V C2.2.1 hw]
    by_cases q1 : sV S = 0
    · rw [if_pos q1, q1, if_pos (show n32 0 = (0 : Int32) from rfl)]
      exact RR_I ⟨jfr_r, C2, x2, ⟨fun h => absurd h (by decide), fun h => by cases h⟩, F2⟩
    · have q1z : ¬ n32 (sV S) = 0 := fun h => q1 ((n32_inj (b := 0) (by omega) (by omega)).mp h)
      have hV : 0 < sV S := by omega
      rw [if_neg q1, if_neg q1z]
      refine RR_eq (bX3_doDeed_2 _ e L I2 J _ _) ?_
      have e3 : ∀ d, xcall xprog (d + 1) 42 [.ref 78, .int (n32 (sV S))] (xst e L I2 J) = some (some (.int (n32 (dv (rnd (rnd x)) (sV S)))), xst e L (xu I2 78 0 (rnd (rnd (rnd x)))) J) := fun d => c_draw hV (by omega) x2
      rw [t7_V C2.2.1 hw, e3 (d + 4), xcI_some, ekX3_doDeed_2_4]
      generalize hI3 : xu I2 78 0 (rnd (rnd (rnd x))) = I3
      have x3 : I3 78 0 = rnd (rnd (rnd x)) := by rw [← hI3, xu_ee]
      have C3 : CS S N I3 J := by rw [← hI3]; exact CS_78 C2
      have F3 : efr I3 I := by rw [← hI3]; exact efr_t efr_78 F2
      have hv := dv_lt (x := rnd (rnd x)) hV
      by_cases q2 : dv x 8 < 3
      · have q2z : n32 (dv x 8) ≤ 2 := (n32_le (b := 2) (by omega) (by omega)).mpr (by omega)
        rw [if_pos q2, if_pos q2z]
        refine RR_cI (c_tryLook (d := d + 4) C3 hv hb) (fun r K J' ⟨j1, hK⟩ => ?_)
        subst j1
        rw [ekX3_doDeed_2_12]
        rcases hK with ⟨q3, r1, hK, fK⟩ | ⟨q3, r1, hK⟩
        · rw [if_neg q3]
          subst r1
          exact RR_I ⟨jfr_r, hK, by rw [fK 78 0 (by omega) (Or.inl (by decide)), x3], ⟨fun _ => rfl, fun _ => rfl⟩, efr_a fK F3⟩
        · rw [if_pos q3]
          subst r1 hK
          exact RR_I ⟨jfr_r, C3, x3, ⟨fun h => absurd h (by decide), fun h => by cases h⟩, F3⟩
      · have q2z : ¬ n32 (dv x 8) ≤ 2 := fun h => q2 (by have := (n32_le (b := 2) (by omega) (by omega)).mp h; omega)
        rw [if_neg q2, if_neg q2z]
        refine RR_eq (bX3_doDeed_3 _ e L I3 J _ _) ?_
        have e4 : ∀ d, xcall xprog (d + 1) 42 [.ref 78, .int (n32 (sB S))] (xst e L I3 J) = some (some (.int (n32 (dv (rnd (rnd (rnd x))) (sB S)))), xst e L (xu I3 78 0 (rnd (rnd (rnd (rnd x))))) J) := fun d => c_draw hB (by omega) x3
        rw [t7_B C3.2.1 hw, e4 (d + 4), xcI_some, ekX3_doDeed_3_7]
        generalize hI4 : xu I3 78 0 (rnd (rnd (rnd (rnd x)))) = I4
        have x4 : I4 78 0 = rnd (rnd (rnd (rnd x))) := by rw [← hI4, xu_ee]
        have C4 : CS S N I4 J := by rw [← hI4]; exact CS_78 C3
        have F4 : efr I4 I := by rw [← hI4]; exact efr_t efr_78 F3
        have ht := dv_lt (x := rnd (rnd (rnd x))) hB
        refine RR_cI (c_tryVote (d := d + 1) C4 hv hb ht) (fun r K J' ⟨j1, r1, hK⟩ => ?_)
        subst j1 r1
        rw [ekX3_doDeed_3_8]
        have hwl := why_le (S := S) (v := dv (rnd (rnd x)) (sV S)) (s := dv (rnd x) (sB S)) (t := dv (rnd (rnd (rnd x))) (sB S))
        rcases hK with ⟨q3, hK, fK⟩ | ⟨q3, hK⟩
        · rw [if_pos q3, q3]
          exact RR_I ⟨jfr_r, hK, by rw [fK 78 0 (by omega) (Or.inl (by decide)), x4], ⟨fun _ => rfl, fun _ => rfl⟩, efr_a fK F4⟩
        · rw [if_neg q3]
          subst hK
          exact RR_I ⟨jfr_r, C4, x4, ⟨fun h => absurd ((n32_inj (b := 0) (by omega) (by omega)).mp h) q3, fun h => by cases h⟩, F4⟩
/-- reference frame of deeds -/
def yfr (K I : TI) : Prop := ∀ o k, o ≠ 211 → ¬ (217 ≤ o ∧ o < 222) → (o ≠ 209 ∨ ¬ ((26 ≤ k ∧ k ≤ 34) ∨ k = 44)) → K o k = I o k
theorem yfr_t (h : yfr M K) (h' : yfr K I) : yfr M I := fun o k z1 z2 z3 => (h o k z1 z2 z3).trans (h' o k z1 z2 z3)
theorem yfr_44 {y : Int32} : yfr (xu I 209 44 y) I := fun o k _ _ z => by
  by_cases q : o = 209
  · subst q
    rw [xu_kne (by omega)]
  · rw [xu_rne q]
theorem yfr_d (h : dfr K I) : yfr K I := fun o k z1 z2 z3 => h o k z1 (by omega)
theorem yfr_l (h : lfr K I) : yfr K I := fun o k z1 z2 z3 => h o k z2 (by omega)
theorem r_drawDeed (hC : RS S I) (hB : 0 < sB S) (hx : I 209 44 = x) : RR (xcall xprog (d + 9) 247 [.ref 209] (xst e L I J)) (zI e L fun r K J' => J' = J ∧ RS (deed S x).1 K ∧ K 209 44 = (deed S x).2.1 ∧ r = (if (deed S x).2.2 = true then 1 else 0) ∧ yfr K I) := by
  have hw := hC.1.1
  have h8 := wf_V8 hw
  have h20 := wf_B hw
  refine RR_eq ((aX12_drawDeed _ e L I J).trans (bX12_drawDeed_0 _ e L I J)) ?_
  have e1 : ∀ d, xcall xprog (d + 1) 246 [.ref 209, .int 8] (xst e L I J) = some (some (.int (n32 (dv x 8))), xst e L (xu I 209 44 (rnd x)) J) := fun d => r_draw (n := 8) (by omega) (by omega) hx
  rw [e1 (d + 7), xcI_some, ekX12_drawDeed_0_2]
  generalize hI1 : xu I 209 44 (rnd x) = I1
  have x1 : I1 209 44 = rnd x := by rw [← hI1, xu_ee]
  have C1 : RS S I1 := by rw [← hI1]; exact RS_k (Or.inr (by omega)) hC
  have F1 : yfr I1 I := by rw [← hI1]; exact yfr_44
  have e2 : ∀ d, xcall xprog (d + 1) 246 [.ref 209, .int (n32 (sB S))] (xst e L I1 J) = some (some (.int (n32 (dv (rnd x) (sB S)))), xst e L (xu I1 209 44 (rnd (rnd x))) J) := fun d => r_draw hB (by omega) x1
  rw [C1.2.1, wf_2 hw, e2 (d + 7), xcI_some, ekX12_drawDeed_0_9]
  generalize hI2 : xu I1 209 44 (rnd (rnd x)) = I2
  have x2 : I2 209 44 = rnd (rnd x) := by rw [← hI2, xu_ee]
  have C2 : RS S I2 := by rw [← hI2]; exact RS_k (Or.inr (by omega)) C1
  have F2 : yfr I2 I := by rw [← hI2]; exact yfr_t yfr_44 F1
  have hb := dv_lt (x := rnd x) hB
  have hd8 := dv_lt (x := x) (n := 8) (by omega)
  unfold deed deedG
  by_cases q : dv x 8 = 0
  · rw [if_pos q, q]
    refine RR_eq (if_pos (show n32 0 = (0 : Int32) from rfl)) ?_
    rw [C2.2.1, wf_2 hw]
    by_cases q1 : sB S < 20
    · have q1z : ¬ n32 (sB S) = 20 := fun h => absurd ((n32_inj (b := 20) (by omega) (by omega)).mp h) (by omega)
      rw [if_pos q1, if_neg q1z]
      refine RR_eq (bX12_drawDeed_1 _ e L I2 J _) ?_
      refine RR_cV (r_doesGrow (d := d + 7) C2 q1 hb) (fun K J' ⟨j1, hK, fK⟩ => ?_)
      subst j1
      rw [ekX12_drawDeed_1_2]
      exact RR_I ⟨rfl, hK, by rw [fK 209 44 (by decide) (Or.inr (by decide)), x2], rfl, yfr_t (yfr_d fK) F2⟩
    · have q1z : n32 (sB S) = 20 := by rw [show sB S = 20 by omega]; rfl
      rw [if_neg q1, if_pos q1z]
      exact RR_I ⟨rfl, C2, x2, rfl, F2⟩
  · have qz : ¬ n32 (dv x 8) = 0 := fun h => q ((n32_inj (b := 0) (by omega) (by omega)).mp h)
    rw [if_neg q, if_neg qz]
    refine RR_eq (bX12_drawDeed_2 _ e L I2 J _ _) ?_
    rw [C2.2.1, wf_1 hw]
    by_cases q1 : sV S = 0
    · rw [if_pos q1, q1]
      refine RR_eq (if_pos (show n32 0 = (0 : Int32) from rfl)) ?_
      exact RR_I ⟨rfl, C2, x2, rfl, F2⟩
    · have q1z : ¬ n32 (sV S) = 0 := fun h => q1 ((n32_inj (b := 0) (by omega) (by omega)).mp h)
      have hV : 0 < sV S := by omega
      rw [if_neg q1, if_neg q1z]
      refine RR_eq (bX12_drawDeed_3 _ e L I2 J _ _) ?_
      have e3 : ∀ d, xcall xprog (d + 1) 246 [.ref 209, .int (n32 (sV S))] (xst e L I2 J) = some (some (.int (n32 (dv (rnd (rnd x)) (sV S)))), xst e L (xu I2 209 44 (rnd (rnd (rnd x)))) J) := fun d => r_draw hV (by omega) x2
      rw [C2.2.1, wf_1 hw, e3 (d + 7), xcI_some, ekX12_drawDeed_3_5]
      generalize hI3 : xu I2 209 44 (rnd (rnd (rnd x))) = I3
      have x3 : I3 209 44 = rnd (rnd (rnd x)) := by rw [← hI3, xu_ee]
      have C3 : RS S I3 := by rw [← hI3]; exact RS_k (Or.inr (by omega)) C2
      have F3 : yfr I3 I := by rw [← hI3]; exact yfr_t yfr_44 F2
      have hv := dv_lt (x := rnd (rnd x)) hV
      by_cases q2 : dv x 8 < 3
      · have q2z : n32 (dv x 8) < 3 := (n32_lt (b := 3) (by omega) (by omega)).mpr q2
        rw [if_pos q2, if_pos q2z, C3.2.1]
        have ei : (216 : Int32) + n32 (dv (rnd (rnd x)) (sV S)) = n32 (216 + dv (rnd (rnd x)) (sV S)) := n32_add
        rw [ei, xin_n32 (by omega) (by omega), cond_true, n32_nat (by omega)]
        by_cases q3 : S (216 + dv (rnd (rnd x)) (sV S)) = n32 (dv (rnd x) (sB S))
        · rw [if_pos q3, if_pos q3]
          exact RR_I ⟨rfl, C3, x3, rfl, F3⟩
        · rw [if_neg q3, if_neg q3]
          refine RR_eq (bX12_drawDeed_4 _ e L I3 J _ _) ?_
          refine RR_cV (r_doesLook (d := d + 7) C3 hv hb) (fun K J' ⟨j1, hK, fK⟩ => ?_)
          subst j1
          rw [ekX12_drawDeed_4_3]
          exact RR_I ⟨rfl, hK, by rw [fK 209 44 (by decide) (Or.inr (by decide)), x3], rfl, yfr_t (yfr_d fK) F3⟩
      · have q2z : ¬ n32 (dv x 8) < 3 := fun h => q2 ((n32_lt (b := 3) (by omega) (by omega)).mp h)
        rw [if_neg q2, if_neg q2z]
        refine RR_eq (bX12_drawDeed_5 _ e L I3 J _ _) ?_
        have e4 : ∀ d, xcall xprog (d + 1) 246 [.ref 209, .int (n32 (sB S))] (xst e L I3 J) = some (some (.int (n32 (dv (rnd (rnd (rnd x))) (sB S)))), xst e L (xu I3 209 44 (rnd (rnd (rnd (rnd x))))) J) := fun d => r_draw hB (by omega) x3
        rw [C3.2.1, wf_2 hw, e4 (d + 7), xcI_some, ekX12_drawDeed_5_5]
        generalize hI4 : xu I3 209 44 (rnd (rnd (rnd (rnd x)))) = I4
        have x4 : I4 209 44 = rnd (rnd (rnd (rnd x))) := by rw [← hI4, xu_ee]
        have C4 : RS S I4 := by rw [← hI4]; exact RS_k (Or.inr (by omega)) C3
        have F4 : yfr I4 I := by rw [← hI4]; exact yfr_t yfr_44 F3
        have ht := dv_lt (x := rnd (rnd (rnd x))) hB
        refine RR_cI (r_whyVote (d := d) C4 (by omega) hb ht) (fun r K J' ⟨r1, j1, f1, hF, hK⟩ => ?_)
        subst j1 r1
        rw [ekX12_drawDeed_5_11]
        have hwl := why_le (S := S) (v := dv (rnd (rnd x)) (sV S)) (s := dv (rnd x) (sB S)) (t := dv (rnd (rnd (rnd x))) (sB S))
        have k44 : K 209 44 = rnd (rnd (rnd (rnd x))) := by rw [f1 209 44 (by omega) (Or.inr (by omega)), x4]
        by_cases q3 : why S (dv (rnd (rnd x)) (sV S)) (dv (rnd x) (sB S)) (dv (rnd (rnd (rnd x))) (sB S)) = 0
        · rw [if_pos q3, q3]
          refine RR_eq (if_pos (by decide)) ?_
          refine RR_eq (bX12_drawDeed_6 _ e L K J' _ _ _) ?_
          refine RR_cV (r_doesVote (d := d + 7) hK hv hb ht q3) (fun P J2 ⟨j1, hP, fP⟩ => ?_)
          subst j1
          rw [ekX12_drawDeed_6_4]
          exact RR_I ⟨rfl, hP, by rw [fP 209 44 (by decide) (Or.inr (by decide)), k44], rfl, yfr_t (yfr_d fP) (yfr_t (yfr_l f1) F4)⟩
        · have q3z : ¬ n32 (why S (dv (rnd (rnd x)) (sV S)) (dv (rnd x) (sB S)) (dv (rnd (rnd (rnd x))) (sB S))) ≤ 0 := by rw [n32_ge0 (by omega)]; exact q3
          rw [if_neg q3, if_neg q3z]
          exact RR_I ⟨rfl, hK, k44, rfl, yfr_t (yfr_l f1) F4⟩
end DD
