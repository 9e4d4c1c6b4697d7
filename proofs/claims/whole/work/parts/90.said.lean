/-! The reference's truth of a sentence, block by block. -/
def sfr (K I : TI) : Prop := ∀ o k, o ≠ 228 → ¬ (217 ≤ o ∧ o < 222) → (o ≠ 209 ∨ ¬ (26 ≤ k ∧ k ≤ 34)) → K o k = I o k
def tv (p : Bool) : Int32 := if p = true then 1 else 0
section SAW
variable {d e L : Nat} {S S' X Y : TS} {N N' : Nat → Int64} {I K M : TI} {J J' J2 : TJ} {a b c s t u v k i n r m o q w j : Nat}
theorem tv_0 {p : Bool} : (tv p = 0) = (p = false) := by cases p <;> decide
theorem tv_01 {p : Bool} : tv p = 0 ∨ tv p = 1 := by cases p <;> decide
theorem xaB_228 {f : Int32 → Option xOut} (h : a < 45) : xaB (xst e L I J) 228 (n32 a) f = f (I 228 a) := by
  show (bif xin (n32 a) 0 || xin (n32 a) 45 then f (I 228 (n32 a).toNatClampNeg) else none) = _
  rw [xin_n32 (by omega) h, Bool.or_true, cond_true, n32_nat (by omega)]
theorem xaI_211 {f : Int32 → Option xOut} (h : a < 360) : xaI (xst e L I J) 211 (n32 a) f = f (I 211 a) := by
  show (bif xin (n32 a) 360 then f (I 211 (n32 a).toNatClampNeg) else none) = _
  rw [xin_n32 (by omega) h, cond_true, n32_nat (by omega)]
theorem RS_228 {x : Int32} (h : RS S K) : RS S (xu K 228 a x) := RS_cq (by rw [xu_rne (by decide)]) (fun o k z1 z2 => by rw [xu_rne (by omega)]) (fun k z1 z2 => by rw [xu_rne (by decide)]) h
theorem Rf_228 {x : Int32} (h : Rf S K) : Rf S (xu K 228 a x) := Rf_c (fun o k z1 z2 => by rw [xu_rne (by omega)]) (fun k z1 z2 => by rw [xu_rne (by decide)]) h
theorem sfr_228 {x : Int32} (h : sfr K I) : sfr (xu K 228 a x) I := fun o k z1 z2 z3 => by rw [xu_rne z1, h o k z1 z2 z3]
theorem sfr_l (h : lfr M K) (h' : sfr K I) : sfr M I := fun o k z1 z2 z3 => by rw [h o k z2 z3, h' o k z1 z2 z3]
theorem r_isSaid (hC : RS S I) (hF : Rf S I) (hc40 : c ≤ 40) (e224 : S 224 = n32 c) (hd : dep S c = 1) (hok : ∀ i, i < c → okc S i) (hb : b < sB S) : RR (xcall xprog (d + 10) 264 [.ref 209, .int (n32 b)] (xst e L I J)) (zI e L fun x K J' => J' = J ∧ x = tv (ev S c 0 b) ∧ RS S K ∧ Rf S K ∧ sfr K I) := by
  refine RR_eq ((aX12_isSaid _ e L I J _).trans (bX12_isSaid_0 _ e L I J _)) ?_
  have main : ∀ m i, i + m = c → ∀ K, RS S K → Rf S K → sfr K I → (∀ j, j < dep S i → K 228 j = tv (ev S i j b)) → RR (xlim (xcall xprog (d + 9)) mX12_isSaid 1 [.ref 209, .int (n32 b), .int (n32 (dep S i)), .int (n32 i), xD] [] (xst e L K J)) (zI e L fun x K J' => J' = J ∧ x = tv (ev S c 0 b) ∧ RS S K ∧ Rf S K ∧ sfr K I) := by
    intro m
    induction m with
    | zero =>
      intro i hi K k1 k2 k3 k4
      have : i = c := by omega
      subst this
      refine RR_eq (bX12_isSaid_1 _ e L K J _ _ _) ?_
      rw [k1.2.1, e224, if_neg (fun h => absurd ((n32_lt (by omega) (by omega)).mp h) (Nat.lt_irrefl _)), bX12_isSaid_13, k4 0 (by omega), xrZ_01 tv_01]
      exact RR_I ⟨rfl, rfl, k1, k2, k3⟩
    | succ m ih =>
      intro i hi K k1 k2 k3 k4
      have ho := hok i (by omega)
      have hdl := dep_le (S := S) (i := i)
      have hS := k1.2.1
      have ei : (225 : Int32) + 3 * n32 i = n32 (225 + 3 * i) := by
        have h3 : (3 : Int32) * n32 i = n32 (3 * i) := n32_mul
        rw [h3]; exact n32_add
      have nxt : ∀ P, RS S P → Rf S P → sfr P I → (∀ j, j < dep S (i + 1) → P 228 j = tv (ev S (i + 1) j b)) → RR (xlim (xcall xprog (d + 9)) mX12_isSaid 12 [.ref 209, .int (n32 b), .int (n32 (dep S (i + 1))), .int (n32 i), xD] [] (xst e L P J)) (zI e L fun x K J' => J' = J ∧ x = tv (ev S c 0 b) ∧ RS S K ∧ Rf S K ∧ sfr K I) := fun P p1 p2 p3 p4 => by
        refine RR_eq (bX12_isSaid_12 _ e L P J _ _ _) ?_
        rw [n32_succ]
        exact ih (i + 1) (by omega) P p1 p2 p3 p4
      refine RR_eq (bX12_isSaid_1 _ e L K J _ _ _) ?_
      rw [hS, e224, if_pos ((n32_lt (by omega) (by omega)).mpr (show i < c by omega)), ei, xin_n32 (by omega) (show 225 + 3 * i < 360 by omega), cond_true, n32_nat (by omega), ho.1]
      have ok2 : ∀ {x : Int32}, x = 0 ∨ x = 1 → (decide (x = 0) || decide (x = 1)) = true := fun {x} h => by rcases h with h | h <;> rw [h] <;> decide
      rcases ho.2.1 with q | ⟨q, qd⟩ | ⟨q, qd⟩
      · -- a leaf
        have n20 : ¬ n32 (cw S i) = 20 := fun h => absurd ((n32_inj (b := 20) (by omega) (by omega)).mp h) (by omega)
        have n21 : ¬ n32 (cw S i) = 21 := fun h => absurd ((n32_inj (b := 21) (by omega) (by omega)).mp h) (by omega)
        have n22 : ¬ n32 (cw S i) = 22 := fun h => absurd ((n32_inj (b := 22) (by omega) (by omega)).mp h) (by omega)
        have e1 : n32 (225 + 3 * i) + 1 = n32 (226 + 3 * i) := by rw [n32_succ]; congr 1; omega
        have e2 : n32 (225 + 3 * i) + 2 = n32 (227 + 3 * i) := by
          have h2 : n32 (225 + 3 * i) + 2 = n32 (225 + 3 * i + 2) := n32_add
          rw [h2]; congr 1; omega
        rw [if_neg n20, bX12_isSaid_4, xin_n32 (by omega) (show 225 + 3 * i < 360 by omega), cond_true, cond_true, n32_nat (by omega), hS, ho.1, if_neg n21, if_neg n22, bX12_isSaid_11, e1, e2, xin_n32 (by omega) (show 225 + 3 * i < 360 by omega), xin_n32 (by omega) (show 226 + 3 * i < 360 by omega), xin_n32 (by omega) (show 227 + 3 * i < 360 by omega), cond_true, cond_true, cond_true, n32_nat (by omega), n32_nat (by omega), n32_nat (by omega), hS]
        refine RR_cI (r_isLeaf (d := d) k1 k2 (by omega) hb ho q) (fun x P J' ⟨j1, x1, f1, hP, hP2⟩ => ?_)
        subst j1 x1
        rw [ekX12_isSaid_11_21, xin_n32 (by omega) (show dep S i < 45 by omega), ok2 lfV_01, Bool.and_true, cond_true, n32_nat (by omega), n32_succ, ← dep_l q]
        refine nxt _ (RS_228 hP) (Rf_228 hP2) (sfr_228 (sfr_l f1 k3)) (fun j hj => ?_)
        rw [dep_l q] at hj
        rw [ev_l q]
        by_cases z : j = dep S i
        · subst z
          rw [xu_ee, if_pos rfl]
          rcases lfV_01 (S := S) (i := i) (b := b) with y | y <;> rw [y] <;> rfl
        · rw [xu_kne z, if_neg z, f1 228 j (by omega) (by omega), k4 j (by omega)]
      · -- not
        have e20 : n32 (cw S i) = 20 := by rw [q]; rfl
        rw [if_pos e20, sb1 qd, xin_n32 (n := 45) (by omega) (show dep S i - 1 < 45 by omega), Bool.or_true, cond_true, n32_nat (by omega), k4 _ (by omega)]
        have fin : ∀ x, x = tv (!ev S i (dep S i - 1) b) → RR (xlim (xcall xprog (d + 9)) mX12_isSaid 3 [.ref 209, .int (n32 b), .int (n32 (dep S i)), .int (n32 i), xD] [.int x, .int (n32 (dep S i - 1)), .ref 228] (xst e L K J)) (zI e L fun x K J' => J' = J ∧ x = tv (ev S c 0 b) ∧ RS S K ∧ Rf S K ∧ sfr K I) := fun x hx => by
          subst hx
          refine RR_eq (bX12_isSaid_3 _ e L K J _ _ _ _ _) ?_
          rw [xin_n32 (by omega) (show dep S i - 1 < 45 by omega), ok2 tv_01, Bool.and_true, cond_true, n32_nat (by omega)]
          have := nxt (xu K 228 (dep S i - 1) (tv (!ev S i (dep S i - 1) b))) (RS_228 k1) (Rf_228 k2) (sfr_228 k3) (fun j hj => by
            rw [dep_20 q] at hj
            rw [ev_20 q]
            by_cases z : j = dep S i - 1
            · subst z
              rw [xu_ee, if_pos (by omega)]
            · rw [xu_kne z, if_neg (by omega), k4 j hj])
          rw [dep_20 q] at this
          exact this
        cases hv : ev S i (dep S i - 1) b
        · rw [if_pos (by decide)]
          exact fin 1 (by rw [hv]; rfl)
        · rw [if_neg (by decide), bX12_isSaid_2]
          exact fin 0 (by rw [hv]; rfl)
      · -- and, or
        have ed : dep S (i + 1) = dep S i - 1 := dep_2x q
        have n20 : ¬ n32 (cw S i) = 20 := fun h => absurd ((n32_inj (b := 20) (by omega) (by omega)).mp h) (by omega)
        have fin : ∀ x, x = tv (ev S (i + 1) (dep S i - 2) b) → RR (xlim (xcall xprog (d + 9)) mX12_isSaid 10 [.ref 209, .int (n32 b), .int (n32 (dep S i - 1)), .int (n32 i), xD] [.int x, .int (n32 (dep S i - 2)), .ref 228] (xst e L K J)) (zI e L fun x K J' => J' = J ∧ x = tv (ev S c 0 b) ∧ RS S K ∧ Rf S K ∧ sfr K I) := fun x hx => by
          subst hx
          refine RR_eq (bX12_isSaid_10 _ e L K J _ _ _ _ _) ?_
          rw [xin_n32 (by omega) (show dep S i - 2 < 45 by omega), ok2 tv_01, Bool.and_true, cond_true, n32_nat (by omega), ← ed]
          refine nxt _ (RS_228 k1) (Rf_228 k2) (sfr_228 k3) (fun j hj => ?_)
          by_cases z : j = dep S i - 2
          · subst z
            rw [xu_ee]
          · rw [xu_kne z, k4 j (by omega)]
            rcases q with q | q
            · rw [ev_21 q, if_neg (by omega)]
            · rw [ev_22 q, if_neg (by omega)]
        have e2 : dep S i - 2 + 1 = dep S i - 1 := by omega
        rw [if_neg n20, bX12_isSaid_4, xin_n32 (by omega) (show 225 + 3 * i < 360 by omega), cond_true, cond_true, n32_nat (by omega), hS, ho.1]
        rcases q with q | q
        · have e21 : n32 (cw S i) = 21 := by rw [q]; rfl
          rw [if_pos e21, bX12_isSaid_5, xaI_211 (by omega), hS, ho.1, if_pos e21, m1 (by omega), sb1 (by omega), show dep S i - 1 - 1 = dep S i - 2 by omega, xaB_228 (by omega), k4 _ (by omega)]
          cases hv : ev S i (dep S i - 2) b
          · rw [if_pos (by decide), bX12_isSaid_6]
            exact fin 0 (by rw [ev_21 q, if_pos (by omega), hv]; rfl)
          · rw [if_neg (by decide), xaB_228 (by omega), k4 _ (by omega)]
            cases hw : ev S i (dep S i - 1) b
            · rw [if_pos (by decide), bX12_isSaid_6]
              exact fin 0 (by rw [ev_21 q, if_pos (by omega), hv, e2, hw]; rfl)
            · rw [if_neg (by decide)]
              exact fin 1 (by rw [ev_21 q, if_pos (by omega), hv, e2, hw]; rfl)
        · have e21 : ¬ n32 (cw S i) = 21 := fun h => absurd ((n32_inj (b := 21) (by omega) (by omega)).mp h) (by omega)
          have e22 : n32 (cw S i) = 22 := by rw [q]; rfl
          rw [if_neg e21, if_pos e22, bX12_isSaid_5, xaI_211 (by omega), hS, ho.1, if_neg e21, m1 (by omega), sb1 (by omega), show dep S i - 1 - 1 = dep S i - 2 by omega, bX12_isSaid_7, sb1 (by omega), show dep S i - 1 - 1 = dep S i - 2 by omega, xin_n32 (n := 45) (by omega) (show dep S i - 2 < 45 by omega), Bool.or_true, cond_true, n32_nat (by omega), k4 _ (by omega)]
          cases hv : ev S i (dep S i - 2) b
          · rw [if_pos (by decide), xin_n32 (n := 45) (by omega) (show dep S i - 1 < 45 by omega), Bool.or_true, cond_true, n32_nat (by omega), k4 _ (by omega)]
            cases hw : ev S i (dep S i - 1) b
            · rw [if_pos (by decide), bX12_isSaid_9]
              exact fin 0 (by rw [ev_22 q, if_pos (by omega), hv, e2, hw]; rfl)
            · rw [if_neg (by decide), bX12_isSaid_8]
              exact fin 1 (by rw [ev_22 q, if_pos (by omega), hv, e2, hw]; rfl)
          · rw [if_neg (by decide), bX12_isSaid_8]
            exact fin 1 (by rw [ev_22 q, if_pos (by omega), hv]; rfl)
  exact main c 0 (by omega) I hC hF (fun _ _ _ _ _ => rfl) (fun j hj => absurd hj (Nat.not_lt_zero j))
end SAW
