/-! The call odds. -/
/-- block b lies on the way -/
def chP (S : TS) (b : Nat) : Prop := ∃ n, WY S n ∧ exN (fun k => decide (wy S k = n32 b)) n = true
noncomputable def chN (S : TS) (b : Nat) : Nat := @ite Nat (chP S b) (Classical.propDecidable _) 1 0
/-- how many of n seeds choose b -/
noncomputable def odN (S : TS) (b : Nat) (y : Int32) : Nat → Nat
  | 0 => 0
  | i + 1 => odN S b y i + chN (deeds S (y + n32 i) 12).1 b
section OD
variable {d e L : Nat} {S S' : TS} {N N' : Nat → Int64} {I K M : TI} {J J' : TJ} {a b s t v k i n r m o q : Nat} {x y : Int32}
theorem chN_of (h : WY S n) : n32 (chN S b) = if exN (fun k => decide (wy S k = n32 b)) n = true then 1 else 0 := by
  unfold chN
  by_cases q : exN (fun k => decide (wy S k = n32 b)) n = true
  · rw [if_pos q, if_pos ⟨n, h, q⟩]; rfl
  · rw [if_neg q, if_neg (fun ⟨m, h1, h2⟩ => q (by rw [WY_u h h1]; exact h2))]; rfl
theorem chN_le : chN S b ≤ 1 := by
  unfold chN
  split <;> omega
theorem odN_s : odN S b y (n + 1) = odN S b y n + chN (deeds S (y + n32 n) 12).1 b := rfl
theorem r_isChosen (hC : RS S I) (hb : b < 20) : RR (xcall xprog (d + 8) 249 [.ref 209, .int (n32 b)] (xst e L I J)) (zI e L fun x K J' => J' = J ∧ x = n32 (chN S b) ∧ lfr K I ∧ RS S K ∧ Rf S K) := by
  refine RR_eq ((aX12_isChosen _ e L I J _).trans (bX12_isChosen_0 _ e L I J _)) ?_
  refine RR_cV (r_lays (d := d) hC) (fun K J' ⟨j1, f1, hF, hC2⟩ => ?_)
  subst j1
  rw [ekX12_isChosen_0_1]
  obtain ⟨n, h1, h2, h3⟩ := hF.2.2.2.2.2.2.2.2.2.2
  have h20 := h1.1
  have hl := xfor (fun i (_ : Unit) => xlim (xcall xprog (d + 7)) mX12_isChosen 1 [.ref 209, .int (n32 b), .int (if exN (fun k => decide (wy S k = n32 b)) i = true then 1 else 0), .int (n32 i)] [] (xst e L K J')) (fun _ _ => True) (n := n) (fun i _ hi _ => by
    refine ⟨(), ?_, trivial⟩
    refine (bX12_isChosen_1 _ e L K J' _ _ _).trans ?_
    rw [h2, if_pos ((n32_lt (by omega) (by omega)).mpr hi), exN_s]
    by_cases q : exN (fun k => decide (wy S k = n32 b)) i = true
    · rw [if_pos q, q, Bool.true_or, if_pos rfl, if_neg (by decide : ¬ (1 : Int32) = 0), bX12_isChosen_2, bX12_isChosen_4, n32_succ]
    · have qf : exN (fun k => decide (wy S k = n32 b)) i = false := by rcases h : exN (fun k => decide (wy S k = n32 b)) i with _ | _ <;> simp_all
      rw [if_neg q, if_pos rfl, xin_n32 (by omega) (by omega), cond_true, n32_nat (by omega), h3 i hi, qf, Bool.false_or]
      by_cases q2 : wy S i = n32 b
      · rw [if_pos q2, if_pos (decide_eq_true q2), bX12_isChosen_2, bX12_isChosen_4, n32_succ]
      · rw [if_neg q2, if_neg (fun h => q2 (of_decide_eq_true h)), bX12_isChosen_3, bX12_isChosen_4, n32_succ]) () trivial
  obtain ⟨_, hl, _⟩ := hl
  refine RR_eq (hl.trans (bX12_isChosen_1 _ e L K J' _ _ _)) ?_
  rw [h2, if_neg (fun h => absurd ((n32_lt (by omega) (by omega)).mp h) (Nat.lt_irrefl n)), bX12_isChosen_5, ← chN_of h1]
  have hx : xrZ (n32 (chN S b)) (xst e L K J') = some (some (.int (n32 (chN S b))), xst e L K J') := by
    have := chN_le (S := S) (b := b)
    have : chN S b = 0 ∨ chN S b = 1 := by omega
    rcases this with q | q <;> rw [q] <;> rfl
  refine RR_eq hx (RR_I ⟨rfl, rfl, f1, hC2, hF⟩)
theorem c_odds (hC : CS S N I J) (hN : NZ S N) (hb : b < sB S) (h1 : 1 ≤ n) (hn : n ≤ 20) : RR (xcall xprog (d + 10) 142 [.ref 0, .int (n32 b), .int (n32 n), .int y] (xst e L I J)) (zI e L fun r K J' => r = n32 (odN S b y n) ∧ CS S N K J' ∧ jfr J' J ∧ ∀ o k, ¬ (6 ≤ o ∧ o < 42) → ¬ (47 ≤ o ∧ o < 71) → o ≠ 78 → o ≠ 208 → K o k = I o k) := by
  have hw := hC.1.1
  have h20 := wf_B hw
  have h8 := wf_V8 hw
  have z1 : ¬ n32 n < 1 := fun h => absurd ((n32_lt (b := 1) (by omega) (by omega)).mp h) (by omega)
  have z2 : n32 n ≤ 20 := (n32_le (b := 20) (by omega) (by omega)).mpr hn
  refine RR_eq ((aX11_odds _ e L I J _ _ _).trans (bX11_odds_0 _ e L I J _ _ _)) ?_
  simp (disch := omega) only [n32_ltE, n32_leE, n32_eqE, n32_eqm, m1_eqn, n32_ge0, n32_lt0, n32_nat, n32_succ, n32_add, xin_n32, xin_b1, xin_b2, cond_true, cond_false, if_true, if_false, xcI_some, xcV_some, xcJ_some, xcR_some, xu_ee, xu_rne, xu_kne, ite_self, not_true_eq_false, not_false_eq_true, ne_eq, true_and, and_true, false_and, and_false, m1_lt0, m1_eq0, eq_self, Bool.false_eq_true, reduceCtorEq, z_lt0, i1_eq0, i0_eq1, i1_eq1, xrZ0, xrZ1, xrZt, n32_eq0, n32_eq1, n32_gt0, n32_gt1, n32_lt1, n32_le1, n32_0le, tf0, tf1, xaI_of, c_hasBlock_y hC.2.1 hw hb, ekX11_odds_0_3, z1, z2]
  refine RR_eq (bX11_odds_2 _ e L I J _ _ _) ?_
  rw [c_mark (d := d + 8), xcV_some, ekX11_odds_2_4]
  have main : ∀ m i, i + m = n → ∀ K J', CS S N K J' → MK K S 208 → jfr J' J → (∀ o k, ¬ (6 ≤ o ∧ o < 42) → ¬ (47 ≤ o ∧ o < 71) → o ≠ 78 → o ≠ 208 → K o k = I o k) → RR (xlim (xcall xprog (d + 9)) mX11_odds 3 [.ref 0, .int (n32 b), .int (n32 n), .int y, .int (n32 (odN S b y i)), .int (n32 i)] [] (xst e L K J')) (zI e L fun r K J' => r = n32 (odN S b y n) ∧ CS S N K J' ∧ jfr J' J ∧ ∀ o k, ¬ (6 ≤ o ∧ o < 42) → ¬ (47 ≤ o ∧ o < 71) → o ≠ 78 → o ≠ 208 → K o k = I o k) := by
    intro m
    induction m with
    | zero =>
      intro i hi K J' k1 k2 k3 k4
      have : i = n := by omega
      subst this
      refine RR_eq (bX11_odds_3 _ e L K J' _ _ _ _ _) ?_
      rw [if_neg (fun h => absurd ((n32_lt (by omega) (by omega)).mp h) (Nat.lt_irrefl i)), bX11_odds_4]
      exact RR_I ⟨rfl, k1, k3, k4⟩
    | succ m ih =>
      intro i hi K J' k1 k2 k3 k4
      obtain ⟨p1, p2, p3⟩ := deeds_pre (x := y + n32 i) (n := 12) hC.1 (show 0 < sB S by omega)
      refine RR_eq (bX11_odds_3 _ e L K J' _ _ _ _ _) ?_
      rw [if_pos ((n32_lt (by omega) (by omega)).mpr (show i < n by omega))]
      refine RR_cI (c_doDeeds (d := d + 2) (n := 12) (y := y + n32 i) k1 hN (by omega) (by omega)) (fun r P J2 ⟨_, g2, g3, g4⟩ => ?_)
      rw [ekX11_odds_3_11]
      refine RR_cV (c_fresh (d := d + 3) g2) (fun Q J3 ⟨j3, f3, hF, hQ⟩ => ?_)
      subst j3
      obtain ⟨w, w1, w2, w3, w4⟩ := hF.2.2.2.2.2.2.2.2.2
      rw [ekX11_odds_3_15, c_rewind_208 (d := d + 8), xcV_some, ekX11_odds_3_30, bt_test _ (by omega), w4 b (by omega), n32_succ]
      have ew : (if exN (fun k => decide (wy (deeds S (y + n32 i) 12).1 k = n32 b)) w = true then (1 : Int32) else 0) = n32 (chN (deeds S (y + n32 i) 12).1 b) := (chN_of w1).symm
      rw [ew, n32_add, ← odN_s]
      have m208 : MK Q S 208 := by
        refine ⟨?_, ?_, fun u hu => ?_⟩
        · rw [f3 208 _ (by omega) (Or.inl (by decide)), g3 208 _ (by omega) (Or.inl (by decide)) (by decide)]; exact k2.1
        · rw [f3 208 _ (by omega) (Or.inl (by decide)), g3 208 _ (by omega) (Or.inl (by decide)) (by decide)]; exact k2.2.1
        · rw [f3 208 _ (by omega) (Or.inl (by decide)), g3 208 _ (by omega) (Or.inl (by decide)) (by decide)]; exact k2.2.2 u hu
      obtain ⟨c1, c2⟩ := rwd_CS hQ hC.1 p1 m208 (by omega)
      refine ih (i + 1) (by omega) _ _ c1 ?_ (jfr_t g4 k3) (fun o k z1 z2 z3 z4 => ?_)
      · refine ⟨?_, ?_, fun u hu => ?_⟩
        · rw [c2 208 _ (by omega) (Or.inl (by decide))]; exact m208.1
        · rw [c2 208 _ (by omega) (Or.inl (by decide))]; exact m208.2.1
        · rw [c2 208 _ (by omega) (Or.inl (by decide))]; exact m208.2.2 u hu
      · rw [c2 o k (by omega) (Or.inl (by omega)), f3 o k (by omega) (Or.inl (by omega)), g3 o k (by omega) (Or.inl (by omega)) z3, k4 o k z1 z2 z3 z4]
  exact main n 0 (by omega) _ J (CS_mrk hC) (mrk_MK hC) jfr_r (fun o k z1 z2 z3 z4 => by rw [mrk_ne z4])
def ofr (K I : TI) : Prop := ∀ o k, o ≠ 211 → o ≠ 224 → ¬ (217 ≤ o ∧ o < 222) → (o ≠ 209 ∨ ¬ (k = 0 ∨ (26 ≤ k ∧ k ≤ 34) ∨ k = 44)) → K o k = I o k
theorem r_odds (hC : RS S I) (hb : b < sB S) (h1 : 1 ≤ n) (hn : n ≤ 20) : RR (xcall xprog (d + 11) 250 [.ref 209, .int (n32 b), .int (n32 n), .int y] (xst e L I J)) (zI e L fun r K J' => J' = J ∧ r = n32 (odN S b y n) ∧ RS S K ∧ ofr K I) := by
  have hw := hC.1.1
  have h20 := wf_B hw
  have hB : 0 < sB S := by omega
  have z1 : ¬ n32 n < 1 := fun h => absurd ((n32_lt (b := 1) (by omega) (by omega)).mp h) (by omega)
  have z2 : n32 n ≤ 20 := (n32_le (b := 20) (by omega) (by omega)).mpr hn
  refine RR_eq ((aX12_odds _ e L I J _ _ _).trans (bX12_odds_0 _ e L I J _ _ _)) ?_
  have h0 : ∀ d K, xcall xprog (d + 1) 161 [.int (n32 n), .int 1, .int 20] (xst e L K J) = some (some (.int 1), xst e L K J) := fun d K => by rw [sX12_isIn, if_neg z1, if_pos z2]
  have hC0 := RS_0 (x := 0) hC
  simp (disch := omega) only [n32_ltE, n32_leE, n32_eqE, n32_eqm, m1_eqn, n32_ge0, n32_lt0, n32_nat, n32_succ, n32_add, xin_n32, xin_b1, xin_b2, cond_true, cond_false, if_true, if_false, xcI_some, xcV_some, xcJ_some, xcR_some, xu_ee, xu_rne, xu_kne, ite_self, not_true_eq_false, not_false_eq_true, ne_eq, true_and, and_true, false_and, and_false, m1_lt0, m1_eq0, eq_self, Bool.false_eq_true, reduceCtorEq, z_lt0, i1_eq0, i0_eq1, i1_eq1, xrZ0, xrZ1, xrZt, n32_eq0, n32_eq1, n32_gt0, n32_gt1, n32_lt1, n32_le1, n32_0le, tf0, tf1, xaI_of, r_isBlock_y (S0 (V := 0) hC.2.1) hw hb, ekX12_odds_0_5]
  rw [h0 (d + 9), xcI_some, ekX12_odds_0_10, if_neg (by decide : ¬ (1 : Int32) = 0), bX12_odds_2]
  refine RR_cV (r_copies_224 (d := d + 9)) (fun K J' ⟨j1, f1, f2⟩ => ?_)
  subst j1
  rw [ekX12_odds_2_3]
  have hK : RS S K := ⟨hC0.1, by rw [f1 211 (by decide)]; exact hC0.2.1, fun q => Rf_c (fun o k _ _ => by rw [f1 o (by omega)]) (fun k _ _ => by rw [f1 209 (by decide)]) (hC0.2.2 (by rw [← f1 209 (by decide)]; exact q))⟩
  have e224 : ∀ i, i < 222 → K 224 i = S (2 + i) := fun i hi => by rw [f2 i hi, hC0.2.1]
  have fK : ofr K I := fun o k z3 z4 z5 z6 => by
    rw [f1 o z4]
    by_cases z : o = 209
    · subst z
      rw [xu_kne (by omega)]
    · rw [xu_rne z]
  have inner : ∀ (Z : xOut → Prop) (c w : Int32) (g : Int32) (P : TI), (∀ M', RS (deeds S g 12).1 M' → yfr M' P → RR (xlim (xcall xprog (d + 10)) mX12_odds 5 [.ref 209, .int (n32 b), .int (n32 n), .int y, .int c, .int w, xD] [] (xst e L M' J')) Z) → ∀ m i, i + m = 12 → ∀ M, RS (deeds S g i).1 M → M 209 44 = (deeds S g i).2.1 → yfr M P → RR (xlim (xcall xprog (d + 10)) mX12_odds 4 [.ref 209, .int (n32 b), .int (n32 n), .int y, .int c, .int w, .int (n32 i)] [] (xst e L M J')) Z := by
    intro Z c w g P hZ m
    induction m with
    | zero =>
      intro i hi M k1 k2 k3
      have : i = 12 := by omega
      subst this
      refine RR_eq (bX12_odds_4 _ e L M J' _ _ _ _ _ _) ?_
      refine RR_eq (if_neg (by decide)) ?_
      exact hZ M k1 k3
    | succ m ih =>
      intro i hi M k1 k2 k3
      obtain ⟨p1, p2, p3⟩ := deeds_pre (x := g) (n := i) hC.1 hB
      have hB' : 0 < sB (deeds S g i).1 := by have := p1.2.2.2.1; omega
      refine RR_eq (bX12_odds_4 _ e L M J' _ _ _ _ _ _) ?_
      refine RR_eq (if_pos ((n32_lt (b := 12) (by omega) (by omega)).mpr (by omega))) ?_
      refine RR_cI (r_drawDeed (d := d + 1) k1 hB' k2) (fun r R J2 ⟨g1, g2, g3, g4, g5⟩ => ?_)
      subst g1
      rw [ekX12_odds_4_4, n32_succ]
      exact ih (i + 1) (by omega) R (by rw [deeds_a]; exact g2) (by rw [deeds_b]; exact g3) (yfr_t g5 k3)
  have main : ∀ m i, i + m = n → ∀ M, RS S M → (∀ i, i < 222 → M 224 i = S (2 + i)) → ofr M I → RR (xlim (xcall xprog (d + 10)) mX12_odds 3 [.ref 209, .int (n32 b), .int (n32 n), .int y, .int (n32 (odN S b y i)), .int (n32 i), xD] [] (xst e L M J')) (zI e L fun r K J'' => J'' = J' ∧ r = n32 (odN S b y n) ∧ RS S K ∧ ofr K I) := by
    intro m
    induction m with
    | zero =>
      intro i hi M k1 k2 k3
      have : i = n := by omega
      subst this
      refine RR_eq (bX12_odds_3 _ e L M J' _ _ _ _ _) ?_
      rw [if_neg (fun h => absurd ((n32_lt (by omega) (by omega)).mp h) (Nat.lt_irrefl i)), bX12_odds_8]
      exact RR_I ⟨rfl, rfl, k1, k3⟩
    | succ m ih =>
      intro i hi M k1 k2 k3
      obtain ⟨p1, p2, p3⟩ := deeds_pre (x := y + n32 i) (n := 12) hC.1 hB
      refine RR_eq (bX12_odds_3 _ e L M J' _ _ _ _ _) ?_
      rw [if_pos ((n32_lt (by omega) (by omega)).mpr (show i < n by omega))]
      refine inner _ _ _ (y + n32 i) (xu M 209 44 (y + n32 i)) (fun P g1 g2 => ?_) 12 0 (by omega) _ (RS_k (Or.inr (by omega)) k1) xu_ee (fun _ _ _ _ _ => rfl)
      refine RR_eq (bX12_odds_5 _ e L P J' _ _ _ _ _) ?_
      refine RR_cI (r_isChosen (d := d + 2) g1 (by omega)) (fun r Q J2 ⟨j2, r2, g3, g4, _⟩ => ?_)
      subst j2 r2
      rw [ekX12_odds_5_3]
      have nx : RR (xlim (xcall xprog (d + 10)) mX12_odds 7 [.ref 209, .int (n32 b), .int (n32 n), .int y, xD, .int (n32 i), xD] [.int (n32 (chN (deeds S (y + n32 i) 12).1 b)), .int (n32 (odN S b y i))] (xst e L Q J2)) (zI e L fun r K J'' => J'' = J2 ∧ r = n32 (odN S b y n) ∧ RS S K ∧ ofr K I) := by
        refine RR_eq (bX12_odds_7 _ e L Q J2 _ _ _ _ _ _) ?_
        rw [n32_add, ← odN_s]
        refine RR_cV (r_brings_224 (d := d + 9)) (fun R J3 ⟨j3, b1, b2, b3, b4⟩ => ?_)
        subst j3
        rw [ekX12_odds_7_6, n32_succ]
        have m224 : ∀ k, Q 224 k = M 224 k := fun k => by rw [g3 224 k (by omega) (by omega), g2 224 k (by omega) (by omega) (by omega), xu_rne (by decide)]
        have e211 : R 211 = S := funext fun k => by
          by_cases z : k < 2 ∨ 224 ≤ k
          · rw [b4 k z, g4.2.1]
            rcases z with z | z
            · have : k = 0 ∨ k = 1 := by omega
              rcases this with rfl | rfl
              · exact p1.1.symm
              · exact p1.2.1.symm
            · exact (p3 k z).symm
          · have := b3 (k - 2) (by omega)
            rw [show 2 + (k - 2) = k by omega] at this
            rw [this, m224, k2 (k - 2) (by omega), show 2 + (k - 2) = k by omega]
        refine ih (i + 1) (by omega) R (RS_new hC.1 e211 b2) (fun j hj => by rw [b1 224 j (by omega) (by omega), m224, k2 j hj]) (fun o k z3 z4 z5 z6 => ?_)
        rw [b1 o k z3 (by omega), g3 o k (by omega) (by omega), g2 o k z3 (by omega) (by omega)]
        by_cases z : o = 209
        · subst z
          rw [xu_kne (by omega), k3 209 k z3 z4 z5 z6]
        · rw [xu_rne z, k3 o k z3 z4 z5 z6]
      have := chN_le (S := (deeds S (y + n32 i) 12).1) (b := b)
      have : chN (deeds S (y + n32 i) 12).1 b = 0 ∨ chN (deeds S (y + n32 i) 12).1 b = 1 := by omega
      rcases this with q | q
      · rw [q] at nx ⊢
        rw [if_pos (show n32 0 = (0 : Int32) from rfl), bX12_odds_6]
        exact nx
      · rw [q] at nx ⊢
        rw [if_neg (show ¬ n32 1 = (0 : Int32) by decide)]
        exact nx
  exact main n 0 (by omega) K hK e224 fK
theorem s_odds (x z y : Int32) : stp 142 250 [.int x, .int z, .int y] := by
  intro d e L I J h
  obtain ⟨hC, hR, hNZ, ⟨m, o, hH⟩, _⟩ := id h
  have hw := hC.1.1
  have h20 := wf_B hw
  have h8 := wf_V8 hw
  have hS := hR.2.1
  have S0' := S0 (V := 0) hS
  generalize hSS : I 211 = S at *
  rcases inr_or x (sB S) (by omega) with ⟨b, hb, rfl⟩ | hx
  rotate_left
  · refine RR_eq ((aX11_odds _ e L I J _ _ _).trans (bX11_odds_0 _ e L I J _ _ _)) ?_
    simp (disch := omega) only [n32_ltE, n32_leE, n32_eqE, n32_eqm, m1_eqn, n32_ge0, n32_lt0, n32_nat, n32_succ, n32_add, xin_n32, xin_b1, xin_b2, cond_true, cond_false, if_true, if_false, xcI_some, xcV_some, xcJ_some, xcR_some, xu_ee, xu_rne, xu_kne, ite_self, not_true_eq_false, not_false_eq_true, ne_eq, true_and, and_true, false_and, and_false, m1_lt0, m1_eq0, eq_self, Bool.false_eq_true, reduceCtorEq, z_lt0, i1_eq0, i0_eq1, i1_eq1, xrZ0, xrZ1, xrZt, n32_eq0, n32_eq1, n32_gt0, n32_gt1, n32_lt1, n32_le1, n32_0le, tf0, tf1, xaI_of, q20a, q20b, q20m, q20l, q20g, q20r, q20s, q20e, c_hasBlock_n hC.2.1 hw hx, ekX11_odds_0_3, bX11_odds_0, bX11_odds_1, ekX11_odds_2_4, bX11_odds_2, ekX11_odds_3_30, ekX11_odds_3_15, ekX11_odds_3_11, bX11_odds_3, bX11_odds_4]
    refine RR_I ?_
    refine RR_eq ((aX12_odds _ e L I J _ _ _).trans (bX12_odds_0 _ e L I J _ _ _)) ?_
    simp (disch := omega) only [n32_ltE, n32_leE, n32_eqE, n32_eqm, m1_eqn, n32_ge0, n32_lt0, n32_nat, n32_succ, n32_add, xin_n32, xin_b1, xin_b2, cond_true, cond_false, if_true, if_false, xcI_some, xcV_some, xcJ_some, xcR_some, xu_ee, xu_rne, xu_kne, ite_self, not_true_eq_false, not_false_eq_true, ne_eq, true_and, and_true, false_and, and_false, m1_lt0, m1_eq0, eq_self, Bool.false_eq_true, reduceCtorEq, z_lt0, i1_eq0, i0_eq1, i1_eq1, xrZ0, xrZ1, xrZt, n32_eq0, n32_eq1, n32_gt0, n32_gt1, n32_lt1, n32_le1, n32_0le, tf0, tf1, xaI_of, q12a, q12b, q12m, q12l, q12g, q12r, q12s, q12e, r_isBlock_n S0' hw hx, ekX12_odds_0_10, ekX12_odds_0_5, bX12_odds_0, bX12_odds_1, ekX12_odds_2_3, bX12_odds_2, bX12_odds_3, ekX12_odds_4_4, bX12_odds_4, ekX12_odds_5_3, bX12_odds_5, bX12_odds_6, ekX12_odds_7_6, bX12_odds_7, bX12_odds_8]
    exact RR_I ⟨rfl, Inv_0 h⟩
  rcases x_1_60 (x := z) (n := 20) (by omega) with hz | ⟨n, n1, n20, rfl⟩
  · have a1 : xcall xprog (d + 40) 142 [.ref 0, .int (n32 b), .int z, .int y] (xst e L I J) = some (some (.int (-1)), xst e L I J) := by
      rw [aX11_odds, bX11_odds_0, c_hasBlock_y (d := d + 38) hC.2.1 hw hb, xcI_some, ekX11_odds_0_3, if_neg (by decide : ¬ (1 : Int32) = 0)]
      rcases hz with q | q
      · rw [if_pos q, bX11_odds_1]
      · by_cases q1 : z < 1
        · rw [if_pos q1, bX11_odds_1]
        · rw [if_neg q1]
          refine (if_neg q).trans (bX11_odds_1 _ _ _ _ _)
    have a2 : xcall xprog (d + 40) 250 [.ref 209, .int (n32 b), .int z, .int y] (xst e L I J) = some (some (.int (-1)), xst e L (xu I 209 0 0) J) := by
      have h0 : ∀ d K, xcall xprog (d + 1) 161 [.int z, .int 1, .int 20] (xst e L K J) = some (some (.int 0), xst e L K J) := fun d K => by
        rw [sX12_isIn]
        rcases hz with q | q
        · rw [if_pos q]
        · rw [show (if z ≤ 20 then (1 : Int32) else 0) = 0 from if_neg q, ite_self]
      rw [aX12_odds, bX12_odds_0, r_isBlock_y (d := d + 37) S0' hw hb, xcI_some, ekX12_odds_0_5, if_neg (by decide : ¬ (1 : Int32) = 0), h0 (d + 38), xcI_some, ekX12_odds_0_10, if_pos rfl, bX12_odds_1]
    refine RR_eq a1 (RR_I ?_)
    refine RR_eq a2 (RR_I ⟨rfl, Inv_0 h⟩)
  refine RR_wI (c_odds (d := d + 30) hC hNZ hb n1 n20) (fun r K J' ⟨r1, hK, jK, fK⟩ => ?_)
  subst r1
  have fI : ∀ o k, ¬ (6 ≤ o ∧ o < 42) → ¬ (47 ≤ o ∧ o < 71) → o ≠ 78 → o ≠ 208 → K o k = I o k := fK
  refine RR_wI (r_odds (d := d + 29) (RS_cf (fun q k z => fI q k (by omega) (by omega) (by omega) (by omega)) hR) hb n1 n20) (fun r M J2 ⟨j2, r2, hM, fM⟩ => ?_)
  subst j2
  refine ⟨r2.symm, ?_⟩
  refine Inv_act (S' := S) h (fun k hk => by rw [hSS]) (by rw [hSS]) hNZ hK (fun o k z1 z2 z3 z4 z5 => fI o k (by omega) (by omega) (by omega) z5) jK hM (fun o k z1 z2 z3 => fM o k z1 (by omega) (by omega) (by omega)) ⟨m, o, HM_c (I := I) (fun k hk => ?_) ?_ ?_ (fun i k hi => ?_) hH⟩
  · rw [fM 79 k (by omega) (by omega) (by omega) (by omega), fI 79 k (by omega) (by omega) (by omega) (by omega)]
  · rw [fM 209 38 (by omega) (by omega) (by omega) (by omega), fI 209 38 (by omega) (by omega) (by omega) (by omega)]
  · exact funext fun k => by rw [fM 222 k (by omega) (by omega) (by omega) (by omega), fI 222 k (by omega) (by omega) (by omega) (by omega)]
  · rw [fM _ k (by omega) (by omega) (by omega) (by omega), fI _ k (by omega) (by omega) (by omega) (by omega)]
end OD
