/-! The call odds. -/
/-- block b lies on the way -/
def chP (S : TS) (b : Nat) : Prop := ∃ n, WY S n ∧ exN (fun k => decide (wy S k = n32 b)) n = true
noncomputable def chN (S : TS) (b : Nat) : Nat := @ite Nat (chP S b) (Classical.propDecidable _) 1 0
/-- how many of n seeds choose b -/
noncomputable def odN (S : TS) (b : Nat) (y : Int32) : Nat → Nat
  | 0 => 0
  | i + 1 => odN S b y i + chN (deeds S (y + n32 i) 12).1 b
section OD
variable {d e L : Nat} {S S' : TS} {N N' : Nat → Int64} {I K M : TI} {J J' : TJ} {a b s t v k i n r m o q : Nat} {x y : Int32}
theorem chN_of (h : WY S n) : n32 (chN S b) = if exN (fun k => decide (wy S k = n32 b)) n = true then 1 else 0 := by
  unfold chN
  by_cases q : exN (fun k => decide (wy S k = n32 b)) n = true
  · rw [if_pos q, if_pos ⟨n, h, q⟩]; rfl
  · rw [if_neg q, if_neg (fun ⟨m, h1, h2⟩ => q (by rw [WY_u h h1]; exact h2))]; rfl
theorem chN_le : chN S b ≤ 1 := by
  unfold chN
  split <;> omega
theorem odN_s : odN S b y (n + 1) = odN S b y n + chN (deeds S (y + n32 n) 12).1 b := rfl
theorem r_isChosen (hC : RS S I) (hb : b < 20) : RR (xcall xprog (d + 8) 249 [.ref 209, .int (n32 b)] (xst e L I J)) (zI e L fun x K J' => J' = J ∧ x = n32 (chN S b) ∧ lfr K I ∧ RS S K) := by
  refine RR_eq ((aX12_isChosen _ e L I J _).trans (bX12_isChosen_0 _ e L I J _)) ?_
  refine RR_cV (r_lays (d := d) hC) (fun K J' ⟨j1, f1, hF, hC2⟩ => ?_)
  subst j1
  rw [ekX12_isChosen_0_1]
  obtain ⟨n, h1, h2, h3⟩ := hF.2.2.2.2.2.2.2.2.2.2
  have h20 := h1.1
  have hl := xfor (fun i (_ : Unit) => xlim (xcall xprog (d + 7)) mX12_isChosen 1 [.ref 209, .int (n32 b), .int (if exN (fun k => decide (wy S k = n32 b)) i = true then 1 else 0), .int (n32 i)] [] (xst e L K J')) (fun _ _ => True) (n := n) (fun i _ hi _ => by
    refine ⟨(), ?_, trivial⟩
    refine (bX12_isChosen_1 _ e L K J' _ _ _).trans ?_
    rw [h2, if_pos ((n32_lt (by omega) (by omega)).mpr hi), exN_s]
    by_cases q : exN (fun k => decide (wy S k = n32 b)) i = true
    · rw [if_pos q, q, Bool.true_or, if_pos rfl, if_neg (by decide : ¬ (1 : Int32) = 0), bX12_isChosen_2, bX12_isChosen_4, n32_succ]
    · have qf : exN (fun k => decide (wy S k = n32 b)) i = false := by rcases h : exN (fun k => decide (wy S k = n32 b)) i with _ | _ <;> simp_all
      rw [if_neg q, if_pos rfl, xin_n32 (by omega) (by omega), cond_true, n32_nat (by omega), h3 i hi, qf, Bool.false_or]
      by_cases q2 : wy S i = n32 b
      · rw [if_pos q2, if_pos (decide_eq_true q2), bX12_isChosen_2, bX12_isChosen_4, n32_succ]
      · rw [if_neg q2, if_neg (fun h => q2 (of_decide_eq_true h)), bX12_isChosen_3, bX12_isChosen_4, n32_succ]) () trivial
  obtain ⟨_, hl, _⟩ := hl
  refine RR_eq (hl.trans (bX12_isChosen_1 _ e L K J' _ _ _)) ?_
  rw [h2, if_neg (fun h => absurd ((n32_lt (by omega) (by omega)).mp h) (Nat.lt_irrefl n)), bX12_isChosen_5, ← chN_of h1]
  have hx : xrZ (n32 (chN S b)) (xst e L K J') = some (some (.int (n32 (chN S b))), xst e L K J') := by
    have := chN_le (S := S) (b := b)
    have : chN S b = 0 ∨ chN S b = 1 := by omega
    rcases this with q | q <;> rw [q] <;> rfl
  refine RR_eq hx (RR_I ⟨rfl, rfl, f1, hC2⟩)
theorem c_odds (hC : CS S N I J) (hN : NZ S N) (hb : b < sB S) (h1 : 1 ≤ n) (hn : n ≤ 20) : RR (xcall xprog (d + 10) 142 [.ref 0, .int (n32 b), .int (n32 n), .int y] (xst e L I J)) (zI e L fun r K J' => r = n32 (odN S b y n) ∧ CS S N K J' ∧ jfr J' J ∧ ∀ o k, ¬ (6 ≤ o ∧ o < 42) → ¬ (47 ≤ o ∧ o < 71) → o ≠ 78 → o ≠ 208 → K o k = I o k) := by
  have hw := hC.1.1
  have h20 := wf_B hw
  have h8 := wf_V8 hw
  have z1 : ¬ n32 n < 1 := fun h => absurd ((n32_lt (b := 1) (by omega) (by omega)).mp h) (by omega)
  have z2 : n32 n ≤ 20 := (n32_le (b := 20) (by omega) (by omega)).mpr hn
  refine RR_eq ((aX11_odds _ e L I J _ _ _).trans (bX11_odds_0 _ e L I J _ _ _)) ?_
  simp (disch := omega) only [n32_ltE, n32_leE, n32_eqE, n32_eqm, m1_eqn, n32_ge0, n32_lt0, n32_nat, n32_succ, n32_add, xin_n32, xin_b1, xin_b2, cond_true, cond_false, if_true, if_false, xcI_some, xcV_some, xcJ_some, xcR_some, xu_ee, xu_rne, xu_kne, ite_self, not_true_eq_false, not_false_eq_true, ne_eq, true_and, and_true, false_and, and_false, m1_lt0, m1_eq0, eq_self, Bool.false_eq_true, reduceCtorEq, z_lt0, i1_eq0, i0_eq1, i1_eq1, xrZ0, xrZ1, xrZt, n32_eq0, n32_eq1, n32_gt0, n32_gt1, n32_lt1, n32_le1, n32_0le, tf0, tf1, xaI_of, c_hasBlock_y hC.2.1 hw hb, ekX11_odds_0_3, z1, z2]
  refine RR_eq (bX11_odds_2 _ e L I J _ _ _) ?_
  rw [c_mark (d := d + 8), xcV_some, ekX11_odds_2_4]
  have main : ∀ m i, i + m = n → ∀ K J', CS S N K J' → MK K S 208 → jfr J' J → (∀ o k, ¬ (6 ≤ o ∧ o < 42) → ¬ (47 ≤ o ∧ o < 71) → o ≠ 78 → o ≠ 208 → K o k = I o k) → RR (xlim (xcall xprog (d + 9)) mX11_odds 3 [.ref 0, .int (n32 b), .int (n32 n), .int y, .int (n32 (odN S b y i)), .int (n32 i)] [] (xst e L K J')) (zI e L fun r K J' => r = n32 (odN S b y n) ∧ CS S N K J' ∧ jfr J' J ∧ ∀ o k, ¬ (6 ≤ o ∧ o < 42) → ¬ (47 ≤ o ∧ o < 71) → o ≠ 78 → o ≠ 208 → K o k = I o k) := by
    intro m
    induction m with
    | zero =>
      intro i hi K J' k1 k2 k3 k4
      have : i = n := by omega
      subst this
      refine RR_eq (bX11_odds_3 _ e L K J' _ _ _ _ _) ?_
      rw [if_neg (fun h => absurd ((n32_lt (by omega) (by omega)).mp h) (Nat.lt_irrefl i)), bX11_odds_4]
      exact RR_I ⟨rfl, k1, k3, k4⟩
    | succ m ih =>
      intro i hi K J' k1 k2 k3 k4
      obtain ⟨p1, p2, p3⟩ := deeds_pre (x := y + n32 i) (n := 12) hC.1 (show 0 < sB S by omega)
      refine RR_eq (bX11_odds_3 _ e L K J' _ _ _ _ _) ?_
      rw [if_pos ((n32_lt (by omega) (by omega)).mpr (show i < n by omega))]
      refine RR_cI (c_doDeeds (d := d + 2) (n := 12) (y := y + n32 i) k1 hN (by omega) (by omega)) (fun r P J2 ⟨_, g2, g3, g4⟩ => ?_)
      rw [ekX11_odds_3_11]
      refine RR_cV (c_fresh (d := d + 3) g2) (fun Q J3 ⟨j3, f3, hF, hQ⟩ => ?_)
      subst j3
      obtain ⟨w, w1, w2, w3, w4⟩ := hF.2.2.2.2.2.2.2.2.2
      rw [ekX11_odds_3_15, c_rewind_208 (d := d + 8), xcV_some, ekX11_odds_3_30, bt_test _ (by omega), w4 b (by omega), n32_succ]
      have ew : (if exN (fun k => decide (wy (deeds S (y + n32 i) 12).1 k = n32 b)) w = true then (1 : Int32) else 0) = n32 (chN (deeds S (y + n32 i) 12).1 b) := (chN_of w1).symm
      rw [ew, n32_add, ← odN_s]
      have m208 : MK Q S 208 := by
        refine ⟨?_, ?_, fun u hu => ?_⟩
        · rw [f3 208 _ (by omega) (Or.inl (by decide)), g3 208 _ (by omega) (Or.inl (by decide)) (by decide)]; exact k2.1
        · rw [f3 208 _ (by omega) (Or.inl (by decide)), g3 208 _ (by omega) (Or.inl (by decide)) (by decide)]; exact k2.2.1
        · rw [f3 208 _ (by omega) (Or.inl (by decide)), g3 208 _ (by omega) (Or.inl (by decide)) (by decide)]; exact k2.2.2 u hu
      obtain ⟨c1, c2⟩ := rwd_CS hQ hC.1 p1 m208 (by omega)
      refine ih (i + 1) (by omega) _ _ c1 ?_ (jfr_t g4 k3) (fun o k z1 z2 z3 z4 => ?_)
      · refine ⟨?_, ?_, fun u hu => ?_⟩
        · rw [c2 208 _ (by omega) (Or.inl (by decide))]; exact m208.1
        · rw [c2 208 _ (by omega) (Or.inl (by decide))]; exact m208.2.1
        · rw [c2 208 _ (by omega) (Or.inl (by decide))]; exact m208.2.2 u hu
      · rw [c2 o k (by omega) (Or.inl (by omega)), f3 o k (by omega) (Or.inl (by omega)), g3 o k (by omega) (Or.inl (by omega)) z3, k4 o k z1 z2 z3 z4]
  exact main n 0 (by omega) _ J (CS_mrk hC) (mrk_MK hC) jfr_r (fun o k z1 z2 z3 z4 => by rw [mrk_ne z4])
end OD
