/-! The calls drawn and odds. -/
section DR
variable {d e L : Nat} {S S' : TS} {N N' : Nat → Int64} {I K M : TI} {J J' : TJ} {a b s t v k i n r m o q : Nat} {x y : Int32}
theorem deeds_a : (deeds S x (n + 1)).1 = (deed (deeds S x n).1 (deeds S x n).2.1).1 := rfl
theorem deeds_b : (deeds S x (n + 1)).2.1 = (deed (deeds S x n).1 (deeds S x n).2.1).2.1 := rfl
theorem deeds_c : (deeds S x (n + 1)).2.2 = if (deed (deeds S x n).1 (deeds S x n).2.1).2.2 = true then (deeds S x n).2.2 + 1 else (deeds S x n).2.2 := rfl
theorem c_doDeeds_0 (hC : CS S N I J) (hB : sB S = 0) (hn : n ≤ 60) : xcall xprog (d + 7) 40 [.ref 78, .ref 6, .int (n32 n), .int y] (xst e L I J) = some (some (.int 0), xst e L (xu I 78 0 y) J) := by
  have e2 : (xu I 78 0 y) 7 2 = 0 := by rw [xu_rne (by decide), t7_B hC.2.1 hC.1.1, hB]; rfl
  rw [aX3_doDeeds, bX3_doDeeds_0, bX3_doDeeds_1, e2, if_pos (by decide : (0 : Int32) ≤ 0), bX3_doDeeds_3, ite_self]
theorem c_doDeeds (hC : CS S N I J) (hN : NZ S N) (hB : 0 < sB S) (hn : n ≤ 60) : RR (xcall xprog (d + 7) 40 [.ref 78, .ref 6, .int (n32 n), .int y] (xst e L I J)) (zI e L fun r K J' => r = n32 (deeds S y n).2.2 ∧ CS (deeds S y n).1 N K J' ∧ efr K I ∧ jfr J' J) := by
  refine RR_eq ((aX3_doDeeds _ e L I J _ _).trans (bX3_doDeeds_0 _ e L I J _ _)) ?_
  have main : ∀ m i, i + m = n → ∀ K J', CS (deeds S y i).1 N K J' → K 78 0 = (deeds S y i).2.1 → efr K I → jfr J' J → RR (xlim (xcall xprog (d + 6)) mX3_doDeeds 1 [.ref 78, .ref 6, .int (n32 n), xD, .int (n32 (deeds S y i).2.2), .int (n32 i)] [] (xst e L K J')) (zI e L fun r K J' => r = n32 (deeds S y n).2.2 ∧ CS (deeds S y n).1 N K J' ∧ efr K I ∧ jfr J' J) := by
    intro m
    induction m with
    | zero =>
      intro i hi K J' k1 k2 k3 k4
      have : i = n := by omega
      subst this
      refine RR_eq (bX3_doDeeds_1 _ e L K J' _ _ _) ?_
      rw [if_neg (fun h => absurd ((n32_lt (by omega) (by omega)).mp h) (Nat.lt_irrefl i)), bX3_doDeeds_3]
      exact RR_I ⟨rfl, k1, k3, k4⟩
    | succ m ih =>
      intro i hi K J' k1 k2 k3 k4
      obtain ⟨p1, p2, p3⟩ := deeds_pre (x := y) (n := i) hC.1 hB
      have hB' : 0 < sB (deeds S y i).1 := by have := p1.2.2.2.1; omega
      have h20 := wf_B p2.1
      have z0 : ¬ n32 (sB (deeds S y i).1) ≤ 0 := by rw [n32_ge0 (by omega)]; omega
      refine RR_eq (bX3_doDeeds_1 _ e L K J' _ _ _) ?_
      rw [if_pos ((n32_lt (by omega) (by omega)).mpr (show i < n by omega)), t7_B k1.2.1 k1.1.1, if_neg z0]
      refine RR_cI (c_doDeed (d := d) k1 (NZ_same p1.2.2.2.1 hN) hB' k2) (fun r P J2 ⟨g1, g2, g3, g4, g5⟩ => ?_)
      rw [ekX3_doDeeds_1_9]
      have nx := ih (i + 1) (by omega) P J2 (by rw [deeds_a]; exact g2) (by rw [deeds_b]; exact g3) (efr_t g5 k3) (jfr_t g1 k4)
      rw [deeds_c] at nx
      by_cases q : r = 0
      · rw [if_pos q, n32_succ]
        rw [if_pos (g4.mp q)] at nx
        refine RR_eq (bX3_doDeeds_2 _ e L P J2 _ _ _) ?_
        rw [n32_succ]
        exact nx
      · rw [if_neg q]
        rw [if_neg (fun h => q (g4.mpr h))] at nx
        refine RR_eq (bX3_doDeeds_2 _ e L P J2 _ _ _) ?_
        rw [n32_succ]
        exact nx
  exact main n 0 (by omega) _ J (CS_78 hC) xu_ee efr_78 jfr_r
theorem efr_m (h : efr K (mrk I)) : ∀ o k, ¬ (7 ≤ o ∧ o < 42) → o ≠ 6 → o ≠ 78 → o ≠ 208 → K o k = I o k := fun o k z1 z2 z3 z4 => by rw [h o k z1 (Or.inl z2) z3, mrk_ne z4]
theorem deedG_f {w b v t : Nat} {x2 x3 x4 : Int32} (h : ¬ (deedG S w b v t x2 x3 x4).2.2 = true) : (deedG S w b v t x2 x3 x4).1 = S := by
  unfold deedG at h ⊢
  by_cases q : w = 0
  · rw [if_pos q] at h ⊢
    by_cases q1 : sB S < 20
    · rw [if_pos q1] at h; exact absurd rfl h
    · rw [if_neg q1]
  · rw [if_neg q] at h ⊢
    by_cases q1 : sV S = 0
    · rw [if_pos q1]
    · rw [if_neg q1] at h ⊢
      by_cases q2 : w < 3
      · rw [if_pos q2] at h ⊢
        by_cases q3 : S (216 + v) = n32 b
        · rw [if_pos q3]
        · rw [if_neg q3] at h; exact absurd rfl h
      · rw [if_neg q2] at h ⊢
        by_cases q3 : why S v b t = 0
        · rw [if_pos q3] at h; exact absurd rfl h
        · rw [if_neg q3]
theorem deeds_f (h : (deeds S x n).2.2 = 0) : (deeds S x n).1 = S := by
  induction n with
  | zero => rfl
  | succ n ih =>
    rw [deeds_c] at h
    rw [deeds_a]
    by_cases q : (deed (deeds S x n).1 (deeds S x n).2.1).2.2 = true
    · rw [if_pos q] at h; omega
    · rw [if_neg q] at h
      rw [show (deed (deeds S x n).1 (deeds S x n).2.1).1 = (deeds S x n).1 from deedG_f q]
      exact ih h
/-- frame of the reference's drawn -/
def wfr (K I : TI) : Prop := ∀ o k, o ≠ 211 → ¬ (217 ≤ o ∧ o < 225) → (o ≠ 209 ∨ ¬ (k = 0 ∨ (26 ≤ k ∧ k ≤ 34) ∨ k = 38 ∨ k = 44)) → K o k = I o k
theorem r_drawn (hC : RS S I) (hB : 0 < sB S) (h1 : 1 ≤ n) (hn : n ≤ 60) (hm : I 209 38 = n32 m) (h8 : m ≤ 8) : RR (xcall xprog (d + 11) 248 [.ref 209, .int (n32 n), .int y] (xst e L I J)) (zI e L fun r M J' => J' = J ∧ r = n32 (deeds S y n).2.2 ∧ RS (deeds S y n).1 M ∧ wfr M I ∧ (((deeds S y n).2.2 = 0 ∧ M 222 = I 222 ∧ M 209 38 = I 209 38) ∨ ((deeds S y n).2.2 ≠ 0 ∧ RK I M S m))) := by
  have hw := hC.1.1
  have h20 := wf_B hw
  have z1 : ¬ n32 n < 1 := fun h => absurd ((n32_lt (b := 1) (by omega) (by omega)).mp h) (by omega)
  have z2 : n32 n ≤ 60 := (n32_le (b := 60) (by omega) (by omega)).mpr hn
  have zB : ¬ n32 (sB S) = 0 := fun h => absurd ((n32_inj (b := 0) (by omega) (by omega)).mp h) (by omega)
  refine RR_eq ((aX12_drawn _ e L I J _ _).trans (bX12_drawn_0 _ e L I J _ _)) ?_
  have h0 : ∀ d K, xcall xprog (d + 1) 161 [.int (n32 n), .int 1, .int 60] (xst e L K J) = some (some (.int 1), xst e L K J) := fun d K => by rw [sX12_isIn, if_neg z1, if_pos z2]
  rw [h0 (d + 9), xcI_some, ekX12_drawn_0_6, if_neg (by decide : ¬ (1 : Int32) = 0), bX12_drawn_1]
  have hC0 := RS_0 (x := 0) hC
  rw [hC0.2.1, wf_2 hw, if_neg zB, bX12_drawn_2]
  refine RR_cV (r_copies_223 (d := d + 9)) (fun K J' ⟨j1, f1, f2⟩ => ?_)
  subst j1
  rw [ekX12_drawn_2_3]
  have fI1 : ∀ o k, o ≠ 223 → (o ≠ 209 ∨ ¬ (k = 0 ∨ k = 44)) → (xu K 209 44 y) o k = I o k := fun o k z3 z4 => by
    by_cases z : o = 209
    · subst z
      rw [xu_kne (by omega), f1 209 (by decide), xu_kne (by omega)]
    · rw [xu_rne z, f1 o z3, xu_rne z]
  have hR1 : RS S (xu K 209 44 y) := RS_k (Or.inr (by omega)) ⟨hC0.1, by rw [f1 211 (by decide)]; exact hC0.2.1, fun q => Rf_c (fun o k _ _ => by rw [f1 o (by omega)]) (fun k _ _ => by rw [f1 209 (by decide)]) (hC0.2.2 (by rw [← f1 209 (by decide)]; exact q))⟩
  have main : ∀ (Z : xOut → Prop), (∀ M', RS (deeds S y n).1 M' → yfr M' (xu K 209 44 y) → RR (xlim (xcall xprog (d + 10)) mX12_drawn 6 [.ref 209, xD, xD, .int (n32 (deeds S y n).2.2), xD] [] (xst e L M' J')) Z) → ∀ m i, i + m = n → ∀ M, RS (deeds S y i).1 M → M 209 44 = (deeds S y i).2.1 → yfr M (xu K 209 44 y) → RR (xlim (xcall xprog (d + 10)) mX12_drawn 3 [.ref 209, .int (n32 n), xD, .int (n32 (deeds S y i).2.2), .int (n32 i)] [] (xst e L M J')) Z := by
    intro Z hZ m
    induction m with
    | zero =>
      intro i hi M k1 k2 k3
      have : i = n := by omega
      subst this
      refine RR_eq (bX12_drawn_3 _ e L M J' _ _ _) ?_
      rw [if_neg (fun h => absurd ((n32_lt (by omega) (by omega)).mp h) (Nat.lt_irrefl i))]
      exact hZ M k1 k3
    | succ m ih =>
      intro i hi M k1 k2 k3
      obtain ⟨p1, p2, p3⟩ := deeds_pre (x := y) (n := i) hC.1 hB
      have hB' : 0 < sB (deeds S y i).1 := by have := p1.2.2.2.1; omega
      refine RR_eq (bX12_drawn_3 _ e L M J' _ _ _) ?_
      rw [if_pos ((n32_lt (by omega) (by omega)).mpr (show i < n by omega))]
      refine RR_cI (r_drawDeed (d := d + 1) k1 hB' k2) (fun r P J2 ⟨g1, g2, g3, g4, g5⟩ => ?_)
      subst g1
      rw [ekX12_drawn_3_5]
      have nx := ih (i + 1) (by omega) P (by rw [deeds_a]; exact g2) (by rw [deeds_b]; exact g3) (yfr_t g5 k3)
      rw [deeds_c] at nx
      by_cases q : (deed (deeds S y i).1 (deeds S y i).2.1).2.2 = true
      · rw [if_pos q] at g4 nx
        subst g4
        rw [if_neg (by decide : ¬ (1 : Int32) = 0), bX12_drawn_5, n32_succ, n32_succ]
        exact nx
      · rw [if_neg q] at g4 nx
        subst g4
        rw [if_pos rfl, bX12_drawn_4, bX12_drawn_5, n32_succ, Int32.add_zero]
        exact nx
  have hle := deeds_le (S := S) (x := y) (n := n)
  refine main _ (fun M k1 k3 => ?_) n 0 (by omega) _ hR1 xu_ee (fun _ _ _ _ _ => rfl)
  have fM : wfr M I := fun o k z3 z4 z5 => by rw [k3 o k z3 (by omega) (by omega), fI1 o k (by omega) (by omega)]
  have e222 : M 222 = I 222 := funext fun k => by rw [k3 222 k (by omega) (by omega) (by omega), fI1 222 k (by omega) (by omega)]
  have e38 : M 209 38 = I 209 38 := by rw [k3 209 38 (by omega) (by omega) (by omega), fI1 209 38 (by omega) (by omega)]
  have e223 : ∀ i, i < 222 → M 223 i = S (2 + i) := fun i hi => by rw [k3 223 i (by omega) (by omega) (by omega), xu_rne (by decide), f2 i hi, hC0.2.1]
  refine RR_eq (bX12_drawn_6 _ e L M J' _) ?_
  by_cases q : (deeds S y n).2.2 = 0
  · rw [if_pos (show n32 (deeds S y n).2.2 ≤ 0 by rw [n32_ge0 (by omega)]; exact q), bX12_drawn_7]
    exact RR_I ⟨rfl, rfl, k1, fM, Or.inl ⟨q, e222, e38⟩⟩
  · rw [if_neg (show ¬ n32 (deeds S y n).2.2 ≤ 0 by rw [n32_ge0 (by omega)]; exact q)]
    refine RR_cV (r_stores_223 (d := d + 9) (m := m) (by rw [e38, hm]) h8) (fun P J2 ⟨g1, g2, g3⟩ => ?_)
    subst g1
    rw [ekX12_drawn_6_5, bX12_drawn_7]
    refine RR_I ⟨rfl, rfl, ⟨k1.1, (funext fun k => g2 211 k (by omega) (by omega)).trans k1.2.1, fun z => Rf_c (fun o k _ _ => g2 o k (by omega) (by omega)) (fun k _ _ => g2 209 k (by omega) (by omega)) (k1.2.2 (by rw [← g2 209 34 (by omega) (by omega)]; exact z))⟩, fun o k z3 z4 z5 => by rw [g2 o k (by omega) (by omega), fM o k z3 z4 z5], Or.inr ⟨q, ?_⟩⟩
    rcases g3 with ⟨a1, a2, a3, a4⟩ | ⟨a1, a2, a3, a4⟩
    · exact Or.inl ⟨a1, a2, fun k hk => by rw [a3 k hk, e222], fun i hi => by rw [a4 i hi, e223 i hi]⟩
    · exact Or.inr ⟨a1, a2, fun k hk => by rw [a3 k hk, e222], fun i hi => by rw [a4 i hi, e223 i hi]⟩
theorem x_1_60 {n : Nat} (hn : n < 1000) : (x < 1 ∨ ¬ x ≤ n32 n) ∨ ∃ k, 1 ≤ k ∧ k ≤ n ∧ x = n32 k := by
  by_cases q : x < 1
  · exact Or.inl (Or.inl q)
  · by_cases q2 : x ≤ n32 n
    · have q0 : ¬ x < 0 := fun h => q (by rw [Int32.lt_iff_toInt_lt] at h ⊢; have h0 : (0 : Int32).toInt = 0 := by decide
                                          have h1 : (1 : Int32).toInt = 1 := by decide
                                          omega)
      have e := n32_of q0
      refine Or.inr ⟨x.toNatClampNeg, ?_, ?_, e⟩
      · false_or_by_contra
        have : x.toNatClampNeg = 0 := by omega
        rw [this] at e
        rw [e] at q
        exact q (by decide)
      · rw [e] at q2
        exact (n32_le (by have := x.toNatClampNeg_lt; omega) (by omega)).mp q2
    · exact Or.inl (Or.inr q2)
theorem CK_d (h : efr K (mrk I)) (ck : CK K M S m o) : CK I M S m o := CK_i ck (fun q k z1 z2 => by rw [efr_m h q k (by omega) (by omega) (by omega) (by omega)])
theorem s_drawn (x y : Int32) : stp 141 248 [.int x, .int y] := by
  intro d e L I J h
  obtain ⟨hC, hR, hNZ, ⟨m, o, hH⟩, _⟩ := id h
  have hw := hC.1.1
  have h20 := wf_B hw
  have h8 := wf_V8 hw
  have hS := hR.2.1
  generalize hSS : I 211 = S at *
  rcases x_1_60 (x := x) (n := 60) (by omega) with hx | ⟨n, n1, n60, rfl⟩
  · have a1 : xcall xprog (d + 40) 141 [.ref 0, .int x, .int y] (xst e L I J) = some (some (.int (-1)), xst e L I J) := by
      rw [aX11_drawn, bX11_drawn_0]
      rcases hx with q | q
      · rw [if_pos q, bX11_drawn_1]
      · by_cases q1 : x < 1
        · rw [if_pos q1, bX11_drawn_1]
        · rw [if_neg q1]
          refine (if_neg q).trans (bX11_drawn_1 _ _ _ _ _)
    have a2 : xcall xprog (d + 40) 248 [.ref 209, .int x, .int y] (xst e L I J) = some (some (.int (-1)), xst e L (xu I 209 0 0) J) := by
      have h0 : ∀ d K, xcall xprog (d + 1) 161 [.int x, .int 1, .int 60] (xst e L K J) = some (some (.int 0), xst e L K J) := fun d K => by
        rw [sX12_isIn]
        rcases hx with q | q
        · rw [if_pos q]
        · rw [show (if x ≤ 60 then (1 : Int32) else 0) = 0 from if_neg q, ite_self]
      rw [aX12_drawn, bX12_drawn_0, h0 (d + 38), xcI_some, ekX12_drawn_0_6, if_pos rfl]
    refine RR_eq a1 (RR_I ?_)
    refine RR_eq a2 (RR_I ⟨rfl, Inv_0 h⟩)
  have z1 : ¬ n32 n < 1 := fun h => absurd ((n32_lt (b := 1) (by omega) (by omega)).mp h) (by omega)
  have z2 : n32 n ≤ 60 := (n32_le (b := 60) (by omega) (by omega)).mpr n60
  refine RR_eq ((aX11_drawn _ e L I J _ _).trans (bX11_drawn_0 _ e L I J _ _)) ?_
  rw [if_neg z1, if_pos z2, bX11_drawn_2, c_mark (d := d + 38), xcV_some, ekX11_drawn_2_4]
  have hCm := CS_mrk hC
  have hMK := mrk_MK hC
  by_cases q : sB S = 0
  · rw [c_doDeeds_0 (d := d + 32) hCm q n60, xcI_some, ekX11_drawn_2_11, if_pos (by decide : (0 : Int32) ≤ 0), bX11_drawn_3]
    refine RR_I ?_
    have hIm : Inv (xu (mrk I) 78 0 y) J := by
      have him := Inv_mrk h
      obtain ⟨_, _, _, _, _, ht, _, _, hg, ⟨c1, c2, c3⟩, hd, _⟩ := id him
      have ne : ∀ o, o ≠ 78 → (xu (mrk I) 78 0 y) o = mrk I o := fun o z => xu_rne z
      refine Inv_g him (fun o k z => by rw [ne o (by unfold gI at z; omega)]) (fun _ _ _ => rfl) rfl (Tape_c (by rw [ne _ (by decide)]) (by rw [ne _ (by decide)]) (ne _ (by decide)) (ne _ (by decide)) ht) (Tag_c (by rw [ne _ (by decide)]) (by rw [ne _ (by decide)]) (ne _ (by decide)) (ne _ (by decide)) hg) ⟨?_, ?_, ?_⟩ (Told_c (by rw [ne _ (by decide)]) (ne _ (by decide)) (ne _ (by decide)) hd)
      · rw [ne _ (by decide), ne _ (by decide), c1]
      · rw [ne _ (by decide), ne _ (by decide), c2]
      · rw [ne _ (by decide), ne _ (by decide), c3]
    have h0 : ∀ d K, xcall xprog (d + 1) 161 [.int (n32 n), .int 1, .int 60] (xst e L K J) = some (some (.int 1), xst e L K J) := fun d K => by rw [sX12_isIn, if_neg z1, if_pos z2]
    refine RR_eq ((aX12_drawn _ e L _ J _ _).trans (bX12_drawn_0 _ e L _ J _ _)) ?_
    have e2 : (xu (xu (mrk I) 78 0 y) 209 0 0) 211 2 = 0 := by rw [xu_rne (by decide), xu_rne (by decide), mrk_ne (by decide), hSS, wf_2 hw, q]; rfl
    rw [h0 (d + 38), xcI_some, ekX12_drawn_0_6, if_neg (by decide : ¬ (1 : Int32) = 0), bX12_drawn_1, e2, if_pos rfl]
    exact RR_I ⟨rfl, Inv_0 hIm⟩
  have hB : 0 < sB S := by omega
  obtain ⟨p1, p2, p3⟩ := deeds_pre (x := y) (n := n) hC.1 hB
  have hle := deeds_le (S := S) (x := y) (n := n)
  refine RR_cI (c_doDeeds (d := d + 32) hCm hNZ hB n60) (fun r K J' ⟨r1, hK, fK, jK⟩ => ?_)
  subst r1
  rw [ekX11_drawn_2_11]
  have fI := efr_m fK
  have hRK : RS S K := RS_cf (fun q k z => fI q k (by omega) (by omega) (by omega) (by omega)) hR
  by_cases qD : (deeds S y n).2.2 = 0
  · rw [if_pos (show n32 (deeds S y n).2.2 ≤ 0 by rw [n32_ge0 (by omega)]; exact qD), bX11_drawn_3]
    refine RR_I ?_
    refine RR_wI (r_drawn (d := d + 29) (m := m) hRK hB n1 n60 (by rw [fI 209 38 (by omega) (by omega) (by omega) (by omega)]; exact hH.2.2.2.2.1) hH.1) (fun r M J2 ⟨j2, r2, hM, fM, hx⟩ => ?_)
    subst j2
    refine ⟨r2.symm, ?_⟩
    rcases hx with ⟨_, m1, m2⟩ | ⟨z, _⟩
    rotate_left
    · exact absurd qD z
    have eS := deeds_f qD
    rw [eS] at hK hM
    refine Inv_act (S' := S) h (fun k hk => by rw [hSS]) (by rw [hSS]) hNZ hK (fun o k z1 z2 z3 z4 z5 => fI o k z1 z2 (by omega) z5) jK hM fM ⟨m, o, HM_c (I := I) (fun k hk => ?_) ?_ ?_ (fun i k hi => ?_) hH⟩
    · rw [fM 79 k (by omega) (by omega) (by omega), fI 79 k (by omega) (by omega) (by omega) (by omega)]
    · rw [m2, fI 209 38 (by omega) (by omega) (by omega) (by omega)]
    · rw [m1]
      exact funext fun k => fI 222 k (by omega) (by omega) (by omega) (by omega)
    · rw [fM _ k (by omega) (by omega) (by omega), fI _ k (by omega) (by omega) (by omega) (by omega)]
  · rw [if_neg (show ¬ n32 (deeds S y n).2.2 ≤ 0 by rw [n32_ge0 (by omega)]; exact qD)]
    have k208 : MK K S 208 := by
      refine ⟨?_, ?_, fun u hu => ?_⟩
      · rw [fK 208 _ (by omega) (Or.inl (by decide)) (by decide)]; exact hMK.1
      · rw [fK 208 _ (by omega) (Or.inl (by decide)) (by decide)]; exact hMK.2.1
      · rw [fK 208 _ (by omega) (Or.inl (by decide)) (by decide)]; exact hMK.2.2 u hu
    have k79 : ∀ k, K 79 k = I 79 k := fun k => fI 79 k (by omega) (by omega) (by omega) (by omega)
    refine RR_cV (c_keep (d := d + 38) (m := m) (o := o) (by rw [k79, hH.2.2.1]) (by rw [k79, hH.2.2.2.1]) hH.1 hH.2.1 k208 h8) (fun P J3 ⟨j3, ck, fP⟩ => ?_)
    subst j3
    rw [ekX11_drawn_2_19, bX11_drawn_3]
    refine RR_I ?_
    have gI : ∀ o k, ¬ (7 ≤ o ∧ o < 42) → o ≠ 6 → ¬ (78 ≤ o ∧ o < 89) → o ≠ 208 → P o k = I o k := fun o k z1 z2 z3 z4 => by rw [fP o k (by omega), fI o k z1 z2 (by omega) z4]
    have hRP : RS S P := RS_cf (fun q k z => gI q k (by omega) (by omega) (by omega) (by omega)) hR
    refine RR_wI (r_drawn (d := d + 29) (m := m) hRP hB n1 n60 (by rw [gI 209 38 (by omega) (by omega) (by omega) (by omega)]; exact hH.2.2.2.2.1) hH.1) (fun r M J2 ⟨j2, r2, hM, fM, hx⟩ => ?_)
    subst j2
    refine ⟨r2.symm, ?_⟩
    rcases hx with ⟨z, _⟩ | ⟨_, rk⟩
    · exact absurd z qD
    have hCP := CS_o (K := P) (fun q k z1 z2 => fP q k (by omega)) (fP 6 3 (by omega)) hK
    have rk2 : RK I M S m := by
      have eP : P 222 = I 222 := funext fun k => gI 222 k (by omega) (by omega) (by omega) (by omega)
      unfold RK at rk ⊢
      rw [← eP]
      exact rk
    refine act_done (S' := (deeds S y n).1) (m := m) (o := o) h (by rw [hSS]; exact hH) (by rw [hSS]; exact p1) (fun k hk => by rw [hSS]; exact p3 k hk) (NZ_same p1.2.2.2.1 hNZ) hCP (fun o k z1 z2 z3 z4 z5 => gI o k z1 z2 z4 z5) jK (by rw [hSS]; exact CK_d fK ck) hM fM (by rw [hSS]; exact rk2)
end DR
