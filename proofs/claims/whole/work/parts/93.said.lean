/-! The call said on both sides, put together. -/
section SAV
variable {d e L : Nat} {S S' X Y : TS} {N N' : Nat → Int64} {I K M : TI} {J J' J2 : TJ} {a b c s t u v k i n r m o q w j y : Nat} {p p' : Nat → Bool} {x : Int32}
theorem j_bitCount20 (hy : y < 1048576) : xcall xprog (d + 1) 275 [.int (n32 y)] (xst e L I J) = some (some (.int (n32 (cntN (fun k => y.testBit k) 20))), xst e L I J) := by
  refine (sJ6_bitCount_0f7a4 d e L I J (n32 y)).trans ?_
  rw [← bc_20 hy]
  rfl
def sdV (p : Nat → Bool) (x : Int32) (n : Nat) : Int32 := if x = -1 then n32 (cntN p n) else fnd p x n
def sgr (K I : TI) : Prop := ∀ o k, o ≠ 228 → ¬ (217 ≤ o ∧ o < 222) → (o ≠ 209 ∨ ¬ (k = 0 ∨ (26 ≤ k ∧ k ≤ 34))) → K o k = I o k
theorem c_said (hC : CS S N I J) (hc40 : c ≤ 40) (hc0 : 0 < c) (e42 : I 42 1 = n32 c) (z42 : ¬ I 42 0 = 0) (hd : dep S c = 1) (hi : ∀ i, i < c → okc S i ∧ I 43 i = n32 (kdm (cw S i)) ∧ I 44 i = S (226 + 3 * i) ∧ I 45 i = S (227 + 3 * i)) (hx : ¬ x < -1) : RR (xcall xprog (d + 8) 146 [.ref 0, .int x] (xst e L I J)) (zI e L fun r K J' => J' = J ∧ r = sdV (fun b => ev S c 0 b) x (sB S) ∧ CS S N K J ∧ ∀ o k, ¬ (46 ≤ o ∧ o < 71) → (o ≠ 6 ∨ k ≠ 3) → K o k = I o k) := by
  have hw := hC.1.1
  have h20 := wf_B hw
  refine RR_eq ((aX11_said _ e L I J _).trans (bX11_said_0 _ e L I J _)) ?_
  rw [if_neg z42, if_neg hx, bX11_said_2]
  refine RR_cV (c_fresh (d := d + 1) hC) (fun K J' ⟨j1, f1, hF, hK⟩ => ?_)
  subst j1
  rw [ekX11_said_2_2]
  have k4 : ∀ o k, 42 ≤ o → o ≤ 46 → K o k = I o k := fun o k z1 z2 => f1 o k (by omega) (by omega)
  refine RR_cI (c_blocksSaid (d := d + 2) hK.2.1 hw hF hc40 (by rw [k4 42 1 (by omega) (by omega)]; exact e42) hd (fun i hic => ?_)) (fun z M J2 ⟨j2, hz, hM⟩ => ?_)
  · obtain ⟨q1, q2, q3, q4⟩ := hi i hic
    exact ⟨q1, by rw [k4 43 i (by omega) (by omega)]; exact q2, by rw [k4 44 i (by omega) (by omega)]; exact q3, by rw [k4 45 i (by omega) (by omega)]; exact q4⟩
  subst j2
  rw [ekX11_said_2_10]
  have hCM : CS S N M J2 := CS_g (fun o k z1 z2 z3 => by rw [hM o z3]) (fun _ _ _ _ => rfl) hK
  have fM : ∀ o k, ¬ (46 ≤ o ∧ o < 71) → (o ≠ 6 ∨ k ≠ 3) → M o k = I o k := fun o k z1 z2 => by rw [hM o (by omega), f1 o k (by omega) z2]
  obtain ⟨y, y1, y2, y3⟩ := bt_nat z (fun k z1 z2 => by rw [hz k z2, decide_eq_false (by omega), Bool.false_and])
  have hlow : ∀ k, k < sB S → bt z k = ev S c 0 k := fun k hk => by rw [hz k (by omega), decide_eq_true hk, Bool.true_and]
  have hhi : ∀ k, sB S ≤ k → k < sB S + (20 - sB S) → bt z k = false := fun k z1 z2 => by rw [hz k (by omega), decide_eq_false (by omega), Bool.false_and]
  by_cases q : x = -1
  · have e1 : cntN (fun k => y.testBit k) 20 = cntN (fun b => ev S c 0 b) (sB S) := by
      have a1 : cntN (fun k => y.testBit k) 20 = cntN (bt z) 20 := cnt_c (fun k _ => y3 k)
      have a2 := cnt_o (p := bt z) (n := sB S) (m := 20 - sB S) hhi
      rw [show sB S + (20 - sB S) = 20 by omega] at a2
      rw [a1, a2]
      exact cnt_c hlow
    rw [if_pos q, y2, j_bitCount20 (d := d + 6) y1, xcI_some, ekX11_said_2_16, bX11_said_4, e1]
    refine RR_I ⟨rfl, ?_, hCM, fM⟩
    unfold sdV
    rw [if_pos q]
  · have e1 : fnd (bt z) x 20 = fnd (fun b => ev S c 0 b) x (sB S) := by
      have a2 := fnd_o (p := bt z) (x := x) (n := sB S) (m := 20 - sB S) hhi
      rw [show sB S + (20 - sB S) = 20 by omega] at a2
      rw [a2]
      exact fnd_c hlow
    rw [if_neg q, bX11_said_3, c_placeOfBit (d := d + 6), xcI_some, ekX11_said_3_2, bX11_said_4, e1]
    refine RR_I ⟨rfl, ?_, hCM, fM⟩
    unfold sdV
    rw [if_neg q]
theorem r_said (hC : RS S I) (hc40 : c ≤ 40) (hc0 : 0 < c) (e224 : S 224 = n32 c) (hd : dep S c = 1) (hok : ∀ i, i < c → okc S i) (hx : ¬ x < -1) : RR (xcall xprog (d + 11) 265 [.ref 209, .int x] (xst e L I J)) (zI e L fun r K J' => J' = J ∧ r = sdV (fun b => ev S c 0 b) x (sB S) ∧ RS S K ∧ sgr K I) := by
  have hw := hC.1.1
  have h20 := wf_B hw
  have z0 : ¬ n32 c = 0 := fun h => absurd ((n32_inj (b := 0) (by omega) (by omega)).mp h) (by omega)
  refine RR_eq ((aX12_said _ e L I J _).trans (bX12_said_0 _ e L I J _)) ?_
  rw [hC.2.1, e224, if_neg z0, if_neg hx, bX12_said_2]
  refine RR_cV (r_lays (d := d + 3) (RS_0 hC)) (fun K J' ⟨j1, f1, hF, hK⟩ => ?_)
  subst j1
  rw [ekX12_said_2_1]
  have f0 : sgr K I := fun o k z1 z2 z3 => by
    rw [f1 o k z2 (by omega)]
    by_cases z : o = 209
    · subst z
      rw [xu_kne (by omega)]
    · rw [xu_rne z]
  have main : ∀ m i, i + m = sB S → ∀ K, RS S K → Rf S K → sgr K I → fnd (fun b => ev S c 0 b) x i = -1 → RR (xlim (xcall xprog (d + 10)) mX12_said 3 [.ref 209, .int x, .int (n32 (cntN (fun b => ev S c 0 b) i)), .int (n32 i)] [] (xst e L K J')) (zI e L fun r K J'' => J'' = J' ∧ r = sdV (fun b => ev S c 0 b) x (sB S) ∧ RS S K ∧ sgr K I) := by
    intro m
    induction m with
    | zero =>
      intro i hi K k1 k2 k3 h0
      have : i = sB S := by omega
      subst this
      refine RR_eq (bX12_said_3 _ e L K J' _ _ _) ?_
      rw [k1.2.1, wf_2 hw, if_neg (fun h => absurd ((n32_lt (by omega) (by omega)).mp h) (Nat.lt_irrefl _)), bX12_said_7]
      by_cases q : x = -1
      · rw [if_pos q, bX12_said_9]
        refine RR_I ⟨rfl, ?_, k1, k3⟩
        unfold sdV
        rw [if_pos q]
      · rw [if_neg q, bX12_said_8, bX12_said_9]
        refine RR_I ⟨rfl, ?_, k1, k3⟩
        unfold sdV
        rw [if_neg q, h0]
    | succ m ih =>
      intro i hi K k1 k2 k3 h0
      have hcl := cnt_le (p := fun b => ev S c 0 b) (n := i)
      refine RR_eq (bX12_said_3 _ e L K J' _ _ _) ?_
      rw [k1.2.1, wf_2 hw, if_pos ((n32_lt (by omega) (by omega)).mpr (show i < sB S by omega))]
      refine RR_cI (r_isSaid (d := d) k1 k2 hc40 e224 hd hok (show i < sB S by omega)) (fun r P J2 ⟨j2, r1, hP, hP2, f2⟩ => ?_)
      subst j2 r1
      have f3 : sgr P I := fun o k z1 z2 z3 => by rw [f2 o k z1 z2 (by omega), k3 o k z1 z2 z3]
      rw [ekX12_said_3_8]
      cases hp : ev S c 0 i
      · rw [if_pos (by decide), bX12_said_6, n32_succ]
        have ec : cntN (fun b => ev S c 0 b) (i + 1) = cntN (fun b => ev S c 0 b) i := by rw [cntN_s, hp]; rfl
        rw [← ec]
        exact ih (i + 1) (by omega) P hP hP2 f3 (fnd_on h0 (fun z => by rw [hp] at z; exact absurd z.1 (by decide)))
      · rw [if_neg (by decide), bX12_said_4]
        by_cases q : n32 (cntN (fun b => ev S c 0 b) i) = x
        · rw [if_pos q]
          have hf := fnd_hit (by omega) h0 hp q m
          rw [show i + 1 + m = sB S by omega] at hf
          have nx : ¬ x = -1 := by rw [← q]; exact n32_m1 (by omega)
          refine RR_I ⟨rfl, ?_, hP, f3⟩
          unfold sdV
          rw [if_neg nx, hf]
        · rw [if_neg q, bX12_said_5, bX12_said_6, n32_succ, n32_succ]
          have ec : cntN (fun b => ev S c 0 b) (i + 1) = cntN (fun b => ev S c 0 b) i + 1 := by rw [cntN_s, hp]; rfl
          rw [← ec]
          exact ih (i + 1) (by omega) P hP hP2 f3 (fnd_on h0 (fun z => q z.2))
  exact main (sB S) 0 (by omega) K hK hF f0 rfl
theorem said_inv (h : Inv I J) (f1 : ∀ o k, ¬ (46 ≤ o ∧ o < 71) → (o ≠ 6 ∨ k ≠ 3) → K o k = I o k) (hC : CS (I 211) (nmN J) K J) (f2 : sgr M K) (hR : RS (I 211) M) : Inv M J := by
  obtain ⟨_, _, h3, ⟨m, o, h4⟩, h5⟩ := h
  have e211 : M 211 = I 211 := hR.2.1
  have ck : ∀ q k, q < 209 → M q k = K q k := fun q k z => f2 q k (by omega) (by omega) (Or.inl (by omega))
  unfold Inv
  rw [e211]
  refine ⟨?_, hR, h3, ⟨m, o, HM_c (fun k hk => ?_) ?_ ?_ (fun i k hi => ?_) h4⟩, Rest_c (fun q k hv => ?_) (fun _ _ _ => rfl) (fun _ _ => rfl) rfl (fun _ _ => rfl) (wf_V8 hR.1.1) h5⟩
  · exact CS_o (fun q k z1 z2 => ck q k (by omega)) (ck 6 3 (by omega)) hC
  · rw [ck 79 k (by omega), f1 79 k (by omega) (Or.inl (by decide))]
  · rw [f2 209 38 (by omega) (by omega) (Or.inr (by omega)), f1 209 38 (by omega) (Or.inl (by decide))]
  · funext k
    rw [f2 222 k (by omega) (by omega) (Or.inl (by decide)), f1 222 k (by omega) (Or.inl (by decide))]
  · rw [ck _ k (by omega), f1 _ k (by omega) (Or.inl (by omega))]
  · unfold vI at hv
    rw [f2 q k (by omega) (by omega) (by omega), f1 q k (by omega) (by omega)]
theorem s_said (x : Int32) : stp 146 265 [.int x] := by
  intro d e L I J h
  obtain ⟨hC, hR, hNZ, hH, hNB, ht, ⟨c, c1, c2, c3, c4, c5, c6⟩, _⟩ := id h
  by_cases q : c = 0 ∨ x < -1
  · have a1 : xcall xprog (d + 40) 146 [.ref 0, .int x] (xst e L I J) = some (some (.int (-1)), xst e L I J) := by
      rw [aX11_said, bX11_said_0]
      by_cases z : I 42 0 = 0
      · rw [if_pos z, bX11_said_1]
      · rw [if_neg z]
        have zx : x < -1 := by
          rcases q with q | q
          · exact absurd (c4.mpr q) z
          · exact q
        rw [if_pos zx, bX11_said_1]
    have a2 : xcall xprog (d + 40) 265 [.ref 209, .int x] (xst e L I J) = some (some (.int (-1)), xst e L (xu I 209 0 0) J) := by
      rw [aX12_said, bX12_said_0, c2]
      by_cases z : n32 c = 0
      · rw [if_pos z, bX12_said_1]
      · rw [if_neg z]
        have zx : x < -1 := by
          rcases q with q | q
          · exact absurd (by rw [q]; rfl) z
          · exact q
        rw [if_pos zx, bX12_said_1]
    refine RR_eq a1 (RR_I ?_)
    exact RR_eq a2 (RR_I ⟨rfl, Inv_0 h⟩)
  have hc0 : 0 < c := by
    rcases Nat.eq_zero_or_pos c with z | z
    · exact absurd (Or.inl z) q
    · exact z
  have hx : ¬ x < -1 := fun z => q (Or.inr z)
  have z42 : ¬ I 42 0 = 0 := fun z => by have := c4.mp z; omega
  refine RR_wI (c_said (d := d + 32) hC c1 hc0 c3 z42 (c5 hc0) c6 hx) (fun r K J' ⟨j1, r1, hK, f1⟩ => ?_)
  subst j1 r1
  refine RR_wI (r_said (d := d + 29) (RS_cf (fun q k z => f1 q k (by omega) (by omega)) hR) c1 hc0 c2 (c5 hc0) (fun i hi => (c6 i hi).1) hx) (fun r M J2 ⟨j2, r2, hM, f2⟩ => ?_)
  subst j2
  exact ⟨r2.symm, said_inv h f1 hK f2 hM⟩
end SAV
