/-! Both sides' states, and what follows from them worked out anew. -/
def WS (S : TS) : Prop := wfT S ∧ wfK S ∧ wfL S
def CS (S : TS) (N : Nat → Int64) (I : TI) (J : TJ) : Prop := WS S ∧ Tr 7 S N I J ∧ Ac 37 S I ∧ (I 6 3 = 0 → Fi S I)
def RS (S : TS) (I : TI) : Prop := WS S ∧ I 211 = S ∧ (I 209 34 ≠ 0 → Rf S I)
/-- nothing but what the class works out has changed -/
def cfr (K I : TI) : Prop := ∀ o k, ¬ (47 ≤ o ∧ o < 71) → (o ≠ 6 ∨ k ≠ 3) → K o k = I o k
/-- nothing but what the reference works out has changed -/
def rfr (K I : TI) : Prop := ∀ o k, ¬ (217 ≤ o ∧ o < 222) → (o ≠ 209 ∨ ¬ (k = 0 ∨ (26 ≤ k ∧ k ≤ 34))) → K o k = I o k
/-- the same, and the flag too stays -/
def lfr (K I : TI) : Prop := ∀ o k, ¬ (217 ≤ o ∧ o < 222) → (o ≠ 209 ∨ ¬ (26 ≤ k ∧ k ≤ 34)) → K o k = I o k
section ST
variable {d e L : Nat} {S : TS} {N : Nat → Int64} {I K M : TI} {J : TJ}
theorem cfr_r : cfr I I := fun _ _ _ _ => rfl
theorem rfr_r : rfr I I := fun _ _ _ _ => rfl
theorem cfr_t (h : cfr M K) (h' : cfr K I) : cfr M I := fun o k z1 z2 => (h o k z1 z2).trans (h' o k z1 z2)
theorem rfr_t (h : rfr M K) (h' : rfr K I) : rfr M I := fun o k z1 z2 => (h o k z1 z2).trans (h' o k z1 z2)
theorem CS_c (h : cfr K I) (hF : K 6 3 = 0 → Fi S K) (hC : CS S N I J) : CS S N K J := ⟨hC.1, Tr_c (fun o k q1 q2 => h o k (by omega) (Or.inl (by omega))) hC.1.1 hC.2.1, Ac_c (fun o k q1 q2 => h o k (by omega) (Or.inl (by omega))) hC.2.2.1, hF⟩
theorem lfr_r : lfr I I := fun _ _ _ _ => rfl
theorem lfr_rfr (h : lfr K I) : rfr K I := fun o k z1 z2 => h o k z1 (by omega)
theorem RS_c (h : rfr K I) (hF : K 209 34 ≠ 0 → Rf S K) (hC : RS S I) : RS S K := ⟨hC.1, (funext fun k => h 211 k (by omega) (Or.inl (by omega))).trans hC.2.1, hF⟩
theorem rfr_0 {x : Int32} : rfr (xu I 209 0 x) I := fun o k z1 z2 => by
  by_cases z : o = 209
  · subst z
    rw [xu_kne (by omega)]
  · rw [xu_rne z]
theorem Rf_0 {x : Int32} (h : Rf S I) : Rf S (xu I 209 0 x) := by
  obtain ⟨h1, h2, h3, h4, h5, h6, h7, h8, h9, h10, n, h11, h12, h13⟩ := h
  refine ⟨RT_c (by rw [xu_rne (by decide)]) (by rw [xu_rne (by decide)]) h1, ?_, ?_, ?_, ?_, ?_, ?_, ?_, ?_, ?_, n, h11, ?_, ?_⟩
  · rw [xu_kne (by decide), h2]
  · rw [xu_kne (by decide), h3]
  · rw [xu_kne (by decide), h4]
  · rw [xu_kne (by decide), h5]
  · rw [xu_kne (by decide), h6]
  · rw [xu_kne (by decide), h7]
  · rw [xu_kne (by decide), h8]
  · rw [xu_rne (by decide)]; exact h9
  · rw [xu_rne (by decide)]; exact h10
  · rw [xu_kne (by decide), h12]
  · rw [xu_rne (by decide)]; exact h13
theorem RS_0 {x : Int32} (h : RS S I) : RS S (xu I 209 0 x) := ⟨h.1, by rw [xu_rne (by decide)]; exact h.2.1, fun q => Rf_0 (h.2.2 (by rwa [xu_kne (by decide)] at q))⟩
theorem c_fresh (h : CS S N I J) : RR (xcall xprog (d + 6) 44 [.ref 47] (xst e L I J)) (zV e L fun K J' => J' = J ∧ cfr K I ∧ Fi S K ∧ CS S N K J) := by
  obtain ⟨⟨w1, w2, w3⟩, hT, hA, hF⟩ := h
  refine RR_wV (c_refresh hT w1 hA w2 w3 hF) (fun K J' ⟨h1, h2, h3, h4⟩ => ⟨h1, h2, h3, CS_c h2 (fun _ => h3) ⟨⟨w1, w2, w3⟩, hT, hA, hF⟩⟩)
theorem r_lays (h : RS S I) : RR (xcall xprog (d + 7) 200 [.ref 209] (xst e L I J)) (zV e L fun K J' => J' = J ∧ lfr K I ∧ Rf S K ∧ RS S K) := by
  obtain ⟨⟨hw, hk, hl⟩, hS, hF⟩ := h
  have h20 := wf_B hw
  have fin : ∀ K : TI, lfr K I → Rf S K → RS S K := fun K z1 z2 => RS_c (lfr_rfr z1) (fun _ => z2) ⟨⟨hw, hk, hl⟩, hS, hF⟩
  refine RR_eq ((aX12_lays _ e L I J).trans (bX12_lays_0 _ e L I J)) ?_
  refine RR_if (fun h => ?_) (fun h => ?_)
  rotate_left
  · exact RR_V ⟨rfl, lfr_r, hF h, fin _ lfr_r (hF h)⟩
  refine RR_eq (bX12_lays_1 _ e L I J) ?_
  have hS0 : (xu I 209 34 1) 211 = S := by rw [xu_rne (by decide), hS]
  refine RR_cV (r_laysBlocks (d := d + 5) hS0 hw) (fun I1 J1 ⟨j1, f1, x1⟩ => ?_)
  subst j1
  have hS1 : I1 211 = S := (f1 211 (by decide) (by decide)).trans hS0
  rw [ekX12_lays_1_4]
  refine RR_cV (r_laysVotes (d := d + 2) hS1 hw x1 hk) (fun I2 J2 ⟨j2, f2, x2m, x31, x28, x33⟩ => ?_)
  subst j2
  have hS2 : I2 211 = S := (funext fun k => f2 211 k (by decide) (Or.inl (by decide))).trans hS1
  rw [ekX12_lays_1_6]
  have g2 : ∀ o k, ¬ (217 ≤ o ∧ o < 222) → (o ≠ 209 ∨ ¬ (26 ≤ k ∧ k ≤ 34)) → I2 o k = I o k := fun o k z1 z2 => by
    rw [f2 o k (by omega) (by omega), f1 o (by omega) (by omega)]
    by_cases z : o = 209
    · subst z
      rw [xu_kne (by omega)]
    · rw [xu_rne z]
  have hR2 : RT S I2 := RT_c (funext fun k => f2 217 k (by decide) (Or.inl (by decide))) (funext fun k => f2 218 k (by decide) (Or.inl (by decide))) x1
  rw [hS2, wf_2 hw]
  generalize hI3 : (xu (xu (xu (xu (xu I2 209 26 0) 209 27 0) 209 29 (-1)) 209 30 0) 209 32 0) = I3
  have f3 : ∀ o k, (o ≠ 209 ∨ ¬ (k = 26 ∨ k = 27 ∨ k = 29 ∨ k = 30 ∨ k = 32)) → I3 o k = I2 o k := by
    rw [← hI3]
    exact fro (P := fun k => k = 26 ∨ k = 27 ∨ k = 29 ∨ k = 30 ∨ k = 32) (by simp) (fro (by simp) (fro (by simp) (fro (by simp) (fro (by simp) (fun _ _ _ => rfl)))))
  have g3 : lfr I3 I := fun o k z1 z2 => by rw [f3 o k (by omega), g2 o k z1 z2]
  have hR3 : RT S I3 := RT_c (funext fun k => f3 217 k (Or.inl (by decide))) (funext fun k => f3 218 k (Or.inl (by decide))) hR2
  by_cases h0 : sB S = 0
  · rw [h0, if_pos (show n32 0 = 0 from rfl)]
    have rf : Rf S I3 := by
      refine ⟨hR3, ?_, ?_, ?_, ?_, ?_, ?_, ?_, ?_, fun b hb => by omega, 0, ⟨by omega, fun k hk => absurd hk (Nat.not_lt_zero k), if_pos h0⟩, ?_, fun k hk => absurd hk (Nat.not_lt_zero k)⟩
      · rw [← hI3, xu_kne (by decide), xu_kne (by decide), xu_kne (by decide), xu_kne (by decide), xu_ee]
        unfold jS
        rw [h0]
        rfl
      · rw [← hI3, xu_kne (by decide), xu_kne (by decide), xu_kne (by decide), xu_ee]
        unfold fS
        rw [h0]
        rfl
      · rw [f3 209 28 (Or.inr (by decide)), x28]
      · rw [f3 209 33 (Or.inr (by decide)), x33]
      · rw [f3 209 31 (Or.inr (by decide)), x31]
      · rw [← hI3, xu_ee]
        unfold cmS
        rw [h0]
        rfl
      · rw [← hI3, xu_kne (by decide), xu_kne (by decide), xu_ee]
        exact (if_pos h0).symm
      · intro s t z1 z2
        rw [f3 219 _ (Or.inl (by decide)), x2m s t z1 z2]
      · rw [← hI3, xu_kne (by decide), xu_ee]
        rfl
    exact RR_V ⟨rfl, g3, rf, fin _ g3 rf⟩
  · have hz : ¬ n32 (sB S) = 0 := fun q => h0 ((n32_inj (b := 0) (by omega) (by omega)).mp q)
    rw [if_neg hz]
    have hB : 0 < sB S := by omega
    have hS3 : I3 211 = S := (funext fun k => f3 211 k (Or.inl (by decide))).trans hS2
    refine RR_eq (bX12_lays_2 _ e L I3 J2) ?_
    refine RR_cV (r_laysJust (d := d) hS3 hw hR3 hk hB (fun s t z1 z2 => by rw [f3 219 _ (Or.inl (by decide)), x2m s t z1 z2])) (fun I4 J4 ⟨j4, f4, x26, x27, x32, x29⟩ => ?_)
    subst j4
    rw [ekX12_lays_2_1]
    have hS4 : I4 211 = S := (funext fun k => f4 211 k (Or.inl (by decide))).trans hS3
    have o4 : I4 209 28 = ofS S := by rw [f4 209 28 (Or.inr (by unfold jk; decide)), f3 209 28 (Or.inr (by decide)), x28]
    refine RR_cV (r_laysWay (d := d + 4) hS4 hw hl hB o4 x29) (fun I5 J5 ⟨j5, f5, x220, n, xn, x30, x221⟩ => ?_)
    subst j5
    rw [ekX12_lays_2_3]
    have g5 : lfr I5 I := fun o k z1 z2 => by rw [f5 o k (by omega) (by omega) (by omega), f4 o k (by unfold jk; omega), g3 o k z1 z2]
    have rf : Rf S I5 := by
      refine ⟨RT_c (funext fun k => (f5 217 k (by decide) (by decide) (Or.inl (by decide))).trans (f4 217 k (Or.inl (by decide)))) (funext fun k => (f5 218 k (by decide) (by decide) (Or.inl (by decide))).trans (f4 218 k (Or.inl (by decide)))) hR3, ?_, ?_, ?_, ?_, ?_, ?_, ?_, ?_, x220, n, xn, x30, x221⟩
      · rw [f5 209 26 (by decide) (by decide) (Or.inr (by decide)), x26]
      · rw [f5 209 27 (by decide) (by decide) (Or.inr (by decide)), x27]
      · rw [f5 209 28 (by decide) (by decide) (Or.inr (by decide)), o4]
      · rw [f5 209 33 (by decide) (by decide) (Or.inr (by decide)), f4 209 33 (Or.inr (by unfold jk; decide)), f3 209 33 (Or.inr (by decide)), x33]
      · rw [f5 209 31 (by decide) (by decide) (Or.inr (by decide)), f4 209 31 (Or.inr (by unfold jk; decide)), f3 209 31 (Or.inr (by decide)), x31]
      · rw [f5 209 32 (by decide) (by decide) (Or.inr (by decide)), x32]
      · rw [f5 209 29 (by decide) (by decide) (Or.inr (by decide)), x29]
        exact (if_neg h0).symm
      · intro s t z1 z2
        rw [f5 219 _ (by decide) (by decide) (Or.inl (by decide)), f4 219 _ (Or.inl (by decide)), f3 219 _ (Or.inl (by decide)), x2m s t z1 z2]
    exact RR_V ⟨rfl, g5, rf, fin _ g5 rf⟩
end ST
