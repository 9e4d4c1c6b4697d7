/-! A draft of a chain: voters and epochs come to it. -/
/-- names of the draft -/
def dN (N : TJ) : Nat → Int64 := fun k => if k < 28 then N 215 (28 + k) else 0
def sepoch (S : TS) (m : Nat) : TS := up S 0 (n32 m)
def svoter (S : TS) (w : Nat) : TS := up (up S (4 + sV S) (n32 w)) 1 (n32 (sV S + 1))
theorem G0_98 : ∀ i, i < 20 → xrf (G0, 0, 0) 98 i = some (99 + i) := by decide
theorem G0_99 : ∀ b, b < 20 → xn G0 (99 + b) = some (14, 8, []) := by decide
section DRF
variable {d d' e L : Nat} {S S' : TS} {D D' : Nat → Int64} {T : Nat → Int32} {I K K2 M M' M2 : TI} {J J' J2 N N' N2 : TJ} {p q n k i m a j b v most g lo hi fr : Nat} {s t : Bool} {x y : Int32} {w : Int64}
theorem xaR_98 {c : Nat → Option xOut} (hi : i < 20) : xaR (xst e L I J) 98 (n32 i) c = c (99 + i) := xaR_of (n := 20) rfl rfl (G0_98 i hi) hi (by omega)
theorem wt_nw (hwp : ∀ b, 0 < b → b < n → par S b < b) (h : ∀ b, b < n → S (32 + b) ≠ n32 v) (hb : b < n) : wt S b v = S (4 + v) := by
  induction b using Nat.strongRecOn with
  | _ b ih =>
    rw [wt, if_neg (h b hb)]
    by_cases z : par S b < b
    · rw [if_pos z]
      exact ih _ z (by omega)
    · rw [if_neg z]
theorem vt_V (h : sV S < 8) : sV (svoter S m) = sV S + 1 := by
  unfold sV svoter
  rw [up_eq]
  exact n32_nat (by show sV S + 1 < _; omega)
theorem vt_k (h1 : k ≠ 1) (h2 : k ≠ 4 + sV S) : svoter S m k = S k := by
  unfold svoter
  rw [up_ne h1, up_ne h2]
theorem vt_par (h : sV S < 8) : par (svoter S m) = par S := by
  funext b
  unfold par
  rw [vt_k (by omega) (by omega)]
theorem vt_wf (hw : wfT S) (h : sV S < 8) (hm : m ≤ 9) : wfT (svoter S m) := by
  have eB : sB (svoter S m) = sB S := by unfold sB; rw [vt_k (by omega) (by omega)]
  have eE : sE (svoter S m) = sE S := by unfold sE; rw [vt_k (by omega) (by omega)]
  unfold wfT
  rw [eB, eE, vt_V h, vt_par h]
  refine ⟨wf_E1 hw, wf_E4 hw, ?_, by omega, up_eq, wf_B hw, ?_, fun v hv => ?_, fun h0 => ?_, fun b h0 hb => ?_, fun b hb => ?_⟩
  · rw [vt_k (by omega) (by omega)]; exact wf_0 hw
  · rw [vt_k (by omega) (by omega)]; exact wf_2 hw
  · by_cases z : v = sV S
    · subst z
      exact ⟨m, hm, (up_ne (by omega)).trans up_eq⟩
    · rw [vt_k (by omega) (by omega)]
      exact wf_w hw (by omega)
  · rw [vt_k (by omega) (by omega)]; exact wf_p0 hw h0
  · rw [vt_k (by omega) (by omega)]; exact wf_p hw h0 hb
  · rw [vt_k (by omega) (by omega), vt_k (by omega) (by omega)]
    obtain ⟨h1, h2⟩ := wf_ch hw hb
    refine ⟨?_, h2⟩
    rcases h1 with h1 | ⟨v, h3, h4⟩
    · exact Or.inl h1
    · exact Or.inr ⟨v, by omega, h4⟩
theorem Tr_sv {t : Nat} (hT : Tr t S D I J) (hw : wfT S) (h : sV S < 8) (hm : m ≤ 9) (h1 : K t 0 = I t 0) (h2 : K t 1 = n32 (sV S + 1)) (h3 : K t 2 = I t 2) (hj1 : ∀ v, v < sV S → J' (t + 1) v = J (t + 1) v) (hj2 : J' (t + 1) (sV S) = D' (sV S)) (hD : ∀ v, v < sV S → D' v = D v) (hk1 : ∀ v, v < sV S → K (t + 2) v = I (t + 2) v) (hk2 : K (t + 2) (sV S) = n32 m) (hj3 : ∀ b, b < sB S → J' (t + 3) b = J (t + 3) b) (hDb : ∀ b, b < sB S → D' (8 + b) = D (8 + b)) (hk4 : ∀ q b, 4 ≤ q → q ≤ 8 → K (t + q) b = I (t + q) b) (hk10 : ∀ b v, b < sB S → v < sV S → K (t + 10 + b) v = I (t + 10 + b) v) (hk11 : ∀ b, b < sB S → K (t + 10 + b) (sV S) = n32 m) : Tr t (svoter S m) D' K J' := by
  obtain ⟨a0, a1, a2, a3, a4⟩ := hT
  have eB : sB (svoter S m) = sB S := by unfold sB; rw [vt_k (by omega) (by omega)]
  have eE : sE (svoter S m) = sE S := by unfold sE; rw [vt_k (by omega) (by omega)]
  have ep := vt_par (m := m) h
  have h20 := wf_B hw
  refine ⟨?_, ?_, ?_, fun v hv => ?_, fun b hb => ?_⟩
  · rw [h1, a0, vt_k (by omega) (by omega)]
  · rw [h2]; exact up_eq.symm
  · rw [h3, a2, vt_k (by omega) (by omega)]
  · rw [vt_V h] at hv
    by_cases z : v = sV S
    · subst z
      exact ⟨hj2, hk2.trans ((up_ne (by omega)).trans up_eq).symm⟩
    · rw [vt_k (by omega) (by omega), hj1 v (by omega), hk1 v (by omega), hD v (by omega)]
      exact a3 v (by omega)
  · rw [eB] at hb
    obtain ⟨q1, q2, q3, q4, q5, q6, q7⟩ := a4 b hb
    have eh : hei (svoter S m) b = hei S b := by unfold hei; rw [ep]
    have el : lvc (svoter S m) b = lvc S b := by unfold lvc pt lv; rw [eh, eE]
    rw [vt_k (by omega) (by omega), vt_k (by omega) (by omega), ep, eh, el, hj3 b hb, hDb b hb, hk4 4 b (by omega) (by omega), hk4 5 b (by omega) (by omega), hk4 6 b (by omega) (by omega), hk4 7 b (by omega) (by omega), hk4 8 b (by omega) (by omega)]
    refine ⟨q1, q2, q3, q4, q5, q6, fun v hv => ?_⟩
    rw [vt_V h] at hv
    by_cases z : v = sV S
    · subst z
      have e4 : svoter S m (4 + sV S) = n32 m := (up_ne (by omega)).trans up_eq
      rw [hk11 b hb, wt_nw (S := svoter S m) (n := sB S) (fun b h0 hb => by rw [ep]; exact (wf_p hw h0 hb).2) (fun b hb => ?_) hb, e4]
      rw [vt_k (by omega) (by omega)]
      intro y
      rcases (wf_ch hw hb).1 with z | ⟨v', z1, z2⟩
      · rw [z] at y
        exact n32_ne1 (by omega) y.symm
      · rw [z2] at y
        have := (n32_inj (by omega) (by omega)).mp y
        omega
    · rw [hk10 b v hb (by omega), q7 v (by omega)]
      exact wt_c (n := sB S) (vt_k (by omega) (by omega)).symm (fun b hb => ⟨(vt_k (by omega) (by omega)).symm, (vt_k (by omega) (by omega)).symm, (vt_k (by omega) (by omega)).symm⟩) hb
theorem c_addVoter (hT : Tr 89 S D I J) (hw : wfT S) (h : sV S < 8) (hm : m ≤ 9) (hx : x = n32 m) (hD : ∀ v, v < sV S → D' v = D v) (hDb : ∀ b, b < sB S → D' (8 + b) = D (8 + b)) (hDn : D' (sV S) = w) : ∃ K, xcall xprog (d + 1) 20 [.ref 89, .long w, .int x] (xst e L I J) = some (none, xst e L K (xu J 90 (sV S) w)) ∧ (∀ o k, ¬ (89 ≤ o ∧ o < 119) → K o k = I o k) ∧ Tr 89 (svoter S m) D' K (xu J 90 (sV S) w) := by
  subst hx
  have h20 := wf_B hw
  have hV : I 89 1 = n32 (sV S) := hT.2.1.trans (wf_1 hw)
  have e8 : (n32 (sV S) < 8) := (n32_lt (b := 8) (by omega) (by omega)).mpr h
  have main : ∀ c b (K : TI), b + c = 20 → K 89 1 = n32 (sV S) → (∀ i, i < b → K (99 + i) (sV S) = n32 m) → (∀ o k, ¬ (o = 91 ∧ k = sV S) → ¬ (99 ≤ o ∧ o < 99 + b ∧ k = sV S) → K o k = I o k) → K 91 (sV S) = n32 m → ∃ K2, xlim (xcall xprog d) mX2_addVoter 2 [.ref 89, xD, xD, .int (n32 m), .int (n32 b)] [] (xst e L K (xu J 90 (sV S) w)) = some (none, xst e L K2 (xu J 90 (sV S) w)) ∧ K2 89 1 = n32 (sV S + 1) ∧ (∀ i, i < 20 → K2 (99 + i) (sV S) = n32 m) ∧ (∀ o k, ¬ (o = 91 ∧ k = sV S) → ¬ (99 ≤ o ∧ o < 119 ∧ k = sV S) → ¬ (o = 89 ∧ k = 1) → K2 o k = I o k) ∧ K2 91 (sV S) = n32 m := by
    intro c
    induction c with
    | zero =>
      intro b K hb k1 k2 k3 k4
      have : b = 20 := by omega
      subst this
      refine ⟨xu K 89 1 (n32 (sV S + 1)), ?_, xu_ee, fun i hi => ?_, fun o k z1 z2 z3 => ?_, ?_⟩
      · rw [bX2_addVoter_2, if_neg (by decide), bX2_addVoter_3, k1, n32_succ]
      · rw [xu_rne (by omega), k2 i hi]
      · by_cases y : o = 89
        · subst y
          rw [xu_kne (by omega), k3 89 k (by omega) (by omega)]
        · rw [xu_rne y, k3 o k z1 (by omega)]
      · rw [xu_rne (by omega), k4]
    | succ c ih =>
      intro b K hb k1 k2 k3 k4
      have hb20 : b < 20 := by omega
      obtain ⟨K2, r1, r2, r3, r4, r5⟩ := ih (b + 1) (xu K (99 + b) (sV S) (n32 m)) (by omega) (by rw [xu_rne (by omega), k1]) (fun i hi => by
        by_cases y : i = b
        · rw [y, xu_ee]
        · rw [xu_rne (by omega), k2 i (by omega)]) (fun o k z1 z2 => by
        by_cases y : o = 99 + b
        · subst y
          rw [xu_kne (by omega), k3 _ k z1 (by omega)]
        · rw [xu_rne y, k3 o k z1 (by omega)]) (by rw [xu_rne (by omega), k4])
      refine ⟨K2, ?_, r2, r3, r4, r5⟩
      rw [bX2_addVoter_2, if_pos ((q20l (by omega)).mpr hb20), xaR_98 hb20, k1, xok_of (G0_99 b hb20) h (by omega), cond_true, n32_nat (by omega), n32_succ]
      exact r1
  obtain ⟨K2, r1, r2, r3, r4, r5⟩ := main 20 0 (xu I 91 (sV S) (n32 m)) (by omega) (by rw [xu_rne (by omega), hV]) (fun i hi => absurd hi (Nat.not_lt_zero i)) (fun o k z1 z2 => by
    by_cases y : o = 91
    · subst y
      rw [xu_kne (by omega)]
    · rw [xu_rne y]) xu_ee
  refine ⟨K2, ?_, fun o k z => r4 o k (by omega) (by omega) (by omega), Tr_sv hT hw h hm (r4 89 0 (by omega) (by omega) (by omega)) r2 (r4 89 2 (by omega) (by omega) (by omega)) (fun v hv => xu_kne (by omega)) (xu_ee.trans hDn.symm) hD (fun v hv => r4 91 v (by omega) (by omega) (by omega)) r5 (fun b hb => by rw [xu_rne (by omega)]) hDb (fun q b z1 z2 => r4 _ b (by omega) (by omega) (by omega)) (fun b v hb hv => r4 _ v (by omega) (by omega) (by omega)) (fun b hb => r3 b (by omega))⟩
  rw [aX2_addVoter, bX2_addVoter_0, hV, if_pos e8, bX2_addVoter_1, hV, xin_n32 (by omega) h, cond_true, cond_true, n32_nat (by omega)]
  exact r1
theorem c_hasName {V B : Nat} (hV : I 89 1 = n32 V) (h8 : V ≤ 8) (hB : I 89 2 = n32 B) (h20 : B ≤ 20) : xcall xprog (d + 2) 30 [.ref 89, .long w] (xst e L I J) = some (some (.int (bI (!(decide (fw (J 90) w V = -1) && decide (fw (J 92) w B = -1))))), xst e L I J) := by
  rw [aX2_hasName, bX2_hasName_0, c_voterNamed_89 hV h8, xcI_some, ekX2_hasName_0_2]
  by_cases z : fw (J 90) w V = -1
  · rw [if_pos z, c_blockNamed_89 hB h20, xcI_some, ekX2_hasName_0_7, decide_eq_true z]
    by_cases y : fw (J 92) w B = -1
    · rw [if_pos y, bX2_hasName_2, bX2_hasName_3, decide_eq_true y]; rfl
    · rw [if_neg y, bX2_hasName_1, bX2_hasName_3, decide_eq_false y]; rfl
  · rw [if_neg z, bX2_hasName_1, bX2_hasName_3, decide_eq_false z]; rfl
end DRF
