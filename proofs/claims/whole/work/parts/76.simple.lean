/-! Calls that change little. -/
/-- cells of the rest that stay -/
def wI (o : Nat) : Prop := (42 ≤ o ∧ o ≤ 45) ∨ (126 ≤ o ∧ o ≤ 164) ∨ (167 ≤ o ∧ o ≤ 205) ∨ o = 207 ∨ o = 229 ∨ o = 231
def Cel (I : TI) : Prop := I 71 0 = I 209 40 ∧ I 71 1 = I 209 41 ∧ I 0 16 = I 209 16
def gI (o k : Nat) : Prop := (6 ≤ o ∧ o < 71 ∧ o ≠ 46) ∨ (o = 79 ∧ (k = 1 ∨ k = 2)) ∨ (81 ≤ o ∧ o < 89) ∨ (126 ≤ o ∧ o ≤ 164) ∨ (167 ≤ o ∧ o ≤ 205) ∨ o = 207 ∨ (o = 209 ∧ ((26 ≤ k ∧ k ≤ 34) ∨ k = 38)) ∨ o = 211 ∨ (217 ≤ o ∧ o < 223) ∨ o = 229 ∨ o = 231
def gJ (o : Nat) : Prop := (7 < o ∧ o ≤ 10) ∨ vJ o
section SIM
variable {d e L : Nat} {S S' : TS} {N N' : Nat → Int64} {I K M : TI} {J J' : TJ} {a b s t v k i n r m o q : Nat}
theorem Im_w (hI : ∀ o k, wI o → K o k = I o k) (hJ : ∀ o k, vJ o → J' o k = J o k) (hk : k < 2) (h : Im I J k) : Im K J' k := by
  obtain ⟨h1, h2, h3, h4, h5, h6⟩ := h
  have es : imS K k = imS I k := funext fun i => hI 229 _ (by unfold wI; omega)
  have en : imN J' k = imN J k := funext fun i => hJ 230 _ (by unfold vJ; omega)
  unfold Im
  rw [es, en]
  refine ⟨h1, h2, h3, Tr_J (fun o k z1 z2 => hI o k (by unfold wI; omega)) (fun o k z1 z2 => hJ o k (by unfold vJ; omega)) h1.1 h4, Ac_c (fun o k z1 z2 => hI o k (by unfold wI; omega)) h5, Se_c (fun _ _ => rfl) (fun o k z1 z2 => hI o k (by unfold wI; omega)) h6⟩
theorem Rest_m (hI : ∀ o k, wI o → K o k = I o k) (hJ : ∀ o k, vJ o → J' o k = J o k) (hS : ∀ k, 224 ≤ k → S k = S' k) (hV : S 1 = S' 1) (hN : ∀ k, k < 8 → N k = N' k) (hV8 : sV S ≤ 8) (ht : Tape K) (hg : Tag K) (hc : Cel K) (hd : Told K) (h : Rest S N I J) : Rest S' N' K J' := by
  obtain ⟨h0, _, h2, h3, _, _, _, h7⟩ := h
  refine ⟨fun v hv => ?_, ht, Se_c hS (fun o k z1 z2 => hI o k (by unfold wI; omega)) h2, fun k hk => ⟨?_, fun q => ?_⟩, hg, hc, hd, fun k hk => ?_⟩
  · have eV : sV S' = sV S := by unfold sV; rw [hV]
    rw [eV] at hv
    rw [← hN v (by omega)]
    exact h0 v hv
  · rw [hI 207 k (by unfold wI; omega), hI 231 k (by unfold wI; omega)]
    exact (h3 k hk).1
  · rw [hI 207 k (by unfold wI; omega)] at q
    exact Im_w hI hJ hk ((h3 k hk).2 q)
  · rw [hJ 216 k (by unfold vJ; omega), h7 k hk]
theorem Fi_c (h : ∀ o k, 47 ≤ o → o < 71 → K o k = I o k) (hF : Fi S I) : Fi S K := by
  obtain ⟨h1, h2, h3, h4, h5, h6, h7, h8, h9, n, h10, h11, h12, h13⟩ := hF
  have hc : ∀ k, K 47 k = I 47 k := fun k => h 47 k (by decide) (by decide)
  exact ⟨by rw [hc, h1], by rw [hc, h2], by rw [hc, h3], by rw [hc, h4], by rw [hc, h5], by rw [hc, h6], by rw [hc, h7], fun s t z1 z2 => by rw [h (51 + s) t (by omega) (by omega), h8 s t z1 z2], fun b hb => by rw [h 49 b (by decide) (by decide), h9 b hb], n, h10, by rw [hc, h11], fun k hk => by rw [h 48 k (by decide) (by decide), h12 k hk], by rw [hc]; exact h13⟩
theorem Rf_c (h : ∀ o k, 217 ≤ o → o < 222 → K o k = I o k) (h9 : ∀ k, 26 ≤ k → k ≤ 33 → K 209 k = I 209 k) (hF : Rf S I) : Rf S K := by
  obtain ⟨h1, h2, h3, h4, h5, h6, h7, h8, h10, h11, n, h12, h13, h14⟩ := hF
  exact ⟨RT_c (funext fun k => h 217 k (by omega) (by omega)) (funext fun k => h 218 k (by omega) (by omega)) h1, by rw [h9 _ (by omega) (by omega), h2], by rw [h9 _ (by omega) (by omega), h3], by rw [h9 _ (by omega) (by omega), h4], by rw [h9 _ (by omega) (by omega), h5], by rw [h9 _ (by omega) (by omega), h6], by rw [h9 _ (by omega) (by omega), h7], by rw [h9 _ (by omega) (by omega), h8], fun s t z1 z2 => by rw [h 219 _ (by omega) (by omega), h10 s t z1 z2], fun b hb => by rw [h 220 b (by omega) (by omega), h11 b hb], n, h12, by rw [h9 _ (by omega) (by omega), h13], fun k hk => by rw [h 221 k (by omega) (by omega), h14 k hk]⟩
theorem CS_g (hI : ∀ o k, 6 ≤ o → o < 71 → o ≠ 46 → K o k = I o k) (hJ : ∀ o k, 7 < o → o ≤ 10 → J' o k = J o k) (hC : CS S N I J) : CS S N K J' :=
  ⟨hC.1, Tr_J (fun o k z1 z2 => hI o k (by omega) (by omega) (by omega)) hJ hC.1.1 hC.2.1, Ac_c (fun o k z1 z2 => hI o k (by omega) (by omega) (by omega)) hC.2.2.1, fun q => Fi_c (fun o k z1 z2 => hI o k (by omega) (by omega) (by omega)) (hC.2.2.2 (by rw [← hI 6 3 (by omega) (by omega) (by omega)]; exact q))⟩
theorem Inv_g (h : Inv I J) (hI : ∀ o k, gI o k → M o k = I o k) (hJ : ∀ o k, gJ o → J' o k = J o k) (hN : nmN J' = nmN J) (ht : Tape M) (hg : Tag M) (hc : Cel M) (hd : Told M) : Inv M J' := by
  obtain ⟨h1, h2, h3, ⟨m, o, h4⟩, h5⟩ := h
  have e211 : M 211 = I 211 := funext fun k => hI 211 k (by unfold gI; omega)
  unfold Inv
  rw [e211, hN]
  refine ⟨CS_g (fun o k z1 z2 z3 => hI o k (by unfold gI; omega)) (fun o k z1 z2 => hJ o k (by unfold gJ; omega)) h1, ⟨h2.1, e211, fun q => Rf_c (fun o k z1 z2 => hI o k (by unfold gI; omega)) (fun k z1 z2 => hI 209 k (by unfold gI; omega)) (h2.2.2 (by rw [← hI 209 34 (by unfold gI; omega)]; exact q))⟩, h3, ⟨m, o, HM_c (fun k hk => hI 79 k (by unfold gI; omega)) (hI 209 38 (by unfold gI; omega)) (funext fun k => hI 222 k (by unfold gI; omega)) (fun i k hi => hI _ k (by unfold gI; omega)) h4⟩, Rest_m (fun o k z => hI o k (by unfold wI at z; unfold gI; omega)) (fun o k z => hJ o k (by unfold gJ; exact Or.inr z)) (fun _ _ => rfl) rfl (fun _ _ => rfl) (wf_V8 h1.1.1) ht hg hc hd h5⟩
theorem Tape_c (h1 : K 1 1 = I 1 1) (h2 : K 209 2 = I 209 2) (h3 : K 2 = I 2) (h4 : K 210 = I 210) (h : Tape I) : Tape K := by
  obtain ⟨n, t1, t2, t3, t4⟩ := h
  exact ⟨n, t1, h1.trans t2, h2.trans t3, fun i hi => by rw [h3, h4]; exact t4 i hi⟩
theorem Tag_c (h1 : K 3 1 = I 3 1) (h2 : K 209 43 = I 209 43) (h3 : K 4 = I 4) (h4 : K 225 = I 225) (h : Tag I) : Tag K := by
  obtain ⟨n, t1, t2, t3, t4⟩ := h
  exact ⟨n, t1, h1.trans t2, h2.trans t3, fun i hi => by rw [h3, h4]; exact t4 i hi⟩
theorem Told_c (h1 : K 209 47 = I 209 47) (h2 : K 73 = I 73) (h3 : K 226 = I 226) (h : Told I) : Told K := by
  unfold Told
  rw [h1, h2, h3]
  exact h
theorem Inv_0 {x : Int32} (h : Inv I J) : Inv (xu I 209 0 x) J := by
  have e : ∀ o k, (o ≠ 209 ∨ k ≠ 0) → xu I 209 0 x o k = I o k := fun o k z => by
    by_cases q : o = 209
    · subst q
      rw [xu_kne (by omega)]
    · rw [xu_rne q]
  obtain ⟨_, _, _, _, _, ht, _, _, hg, ⟨c1, c2, c3⟩, hd, _⟩ := id h
  refine Inv_g h (fun o k z => e o k (by unfold gI at z; omega)) (fun _ _ _ => rfl) rfl (Tape_c (e _ _ (by omega)) (e _ _ (by omega)) (funext fun k => e _ _ (by omega)) (funext fun k => e _ _ (by omega)) ht) (Tag_c (e _ _ (by omega)) (e _ _ (by omega)) (funext fun k => e _ _ (by omega)) (funext fun k => e _ _ (by omega)) hg) ⟨?_, ?_, ?_⟩ (Told_c (e _ _ (by omega)) (funext fun k => e _ _ (by omega)) (funext fun k => e _ _ (by omega)) hd)
  · rw [e _ _ (by omega), e _ _ (by omega), c1]
  · rw [e _ _ (by omega), e _ _ (by omega), c2]
  · rw [e _ _ (by omega), e _ _ (by omega), c3]
theorem s_fault : stp 115 182 [] := by
  intro d e L I J h
  obtain ⟨_, _, _, _, _, ht, _, _, hg, ⟨c1, c2, c3⟩, hd, _⟩ := id h
  refine RR_eq (sX11_fault _ e L I J) (RR_I ?_)
  refine RR_eq ((aX12_fault _ e L I J).trans (bX12_fault_0 _ e L I J)) (RR_I ⟨c3, Inv_0 h⟩)
theorem s_needed : stp 132 232 [] := by
  intro d e L I J h
  obtain ⟨_, _, _, _, _, ht, _, _, hg, ⟨c1, c2, c3⟩, hd, _⟩ := id h
  refine RR_eq (sX11_needed _ e L I J) (RR_I ?_)
  refine RR_eq ((aX12_needed _ e L I J).trans (bX12_needed_0 _ e L I J)) (RR_I ⟨c1, Inv_0 h⟩)
theorem s_wayFrom : stp 134 234 [] := by
  intro d e L I J h
  obtain ⟨_, _, _, _, _, ht, _, _, hg, ⟨c1, c2, c3⟩, hd, _⟩ := id h
  refine RR_eq (sX11_wayFrom _ e L I J) (RR_I ?_)
  refine RR_eq ((aX12_wayFrom _ e L I J).trans (bX12_wayFrom_0 _ e L I J)) (RR_I ⟨c2, Inv_0 h⟩)
theorem s_told (x : Int32) : stp 144 254 [.int x] := by
  intro d e L I J h
  obtain ⟨_, _, _, _, _, ht, _, _, hg, ⟨c1, c2, c3⟩, ⟨d1, d2⟩, _⟩ := id h
  have h4 : ∀ x : Int32, (x < 4) = (x < n32 4) := fun _ => rfl
  rcases inr_or x 4 (by omega) with ⟨k, hk, rfl⟩ | hx
  · refine RR_eq (sX11_told _ e L I J _ (fun _ _ => xin_n32 (by omega) hk)) ?_
    have hk3 : k ≤ 3 := by omega
    simp (disch := omega) only [n32_ltE, n32_leE, n32_eqE, n32_eqm, m1_eqn, n32_ge0, n32_lt0, n32_nat, n32_succ, n32_add, xin_n32, xin_b1, xin_b2, cond_true, cond_false, if_true, if_false, xcI_some, xcV_some, xcJ_some, xcR_some, xu_ee, xu_rne, xu_kne, ite_self, not_true_eq_false, not_false_eq_true, ne_eq, true_and, and_true, false_and, and_false, m1_lt0, m1_eq0, eq_self, Bool.false_eq_true, reduceCtorEq, z_lt0, i1_eq0, i0_eq1, i1_eq1, xrZ0, xrZ1, xrZt, n32_eq0, n32_eq1, n32_gt0, n32_gt1, n32_lt1, n32_le1, n32_0le, tf0, tf1, xaI_of, q4a, q4b, q4m, q4l, q4g, q4r, q4s, q4e, hk]
    refine RR_I ?_
    refine RR_eq ((aX12_told _ e L I J _).trans (bX12_told_0 _ e L I J _)) ?_
    by_cases q : I 209 47 = 0
    · simp (disch := omega) only [n32_ltE, n32_leE, n32_eqE, n32_eqm, m1_eqn, n32_ge0, n32_lt0, n32_nat, n32_succ, n32_add, xin_n32, xin_b1, xin_b2, cond_true, cond_false, if_true, if_false, xcI_some, xcV_some, xcJ_some, xcR_some, xu_ee, xu_rne, xu_kne, ite_self, not_true_eq_false, not_false_eq_true, ne_eq, true_and, and_true, false_and, and_false, m1_lt0, m1_eq0, eq_self, Bool.false_eq_true, reduceCtorEq, z_lt0, i1_eq0, i0_eq1, i1_eq1, xrZ0, xrZ1, xrZt, n32_eq0, n32_eq1, n32_gt0, n32_gt1, n32_lt1, n32_le1, n32_0le, tf0, tf1, xaI_of, q, ekX12_told_0_9, bX12_told_0, bX12_told_1, bX12_told_2]
      exact RR_I ⟨d1 q k hk, Inv_0 h⟩
    · simp (disch := omega) only [n32_ltE, n32_leE, n32_eqE, n32_eqm, m1_eqn, n32_ge0, n32_lt0, n32_nat, n32_succ, n32_add, xin_n32, xin_b1, xin_b2, cond_true, cond_false, if_true, if_false, xcI_some, xcV_some, xcJ_some, xcR_some, xu_ee, xu_rne, xu_kne, ite_self, not_true_eq_false, not_false_eq_true, ne_eq, true_and, and_true, false_and, and_false, m1_lt0, m1_eq0, eq_self, Bool.false_eq_true, reduceCtorEq, z_lt0, i1_eq0, i0_eq1, i1_eq1, xrZ0, xrZ1, xrZt, n32_eq0, n32_eq1, n32_gt0, n32_gt1, n32_lt1, n32_le1, n32_0le, tf0, tf1, xaI_of, q3a, q3b, q3m, q3l, q3g, q3r, q3s, q3e, q, ekX12_told_0_9, bX12_told_0, bX12_told_1, bX12_told_2, sX12_isIn, hk3]
      exact RR_I ⟨d2 q k hk, Inv_0 h⟩
  · have hc : (if x < 0 then ((-1) : Int32) else (if x < 4 then ((I 73 (Int32.toNatClampNeg x)) : Int32) else (-1))) = -1 := by
      rcases hx with hx | hx
      · rw [if_pos hx]
      · by_cases q : x < 0
        · rw [if_pos q]
        · rw [if_neg q]
          exact if_neg hx
    refine RR_eq (sX11_told _ e L I J _ (fun z1 z2 => ?_)) ?_
    · rcases hx with hx | hx
      · exact absurd hx z1
      · exact absurd z2 hx
    rw [hc]
    refine RR_I ?_
    refine RR_eq ((aX12_told _ e L I J _).trans (bX12_told_0 _ e L I J _)) ?_
    by_cases q : I 209 47 = 0
    · simp (disch := omega) only [n32_ltE, n32_leE, n32_eqE, n32_eqm, m1_eqn, n32_ge0, n32_lt0, n32_nat, n32_succ, n32_add, xin_n32, xin_b1, xin_b2, cond_true, cond_false, if_true, if_false, xcI_some, xcV_some, xcJ_some, xcR_some, xu_ee, xu_rne, xu_kne, ite_self, not_true_eq_false, not_false_eq_true, ne_eq, true_and, and_true, false_and, and_false, m1_lt0, m1_eq0, eq_self, Bool.false_eq_true, reduceCtorEq, z_lt0, i1_eq0, i0_eq1, i1_eq1, xrZ0, xrZ1, xrZt, n32_eq0, n32_eq1, n32_gt0, n32_gt1, n32_lt1, n32_le1, n32_0le, tf0, tf1, xaI_of, q, ekX12_told_0_9, bX12_told_0, bX12_told_1, bX12_told_2]
      exact RR_I ⟨rfl, Inv_0 h⟩
    · have h3 : (x ≤ 3) = (x < n32 4) := le_pred (n := 4) (by omega)
      rcases hx with hx | hx
      · simp (disch := omega) only [n32_ltE, n32_leE, n32_eqE, n32_eqm, m1_eqn, n32_ge0, n32_lt0, n32_nat, n32_succ, n32_add, xin_n32, xin_b1, xin_b2, cond_true, cond_false, if_true, if_false, xcI_some, xcV_some, xcJ_some, xcR_some, xu_ee, xu_rne, xu_kne, ite_self, not_true_eq_false, not_false_eq_true, ne_eq, true_and, and_true, false_and, and_false, m1_lt0, m1_eq0, eq_self, Bool.false_eq_true, reduceCtorEq, z_lt0, i1_eq0, i0_eq1, i1_eq1, xrZ0, xrZ1, xrZt, n32_eq0, n32_eq1, n32_gt0, n32_gt1, n32_lt1, n32_le1, n32_0le, tf0, tf1, xaI_of, q, ekX12_told_0_9, bX12_told_0, bX12_told_1, bX12_told_2, sX12_isIn, hx]
        exact RR_I ⟨rfl, Inv_0 h⟩
      · simp (disch := omega) only [n32_ltE, n32_leE, n32_eqE, n32_eqm, m1_eqn, n32_ge0, n32_lt0, n32_nat, n32_succ, n32_add, xin_n32, xin_b1, xin_b2, cond_true, cond_false, if_true, if_false, xcI_some, xcV_some, xcJ_some, xcR_some, xu_ee, xu_rne, xu_kne, ite_self, not_true_eq_false, not_false_eq_true, ne_eq, true_and, and_true, false_and, and_false, m1_lt0, m1_eq0, eq_self, Bool.false_eq_true, reduceCtorEq, z_lt0, i1_eq0, i0_eq1, i1_eq1, xrZ0, xrZ1, xrZt, n32_eq0, n32_eq1, n32_gt0, n32_gt1, n32_lt1, n32_le1, n32_0le, tf0, tf1, xaI_of, q, ekX12_told_0_9, bX12_told_0, bX12_told_1, bX12_told_2, sX12_isIn, h3, hx]
        exact RR_I ⟨rfl, Inv_0 h⟩
theorem s_byteAt (x : Int32) : stp 140 245 [.int x] := by
  intro d e L I J h
  obtain ⟨_, _, _, _, _, ht, _, _, ⟨n, g1, g2, g3, g4⟩, _, _, _⟩ := id h
  have h0 : (xu I 209 0 0) 209 43 = n32 n := by rw [xu_kne (by decide), g3]
  rcases inr_or x n (by omega) with ⟨k, hk, rfl⟩ | hx
  · refine RR_eq (sX11_byteAt _ e L I J _ (fun _ _ => xin_n32 (by omega) (by omega))) ?_
    simp (disch := omega) only [n32_ltE, n32_leE, n32_eqE, n32_eqm, m1_eqn, n32_ge0, n32_lt0, n32_nat, n32_succ, n32_add, xin_n32, xin_b1, xin_b2, cond_true, cond_false, if_true, if_false, xcI_some, xcV_some, xcJ_some, xcR_some, xu_ee, xu_rne, xu_kne, ite_self, not_true_eq_false, not_false_eq_true, ne_eq, true_and, and_true, false_and, and_false, m1_lt0, m1_eq0, eq_self, Bool.false_eq_true, reduceCtorEq, z_lt0, i1_eq0, i0_eq1, i1_eq1, xrZ0, xrZ1, xrZt, n32_eq0, n32_eq1, n32_gt0, n32_gt1, n32_lt1, n32_le1, n32_0le, tf0, tf1, xaI_of, g2, hk]
    refine RR_I ?_
    refine RR_eq ((aX12_byteAt _ e L I J _).trans (bX12_byteAt_0 _ e L I J _)) ?_
    rw [g3, sX12_isIn]
    simp only [le_pred (show n < 1000000 by omega)]
    simp (disch := omega) only [n32_ltE, n32_leE, n32_eqE, n32_eqm, m1_eqn, n32_ge0, n32_lt0, n32_nat, n32_succ, n32_add, xin_n32, xin_b1, xin_b2, cond_true, cond_false, if_true, if_false, xcI_some, xcV_some, xcJ_some, xcR_some, xu_ee, xu_rne, xu_kne, ite_self, not_true_eq_false, not_false_eq_true, ne_eq, true_and, and_true, false_and, and_false, m1_lt0, m1_eq0, eq_self, Bool.false_eq_true, reduceCtorEq, z_lt0, i1_eq0, i0_eq1, i1_eq1, xrZ0, xrZ1, xrZt, n32_eq0, n32_eq1, n32_gt0, n32_gt1, n32_lt1, n32_le1, n32_0le, tf0, tf1, xaI_of, hk, ekX12_byteAt_0_9, bX12_byteAt_0, bX12_byteAt_1, bX12_byteAt_2]
    exact RR_I ⟨g4 k hk, Inv_0 h⟩
  · have hc : (if x < 0 then ((-1) : Int32) else (if x < (I 3 1) then ((I 4 (Int32.toNatClampNeg x)) : Int32) else (-1))) = -1 := by
      rw [g2]
      rcases hx with hx | hx
      · rw [if_pos hx]
      · by_cases q : x < 0
        · rw [if_pos q]
        · rw [if_neg q, if_neg hx]
    refine RR_eq (sX11_byteAt _ e L I J _ (fun z1 z2 => ?_)) ?_
    · rw [g2] at z2
      rcases hx with hx | hx
      · exact absurd hx z1
      · exact absurd z2 hx
    rw [hc]
    refine RR_I ?_
    refine RR_eq ((aX12_byteAt _ e L I J _).trans (bX12_byteAt_0 _ e L I J _)) ?_
    rw [g3, sX12_isIn]
    simp only [le_pred (show n < 1000000 by omega)]
    rcases hx with hx | hx
    · simp (disch := omega) only [n32_ltE, n32_leE, n32_eqE, n32_eqm, m1_eqn, n32_ge0, n32_lt0, n32_nat, n32_succ, n32_add, xin_n32, xin_b1, xin_b2, cond_true, cond_false, if_true, if_false, xcI_some, xcV_some, xcJ_some, xcR_some, xu_ee, xu_rne, xu_kne, ite_self, not_true_eq_false, not_false_eq_true, ne_eq, true_and, and_true, false_and, and_false, m1_lt0, m1_eq0, eq_self, Bool.false_eq_true, reduceCtorEq, z_lt0, i1_eq0, i0_eq1, i1_eq1, xrZ0, xrZ1, xrZt, n32_eq0, n32_eq1, n32_gt0, n32_gt1, n32_lt1, n32_le1, n32_0le, tf0, tf1, xaI_of, hx, ekX12_byteAt_0_9, bX12_byteAt_0, bX12_byteAt_1, bX12_byteAt_2]
      exact RR_I ⟨rfl, Inv_0 h⟩
    · simp (disch := omega) only [n32_ltE, n32_leE, n32_eqE, n32_eqm, m1_eqn, n32_ge0, n32_lt0, n32_nat, n32_succ, n32_add, xin_n32, xin_b1, xin_b2, cond_true, cond_false, if_true, if_false, xcI_some, xcV_some, xcJ_some, xcR_some, xu_ee, xu_rne, xu_kne, ite_self, not_true_eq_false, not_false_eq_true, ne_eq, true_and, and_true, false_and, and_false, m1_lt0, m1_eq0, eq_self, Bool.false_eq_true, reduceCtorEq, z_lt0, i1_eq0, i0_eq1, i1_eq1, xrZ0, xrZ1, xrZt, n32_eq0, n32_eq1, n32_gt0, n32_gt1, n32_lt1, n32_le1, n32_0le, tf0, tf1, xaI_of, hx, ekX12_byteAt_0_9, bX12_byteAt_0, bX12_byteAt_1, bX12_byteAt_2]
      exact RR_I ⟨rfl, Inv_0 h⟩
theorem s_count (x : Int32) : stp 149 268 [.int x] := by
  intro d e L I J h
  have hh := h
  obtain ⟨hC, hR, _, _, _, ⟨n, t1, t2, t3, t4⟩, _⟩ := hh
  refine RR_eq (c_count hC) (RR_I ?_)
  refine RR_wI (r_count (d := d + 32) hR) (fun y M J' ⟨y1, j1, f, hM⟩ => ?_)
  subst j1
  refine ⟨?_, Inv_q h cfr_r hC f hM⟩
  rw [y1, t2, t3]
theorem s_end (x : Int32) : stp 113 159 [.int x] := by
  intro d e L I J h
  have hh := h
  obtain ⟨_, _, _, _, _, ⟨n, t1, t2, t3, t4⟩, _, _, hg, ⟨c1, c2, c3⟩, hd, _⟩ := hh
  refine RR_eq ((aX11_end _ e L I J _).trans (bX11_end_0 _ e L I J _)) ?_
  rw [aX1_cut, bX1_cut_0, t2]
  by_cases q : x < 0 ∨ ¬ x ≤ n32 n
  · have e1 : (if x < 0 then xlim (xcall xprog (d + 38)) mX1_cut 1 [xD, xD] [] (xst e L I J) else if x ≤ n32 n then xlim (xcall xprog (d + 38)) mX1_cut 2 [.ref 1, .int x] [] (xst e L I J) else xlim (xcall xprog (d + 38)) mX1_cut 1 [xD, xD] [] (xst e L I J)) = some (some (.int 0), xst e L I J) := by
      rcases q with q | q
      · rw [if_pos q, bX1_cut_1]
      · by_cases z : x < 0
        · rw [if_pos z, bX1_cut_1]
        · rw [if_neg z, if_neg q, bX1_cut_1]
    rw [e1, xcI_some, ekX11_end_0_3, xrZ0]
    refine RR_I ?_
    refine RR_eq ((aX12_end _ e L I J _).trans (bX12_end_0 _ e L I J _)) ?_
    rw [t3]
    rcases q with q | q
    · rw [if_pos q, bX12_end_1]
      exact RR_I ⟨rfl, Inv_0 h⟩
    · by_cases z : x < 0
      · rw [if_pos z, bX12_end_1]
        exact RR_I ⟨rfl, Inv_0 h⟩
      · rw [if_neg z, if_neg q, bX12_end_1]
        exact RR_I ⟨rfl, Inv_0 h⟩
  · have q0 : ¬ x < 0 := fun z => q (Or.inl z)
    have q1 : x ≤ n32 n := by
      by_cases z : x ≤ n32 n
      · exact z
      · exact absurd (Or.inr z) q
    rw [if_neg q0, if_pos q1, bX1_cut_2, xcI_some, ekX11_end_0_3, xrZ1]
    refine RR_I ?_
    have e2 : (xu I 1 1 x) 209 2 = n32 n := by rw [xu_rne (by decide), t3]
    refine RR_eq ((aX12_end _ e L _ J _).trans (bX12_end_0 _ e L _ J _)) ?_
    rw [e2, if_neg q0, if_pos q1, bX12_end_2]
    have fr : ∀ o k, (o ≠ 1 ∨ k ≠ 1) → (o ≠ 209 ∨ (k ≠ 0 ∧ k ≠ 2)) → (xu (xu (xu I 1 1 x) 209 0 0) 209 2 x) o k = I o k := fun o k z1 z2 => by
      by_cases z : o = 209
      · subst z
        rw [xu_kne (by omega), xu_kne (by omega), xu_rne (by decide)]
      · rw [xu_rne z, xu_rne z]
        by_cases z3 : o = 1
        · subst z3
          rw [xu_kne (by omega)]
        · rw [xu_rne z3]
    have hx := n32_of q0
    have hxl : x.toNatClampNeg ≤ n := by
      rw [hx] at q1
      exact (n32_le (clamp_lt x) (by omega)).mp q1
    refine RR_I ⟨rfl, Inv_g h (fun o k z => fr o k (by unfold gI at z; omega) (by unfold gI at z; omega)) (fun _ _ _ => rfl) rfl ⟨x.toNatClampNeg, by omega, ?_, ?_, fun i hi => ?_⟩ (Tag_c (fr _ _ (by omega) (by omega)) (fr _ _ (by omega) (by omega)) (funext fun k => fr _ _ (by omega) (by omega)) (funext fun k => fr _ _ (by omega) (by omega)) hg) ⟨?_, ?_, ?_⟩ (Told_c (fr _ _ (by omega) (by omega)) (funext fun k => fr _ _ (by omega) (by omega)) (funext fun k => fr _ _ (by omega) (by omega)) hd)⟩
    · rw [xu_rne (by decide), xu_rne (by decide), xu_ee, ← hx]
    · rw [xu_ee, ← hx]
    · rw [fr 2 i (by omega) (by omega), fr 210 i (by omega) (by omega)]
      exact t4 i (by omega)
    · rw [fr _ _ (by omega) (by omega), fr _ _ (by omega) (by omega), c1]
    · rw [fr _ _ (by omega) (by omega), fr _ _ (by omega) (by omega), c2]
    · rw [fr _ _ (by omega) (by omega), fr _ _ (by omega) (by omega), c3]
end SIM
