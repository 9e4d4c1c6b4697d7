/-! A sentence changes only the state's last cells: what was worked out stays right. -/
section SNS
variable {d e L : Nat} {S X Y : TS} {D : Nat → Int64} {I K M M' : TI} {J N : TJ} {P : List Cd} {n k i q : Nat}
theorem Fi_u (eB : sB X = sB Y) (h : Fi X K) (h' : Fi Y K) (hI : Fi X I) : Fi Y I := by
  obtain ⟨a1, a2, a3, a4, a5, a6, a7, a8, a9, n, a10, a11, a12, a13⟩ := h
  obtain ⟨b1, b2, b3, b4, b5, b6, b7, b8, b9, m, b10, b11, b12, b13⟩ := h'
  obtain ⟨c1, c2, c3, c4, c5, c6, c7, c8, c9, l, c10, c11, c12, c13⟩ := hI
  have e1 : l = n := WY_u c10 a10
  have e2 : n = m := (n32_inj (by have := a10.1; omega) (by have := b10.1; omega)).mp (a11.symm.trans b11)
  subst e1
  subst e2
  exact ⟨by rw [c1, ← a1, b1], by rw [c2, ← a2, b2], by rw [c3, ← a3, b3], by rw [c4, ← a4, b4], by rw [c5, ← a5, b5], by rw [c6, ← a6, b6], by rw [c7, ← a7, b7], fun s t z1 z2 => by rw [c8 s t z1 z2, ← a8 s t z1 z2, b8 s t z1 z2], fun b hb => by rw [c9 b (by rw [eB]; exact hb), ← a9 b (by rw [eB]; exact hb), b9 b hb], l, b10, c11, fun k hk => by rw [c12 k hk, ← a12 k hk, b12 k hk], fun x hx => by rw [c13 x hx, ← a13 x hx, b13 x hx]⟩
theorem Rf_u (hp : pre X Y) (eB : sB X = sB Y) (h : Fi X K) (h' : Fi Y K) (hI : Rf X I) : Rf Y I := by
  obtain ⟨a1, a2, a3, a4, a5, a6, a7, a8, a9, n, a10, a11, a12, a13⟩ := h
  obtain ⟨b1, b2, b3, b4, b5, b6, b7, b8, b9, m, b10, b11, b12, b13⟩ := h'
  obtain ⟨c0, c1, c2, c3, c4, c5, c6, c7, c8, c9, l, c10, c11, c12⟩ := hI
  have e1 : l = n := WY_u c10 a10
  have e2 : n = m := (n32_inj (by have := a10.1; omega) (by have := b10.1; omega)).mp (a11.symm.trans b11)
  subst e1
  subst e2
  refine ⟨fun b hb => ?_, by rw [c1, ← a1, b1], by rw [c2, ← a2, b2], by rw [c3, ← a3, b3], by rw [c4, ← a4, b4], by rw [c5, ← a5, b5], by rw [c6, ← a6, b6], by rw [c7, ← a7, b7], fun s t z1 z2 => by rw [c8 s t z1 z2, ← a8 s t z1 z2, b8 s t z1 z2], fun b hb => by rw [c9 b (by rw [eB]; exact hb), ← a9 b (by rw [eB]; exact hb), b9 b hb], l, b10, c11, fun k hk => by rw [c12 k hk, ← a12 k hk, b12 k hk]⟩
  rw [← eB] at hb
  rw [← pre_hei hp hb, ← pre_ahs hp hb]
  exact c0 b hb
theorem cfr_63 {x : Int32} : cfr (xu I 6 3 x) I := fun o k z1 z2 => by
  by_cases z : o = 6
  · subst z
    rw [xu_kne (by omega)]
  · rw [xu_rne z]
theorem cfr_36 {x : Int32} : cfr I (xu I 6 3 x) := fun o k z1 z2 => (cfr_63 o k z1 z2).symm
theorem CS_63 (hC : CS X D I J) : CS X D (xu I 6 3 1) J := CS_c cfr_63 (fun q => absurd q (by rw [xu_ee]; decide)) hC
theorem Fi_both (h : ∀ k, k < 224 → X k = Y k) (hC : CS X D I J) : ∃ K, Fi X K ∧ Fi Y K := by
  obtain ⟨o1, r1, K, J1, e1, _, _, f1, _⟩ := c_fresh (d := 0) (e := 0) (L := 0) (CS_63 hC)
  obtain ⟨o2, r2, K2, J2, e2, _, _, f2, _⟩ := c_fresh (d := 0) (e := 0) (L := 0) (CS_224 h (by rw [xu_ee]; decide) (CS_63 hC))
  rw [r1, e1, e2] at r2
  obtain ⟨_, z1, _⟩ := xst_i r2
  rw [← z1] at f2
  exact ⟨K, f1, f2⟩
theorem sB_224 (h : ∀ k, k < 224 → X k = Y k) : sB X = sB Y := by unfold sB; rw [h 2 (by omega)]
theorem CS_s (h : ∀ k, k < 224 → X k = Y k) (hC : CS X D I J) : CS Y D I J := by
  obtain ⟨K, f1, f2⟩ := Fi_both h hC
  exact CS_c (cfr_36 (x := 1)) (fun q => Fi_u (sB_224 h) f1 f2 (hC.2.2.2 q)) (CS_224 h (by rw [xu_ee]; decide) (CS_63 hC))
theorem RS_s (h : ∀ k, k < 224 → X k = Y k) (hC : CS X D I J) (hR : RS X M) (h211 : M' 211 = Y) (f : ∀ o k, 217 ≤ o → o < 222 → M' o k = M o k) (h9 : ∀ k, 26 ≤ k → k ≤ 34 → M' 209 k = M 209 k) : RS Y M' := by
  obtain ⟨K, f1, f2⟩ := Fi_both h hC
  refine ⟨WS_224 h hR.1, h211, fun q => Rf_u (pre_224 h (wf_B hC.1.1) hC.1.2.1.1) (sB_224 h) f1 f2 (Rf_c f (fun k z1 z2 => h9 k z1 (by omega)) (hR.2.2 ?_))⟩
  rw [← h9 34 (by omega) (by omega)]
  exact q
/-- between two calls still, with another sentence -/
theorem sen_inv (h : Inv I J) (h224 : ∀ k, k < 224 → M 211 k = I 211 k) (ht : Tape M) (hs : Se 42 (M 211) M) (hc : M 0 16 = M 209 16) (fI : ∀ o k, ¬ (o = 0 ∧ k = 16) → o ≠ 1 → o ≠ 5 → ¬ (42 ≤ o ∧ o < 46) → ¬ (119 ≤ o ∧ o < 123) → (o ≠ 209 ∨ ¬ (k = 0 ∨ (2 ≤ k ∧ k ≤ 5) ∨ (12 ≤ k ∧ k ≤ 17) ∨ k = 19 ∨ (49 ≤ k ∧ k ≤ 53))) → o ≠ 211 → o ≠ 213 → o ≠ 227 → M o k = I o k) (fJ : ∀ o k, o ≠ 5 → o ≠ 209 → N o k = J o k) : Inv M N := by
  obtain ⟨hC, hR, hNZ, ⟨m, o, hH⟩, hNB, _, _, him, hg, ⟨c1, c2, _⟩, hd, hres⟩ := h
  have h' : ∀ k, k < 224 → I 211 k = M 211 k := fun k hk => (h224 k hk).symm
  have eN : nmN N = nmN J := by
    funext q
    unfold nmN
    by_cases z : q < 28
    · rw [if_pos z, if_pos z, fJ 215 q (by omega) (by omega)]
    · rw [if_neg z, if_neg z]
  have gI : ∀ o k, o ≤ 4 ∨ (6 ≤ o ∧ o < 42) ∨ (46 ≤ o ∧ o < 119) ∨ (123 ≤ o ∧ o < 209) ∨ (214 ≤ o ∧ o < 227) ∨ 228 ≤ o → o ≠ 0 → o ≠ 1 → M o k = I o k := fun o k z z0 z1 => fI o k (by omega) (by omega) (by omega) (by omega) (by omega) (by omega) (by omega) (by omega) (by omega)
  have g9 : ∀ k, ¬ (k = 0 ∨ (2 ≤ k ∧ k ≤ 5) ∨ (12 ≤ k ∧ k ≤ 17) ∨ k = 19 ∨ (49 ≤ k ∧ k ≤ 53)) → M 209 k = I 209 k := fun k z => fI 209 k (by omega) (by omega) (by omega) (by omega) (by omega) (by omega) (by omega) (by omega) (by omega)
  have h8 := wf_V8 hC.1.1
  have eV : sV (M 211) = sV (I 211) := by unfold sV; rw [h224 1 (by omega)]
  unfold Inv
  rw [eN]
  have hC' : CS (I 211) (nmN J) M N := ⟨hC.1, Tr_J (fun o k z1 z2 => gI o k (by omega) (by omega) (by omega)) (fun o k z1 z2 => fJ o k (by omega) (by omega)) hC.1.1 hC.2.1, Ac_c (fun o k z1 z2 => gI o k (by omega) (by omega) (by omega)) hC.2.2.1, fun q => Fi_c (fun o k z1 z2 => gI o k (by omega) (by omega) (by omega)) (hC.2.2.2 (by rw [← gI 6 3 (by omega) (by omega) (by omega)]; exact q))⟩
  refine ⟨CS_s h' hC', RS_s h' hC hR rfl (fun o k z1 z2 => gI o k (by omega) (by omega) (by omega)) (fun k z1 z2 => g9 k (by omega)), NZ_224 h' hNZ, ?_, ?_⟩
  · have hH' := HM_c (K := M) (fun k hk => gI 79 k (by omega) (by omega) (by omega)) (g9 38 (by omega)) (funext fun k => gI 222 k (by omega) (by omega) (by omega)) (fun i k hi => gI _ k (by omega) (by omega) (by omega)) hH
    obtain ⟨p1, p2, p3, p4, p5, p6, p7, p8⟩ := hH'
    have es : ∀ j, hS M (M 211) j = hS M (I 211) j := fun j => hS_0 (h' 0 (by omega)) (h' 1 (by omega)) rfl
    refine ⟨m, o, p1, p2, p3, p4, p5, fun j hj => ?_, fun j hj => ?_, fun hp => ?_⟩
    · rw [es j]; exact p6 j hj
    · rw [es j, es (j + 1)]; exact p7 j hj
    · rw [es]
      exact pre_t (p8 hp) (pre_224 h' (wf_B hC.1.1) hC.1.2.1.1)
  · refine ⟨fun v hv => ?_, ht, hs, fun r hr => ?_, Tag_c (gI _ _ (by omega) (by omega) (by omega)) (g9 _ (by omega)) (funext fun i => gI _ _ (by omega) (by omega) (by omega)) (funext fun i => gI _ _ (by omega) (by omega) (by omega)) hg, ⟨?_, ?_, hc⟩, Told_c (g9 _ (by omega)) (funext fun i => gI _ _ (by omega) (by omega) (by omega)) (funext fun i => gI _ _ (by omega) (by omega) (by omega)) hd, fun k hk => ?_⟩
    · rw [eV] at hv
      exact hNB v hv
    · rw [gI 207 r (by omega) (by omega) (by omega), gI 231 r (by omega) (by omega) (by omega)]
      refine ⟨(him r hr).1, fun y => Im_k (fun o i z1 => gI o i (by omega) (by omega) (by omega)) (fun o i z1 => fJ o i (by omega) (by omega)) (fun i hi => ?_) (fun i hi => ?_) ((him r hr).2 y)⟩
      · exact (gI 229 _ (by omega) (by omega) (by omega)).symm
      · exact (fJ 230 _ (by omega) (by omega)).symm
    · rw [gI 71 0 (by omega) (by omega) (by omega), g9 40 (by omega), c1]
    · rw [gI 71 1 (by omega) (by omega) (by omega), g9 41 (by omega), c2]
    · rw [fJ 216 k (by omega) (by omega)]; exact hres k hk
theorem ok_22 (hg : good P) (hi : i < P.length) : (gc P i).1 ≤ 22 := by
  have := (hg i hi).1
  omega
theorem Se_of (hg : good P) (hl : P.length ≤ 40) (hd : dpt P = 1) (h4 : S 224 = n32 P.length) (hS : ∀ i, i < P.length → S (225 + 3 * i) = n32 (gc P i).1 ∧ S (226 + 3 * i) = (gc P i).2.1 ∧ S (227 + 3 * i) = (gc P i).2.2) (h1 : I q 1 = n32 P.length) (h0 : ¬ I q 0 = 0) (hI : ∀ i, i < P.length → I (q + 1) i = n32 (kdm (gc P i).1) ∧ I (q + 2) i = (gc P i).2.1 ∧ I (q + 3) i = (gc P i).2.2) : Se q S I := by
  have ec : ∀ i, i < P.length → cw S i = (gc P i).1 := fun i hi => by
    unfold cw
    rw [(hS i hi).1]
    exact n32_nat (by have := ok_22 hg hi; omega)
  have ed : ∀ i, i ≤ P.length → dep S i = dpl P i := by
    intro i
    induction i with
    | zero => intro _; rfl
    | succ i ih =>
      intro hi
      show (if _ then _ else if _ then _ else _) = (if _ then _ else if _ then _ else _)
      rw [ec i (by omega), ih (by omega)]
  have hp : 0 < P.length := by
    rcases Nat.eq_zero_or_pos P.length with z | z
    · unfold dpt at hd
      rw [z] at hd
      exact absurd hd (show ¬ (0 : Nat) = 1 by decide)
    · exact z
  refine ⟨P.length, hl, h4, h1, ⟨fun z => absurd z h0, fun z => absurd z (by omega)⟩, fun _ => (ed _ (Nat.le_refl _)).trans hd, fun i hi => ?_⟩
  obtain ⟨s1, s2, s3⟩ := hS i hi
  obtain ⟨t1, t2, t3⟩ := hI i hi
  obtain ⟨g1, g2, g3⟩ := hg i hi
  refine ⟨⟨?_, ?_, ?_, ?_⟩, ?_, t2.trans s2.symm, t3.trans s3.symm⟩
  · rw [ec i hi]; exact s1
  · rw [ec i hi, ed i (by omega)]; exact g1
  · rw [ec i hi, s3]; exact g2
  · rw [ec i hi, s2, s3]; exact g3
  · rw [ec i hi]; exact t1
end SNS
