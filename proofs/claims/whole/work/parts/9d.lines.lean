/-! Lines of a chain. -/
def Dr (I : TI) (J : TJ) (M : TI) (N : TJ) : Prop := wfT (M 212) ∧ M 212 3 = 0 ∧ Tr 89 (M 212) (dN N) I J ∧ (∀ v, v < sV (M 212) → Wd (N 215 (28 + v))) ∧ ∀ k, k < 21 → N 216 k = xwd k
def cC (K I : TI) (J' J : TJ) : Prop := (∀ o, o ≠ 5 → ¬ (89 ≤ o ∧ o < 119) → K o = I o) ∧ ∀ o, o ≠ 5 → ¬ (89 ≤ o ∧ o < 119) → J' o = J o
def cR (M' M : TI) (N' N : TJ) : Prop := (∀ o, o ≠ 209 → o ≠ 212 → M' o = M o) ∧ (∀ o, o ≠ 209 → o ≠ 215 → N' o = N o) ∧ (∀ k, k < 28 → N' 215 k = N 215 k) ∧ ∀ q, ¬ (q = 4 ∨ (12 ≤ q ∧ q ≤ 17) ∨ q = 19) → M' 209 q = M 209 q
section LNS
variable {d d' e L : Nat} {S S' : TS} {D D' : Nat → Int64} {T : Nat → Int32} {I K K2 M M' M2 : TI} {J J' J2 N N' N2 : TJ} {p q n k i m a j b v r most g lo hi fr : Nat} {s t : Bool} {x y bl : Int32} {w nm : Int64}
theorem cC_r : cC I I J J := ⟨fun _ _ _ => rfl, fun _ _ _ => rfl⟩
theorem cR_r : cR M M N N := ⟨fun _ _ _ => rfl, fun _ _ _ => rfl, fun _ _ => rfl, fun _ _ => rfl⟩
theorem cC_t (h : cC K I J' J) (h' : cC K2 K J2 J') : cC K2 I J2 J := ⟨fun o z y => (h'.1 o z y).trans (h.1 o z y), fun o z y => (h'.2 o z y).trans (h.2 o z y)⟩
theorem cR_t (h : cR M' M N' N) (h' : cR M2 M' N2 N') : cR M2 M N2 N := ⟨fun o z y => (h'.1 o z y).trans (h.1 o z y), fun o z y => (h'.2.1 o z y).trans (h.2.1 o z y), fun k z => (h'.2.2.1 k z).trans (h.2.2.1 k z), fun q z => (h'.2.2.2 q z).trans (h.2.2.2 q z)⟩
theorem fC_c (h : fC K I J' J) : cC K I J' J := ⟨fun o z _ => h.1 o z, fun o z _ => h.2 o z⟩
theorem fR_c (h : fR M' M N' N) : cR M' M N' N := ⟨fun o z _ => h.1 o z, fun o z _ => h.2.1 o z, fun k _ => by rw [h.2.1 215 (by omega)], h.2.2⟩
theorem dN_v (h : v < 8) : dN N v = N 215 (28 + v) := if_pos (by omega)
theorem dN_b (h : b < 20) : dN N (8 + b) = N 215 (36 + b) := (if_pos (by omega)).trans (by rw [show 28 + (8 + b) = 36 + b by omega])
theorem Tr_f {t : Nat} (h5 : 5 < t) (hf : fC K I J' J) (hT : Tr t S D I J) : Tr t S D K J' := by
  have hI : ∀ o, t ≤ o → K o = I o := fun o z => hf.1 o (by omega)
  have hJ : ∀ o, t ≤ o → J' o = J o := fun o z => hf.2 o (by omega)
  obtain ⟨h0, h1, h2, h3, h4⟩ := hT
  refine ⟨by rw [hI t (by omega), h0], by rw [hI t (by omega), h1], by rw [hI t (by omega), h2], fun v hv => ?_, fun b hb => ?_⟩
  · rw [hJ _ (by omega), hI _ (by omega)]
    exact h3 v hv
  · rw [hJ _ (by omega), hI (t + 4) (by omega), hI (t + 5) (by omega), hI (t + 6) (by omega), hI (t + 7) (by omega), hI (t + 8) (by omega), hI (t + 10 + b) (by omega)]
    exact h4 b hb
theorem Tr_N {t : Nat} (hv : ∀ v, v < sV S → D' v = D v) (hb : ∀ b, b < sB S → D' (8 + b) = D (8 + b)) (hT : Tr t S D I J) : Tr t S D' I J := by
  obtain ⟨h0, h1, h2, h3, h4⟩ := hT
  refine ⟨h0, h1, h2, fun v z => ?_, fun b z => ?_⟩
  · rw [hv v z]; exact h3 v z
  · rw [hb b z]; exact h4 b z
theorem dN_e (h : N' 215 = N 215) : dN N' = dN N := by unfold dN; rw [h]
theorem Dr_f (hD : Dr I J M N) (hf : fC K I J' J) (hr : fR M' M N' N) : Dr K J' M' N' := by
  obtain ⟨h1, h2, h3, h4, h5⟩ := hD
  unfold Dr
  rw [hr.1 212 (by omega), hr.2.1 215 (by omega), hr.2.1 216 (by omega), dN_e (hr.2.1 215 (by omega))]
  exact ⟨h1, h2, Tr_f (by omega) hf h3, h4, h5⟩
theorem Dr_V (hD : Dr I J M N) : I 89 1 = n32 (sV (M 212)) := hD.2.2.1.2.1.trans (wf_1 hD.1)
theorem Dr_B (hD : Dr I J M N) : I 89 2 = n32 (sB (M 212)) := hD.2.2.1.2.2.1.trans (wf_2 hD.1)
theorem Dr_nv (hD : Dr I J M N) : fw (J 90) w (sV (M 212)) = fw (fun k => N 215 (28 + k)) w (sV (M 212)) := by
  have h8 := wf_V8 hD.1
  exact fw_c (fun k hk => by rw [(hD.2.2.1.2.2.2.1 k hk).1, dN_v (by omega)])
theorem Dr_nb (hD : Dr I J M N) : fw (J 92) w (sB (M 212)) = fw (fun k => N 215 (36 + k)) w (sB (M 212)) := by
  have h8 := wf_B hD.1
  exact fw_c (fun k hk => by rw [(hD.2.2.1.2.2.2.2 k hk).1, dN_b (by omega)])
/-- a name is looked at: is it new? -/
theorem lk_nw (h : Par T n most I J M N) (hD : Dr I J M N) : ∃ K J' M' N' t, xcall xprog (d + 3) 89 [.ref 5] (xst e L I J) = some (none, xst e L K J') ∧ xcall xprog (d' + 3) 167 [.ref 209] (xst e L M N) = some (none, xst e L M' N') ∧ Par T n most K J' M' N' ∧ Dr K J' M' N' ∧ fC K I J' J ∧ fR M' M N' N ∧ xcall xprog (d + 3) 30 [.ref 89, .long (J' 5 1)] (xst e L K J') = some (some (.int (bI t)), xst e L K J') ∧ ((K 5 0 = 2 ∧ t = false ∧ J' 5 1 = N' 209 18 ∧ Wd (N' 209 18) ∧ xcall xprog (d' + 3) 176 [.ref 209] (xst e L M' N') = some (some (.int 1), xst e L M' N')) ∨ ∃ K2 M2, xcall xprog (d + 3) 97 [.ref 5, .int (bI t)] (xst e L K J') = some (some (.long (Int64.ofNat 0)), xst e L K2 J') ∧ xcall xprog (d' + 3) 176 [.ref 209] (xst e L M' N') = some (some (.int 0), xst e L M2 N') ∧ Flt K2 M2 ∧ fC K2 K J' J' ∧ fR M2 M' N' N') := by
  obtain ⟨K, J', M', N', a1, a2, a3, a4, a5, _⟩ := lk_adv (d := d + 1) (d' := d' + 1) (e := e) (L := L) h
  have hD1 := Dr_f hD a4 a5
  refine ⟨K, J', M', N', _, a1, a2, a3, hD1, a4, a5, c_hasName (Dr_V hD1) (wf_V8 hD1.1) (Dr_B hD1) (wf_B hD1.1), lk_new (wf_V8 hD1.1) (wf_B hD1.1) (wf_1 hD1.1) (wf_2 hD1.1) ?_ hD1.2.2.2.2 a3⟩
  rw [Dr_nv hD1, Dr_nb hD1]
theorem Wd_0 (h : Wd w) : ¬ lg_cmp w (Int64.ofNat 0) = 0 := by
  obtain ⟨m, h1, h2, _, rfl⟩ := h
  intro z
  have := congrArg Int64.toInt ((lg_cmp_eq _ _).mp z)
  rw [Int64.toInt_ofNat_of_lt (by omega), Int64.toInt_ofNat_of_lt (by omega)] at this
  omega
theorem lk_voter (h : Par T n most I J M N) (hD : Dr I J M N) (hV : sV (M 212) < 8) : O2 e L (xcall xprog (d + 4) 18 [.ref 89, .ref 5] (xst e L I J)) (xcall xprog (d' + 4) 178 [.ref 209] (xst e L M N)) (.int 0) (fun K J' M' N' => cC K I J' J ∧ cR M' M N' N) (fun cv K J' M' N' => cv = .int 1 ∧ Par T n most K J' M' N' ∧ Dr K J' M' N' ∧ cC K I J' J ∧ cR M' M N' N ∧ sV (M' 212) = sV (M 212) + 1 ∧ sB (M' 212) = sB (M 212)) := by
  have hw := hD.1
  have h20 := wf_B hw
  obtain ⟨K1, J1, M1, N1, t, a1, a2, a3, a4, a5, a6, a7, a8⟩ := lk_nw (d := d) (d' := d') (e := e) (L := L) h hD
  rw [aX2_readVoter, bX2_readVoter_0, aX12_readVoter, bX12_readVoter_0, wf_1 hw, if_neg (show ¬ n32 (sV (M 212)) = 8 from lit_ne (b := 8) (by omega) (by omega) (by omega)), bX12_readVoter_1, a1, xcV_some, ekX2_readVoter_0_1, a2, xcV_some, ekX12_readVoter_1_1, a7, xcI_some, ekX2_readVoter_0_6]
  rcases a8 with ⟨b1, b2, b3, b4, b5⟩ | ⟨K2, M2, b1, b2, b3, b4, b5⟩
  rotate_left
  · rw [b1, xcJ_some, ekX2_readVoter_0_7, if_pos ((lg_cmp_eq _ _).mpr rfl), b2, xcI_some, ekX12_readVoter_1_3, if_pos i00]
    exact Or.inr ⟨K2, J1, M2, N1, rfl, rfl, b3, fC_c (fC_t a5 b4), fR_c (fR_t a6 b5)⟩
  generalize hv : sV (M 212) = v at *
  have e28 : (28 : Int32) + n32 v = n32 (28 + v) := n32_add
  have e4 : (4 : Int32) + n32 v = n32 (4 + v) := n32_add
  have m1 : M1 212 = M 212 := a6.1 212 (by omega)
  have hP1 : Par T n most K1 J1 M1 (xu N1 215 (28 + v) (N1 209 18)) := Par_c (fun _ _ => rfl) rfl (fun _ _ => rfl) rfl (xu_rne (by omega)) a3
  obtain ⟨K2, J2, M2, N2, c1, c2, c3, c4, c5, _⟩ := lk_adv (d := d) (d' := d' + 1) (e := e) (L := L) hP1
  have m2 : M2 212 = M 212 := (c5.1 212 (by omega)).trans m1
  have cn := c_newName (d := d) b1 c1
  have bt : bI t = 0 := by rw [b2]; rfl
  rw [bt, cn, xcJ_some, ekX2_readVoter_0_7, if_neg (by rw [b3]; exact Wd_0 b4), bX2_readVoter_1, b5, xcI_some, ekX12_readVoter_1_3, if_neg i10, bX12_readVoter_2, e28, xin_n32 (by omega) (show 28 + v < 56 by omega), cond_true, n32_nat (by omega), c2, xcV_some, ekX12_readVoter_2_9]
  -- the draft, with the new name beside it
  have hT2 : Tr 89 (M 212) (dN N) K2 J2 := Tr_f (by omega) (fC_t a5 c4) hD.2.2.1
  have n2 : ∀ k, N2 215 k = if k = 28 + v then N1 209 18 else N 215 k := fun k => by
    rw [c5.2.1 215 (by omega), xu_row, a6.2.1 215 (by omega)]
    rfl
  have fr : cR M2 M N2 N := by
    refine ⟨fun o z1 z2 => (c5.1 o z1).trans (a6.1 o z1), fun o z1 z2 => (c5.2.1 o z1).trans ((xu_rne z2).trans (a6.2.1 o z1)), fun k hk => ?_, fun q z => (c5.2.2 q z).trans (a6.2.2 q z)⟩
    rw [n2 k, if_neg (by omega)]
  rcases lk_num (d := d) (d' := d') (e := e) (L := L) (lo := 0) (hi := 9) (x := 0) (y := 9) (by omega) rfl rfl (by omega) c3 with ⟨cv, K3, J3, M3, N3, d1, d2, m, d3, d4, rfl, d6, d7, d8, d9⟩ | ⟨K3, J3, M3, N3, d1, d2, d3, d4, d5⟩
  rotate_left
  · rw [d1, xcI_some, ekX2_readVoter_1_3, if_pos im1, d2, xcI_some, ekX12_readVoter_2_13, if_pos i00]
    exact Or.inr ⟨K3, J3, M3, N3, rfl, rfl, d3, fC_c (fC_t (fC_t a5 c4) d4), cR_t fr (fR_c d5)⟩
  have m3 : M3 212 = M 212 := (d9.1 212 (by omega)).trans m2
  have n3 : ∀ k, N3 215 k = if k = 28 + v then N1 209 18 else N 215 k := fun k => by rw [d9.2.1 215 (by omega), n2 k]
  have h8 : v ≤ 8 := by omega
  obtain ⟨K4, f1, f2, f3⟩ := c_addVoter (d := d + 2) (e := e) (L := L) (D' := dN N3) (w := J1 5 1) (x := n32 m) (Tr_f (by omega) d8 hT2) hw (by omega) d4 rfl (fun u hu => by
      rw [dN_v (by omega), dN_v (by omega), n3, if_neg (by omega)]) (fun u hu => by
      rw [dN_b (by omega), dN_b (by omega), n3, if_neg (by omega)]) (by rw [hv, dN_v (by omega), n3, if_pos rfl, b3])
  rw [d1, xcI_some, ekX2_readVoter_1_3, if_neg (n32_ne1 (by omega)), bX2_readVoter_2, f1, xcV_some, ekX2_readVoter_2_3, d2, xcI_some, ekX12_readVoter_2_13, if_neg i10, bX12_readVoter_3, e4, xin_n32 (by omega) (show 4 + v < 72 by omega), cond_true, n32_nat (by omega), d6, xu_kne (show 1 ≠ 4 + v by omega), m3, wf_1 hw, hv, n32_succ]
  have m4 : (xu (xu M3 212 (4 + v) (n32 m)) 212 1 (n32 (v + 1))) 212 = svoter (M 212) m := by
    rw [xu_row, xu_row, m3]
    unfold svoter
    rw [hv]
  refine Or.inl ⟨_, K4, _, _, N3, rfl, rfl, rfl, ?_, ?_, ?_, ?_, ?_, ?_⟩
  · exact Par_c (fun o z => funext fun k => f2 o k (by omega)) (xu_rne (by omega)) (fun q z => by rw [xu_rne (by omega), xu_rne (by omega)]) (by rw [xu_rne (by omega), xu_rne (by omega)]) rfl d7
  · refine ⟨?_, ?_, ?_, fun u hu => ?_, fun k hk => ?_⟩
    · rw [m4]; exact vt_wf hw (by omega) d4
    · rw [m4, vt_k (by omega) (by omega)]; exact hD.2.1
    · rw [m4, ← hv]; exact f3
    · rw [m4, vt_V (by omega), hv] at hu
      rw [n3]
      by_cases z : u = v
      · rw [if_pos (by omega)]; exact b4
      · rw [if_neg (by omega)]
        exact hD.2.2.2.1 u (by omega)
    · rw [d9.2.1 216 (by omega), c5.2.1 216 (by omega), xu_rne (by omega), a6.2.1 216 (by omega)]
      exact hD.2.2.2.2 k hk
  · refine cC_t (fC_c (fC_t (fC_t a5 c4) d8)) ⟨fun o z1 z2 => funext fun k => f2 o k z2, fun o z1 z2 => xu_rne (by omega)⟩
  · refine cR_t (cR_t fr (fR_c d9)) ⟨fun o z1 z2 => ?_, fun _ _ _ => rfl, fun _ _ => rfl, fun q z => ?_⟩
    · rw [xu_rne z2, xu_rne z2]
    · rw [xu_rne (by omega), xu_rne (by omega)]
  · rw [m4, vt_V (by omega), hv]
  · rw [m4]
    unfold sB
    rw [vt_k (by omega) (by omega)]
end LNS
