/-! The lines of a chain, one after the other. -/
section CHN
variable {d d' e L : Nat} {S S' : TS} {D D' : Nat → Int64} {T : Nat → Int32} {I K K2 M M' M2 : TI} {J J' J2 N N' N2 : TJ} {p q n k i m a j b v r most g lo hi fr : Nat} {s t : Bool} {x y bl ch wg : Int32} {w nm : Int64}
theorem lk_open (hm : most ≤ 900) (h9 : n ≤ 940) (h1 : I 1 1 = n32 n) (hT : ∀ i, i < n → I 2 i = M 210 i &&& 255) (h3 : M 209 3 = n32 n) (h4 : M 209 4 = 0) (h5 : M 209 5 = n32 most) (h16 : M 209 16 = 0) (hx : x = n32 most) : ∃ K J' M' N', xcall xprog (d + 3) 88 [.ref 5, .int x] (xst e L I J) = some (none, xst e L K J') ∧ xcall xprog (d' + 2) 167 [.ref 209] (xst e L M N) = some (none, xst e L M' N') ∧ Par (I 2) n most K J' M' N' ∧ fC K I J' J ∧ fR M' M N' N := by
  subst hx
  have b0 : (decide ((0 : Int32) = 0) || decide ((0 : Int32) = 1)) = true := by decide
  have b1 : (decide ((1 : Int32) = 0) || decide ((1 : Int32) = 1)) = true := by decide
  have go : ∃ Ib, xcall xprog (d + 3) 88 [.ref 5, .int (n32 most)] (xst e L I J) = xcV (xcall xprog (d + 2) 89 [.ref 5] (xst e L Ib J)) (kX9_open_2_9 (xcall xprog (d + 2))) ∧ Ib 5 5 = n32 0 ∧ Ib 5 2 = 0 ∧ Ib 5 7 = bI (decide (most < n)) ∧ Ib 5 6 = n32 (min n most) ∧ ∀ o, o ≠ 5 → Ib o = I o := by
    rw [aX9_open, bX9_open_0, h1]
    by_cases z : n ≤ most
    · refine ⟨xu (xu (xu (xu (xu I 5 5 0) 5 2 0) 5 3 0) 5 7 0) 5 6 (n32 n), ?_, ?_, ?_, ?_, ?_, fun o y => ?_⟩
      · rw [if_pos ((n32_le (by omega) (by omega)).mpr z), bX9_open_1, bX9_open_2, b0, cond_true, xu_rne (by decide), xu_rne (by decide), xu_rne (by decide), h1, if_neg (fun w => absurd ((n32_lt (by omega) (by omega)).mp w) (by omega))]
      · rw [xu_kne (by decide), xu_kne (by decide), xu_kne (by decide), xu_kne (by decide), xu_ee]; rfl
      · rw [xu_kne (by decide), xu_kne (by decide), xu_kne (by decide), xu_ee]
      · rw [xu_kne (by decide), xu_ee, decide_eq_false (by omega)]; rfl
      · rw [xu_ee, Nat.min_eq_left z]
      · rw [xu_rne y, xu_rne y, xu_rne y, xu_rne y, xu_rne y]
    · refine ⟨xu (xu (xu (xu (xu I 5 5 0) 5 2 0) 5 3 0) 5 7 1) 5 6 (n32 most), ?_, ?_, ?_, ?_, ?_, fun o y => ?_⟩
      · rw [if_neg (fun w => absurd ((n32_le (by omega) (by omega)).mp w) (by omega)), bX9_open_2, b1, cond_true, xu_rne (by decide), xu_rne (by decide), xu_rne (by decide), h1, if_pos ((n32_lt (by omega) (by omega)).mpr (by omega))]
      · rw [xu_kne (by decide), xu_kne (by decide), xu_kne (by decide), xu_kne (by decide), xu_ee]; rfl
      · rw [xu_kne (by decide), xu_kne (by decide), xu_kne (by decide), xu_ee]
      · rw [xu_kne (by decide), xu_ee, decide_eq_true (by omega)]; rfl
      · rw [xu_ee, Nat.min_eq_right (by omega)]
      · rw [xu_rne y, xu_rne y, xu_rne y, xu_rne y, xu_rne y]
  obtain ⟨Ib, g0, g1, g2, g3, g4, g5⟩ := go
  have hs : Src (I 2) n most Ib M := ⟨hm, h9, by rw [g5 1 (by omega), h1], g5 2 (by omega), g4, g3, h3, h5, fun i hi => (hT i hi).symm, 0, 0, g1, h4, by omega, by omega, Or.inl rfl⟩
  obtain ⟨K, J', M', N', r1, r2, r3, r4, r5, r6⟩ := lk_next (d := d) (d' := d') (e := e) (L := L) (J := J) (N := N) hs
  refine ⟨K, J', M', N', ?_, r2, ⟨r5, r6, ?_⟩, ?_, nx_f r4⟩
  · rw [g0, r1, xcV_some, ekX9_open_2_9]
  · rw [r3.1 5 2 (by omega), r4.1 209 16 (by omega), g2, h16]
  · refine ⟨fun o z => ?_, (ca_f r3).2⟩
    rw [(ca_f r3).1 o z, g5 o z]
theorem lk_epoch (h : Par T n most I J M N) (hD : Dr I J M N) (hl : M 209 20 = 0) (hV : sV (M 212) = 0) (hB : sB (M 212) = 0) : O2 e L (xcall xprog (d + 4) 17 [.ref 89, .ref 5] (xst e L I J)) (xcall xprog (d' + 4) 177 [.ref 209] (xst e L M N)) (.int 0) (fun K J' M' N' => cC K I J' J ∧ cR M' M N' N) (fun cv K J' M' N' => cv = .int 1 ∧ Par T n most K J' M' N' ∧ Dr K J' M' N' ∧ cC K I J' J ∧ cR M' M N' N) := by
  obtain ⟨K1, J1, M1, N1, a1, a2, a3, a4, a5, _⟩ := lk_adv (d := d + 1) (d' := d' + 1) (e := e) (L := L) h
  have q0 : (0 : Int32) ≤ 0 := by decide
  rw [aX2_readEpoch, bX2_readEpoch_0, aX12_readEpoch, bX12_readEpoch_0, hl, if_pos q0, bX12_readEpoch_1, a1, xcV_some, ekX2_readEpoch_0_1, a2, xcV_some, ekX12_readEpoch_1_1]
  rcases lk_num (d := d) (d' := d') (e := e) (L := L) (lo := 1) (hi := 4) (x := 1) (y := 4) (by omega) rfl rfl (by omega) a3 with ⟨cv, K3, J3, M3, N3, d1, d2, m, d3, d4, rfl, d6, d7, d8, d9⟩ | ⟨K3, J3, M3, N3, d1, d2, d3, d4, d5⟩
  rotate_left
  · rw [d1, xcI_some, ekX2_readEpoch_0_5, if_pos im1, d2, xcI_some, ekX12_readEpoch_1_5, if_pos i00]
    exact Or.inr ⟨K3, J3, M3, N3, rfl, rfl, d3, fC_c (fC_t a4 d4), fR_c (fR_t a5 d5)⟩
  rw [d1, xcI_some, ekX2_readEpoch_0_5, if_neg (n32_ne1 (by omega)), bX2_readEpoch_1, d2, xcI_some, ekX12_readEpoch_1_5, if_neg i10, bX12_readEpoch_2, d6]
  have hD3 := Dr_f hD (fC_t a4 d8) (fR_t a5 d9)
  have m3 : M3 212 = M 212 := (d9.1 212 (by omega)).trans (a5.1 212 (by omega))
  have s' : ∀ k, (xu M3 212 0 (n32 m)) 212 k = if k = 0 then n32 m else M 212 k := fun k => by rw [xu_row, m3]; rfl
  have eV : sV ((xu M3 212 0 (n32 m)) 212) = 0 := by unfold sV; rw [s', if_neg (by omega)]; exact hV
  have eB : sB ((xu M3 212 0 (n32 m)) 212) = 0 := by unfold sB; rw [s', if_neg (by omega)]; exact hB
  have eE : sE ((xu M3 212 0 (n32 m)) 212) = m := by unfold sE; rw [s', if_pos rfl]; exact n32_nat (by omega)
  have w1 := wf_1 hD.1
  have w2 := wf_2 hD.1
  rw [hV] at w1
  rw [hB] at w2
  have nv : ∀ {v : Nat} {P : Prop}, v < 0 → P := fun h => absurd h (Nat.not_lt_zero _)
  refine Or.inl ⟨_, _, J3, _, N3, rfl, rfl, rfl, ?_, ⟨?_, ?_, ⟨?_, ?_, ?_, ?_, ?_⟩, ?_, ?_⟩, ?_, ?_⟩
  · exact Par_c (fun o z => xu_rne (by omega)) rfl (fun q z => by rw [xu_rne (by omega)]) (xu_rne (by omega)) rfl d7
  · unfold wfT
    rw [eV, eB, eE]
    refine ⟨d3, d4, ?_, by omega, ?_, by omega, ?_, fun v hv => nv hv, fun hv => nv hv, fun b _ hv => nv hv, fun b hv => nv hv⟩
    · rw [s', if_pos rfl]
    · rw [s', if_neg (by omega), w1]
    · rw [s', if_neg (by omega), w2]
  · rw [s', if_neg (by omega)]; exact hD.2.1
  · rw [xu_ee, s', if_pos rfl]
  · rw [xu_kne (by omega), s', if_neg (by omega), Dr_V hD3, m3, hV, w1]
  · rw [xu_kne (by omega), s', if_neg (by omega), Dr_B hD3, m3, hB, w2]
  · rw [eV]; exact fun v hv => nv hv
  · rw [eB]; exact fun v hv => nv hv
  · rw [eV]; exact fun v hv => nv hv
  · exact hD3.2.2.2.2
  · exact cC_t (fC_c (fC_t a4 d8)) ⟨fun o z1 z2 => xu_rne (by omega), fun _ _ _ => rfl⟩
  · exact cR_t (fR_c (fR_t a5 d9)) ⟨fun o z1 z2 => xu_rne z2, fun _ _ _ => rfl, fun _ _ => rfl, fun q z => by rw [xu_rne (by omega)]⟩
/-- a line, but for its end -/
theorem lk_in (h : Par T n most I J M N) (hD : Dr I J M N) (hl : M 209 20 = n32 r) (hr9 : r < 1000) (hr : r ≤ 1 + sV (M 212) + sB (M 212)) (h0 : r = 0 → sV (M 212) = 0 ∧ sB (M 212) = 0) : (∃ K J' M' N', xlim (xcall xprog (d + 4)) mX2_readLine 0 [.ref 89, .ref 5, .int (n32 r), xD] [] (xst e L I J) = xlim (xcall xprog (d + 4)) mX2_readLine 11 [xD, .ref 5, xD, .int 1] [] (xst e L K J') ∧ xcall xprog (d' + 5) 180 [.ref 209] (xst e L M N) = some (some (.int 1), xst e L M' N') ∧ Par T n most K J' M' N' ∧ Dr K J' M' N' ∧ cC K I J' J ∧ cR M' M N' N ∧ r + 1 ≤ 1 + sV (M' 212) + sB (M' 212)) ∨ ∃ K J' M' N', xlim (xcall xprog (d + 4)) mX2_readLine 0 [.ref 89, .ref 5, .int (n32 r), xD] [] (xst e L I J) = xlim (xcall xprog (d + 4)) mX2_readLine 11 [xD, .ref 5, xD, .int 0] [] (xst e L K J') ∧ xcall xprog (d' + 5) 180 [.ref 209] (xst e L M N) = some (some (.int 0), xst e L M' N') ∧ Flt K M' ∧ cC K I J' J ∧ cR M' M N' N := by
  have hw := hD.1
  have h8 := wf_V8 hw
  have h20 := wf_B hw
  rw [bX2_readLine_0, aX12_readLine, bX12_readLine_0, r_isWord (k := 0) (by omega) (show Int64.ofNat 435678045032 = xwd 0 by decide) h.2.1, xcI_some, ekX12_readLine_0_2]
  by_cases z0 : I 5 0 = n32 (64 + 0)
  · have z0' : I 5 0 = 64 := z0
    rw [if_pos z0, if_neg i10, if_pos z0', bX2_readLine_1]
    rcases Nat.eq_zero_or_pos r with r0 | r0
    · subst r0
      obtain ⟨v0, b0⟩ := h0 rfl
      have q0 : n32 0 = 0 := rfl
      rw [if_pos q0]
      rcases lk_epoch (d := d) (d' := d') (e := e) (L := L) h hD hl v0 b0 with ⟨cv, K, J', M', N', c1, c2, rfl, c4, c5, c6, c7⟩ | ⟨K, J', M', N', c1, c2, c3, c4, c5⟩
      · refine Or.inl ⟨K, J', M', N', ?_, ?_, c4, c5, c6, c7, by omega⟩
        · rw [c1, xcI_some, ekX2_readLine_1_4, bX2_readLine_3]
        · rw [c2, xcI_some, ekX12_readLine_0_5, bX12_readLine_4]; rfl
      · refine Or.inr ⟨K, J', M', N', ?_, ?_, c3, c4, c5⟩
        · rw [c1, xcI_some, ekX2_readLine_1_4, bX2_readLine_3]
        · rw [c2, xcI_some, ekX12_readLine_0_5, bX12_readLine_4]; rfl
    · obtain ⟨K, M', r1, r2, r3, r4, r5⟩ := lk_ref (d := d + 3) (d' := d' + 2) (e := e) (L := L) 3 h
      have q0 : ¬ n32 r = 0 := fun z => absurd ((n32_eq0 (by omega)).mp z) (by omega)
      have q1 : ¬ n32 r ≤ 0 := fun z => absurd ((n32_ge0 (by omega)).mp z) (by omega)
      refine Or.inr ⟨K, J, M', N, ?_, ?_, r3, fC_c r4, fR_c r5⟩
      · rw [if_neg q0, bX2_readLine_2, r1, xcI_some, ekX2_readLine_2_2, bX2_readLine_3]
      · rw [aX12_readEpoch, bX12_readEpoch_0, hl, if_neg q1, r2, xcI_some, ekX12_readEpoch_0_5, xrZ0, xcI_some, ekX12_readLine_0_5, bX12_readLine_4, xrZ0]
  have z0' : ¬ I 5 0 = 64 := z0
  rw [if_neg z0, if_pos i00, if_neg z0', bX12_readLine_1, r_isWord (k := 1) (by omega) (show Int64.ofNat 508676040050 = xwd 1 by decide) h.2.1, xcI_some, ekX12_readLine_1_2]
  by_cases z1 : I 5 0 = n32 (64 + 1)
  · have z1' : I 5 0 = 65 := z1
    rw [if_pos z1, if_neg i10, if_pos z1', bX2_readLine_4, Dr_V hD]
    by_cases v8 : sV (M 212) < 8
    · rw [if_pos ((q8l (by omega)).mpr v8)]
      rcases lk_voter (d := d) (d' := d') (e := e) (L := L) h hD v8 with ⟨cv, K, J', M', N', c1, c2, rfl, c4, c5, c6, c7, c8, c9⟩ | ⟨K, J', M', N', c1, c2, c3, c4, c5⟩
      · refine Or.inl ⟨K, J', M', N', ?_, ?_, c4, c5, c6, c7, by omega⟩
        · rw [c1, xcI_some, ekX2_readLine_4_6, bX2_readLine_6]
        · rw [c2, xcI_some, ekX12_readLine_1_5, bX12_readLine_4]; rfl
      · refine Or.inr ⟨K, J', M', N', ?_, ?_, c3, c4, c5⟩
        · rw [c1, xcI_some, ekX2_readLine_4_6, bX2_readLine_6]
        · rw [c2, xcI_some, ekX12_readLine_1_5, bX12_readLine_4]; rfl
    · obtain ⟨K, M', r1, r2, r3, r4, r5⟩ := lk_ref (d := d + 3) (d' := d' + 2) (e := e) (L := L) 4 h
      have q8 : M 212 1 = 8 := by rw [wf_1 hw, show sV (M 212) = 8 by omega]; rfl
      have er : xcall xprog (d' + 4) 178 [.ref 209] (xst e L M N) = some (some (.int 0), xst e L M' N) := by
        rw [aX12_readVoter, bX12_readVoter_0, if_pos q8, r2, xcI_some, ekX12_readVoter_0_10]; rfl
      refine Or.inr ⟨K, J, M', N, ?_, ?_, r3, fC_c r4, fR_c r5⟩
      · rw [if_neg (fun z => v8 ((q8l (by omega)).mp z)), bX2_readLine_5, r1, xcI_some, ekX2_readLine_5_2, bX2_readLine_6]
      · rw [er, xcI_some, ekX12_readLine_1_5, bX12_readLine_4]; rfl
  have z1' : ¬ I 5 0 = 65 := z1
  rw [if_neg z1, if_pos i00, if_neg z1', bX12_readLine_2, r_isWord (k := 2) (by omega) (show Int64.ofNat 422726034283 = xwd 2 by decide) h.2.1, xcI_some, ekX12_readLine_2_2]
  by_cases z2 : I 5 0 = n32 (64 + 2)
  · have z2' : I 5 0 = 66 := z2
    rw [if_pos z2, if_neg i10, if_pos z2', bX2_readLine_7, Dr_B hD]
    by_cases v8 : sB (M 212) < 20
    · rw [if_pos ((q20l (by omega)).mpr v8)]
      rcases lk_block (d := d) (d' := d') (e := e) (L := L) h hD v8 with ⟨cv, K, J', M', N', c1, c2, rfl, c4, c5, c6, c7, c8, c9⟩ | ⟨K, J', M', N', c1, c2, c3, c4, c5⟩
      · refine Or.inl ⟨K, J', M', N', ?_, ?_, c4, c5, c6, c7, by omega⟩
        · rw [c1, xcI_some, ekX2_readLine_7_6, bX2_readLine_9]
        · rw [c2, xcI_some, ekX12_readLine_2_5, bX12_readLine_4]; rfl
      · refine Or.inr ⟨K, J', M', N', ?_, ?_, c3, c4, c5⟩
        · rw [c1, xcI_some, ekX2_readLine_7_6, bX2_readLine_9]
        · rw [c2, xcI_some, ekX12_readLine_2_5, bX12_readLine_4]; rfl
    · obtain ⟨K, M', r1, r2, r3, r4, r5⟩ := lk_ref (d := d + 3) (d' := d' + 2) (e := e) (L := L) 4 h
      have q8 : M 212 2 = 20 := by rw [wf_2 hw, show sB (M 212) = 20 by omega]; rfl
      have er : xcall xprog (d' + 4) 179 [.ref 209] (xst e L M N) = some (some (.int 0), xst e L M' N) := by
        rw [aX12_readBlock, bX12_readBlock_0, if_pos q8, r2, xcI_some, ekX12_readBlock_0_10]; rfl
      refine Or.inr ⟨K, J, M', N, ?_, ?_, r3, fC_c r4, fR_c r5⟩
      · rw [if_neg (fun z => v8 ((q20l (by omega)).mp z)), bX2_readLine_8, r1, xcI_some, ekX2_readLine_8_2, bX2_readLine_9]
      · rw [er, xcI_some, ekX12_readLine_2_5, bX12_readLine_4]; rfl
  have z2' : ¬ I 5 0 = 66 := z2
  obtain ⟨K, M', r1, r2, r3, r4, r5⟩ := lk_ref (d := d + 3) (d' := d' + 3) (e := e) (L := L) 1 h
  refine Or.inr ⟨K, J, M', N, ?_, ?_, r3, fC_c r4, fR_c r5⟩
  · rw [if_neg z2', bX2_readLine_10, r1, xcI_some, ekX2_readLine_10_2]
  · rw [if_neg z2, if_pos i00, bX12_readLine_3, r2, xcI_some, ekX12_readLine_3_2, bX12_readLine_4]; rfl
/-- the cells of the reference that a chain's lines change -/
def dR (M' M : TI) (N' N : TJ) : Prop := (∀ o, o ≠ 209 → o ≠ 212 → M' o = M o) ∧ (∀ o, o ≠ 209 → o ≠ 215 → N' o = N o) ∧ (∀ k, k < 28 → N' 215 k = N 215 k) ∧ ∀ q, ¬ (q = 4 ∨ (12 ≤ q ∧ q ≤ 17) ∨ q = 19 ∨ q = 20) → M' 209 q = M 209 q
theorem cR_d (h : cR M' M N' N) : dR M' M N' N := ⟨h.1, h.2.1, h.2.2.1, fun q z => h.2.2.2 q (by omega)⟩
theorem dR_t (h : dR M' M N' N) (h' : dR M2 M' N2 N') : dR M2 M N2 N := ⟨fun o z y => (h'.1 o z y).trans (h.1 o z y), fun o z y => (h'.2.1 o z y).trans (h.2.1 o z y), fun k z => (h'.2.2.1 k z).trans (h.2.2.1 k z), fun q z => (h'.2.2.2 q z).trans (h.2.2.2 q z)⟩
theorem lk_lines : ∀ m r (I : TI) (J : TJ) (M : TI) (N : TJ), r + m = 30 → Par T n most I J M N → Dr I J M N → M 209 20 = n32 r → r ≤ 1 + sV (M 212) + sB (M 212) → (r = 0 → sV (M 212) = 0 ∧ sB (M 212) = 0) → (∃ K J' M' N' R, xlim (xcall xprog (d + 5)) mX2_readFrom 1 [.ref 89, .ref 5, .int (n32 r)] [] (xst e L I J) = some (some (.int (n32 R)), xst e L K J') ∧ xlim (xcall xprog (d' + 5)) mX12_chain 3 [.ref 209, xD] [] (xst e L M N) = xlim (xcall xprog (d' + 5)) mX12_chain 6 [.ref 209, xD] [] (xst e L M' N') ∧ R < 30 ∧ M' 209 20 = n32 R ∧ Dr K J' M' N' ∧ K 5 2 = M' 209 16 ∧ cC K I J' J ∧ dR M' M N' N) ∨ ∃ K J' M' N', xlim (xcall xprog (d + 5)) mX2_readFrom 1 [.ref 89, .ref 5, .int (n32 r)] [] (xst e L I J) = some (some (.int (-1)), xst e L K J') ∧ xlim (xcall xprog (d' + 5)) mX12_chain 3 [.ref 209, xD] [] (xst e L M N) = some (some (.int (-1 - M' 209 17)), xst e L M' N') ∧ Flt K M' ∧ cC K I J' J ∧ dR M' M N' N := by
  intro m
  induction m with
  | zero =>
    intro r I J M N hm h hD hl hr h0
    have := wf_V8 hD.1
    have := wf_B hD.1
    omega
  | succ m ih =>
    intro r I J M N hm h hD hl hr h0
    rw [bX2_readFrom_1, if_pos ((q900l (by omega)).mpr (by omega)), bX12_chain_3]
    by_cases z : I 5 0 = 0
    · rw [if_pos z, if_pos ((tok_end h.2.1).mp z)]
      exact Or.inl ⟨I, J, M, N, r, rfl, rfl, by omega, hl, hD, h.2.2, cC_r, cR_d cR_r⟩
    · rw [if_neg z, if_neg (fun y => z ((tok_end h.2.1).mpr y)), bX2_readFrom_2, aX2_readLine]
      rcases lk_in (d := d) (d' := d') (e := e) (L := L) h hD hl (by omega) hr h0 with ⟨K, J', M', N', c1, c2, c3, c4, c5, c6, c7⟩ | ⟨K, J', M', N', c1, c2, c3, c4, c5⟩
      rotate_left
      · refine Or.inr ⟨K, J', M', N', ?_, ?_, c3, c4, cR_d c5⟩
        · rw [c1, bX2_readLine_11, if_pos i00, bX2_readLine_12, bX2_readLine_13, xrZ0, xcI_some, ekX2_readFrom_2_3, if_pos i00]
        · rw [c2, xcI_some, ekX12_chain_3_4, if_pos i00, bX12_chain_4]
      · rw [c1, bX2_readLine_11, if_neg i10, c2, xcI_some, ekX12_chain_3_4, if_neg i10]
        rcases lk_take (d := d + 1) (d' := d' + 2) (e := e) (L := L) (g := 59) (x := 59) (by omega) rfl c3 with ⟨cv, K2, J2, M2, N2, f1, f2, rfl, f4, f5, f6⟩ | ⟨K2, J2, M2, N2, f1, f2, f3, f4, f5⟩
        rotate_left
        · refine Or.inr ⟨K2, J2, M2, N2, ?_, ?_, f3, cC_t c5 (fC_c f4), cR_d (cR_t c6 (fR_c f5))⟩
          · rw [f1, xcI_some, ekX2_readLine_11_4, if_pos i00, bX2_readLine_12, bX2_readLine_13, xrZ0, xcI_some, ekX2_readFrom_2_3, if_pos i00]
          · rw [f2, xcI_some, ekX12_chain_3_8, if_pos i00, bX12_chain_4]
        · have hl2 : M2 209 20 = n32 r := by rw [f6.2.2 20 (by omega), c6.2.2.2 20 (by omega), hl]
          have hD2 := Dr_f c4 f5 f6
          have e212 : (xu M2 209 20 (n32 (r + 1))) 212 = M' 212 := (xu_rne (by omega)).trans (f6.1 212 (by omega))
          have hD3 : Dr K2 J2 (xu M2 209 20 (n32 (r + 1))) N2 := by
            unfold Dr
            rw [xu_rne (by omega)]
            exact hD2
          have h3 : Par T n most K2 J2 (xu M2 209 20 (n32 (r + 1))) N2 := Par_c (fun _ _ => rfl) rfl (fun q z => xu_kne (by omega)) (xu_rne (by omega)) rfl f4
          have fr : dR (xu M2 209 20 (n32 (r + 1))) M N2 N := dR_t (cR_d (cR_t c6 (fR_c f6))) ⟨fun o z1 z2 => xu_rne z1, fun _ _ _ => rfl, fun _ _ => rfl, fun q z => xu_kne (by omega)⟩
          rw [f1, xcI_some, ekX2_readLine_11_4, if_neg i10, bX2_readLine_13, xrZ1, xcI_some, ekX2_readFrom_2_3, if_neg i10, bX2_readFrom_3, n32_succ, f2, xcI_some, ekX12_chain_3_8, if_neg i10, bX12_chain_5, hl2, n32_succ]
          rcases ih (r + 1) K2 J2 _ N2 (by omega) h3 hD3 xu_ee (by rw [e212]; exact c7) (fun y => by omega) with ⟨K4, J4, M4, N4, R, g1, g2, g3, g4, g5, g6, g7, g8⟩ | ⟨K4, J4, M4, N4, g1, g2, g3, g4, g5⟩
          · exact Or.inl ⟨K4, J4, M4, N4, R, g1, g2, g3, g4, g5, g6, cC_t (cC_t c5 (fC_c f5)) g7, dR_t fr g8⟩
          · exact Or.inr ⟨K4, J4, M4, N4, g1, g2, g3, cC_t (cC_t c5 (fC_c f5)) g4, dR_t fr g5⟩
end CHN
