/-! A block's line, and any line. -/
section BLK
variable {d d' e L : Nat} {S S' : TS} {D D' : Nat → Int64} {T : Nat → Int32} {I K K2 M M' M2 : TI} {J J' J2 N N' N2 : TJ} {p q n k i m a j b v r most g lo hi fr : Nat} {s t : Bool} {x y bl ch wg : Int32} {w nm : Int64}
theorem blk_wf (hw : wfT S) (hb : sB S = b) (hb20 : b < 20) (h : ∀ k, k ≠ 2 → k ≠ 12 + b → k ≠ 32 + b → k ≠ 52 + b → S' k = S k) (h2 : S' 2 = n32 (b + 1)) (hbo : (b = 0 ∧ S' (12 + b) = -1) ∨ ∃ p, p < b ∧ S' (12 + b) = n32 p) (hch : S' (32 + b) = -1 ∨ ∃ v, v < sV S ∧ S' (32 + b) = n32 v) (hwg : ∃ w, w ≤ 9 ∧ S' (52 + b) = n32 w) : wfT S' ∧ pre S S' := by
  subst hb
  have eB : sB S' = sB S + 1 := by unfold sB; rw [h2]; exact n32_nat (by show sB S + 1 < _; omega)
  have eE : sE S' = sE S := by unfold sE; rw [h 0 (by omega) (by omega) (by omega) (by omega)]
  have eV : sV S' = sV S := by unfold sV; rw [h 1 (by omega) (by omega) (by omega) (by omega)]
  have eK : sK S' = sK S := by unfold sK; rw [h 3 (by omega) (by omega) (by omega) (by omega)]
  have h8 := wf_V8 hw
  have ep : ∀ b, b < sB S → par S' b = par S b := fun b hb => by unfold par; rw [h (12 + b) (by omega) (by omega) (by omega) (by omega)]
  constructor
  · unfold wfT
    rw [eB, eE, eV]
    refine ⟨wf_E1 hw, wf_E4 hw, ?_, h8, ?_, by omega, h2, fun v hv => ?_, fun _ => ?_, fun b h0 hb => ?_, fun b hb => ?_⟩
    · rw [h 0 (by omega) (by omega) (by omega) (by omega)]; exact wf_0 hw
    · rw [h 1 (by omega) (by omega) (by omega) (by omega)]; exact wf_1 hw
    · rw [h (4 + v) (by omega) (by omega) (by omega) (by omega)]; exact wf_w hw hv
    · rcases hbo with ⟨z1, z2⟩ | ⟨p, z1, z2⟩
      · rw [z1] at z2; exact z2
      · rw [h 12 (by omega) (by omega) (by omega) (by omega)]; exact wf_p0 hw (by omega)
    · by_cases z : b = sB S
      · subst z
        rcases hbo with ⟨z1, z2⟩ | ⟨p, z1, z2⟩
        · omega
        · have e1 : par S' (sB S) = p := by unfold par; rw [z2]; exact n32_nat (by omega)
          rw [e1]; exact ⟨z2, z1⟩
      · rw [h (12 + b) (by omega) (by omega) (by omega) (by omega), ep b (by omega)]
        exact wf_p hw h0 (by omega)
    · by_cases z : b = sB S
      · subst z
        exact ⟨hch, hwg⟩
      · rw [h (32 + b) (by omega) (by omega) (by omega) (by omega), h (52 + b) (by omega) (by omega) (by omega) (by omega)]
        exact wf_ch hw (by omega)
  · refine ⟨(h 0 (by omega) (by omega) (by omega) (by omega)).symm, (h 1 (by omega) (by omega) (by omega) (by omega)).symm, fun v hv => (h (4 + v) (by omega) (by omega) (by omega) (by omega)).symm, by omega, fun b hb => ⟨(h _ (by omega) (by omega) (by omega) (by omega)).symm, (h _ (by omega) (by omega) (by omega) (by omega)).symm, (h _ (by omega) (by omega) (by omega) (by omega)).symm⟩, by omega, fun i hi => ⟨(h _ (by omega) (by omega) (by omega) (by omega)).symm, (h _ (by omega) (by omega) (by omega) (by omega)).symm, (h _ (by omega) (by omega) (by omega) (by omega)).symm⟩⟩
/-- what both sides do with a block's line in the end -/
def bZ (T : Nat → Int32) (n most : Nat) (I : TI) (J : TJ) (M : TI) (N : TJ) (S : TS) (b : Nat) (cv : Value) (K : TI) (J' : TJ) (M' : TI) (N' : TJ) : Prop := cv = .int 1 ∧ Par T n most K J' M' N' ∧ Dr K J' M' N' ∧ cC K I J' J ∧ cR M' M N' N ∧ sV (M' 212) = sV S ∧ sB (M' 212) = b + 1
theorem lk_blkE (h : Par T n most I J M N) (hT : Tr 89 S (dN N) I J) (hw : wfT S) (hb : sB S = b) (hb20 : b < 20) (h3 : S 3 = 0) (hM : ∀ k, k ≠ 12 + b → k ≠ 32 + b → k ≠ 52 + b → M 212 k = S k) (hbl : M 212 (12 + b) = bl) (hbo : (b = 0 ∧ bl = -1) ∨ ∃ p, p < b ∧ bl = n32 p) (hch : M 212 (32 + b) = ch) (hw9 : m ≤ 9) (hwm : M 212 (52 + b) = n32 m) (hco : ch = -1 ∨ ∃ v, v < sV S ∧ ch = n32 v ∧ wg = n32 m) (hr : ∀ k, k < 21 → N 216 k = xwd k) (hW : ∀ v, v < sV S → Wd (N 215 (28 + v))) : O2 e L (xlim (xcall xprog (d + 3)) mX2_readBlock 7 [.ref 89, xD, .long nm, xD, .int bl, .int ch, .int wg] [] (xst e L I J)) (xlim (xcall xprog (d' + 3)) mX12_readBlock 8 [.ref 209, .int (n32 b), .long nm, xD] [] (xst e L M N)) (.int 0) (fun K J' M' N' => cC K I J' J ∧ cR M' M N' N) (bZ T n most I J M N S b) := by
  have h8 := wf_V8 hw
  have e36 : (36 : Int32) + n32 b = n32 (36 + b) := n32_add
  have m2 : M 212 2 = n32 b := by rw [hM 2 (by omega) (by omega) (by omega), ← hb]; exact wf_2 hw
  have s' : ∀ k, (xu M 212 2 (n32 (b + 1))) 212 k = if k = 2 then n32 (b + 1) else M 212 k := fun k => by rw [xu_row]; rfl
  have hsw := blk_wf (S' := (xu M 212 2 (n32 (b + 1))) 212) hw hb hb20 (fun k z1 z2 z3 z4 => by rw [s', if_neg z1, hM k z2 z3 z4]) (by rw [s', if_pos rfl]) (by
    rw [s', if_neg (by omega), hbl]; exact hbo) (by
    rw [s', if_neg (by omega), hch]
    rcases hco with z | ⟨v, z1, z2, _⟩
    · exact Or.inl z
    · exact Or.inr ⟨v, z1, z2⟩) ⟨m, hw9, by rw [s', if_neg (by omega), hwm]⟩
  have n' : ∀ k, (xu N 215 (36 + b) nm) 215 k = if k = 36 + b then nm else N 215 k := fun k => by rw [xu_row]; rfl
  obtain ⟨o, r1, K, J', r2, r3, r4, r5⟩ := c_addBlock_89 (d := d + 2) (e := e) (L := L) (nm := nm) (bl := bl) (ch := ch) (wg := wg) (N' := dN (xu N 215 (36 + b) nm)) hT hw (by omega) hsw.1 hsw.2 (by rw [hb, s', if_pos rfl]) (by rw [hb, s', if_neg (by omega), hbl]) (by rw [hb, s', if_neg (by omega), hch]) (fun v hv z => by
      rw [hb, s', if_neg (by omega), hwm]
      rcases hco with y | ⟨v', y1, y2, y3⟩
      · rw [y] at z; exact absurd z.symm (n32_ne1 (by omega))
      · exact y3.symm) (fun v hv => by rw [dN_v (by omega), dN_v (by omega), n', if_neg (by omega)]) (fun b' hb' => by rw [dN_b (by omega), dN_b (by omega), n', if_neg (by omega)]) (by rw [hb, dN_b hb20, n', if_pos rfl])
  rw [bX2_readBlock_7, r1, r2, xcV_some, ekX2_readBlock_7_5, bX12_readBlock_8, e36, xin_n32 (by omega) (show 36 + b < 56 by omega), cond_true, n32_nat (by omega), m2, n32_succ]
  refine Or.inl ⟨_, K, J', _, _, rfl, rfl, rfl, ?_, ⟨hsw.1, ?_, r5, fun v hv => ?_, fun k hk => ?_⟩, ?_, ?_, ?_, ?_⟩
  · refine Par_c (fun o z => funext fun k => r4 o k (by omega)) (by rw [r3]; exact xu_rne (by omega)) (fun q z => by rw [xu_rne (by omega)]) (xu_rne (by omega)) (xu_rne (by omega)) h
  · rw [s', if_neg (by omega), hM 3 (by omega) (by omega) (by omega), h3]
  · rw [← pre_V hsw.2] at hv
    rw [n', if_neg (by omega)]
    exact hW v hv
  · rw [xu_rne (by omega)]; exact hr k hk
  · exact ⟨fun o z1 z2 => funext fun k => r4 o k z2, fun o z1 z2 => by rw [r3, xu_rne (by omega)]⟩
  · refine ⟨fun o z1 z2 => xu_rne z2, fun o z1 z2 => xu_rne z2, fun k hk => ?_, fun q z => by rw [xu_rne (by omega)]⟩
    rw [n', if_neg (by omega)]
  · exact (pre_V hsw.2).symm
  · unfold sB
    rw [s', if_pos rfl]
    exact n32_nat (by omega)
theorem O2_z {c r : Option xOut} {fv : Value} {F F' : TI → TJ → TI → TJ → Prop} {Z Z' : Value → TI → TJ → TI → TJ → Prop} (h : O2 e L c r fv F Z) (hF : ∀ K J' M' N', F K J' M' N' → F' K J' M' N') (hZ : ∀ cv K J' M' N', Z cv K J' M' N' → Z' cv K J' M' N') : O2 e L c r fv F' Z' := by
  rcases h with ⟨cv, K, J', M', N', h1, h2, h3⟩ | ⟨K, J', M', N', h1, h2, h3, h4⟩
  · exact Or.inl ⟨cv, K, J', M', N', h1, h2, hZ _ _ _ _ _ h3⟩
  · exact Or.inr ⟨K, J', M', N', h1, h2, h3, hF _ _ _ _ h4⟩
theorem bZ_t {cv : Value} (hc : cC K I J' J) (hr : cR M' M N' N) (h : bZ T n most K J' M' N' S b cv K2 J2 M2 N2) : bZ T n most I J M N S b cv K2 J2 M2 N2 := ⟨h.1, h.2.1, h.2.2.1, cC_t hc h.2.2.2.1, cR_t hr h.2.2.2.2.1, h.2.2.2.2.2⟩
/-- what a block changes -/
theorem lk_blkC (h : Par T n most I J M N) (hT : Tr 89 S (dN N) I J) (hw : wfT S) (hb : sB S = b) (hb20 : b < 20) (h3 : S 3 = 0) (hM : ∀ k, k ≠ 12 + b → M 212 k = S k) (hbl : M 212 (12 + b) = bl) (hbo : (b = 0 ∧ bl = -1) ∨ ∃ p, p < b ∧ bl = n32 p) (hr : ∀ k, k < 21 → N 216 k = xwd k) (hW : ∀ v, v < sV S → Wd (N 215 (28 + v))) : O2 e L (xlim (xcall xprog (d + 3)) mX2_readBlock 4 [.ref 89, .ref 5, .long nm, xD, .int bl, xD, xD] [] (xst e L I J)) (xlim (xcall xprog (d' + 3)) mX12_readBlock 5 [.ref 209, .int (n32 b), .long nm, xD] [] (xst e L M N)) (.int 0) (fun K J' M' N' => cC K I J' J ∧ cR M' M N' N) (bZ T n most I J M N S b) := by
  have h8 := wf_V8 hw
  have e32 : (32 : Int32) + n32 b = n32 (32 + b) := n32_add
  have e52 : (52 : Int32) + n32 b = n32 (52 + b) := n32_add
  rw [bX2_readBlock_4, bX12_readBlock_5, e32, e52, xin_n32 (by omega) (show 32 + b < 72 by omega), xin_n32 (by omega) (show 52 + b < 72 by omega), cond_true, cond_true, n32_nat (by omega), n32_nat (by omega)]
  generalize hMa : xu (xu M 212 (32 + b) (-1)) 212 (52 + b) 0 = Ma
  have ma : ∀ k, Ma 212 k = if k = 52 + b then 0 else if k = 32 + b then -1 else M 212 k := fun k => by rw [← hMa, xu_row, xu_row]; rfl
  have mo : ∀ o, o ≠ 212 → Ma o = M o := fun o z => by rw [← hMa, xu_rne z, xu_rne z]
  have ha : Par T n most I J Ma N := Par_c (fun _ _ => rfl) rfl (fun q z => by rw [mo 209 (by omega)]) (mo 210 (by omega)) rfl h
  have fa : cR Ma M N N := ⟨fun o z1 z2 => mo o z2, fun _ _ _ => rfl, fun _ _ => rfl, fun q z => by rw [mo 209 (by omega)]⟩
  rw [r_isWord (k := 4) (by omega) (show Int64.ofNat 109299962373989 = xwd 4 by decide) ha.2.1, xcI_some, ekX12_readBlock_5_16]
  by_cases z : I 5 0 = 68
  rotate_left
  · have z' : ¬ I 5 0 = n32 (64 + 4) := z
    rw [if_neg z, if_neg z', if_pos i00]
    refine O2_z (lk_blkE (m := 0) ha hT hw hb hb20 h3 (fun k z1 z2 z3 => by rw [ma, if_neg z3, if_neg z2, hM k z1]) (by rw [ma, if_neg (by omega), if_neg (by omega), hbl]) hbo (by rw [ma, if_neg (by omega), if_pos rfl]) (by omega) (by rw [ma, if_pos rfl]; rfl) (Or.inl rfl) hr hW) (fun K J' M' N' y => ⟨y.1, cR_t fa y.2⟩) (fun cv K J' M' N' y => bZ_t cC_r fa y)
  have z' : I 5 0 = n32 (64 + 4) := z
  obtain ⟨K1, J1, M1, N1, a1, a2, a3, a4, a5, _⟩ := lk_adv (d := d + 1) (d' := d' + 1) (e := e) (L := L) ha
  have hT1 := Tr_f (t := 89) (by omega) a4 hT
  have n1 : N1 215 = N 215 := a5.2.1 215 (by omega)
  have m1 : M1 212 = Ma 212 := a5.1 212 (by omega)
  have hV1 : K1 89 1 = n32 (sV S) := hT1.2.1.trans (wf_1 hw)
  have mV : M1 212 1 = n32 (sV S) := by rw [m1, ma, if_neg (by omega), if_neg (by omega), hM 1 (by omega)]; exact wf_1 hw
  have hf : fw (J1 90) (J1 5 1) (sV S) = fw (fun k => N1 215 (28 + k)) (J1 5 1) (sV S) := fw_c (fun k hk => by rw [(hT1.2.2.2.1 k hk).1, dN_v (by omega), n1])
  rw [if_pos z, if_pos z', if_neg i10, a1, xcV_some, ekX2_readBlock_4_9, a2, xcV_some, ekX12_readBlock_5_19, mV, c_voterNamed_89 hV1 h8, xcI_some, ekX2_readBlock_4_14]
  rcases lk_named (d := d) (d' := d') (e := e) (L := L) (f := J1 90) (fr := 28) (m := sV S) (x := 28) (y := n32 (sV S)) (by omega) hf rfl rfl (fun k hk => by rw [a5.2.1 216 (by omega)]; exact hr k hk) a3 with ⟨cv, K2, J2, M2, N2, b1, b2, v, b3, rfl, b5, b6, b7, b8⟩ | ⟨K2, J2, M2, N2, b1, b2, b3, b4, b5⟩
  rotate_left
  · rw [b1, xcI_some, ekX2_readBlock_4_15, if_pos im1, bX2_readBlock_6, if_pos im1, b2, xcI_some, ekX12_readBlock_5_26, if_pos i00]
    exact Or.inr ⟨K2, J2, M2, N2, rfl, rfl, b3, fC_c (fC_t a4 b4), cR_t fa (fR_c (fR_t a5 b5))⟩
  have m2 : M2 212 = Ma 212 := (b8.1 212 (by omega)).trans m1
  rw [b1, xcI_some, ekX2_readBlock_4_15, if_neg (n32_ne1 (by omega)), bX2_readBlock_5, b2, xcI_some, ekX12_readBlock_5_26, if_neg i10, bX12_readBlock_6, e32, xin_n32 (by omega) (show 32 + b < 72 by omega), cond_true, n32_nat (by omega), b5]
  generalize hMb : xu M2 212 (32 + b) (n32 v) = Mb
  have mb : ∀ k, Mb 212 k = if k = 32 + b then n32 v else Ma 212 k := fun k => by rw [← hMb, xu_row, m2]; rfl
  have mo2 : ∀ o, o ≠ 212 → Mb o = M2 o := fun o z => by rw [← hMb, xu_rne z]
  have hb2 : Par T n most K2 J2 Mb N2 := Par_c (fun _ _ => rfl) rfl (fun q z => by rw [mo2 209 (by omega)]) (mo2 210 (by omega)) rfl b6
  have fb : cR Mb M N2 N := cR_t (cR_t fa (fR_c (fR_t a5 b8))) ⟨fun o z1 z2 => mo2 o z2, fun _ _ _ => rfl, fun _ _ => rfl, fun q z => by rw [mo2 209 (by omega)]⟩
  rcases lk_num (d := d) (d' := d') (e := e) (L := L) (lo := 0) (hi := 9) (x := 0) (y := 9) (by omega) rfl rfl (by omega) hb2 with ⟨cv, K3, J3, M3, N3, d1, d2, m, d3, d4, rfl, d6, d7, d8, d9⟩ | ⟨K3, J3, M3, N3, d1, d2, d3, d4, d5⟩
  rotate_left
  · rw [d1, xcI_some, ekX2_readBlock_5_3, bX2_readBlock_6, if_pos im1, d2, xcI_some, ekX12_readBlock_6_11, if_pos i00]
    exact Or.inr ⟨K3, J3, M3, N3, rfl, rfl, d3, fC_c (fC_t (fC_t a4 b7) d4), cR_t fb (fR_c d5)⟩
  have m3 : M3 212 = Mb 212 := d9.1 212 (by omega)
  have n3 : N3 215 = N 215 := (d9.2.1 215 (by omega)).trans ((b8.2.1 215 (by omega)).trans n1)
  have n36 : N3 216 = N 216 := (d9.2.1 216 (by omega)).trans ((b8.2.1 216 (by omega)).trans (a5.2.1 216 (by omega)))
  rw [d1, xcI_some, ekX2_readBlock_5_3, bX2_readBlock_6, if_neg (n32_ne1 (by omega)), d2, xcI_some, ekX12_readBlock_6_11, if_neg i10, bX12_readBlock_7, e52, xin_n32 (by omega) (show 52 + b < 72 by omega), cond_true, n32_nat (by omega), d6]
  have mc : ∀ k, (xu M3 212 (52 + b) (n32 m)) 212 k = if k = 52 + b then n32 m else Mb 212 k := fun k => by rw [xu_row, m3]; rfl
  have fc : cR (xu M3 212 (52 + b) (n32 m)) M N3 N := cR_t (cR_t fb (fR_c d9)) ⟨fun o z1 z2 => xu_rne z2, fun _ _ _ => rfl, fun _ _ => rfl, fun q z => by rw [xu_rne (by omega)]⟩
  have fcc := fC_c (fC_t (fC_t a4 b7) d8)
  refine O2_z (lk_blkE (m := m) (M := xu M3 212 (52 + b) (n32 m)) (wg := n32 m) (Par_c (fun _ _ => rfl) rfl (fun q z => by rw [xu_rne (by omega)]) (xu_rne (by omega)) rfl d7) (by rw [dN_e n3]; exact Tr_f (by omega) (fC_t b7 d8) hT1) hw hb hb20 h3 (fun k z1 z2 z3 => by rw [mc, if_neg z3, mb, if_neg z2, ma, if_neg z3, if_neg z2, hM k z1]) (by rw [mc, if_neg (by omega), mb, if_neg (by omega), ma, if_neg (by omega), if_neg (by omega), hbl]) hbo (by rw [mc, if_neg (by omega), mb, if_pos rfl]) d4 (by rw [mc, if_pos rfl]) (Or.inr ⟨v, b3, rfl, rfl⟩) (by rw [n36]; exact hr) (by rw [n3]; exact hW)) (fun K J' M' N' y => ⟨cC_t fcc y.1, cR_t fc y.2⟩) (fun cv K J' M' N' y => bZ_t fcc fc y)
theorem lk_block (h : Par T n most I J M N) (hD : Dr I J M N) (hB : sB (M 212) < 20) : O2 e L (xcall xprog (d + 4) 19 [.ref 89, .ref 5] (xst e L I J)) (xcall xprog (d' + 4) 179 [.ref 209] (xst e L M N)) (.int 0) (fun K J' M' N' => cC K I J' J ∧ cR M' M N' N) (bZ T n most I J M N (M 212) (sB (M 212))) := by
  have hw := hD.1
  have h8 := wf_V8 hw
  obtain ⟨K1, J1, M1, N1, t, a1, a2, a3, a4, a5, a6, a7, a8⟩ := lk_nw (d := d) (d' := d') (e := e) (L := L) h hD
  rw [aX2_readBlock, bX2_readBlock_0, aX12_readBlock, bX12_readBlock_0, wf_2 hw, if_neg (show ¬ n32 (sB (M 212)) = 20 from lit_ne (b := 20) (by omega) (by omega) (by omega)), bX12_readBlock_1, a1, xcV_some, ekX2_readBlock_0_1, a2, xcV_some, ekX12_readBlock_1_1, a7, xcI_some, ekX2_readBlock_0_6]
  rcases a8 with ⟨b1, b2, b3, b4, b5⟩ | ⟨K2, M2, b1, b2, b3, b4, b5⟩
  rotate_left
  · rw [b1, xcJ_some, ekX2_readBlock_0_7, if_pos ((lg_cmp_eq _ _).mpr rfl), b2, xcI_some, ekX12_readBlock_1_3, if_pos i00]
    exact Or.inr ⟨K2, J1, M2, N1, rfl, rfl, b3, fC_c (fC_t a5 b4), fR_c (fR_t a6 b5)⟩
  generalize hb : sB (M 212) = b at *
  have e12 : (12 : Int32) + n32 b = n32 (12 + b) := n32_add
  obtain ⟨K2, J2, M2, N2, c1, c2, c3, c4, c5, _⟩ := lk_adv (d := d) (d' := d' + 1) (e := e) (L := L) a3
  have cn := c_newName (d := d) b1 c1
  have bt : bI t = 0 := by rw [b2]; rfl
  have hD2 := Dr_f a4 c4 c5
  have m2 : M2 212 = M 212 := (c5.1 212 (by omega)).trans (a6.1 212 (by omega))
  have f2 := fC_c (fC_t a5 c4)
  have g2 := fR_c (fR_t a6 c5)
  have kB : K2 89 2 = n32 b := by rw [Dr_B hD2, m2, hb]
  rw [bt, cn, xcJ_some, ekX2_readBlock_0_7, if_neg (by rw [b3]; exact Wd_0 b4), bX2_readBlock_1, kB, b5, xcI_some, ekX12_readBlock_1_3, if_neg i10, bX12_readBlock_2, c2, xcV_some, ekX12_readBlock_2_4, e12, xin_n32 (by omega) (show 12 + b < 72 by omega), cond_true, n32_nat (by omega), ← b3]
  generalize hMa : xu M2 212 (12 + b) (-1) = Ma
  have ma : ∀ k, Ma 212 k = if k = 12 + b then -1 else M 212 k := fun k => by rw [← hMa, xu_row, m2]; rfl
  have mo : ∀ o, o ≠ 212 → Ma o = M2 o := fun o z => by rw [← hMa, xu_rne z]
  have ha : Par T n most K2 J2 Ma N2 := Par_c (fun _ _ => rfl) rfl (fun q z => by rw [mo 209 (by omega)]) (mo 210 (by omega)) rfl c3
  have fa : cR Ma M N2 N := cR_t g2 ⟨fun o z1 z2 => mo o z2, fun _ _ _ => rfl, fun _ _ => rfl, fun q z => by rw [mo 209 (by omega)]⟩
  have hT2 : Tr 89 (M 212) (dN N2) K2 J2 := by have := hD2.2.2.1; rw [m2] at this; exact this
  have hW2 : ∀ v, v < sV (M 212) → Wd (N2 215 (28 + v)) := fun v hv => hD2.2.2.2.1 v (by rw [m2]; exact hv)
  by_cases b0 : b = 0
  · have q0 : n32 b ≤ 0 := by rw [b0]; decide
    rw [if_pos q0, if_pos q0]
    exact O2_z (lk_blkC (d := d) (d' := d') (S := M 212) ha hT2 hw hb hB hD.2.1 (fun k z => by rw [ma, if_neg z]) (by rw [ma, if_pos rfl]) (Or.inl ⟨b0, rfl⟩) hD2.2.2.2.2 hW2) (fun K J' M' N' y => ⟨cC_t f2 y.1, cR_t fa y.2⟩) (fun cv K J' M' N' y => bZ_t f2 fa y)
  have q0 : ¬ n32 b ≤ 0 := fun z => b0 ((n32_ge0 (by omega)).mp z)
  rw [if_neg q0, if_neg q0, r_isWord (k := 3) (by omega) (show Int64.ofNat 28526 = xwd 3 by decide) ha.2.1, xcI_some, ekX12_readBlock_2_16]
  by_cases z : K2 5 0 = n32 (64 + 3)
  rotate_left
  · obtain ⟨K, M', r1, r2, r3, r4, r5⟩ := lk_ref (d := d + 1) (d' := d' + 2) (e := e) (L := L) 1 ha
    have ct : xcall xprog (d + 3) 95 [.ref 5, .int 67] (xst e L K2 J2) = some (some (.int 0), xst e L K J2) := by
      rw [aX9_take, bX9_take_0, if_neg (show ¬ K2 5 0 = 67 from z), r1, xcI_some, ekX9_take_0_6]; rfl
    rw [ct, xcI_some, ekX2_readBlock_1_7, if_pos i00, bX2_readBlock_2, bX2_readBlock_3, if_pos im1, if_neg z, if_pos i00, r2, xcI_some, ekX12_readBlock_2_20]
    exact Or.inr ⟨K, J2, M', N2, rfl, rfl, r3, cC_t f2 (fC_c r4), cR_t fa (fR_c r5)⟩
  obtain ⟨K3, J3, M3, N3, k1, k2, k3, k4, k5, _⟩ := lk_adv (d := d) (d' := d' + 1) (e := e) (L := L) ha
  have ct : xcall xprog (d + 3) 95 [.ref 5, .int 67] (xst e L K2 J2) = some (some (.int 1), xst e L K3 J3) := by
    rw [aX9_take, bX9_take_0, if_pos (show K2 5 0 = 67 from z), bX9_take_1, k1, xcV_some, ekX9_take_1_1]
  have hT3 := Tr_f (t := 89) (by omega) k4 hT2
  have n3 : N3 215 = N2 215 := k5.2.1 215 (by omega)
  have hB3 : K3 89 2 = n32 b := hT3.2.2.1.trans (by rw [← hb]; exact wf_2 hw)
  have hf : fw (J3 92) (J3 5 1) b = fw (fun k => N3 215 (36 + k)) (J3 5 1) b := fw_c (fun k hk => by rw [(hT3.2.2.2.2 k (by omega)).1, dN_b (by omega), n3])
  rw [ct, xcI_some, ekX2_readBlock_1_7, if_neg i10, c_blockNamed_89 hB3 (by omega), xcI_some, ekX2_readBlock_1_13, if_pos z, if_neg i10, bX12_readBlock_3, k2, xcV_some, ekX12_readBlock_3_1]
  rcases lk_named (d := d) (d' := d') (e := e) (L := L) (f := J3 92) (fr := 36) (m := b) (x := 36) (y := n32 b) (by omega) hf rfl rfl (fun k hk => by rw [k5.2.1 216 (by omega)]; exact hD2.2.2.2.2 k hk) k3 with ⟨cv, K4, J4, M4, N4, l1, l2, p, l3, rfl, l5, l6, l7, l8⟩ | ⟨K4, J4, M4, N4, l1, l2, l3, l4, l5⟩
  rotate_left
  · rw [l1, xcI_some, ekX2_readBlock_1_14, bX2_readBlock_3, if_pos im1, l2, xcI_some, ekX12_readBlock_3_5, if_pos i00]
    exact Or.inr ⟨K4, J4, M4, N4, rfl, rfl, l3, cC_t f2 (fC_c (fC_t k4 l4)), cR_t fa (fR_c (fR_t k5 l5))⟩
  have m4 : M4 212 = Ma 212 := (l8.1 212 (by omega)).trans (k5.1 212 (by omega))
  have n4 : N4 215 = N2 215 := (l8.2.1 215 (by omega)).trans n3
  have n46 : N4 216 = N2 216 := (l8.2.1 216 (by omega)).trans (k5.2.1 216 (by omega))
  have mc : ∀ k, (xu M4 212 (12 + b) (n32 p)) 212 k = if k = 12 + b then n32 p else Ma 212 k := fun k => by rw [xu_row, m4]; rfl
  have fc : cR (xu M4 212 (12 + b) (n32 p)) M N4 N := cR_t (cR_t fa (fR_c (fR_t k5 l8))) ⟨fun o z1 z2 => xu_rne z2, fun _ _ _ => rfl, fun _ _ => rfl, fun q z => by rw [xu_rne (by omega)]⟩
  have fcc := cC_t f2 (fC_c (fC_t k4 l7))
  rw [l1, xcI_some, ekX2_readBlock_1_14, bX2_readBlock_3, if_neg (n32_ne1 (by omega)), l2, xcI_some, ekX12_readBlock_3_5, if_neg i10, bX12_readBlock_4, e12, xin_n32 (by omega) (show 12 + b < 72 by omega), cond_true, n32_nat (by omega), l5]
  exact O2_z (lk_blkC (d := d) (d' := d') (S := M 212) (M := xu M4 212 (12 + b) (n32 p)) (Par_c (fun _ _ => rfl) rfl (fun q z => by rw [xu_rne (by omega)]) (xu_rne (by omega)) rfl l6) (by rw [dN_e n4]; exact Tr_f (by omega) l7 hT3) hw hb hB hD.2.1 (fun k z => by rw [mc, if_neg z, ma, if_neg z]) (by rw [mc, if_pos rfl]) (Or.inr ⟨p, l3, rfl⟩) (by rw [n46]; exact hD2.2.2.2.2) (by rw [n4]; exact hW2)) (fun K J' M' N' y => ⟨cC_t fcc y.1, cR_t fc y.2⟩) (fun cv K J' M' N' y => bZ_t fcc fc y)
end BLK
