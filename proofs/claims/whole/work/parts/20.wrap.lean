/-! The law's own methods that catch. -/
theorem xwl_c : Cond.classLink RL 13 xNSE ∈ xTl := xTb_in (k := 5296) (by decide +kernel)
theorem xwrap1_inv {cf : xCF} {mid q : Nat} {as : List Value} {σ σ' : xS} {v : Option Value} (h : xwrap1 cf mid as q σ = some (v, σ')) : ∃ v1 σ1, cf mid as σ = some (v1, σ1) ∧ ((∃ r : Int32, v1 = some (.int r) ∧ v = some (.int 0) ∧ (xis σ1.1 15 q = true ∧ xin 0 (xlen σ1.1 15 q) = true) ∧ σ' = ((σ1.1.1, σ1.1.2), σ1.2.1, xu σ1.2.2 q 0 r.toInt64)) ∨ (v1 = some xT ∧ v = some (.int 1) ∧ σ' = σ1)) := by
  unfold xwrap1 at h
  split at h
  · next x σ1 e =>
    refine ⟨_, σ1, e, Or.inl ⟨x, rfl, ?_⟩⟩
    unfold xsJ at h
    cases hi : (xis σ1.1 15 q && xin 0 (xlen σ1.1 15 q)) with
    | false => simp [hi] at h
    | true =>
      simp only [hi, cond_true] at h
      simp only [Bool.and_eq_true] at hi
      cases h
      exact ⟨rfl, hi, rfl⟩
  · next w σ1 e =>
    by_cases hw : w = 1
    · rw [if_pos hw] at h
      subst hw
      cases h
      exact ⟨_, σ', e, Or.inr ⟨rfl, rfl, rfl⟩⟩
    · rw [if_neg hw] at h; cases h
  · cases h
/-- every call of a method that throws, that the interpreter can do, meets its contract -/
def xCt' (X : xX) (L : Nat) (xs : Nat → Int32) (l : Launch) (cf : xCF) (d : Nat) : Prop := ∀ (mid : Nat) (mi : xN) (as : List Value) (σ : xS) (v : Option Value) (σ' : xS) (φ : Nat → Nat), cf mid as σ = some (v, σ') → xn xinfo mid = some mi → xthr mid = true → xwf σ → σ.1.2.2 = L → σ.2.1 1000000 = xs → xok' σ.1.1.length as →
  vx_Met l mi.1 (xhd mid mi :: xTl) (xrm d (xcnt σ' - xcnt σ) (xslt σ' - xslt σ)) (xPc X φ L xs as σ) (xQt X φ L xs σ v σ') (xXc X φ L xs σ v σ') (xcnt σ' - xcnt σ) (xslt σ' - xslt σ) (xA X)
theorem xwd_block_0 : decode cL_block 0 = .ok (.aload_n 3, 1) := by decide +kernel
theorem xwd_block_1 : decode cL_block 1 = .ok (.iconst 0, 1) := by decide +kernel
theorem xwd_block_2 : decode cL_block 2 = .ok (.aload_n 0, 1) := by decide +kernel
theorem xwd_block_3 : decode cL_block 3 = .ok (.iload_n 1, 1) := by decide +kernel
theorem xwd_block_4 : decode cL_block 4 = .ok (.iload_n 2, 1) := by decide +kernel
theorem xwd_block_5 : decode cL_block 5 = .ok (.invokevirtual 7, 3) := by decide +kernel
theorem xwd_block_8 : decode cL_block 8 = .ok (.i2l, 1) := by decide +kernel
theorem xwd_block_9 : decode cL_block 9 = .ok (.lastore, 1) := by decide +kernel
theorem xwd_block_10 : decode cL_block 10 = .ok (.goto 7, 3) := by decide +kernel
theorem xwd_block_13 : decode cL_block 13 = .ok (.astore 4, 2) := by decide +kernel
theorem xwd_block_15 : decode cL_block 15 = .ok (.iconst 1, 1) := by decide +kernel
theorem xwd_block_16 : decode cL_block 16 = .ok (.ireturn, 1) := by decide +kernel
theorem xwd_block_17 : decode cL_block 17 = .ok (.iconst 0, 1) := by decide +kernel
theorem xwd_block_18 : decode cL_block 18 = .ok (.ireturn, 1) := by decide +kernel
theorem xwm_block : Cond.methodLink RL 7 xi_116.1 ∈ xTl := xTb_in (k := 5297) (by decide +kernel)
theorem xmet_block {X : xX} {φ : Nat → Nat} {L : Nat} {xs : Nat → Int32} {l : Launch} {cf : xCF} {d x out : Nat} {a b : Int32} {σ σ' : xS} {v : Option Value} (hX : xCt' X L xs l cf d) (hcm : ∀ mid as σ v σ', cf mid as σ = some (v, σ') → xle σ σ')
    (hwf : xwf σ) (hL : σ.1.2.2 = L) (hxs : σ.2.1 1000000 = xs) (hok : xok' σ.1.1.length [.ref x, .int a, .int b, .ref out]) (hrc : xis σ.1 11 x = true) (h : xwrap1 cf 116 [.ref x, .int a, .int b] out σ = some (v, σ')) :
    Met l xi_270.1 (xhd 270 xi_270 :: xTl) (xrm (d + 1) (xcnt σ' - xcnt σ) (xslt σ' - xslt σ)) (xPc X φ L xs [.ref x, .int a, .int b, .ref out] σ) (xQc X φ L xs σ v σ') (xcnt σ' - xcnt σ) (xslt σ' - xslt σ) (xA X) := by
  obtain ⟨v1, σ1, e1, hcase⟩ := xwrap1_inv h
  have hokt : xok' σ.1.1.length [.ref x, .int a, .int b] := fun w hw => hok w (by simp only [List.mem_cons, List.not_mem_nil, or_false] at hw ⊢; rcases hw with rfl | rfl | rfl <;> simp)
  have hm := hX 116 xi_116 _ _ _ _ φ e1 rfl rfl hwf hL hxs hokt
  have hle := hcm _ _ _ _ _ e1
  have hcc : xcnt σ' = xcnt σ1 ∧ xslt σ' = xslt σ1 := by
    rcases hcase with ⟨r, -, -, -, rfl⟩ | ⟨-, -, rfl⟩
    · exact ⟨rfl, rfl⟩
    · exact ⟨rfl, rfl⟩
  rw [hcc.1, hcc.2]
  refine va_MetW (cc := cL_block) (maxL := 5) (ret := some .int) (hh := [(0, 10, 13, 13)]) (by decide +kernel) rfl ?_
  intro p e s m args below meth c s₁ B hml hp
  have C := xct_of B hml (fun w hw => List.mem_cons_of_mem _ hw) ⟨by show 12 ≤ d + 1 + 12; omega, by show 400 ≤ 64 * (d + 1) + 400; omega⟩ hp
  have htab : c.exceptionTable.toList = _ := vx_table (x := xi_270.1) B (atoms_spec (ws := xhd 270 xi_270 :: xTl) B.pre _ List.mem_cons_self)
  obtain ⟨h1, h2, h3, h4, h5, h6⟩ := hp
  subst h1
  obtain ⟨ob, hob, hobc⟩ := xis_at hrc
  have hlo : φ out = φ out := rfl
  have hvo : xld σ.1.1.length out := hok _ (by simp) out rfl
  have K : W p l e (headSpec (xhd 270 xi_270 :: xTl) (xrm (d + 1) (xcnt σ1 - xcnt σ) (xslt σ1 - xslt σ))).room s m (([.ref x, .int a, .int b, .ref out] : List Value).map (xv φ)).toArray below meth c s.heap [] 0 0 (MQ below (xQc X φ L xs σ v σ') (([.ref x, .int a, .int b, .ref out] : List Value).map (xv φ)).toArray s (xcnt σ1 - xcnt σ) (xslt σ1 - xslt σ) (xA X)) (entryFrame m (([.ref x, .int a, .int b, .ref out] : List Value).map (xv φ)).toArray 5) := by
    have hl := lv_entry (([.ref x, .int a, .int b, .ref out] : List Value).map (xv φ)) (n := 5) (Nat.le_of_ble_eq_true rfl)
    rw [lg_entry_eq]
    generalize (lg_sl (([.ref x, .int a, .int b, .ref out] : List Value).map (xv φ)) ++ List.replicate (5 - (lg_sl (([.ref x, .int a, .int b, .ref out] : List Value).map (xv φ))).length) Slot.unset).toArray = ls at hl ⊢
    have hl : lv_has ls 5 [(0, .ref (φ x)), (1, .int a), (2, .int b), (3, .ref (φ out))] := hl
    refine lv_aload_n C.1.1 C.1.2.1 xwd_block_0 rfl (lv_at hl 3 rfl) ?_
    refine lv_iconst (v := 0) C.1.1 C.1.2.1 xwd_block_1 (by decide) ?_
    refine lv_aload_n C.1.1 C.1.2.1 xwd_block_2 rfl (lv_at hl 0 rfl) ?_
    refine lv_iload_n C.1.1 C.1.2.1 xwd_block_3 rfl (lv_at hl 1 rfl) ?_
    refine lv_iload_n C.1.1 C.1.2.1 xwd_block_4 rfl (lv_at hl 2 rfl) ?_
    have hB : CallB (headSpec (xhd 270 xi_270 :: xTl) (xrm (d + 1) (xcnt σ1 - xcnt σ) (xslt σ1 - xslt σ))).room s (([.ref x, .int a, .int b, .ref out] : List Value).map (xv φ)).toArray RL 7 xi_116.1 xi_116.2.1 xi_116.2.2.1 xi_116.2.2.2.1 (xhd 116 xi_116 :: xTl) (xrm d (xcnt σ1 - xcnt σ) (xslt σ1 - xslt σ)) (xcnt σ1 - xcnt σ) (xslt σ1 - xslt σ) 2 :=
      callB_of 2 C.2.1 (xgood (mid := 116) rfl (by decide)) rfl rfl rfl (C.2.1 _ (xTb_in (k := 1025) (by decide +kernel))) (C.2.1 _ xwm_block) (by decide +kernel) ⟨by show d + 12 + 1 ≤ d + 1 + 12; omega, xroom (by decide) (Nat.le_refl _)⟩
    have cw : CallW (headSpec (xhd 270 xi_270 :: xTl) (xrm (d + 1) (xcnt σ1 - xcnt σ) (xslt σ1 - xslt σ))).room s (([.ref x, .int a, .int b, .ref out] : List Value).map (xv φ)).toArray RL RX11 7 xi_116.1 xi_116.2.1 xi_116.2.2.1 xi_116.2.2.2.1 (xhd 116 xi_116 :: xTl) (xrm d (xcnt σ1 - xcnt σ) (xslt σ1 - xslt σ)) (xcnt σ1 - xcnt σ) (xslt σ1 - xslt σ) 2 :=
      ⟨hB, C.2.1 _ (xTb_in (k := 5298) (by decide +kernel)), C.2.1 _ (xTb_in (k := 5299) (by decide +kernel))⟩
    have he : (xw φ X.2.1 σ)[x]? = some (φ x, .inr (11, xfs φ (σ.2.1 x) (σ.2.2 x) ob)) := by rw [xw_at hob, xE_o (by omega), hobc]
    have hr := vx_runV (l := l) (H := s.heap) (locs := []) (cells := 0) (slots := 0) (below := below) (meth := meth) (e := e) (As := [.int a, .int b]) (b := φ x) (rest := [.int 0, .ref (φ out)]) (g := F0 m 5 ls [.int b, .int a, .ref (φ x), .int 0, .ref (φ out)]) ⟨C.1.1, C.1.2.1, C.1.2.2.1, C.1.2.2.2, C.2.1⟩ hm cw ⟨xPc_blind, va_recv (ci := 11) (q0 := x) C.2.2.1 h3 rfl he, fun U hU hW => ⟨rfl, by rw [hU]; exact h2, by rw [hU]; exact h3, va_K.moved hW.alike h4, h5, by rw [hU]; exact h6.warm hW⟩⟩ rfl rfl hl.1 rfl (lv_room (Nat.le_of_ble_eq_true rfl)) xwd_block_5 ⟨by show 0 + _ ≤ xcnt σ1 - xcnt σ; omega, by show 0 + _ ≤ xslt σ1 - xslt σ; omega⟩
    intro T hT XS
    rcases hr T hT XS with ⟨v', st₀, t, T', Lc, g0, XS', hLc, g1, g2, ⟨⟨⟨φ', q1, q2, q3, q4⟩, po, f1, f2⟩, hne⟩, go⟩ | ⟨q, st₀, t, T', Lc, E, ce, g0, XS', hLc, g1, g2, ⟨hv1, hE, ⟨φ', q1, q3, q4⟩, po, f1, f2⟩, hce, hcv, hcl, go⟩
    · rcases hcase with ⟨r, rfl, rfl, ⟨hi1, hi2⟩, rfl⟩ | ⟨rfl, -, -⟩
      · cases q2
        obtain ⟨oa, hoa, hoc⟩ := xis_at hi1
        rw [xlen_is (n := 0) hoa hoc] at hi2
        have hout : φ' out = φ out := q1 out hvo
        rw [g0] at f1 f2
        have hS : va_S (xA X) s.heap T'.heap ([] ++ Lc) := ⟨by rw [g1]; exact f1, fun q a1 a2 => by rw [g1]; exact f2 q a1 a2, fun z hz => hLc z (by simpa using hz)⟩
        have K2 : W p l e (headSpec (xhd 270 xi_270 :: xTl) (xrm (d + 1) (xcnt σ1 - xcnt σ) (xslt σ1 - xslt σ))).room s m (([.ref x, .int a, .int b, .ref out] : List Value).map (xv φ)).toArray below meth c T'.heap ([] ++ Lc) (0 + (xcnt σ1 - xcnt σ)) (0 + (xslt σ1 - xslt σ)) (MQ below (xQc X φ L xs σ (some (.int 0)) ((σ1.1.1, σ1.1.2), σ1.2.1, xu σ1.2.2 out 0 r.toInt64)) (([.ref x, .int a, .int b, .ref out] : List Value).map (xv φ)).toArray s (xcnt σ1 - xcnt σ) (xslt σ1 - xslt σ) (xA X)) (F0 m (5 + 3) ls [.int r, .int 0, .ref (φ out)]) := by
          refine lv_i2l C.1.1 C.1.2.1 xwd_block_8 rfl ?_
          rw [← hout]
          refine va_last (ws := xw φ' X.2.1 σ1) (n := oa.2.1) (f := σ1.2.2 out) C.1.1 C.1.2.1 C.2.2.1 (by rw [g1]; exact q3) q4 hS out 2 (by rw [xw_at hoa, xE_j hoc, hoc]) rfl (xin_vp hi2) xwd_block_9 (fun H1 locs1 k1 k2 k3 => ?_)
          refine lv_goto (tgt := 17) C.1.1 C.1.2.1 xwd_block_10 (by decide) ?_
          refine lv_iconst (v := 0) C.1.1 C.1.2.1 xwd_block_17 (by decide) ?_
          have ew : xw φ' X.2.1 ((σ1.1.1, σ1.1.2), σ1.2.1, xu σ1.2.2 out 0 r.toInt64) = (xw φ' X.2.1 σ1).set out (φ' out, .inl (X.2.1 15, oa.2.1, .inr (.inl (vp_updL (σ1.2.2 out) (0 : Int32).toNatClampNeg r.toInt64)))) := by
            rw [xw_set (a := oa) (b := oa) hoa (xself hoa) (fun j hj => rfl) (fun j hj => xu_ne hj), xE_j hoc, hoc, xu_eq]
            rfl
          rw [← ew] at k1 k2
          rw [Nat.zero_add, Nat.zero_add]
          exact W.iret C.1.1 C.1.2.1 C.2.2.2.2.2.1.1 (fun t ht _ => ⟨⟨φ', q1, rfl, by rw [ht]; exact k1, k2⟩, ⟨po.1, po.2.1, po.2.2.1, po.2.2.2.1, po.2.2.2.2.1, fun w hw => by cases hw; exact xvd_i⟩, k3.F ht⟩) k3.2.2 xwd_block_18 (hlocks := C.2.2.2.2.2.1.2.1)
        obtain ⟨t2, a1, b1⟩ := K2 T' rfl XS'
        exact ⟨t2, go t2 a1, b1⟩
      · exact absurd rfl hne
    · rcases hcase with ⟨r, rfl, -, -, -⟩ | ⟨rfl, rfl, rfl⟩
      · cases hv1
      · subst hE
        rw [g0] at f1 f2
        have hS : va_S (xA X) s.heap T'.heap ([] ++ Lc) := ⟨by rw [g1]; exact f1, fun q a1 a2 => by rw [g1]; exact f2 q a1 a2, fun z hz => hLc z (by simpa using hz)⟩
        have K2 : vx_W p l e (headSpec (xhd 270 xi_270 :: xTl) (xrm (d + 1) (xcnt σ' - xcnt σ) (xslt σ' - xslt σ))).room s m (([.ref x, .int a, .int b, .ref out] : List Value).map (xv φ)).toArray below meth c T'.heap ([] ++ Lc) (0 + (xcnt σ' - xcnt σ)) (0 + (xslt σ' - xslt σ)) (MQ below (xQc X φ L xs σ (some (.int 1)) σ') (([.ref x, .int a, .int b, .ref out] : List Value).map (xv φ)).toArray s (xcnt σ' - xcnt σ) (xslt σ' - xslt σ) (xA X)) (F0 m 5 ls [.int 0, .ref (φ out)]) q := by
          refine vx_catch (own := RL) (name := xNSE) (E := xNSE) (ce := ce) C.1.2.2.2 [] ⟨0, 10, 13, 13⟩ [] htab (fun z hz => by cases hz) (by decide +kernel) (by decide) (C.2.1 _ xwl_c) (va_Nw.use rfl h6.2.2.2.2.2.2.1.1) (by rw [g1]; exact hce) hcv hcl ?_
          refine lv_astore C.1.1 C.1.2.1 xwd_block_13 hl (by decide) rfl (fun ls hl => ?_)
          refine lv_iconst (v := 1) C.1.1 C.1.2.1 xwd_block_15 (by decide) ?_
          rw [Nat.zero_add, Nat.zero_add]
          exact W.iret C.1.1 C.1.2.1 C.2.2.2.2.2.1.1 (fun t2 ht _ => ⟨⟨φ', q1, rfl, by rw [ht, g1]; exact q3, q4⟩, ⟨po.1, po.2.1, po.2.2.1, po.2.2.2.1, po.2.2.2.2.1, fun w hw => by cases hw; exact xvd_i⟩, hS.F ht⟩) hS.2.2 xwd_block_16 (hlocks := C.2.2.2.2.2.1.2.1)
        obtain ⟨t2, a1, b1⟩ := K2 T' rfl XS'
        exact ⟨t2, go.trans a1, b1⟩
  exact K
theorem xwd_link_0 : decode cL_link 0 = .ok (.aload 4, 2) := by decide +kernel
theorem xwd_link_2 : decode cL_link 2 = .ok (.iconst 0, 1) := by decide +kernel
theorem xwd_link_3 : decode cL_link 3 = .ok (.aload_n 0, 1) := by decide +kernel
theorem xwd_link_4 : decode cL_link 4 = .ok (.iload_n 1, 1) := by decide +kernel
theorem xwd_link_5 : decode cL_link 5 = .ok (.iload_n 2, 1) := by decide +kernel
theorem xwd_link_6 : decode cL_link 6 = .ok (.iload_n 3, 1) := by decide +kernel
theorem xwd_link_7 : decode cL_link 7 = .ok (.invokevirtual 15, 3) := by decide +kernel
theorem xwd_link_10 : decode cL_link 10 = .ok (.i2l, 1) := by decide +kernel
theorem xwd_link_11 : decode cL_link 11 = .ok (.lastore, 1) := by decide +kernel
theorem xwd_link_12 : decode cL_link 12 = .ok (.goto 7, 3) := by decide +kernel
theorem xwd_link_15 : decode cL_link 15 = .ok (.astore 5, 2) := by decide +kernel
theorem xwd_link_17 : decode cL_link 17 = .ok (.iconst 1, 1) := by decide +kernel
theorem xwd_link_18 : decode cL_link 18 = .ok (.ireturn, 1) := by decide +kernel
theorem xwd_link_19 : decode cL_link 19 = .ok (.iconst 0, 1) := by decide +kernel
theorem xwd_link_20 : decode cL_link 20 = .ok (.ireturn, 1) := by decide +kernel
theorem xwm_link : Cond.methodLink RL 15 xi_122.1 ∈ xTl := xTb_in (k := 6150) (by decide +kernel)
theorem xmet_link {X : xX} {φ : Nat → Nat} {L : Nat} {xs : Nat → Int32} {l : Launch} {cf : xCF} {d x out : Nat} {a b c2 : Int32} {σ σ' : xS} {v : Option Value} (hX : xCt' X L xs l cf d) (hcm : ∀ mid as σ v σ', cf mid as σ = some (v, σ') → xle σ σ')
    (hwf : xwf σ) (hL : σ.1.2.2 = L) (hxs : σ.2.1 1000000 = xs) (hok : xok' σ.1.1.length [.ref x, .int a, .int b, .int c2, .ref out]) (hrc : xis σ.1 11 x = true) (h : xwrap1 cf 122 [.ref x, .int a, .int b, .int c2] out σ = some (v, σ')) :
    Met l xi_271.1 (xhd 271 xi_271 :: xTl) (xrm (d + 1) (xcnt σ' - xcnt σ) (xslt σ' - xslt σ)) (xPc X φ L xs [.ref x, .int a, .int b, .int c2, .ref out] σ) (xQc X φ L xs σ v σ') (xcnt σ' - xcnt σ) (xslt σ' - xslt σ) (xA X) := by
  obtain ⟨v1, σ1, e1, hcase⟩ := xwrap1_inv h
  have hokt : xok' σ.1.1.length [.ref x, .int a, .int b, .int c2] := fun w hw => hok w (by simp only [List.mem_cons, List.not_mem_nil, or_false] at hw ⊢; rcases hw with rfl | rfl | rfl | rfl <;> simp)
  have hm := hX 122 xi_122 _ _ _ _ φ e1 rfl rfl hwf hL hxs hokt
  have hle := hcm _ _ _ _ _ e1
  have hcc : xcnt σ' = xcnt σ1 ∧ xslt σ' = xslt σ1 := by
    rcases hcase with ⟨r, -, -, -, rfl⟩ | ⟨-, -, rfl⟩
    · exact ⟨rfl, rfl⟩
    · exact ⟨rfl, rfl⟩
  rw [hcc.1, hcc.2]
  refine va_MetW (cc := cL_link) (maxL := 6) (ret := some .int) (hh := [(0, 12, 15, 13)]) (by decide +kernel) rfl ?_
  intro p e s m args below meth c s₁ B hml hp
  have C := xct_of B hml (fun w hw => List.mem_cons_of_mem _ hw) ⟨by show 12 ≤ d + 1 + 12; omega, by show 400 ≤ 64 * (d + 1) + 400; omega⟩ hp
  have htab : c.exceptionTable.toList = _ := vx_table (x := xi_271.1) B (atoms_spec (ws := xhd 271 xi_271 :: xTl) B.pre _ List.mem_cons_self)
  obtain ⟨h1, h2, h3, h4, h5, h6⟩ := hp
  subst h1
  obtain ⟨ob, hob, hobc⟩ := xis_at hrc
  have hlo : φ out = φ out := rfl
  have hvo : xld σ.1.1.length out := hok _ (by simp) out rfl
  have K : W p l e (headSpec (xhd 271 xi_271 :: xTl) (xrm (d + 1) (xcnt σ1 - xcnt σ) (xslt σ1 - xslt σ))).room s m (([.ref x, .int a, .int b, .int c2, .ref out] : List Value).map (xv φ)).toArray below meth c s.heap [] 0 0 (MQ below (xQc X φ L xs σ v σ') (([.ref x, .int a, .int b, .int c2, .ref out] : List Value).map (xv φ)).toArray s (xcnt σ1 - xcnt σ) (xslt σ1 - xslt σ) (xA X)) (entryFrame m (([.ref x, .int a, .int b, .int c2, .ref out] : List Value).map (xv φ)).toArray 6) := by
    have hl := lv_entry (([.ref x, .int a, .int b, .int c2, .ref out] : List Value).map (xv φ)) (n := 6) (Nat.le_of_ble_eq_true rfl)
    rw [lg_entry_eq]
    generalize (lg_sl (([.ref x, .int a, .int b, .int c2, .ref out] : List Value).map (xv φ)) ++ List.replicate (6 - (lg_sl (([.ref x, .int a, .int b, .int c2, .ref out] : List Value).map (xv φ))).length) Slot.unset).toArray = ls at hl ⊢
    have hl : lv_has ls 6 [(0, .ref (φ x)), (1, .int a), (2, .int b), (3, .int c2), (4, .ref (φ out))] := hl
    refine lv_aload C.1.1 C.1.2.1 xwd_link_0 (lv_at hl 4 rfl) ?_
    refine lv_iconst (v := 0) C.1.1 C.1.2.1 xwd_link_2 (by decide) ?_
    refine lv_aload_n C.1.1 C.1.2.1 xwd_link_3 rfl (lv_at hl 0 rfl) ?_
    refine lv_iload_n C.1.1 C.1.2.1 xwd_link_4 rfl (lv_at hl 1 rfl) ?_
    refine lv_iload_n C.1.1 C.1.2.1 xwd_link_5 rfl (lv_at hl 2 rfl) ?_
    refine lv_iload_n C.1.1 C.1.2.1 xwd_link_6 rfl (lv_at hl 3 rfl) ?_
    have hB : CallB (headSpec (xhd 271 xi_271 :: xTl) (xrm (d + 1) (xcnt σ1 - xcnt σ) (xslt σ1 - xslt σ))).room s (([.ref x, .int a, .int b, .int c2, .ref out] : List Value).map (xv φ)).toArray RL 15 xi_122.1 xi_122.2.1 xi_122.2.2.1 xi_122.2.2.2.1 (xhd 122 xi_122 :: xTl) (xrm d (xcnt σ1 - xcnt σ) (xslt σ1 - xslt σ)) (xcnt σ1 - xcnt σ) (xslt σ1 - xslt σ) 3 :=
      callB_of 3 C.2.1 (xgood (mid := 122) rfl (by decide)) rfl rfl rfl (C.2.1 _ (xTb_in (k := 1025) (by decide +kernel))) (C.2.1 _ xwm_link) (by decide +kernel) ⟨by show d + 12 + 1 ≤ d + 1 + 12; omega, xroom (by decide) (Nat.le_refl _)⟩
    have cw : CallW (headSpec (xhd 271 xi_271 :: xTl) (xrm (d + 1) (xcnt σ1 - xcnt σ) (xslt σ1 - xslt σ))).room s (([.ref x, .int a, .int b, .int c2, .ref out] : List Value).map (xv φ)).toArray RL RX11 15 xi_122.1 xi_122.2.1 xi_122.2.2.1 xi_122.2.2.2.1 (xhd 122 xi_122 :: xTl) (xrm d (xcnt σ1 - xcnt σ) (xslt σ1 - xslt σ)) (xcnt σ1 - xcnt σ) (xslt σ1 - xslt σ) 3 :=
      ⟨hB, C.2.1 _ (xTb_in (k := 6151) (by decide +kernel)), C.2.1 _ (xTb_in (k := 6152) (by decide +kernel))⟩
    have he : (xw φ X.2.1 σ)[x]? = some (φ x, .inr (11, xfs φ (σ.2.1 x) (σ.2.2 x) ob)) := by rw [xw_at hob, xE_o (by omega), hobc]
    have hr := vx_runV (l := l) (H := s.heap) (locs := []) (cells := 0) (slots := 0) (below := below) (meth := meth) (e := e) (As := [.int a, .int b, .int c2]) (b := φ x) (rest := [.int 0, .ref (φ out)]) (g := F0 m 7 ls [.int c2, .int b, .int a, .ref (φ x), .int 0, .ref (φ out)]) ⟨C.1.1, C.1.2.1, C.1.2.2.1, C.1.2.2.2, C.2.1⟩ hm cw ⟨xPc_blind, va_recv (ci := 11) (q0 := x) C.2.2.1 h3 rfl he, fun U hU hW => ⟨rfl, by rw [hU]; exact h2, by rw [hU]; exact h3, va_K.moved hW.alike h4, h5, by rw [hU]; exact h6.warm hW⟩⟩ rfl rfl hl.1 rfl (lv_room (Nat.le_of_ble_eq_true rfl)) xwd_link_7 ⟨by show 0 + _ ≤ xcnt σ1 - xcnt σ; omega, by show 0 + _ ≤ xslt σ1 - xslt σ; omega⟩
    intro T hT XS
    rcases hr T hT XS with ⟨v', st₀, t, T', Lc, g0, XS', hLc, g1, g2, ⟨⟨⟨φ', q1, q2, q3, q4⟩, po, f1, f2⟩, hne⟩, go⟩ | ⟨q, st₀, t, T', Lc, E, ce, g0, XS', hLc, g1, g2, ⟨hv1, hE, ⟨φ', q1, q3, q4⟩, po, f1, f2⟩, hce, hcv, hcl, go⟩
    · rcases hcase with ⟨r, rfl, rfl, ⟨hi1, hi2⟩, rfl⟩ | ⟨rfl, -, -⟩
      · cases q2
        obtain ⟨oa, hoa, hoc⟩ := xis_at hi1
        rw [xlen_is (n := 0) hoa hoc] at hi2
        have hout : φ' out = φ out := q1 out hvo
        rw [g0] at f1 f2
        have hS : va_S (xA X) s.heap T'.heap ([] ++ Lc) := ⟨by rw [g1]; exact f1, fun q a1 a2 => by rw [g1]; exact f2 q a1 a2, fun z hz => hLc z (by simpa using hz)⟩
        have K2 : W p l e (headSpec (xhd 271 xi_271 :: xTl) (xrm (d + 1) (xcnt σ1 - xcnt σ) (xslt σ1 - xslt σ))).room s m (([.ref x, .int a, .int b, .int c2, .ref out] : List Value).map (xv φ)).toArray below meth c T'.heap ([] ++ Lc) (0 + (xcnt σ1 - xcnt σ)) (0 + (xslt σ1 - xslt σ)) (MQ below (xQc X φ L xs σ (some (.int 0)) ((σ1.1.1, σ1.1.2), σ1.2.1, xu σ1.2.2 out 0 r.toInt64)) (([.ref x, .int a, .int b, .int c2, .ref out] : List Value).map (xv φ)).toArray s (xcnt σ1 - xcnt σ) (xslt σ1 - xslt σ) (xA X)) (F0 m (7 + 3) ls [.int r, .int 0, .ref (φ out)]) := by
          refine lv_i2l C.1.1 C.1.2.1 xwd_link_10 rfl ?_
          rw [← hout]
          refine va_last (ws := xw φ' X.2.1 σ1) (n := oa.2.1) (f := σ1.2.2 out) C.1.1 C.1.2.1 C.2.2.1 (by rw [g1]; exact q3) q4 hS out 2 (by rw [xw_at hoa, xE_j hoc, hoc]) rfl (xin_vp hi2) xwd_link_11 (fun H1 locs1 k1 k2 k3 => ?_)
          refine lv_goto (tgt := 19) C.1.1 C.1.2.1 xwd_link_12 (by decide) ?_
          refine lv_iconst (v := 0) C.1.1 C.1.2.1 xwd_link_19 (by decide) ?_
          have ew : xw φ' X.2.1 ((σ1.1.1, σ1.1.2), σ1.2.1, xu σ1.2.2 out 0 r.toInt64) = (xw φ' X.2.1 σ1).set out (φ' out, .inl (X.2.1 15, oa.2.1, .inr (.inl (vp_updL (σ1.2.2 out) (0 : Int32).toNatClampNeg r.toInt64)))) := by
            rw [xw_set (a := oa) (b := oa) hoa (xself hoa) (fun j hj => rfl) (fun j hj => xu_ne hj), xE_j hoc, hoc, xu_eq]
            rfl
          rw [← ew] at k1 k2
          rw [Nat.zero_add, Nat.zero_add]
          exact W.iret C.1.1 C.1.2.1 C.2.2.2.2.2.1.1 (fun t ht _ => ⟨⟨φ', q1, rfl, by rw [ht]; exact k1, k2⟩, ⟨po.1, po.2.1, po.2.2.1, po.2.2.2.1, po.2.2.2.2.1, fun w hw => by cases hw; exact xvd_i⟩, k3.F ht⟩) k3.2.2 xwd_link_20 (hlocks := C.2.2.2.2.2.1.2.1)
        obtain ⟨t2, a1, b1⟩ := K2 T' rfl XS'
        exact ⟨t2, go t2 a1, b1⟩
      · exact absurd rfl hne
    · rcases hcase with ⟨r, rfl, -, -, -⟩ | ⟨rfl, rfl, rfl⟩
      · cases hv1
      · subst hE
        rw [g0] at f1 f2
        have hS : va_S (xA X) s.heap T'.heap ([] ++ Lc) := ⟨by rw [g1]; exact f1, fun q a1 a2 => by rw [g1]; exact f2 q a1 a2, fun z hz => hLc z (by simpa using hz)⟩
        have K2 : vx_W p l e (headSpec (xhd 271 xi_271 :: xTl) (xrm (d + 1) (xcnt σ' - xcnt σ) (xslt σ' - xslt σ))).room s m (([.ref x, .int a, .int b, .int c2, .ref out] : List Value).map (xv φ)).toArray below meth c T'.heap ([] ++ Lc) (0 + (xcnt σ' - xcnt σ)) (0 + (xslt σ' - xslt σ)) (MQ below (xQc X φ L xs σ (some (.int 1)) σ') (([.ref x, .int a, .int b, .int c2, .ref out] : List Value).map (xv φ)).toArray s (xcnt σ' - xcnt σ) (xslt σ' - xslt σ) (xA X)) (F0 m 7 ls [.int 0, .ref (φ out)]) q := by
          refine vx_catch (own := RL) (name := xNSE) (E := xNSE) (ce := ce) C.1.2.2.2 [] ⟨0, 12, 15, 13⟩ [] htab (fun z hz => by cases hz) (by decide +kernel) (by decide) (C.2.1 _ xwl_c) (va_Nw.use rfl h6.2.2.2.2.2.2.1.1) (by rw [g1]; exact hce) hcv hcl ?_
          refine lv_astore C.1.1 C.1.2.1 xwd_link_15 hl (by decide) rfl (fun ls hl => ?_)
          refine lv_iconst (v := 1) C.1.1 C.1.2.1 xwd_link_17 (by decide) ?_
          rw [Nat.zero_add, Nat.zero_add]
          exact W.iret C.1.1 C.1.2.1 C.2.2.2.2.2.1.1 (fun t2 ht _ => ⟨⟨φ', q1, rfl, by rw [ht, g1]; exact q3, q4⟩, ⟨po.1, po.2.1, po.2.2.1, po.2.2.2.1, po.2.2.2.2.1, fun w hw => by cases hw; exact xvd_i⟩, hS.F ht⟩) hS.2.2 xwd_link_18 (hlocks := C.2.2.2.2.2.1.2.1)
        obtain ⟨t2, a1, b1⟩ := K2 T' rfl XS'
        exact ⟨t2, go.trans a1, b1⟩
  exact K
theorem xwd_guilt_0 : decode cL_guilt 0 = .ok (.aload_n 2, 1) := by decide +kernel
theorem xwd_guilt_1 : decode cL_guilt 1 = .ok (.iconst 0, 1) := by decide +kernel
theorem xwd_guilt_2 : decode cL_guilt 2 = .ok (.aload_n 0, 1) := by decide +kernel
theorem xwd_guilt_3 : decode cL_guilt 3 = .ok (.iload_n 1, 1) := by decide +kernel
theorem xwd_guilt_4 : decode cL_guilt 4 = .ok (.invokevirtual 19, 3) := by decide +kernel
theorem xwd_guilt_7 : decode cL_guilt 7 = .ok (.i2l, 1) := by decide +kernel
theorem xwd_guilt_8 : decode cL_guilt 8 = .ok (.lastore, 1) := by decide +kernel
theorem xwd_guilt_9 : decode cL_guilt 9 = .ok (.goto 6, 3) := by decide +kernel
theorem xwd_guilt_12 : decode cL_guilt 12 = .ok (.astore_n 3, 1) := by decide +kernel
theorem xwd_guilt_13 : decode cL_guilt 13 = .ok (.iconst 1, 1) := by decide +kernel
theorem xwd_guilt_14 : decode cL_guilt 14 = .ok (.ireturn, 1) := by decide +kernel
theorem xwd_guilt_15 : decode cL_guilt 15 = .ok (.iconst 0, 1) := by decide +kernel
theorem xwd_guilt_16 : decode cL_guilt 16 = .ok (.ireturn, 1) := by decide +kernel
theorem xwm_guilt : Cond.methodLink RL 19 xi_137.1 ∈ xTl := xTb_in (k := 6161) (by decide +kernel)
theorem xmet_guilt {X : xX} {φ : Nat → Nat} {L : Nat} {xs : Nat → Int32} {l : Launch} {cf : xCF} {d x out : Nat} {a : Int32} {σ σ' : xS} {v : Option Value} (hX : xCt' X L xs l cf d) (hcm : ∀ mid as σ v σ', cf mid as σ = some (v, σ') → xle σ σ')
    (hwf : xwf σ) (hL : σ.1.2.2 = L) (hxs : σ.2.1 1000000 = xs) (hok : xok' σ.1.1.length [.ref x, .int a, .ref out]) (hrc : xis σ.1 11 x = true) (h : xwrap1 cf 137 [.ref x, .int a] out σ = some (v, σ')) :
    Met l xi_272.1 (xhd 272 xi_272 :: xTl) (xrm (d + 1) (xcnt σ' - xcnt σ) (xslt σ' - xslt σ)) (xPc X φ L xs [.ref x, .int a, .ref out] σ) (xQc X φ L xs σ v σ') (xcnt σ' - xcnt σ) (xslt σ' - xslt σ) (xA X) := by
  obtain ⟨v1, σ1, e1, hcase⟩ := xwrap1_inv h
  have hokt : xok' σ.1.1.length [.ref x, .int a] := fun w hw => hok w (by simp only [List.mem_cons, List.not_mem_nil, or_false] at hw ⊢; rcases hw with rfl | rfl <;> simp)
  have hm := hX 137 xi_137 _ _ _ _ φ e1 rfl rfl hwf hL hxs hokt
  have hle := hcm _ _ _ _ _ e1
  have hcc : xcnt σ' = xcnt σ1 ∧ xslt σ' = xslt σ1 := by
    rcases hcase with ⟨r, -, -, -, rfl⟩ | ⟨-, -, rfl⟩
    · exact ⟨rfl, rfl⟩
    · exact ⟨rfl, rfl⟩
  rw [hcc.1, hcc.2]
  refine va_MetW (cc := cL_guilt) (maxL := 4) (ret := some .int) (hh := [(0, 9, 12, 13)]) (by decide +kernel) rfl ?_
  intro p e s m args below meth c s₁ B hml hp
  have C := xct_of B hml (fun w hw => List.mem_cons_of_mem _ hw) ⟨by show 12 ≤ d + 1 + 12; omega, by show 400 ≤ 64 * (d + 1) + 400; omega⟩ hp
  have htab : c.exceptionTable.toList = _ := vx_table (x := xi_272.1) B (atoms_spec (ws := xhd 272 xi_272 :: xTl) B.pre _ List.mem_cons_self)
  obtain ⟨h1, h2, h3, h4, h5, h6⟩ := hp
  subst h1
  obtain ⟨ob, hob, hobc⟩ := xis_at hrc
  have hlo : φ out = φ out := rfl
  have hvo : xld σ.1.1.length out := hok _ (by simp) out rfl
  have K : W p l e (headSpec (xhd 272 xi_272 :: xTl) (xrm (d + 1) (xcnt σ1 - xcnt σ) (xslt σ1 - xslt σ))).room s m (([.ref x, .int a, .ref out] : List Value).map (xv φ)).toArray below meth c s.heap [] 0 0 (MQ below (xQc X φ L xs σ v σ') (([.ref x, .int a, .ref out] : List Value).map (xv φ)).toArray s (xcnt σ1 - xcnt σ) (xslt σ1 - xslt σ) (xA X)) (entryFrame m (([.ref x, .int a, .ref out] : List Value).map (xv φ)).toArray 4) := by
    have hl := lv_entry (([.ref x, .int a, .ref out] : List Value).map (xv φ)) (n := 4) (Nat.le_of_ble_eq_true rfl)
    rw [lg_entry_eq]
    generalize (lg_sl (([.ref x, .int a, .ref out] : List Value).map (xv φ)) ++ List.replicate (4 - (lg_sl (([.ref x, .int a, .ref out] : List Value).map (xv φ))).length) Slot.unset).toArray = ls at hl ⊢
    have hl : lv_has ls 4 [(0, .ref (φ x)), (1, .int a), (2, .ref (φ out))] := hl
    refine lv_aload_n C.1.1 C.1.2.1 xwd_guilt_0 rfl (lv_at hl 2 rfl) ?_
    refine lv_iconst (v := 0) C.1.1 C.1.2.1 xwd_guilt_1 (by decide) ?_
    refine lv_aload_n C.1.1 C.1.2.1 xwd_guilt_2 rfl (lv_at hl 0 rfl) ?_
    refine lv_iload_n C.1.1 C.1.2.1 xwd_guilt_3 rfl (lv_at hl 1 rfl) ?_
    have hB : CallB (headSpec (xhd 272 xi_272 :: xTl) (xrm (d + 1) (xcnt σ1 - xcnt σ) (xslt σ1 - xslt σ))).room s (([.ref x, .int a, .ref out] : List Value).map (xv φ)).toArray RL 19 xi_137.1 xi_137.2.1 xi_137.2.2.1 xi_137.2.2.2.1 (xhd 137 xi_137 :: xTl) (xrm d (xcnt σ1 - xcnt σ) (xslt σ1 - xslt σ)) (xcnt σ1 - xcnt σ) (xslt σ1 - xslt σ) 1 :=
      callB_of 1 C.2.1 (xgood (mid := 137) rfl (by decide)) rfl rfl rfl (C.2.1 _ (xTb_in (k := 1025) (by decide +kernel))) (C.2.1 _ xwm_guilt) (by decide +kernel) ⟨by show d + 12 + 1 ≤ d + 1 + 12; omega, xroom (by decide) (Nat.le_refl _)⟩
    have cw : CallW (headSpec (xhd 272 xi_272 :: xTl) (xrm (d + 1) (xcnt σ1 - xcnt σ) (xslt σ1 - xslt σ))).room s (([.ref x, .int a, .ref out] : List Value).map (xv φ)).toArray RL RX11 19 xi_137.1 xi_137.2.1 xi_137.2.2.1 xi_137.2.2.2.1 (xhd 137 xi_137 :: xTl) (xrm d (xcnt σ1 - xcnt σ) (xslt σ1 - xslt σ)) (xcnt σ1 - xcnt σ) (xslt σ1 - xslt σ) 1 :=
      ⟨hB, C.2.1 _ (xTb_in (k := 6162) (by decide +kernel)), C.2.1 _ (xTb_in (k := 6163) (by decide +kernel))⟩
    have he : (xw φ X.2.1 σ)[x]? = some (φ x, .inr (11, xfs φ (σ.2.1 x) (σ.2.2 x) ob)) := by rw [xw_at hob, xE_o (by omega), hobc]
    have hr := vx_runV (l := l) (H := s.heap) (locs := []) (cells := 0) (slots := 0) (below := below) (meth := meth) (e := e) (As := [.int a]) (b := φ x) (rest := [.int 0, .ref (φ out)]) (g := F0 m 4 ls [.int a, .ref (φ x), .int 0, .ref (φ out)]) ⟨C.1.1, C.1.2.1, C.1.2.2.1, C.1.2.2.2, C.2.1⟩ hm cw ⟨xPc_blind, va_recv (ci := 11) (q0 := x) C.2.2.1 h3 rfl he, fun U hU hW => ⟨rfl, by rw [hU]; exact h2, by rw [hU]; exact h3, va_K.moved hW.alike h4, h5, by rw [hU]; exact h6.warm hW⟩⟩ rfl rfl hl.1 rfl (lv_room (Nat.le_of_ble_eq_true rfl)) xwd_guilt_4 ⟨by show 0 + _ ≤ xcnt σ1 - xcnt σ; omega, by show 0 + _ ≤ xslt σ1 - xslt σ; omega⟩
    intro T hT XS
    rcases hr T hT XS with ⟨v', st₀, t, T', Lc, g0, XS', hLc, g1, g2, ⟨⟨⟨φ', q1, q2, q3, q4⟩, po, f1, f2⟩, hne⟩, go⟩ | ⟨q, st₀, t, T', Lc, E, ce, g0, XS', hLc, g1, g2, ⟨hv1, hE, ⟨φ', q1, q3, q4⟩, po, f1, f2⟩, hce, hcv, hcl, go⟩
    · rcases hcase with ⟨r, rfl, rfl, ⟨hi1, hi2⟩, rfl⟩ | ⟨rfl, -, -⟩
      · cases q2
        obtain ⟨oa, hoa, hoc⟩ := xis_at hi1
        rw [xlen_is (n := 0) hoa hoc] at hi2
        have hout : φ' out = φ out := q1 out hvo
        rw [g0] at f1 f2
        have hS : va_S (xA X) s.heap T'.heap ([] ++ Lc) := ⟨by rw [g1]; exact f1, fun q a1 a2 => by rw [g1]; exact f2 q a1 a2, fun z hz => hLc z (by simpa using hz)⟩
        have K2 : W p l e (headSpec (xhd 272 xi_272 :: xTl) (xrm (d + 1) (xcnt σ1 - xcnt σ) (xslt σ1 - xslt σ))).room s m (([.ref x, .int a, .ref out] : List Value).map (xv φ)).toArray below meth c T'.heap ([] ++ Lc) (0 + (xcnt σ1 - xcnt σ)) (0 + (xslt σ1 - xslt σ)) (MQ below (xQc X φ L xs σ (some (.int 0)) ((σ1.1.1, σ1.1.2), σ1.2.1, xu σ1.2.2 out 0 r.toInt64)) (([.ref x, .int a, .ref out] : List Value).map (xv φ)).toArray s (xcnt σ1 - xcnt σ) (xslt σ1 - xslt σ) (xA X)) (F0 m (4 + 3) ls [.int r, .int 0, .ref (φ out)]) := by
          refine lv_i2l C.1.1 C.1.2.1 xwd_guilt_7 rfl ?_
          rw [← hout]
          refine va_last (ws := xw φ' X.2.1 σ1) (n := oa.2.1) (f := σ1.2.2 out) C.1.1 C.1.2.1 C.2.2.1 (by rw [g1]; exact q3) q4 hS out 2 (by rw [xw_at hoa, xE_j hoc, hoc]) rfl (xin_vp hi2) xwd_guilt_8 (fun H1 locs1 k1 k2 k3 => ?_)
          refine lv_goto (tgt := 15) C.1.1 C.1.2.1 xwd_guilt_9 (by decide) ?_
          refine lv_iconst (v := 0) C.1.1 C.1.2.1 xwd_guilt_15 (by decide) ?_
          have ew : xw φ' X.2.1 ((σ1.1.1, σ1.1.2), σ1.2.1, xu σ1.2.2 out 0 r.toInt64) = (xw φ' X.2.1 σ1).set out (φ' out, .inl (X.2.1 15, oa.2.1, .inr (.inl (vp_updL (σ1.2.2 out) (0 : Int32).toNatClampNeg r.toInt64)))) := by
            rw [xw_set (a := oa) (b := oa) hoa (xself hoa) (fun j hj => rfl) (fun j hj => xu_ne hj), xE_j hoc, hoc, xu_eq]
            rfl
          rw [← ew] at k1 k2
          rw [Nat.zero_add, Nat.zero_add]
          exact W.iret C.1.1 C.1.2.1 C.2.2.2.2.2.1.1 (fun t ht _ => ⟨⟨φ', q1, rfl, by rw [ht]; exact k1, k2⟩, ⟨po.1, po.2.1, po.2.2.1, po.2.2.2.1, po.2.2.2.2.1, fun w hw => by cases hw; exact xvd_i⟩, k3.F ht⟩) k3.2.2 xwd_guilt_16 (hlocks := C.2.2.2.2.2.1.2.1)
        obtain ⟨t2, a1, b1⟩ := K2 T' rfl XS'
        exact ⟨t2, go t2 a1, b1⟩
      · exact absurd rfl hne
    · rcases hcase with ⟨r, rfl, -, -, -⟩ | ⟨rfl, rfl, rfl⟩
      · cases hv1
      · subst hE
        rw [g0] at f1 f2
        have hS : va_S (xA X) s.heap T'.heap ([] ++ Lc) := ⟨by rw [g1]; exact f1, fun q a1 a2 => by rw [g1]; exact f2 q a1 a2, fun z hz => hLc z (by simpa using hz)⟩
        have K2 : vx_W p l e (headSpec (xhd 272 xi_272 :: xTl) (xrm (d + 1) (xcnt σ' - xcnt σ) (xslt σ' - xslt σ))).room s m (([.ref x, .int a, .ref out] : List Value).map (xv φ)).toArray below meth c T'.heap ([] ++ Lc) (0 + (xcnt σ' - xcnt σ)) (0 + (xslt σ' - xslt σ)) (MQ below (xQc X φ L xs σ (some (.int 1)) σ') (([.ref x, .int a, .ref out] : List Value).map (xv φ)).toArray s (xcnt σ' - xcnt σ) (xslt σ' - xslt σ) (xA X)) (F0 m 4 ls [.int 0, .ref (φ out)]) q := by
          refine vx_catch (own := RL) (name := xNSE) (E := xNSE) (ce := ce) C.1.2.2.2 [] ⟨0, 9, 12, 13⟩ [] htab (fun z hz => by cases hz) (by decide +kernel) (by decide) (C.2.1 _ xwl_c) (va_Nw.use rfl h6.2.2.2.2.2.2.1.1) (by rw [g1]; exact hce) hcv hcl ?_
          refine lv_astore_n C.1.1 C.1.2.1 xwd_guilt_12 rfl hl (by decide) rfl (fun ls hl => ?_)
          refine lv_iconst (v := 1) C.1.1 C.1.2.1 xwd_guilt_13 (by decide) ?_
          rw [Nat.zero_add, Nat.zero_add]
          exact W.iret C.1.1 C.1.2.1 C.2.2.2.2.2.1.1 (fun t2 ht _ => ⟨⟨φ', q1, rfl, by rw [ht, g1]; exact q3, q4⟩, ⟨po.1, po.2.1, po.2.2.1, po.2.2.2.1, po.2.2.2.2.1, fun w hw => by cases hw; exact xvd_i⟩, hS.F ht⟩) hS.2.2 xwd_guilt_14 (hlocks := C.2.2.2.2.2.1.2.1)
        obtain ⟨t2, a1, b1⟩ := K2 T' rfl XS'
        exact ⟨t2, go.trans a1, b1⟩
  exact K
theorem xwd_mean_0 : decode cL_mean 0 = .ok (.aload_n 2, 1) := by decide +kernel
theorem xwd_mean_1 : decode cL_mean 1 = .ok (.iconst 0, 1) := by decide +kernel
theorem xwd_mean_2 : decode cL_mean 2 = .ok (.aload_n 0, 1) := by decide +kernel
theorem xwd_mean_3 : decode cL_mean 3 = .ok (.iload_n 1, 1) := by decide +kernel
theorem xwd_mean_4 : decode cL_mean 4 = .ok (.invokevirtual 23, 3) := by decide +kernel
theorem xwd_mean_7 : decode cL_mean 7 = .ok (.i2l, 1) := by decide +kernel
theorem xwd_mean_8 : decode cL_mean 8 = .ok (.lastore, 1) := by decide +kernel
theorem xwd_mean_9 : decode cL_mean 9 = .ok (.goto 6, 3) := by decide +kernel
theorem xwd_mean_12 : decode cL_mean 12 = .ok (.astore_n 3, 1) := by decide +kernel
theorem xwd_mean_13 : decode cL_mean 13 = .ok (.iconst 1, 1) := by decide +kernel
theorem xwd_mean_14 : decode cL_mean 14 = .ok (.ireturn, 1) := by decide +kernel
theorem xwd_mean_15 : decode cL_mean 15 = .ok (.iconst 0, 1) := by decide +kernel
theorem xwd_mean_16 : decode cL_mean 16 = .ok (.ireturn, 1) := by decide +kernel
theorem xwm_mean : Cond.methodLink RL 23 xi_138.1 ∈ xTl := xTb_in (k := 6174) (by decide +kernel)
theorem xmet_mean {X : xX} {φ : Nat → Nat} {L : Nat} {xs : Nat → Int32} {l : Launch} {cf : xCF} {d x out : Nat} {a : Int32} {σ σ' : xS} {v : Option Value} (hX : xCt' X L xs l cf d) (hcm : ∀ mid as σ v σ', cf mid as σ = some (v, σ') → xle σ σ')
    (hwf : xwf σ) (hL : σ.1.2.2 = L) (hxs : σ.2.1 1000000 = xs) (hok : xok' σ.1.1.length [.ref x, .int a, .ref out]) (hrc : xis σ.1 11 x = true) (h : xwrap1 cf 138 [.ref x, .int a] out σ = some (v, σ')) :
    Met l xi_273.1 (xhd 273 xi_273 :: xTl) (xrm (d + 1) (xcnt σ' - xcnt σ) (xslt σ' - xslt σ)) (xPc X φ L xs [.ref x, .int a, .ref out] σ) (xQc X φ L xs σ v σ') (xcnt σ' - xcnt σ) (xslt σ' - xslt σ) (xA X) := by
  obtain ⟨v1, σ1, e1, hcase⟩ := xwrap1_inv h
  have hokt : xok' σ.1.1.length [.ref x, .int a] := fun w hw => hok w (by simp only [List.mem_cons, List.not_mem_nil, or_false] at hw ⊢; rcases hw with rfl | rfl <;> simp)
  have hm := hX 138 xi_138 _ _ _ _ φ e1 rfl rfl hwf hL hxs hokt
  have hle := hcm _ _ _ _ _ e1
  have hcc : xcnt σ' = xcnt σ1 ∧ xslt σ' = xslt σ1 := by
    rcases hcase with ⟨r, -, -, -, rfl⟩ | ⟨-, -, rfl⟩
    · exact ⟨rfl, rfl⟩
    · exact ⟨rfl, rfl⟩
  rw [hcc.1, hcc.2]
  refine va_MetW (cc := cL_mean) (maxL := 4) (ret := some .int) (hh := [(0, 9, 12, 13)]) (by decide +kernel) rfl ?_
  intro p e s m args below meth c s₁ B hml hp
  have C := xct_of B hml (fun w hw => List.mem_cons_of_mem _ hw) ⟨by show 12 ≤ d + 1 + 12; omega, by show 400 ≤ 64 * (d + 1) + 400; omega⟩ hp
  have htab : c.exceptionTable.toList = _ := vx_table (x := xi_273.1) B (atoms_spec (ws := xhd 273 xi_273 :: xTl) B.pre _ List.mem_cons_self)
  obtain ⟨h1, h2, h3, h4, h5, h6⟩ := hp
  subst h1
  obtain ⟨ob, hob, hobc⟩ := xis_at hrc
  have hlo : φ out = φ out := rfl
  have hvo : xld σ.1.1.length out := hok _ (by simp) out rfl
  have K : W p l e (headSpec (xhd 273 xi_273 :: xTl) (xrm (d + 1) (xcnt σ1 - xcnt σ) (xslt σ1 - xslt σ))).room s m (([.ref x, .int a, .ref out] : List Value).map (xv φ)).toArray below meth c s.heap [] 0 0 (MQ below (xQc X φ L xs σ v σ') (([.ref x, .int a, .ref out] : List Value).map (xv φ)).toArray s (xcnt σ1 - xcnt σ) (xslt σ1 - xslt σ) (xA X)) (entryFrame m (([.ref x, .int a, .ref out] : List Value).map (xv φ)).toArray 4) := by
    have hl := lv_entry (([.ref x, .int a, .ref out] : List Value).map (xv φ)) (n := 4) (Nat.le_of_ble_eq_true rfl)
    rw [lg_entry_eq]
    generalize (lg_sl (([.ref x, .int a, .ref out] : List Value).map (xv φ)) ++ List.replicate (4 - (lg_sl (([.ref x, .int a, .ref out] : List Value).map (xv φ))).length) Slot.unset).toArray = ls at hl ⊢
    have hl : lv_has ls 4 [(0, .ref (φ x)), (1, .int a), (2, .ref (φ out))] := hl
    refine lv_aload_n C.1.1 C.1.2.1 xwd_mean_0 rfl (lv_at hl 2 rfl) ?_
    refine lv_iconst (v := 0) C.1.1 C.1.2.1 xwd_mean_1 (by decide) ?_
    refine lv_aload_n C.1.1 C.1.2.1 xwd_mean_2 rfl (lv_at hl 0 rfl) ?_
    refine lv_iload_n C.1.1 C.1.2.1 xwd_mean_3 rfl (lv_at hl 1 rfl) ?_
    have hB : CallB (headSpec (xhd 273 xi_273 :: xTl) (xrm (d + 1) (xcnt σ1 - xcnt σ) (xslt σ1 - xslt σ))).room s (([.ref x, .int a, .ref out] : List Value).map (xv φ)).toArray RL 23 xi_138.1 xi_138.2.1 xi_138.2.2.1 xi_138.2.2.2.1 (xhd 138 xi_138 :: xTl) (xrm d (xcnt σ1 - xcnt σ) (xslt σ1 - xslt σ)) (xcnt σ1 - xcnt σ) (xslt σ1 - xslt σ) 1 :=
      callB_of 1 C.2.1 (xgood (mid := 138) rfl (by decide)) rfl rfl rfl (C.2.1 _ (xTb_in (k := 1025) (by decide +kernel))) (C.2.1 _ xwm_mean) (by decide +kernel) ⟨by show d + 12 + 1 ≤ d + 1 + 12; omega, xroom (by decide) (Nat.le_refl _)⟩
    have cw : CallW (headSpec (xhd 273 xi_273 :: xTl) (xrm (d + 1) (xcnt σ1 - xcnt σ) (xslt σ1 - xslt σ))).room s (([.ref x, .int a, .ref out] : List Value).map (xv φ)).toArray RL RX11 23 xi_138.1 xi_138.2.1 xi_138.2.2.1 xi_138.2.2.2.1 (xhd 138 xi_138 :: xTl) (xrm d (xcnt σ1 - xcnt σ) (xslt σ1 - xslt σ)) (xcnt σ1 - xcnt σ) (xslt σ1 - xslt σ) 1 :=
      ⟨hB, C.2.1 _ (xTb_in (k := 6175) (by decide +kernel)), C.2.1 _ (xTb_in (k := 6176) (by decide +kernel))⟩
    have he : (xw φ X.2.1 σ)[x]? = some (φ x, .inr (11, xfs φ (σ.2.1 x) (σ.2.2 x) ob)) := by rw [xw_at hob, xE_o (by omega), hobc]
    have hr := vx_runV (l := l) (H := s.heap) (locs := []) (cells := 0) (slots := 0) (below := below) (meth := meth) (e := e) (As := [.int a]) (b := φ x) (rest := [.int 0, .ref (φ out)]) (g := F0 m 4 ls [.int a, .ref (φ x), .int 0, .ref (φ out)]) ⟨C.1.1, C.1.2.1, C.1.2.2.1, C.1.2.2.2, C.2.1⟩ hm cw ⟨xPc_blind, va_recv (ci := 11) (q0 := x) C.2.2.1 h3 rfl he, fun U hU hW => ⟨rfl, by rw [hU]; exact h2, by rw [hU]; exact h3, va_K.moved hW.alike h4, h5, by rw [hU]; exact h6.warm hW⟩⟩ rfl rfl hl.1 rfl (lv_room (Nat.le_of_ble_eq_true rfl)) xwd_mean_4 ⟨by show 0 + _ ≤ xcnt σ1 - xcnt σ; omega, by show 0 + _ ≤ xslt σ1 - xslt σ; omega⟩
    intro T hT XS
    rcases hr T hT XS with ⟨v', st₀, t, T', Lc, g0, XS', hLc, g1, g2, ⟨⟨⟨φ', q1, q2, q3, q4⟩, po, f1, f2⟩, hne⟩, go⟩ | ⟨q, st₀, t, T', Lc, E, ce, g0, XS', hLc, g1, g2, ⟨hv1, hE, ⟨φ', q1, q3, q4⟩, po, f1, f2⟩, hce, hcv, hcl, go⟩
    · rcases hcase with ⟨r, rfl, rfl, ⟨hi1, hi2⟩, rfl⟩ | ⟨rfl, -, -⟩
      · cases q2
        obtain ⟨oa, hoa, hoc⟩ := xis_at hi1
        rw [xlen_is (n := 0) hoa hoc] at hi2
        have hout : φ' out = φ out := q1 out hvo
        rw [g0] at f1 f2
        have hS : va_S (xA X) s.heap T'.heap ([] ++ Lc) := ⟨by rw [g1]; exact f1, fun q a1 a2 => by rw [g1]; exact f2 q a1 a2, fun z hz => hLc z (by simpa using hz)⟩
        have K2 : W p l e (headSpec (xhd 273 xi_273 :: xTl) (xrm (d + 1) (xcnt σ1 - xcnt σ) (xslt σ1 - xslt σ))).room s m (([.ref x, .int a, .ref out] : List Value).map (xv φ)).toArray below meth c T'.heap ([] ++ Lc) (0 + (xcnt σ1 - xcnt σ)) (0 + (xslt σ1 - xslt σ)) (MQ below (xQc X φ L xs σ (some (.int 0)) ((σ1.1.1, σ1.1.2), σ1.2.1, xu σ1.2.2 out 0 r.toInt64)) (([.ref x, .int a, .ref out] : List Value).map (xv φ)).toArray s (xcnt σ1 - xcnt σ) (xslt σ1 - xslt σ) (xA X)) (F0 m (4 + 3) ls [.int r, .int 0, .ref (φ out)]) := by
          refine lv_i2l C.1.1 C.1.2.1 xwd_mean_7 rfl ?_
          rw [← hout]
          refine va_last (ws := xw φ' X.2.1 σ1) (n := oa.2.1) (f := σ1.2.2 out) C.1.1 C.1.2.1 C.2.2.1 (by rw [g1]; exact q3) q4 hS out 2 (by rw [xw_at hoa, xE_j hoc, hoc]) rfl (xin_vp hi2) xwd_mean_8 (fun H1 locs1 k1 k2 k3 => ?_)
          refine lv_goto (tgt := 15) C.1.1 C.1.2.1 xwd_mean_9 (by decide) ?_
          refine lv_iconst (v := 0) C.1.1 C.1.2.1 xwd_mean_15 (by decide) ?_
          have ew : xw φ' X.2.1 ((σ1.1.1, σ1.1.2), σ1.2.1, xu σ1.2.2 out 0 r.toInt64) = (xw φ' X.2.1 σ1).set out (φ' out, .inl (X.2.1 15, oa.2.1, .inr (.inl (vp_updL (σ1.2.2 out) (0 : Int32).toNatClampNeg r.toInt64)))) := by
            rw [xw_set (a := oa) (b := oa) hoa (xself hoa) (fun j hj => rfl) (fun j hj => xu_ne hj), xE_j hoc, hoc, xu_eq]
            rfl
          rw [← ew] at k1 k2
          rw [Nat.zero_add, Nat.zero_add]
          exact W.iret C.1.1 C.1.2.1 C.2.2.2.2.2.1.1 (fun t ht _ => ⟨⟨φ', q1, rfl, by rw [ht]; exact k1, k2⟩, ⟨po.1, po.2.1, po.2.2.1, po.2.2.2.1, po.2.2.2.2.1, fun w hw => by cases hw; exact xvd_i⟩, k3.F ht⟩) k3.2.2 xwd_mean_16 (hlocks := C.2.2.2.2.2.1.2.1)
        obtain ⟨t2, a1, b1⟩ := K2 T' rfl XS'
        exact ⟨t2, go t2 a1, b1⟩
      · exact absurd rfl hne
    · rcases hcase with ⟨r, rfl, -, -, -⟩ | ⟨rfl, rfl, rfl⟩
      · cases hv1
      · subst hE
        rw [g0] at f1 f2
        have hS : va_S (xA X) s.heap T'.heap ([] ++ Lc) := ⟨by rw [g1]; exact f1, fun q a1 a2 => by rw [g1]; exact f2 q a1 a2, fun z hz => hLc z (by simpa using hz)⟩
        have K2 : vx_W p l e (headSpec (xhd 273 xi_273 :: xTl) (xrm (d + 1) (xcnt σ' - xcnt σ) (xslt σ' - xslt σ))).room s m (([.ref x, .int a, .ref out] : List Value).map (xv φ)).toArray below meth c T'.heap ([] ++ Lc) (0 + (xcnt σ' - xcnt σ)) (0 + (xslt σ' - xslt σ)) (MQ below (xQc X φ L xs σ (some (.int 1)) σ') (([.ref x, .int a, .ref out] : List Value).map (xv φ)).toArray s (xcnt σ' - xcnt σ) (xslt σ' - xslt σ) (xA X)) (F0 m 4 ls [.int 0, .ref (φ out)]) q := by
          refine vx_catch (own := RL) (name := xNSE) (E := xNSE) (ce := ce) C.1.2.2.2 [] ⟨0, 9, 12, 13⟩ [] htab (fun z hz => by cases hz) (by decide +kernel) (by decide) (C.2.1 _ xwl_c) (va_Nw.use rfl h6.2.2.2.2.2.2.1.1) (by rw [g1]; exact hce) hcv hcl ?_
          refine lv_astore_n C.1.1 C.1.2.1 xwd_mean_12 rfl hl (by decide) rfl (fun ls hl => ?_)
          refine lv_iconst (v := 1) C.1.1 C.1.2.1 xwd_mean_13 (by decide) ?_
          rw [Nat.zero_add, Nat.zero_add]
          exact W.iret C.1.1 C.1.2.1 C.2.2.2.2.2.1.1 (fun t2 ht _ => ⟨⟨φ', q1, rfl, by rw [ht, g1]; exact q3, q4⟩, ⟨po.1, po.2.1, po.2.2.1, po.2.2.2.1, po.2.2.2.2.1, fun w hw => by cases hw; exact xvd_i⟩, hS.F ht⟩) hS.2.2 xwd_mean_14 (hlocks := C.2.2.2.2.2.1.2.1)
        obtain ⟨t2, a1, b1⟩ := K2 T' rfl XS'
        exact ⟨t2, go.trans a1, b1⟩
  exact K
