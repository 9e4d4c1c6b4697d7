/-! putText. -/
theorem xputs_mo {cf : xCF} (hcm : ∀ mid as σ v σ', cf mid as σ = some (v, σ') → xle σ σ') {mid q : Nat} : ∀ (cs : List Int32) (σ : xS) (o : xOut), xputs cf mid q cs σ = some o → xle σ o.2
  | [], σ, o, h => by cases h; exact xle_r σ
  | c :: cs, σ, o, h => by
    have h : (bif xis σ.1 1 q then xcV (cf mid [.ref q, .int c] σ) (xputs cf mid q cs) else none) = some o := h
    cases hq : xis σ.1 1 q with
    | false => rw [hq] at h; cases h
    | true =>
      rw [hq] at h
      simp only [cond_true] at h
      cases e : cf mid [.ref q, .int c] σ with
      | none => rw [e] at h; cases h
      | some r =>
        obtain ⟨v, σ1⟩ := r
        rw [e] at h
        cases v with
        | none => exact xle_t (hcm _ _ _ _ _ e) (xputs_mo hcm cs σ1 o h)
        | some v => cases h
theorem xpfa : ∀ i, i < 2 → ∀ k, k < 6 → k < xtn i → (¬ Int32.ofNat (xtn i) ≤ Int32.ofNat k ∧ Int32.ofNat k < Int32.ofNat (xtn i) ∧ ¬ Int32.ofNat k < 0 ∧ (Int32.ofNat k).toNatClampNeg = k) := by decide +kernel
theorem xpfb : ∀ i, i < 2 → ∀ k, k < 6 → k < xtn i → ((((xtb i).getD k 0 &&& 255).toUInt32 % 65536).toInt32 = (xtb i).getD k 0 ∧ (((xtb i).getD k 0).toUInt32 % 65536).toInt32 = (xtb i).getD k 0) := by decide +kernel
theorem xpfc : ∀ i, i < 2 → ∀ k, k < 6 → k < xtn i → ((xtb i).drop k = (xtb i).getD k 0 :: (xtb i).drop (k + 1) ∧ Int32.ofNat k + 1 = Int32.ofNat (k + 1)) := by decide +kernel
theorem xpf2 : ∀ i, i < 2 → xtn i ≤ 6 ∧ (xtb i).drop (xtn i) = [] := by decide +kernel
noncomputable def xpk (cf : xCF) (ob q k : Nat) (cs : List Int32) : xK := fun ls st σ => @ite _ (ls = [.ref ob, .ref q, .int (Int32.ofNat k)] ∧ st = []) (Classical.propDecidable _) (xputs cf 7 ob cs σ) none
theorem xpk_inv {cf : xCF} {ob q k : Nat} {cs : List Int32} {ls st : List Value} {σ : xS} {o : xOut} (h : xpk cf ob q k cs ls st σ = some o) : ls = [.ref ob, .ref q, .int (Int32.ofNat k)] ∧ st = [] ∧ xputs cf 7 ob cs σ = some o := by
  unfold xpk at h
  by_cases hc : ls = [.ref ob, .ref q, .int (Int32.ofNat k)] ∧ st = []
  · rw [if_pos hc] at h; exact ⟨hc.1, hc.2, h⟩
  · rw [if_neg hc] at h; cases h
theorem xpk_of {cf : xCF} {ob q k : Nat} {cs : List Int32} {σ : xS} : xpk cf ob q k cs [.ref ob, .ref q, .int (Int32.ofNat k)] [] σ = xputs cf 7 ob cs σ := by
  unfold xpk
  exact if_pos ⟨rfl, rfl⟩
section XPT
variable {X : xX} {φ0 : Nat → Nat} {L : Nat} {xs : Nat → Int32} {σ0 : xS} {p : Program} {l : Launch} {e : Env} {R : Room} {s : State} {m : MethodId} {args : Array Value} {below : List Frame} {meth : Method} {c : Code} {Q : State → Prop} {o : xOut} {cf : xCF} {d : Nat}
set_option maxRecDepth 8000 in
theorem xput_loop {ob q i : Nat} (C : xCt X φ0 L xs xi_10.1 xi_10.2.1 3 none p R s m args meth c) (hcf : xCs X L xs l cf d) (hcm : ∀ mid as σ v σ', cf mid as σ = some (v, σ') → xle σ σ') (hRf : d + 13 ≤ R.frames ∧ 64 * (d + 1) + 400 ≤ R.locals) (hRb : xcnt o.2 - xcnt σ0 ≤ R.cells ∧ xslt o.2 - xslt σ0 ≤ R.slots)
    (hRet : xRt X φ0 L xs σ0 3 p l e R s m args below meth c Q o xi_10.2.1 none) (hi : i < 2) (hq : q = 1000002 + i) : ∀ (n k : Nat), n + k = xtn i → xGo X φ0 L xs σ0 3 p l e R s m args below meth c Q o 2 (xpk cf ob q k ((xtb i).drop k)) := by
  obtain ⟨-, -, adV, c3⟩ := C.2.2.2.1.2.2.1
  have hx : xTx (xA X) (fun i => φ0 (1000002 + i)) adV s s.heap := ⟨c3, C.2.2.2.1.2.2.2.2.2.2.2.1, C.2.2.2.1.2.2.2.2.2.2.2.2⟩
  have hT := C.2.1
  have start : ∀ (k : Nat), (∀ φ σ M H locs, xIv X φ0 L xs σ0 3 s φ [.ref ob, .ref q, .int (Int32.ofNat k)] [] σ M H locs → xputs cf 7 ob ((xtb i).drop k) σ = some o → W p l e R s m args below meth c H locs (xcnt σ - xcnt σ0) (xslt σ - xslt σ0) Q (F0 m 7 M [.int (Int32.ofNat (xtn i)), .int (Int32.ofNat k)])) → xGo X φ0 L xs σ0 3 p l e R s m args below meth c Q o 2 (xpk cf ob q k ((xtb i).drop k)) := by
    intro k hk φ ls st σ M H locs hI hp
    obtain ⟨rfl, rfl, h⟩ := xpk_inv hp
    have hφ : φ q = φ0 (1000002 + i) := by rw [hq]; exact hI.2.2.1.1 _ (Or.inr (by omega))
    have hl : lv_has M 3 [(0, .ref (φ ob)), (1, .ref (φ q)), (2, .int (Int32.ofNat k))] := xlr_has hI.2.2.2.1
    rw [hφ] at hl
    have hS := hI.1.2.2
    have hm := xputs_mo hcm _ _ _ h
    have h0 := hI.2.2.1.2.2
    unfold xle at hm h0
    have hcells : xcnt σ - xcnt σ0 + 0 ≤ R.cells ∧ xslt σ - xslt σ0 + 0 ≤ R.slots := by omega
    refine lv_iload_n C.1.1 C.1.2.1 xdj_putText_2 rfl (lv_at hl 2 rfl) ?_
    refine lv_aload_n C.1.1 C.1.2.1 xdj_putText_3 rfl (lv_at hl 1 rfl) ?_
    refine xpure_go hS (va_runV (below := below) (meth := meth) (e := e) (locs := locs) (C := "java/lang/String") (As := []) (b := φ0 (1000002 + i)) (rest := [.int (Int32.ofNat k)]) (g := F0 m 4 M [.ref (φ0 (1000002 + i)), .int (Int32.ofNat k)]) ⟨C.1.1, C.1.2.1, C.1.2.2.1, C.1.2.2.2, C.2.1⟩ (xm_length (l := l) (A := xA X) (adK := fun i => φ0 (1000002 + i)) (adV := adV) hi) ⟨callB_of (rm := xrs 1) 0 hT (xjg 4 198 rfl rfl) rfl rfl rfl (hT _ (xTb_in (k := 1045) (by decide +kernel))) (hT _ (xTb_in (k := 4291) (by decide +kernel))) (by decide +kernel) ⟨by show 1 + 1 ≤ _; omega, by show 8 + (1 + 11) + 40 * 1 ≤ _; omega⟩, hT _ (xTb_in (k := 4292) (by decide +kernel)), hT _ (xTb_in (k := 4293) (by decide +kernel))⟩ ⟨xPs_blind, vk_recv (i := i) (adK := fun i => φ0 (1000002 + i)) hx.1 hi hS, fun U hU hW => xPs_at hU ((hx.kept hS.2.1).moved hW.alike)⟩ rfl rfl hl.1 rfl (Nat.le_of_ble_eq_true rfl) xdj_putText_4 hcells) (fun locs' hS' => ?_)
    exact hk φ σ M H locs' ⟨⟨hI.1.1, hI.1.2.1, hS'⟩, hI.2.1, hI.2.2.1, hI.2.2.2.1, hI.2.2.2.2.1, fun _ h => by cases h⟩ h
  intro n
  induction n with
  | zero =>
    intro k hk
    refine start k (fun φ σ M H locs hI h => ?_)
    have hk : k = xtn i := by omega
    subst hk
    rw [(xpf2 i hi).2] at h
    refine lv_icmp_ge (tgt := 25) C.1.1 C.1.2.1 xdj_putText_7 (by decide) (fun _ => ?_) (fun h => absurd (Int32.le_refl _) h)
    have h : some ((none : Option Value), σ) = some o := h
    exact hRet φ _ none σ M H locs 25 hI (fun w hw => by cases hw) (Option.some.inj h).symm (Or.inr (Or.inr (Or.inr ⟨xdj_putText_25, rfl, rfl⟩)))
  | succ n ih =>
    intro k hk
    have hle := (xpf2 i hi).1
    obtain ⟨f1, f2, f3, f4⟩ := xpfa i hi k (by omega) (by omega)
    obtain ⟨f5, f6⟩ := xpfb i hi k (by omega) (by omega)
    obtain ⟨f7, f8⟩ := xpfc i hi k (by omega) (by omega)
    refine start k (fun φ σ M H locs hI h => ?_)
    refine lv_icmp_ge (tgt := 25) C.1.1 C.1.2.1 xdj_putText_7 (by decide) (fun h => absurd h f1) (fun _ => ?_)
    have hφ : φ q = φ0 (1000002 + i) := by rw [hq]; exact hI.2.2.1.1 _ (Or.inr (by omega))
    have hl : lv_has M 3 [(0, .ref (φ ob)), (1, .ref (φ q)), (2, .int (Int32.ofNat k))] := xlr_has hI.2.2.2.1
    rw [hφ] at hl
    have hS := hI.1.2.2
    have hm := xputs_mo hcm _ _ _ h
    have h0 := hI.2.2.1.2.2
    unfold xle at hm h0
    have hcells : xcnt σ - xcnt σ0 + 0 ≤ R.cells ∧ xslt σ - xslt σ0 + 0 ≤ R.slots := by omega
    refine lv_aload_n C.1.1 C.1.2.1 xdj_putText_10 rfl (lv_at hl 0 rfl) ?_
    refine lv_aload_n C.1.1 C.1.2.1 xdj_putText_11 rfl (lv_at hl 1 rfl) ?_
    refine lv_iload_n C.1.1 C.1.2.1 xdj_putText_12 rfl (lv_at hl 2 rfl) ?_
    have hin : vp_in (Int32.ofNat k) (xtn i) := by
      rintro (q | q)
      · exact f3 q
      · rw [f4] at q; omega
    have hch := xm_charAt (l := l) (A := xA X) (adK := fun i => φ0 (1000002 + i)) (adV := adV) hi f3 f2 hin (by rw [f4]; exact ⟨f5, congrArg Value.int f6⟩)
    rw [f4] at hch
    refine xpure_go hS (va_runV (below := below) (meth := meth) (e := e) (locs := locs) (C := "java/lang/String") (As := [.int (Int32.ofNat k)]) (b := φ0 (1000002 + i)) (rest := [.ref (φ ob)]) (g := F0 m 13 M [.int (Int32.ofNat k), .ref (φ0 (1000002 + i)), .ref (φ ob)]) ⟨C.1.1, C.1.2.1, C.1.2.2.1, C.1.2.2.2, C.2.1⟩ hch ⟨callB_of (rm := xrs 3) 1 hT (xjg 4 208 rfl rfl) rfl rfl rfl (hT _ (xTb_in (k := 1045) (by decide +kernel))) (hT _ (xTb_in (k := 4301) (by decide +kernel))) (by decide +kernel) ⟨by show 3 + 1 ≤ _; omega, by show 8 + (2 + 11) + 40 * 3 ≤ _; omega⟩, hT _ (xTb_in (k := 4302) (by decide +kernel)), hT _ (xTb_in (k := 4303) (by decide +kernel))⟩ ⟨xPs_blind, vk_recv (i := i) (adK := fun i => φ0 (1000002 + i)) hx.1 hi hS, fun U hU hW => xPs_at hU ((hx.kept hS.2.1).moved hW.alike)⟩ rfl rfl hl.1 rfl (Nat.le_of_ble_eq_true rfl) xdj_putText_13 hcells) (fun locs' hS' => ?_)
    have hok : xok' σ.1.1.length [.int ((xtb i).getD k 0), .ref ob] := by
      intro w hw
      rcases List.mem_cons.mp hw with rfl | hw
      · exact xvd_i
      · exact hI.2.2.2.2.1 w (by rcases List.mem_cons.mp hw with rfl | hw <;> simp at *)
    have hk19 : xGo X φ0 L xs σ0 3 p l e R s m args below meth c Q o 19 (xpk cf ob q k ((xtb i).drop (k + 1))) := by
      intro φ ls st σ M H locs hI hp
      obtain ⟨rfl, rfl, h⟩ := xpk_inv hp
      refine xs_iinc (i := 2) (a := 1) C xdj_putText_19 (by decide) (xs_goto (t := 0) (tg := 2) (kb := fun _ => xpk cf ob q (k + 1) ((xtb i).drop (k + 1))) C xdj_putText_22 (by decide) (ih (k + 1) (by omega))) φ _ _ σ M H locs hI ?_
      show xpk cf ob q (k + 1) ((xtb i).drop (k + 1)) [.ref ob, .ref q, .int (Int32.ofNat k + 1)] [] σ = some o
      rw [f8, xpk_of]
      exact h
    refine xs_callV (mid := 7) (nn := 2) (rt := 0) (ci := 1) (idx := 23) (h0 := 3077) (mi := xi_7) C rfl (by decide +kernel) xdj_putText_16 hcf hcm hRf (fun ls st σ h => xputs_mo hcm _ _ _ (xpk_inv h).2.2) hRb hk19 φ _ [.int ((xtb i).getD k 0), .ref ob] σ M H locs' ⟨⟨hI.1.1, hI.1.2.1, hS'⟩, hI.2.1, hI.2.2.1, hI.2.2.2.1, hI.2.2.2.2.1, hok⟩ ?_
    rw [f7] at h
    have h : (bif xis σ.1 1 ob then xcV (cf 7 [.ref ob, .int ((xtb i).getD k 0)] σ) (xputs cf 7 ob ((xtb i).drop (k + 1))) else none) = some o := h
    show (bif xis σ.1 1 ob then xcV (cf 7 [.ref ob, .int ((xtb i).getD k 0)] σ) (fun σ => xpk cf ob q k ((xtb i).drop (k + 1)) [.ref ob, .ref q, .int (Int32.ofNat k)] [] σ) else none) = some o
    rw [show (fun σ => xpk cf ob q k ((xtb i).drop (k + 1)) [.ref ob, .ref q, .int (Int32.ofNat k)] [] σ) = xputs cf 7 ob ((xtb i).drop (k + 1)) from funext (fun σ => xpk_of)]
    exact h
theorem xmet_put {φ : Nat → Nat} {σ σ' : xS} {v : Option Value} {as : List Value} (hcf : xCs X L xs l cf d) (hcm : ∀ mid as σ v σ', cf mid as σ = some (v, σ') → xle σ σ')
    (hwf : xwf σ) (hL : σ.1.2.2 = L) (hxs : σ.2.1 1000000 = xs) (hok : xok' σ.1.1.length as) (h : xtext cf 7 as σ = some (v, σ')) :
    Met l xi_10.1 (xhd 10 xi_10 :: xTl) (xrm (d + 1) (xcnt σ' - xcnt σ) (xslt σ' - xslt σ)) (xPc X φ L xs as σ) (xQc X φ L xs σ v σ') (xcnt σ' - xcnt σ) (xslt σ' - xslt σ) (xA X) := by
  obtain ⟨ob, q, i, rfl, hi, hq, h⟩ : ∃ ob q i, as = [.ref ob, .ref q] ∧ i < 2 ∧ q = 1000002 + i ∧ xputs cf 7 ob (xtb i) σ = some (v, σ') := by
    unfold xtext at h
    split at h
    · next o r =>
      cases e1 : Nat.beq r 1000002 with
      | true => rw [e1] at h; exact ⟨o, r, 0, rfl, by decide, Nat.eq_of_beq_eq_true e1, h⟩
      | false =>
        rw [e1] at h
        cases e2 : Nat.beq r 1000003 with
        | true => rw [e2] at h; exact ⟨o, r, 1, rfl, by decide, Nat.eq_of_beq_eq_true e2, h⟩
        | false => rw [e2] at h; cases h
    · cases h
  refine Met.ofW (cc := xi_10.2.1) (maxL := 3) (ret := none) (by decide +kernel) rfl ?_
  intro p e s m args below meth c s₁ B hml hp
  have C : xCt X φ L xs xi_10.1 xi_10.2.1 3 none p (headSpec (xhd 10 xi_10 :: xTl) (xrm (d + 1) (xcnt σ' - xcnt σ) (xslt σ' - xslt σ))).room s m args meth c := xct_of B hml (fun w hw => List.mem_cons_of_mem _ hw) ⟨by show 12 ≤ d + 1 + 12; omega, by show 400 ≤ 64 * (d + 1) + 400; omega⟩ hp
  obtain ⟨h1, h2, h3, h4, h5, h6⟩ := hp
  subst h1
  have hg := xput_loop (below := below) (e := e) (ob := ob) (o := (v, σ')) C hcf hcm ⟨by show d + 13 ≤ d + 1 + 12; omega, Nat.le_refl _⟩ ⟨Nat.le_refl _, Nat.le_refl _⟩ (xret_W (v := v) (σ' := σ') C) hi hq (xtn i) 0 rfl
  have hg2 := xs_iconst (v := 0) (a := 0) C xdj_putText_0 (by decide) (xs_istore_n (i := 2) C xdj_putText_1 hg) φ (xent 3 [.ref ob, .ref q]) [] σ _ s.heap [] ⟨⟨h3, h5, va_S.rf⟩, ⟨hwf, hL, hxs⟩, ⟨fun q _ => rfl, Nat.le_refl _, xle_r σ⟩, xent_lr (by show 2 ≤ 3; omega), xent_ok hok, fun _ h => by cases h⟩ (by
    show xpk cf ob q 0 ((xtb i).drop 0) [.ref ob, .ref q, .int 0] [] σ = some (v, σ')
    exact (xpk_of (k := 0)).trans h)
  rw [Nat.sub_self, Nat.sub_self] at hg2
  rw [lg_entry_eq]
  exact hg2
end XPT
