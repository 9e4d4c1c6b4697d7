/-! Makings, copies, the library's own small methods. -/
theorem xw_stat : Cond.static arraycopyName ∈ xTl := xTb_in (k := 3182) (by decide +kernel)
theorem xw_nat : Cond.native arraycopyName ∈ xTl := xTb_in (k := 3183) (by decide +kernel)
theorem xw_sys : Cond.initialized "java/lang/System" ∈ xTl := xTb_in (k := 1039) (by decide +kernel)
theorem xw_mth : Cond.initialized "java/lang/Math" ∈ xTl := xTb_in (k := 1027) (by decide +kernel)
theorem xw_mxs : Cond.static Lib.Math.max.name ∈ xTl := xTb_in (k := 1064) (by decide +kernel)
theorem xw_mns : Cond.static Lib.Math.min.name ∈ xTl := xTb_in (k := 3102) (by decide +kernel)
theorem xw_mxc : Cond.code Lib.Math.max.name Lib.Math.max.code 2 (some .int) ∈ xTl := xTb_in (k := 1065) (by decide +kernel)
theorem xw_mnc : Cond.code Lib.Math.min.name Lib.Math.min.code 2 (some .int) ∈ xTl := xTb_in (k := 3103) (by decide +kernel)
theorem xw_obi : Cond.instanceMethod Lib.objectInit ∈ xTl := xTb_in (k := 1055) (by decide +kernel)
theorem xw_obc : Cond.code Lib.objectInit ⟨#[0xb1]⟩ 1 none ∈ xTl := xTb_in (k := 1056) (by decide +kernel)
section XS4
variable {X : xX} {φ0 : Nat → Nat} {L : Nat} {xs : Nat → Int32} {σ0 : xS} {n : Nat} {p : Program} {l : Launch} {e : Env} {R : Room} {s : State} {m : MethodId} {args : Array Value} {below : List Frame} {meth : Method} {c : Code} {Q : State → Prop} {o : xOut} {pc : Nat} {k : xK} {kb : xKB} {y : MethodName} {cc : ByteArray} {ret : Option FieldType}

theorem xIv.al {φ φ' : Nat → Nat} {ls st st' : List Value} {σ : xS} {r : List xO} {M : Array Slot} {H H1 : Heap} {locs locs1 : List Loc} {ents : va_W} (hI : xIv X φ0 L xs σ0 n s φ ls st σ M H locs) (hφ : ∀ q, xld σ.1.1.length q → φ' q = φ q)
    (hents : r.mapIdx (fun i a => (φ' (i + σ.1.1.length), xE φ' X.2.1 (fun _ => 0) (fun _ => 0) a)) = ents) (hwf : xwf ((σ.1.1 ++ r, σ.1.2), xz σ.2.1 σ.1.1.length r.length 0, xz σ.2.2 σ.1.1.length r.length 0)) (e1 : va_P X.1 vwCl (xw φ X.2.1 σ ++ ents) H1) (e2 : va_D (xA X) (xw φ X.2.1 σ ++ ents)) (e3 : va_S (xA X) s.heap H1 locs1) (hst : xok' (σ.1.1 ++ r).length st') :
    xIv X φ0 L xs σ0 n s φ' ls st' ((σ.1.1 ++ r, σ.1.2), xz σ.2.1 σ.1.1.length r.length 0, xz σ.2.2 σ.1.1.length r.length 0) M H1 locs1 := by
  have hlen : σ.1.1.length ≤ (σ.1.1 ++ r).length := by simp
  have e9 : r.mapIdx (fun i a => (φ' (i + σ.1.1.length), xE φ' X.2.1 (xz σ.2.1 σ.1.1.length r.length 0 (i + σ.1.1.length)) (xz σ.2.2 σ.1.1.length r.length 0 (i + σ.1.1.length)) a)) = ents := by
    rw [← hents]
    apply List.ext_getElem?
    intro j
    rw [List.getElem?_mapIdx, List.getElem?_mapIdx]
    cases e : r[j]? with
    | none => rfl
    | some a =>
      have hl := (List.getElem?_eq_some_iff.mp e).1
      simp only [Option.map_some]
      rw [xz_eq (by omega) (by omega), xz_eq (by omega) (by omega)]
  have ew : xw φ' X.2.1 ((σ.1.1 ++ r, σ.1.2), xz σ.2.1 σ.1.1.length r.length 0, xz σ.2.2 σ.1.1.length r.length 0) = xw φ X.2.1 σ ++ ents := by
    rw [xw_app (fun j hj => xz_ne (Or.inl hj)) (fun j hj => xz_ne (Or.inl hj)), e9, xw_ext hI.2.1.1 hφ]
  refine ⟨⟨by rw [ew]; exact e1, by rw [ew]; exact e2, e3⟩, ⟨hwf, hI.2.1.2.1, ?_⟩, ⟨fun q hq => (hφ q (xld_mono hq hI.2.2.1.2.1)).trans (hI.2.2.1.1 q hq), Nat.le_trans hI.2.2.1.2.1 hlen, xle_t hI.2.2.1.2.2 xle_app⟩, xlr_ext hI.2.2.2.1 hI.2.2.2.2.1 hφ, xok_mono hI.2.2.2.2.1 hlen, hst⟩
  dsimp only
  rw [xz_ne (Or.inr (by have h1 := hwf.1; simp at h1; omega))]
  exact hI.2.1.2.2
theorem xphi {φ : Nat → Nat} {len q : Nat} (hlen : len ≤ 1000) : ∀ i, xld len i → (fun i => if i = len then q else φ i) i = φ i := by
  intro i hi
  dsimp only
  rw [if_neg (by unfold xld at hi; omega)]
theorem xarr {ca : Nat → ClassId} {D : va_G} {cA : ClassId} {kd : Nat} {ty : FieldType} (hK : va_K D vwCl (xtys ca ++ [(cA, ty)]) s) (h : (xtys ca)[kd]? = some (ca (13 + kd), ty)) : cA = ca (13 + kd) := by
  have h1 := (hK.2 6 (cA, ty) rfl).2
  have h2 := (hK.2 kd (ca (13 + kd), ty) (by rw [List.getElem?_append_left (List.getElem?_eq_some_iff.mp h).1]; exact h)).2
  unfold va_RA at h1 h2
  cases ty <;> first
    | exact Option.some.inj (h1.symm.trans h2)
    | (obtain ⟨_, _, _, _, _, g1⟩ := h1
       obtain ⟨_, _, _, _, _, g2⟩ := h2
       exact Option.some.inj (g1.symm.trans g2))
theorem xs_new (C : xCt X φ0 L xs y cc n ret p R s m args meth c) {ci N idx : Nat} {q : vw_C} (hq : vwCl[ci]? = some q) (hN : N = q.2.2) (w1 : Cond.classLink y.cls idx q.1 ∈ xTl) (w2 : Cond.instantiable q.1 N ∈ xTl) (w3 : Cond.initialized q.1 ∈ xTl) (hd : decode cc pc = .ok (.new idx, 3)) (hmo : ∀ ls st σ, k ls st σ = some o → xle σ o.2) (hRb : xcnt o.2 - xcnt σ0 ≤ R.cells ∧ xslt o.2 - xslt σ0 ≤ R.slots) (hk : xGo X φ0 L xs σ0 n p l e R s m args below meth c Q o (pc + 3) k) : xGo X φ0 L xs σ0 n p l e R s m args below meth c Q o pc (fun ls st σ => xnw σ ci N (List.replicate N none) (fun q σ => k ls (.ref q :: st) σ)) := by
  intro φ ls st σ M H locs hI h
  obtain ⟨c1, c2, ⟨ty, c3, c3'⟩, c4, c5⟩ := xcl ci q hq
  subst hN
  unfold xnw at h
  cases hb : Nat.blt σ.1.1.length 900 with
  | false => simp [hb] at h
  | true =>
    simp only [hb, cond_true] at h
    rw [Nat.blt_eq] at hb
    have hm := hmo _ _ _ h
    have hcnt : xcnt (((σ.1.1 ++ [(ci, q.2.2, List.replicate q.2.2 none)], σ.1.2), xz σ.2.1 σ.1.1.length 1 0, xz σ.2.2 σ.1.1.length 1 0) : xS) = xcnt σ + 1 := by simp only [xcnt, List.length_append, List.length_singleton]; omega
    have hslt : xslt (((σ.1.1 ++ [(ci, q.2.2, List.replicate q.2.2 none)], σ.1.2), xz σ.2.1 σ.1.1.length 1 0, xz σ.2.2 σ.1.1.length 1 0) : xS) = xslt σ + q.2.2 := by simp only [xslt, xsum_app, xsum]; omega
    have h0 := hI.2.2.1.2.2
    unfold xle at hm h0
    rw [hcnt, hslt] at hm
    refine va_new (ci := ci) (fs := xfs φ (fun _ => 0) (fun _ => 0) (ci, q.2.2, List.replicate q.2.2 none)) (C := q.1) (T := q.2.1) (N := q.2.2) C.1.1 C.1.2.1 C.2.1 c1 ty c3 C.1.2.2.2 (C.2.1 _ w1) (C.2.1 _ w2) (C.2.1 _ w3) C.2.2.1 hI.1.1 hI.1.2.1 hI.1.2.2 C.new hq ?_ (by omega) (by omega) hd (fun a H1 e1 e2 e3 => ?_)
    · intro j hj
      unfold vp_V
      rw [List.getD_eq_getElem?_getD, xfs_at (a := (ci, q.2.2, List.replicate q.2.2 none)) hj]
      have ht := c3' j hj
      dsimp only [Option.getD_some]
      unfold xfv
      rw [xo_rep]
      split
      · next e => rw [e] at ht; rw [of_decide_eq_true ht]; rfl
      · next e =>
        rw [e] at ht
        revert ht
        cases ty j <;> simp [xtyk, defaultValue, va_rf]
      · next e1 e2 =>
        revert ht
        generalize xtf ci j = t at e1 e2
        match t, e1, e2 with
        | 0, _, _ => intro ht; rw [of_decide_eq_true ht]; rfl
        | 1, _, _ => intro ht; rw [of_decide_eq_true ht]; rfl
        | 2, e1, _ => exact absurd rfl e1
        | 3, _, e2 => exact absurd rfl e2
        | n + 4, _, _ => intro ht; cases ht
    · have hI2 := hI.al (φ' := fun i => if i = σ.1.1.length then a else φ i) (r := [(ci, q.2.2, List.replicate q.2.2 none)]) (st' := .ref σ.1.1.length :: st) (xphi hI.2.1.1.1) (ents := [(a, .inr (ci, xfs φ (fun _ => 0) (fun _ => 0) (ci, q.2.2, List.replicate q.2.2 none)))]) (by
          simp only [List.mapIdx_cons, List.mapIdx_nil, Nat.zero_add, if_true]
          rw [xE_congr (φ := φ) (fun j r hr => by rw [xo_rep] at hr; cases hr), xE_o c5]) (xwf_app hI.2.1.1 (by simp; omega) (fun i b hb' => by
          have hz : i < 1 := (List.getElem?_eq_some_iff.mp hb').1
          rw [show i = 0 by omega] at hb'
          cases hb'
          exact ⟨Or.inl ⟨c5, c4.symm, by simp⟩, fun j r hr => by rw [xo_rep] at hr; cases hr⟩)) e1 e2 e3 (xok_cons.mpr ⟨xvd_r (Or.inl (by simp)), xok_mono hI.2.2.2.2.2 (by simp)⟩)
      have hx := hk _ _ _ _ M H1 locs hI2 h
      simp only [List.length_singleton] at hx
      rw [hcnt, hslt, show xcnt σ + 1 - xcnt σ0 = xcnt σ - xcnt σ0 + 1 by omega, show xslt σ + q.2.2 - xslt σ0 = xslt σ - xslt σ0 + q.2.2 by omega] at hx
      simp only [List.map_cons, xv, if_true] at hx
      rw [xvs_ext hI.2.2.2.2.2 (xphi hI.2.1.1.1)] at hx
      exact hx

theorem xnat {i : Int32} (h : ¬ i < 0) : ¬ i < 0 ∧ i.toNatClampNeg = i.toNatClampNeg := ⟨h, rfl⟩
theorem xs_newa0 (C : xCt X φ0 L xs y cc n ret p R s m args meth c) {at_ : ArrayType} {ty : FieldType} {kd : Nat} {a0 : Nat → vp_A} (hkd : xkd at_ = 13 + kd) (hkd2 : kd ≤ 3) (hty : Jvm.Op.newarray.typeOf at_ = ty) (htl : (xtys X.2.1)[kd]? = some (X.2.1 (13 + kd), ty)) (hz1 : ∀ (N : Nat) (cA : ClassId), vp_cell cA (a0 N) = arrV cA N (fun _ => defaultValue ty)) (hz2 : ∀ (φ : Nat → Nat) (ca : Nat → ClassId) (N : Nat), xE φ ca (fun _ => 0) (fun _ => 0) (13 + kd, N, []) = .inl (ca (13 + kd), a0 N)) (hb4 : componentBytes ty ≤ 8) (w1 : Cond.arrayClass (Jvm.Op.newarray.typeOf at_) ∈ xTl) (hd : decode cc pc = .ok (.newarray at_, 2)) (hmo : ∀ ls st σ, k ls st σ = some o → xle σ o.2) (hRb : xcnt o.2 - xcnt σ0 ≤ R.cells ∧ xslt o.2 - xslt σ0 ≤ R.slots) (hk : xGo X φ0 L xs σ0 n p l e R s m args below meth c Q o (pc + 2) k) : xGo X φ0 L xs σ0 n p l e R s m args below meth c Q o pc (fun ls st σ => xnewa at_ ls st σ k) := by
  intro φ ls st σ M H locs hI h
  unfold xnewa at h
  dsimp only at h
  split at h
  · next i rest =>
    rw [hkd] at h
    have e99 : Nat.beq (13 + kd) 99 = false := by
      rcases (show kd = 0 ∨ kd = 1 ∨ kd = 2 ∨ kd = 3 by omega) with rfl | rfl | rfl | rfl <;> rfl
    rw [e99, cond_false] at h
    unfold xna at h
    cases hb : (!(decide (i < 0)) && Nat.ble i.toNatClampNeg 65536) with
    | false => simp [hb] at h
    | true =>
      simp only [hb, cond_true] at h
      simp only [Bool.and_eq_true, Bool.not_eq_true', decide_eq_false_iff_not, Nat.ble_eq] at hb
      generalize hNN : i.toNatClampNeg = N at h hb
      unfold xnw at h
      cases hb2 : Nat.blt σ.1.1.length 900 with
      | false => simp [hb2] at h
      | true =>
        simp only [hb2, cond_true] at h
        rw [Nat.blt_eq] at hb2
        have hm := hmo _ _ _ h
        have hcnt : xcnt (((σ.1.1 ++ [(13 + kd, N, [])], σ.1.2), xz σ.2.1 σ.1.1.length 1 0, xz σ.2.2 σ.1.1.length 1 0) : xS) = xcnt σ + 1 := by simp only [xcnt, List.length_append, List.length_singleton]; omega
        have hslt : xslt (((σ.1.1 ++ [(13 + kd, N, [])], σ.1.2), xz σ.2.1 σ.1.1.length 1 0, xz σ.2.2 σ.1.1.length 1 0) : xS) = xslt σ + N := by simp only [xslt, xsum_app, xsum]; omega
        have h0 := hI.2.2.1.2.2
        unfold xle at hm h0
        rw [hcnt, hslt] at hm
        have hbytes : N * componentBytes ty ≤ 536870912 := Nat.le_trans (Nat.mul_le_mul hb.2 hb4) (by decide)
        refine va_newa (atype := at_) (a0 := a0 N) C.1.1 C.1.2.1 (C.2.1 _ w1) hty C.2.2.1 hI.1.1 hI.1.2.1 hI.1.2.2 C.new (hz1 N) hb.1 hNN hbytes (by omega) (by omega) hd (fun a cA H1 hK e1 e2 e3 => ?_)
        have hcA := xarr hK htl
        subst hcA
        have hrest := (xok_cons.mp hI.2.2.2.2.2).2
        have hI2 := hI.al (φ' := fun i => if i = σ.1.1.length then a else φ i) (r := [(13 + kd, N, [])]) (st' := .ref σ.1.1.length :: rest) (xphi hI.2.1.1.1) (ents := [(a, .inl (X.2.1 (13 + kd), a0 N))]) (by
            simp only [List.mapIdx_cons, List.mapIdx_nil, Nat.zero_add, if_true]
            rw [hz2]) (xwf_app hI.2.1.1 (by simp; omega) (fun i b hb' => by
            have hz : i < 1 := (List.getElem?_eq_some_iff.mp hb').1
            rw [show i = 0 by omega] at hb'
            cases hb'
            exact ⟨Or.inr ⟨by omega, by dsimp only; omega, fun h => absurd h (by dsimp only; omega)⟩, fun j r hr => by simp [xo, xn] at hr⟩)) e1 e2 e3 (xok_cons.mpr ⟨xvd_r (Or.inl (by simp)), xok_mono hrest (by simp)⟩)
        have hx := hk _ _ _ _ M H1 locs hI2 h
        simp only [List.length_singleton] at hx
        rw [hcnt, hslt, show xcnt σ + 1 - xcnt σ0 = xcnt σ - xcnt σ0 + 1 by omega, show xslt σ + N - xslt σ0 = xslt σ - xslt σ0 + N by omega] at hx
        simp only [List.map_cons, xv, if_true] at hx
        rw [xvs_ext hrest (xphi hI.2.1.1.1)] at hx
        exact hx
  · cases h

theorem xs_newa (C : xCt X φ0 L xs y cc n ret p R s m args meth c) {at_ : ArrayType} (w1 : Cond.arrayClass (Jvm.Op.newarray.typeOf at_) ∈ xTl) (hd : decode cc pc = .ok (.newarray at_, 2)) (hmo : ∀ ls st σ, k ls st σ = some o → xle σ o.2) (hRb : xcnt o.2 - xcnt σ0 ≤ R.cells ∧ xslt o.2 - xslt σ0 ≤ R.slots) (hk : xGo X φ0 L xs σ0 n p l e R s m args below meth c Q o (pc + 2) k) : xGo X φ0 L xs σ0 n p l e R s m args below meth c Q o pc (fun ls st σ => xnewa at_ ls st σ k) := by
  cases at_
  case boolean => exact xs_newa0 C (kd := 3) (a0 := fun N => (N, .inl (fun _ => 0))) rfl (by omega) rfl rfl (fun _ _ => rfl) (fun _ _ _ => rfl) (by decide) w1 hd hmo hRb hk
  case byte => exact xs_newa0 C (kd := 0) (a0 := fun N => (N, .inl (fun _ => 0))) rfl (by omega) rfl rfl (fun _ _ => rfl) (fun _ _ _ => rfl) (by decide) w1 hd hmo hRb hk
  case int => exact xs_newa0 C (kd := 1) (a0 := fun N => (N, .inl (fun _ => 0))) rfl (by omega) rfl rfl (fun _ _ => rfl) (fun _ _ _ => rfl) (by decide) w1 hd hmo hRb hk
  case long => exact xs_newa0 C (kd := 2) (a0 := fun N => (N, .inr (.inl (fun _ => 0)))) rfl (by omega) rfl rfl (fun _ _ => rfl) (fun _ _ _ => rfl) (by decide) w1 hd hmo hRb hk
  all_goals
    intro φ ls st σ M H locs hI h
    unfold xnewa at h
    dsimp only at h
    split at h
    · cases h
    · cases h

theorem xs_newq (C : xCt X φ0 L xs y cc n ret p R s m args meth c) {idx : Nat} (w1 : Cond.classLink y.cls idx RX8 ∈ xTl) (hd : decode cc pc = .ok (.anewarray idx, 3)) (hmo : ∀ ls st σ, k ls st σ = some o → xle σ o.2) (hRb : xcnt o.2 - xcnt σ0 ≤ R.cells ∧ xslt o.2 - xslt σ0 ≤ R.slots) (hk : xGo X φ0 L xs σ0 n p l e R s m args below meth c Q o (pc + 3) k) : xGo X φ0 L xs σ0 n p l e R s m args below meth c Q o pc (fun ls st σ => xnewq ls st σ k) := by
  intro φ ls st σ M H locs hI h
  unfold xnewq at h
  dsimp only at h
  split at h
  · next i rest =>
    unfold xnq at h
    cases hb : (!(decide (i < 0)) && Nat.ble i.toNatClampNeg 65536) with
    | false => simp [hb] at h
    | true =>
      simp only [hb, cond_true] at h
      simp only [Bool.and_eq_true, Bool.not_eq_true', decide_eq_false_iff_not, Nat.ble_eq] at hb
      generalize hNN : i.toNatClampNeg = N at h hb
      unfold xnw at h
      cases hb2 : Nat.blt σ.1.1.length 900 with
      | false => simp [hb2] at h
      | true =>
        simp only [hb2, cond_true] at h
        rw [Nat.blt_eq] at hb2
        have hm := hmo _ _ _ h
        have hcnt : xcnt (((σ.1.1 ++ [(17, N, List.replicate N none)], σ.1.2), xz σ.2.1 σ.1.1.length 1 0, xz σ.2.2 σ.1.1.length 1 0) : xS) = xcnt σ + 1 := by simp only [xcnt, List.length_append, List.length_singleton]; omega
        have hslt : xslt (((σ.1.1 ++ [(17, N, List.replicate N none)], σ.1.2), xz σ.2.1 σ.1.1.length 1 0, xz σ.2.2 σ.1.1.length 1 0) : xS) = xslt σ + N := by simp only [xslt, xsum_app, xsum]; omega
        have h0 := hI.2.2.1.2.2
        unfold xle at hm h0
        rw [hcnt, hslt] at hm
        refine va_newq C.1.1 C.1.2.1 C.1.2.2.2 (C.2.1 _ w1) C.2.2.2.1.2.2.2.2.1 C.2.2.1 hI.1.1 hI.1.2.1 hI.1.2.2 C.new hb.1 hNN (by omega) (by omega) (by omega) hd (fun a cA H1 hK e1 e2 e3 => ?_)
        have hcA := xarr (kd := 4) hK rfl
        subst hcA
        have hrest := (xok_cons.mp hI.2.2.2.2.2).2
        have hI2 := hI.al (φ' := fun i => if i = σ.1.1.length then a else φ i) (r := [(17, N, List.replicate N none)]) (st' := .ref σ.1.1.length :: rest) (xphi hI.2.1.1.1) (ents := [(a, .inl (X.2.1 17, N, .inr (.inr (.inr (.inr (fun _ => none))))))]) (by
            simp only [List.mapIdx_cons, List.mapIdx_nil, Nat.zero_add, if_true]
            rw [xE_q (Nat.le_refl 17)]
            simp only [xo_rep, Option.map_none]) (xwf_app hI.2.1.1 (by simp; omega) (fun i b hb' => by
            have hz : i < 1 := (List.getElem?_eq_some_iff.mp hb').1
            rw [show i = 0 by omega] at hb'
            cases hb'
            exact ⟨Or.inr ⟨show 13 ≤ 17 by decide, show 17 ≤ 18 by decide, fun _ => by simp⟩, fun j r hr => by rw [xo_rep] at hr; cases hr⟩)) e1 e2 e3 (xok_cons.mpr ⟨xvd_r (Or.inl (by simp)), xok_mono hrest (by simp)⟩)
        have hx := hk _ _ _ _ M H1 locs hI2 h
        simp only [List.length_singleton] at hx
        rw [hcnt, hslt, show xcnt σ + 1 - xcnt σ0 = xcnt σ - xcnt σ0 + 1 by omega, show xslt σ + N - xslt σ0 = xslt σ - xslt σ0 + N by omega] at hx
        simp only [List.map_cons, xv, if_true] at hx
        rw [xvs_ext hrest (xphi hI.2.1.1.1)] at hx
        exact hx
  · cases h

theorem xs_mna (C : xCt X φ0 L xs y cc n ret p R s m args meth c) {idx : Nat} (w1 : Cond.classLink y.cls idx ("[" ++ (FieldType.array .int).toString) ∈ xTl) (w2 : Cond.arrayClass .int ∈ xTl) (hd : decode cc pc = .ok (.multianewarray idx 2, 4)) (hmo : ∀ ls st σ, k ls st σ = some o → xle σ o.2) (hRb : xcnt o.2 - xcnt σ0 ≤ R.cells ∧ xslt o.2 - xslt σ0 ≤ R.slots) (hk : xGo X φ0 L xs σ0 n p l e R s m args below meth c Q o (pc + 4) k) : xGo X φ0 L xs σ0 n p l e R s m args below meth c Q o pc (fun ls st σ => xnewm ls st σ k) := by
  intro φ ls st σ M H locs hI h
  unfold xnewm at h
  dsimp only at h
  split at h
  · next j i rest =>
    unfold xmn at h
    cases hb : (!(decide (i < 0)) && Nat.ble i.toNatClampNeg 64 && !(decide (j < 0)) && Nat.ble j.toNatClampNeg 64 && Nat.blt σ.1.1.length 900) with
    | false => simp [hb] at h
    | true =>
      simp only [hb, cond_true] at h
      simp only [Bool.and_eq_true, Bool.not_eq_true', decide_eq_false_iff_not, Nat.ble_eq, Nat.blt_eq] at hb
      obtain ⟨⟨⟨⟨b1, b2⟩, b3⟩, b4⟩, b5⟩ := hb
      generalize hNN : i.toNatClampNeg = N at h b2
      generalize hKK : j.toNatClampNeg = K at h b4
      generalize hLN : σ.1.1.length = len at h b5
      have hm := hmo _ _ _ h
      generalize hnew : ((18, N, (List.range N).map (fun k => some (len + 1 + k))) :: List.replicate N (14, K, []) : List xO) = nw at h hm
      have hnl : nw.length = N + 1 := by rw [← hnew]; simp
      have hsr : ∀ t : Nat, xsum (List.replicate t (14, K, [])) = t * K := by
        intro t
        induction t with
        | zero => simp [xsum]
        | succ t ih => rw [List.replicate_succ, xsum, ih, Nat.succ_mul, Nat.add_comm]
      have hns : xsum nw = N + N * K := by rw [← hnew, xsum, hsr]
      have hcnt : xcnt (((σ.1.1 ++ nw, σ.1.2), xz σ.2.1 len (N + 1) 0, xz σ.2.2 len (N + 1) 0) : xS) = xcnt σ + 1 + N := by simp only [xcnt, List.length_append, hnl]; omega
      have hslt : xslt (((σ.1.1 ++ nw, σ.1.2), xz σ.2.1 len (N + 1) 0, xz σ.2.2 len (N + 1) 0) : xS) = xslt σ + N + N * K := by simp only [xslt, xsum_app, hns]; omega
      have h0 := hI.2.2.1.2.2
      unfold xle at hm h0
      rw [hcnt, hslt] at hm
      have hrest := (xok_cons.mp (xok_cons.mp hI.2.2.2.2.2).2).2
      have hcy : s.vm.findClass (FieldType.array .int).toString = some (X.2.1 14) := (C.2.2.1.2 1 _ rfl).2
      refine va_mna (X := xw φ X.2.1 σ) (L := []) (f := fun _ => .inr (0, [])) (z := (K, .inl (fun _ => 0))) (ty := .int) C.1.1 C.1.2.1 C.1.2.2.2 (C.2.1 _ w1) C.2.2.2.1.2.2.2.2.2.1 (C.2.1 _ w2) hcy C.2.2.1 (by simpa [va_pl] using hI.1.1) (by simpa [va_pl] using hI.1.2.1) hI.1.2.2 C.new b1 b3 hNN hKK (by omega) (show K * 4 ≤ 536870912 by omega) (by omega) rfl rfl (by omega) (by omega) (fun c => by unfold Jvm.Free.Multi.innerC; rw [vp_cell_i, ← arrV_new]; rfl) hd (fun a r cA H1 hri hrl hK e1 e2 e3 => ?_)
      have hcA := xarr (kd := 5) hK rfl
      subst hcA
      have hφ : ∀ q, xld len q → (fun i => if i = len then a else if len < i ∧ i < len + 1 + N then r (i - len - 1) else φ i) q = φ q := by
        intro q hq
        dsimp only
        unfold xld at hq
        rw [if_neg (by omega), if_neg (by omega)]
      have hents : nw.mapIdx (fun t b => ((fun i => if i = len then a else if len < i ∧ i < len + 1 + N then r (i - len - 1) else φ i) (t + len), xE (fun i => if i = len then a else if len < i ∧ i < len + 1 + N then r (i - len - 1) else φ i) X.2.1 (fun _ => 0) (fun _ => 0) b)) = (a, .inl (X.2.1 18, N, .inr (.inr (.inr (.inr (fun i => if i < N then some (r i) else none)))))) :: ((List.range N).map r).map (fun q => (q, .inl (X.2.1 14, K, .inl (fun _ => 0)))) := by
        rw [← hnew, List.mapIdx_cons]
        congr 1
        · rw [xE_q (show 17 ≤ 18 by decide)]
          dsimp only
          rw [Nat.zero_add, if_pos rfl]
          congr 8
          funext t
          unfold xo
          rw [xn_eq, List.getElem?_map]
          by_cases ht : t < N
          · rw [List.getElem?_range ht, if_pos ht]
            simp only [Option.map_some]
            rw [if_neg (by omega), if_pos (by omega)]
            congr 2
            omega
          · rw [List.getElem?_eq_none (by simp; omega), if_neg ht]
            rfl
        · apply List.ext_getElem?
          intro t
          rw [List.getElem?_mapIdx, List.getElem?_map, List.getElem?_map]
          by_cases ht : t < N
          · rw [List.getElem?_replicate, if_pos ht, List.getElem?_range ht]
            simp only [Option.map_some]
            rw [xE_i (Or.inr (Or.inl rfl)), if_neg (by omega), if_pos (by omega)]
            congr 2
            congr 1
            omega
          · rw [List.getElem?_replicate, if_neg ht, List.getElem?_eq_none (by simp; omega)]
            rfl
      have hwr : ∀ (W0 : va_W), (W0 ++ [(a, (.inl (X.2.1 18, N, .inr (.inr (.inr (.inr (fun i => if i < N then some (r i) else none))))) : va_E))]) ++ va_pl ([] ++ (List.range N).map r) (vr_up (fun _ => .inr (0, [])) ((List.range N).map r) (.inl (X.2.1 14, K, .inl (fun _ => 0)))) = W0 ++ ((a, .inl (X.2.1 18, N, .inr (.inr (.inr (.inr (fun i => if i < N then some (r i) else none)))))) :: ((List.range N).map r).map (fun q => (q, .inl (X.2.1 14, K, .inl (fun _ => 0))))) := by
        intro W0
        rw [List.append_assoc]
        congr 1
        rw [List.singleton_append]
        congr 1
        unfold va_pl
        rw [List.nil_append]
        apply List.map_congr_left
        intro q hq
        rw [vr_up_in hq]
      rw [hwr] at e1 e2
      subst hLN
      have hI2 := hI.al (r := nw) (st' := .ref σ.1.1.length :: rest) hφ hents (xwf_app hI.2.1.1 (by rw [List.length_append, hnl]; omega) (fun t b hb' => by
          rw [← hnew] at hb'
          cases t with
          | zero =>
            cases hb'
            refine ⟨Or.inr ⟨show 13 ≤ 18 by decide, show 18 ≤ 18 by decide, fun _ => by simp⟩, fun u v hv => ?_⟩
            unfold xo at hv
            rw [xn_eq, List.getElem?_map] at hv
            by_cases hu : u < N
            · rw [List.getElem?_range hu] at hv
              simp only [Option.map_some, Option.some.injEq] at hv
              rw [← hv, List.length_append, hnl]
              exact Or.inl (by omega)
            · rw [List.getElem?_eq_none (by simp; omega)] at hv
              cases hv
          | succ t =>
            rw [List.getElem?_cons_succ, List.getElem?_replicate] at hb'
            split at hb'
            · cases hb'
              exact ⟨Or.inr ⟨show 13 ≤ 14 by decide, show 14 ≤ 18 by decide, fun h => absurd h (show ¬ 17 ≤ 14 by decide)⟩, fun u v hv => by simp [xo, xn] at hv⟩
            · cases hb')) e1 e2 e3 (xok_cons.mpr ⟨xvd_r (Or.inl (by rw [List.length_append, hnl]; omega)), xok_mono hrest (by rw [List.length_append]; omega)⟩)
      rw [hnl] at hI2
      have hx := hk _ _ _ _ M H1 locs hI2 h
      rw [hcnt, hslt, show xcnt σ + 1 + N - xcnt σ0 = xcnt σ - xcnt σ0 + 1 + N by omega, show xslt σ + N + N * K - xslt σ0 = xslt σ - xslt σ0 + N + N * K by omega] at hx
      simp only [List.map_cons, xv, if_true] at hx
      rw [xvs_ext hrest hφ] at hx
      exact hx
  · cases h

end XS4
