/-! Instructions over arrays. -/
section XS3
variable {X : xX} {φ0 : Nat → Nat} {L : Nat} {xs : Nat → Int32} {σ0 : xS} {n : Nat} {p : Program} {l : Launch} {e : Env} {R : Room} {s : State} {m : MethodId} {args : Array Value} {below : List Frame} {meth : Method} {c : Code} {Q : State → Prop} {o : xOut} {pc : Nat} {k : xK} {kb : xKB} {y : MethodName} {cc : ByteArray} {ret : Option FieldType}

theorem xIv.wr {φ : Nat → Nat} {ls st st' : List Value} {σ σ' : xS} {M : Array Slot} {H H1 : Heap} {locs locs1 : List Loc} {r : Nat} {ent : Nat × va_E} (hI : xIv X φ0 L xs σ0 n s φ ls st σ M H locs) (hw : xw φ X.2.1 σ' = (xw φ X.2.1 σ).set r ent) (g1 : xwf σ') (g2 : σ'.1.2 = σ.1.2) (g3 : σ'.2.1 1000000 = σ.2.1 1000000) (g4 : σ'.1.1.length = σ.1.1.length) (g5 : xsum σ'.1.1 = xsum σ.1.1) (e1 : va_P X.1 vwCl ((xw φ X.2.1 σ).set r ent) H1) (e2 : va_D (xA X) ((xw φ X.2.1 σ).set r ent)) (e3 : va_S (xA X) s.heap H1 locs1) (hst : xok' σ.1.1.length st') : xIv X φ0 L xs σ0 n s φ ls st' σ' M H1 locs1 ∧ xcnt σ' = xcnt σ ∧ xslt σ' = xslt σ := by
  rw [← hw] at e1 e2
  have ec : xcnt σ' = xcnt σ := by unfold xcnt; rw [g4, g2]
  have es : xslt σ' = xslt σ := by unfold xslt; rw [g5, g2]
  exact ⟨⟨⟨e1, e2, e3⟩, ⟨g1, by rw [g2]; exact hI.2.1.2.1, by rw [g3]; exact hI.2.1.2.2⟩, ⟨hI.2.2.1.1, by rw [g4]; exact hI.2.2.1.2.1, by rw [xle, ec, es]; exact hI.2.2.1.2.2⟩, hI.2.2.2.1, by rw [g4]; exact hI.2.2.2.2.1, by rw [g4]; exact hst⟩, ec, es⟩
theorem xIv.phi {φ : Nat → Nat} {ls st : List Value} {σ : xS} {M : Array Slot} {H : Heap} {locs : List Loc} {q : Nat} (hI : xIv X φ0 L xs σ0 n s φ ls st σ M H locs) (hq : 1000000 ≤ q) : φ q = φ0 q := hI.2.2.1.1 q (Or.inr hq)
theorem xCt.nA (C : xCt X φ0 L xs y cc n ret p R s m args meth c) : ¬ xA X (φ0 1000000) := Nat.not_le.mpr C.2.2.2.1.1.2.1
theorem xCt.lt (C : xCt X φ0 L xs y cc n ret p R s m args meth c) : φ0 1000000 < s.heap.size := Nat.lt_of_lt_of_le C.2.2.2.1.1.2.1 C.2.2.2.2.1
theorem xCt.new (C : xCt X φ0 L xs y cc n ret p R s m args meth c) : ∀ q, s.heap.size ≤ q → xA X q := fun q h => Nat.le_trans C.2.2.2.2.1 h
theorem xs_iaload (C : xCt X φ0 L xs y cc n ret p R s m args meth c) (hd : decode cc pc = .ok (.iaload, 1)) (hk : xGo X φ0 L xs σ0 n p l e R s m args below meth c Q o (pc + 1) k) : xGo X φ0 L xs σ0 n p l e R s m args below meth c Q o pc (fun ls st σ => xldA ls st σ k) := by
  intro φ ls st σ M H locs hI h
  unfold xldA at h
  dsimp only at h
  split at h
  · next i r rest =>
    unfold xaI at h
    cases hi : xin i (xlen σ.1 14 r) with
    | false => simp [hi] at h
    | true =>
      simp only [hi, cond_true] at h
      have hkk := hk φ _ _ _ M H locs (hI.st (xok_cons.mpr ⟨xvd_i, (xok_cons.mp (xok_cons.mp hI.2.2.2.2.2).2).2⟩)) h
      by_cases hr : r = 1000000
      · subst hr
        have hl : xlen σ.1 14 1000000 = L := by
          unfold xlen
          rw [xn_eq, List.getElem?_eq_none (by have := hI.2.1.1.1; omega)]
          exact hI.2.1.2.1
        rw [hl] at hi
        rw [hI.2.1.2.2] at hkk
        show W p l e R s m args below meth c H locs _ _ Q (F0 m pc M (.int i :: .ref (φ 1000000) :: rest.map (xv φ)))
        rw [hI.phi (Nat.le_refl _)]
        exact va_sld C.1.1 C.1.2.1 C.2.2.2.1.1.1 C.lt C.nA hI.1.2.2 (xin_vp hi) hd hkk
      · obtain ⟨a, ha, hc, hin⟩ := xlen_at hi (fun q => hr q.2)
        exact va_iald (ws := xw φ X.2.1 σ) (n := a.2.1) (f := σ.2.1 r) C.1.1 C.1.2.1 C.2.2.1 hI.1.1 r 1 (by rw [xw_at ha, xE_i (by omega), hc]) rfl (xin_vp hin) hd hkk
  · cases h

theorem xs_baload (C : xCt X φ0 L xs y cc n ret p R s m args meth c) (hd : decode cc pc = .ok (.baload, 1)) (hk : xGo X φ0 L xs σ0 n p l e R s m args below meth c Q o (pc + 1) k) : xGo X φ0 L xs σ0 n p l e R s m args below meth c Q o pc (fun ls st σ => xldB ls st σ k) := by
  intro φ ls st σ M H locs hI h
  unfold xldB at h
  dsimp only at h
  split at h
  · next i r rest =>
    unfold xaB at h
    cases hi : (xin i (xlen σ.1 13 r) || xin i (xlen σ.1 16 r)) with
    | false => simp [hi] at h
    | true =>
      simp only [hi, cond_true] at h
      have hkk := hk φ _ _ _ M H locs (hI.st (xok_cons.mpr ⟨xvd_i, (xok_cons.mp (xok_cons.mp hI.2.2.2.2.2).2).2⟩)) h
      rcases Bool.or_eq_true_iff.mp hi with hi | hi
      · obtain ⟨a, ha, hc, hin⟩ := xlen_at hi (fun q => by omega)
        exact va_bald (ws := xw φ X.2.1 σ) (n := a.2.1) (f := σ.2.1 r) C.1.1 C.1.2.1 C.2.2.1 hI.1.1 r 0 (by rw [xw_at ha, xE_i (by omega), hc]) rfl (xin_vp hin) hd hkk
      · obtain ⟨a, ha, hc, hin⟩ := xlen_at hi (fun q => by omega)
        exact va_zald (ws := xw φ X.2.1 σ) (n := a.2.1) (f := σ.2.1 r) C.1.1 C.1.2.1 C.2.2.1 hI.1.1 r 3 (by rw [xw_at ha, xE_i (by omega), hc]) rfl (xin_vp hin) hd hkk
  · cases h

theorem xs_laload (C : xCt X φ0 L xs y cc n ret p R s m args meth c) (hd : decode cc pc = .ok (.laload, 1)) (hk : xGo X φ0 L xs σ0 n p l e R s m args below meth c Q o (pc + 1) k) : xGo X φ0 L xs σ0 n p l e R s m args below meth c Q o pc (fun ls st σ => xldL ls st σ k) := by
  intro φ ls st σ M H locs hI h
  unfold xldL at h
  dsimp only at h
  split at h
  · next i r rest =>
    unfold xaJ at h
    cases hr : Nat.beq r 1000001 with
    | true =>
      simp only [hr, cond_true] at h
      cases hi : xin i 21 with
      | false => simp [hi] at h
      | true =>
        simp only [hi, cond_true] at h
        have hr := Nat.eq_of_beq_eq_true hr
        subst hr
        have hkk := hk φ _ _ _ M H locs (hI.st (xok_cons.mpr ⟨xvd_j, (xok_cons.mp (xok_cons.mp hI.2.2.2.2.2).2).2⟩)) h
        show W p l e R s m args below meth c H locs _ _ Q (F0 m pc M (.int i :: .ref (φ 1000001) :: rest.map (xv φ)))
        rw [hI.phi (by omega)]
        exact va_tl C.1.1 C.1.2.1 C.2.2.2.1.2.1.1 hI.1.2.2 (xin_vp hi) rfl hd hkk
    | false =>
      simp only [hr, cond_false] at h
      cases hi : xin i (xlen σ.1 15 r) with
      | false => simp [hi] at h
      | true =>
        simp only [hi, cond_true] at h
        have hkk := hk φ _ _ _ M H locs (hI.st (xok_cons.mpr ⟨xvd_j, (xok_cons.mp (xok_cons.mp hI.2.2.2.2.2).2).2⟩)) h
        obtain ⟨a, ha, hc, hin⟩ := xlen_at hi (fun q => by omega)
        exact va_lald (ws := xw φ X.2.1 σ) (n := a.2.1) (f := σ.2.2 r) C.1.1 C.1.2.1 C.2.2.1 hI.1.1 r 2 (by rw [xw_at ha, xE_j hc, hc]) rfl (xin_vp hin) hd hkk
  · cases h

theorem xs_aaload (C : xCt X φ0 L xs y cc n ret p R s m args meth c) (hd : decode cc pc = .ok (.aaload, 1)) (hk : xGo X φ0 L xs σ0 n p l e R s m args below meth c Q o (pc + 1) k) : xGo X φ0 L xs σ0 n p l e R s m args below meth c Q o pc (fun ls st σ => xldQ ls st σ k) := by
  intro φ ls st σ M H locs hI h
  unfold xldQ at h
  dsimp only at h
  split at h
  · next i r rest =>
    unfold xaR at h
    cases hi : (xin i (xlen σ.1 17 r) || xin i (xlen σ.1 18 r)) with
    | false => simp [hi] at h
    | true =>
      simp only [hi, cond_true] at h
      have key : ∃ a, σ.1.1[r]? = some a ∧ (a.1 = 17 ∨ a.1 = 18) ∧ xin i a.2.1 = true := by
        rcases Bool.or_eq_true_iff.mp hi with hi | hi
        · obtain ⟨a, ha, hc, hin⟩ := xlen_at hi (fun q => by omega)
          exact ⟨a, ha, Or.inl hc, hin⟩
        · obtain ⟨a, ha, hc, hin⟩ := xlen_at hi (fun q => by omega)
          exact ⟨a, ha, Or.inr hc, hin⟩
      obtain ⟨a, ha, hc, hin⟩ := key
      rw [xrf_eq, xn_eq, ha] at h
      dsimp only at h
      cases hr : xo a.2.2 i.toNatClampNeg with
      | none => rw [hr] at h; cases h
      | some v =>
        rw [hr] at h
        dsimp only at h
        have hkk := hk φ _ _ _ M H locs (hI.st (xok_cons.mpr ⟨xvd_r ((hI.2.1.1.2 r a ha).2 _ v hr), (xok_cons.mp (xok_cons.mp hI.2.2.2.2.2).2).2⟩)) h
        have hv : va_rf ((fun k => (xo a.2.2 k).map φ) i.toNatClampNeg) = xv φ (.ref v) := by dsimp only; rw [hr]; rfl
        rcases hc with hc | hc
        · refine va_aldq (ws := xw φ X.2.1 σ) (n := a.2.1) (f := fun k => (xo a.2.2 k).map φ) C.1.1 C.1.2.1 C.2.2.1 hI.1.1 r 4 (by rw [xw_at ha, xE_q (by omega), hc]) rfl (xin_vp hin) hd ?_
          rw [hv]
          exact hkk
        · have hcell := hI.1.1 r _ (xw_at (φ := φ) (ca := X.2.1) ha)
          rw [xE_q (by omega), hc] at hcell
          have hcell : H[φ r]? = some (vp_cell (X.2.1 18) (a.2.1, .inr (.inr (.inr (.inr (fun k => (xo a.2.2 k).map φ)))))) := hcell
          have hlt : i.toNatClampNeg < a.2.1 := Nat.not_le.mp fun q => (xin_vp hin) (Or.inr q)
          refine W.aald (v := va_rf ((fun k => (xo a.2.2 k).map φ) i.toNatClampNeg)) (ty := .array .int) C.1.1 C.1.2.1 hcell ((C.2.2.1.2 5 _ rfl).1 a.2.1 (fun j => va_rf ((xo a.2.2 j).map φ))) rfl (fun q => by cases q) (by show ¬ (i < 0 ∨ (arrV _ _ _).slots.size ≤ _); rw [arrV_size]; exact xin_vp hin) (by show (arrV _ _ _).slots[_]? = _; rw [arrV_read _ _ hlt]) rfl rfl hd ?_
          rw [hv]
          exact hkk
  · cases h

theorem xs_iastore (C : xCt X φ0 L xs y cc n ret p R s m args meth c) (hd : decode cc pc = .ok (.iastore, 1)) (hk : xGo X φ0 L xs σ0 n p l e R s m args below meth c Q o (pc + 1) k) : xGo X φ0 L xs σ0 n p l e R s m args below meth c Q o pc (fun ls st σ => xstA ls st σ k) := by
  intro φ ls st σ M H locs hI h
  unfold xstA at h
  dsimp only at h
  split at h
  · next v i r rest =>
    unfold xsI at h
    cases hi : (xis σ.1 14 r && xin i (xlen σ.1 14 r)) with
    | false => simp [hi] at h
    | true =>
      simp only [hi, cond_true] at h
      simp only [Bool.and_eq_true] at hi
      obtain ⟨a, ha, hc⟩ := xis_at hi.1
      rw [xlen_is (n := 0) ha hc] at hi
      have hrest := (xok_cons.mp (xok_cons.mp (xok_cons.mp hI.2.2.2.2.2).2).2).2
      refine va_iast (ws := xw φ X.2.1 σ) (n := a.2.1) (f := σ.2.1 r) C.1.1 C.1.2.1 C.2.2.1 hI.1.1 hI.1.2.1 hI.1.2.2 r 1 (by rw [xw_at ha, xE_i (by omega), hc]) rfl (xin_vp hi.2) hd (fun H1 locs1 e1 e2 e3 => ?_)
      obtain ⟨hI2, ec, es⟩ := hI.wr (σ' := ((σ.1.1, σ.1.2), xu σ.2.1 r i.toNatClampNeg v, σ.2.2)) (by rw [xw_set (a := a) (b := a) ha (xself ha) (fun j hj => xu_ne hj) (fun j hj => rfl), xE_i (by omega), hc, xu_eq]; rfl) (xwf_m hI.2.1.1) rfl (xscr (xwf_lt hI.2.1.1 ha)) rfl rfl e1 e2 e3 hrest
      have hx := hk φ _ _ _ M H1 locs1 hI2 h
      rw [ec, es] at hx
      exact hx
  · cases h

theorem xs_bastore (C : xCt X φ0 L xs y cc n ret p R s m args meth c) (hd : decode cc pc = .ok (.bastore, 1)) (hk : xGo X φ0 L xs σ0 n p l e R s m args below meth c Q o (pc + 1) k) : xGo X φ0 L xs σ0 n p l e R s m args below meth c Q o pc (fun ls st σ => xstB ls st σ k) := by
  intro φ ls st σ M H locs hI h
  unfold xstB at h
  dsimp only at h
  split at h
  · next v i r rest =>
    unfold xsB at h
    have hrest := (xok_cons.mp (xok_cons.mp (xok_cons.mp hI.2.2.2.2.2).2).2).2
    cases hi : (xis σ.1 13 r && xin i (xlen σ.1 13 r)) with
    | true =>
      simp only [hi, cond_true] at h
      simp only [Bool.and_eq_true] at hi
      obtain ⟨a, ha, hc⟩ := xis_at hi.1
      rw [xlen_is (n := 0) ha hc] at hi
      refine va_bast (ws := xw φ X.2.1 σ) (n := a.2.1) (f := σ.2.1 r) C.1.1 C.1.2.1 C.2.2.1 hI.1.1 hI.1.2.1 hI.1.2.2 r 0 (by rw [xw_at ha, xE_i (by omega), hc]) rfl (xin_vp hi.2) hd (fun H1 locs1 e1 e2 e3 => ?_)
      obtain ⟨hI2, ec, es⟩ := hI.wr (σ' := ((σ.1.1, σ.1.2), xu σ.2.1 r i.toNatClampNeg v.toInt8.toInt32, σ.2.2)) (by rw [xw_set (a := a) (b := a) ha (xself ha) (fun j hj => xu_ne hj) (fun j hj => rfl), xE_i (by omega), hc, xu_eq]; rfl) (xwf_m hI.2.1.1) rfl (xscr (xwf_lt hI.2.1.1 ha)) rfl rfl e1 e2 e3 hrest
      have hx := hk φ _ _ _ M H1 locs1 hI2 h
      rw [ec, es] at hx
      exact hx
    | false =>
      simp only [hi, cond_false] at h
      cases hi2 : (xis σ.1 16 r && xin i (xlen σ.1 16 r) && (decide (v = 0) || decide (v = 1))) with
      | false => simp [hi2] at h
      | true =>
        simp only [hi2, cond_true] at h
        simp only [Bool.and_eq_true, Bool.or_eq_true, decide_eq_true_eq] at hi2
        obtain ⟨⟨h1, h2⟩, h3⟩ := hi2
        obtain ⟨a, ha, hc⟩ := xis_at h1
        rw [xlen_is (n := 0) ha hc] at h2
        refine va_zast (ws := xw φ X.2.1 σ) (n := a.2.1) (f := σ.2.1 r) C.1.1 C.1.2.1 C.2.2.1 hI.1.1 hI.1.2.1 hI.1.2.2 r 3 (by rw [xw_at ha, xE_i (by omega), hc]) rfl (xin_vp h2) hd (fun H1 locs1 e1 e2 e3 => ?_)
        have hnar : vp_nar .boolean v = v := by rcases h3 with rfl | rfl <;> rfl
        rw [hnar] at e1 e2
        obtain ⟨hI2, ec, es⟩ := hI.wr (σ' := ((σ.1.1, σ.1.2), xu σ.2.1 r i.toNatClampNeg v, σ.2.2)) (by rw [xw_set (a := a) (b := a) ha (xself ha) (fun j hj => xu_ne hj) (fun j hj => rfl), xE_i (by omega), hc, xu_eq]; rfl) (xwf_m hI.2.1.1) rfl (xscr (xwf_lt hI.2.1.1 ha)) rfl rfl e1 e2 e3 hrest
        have hx := hk φ _ _ _ M H1 locs1 hI2 h
        rw [ec, es] at hx
        exact hx
  · cases h

theorem xs_lastore (C : xCt X φ0 L xs y cc n ret p R s m args meth c) (hd : decode cc pc = .ok (.lastore, 1)) (hk : xGo X φ0 L xs σ0 n p l e R s m args below meth c Q o (pc + 1) k) : xGo X φ0 L xs σ0 n p l e R s m args below meth c Q o pc (fun ls st σ => xstL ls st σ k) := by
  intro φ ls st σ M H locs hI h
  unfold xstL at h
  dsimp only at h
  split at h
  · next v i r rest =>
    unfold xsJ at h
    cases hi : (xis σ.1 15 r && xin i (xlen σ.1 15 r)) with
    | false => simp [hi] at h
    | true =>
      simp only [hi, cond_true] at h
      simp only [Bool.and_eq_true] at hi
      obtain ⟨a, ha, hc⟩ := xis_at hi.1
      rw [xlen_is (n := 0) ha hc] at hi
      have hrest := (xok_cons.mp (xok_cons.mp (xok_cons.mp hI.2.2.2.2.2).2).2).2
      refine va_last (ws := xw φ X.2.1 σ) (n := a.2.1) (f := σ.2.2 r) C.1.1 C.1.2.1 C.2.2.1 hI.1.1 hI.1.2.1 hI.1.2.2 r 2 (by rw [xw_at ha, xE_j hc, hc]) rfl (xin_vp hi.2) hd (fun H1 locs1 e1 e2 e3 => ?_)
      obtain ⟨hI2, ec, es⟩ := hI.wr (σ' := ((σ.1.1, σ.1.2), σ.2.1, xu σ.2.2 r i.toNatClampNeg v)) (by rw [xw_set (a := a) (b := a) ha (xself ha) (fun j hj => rfl) (fun j hj => xu_ne hj), xE_j hc, hc, xu_eq]; rfl) (xwf_m hI.2.1.1) rfl rfl rfl rfl e1 e2 e3 hrest
      have hx := hk φ _ _ _ M H1 locs1 hI2 h
      rw [ec, es] at hx
      exact hx
  · cases h

theorem xs_aastore (C : xCt X φ0 L xs y cc n ret p R s m args meth c) (hd : decode cc pc = .ok (.aastore, 1)) (hk : xGo X φ0 L xs σ0 n p l e R s m args below meth c Q o (pc + 1) k) : xGo X φ0 L xs σ0 n p l e R s m args below meth c Q o pc (fun ls st σ => xstQ ls st σ k) := by
  intro φ ls st σ M H locs hI h
  unfold xstQ at h
  dsimp only at h
  split at h
  · next v i r rest =>
    unfold xsR at h
    cases hi : (xis σ.1 17 r && xin i (xlen σ.1 17 r) && xis σ.1 8 v) with
    | false => simp [hi] at h
    | true =>
      simp only [hi, cond_true] at h
      simp only [Bool.and_eq_true] at hi
      obtain ⟨⟨h1, h2⟩, h3⟩ := hi
      obtain ⟨a, ha, hc⟩ := xis_at h1
      obtain ⟨b, hb, hcb⟩ := xis_at h3
      rw [xlen_is (n := 0) ha hc] at h2
      have hv := xok_cons.mp hI.2.2.2.2.2
      have hrest := (xok_cons.mp (xok_cons.mp hv.2).2).2
      have hlt : i.toNatClampNeg < a.2.1 := Nat.not_le.mp fun q => (xin_vp h2) (Or.inr q)
      have hrl : i.toNatClampNeg < a.2.2.length := by
        rcases (hI.2.1.1.2 r a ha).1 with g | g
        · omega
        · rw [g.2.2 (by omega)]; exact hlt
      refine va_astq (ws := xw φ X.2.1 σ) (n := a.2.1) (r := (RX8, TX8, 4)) (f := fun k => (xo a.2.2 k).map φ) (vs := xfs φ (σ.2.1 v) (σ.2.2 v) b) C.1.1 C.1.2.1 C.2.2.1 hI.1.1 hI.1.2.1 hI.1.2.2 r 4 v 8 (by rw [xw_at ha, xE_q (by omega), hc]) rfl (by rw [xw_at hb, xE_o (by omega), hcb]) rfl (xin_vp h2) hd (fun H1 locs1 e1 e2 e3 => ?_)
      obtain ⟨hI2, ec, es⟩ := hI.wr (σ' := ((xsr σ.1.1 r i.toNatClampNeg v, σ.1.2), σ.2.1, σ.2.2)) (by
        rw [xw_set (σ := σ) (a := a) (b := (a.1, a.2.1, a.2.2.set i.toNatClampNeg (some v))) ha (xsr_eq ha) (fun j hj => rfl) (fun j hj => rfl), xE_q (by show 17 ≤ a.1; omega)]
        dsimp only
        rw [hc]
        have e9 : (fun k => (xo (a.2.2.set i.toNatClampNeg (some v)) k).map φ) = va_up (fun k => (xo a.2.2 k).map φ) i.toNatClampNeg (some (φ v)) := by
          funext j
          rw [xo_set]
          unfold va_up
          by_cases hj : j = i.toNatClampNeg
          · simp [hj, hrl]
          · simp [hj]
        rw [e9]) (xwf_sr hI.2.1.1 (hv.1 v rfl)) rfl rfl (xsr_len _ _ _ _) (xsr_sum _ _ _ _) e1 e2 e3 hrest
      have hx := hk φ _ _ _ M H1 locs1 hI2 h
      rw [ec, es] at hx
      exact hx
  · cases h

theorem xE_a {φ : Nat → Nat} {ca : Nat → ClassId} {I : Nat → Int32} {J : Nat → Int64} {a : xO} (h : 13 ≤ a.1) : ∃ x : vp_A, xE φ ca I J a = .inl (ca a.1, x) ∧ x.1 = a.2.1 := by
  unfold xE
  rw [if_neg (by omega)]
  split
  · exact ⟨_, rfl, rfl⟩
  · split <;> exact ⟨_, rfl, rfl⟩
theorem xtys_at {ca : Nat → ClassId} {d : Nat} (h1 : 13 ≤ d) (h2 : d ≤ 18) : ∃ ty, (xtys ca)[d - 13]? = some (ca d, ty) := by
  rcases (show d = 13 ∨ d = 14 ∨ d = 15 ∨ d = 16 ∨ d = 17 ∨ d = 18 by omega) with rfl | rfl | rfl | rfl | rfl | rfl <;> exact ⟨_, rfl⟩
theorem xs_alen (C : xCt X φ0 L xs y cc n ret p R s m args meth c) (hd : decode cc pc = .ok (.arraylength, 1)) (hk : xGo X φ0 L xs σ0 n p l e R s m args below meth c Q o (pc + 1) k) : xGo X φ0 L xs σ0 n p l e R s m args below meth c Q o pc (fun ls st σ => xalen ls st σ k) := by
  intro φ ls st σ M H locs hI h
  unfold xalen at h
  dsimp only at h
  split at h
  · next r rest =>
    unfold xal at h
    rw [xn_eq] at h
    have hrest := (xok_cons.mp hI.2.2.2.2.2).2
    split at h
    · next a ha =>
      cases hb : Nat.ble 13 a.1 with
      | false => simp [hb] at h
      | true =>
        simp only [hb, cond_true] at h
        have hb := Nat.le_of_ble_eq_true hb
        have hkk := hk φ _ _ _ M H locs (hI.st (xok_cons.mpr ⟨xvd_i, hrest⟩)) h
        obtain ⟨x, e1, e2⟩ := xE_a (φ := φ) (ca := X.2.1) (I := σ.2.1 r) (J := σ.2.2 r) hb
        have h18 : a.1 ≤ 18 := by
          rcases (hI.2.1.1.2 r a ha).1 with g | g <;> omega
        obtain ⟨ty, ht⟩ := xtys_at (ca := X.2.1) hb h18
        exact va_alen (ws := xw φ X.2.1 σ) (x := x) C.1.1 C.1.2.1 C.2.2.1 hI.1.1 r (a.1 - 13) (by rw [xw_at ha, e1]) ht (by rw [e2]) hd hkk
    · cases hb : Nat.beq r 1000000 with
      | true =>
        simp only [hb, cond_true] at h
        have hb := Nat.eq_of_beq_eq_true hb
        subst hb
        rw [hI.2.1.2.1] at h
        have hkk := hk φ _ _ _ M H locs (hI.st (xok_cons.mpr ⟨xvd_i, hrest⟩)) h
        show W p l e R s m args below meth c H locs _ _ Q (F0 m pc M (.ref (φ 1000000) :: rest.map (xv φ)))
        rw [hI.phi (Nat.le_refl _)]
        exact va_slen C.1.1 C.1.2.1 C.2.2.2.1.1.1 C.lt C.nA hI.1.2.2 hd hkk
      | false =>
        simp only [hb, cond_false] at h
        cases hb2 : Nat.beq r 1000001 with
        | false => simp [hb2] at h
        | true =>
          simp only [hb2, cond_true] at h
          have hb2 := Nat.eq_of_beq_eq_true hb2
          subst hb2
          have hkk := hk φ _ _ _ M H locs (hI.st (xok_cons.mpr ⟨xvd_i, hrest⟩)) h
          show W p l e R s m args below meth c H locs _ _ Q (F0 m pc M (.ref (φ 1000001) :: rest.map (xv φ)))
          rw [hI.phi (by omega)]
          exact va_tlen C.1.1 C.1.2.1 C.2.2.2.1.2.1.1 hI.1.2.2 rfl hd hkk
  · cases h

theorem xs_gets (C : xCt X φ0 L xs y cc n ret p R s m args meth c) {idx : Nat} (hw : Cond.fieldLink y.cls idx "FinalLinks$Tokens" "WORDS" "[J" ∈ xTl) (hd : decode cc pc = .ok (.getstatic idx, 3)) (hk : xGo X φ0 L xs σ0 n p l e R s m args below meth c Q o (pc + 3) k) : xGo X φ0 L xs σ0 n p l e R s m args below meth c Q o pc (fun ls st σ => k ls (.ref 1000001 :: st) σ) := by
  intro φ ls st σ M H locs hI h
  have hkk := hk φ _ _ _ M H locs (hI.st (xok_cons.mpr ⟨xvd_r (Or.inr (by omega)), hI.2.2.2.2.2⟩)) h
  refine va_gets (v := .ref (φ0 1000001)) C.1.1 C.1.2.1 C.2.2.2.1.2.1.2 hI.1.2.2 C.1.2.2.2 (C.2.1 _ hw) (fun x hx => hx) hd ?_
  rw [← hI.phi (q := 1000001) (by omega)]
  exact hkk

theorem xs_ldcS (C : xCt X φ0 L xs y cc n ret p R s m args meth c) {idx q : Nat} (hy : y.cls = RX11) (hq : (idx = 328 ∧ q = 1000002) ∨ (idx = 337 ∧ q = 1000003)) (hd : decode cc pc = .ok (.ldc idx, 2)) (hk : xGo X φ0 L xs σ0 n p l e R s m args below meth c Q o (pc + 2) k) : xGo X φ0 L xs σ0 n p l e R s m args below meth c Q o pc (fun ls st σ => k ls (.ref q :: st) σ) := by
  intro φ ls st σ M H locs hI h
  have hq1 : 1000000 ≤ q := by rcases hq with ⟨-, rfl⟩ | ⟨-, rfl⟩ <;> decide
  have hkk := hk φ _ _ _ M H locs (hI.st (xok_cons.mpr ⟨xvd_r (Or.inr hq1), hI.2.2.2.2.2⟩)) h
  have hown : s.vm.findClass RX11 = some m.cls := by rw [← hy]; exact C.1.2.2.2
  have hkk : W p l e R s m args below meth c H locs (xcnt σ - xcnt σ0) (xslt σ - xslt σ0) Q (F0 m (pc + 2) M (.ref (φ q) :: st.map (xv φ))) := hkk
  rw [hI.phi hq1] at hkk
  rcases hq with ⟨rfl, rfl⟩ | ⟨rfl, rfl⟩
  · exact va_ldcS C.1.1 C.1.2.1 hown C.2.2.2.1.2.2.1.1 hd hkk
  · exact va_ldcS C.1.1 C.1.2.1 hown C.2.2.2.1.2.2.1.2.1 hd hkk

theorem xs_ldcSW (C : xCt X φ0 L xs y cc n ret p R s m args meth c) {idx q : Nat} (hy : y.cls = RX11) (hq : (idx = 328 ∧ q = 1000002) ∨ (idx = 337 ∧ q = 1000003)) (hd : decode cc pc = .ok (.ldc_w idx, 3)) (hk : xGo X φ0 L xs σ0 n p l e R s m args below meth c Q o (pc + 3) k) : xGo X φ0 L xs σ0 n p l e R s m args below meth c Q o pc (fun ls st σ => k ls (.ref q :: st) σ) := by
  intro φ ls st σ M H locs hI h
  have hq1 : 1000000 ≤ q := by rcases hq with ⟨-, rfl⟩ | ⟨-, rfl⟩ <;> decide
  have hkk := hk φ _ _ _ M H locs (hI.st (xok_cons.mpr ⟨xvd_r (Or.inr hq1), hI.2.2.2.2.2⟩)) h
  have hown : s.vm.findClass RX11 = some m.cls := by rw [← hy]; exact C.1.2.2.2
  have hkk : W p l e R s m args below meth c H locs (xcnt σ - xcnt σ0) (xslt σ - xslt σ0) Q (F0 m (pc + 3) M (.ref (φ q) :: st.map (xv φ))) := hkk
  rw [hI.phi hq1] at hkk
  have row : ∀ {tx : String} {b : Nat}, vk_R RX11 idx tx b s → W p l e R s m args below meth c H locs (xcnt σ - xcnt σ0) (xslt σ - xslt σ0) Q (F0 m (pc + 3) M (.ref b :: st.map (xv φ))) → W p l e R s m args below meth c H locs (xcnt σ - xcnt σ0) (xslt σ - xslt σ0) Q (F0 m pc M (st.map (xv φ))) := by
    intro tx b hZ kk T hT XS
    obtain ⟨t, a1, b1⟩ := kk T hT XS
    exact ⟨t, XS.ldcStringW C.1.1 hown (text := tx) (a := b) (vk_R.same (u := s) rfl hZ).1 (vk_R.same (u := s) rfl hZ).2 (g := F0 m pc M (st.map (xv φ))) rfl (by rw [C.1.2.1]; exact hd) t a1, b1⟩
  rcases hq with ⟨rfl, rfl⟩ | ⟨rfl, rfl⟩
  · exact row C.2.2.2.1.2.2.1.1 hkk
  · exact row C.2.2.2.1.2.2.1.2.1 hkk

end XS3
