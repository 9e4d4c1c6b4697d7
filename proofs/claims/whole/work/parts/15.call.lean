/-! Contracts and calls. -/
theorem xNw.warm {s U : State} (hW : s.WarmedH U.vm) (h : xNw s) : xNw U := ⟨va_Nw.warmC hW h.1, va_Nw.warmD hW h.2.1, va_Nw.warmD hW h.2.2.1, va_Nw.warmD hW h.2.2.2⟩
theorem xNw.same {s U : State} (hv : U.vm = s.vm) (h : xNw s) : xNw U := ⟨va_Nw.same rfl hv.symm h.1, va_Nw.same rfl hv.symm h.2.1, va_Nw.same rfl hv.symm h.2.2.1, va_Nw.same rfl hv.symm h.2.2.2⟩
theorem xZ.kept {X : xX} {φ : Nat → Nat} {L : Nat} {xs : Nat → Int32} {U : State} {H H1 : Heap} (h : xZ X φ L xs U H) (hB : X.2.2 ≤ H.size) (hq : ∀ a : Nat, a < H.size → ¬ xA X a → H1[a]? = H[a]?) : xZ X φ L xs U H1 := by
  obtain ⟨⟨a1, a2, a3⟩, ⟨b1, b2⟩, ⟨c1, c2, adV, c3⟩, ⟨d1, d2⟩, e1, e2, e3, e4, e5⟩ := h
  exact ⟨⟨a1.kept (hq _ (Nat.lt_of_lt_of_le a2 hB) (Nat.not_le.mpr a2)), a2, a3⟩, ⟨b1.kept hq, b2.kept hq⟩, ⟨c1, c2, adV, c3.kept hq⟩, ⟨d1.kept hq, d2.kept hq⟩, e1, e2, e3, e4.kept hq, e5.kept hq⟩
theorem xZ.warm {X : xX} {φ : Nat → Nat} {L : Nat} {xs : Nat → Int32} {s U : State} {H : Heap} (hW : s.WarmedH U.vm) (h : xZ X φ L xs s H) : xZ X φ L xs U H := by
  obtain ⟨⟨a1, a2, a3⟩, ⟨b1, b2⟩, ⟨c1, c2, adV, c3⟩, ⟨d1, d2⟩, e1, e2, e3, e4, e5⟩ := h
  exact ⟨⟨a1.moved hW.alike, a2, a3⟩, ⟨b1.moved hW.alike, b2.moved hW.alike⟩, ⟨c1.warm hW, c2.warm hW, adV, c3.moved hW.alike⟩, ⟨d1.moved hW.alike, d2.moved hW.alike⟩, e1.moved hW.alike, Jvm.Stand.arrayOver_alikeB hW.alike e2, e3.warm hW, e4.moved hW.alike, e5.moved hW.alike⟩
theorem xZ.same {X : xX} {φ : Nat → Nat} {L : Nat} {xs : Nat → Int32} {s U : State} {H : Heap} (hv : U.vm = s.vm) (h : xZ X φ L xs s H) : xZ X φ L xs U H := by
  have hA : s.vm.Alike U.vm := by rw [hv]; exact Vm.Alike.refl s.vm
  obtain ⟨⟨a1, a2, a3⟩, ⟨b1, b2⟩, ⟨c1, c2, adV, c3⟩, ⟨d1, d2⟩, e1, e2, e3, e4, e5⟩ := h
  exact ⟨⟨a1.moved hA, a2, a3⟩, ⟨b1.moved hA, b2.moved hA⟩, ⟨c1.same hv, c2.same hv, adV, c3.moved hA⟩, ⟨d1.moved hA, d2.moved hA⟩, e1.moved hA, Jvm.Stand.arrayOver_alikeB hA e2, e3.same hv, e4.moved hA, e5.moved hA⟩
theorem xZ.phi {X : xX} {φ φ' : Nat → Nat} {L : Nat} {xs : Nat → Int32} {s : State} {H : Heap} (hφ : ∀ q, 1000000 ≤ q → φ' q = φ q) (h : xZ X φ L xs s H) : xZ X φ' L xs s H := by
  unfold xZ at h ⊢
  rw [hφ 1000000 (by omega), hφ 1000001 (by omega), hφ 1000002 (by omega), hφ 1000003 (by omega), show (fun i => φ' (1000002 + i)) = (fun i => φ (1000002 + i)) from funext (fun i => hφ _ (by omega))]
  exact h
def xrm (d a b : Nat) : Room := { frames := d + 12, cells := a, slots := b, locals := 64 * d + 400 }
def xPc (X : xX) (φ : Nat → Nat) (L : Nat) (xs : Nat → Int32) (as : List Value) (σ : xS) : Array Value → State → Prop := va_Pc (as.map (xv φ)) (fun U => X.2.2 ≤ U.heap.size ∧ va_P X.1 vwCl (xw φ X.2.1 σ) U.heap ∧ va_K X.1 vwCl (xtys X.2.1) U ∧ va_D (xA X) (xw φ X.2.1 σ) ∧ xZ X φ L xs U U.heap)
/-- what is known of a store behind a call -/
def xPo (L : Nat) (xs : Nat → Int32) (σ : xS) (v : Option Value) (σ' : xS) : Prop := xwf σ' ∧ σ'.1.2.2 = L ∧ σ'.2.1 1000000 = xs ∧ σ.1.1.length ≤ σ'.1.1.length ∧ xle σ σ' ∧ ∀ w, v = some w → xvd σ'.1.1.length w
def xQc (X : xX) (φ : Nat → Nat) (L : Nat) (xs : Nat → Int32) (σ : xS) (v : Option Value) (σ' : xS) : Array Value → State → Outcome → State → Prop := fun _ st oc t => (∃ φ' : Nat → Nat, (∀ q, xld σ.1.1.length q → φ' q = φ q) ∧ oc = .returned (v.map (xv φ')) ∧ va_P X.1 vwCl (xw φ' X.2.1 σ') t.heap ∧ va_D (xA X) (xw φ' X.2.1 σ')) ∧ xPo L xs σ v σ' ∧ va_F (xA X) st t
/-- every call that the interpreter can do meets its contract -/
def xCs (X : xX) (L : Nat) (xs : Nat → Int32) (l : Launch) (cf : xCF) (d : Nat) : Prop := ∀ (mid : Nat) (mi : xN) (as : List Value) (σ : xS) (v : Option Value) (σ' : xS) (φ : Nat → Nat), cf mid as σ = some (v, σ') → xn xinfo mid = some mi → xthr mid = false → ¬ mid = 269 → xwf σ → σ.1.2.2 = L → σ.2.1 1000000 = xs → xok' σ.1.1.length as →
  Met l mi.1 (xhd mid mi :: xTl) (xrm d (xcnt σ' - xcnt σ) (xslt σ' - xslt σ)) (xPc X φ L xs as σ) (xQc X φ L xs σ v σ') (xcnt σ' - xcnt σ) (xslt σ' - xslt σ) (xA X)
theorem xPc_blind {X : xX} {φ : Nat → Nat} {L : Nat} {xs : Nat → Int32} {as : List Value} {σ : xS} : FrameBlind (xPc X φ L xs as σ) := by
  intro a U g mk h
  obtain ⟨h1, h2, h3, h4, h5, h6⟩ := h
  exact ⟨h1, h2, h3, va_K.moved (u := U) (U := U.calling g mk a) (Vm.Alike.refl U.vm) h4, h5, h6.same rfl⟩
set_option maxRecDepth 8000 in
theorem xroom {a d L : Nat} (h1 : a ≤ 40) (h2 : 64 * (d + 1) + 400 ≤ L) : 8 + (a + 11) + (64 * d + 400) ≤ L := by omega
theorem xpop_inv : ∀ (n : Nat) (st as : List Value) (c : List Value → List Value → Option xOut) (o : xOut), xpop n st as c = some o → ∃ bs rest, st = bs ++ rest ∧ bs.length = n ∧ c (bs.reverse ++ as) rest = some o
  | 0, st, as, c, o, h => ⟨[], st, rfl, rfl, h⟩
  | n + 1, [], as, c, o, h => by cases h
  | n + 1, v :: st, as, c, o, h => by
    obtain ⟨bs, rest, h1, h2, h3⟩ := xpop_inv n st (v :: as) c o h
    exact ⟨v :: bs, rest, by rw [h1]; rfl, by simp [h2], by simpa using h3⟩
theorem xrcv_obj {g : xG} {ci : Nat} {as : List Value} (hci : ci < 13) (h : xrcv g ci as = true) : ∃ ob As, as = .ref ob :: As ∧ xis g ci ob = true := by
  unfold xrcv at h
  have e100 : Nat.beq ci 100 = false := by
    cases hz : Nat.beq ci 100 with
    | false => rfl
    | true => have := Nat.eq_of_beq_eq_true hz; omega
  rw [e100] at h
  split at h
  · exact ⟨_, _, rfl, h⟩
  · cases h
section XS6
variable {X : xX} {φ0 : Nat → Nat} {L : Nat} {xs : Nat → Int32} {σ0 : xS} {n : Nat} {p : Program} {l : Launch} {e : Env} {R : Room} {s : State} {m : MethodId} {args : Array Value} {below : List Frame} {meth : Method} {c : Code} {Q : State → Prop} {o : xOut} {pc : Nat} {k : xK} {kb : xKB} {y : MethodName} {cc : ByteArray} {ret : Option FieldType}
variable {cf : xCF} {d : Nat}
theorem xCt.pre (C : xCt X φ0 L xs y cc n ret p R s m args meth c) {φ : Nat → Nat} {ls st : List Value} {σ : xS} {M : Array Slot} {H : Heap} {locs : List Loc} (hI : xIv X φ0 L xs σ0 n s φ ls st σ M H locs) {as : List Value} : ∀ U : State, U.heap = H → s.WarmedH U.vm → xPc X φ L xs as σ (as.map (xv φ)).toArray U := by
  intro U hU hW
  have hz : xZ X φ L xs U H := ((C.2.2.2.1.kept C.2.2.2.2.1 hI.1.2.2.2.1).warm hW).phi (fun q hq => hI.phi hq)
  exact ⟨rfl, by rw [hU]; exact Nat.le_trans C.2.2.2.2.1 hI.1.2.2.1, by rw [hU]; exact hI.1.1, va_K.moved hW.alike C.2.2.1, hI.1.2.1, by rw [hU]; exact hz⟩
theorem xrun_go {φ : Nat → Nat} {ls st rest st0 : List Value} {σ σ' : xS} {M : Array Slot} {H : Heap} {locs : List Loc} {v : Option Value} {a : Array Value} (hI : xIv X φ0 L xs σ0 n s φ ls st σ M H locs) (hrest : xok' σ.1.1.length rest) (hle : xle σ σ')
    (hr : va_Run p l e R s m args below meth c H locs (xcnt σ - xcnt σ0) (xslt σ - xslt σ0) (xcnt σ' - xcnt σ) (xslt σ' - xslt σ) (F0 m pc M st0) (rest.map (xv φ)) (xQc X φ L xs σ v σ' a) (xA X)) (hk : xGo X φ0 L xs σ0 n p l e R s m args below meth c Q o (pc + 3) k) (h : k ls (v.toList ++ rest) σ' = some o) : W p l e R s m args below meth c H locs (xcnt σ - xcnt σ0) (xslt σ - xslt σ0) Q (F0 m pc M st0) := by
  intro T hT XS
  obtain ⟨v', st₀, t, T', Lc, e0, XS', hL, e1, e2, ⟨⟨φ', q1, q2, q3, q4⟩, ⟨p1, p2, p3, p4, p5, p6⟩, f1, f2⟩, go⟩ := hr T hT XS
  cases q2
  rw [e0] at f1 f2
  have h0 := hI.2.2.1.2.2
  unfold xle at hle h0
  have hI2 : xIv X φ0 L xs σ0 n s φ' ls (v.toList ++ rest) σ' M T'.heap (locs ++ Lc) := by
    refine ⟨⟨by rw [e1]; exact q3, q4, ⟨Nat.le_trans hI.1.2.2.1 (by rw [e1]; exact f1), fun q h1 h2 => ?_, fun x hx => ?_⟩⟩, ⟨p1, p2, p3⟩, ⟨fun q hq => (q1 q (xld_mono hq hI.2.2.1.2.1)).trans (hI.2.2.1.1 q hq), Nat.le_trans hI.2.2.1.2.1 p4, xle_t hI.2.2.1.2.2 p5⟩, xlr_ext hI.2.2.2.1 hI.2.2.2.2.1 q1, xok_mono hI.2.2.2.2.1 p4, ?_⟩
    · rw [e1, f2 q (Nat.lt_of_lt_of_le h1 hI.1.2.2.1) h2]
      exact hI.1.2.2.2.1 q h1 h2
    · rcases List.mem_append.mp hx with hx | hx
      · exact hI.1.2.2.2.2 x hx
      · exact hL x hx
    · intro w hw
      rcases List.mem_append.mp hw with hw | hw
      · exact p6 w (by simpa [Option.mem_toList] using hw)
      · exact xok_mono hrest p4 w hw
  have hx := hk φ' _ _ _ M T'.heap (locs ++ Lc) hI2 h T' rfl (by
    rw [show xcnt σ' - xcnt σ0 = xcnt σ - xcnt σ0 + (xcnt σ' - xcnt σ) by omega, show xslt σ' - xslt σ0 = xslt σ - xslt σ0 + (xslt σ' - xslt σ) by omega]
    exact XS')
  obtain ⟨t2, a1, b1⟩ := hx
  refine ⟨t2, go t2 ?_, b1⟩
  have es : (v.toList ++ rest).map (xv φ') = (v.map (xv φ')).toList ++ rest.map (xv φ) := by
    rw [List.map_append, xvs_ext hrest q1]
    cases v <;> rfl
  rw [es] at a1
  exact a1
theorem xgood {mid : Nat} {mi : xN} (h : xn xinfo mid = some mi) (hm : ¬ mid = 269) : GoodIn xTl (xhd mid mi :: xTl) := by
  intro w hw
  have hc := (xCdL_at 0 xinfo xcd_all mid mi h).resolve_right (by omega)
  rw [Nat.zero_add] at hc
  rcases List.mem_cons.mp hw with rfl | hw
  · exact ⟨hc, xTl_good _ hc⟩
  · exact ⟨hw, xTl_good _ hw⟩
theorem xs_callS (C : xCt X φ0 L xs y cc n ret p R s m args meth c) {mid nn rt ci idx h0 : Nat} {mi : xN} (hmi : xn xinfo mid = some mi) (hw : xcw y.cls idx h0 [0, mid, nn, rt, ci] 0 = true) (hd : decode cc pc = .ok (.invokestatic idx, 3)) (hcf : xCs X L xs l cf d) (hcm : ∀ mid as σ v σ', cf mid as σ = some (v, σ') → xle σ σ') (hRf : d + 13 ≤ R.frames ∧ 64 * (d + 1) + 400 ≤ R.locals) (hmo : ∀ ls st σ, k ls st σ = some o → xle σ o.2) (hRb : xcnt o.2 - xcnt σ0 ≤ R.cells ∧ xslt o.2 - xslt σ0 ≤ R.slots) (hk : xGo X φ0 L xs σ0 n p l e R s m args below meth c Q o (pc + 3) k) : xGo X φ0 L xs σ0 n p l e R s m args below meth c Q o pc (fun ls st σ => xcall1 cf mid nn rt ci ls st σ k) := by
  intro φ ls st σ M H locs hI h
  have hw : xcwB y.cls idx h0 mid nn ci 0 = true := hw
  unfold xcwB at hw
  rw [hmi] at hw
  dsimp only at hw
  simp only [Bool.and_eq_true, Bool.not_eq_true', decide_eq_true_eq] at hw
  obtain ⟨⟨⟨⟨⟨w1, w2⟩, w3⟩, w4⟩, w5⟩, w6⟩ := hw
  have w1 := xTb_in w1
  have hmid : ¬ mid = 269 := by
    rintro rfl
    revert w3
    decide +kernel
  have hMw := xMwL_at 0 xinfo xflag xMw_all mid mi 0 hmi w3 (by decide)
  unfold xMw at hMw
  split at hMw
  · next h0 h1 h2 h3 _ =>
    simp only [Bool.and_eq_true, decide_eq_true_eq] at hMw
    obtain ⟨⟨⟨⟨⟨m1, m2⟩, m3⟩, m4⟩, m5⟩, m6⟩ := hMw
    have m1 := xTb_in m1
    replace h : xcall1 cf mid nn rt ci ls st σ k = some o := h
    unfold xcall1 at h
    have hP0 := xpop_inv _ _ _ _ _ h
    clear h
    obtain ⟨bs, rest, rfl, hbl, h⟩ := hP0
    rw [List.append_nil] at h
    cases hb : Nat.ble (xcat rest) 8 with
    | false => simp [hb] at h
    | true =>
      simp only [hb, cond_true] at h
      rw [Nat.ble_eq] at hb
      cases hrc : xrcv σ.1 ci bs.reverse with
      | false => simp [hrc] at h
      | true =>
        simp only [hrc, cond_true] at h
        rcases xret_cases rt (cf mid bs.reverse σ) with hn | ⟨v, σ', hv, hc⟩
        · rw [hn] at h; cases h
        · rw [hc] at h
          have hok : xok' σ.1.1.length (bs ++ rest) := hI.2.2.2.2.2
          have hokb : xok' σ.1.1.length bs.reverse := fun w hw => hok w (List.mem_append_left _ (List.mem_reverse.mp hw))
          have hokr : xok' σ.1.1.length rest := fun w hw => hok w (List.mem_append_right _ hw)
          have hM := hcf mid mi _ _ _ _ φ hv hmi w2 hmid hI.2.1.1 hI.2.1.2.1 hI.2.1.2.2 hokb
          have hle := hcm _ _ _ _ _ hv
          have hm := hmo _ _ _ h
          have h9 := hI.2.2.1.2.2
          have hle2 := hle
          unfold xle at hm h9 hle2
          have hcells : xcnt σ - xcnt σ0 + (xcnt σ' - xcnt σ) ≤ R.cells ∧ xslt σ - xslt σ0 + (xslt σ' - xslt σ) ≤ R.slots := by omega
          have hroom : (xrm d (xcnt σ' - xcnt σ) (xslt σ' - xslt σ)).frames + 1 ≤ R.frames ∧ 8 + (mi.2.2.1 + 11) + (xrm d (xcnt σ' - xcnt σ) (xslt σ' - xslt σ)).locals ≤ R.locals := by
            exact ⟨hRf.1, xroom m5 hRf.2⟩
          have hcat : 2 * (F0 m pc M ((bs ++ rest).map (xv φ))).monitorRoom + ((rest.map (xv φ)).map fun v => v.category).sum ≤ 8 := by
            rw [xcat_map]
            show 2 * 0 + _ ≤ 8
            omega
          have hci : ci = 100 := by simpa using w6
          have hst : ((bs ++ rest).map (xv φ)) = (bs.reverse.map (xv φ)).reverse ++ rest.map (xv φ) := by simp
          have hnum : (bs.reverse.map (xv φ)).length = nn := by simp [hbl]
          have w5 : (parseMethodDescriptor mi.1.desc).map (fun d => d.parameters.length) = some nn := by simpa using w5
          have hwh : xwh mid = none := by
            cases hx : xwh mid with
            | none => rfl
            | some hh => rw [hx] at w4; simp at w4
          have hhd : xhd mid mi = .code mi.1 mi.2.1 mi.2.2.1 mi.2.2.2.1 := by unfold xhd; rw [hwh]
          have cw : CallB R s args y.cls idx mi.1 mi.2.1 mi.2.2.1 mi.2.2.2.1 (xhd mid mi :: xTl) (xrm d (xcnt σ' - xcnt σ) (xslt σ' - xslt σ)) (xcnt σ' - xcnt σ) (xslt σ' - xslt σ) nn ∧ (Cond.static mi.1).before args s = true :=
            ⟨callB_of nn C.2.1 (xgood hmi hmid) (by rw [hhd]) rfl rfl (C.2.1 _ m1) (C.2.1 _ w1) ⟨m3, m4, w5⟩ hroom, C.2.1 _ (xTb_in m2)⟩
          have hr := va_runS (below := below) (meth := meth) (e := e) (As := bs.reverse.map (xv φ)) (rest := rest.map (xv φ)) (g := F0 m pc M ((bs ++ rest).map (xv φ))) ⟨C.1.1, C.1.2.1, C.1.2.2.1, C.1.2.2.2, C.2.1⟩ hM cw ⟨xPc_blind, C.pre hI⟩ rfl hnum hI.2.2.2.1.1 hst hcat hd (locs := locs) hcells
          exact xrun_go hI hokr hle hr hk h
  · cases hMw

theorem xs_callW (C : xCt X φ0 L xs y cc n ret p R s m args meth c) {mid nn rt ci idx h0 : Nat} {mi : xN} (hmi : xn xinfo mid = some mi) (hw : xcw y.cls idx h0 [0, mid, nn, rt, ci] 4 = true) (hd : decode cc pc = .ok (.invokestatic idx, 3)) (hcf : xCs X L xs l cf d) (hcm : ∀ mid as σ v σ', cf mid as σ = some (v, σ') → xle σ σ') (hRf : d + 13 ≤ R.frames ∧ 64 * (d + 1) + 400 ≤ R.locals) (hmo : ∀ ls st σ, k ls st σ = some o → xle σ o.2) (hRb : xcnt o.2 - xcnt σ0 ≤ R.cells ∧ xslt o.2 - xslt σ0 ≤ R.slots) (hk : xGo X φ0 L xs σ0 n p l e R s m args below meth c Q o (pc + 3) k) : xGo X φ0 L xs σ0 n p l e R s m args below meth c Q o pc (fun ls st σ => xcall1 cf mid nn rt ci ls st σ k) := by
  intro φ ls st σ M H locs hI h
  have hw : xcwB y.cls idx h0 mid nn ci 4 = true := hw
  unfold xcwB at hw
  rw [hmi] at hw
  dsimp only at hw
  simp only [Bool.and_eq_true, Bool.not_eq_true', decide_eq_true_eq] at hw
  obtain ⟨⟨⟨⟨⟨w1, w2⟩, w3⟩, w4⟩, w5⟩, w6⟩ := hw
  have w1 := xTb_in w1
  have hmid : ¬ mid = 269 := by
    rintro rfl
    revert w3
    decide +kernel
  have hMw := xMwL_at 0 xinfo xflag xMw_all mid mi 4 hmi w3 (by decide)
  unfold xMw at hMw
  split at hMw
  · next h0 h1 h2 h3 _ =>
    simp only [Bool.and_eq_true, decide_eq_true_eq] at hMw
    obtain ⟨⟨⟨⟨⟨m1, m2⟩, m3⟩, m4⟩, m5⟩, m6⟩ := hMw
    have m1 := xTb_in m1
    replace h : xcall1 cf mid nn rt ci ls st σ k = some o := h
    unfold xcall1 at h
    have hP0 := xpop_inv _ _ _ _ _ h
    clear h
    obtain ⟨bs, rest, rfl, hbl, h⟩ := hP0
    rw [List.append_nil] at h
    cases hb : Nat.ble (xcat rest) 8 with
    | false => simp [hb] at h
    | true =>
      simp only [hb, cond_true] at h
      rw [Nat.ble_eq] at hb
      cases hrc : xrcv σ.1 ci bs.reverse with
      | false => simp [hrc] at h
      | true =>
        simp only [hrc, cond_true] at h
        rcases xret_cases rt (cf mid bs.reverse σ) with hn | ⟨v, σ', hv, hc⟩
        · rw [hn] at h; cases h
        · rw [hc] at h
          have hok : xok' σ.1.1.length (bs ++ rest) := hI.2.2.2.2.2
          have hokb : xok' σ.1.1.length bs.reverse := fun w hw => hok w (List.mem_append_left _ (List.mem_reverse.mp hw))
          have hokr : xok' σ.1.1.length rest := fun w hw => hok w (List.mem_append_right _ hw)
          have hM := hcf mid mi _ _ _ _ φ hv hmi w2 hmid hI.2.1.1 hI.2.1.2.1 hI.2.1.2.2 hokb
          have hle := hcm _ _ _ _ _ hv
          have hm := hmo _ _ _ h
          have h9 := hI.2.2.1.2.2
          have hle2 := hle
          unfold xle at hm h9 hle2
          have hcells : xcnt σ - xcnt σ0 + (xcnt σ' - xcnt σ) ≤ R.cells ∧ xslt σ - xslt σ0 + (xslt σ' - xslt σ) ≤ R.slots := by omega
          have hroom : (xrm d (xcnt σ' - xcnt σ) (xslt σ' - xslt σ)).frames + 1 ≤ R.frames ∧ 8 + (mi.2.2.1 + 11) + (xrm d (xcnt σ' - xcnt σ) (xslt σ' - xslt σ)).locals ≤ R.locals := by
            exact ⟨hRf.1, xroom m5 hRf.2⟩
          have hcat : 2 * (F0 m pc M ((bs ++ rest).map (xv φ))).monitorRoom + ((rest.map (xv φ)).map fun v => v.category).sum ≤ 8 := by
            rw [xcat_map]
            show 2 * 0 + _ ≤ 8
            omega
          have hci : ci = 100 := by simpa using w6
          have hst : ((bs ++ rest).map (xv φ)) = (bs.reverse.map (xv φ)).reverse ++ rest.map (xv φ) := by simp
          have hnum : (bs.reverse.map (xv φ)).length = nn := by simp [hbl]
          have w5 : (parseMethodDescriptor mi.1.desc).map (fun d => d.parameters.length) = some nn := by simpa using w5
          obtain ⟨hh, hwh⟩ : ∃ hh, xwh mid = some hh := by
            cases hx : xwh mid with
            | some hh => exact ⟨hh, rfl⟩
            | none => rw [hx] at w4; simp at w4
          have hhd : xhd mid mi = .codeWith mi.1 mi.2.1 mi.2.2.1 mi.2.2.2.1 hh := by unfold xhd; rw [hwh]
          have hG := xgood hmi hmid
          have cw : vx_CSW R s args y.cls idx mi.1 mi.2.1 mi.2.2.1 mi.2.2.2.1 hh (xhd mid mi :: xTl) (xrm d (xcnt σ' - xcnt σ) (xslt σ' - xslt σ)) (xcnt σ' - xcnt σ) (xslt σ' - xslt σ) nn :=
            ⟨⟨rfl, rfl, hroom.1, hroom.2, pay_in C.2.1 hG, by rw [hhd]; exact List.mem_cons_self⟩, by rw [← hhd]; exact C.2.1 _ (hG _ List.mem_cons_self).1, C.2.1 _ m1, ⟨m3, m4⟩, fun sig h => by rw [h] at w5; exact (Option.some.inj w5).symm, C.2.1 _ w1, C.2.1 _ (xTb_in m2)⟩
          have hr := vx_runSW (below := below) (meth := meth) (e := e) (As := bs.reverse.map (xv φ)) (rest := rest.map (xv φ)) (g := F0 m pc M ((bs ++ rest).map (xv φ))) ⟨C.1.1, C.1.2.1, C.1.2.2.1, C.1.2.2.2, C.2.1⟩ hM cw ⟨xPc_blind, C.pre hI⟩ rfl hnum hI.2.2.2.1.1 hst hcat hd (locs := locs) hcells
          exact xrun_go hI hokr hle hr hk h
  · cases hMw

theorem xs_callV (C : xCt X φ0 L xs y cc n ret p R s m args meth c) {mid nn rt ci idx h0 : Nat} {mi : xN} (hmi : xn xinfo mid = some mi) (hw : xcw y.cls idx h0 [0, mid, nn, rt, ci] 2 = true) (hd : decode cc pc = .ok (.invokevirtual idx, 3)) (hcf : xCs X L xs l cf d) (hcm : ∀ mid as σ v σ', cf mid as σ = some (v, σ') → xle σ σ') (hRf : d + 13 ≤ R.frames ∧ 64 * (d + 1) + 400 ≤ R.locals) (hmo : ∀ ls st σ, k ls st σ = some o → xle σ o.2) (hRb : xcnt o.2 - xcnt σ0 ≤ R.cells ∧ xslt o.2 - xslt σ0 ≤ R.slots) (hk : xGo X φ0 L xs σ0 n p l e R s m args below meth c Q o (pc + 3) k) : xGo X φ0 L xs σ0 n p l e R s m args below meth c Q o pc (fun ls st σ => xcall1 cf mid nn rt ci ls st σ k) := by
  intro φ ls st σ M H locs hI h
  have hw : xcwB y.cls idx h0 mid nn ci 2 = true := hw
  unfold xcwB at hw
  rw [hmi] at hw
  dsimp only at hw
  simp only [Bool.and_eq_true, Bool.not_eq_true', decide_eq_true_eq] at hw
  obtain ⟨⟨⟨⟨⟨w1, w2⟩, w3⟩, w4⟩, w5⟩, w6⟩ := hw
  have w1 := xTb_in w1
  have hmid : ¬ mid = 269 := by
    rintro rfl
    revert w3
    decide +kernel
  have hMw := xMwL_at 0 xinfo xflag xMw_all mid mi 2 hmi w3 (by decide)
  unfold xMw at hMw
  split at hMw
  · next h0 h1 h2 h3 _ =>
    simp only [Bool.and_eq_true, decide_eq_true_eq] at hMw
    obtain ⟨⟨⟨⟨⟨m1, m2⟩, m3⟩, m4⟩, m5⟩, m6⟩ := hMw
    have m1 := xTb_in m1
    replace h : xcall1 cf mid nn rt ci ls st σ k = some o := h
    unfold xcall1 at h
    have hP0 := xpop_inv _ _ _ _ _ h
    clear h
    obtain ⟨bs, rest, rfl, hbl, h⟩ := hP0
    rw [List.append_nil] at h
    cases hb : Nat.ble (xcat rest) 8 with
    | false => simp [hb] at h
    | true =>
      simp only [hb, cond_true] at h
      rw [Nat.ble_eq] at hb
      cases hrc : xrcv σ.1 ci bs.reverse with
      | false => simp [hrc] at h
      | true =>
        simp only [hrc, cond_true] at h
        rcases xret_cases rt (cf mid bs.reverse σ) with hn | ⟨v, σ', hv, hc⟩
        · rw [hn] at h; cases h
        · rw [hc] at h
          have hok : xok' σ.1.1.length (bs ++ rest) := hI.2.2.2.2.2
          have hokb : xok' σ.1.1.length bs.reverse := fun w hw => hok w (List.mem_append_left _ (List.mem_reverse.mp hw))
          have hokr : xok' σ.1.1.length rest := fun w hw => hok w (List.mem_append_right _ hw)
          have hM := hcf mid mi _ _ _ _ φ hv hmi w2 hmid hI.2.1.1 hI.2.1.2.1 hI.2.1.2.2 hokb
          have hle := hcm _ _ _ _ _ hv
          have hm := hmo _ _ _ h
          have h9 := hI.2.2.1.2.2
          have hle2 := hle
          unfold xle at hm h9 hle2
          have hcells : xcnt σ - xcnt σ0 + (xcnt σ' - xcnt σ) ≤ R.cells ∧ xslt σ - xslt σ0 + (xslt σ' - xslt σ) ≤ R.slots := by omega
          have hroom : (xrm d (xcnt σ' - xcnt σ) (xslt σ' - xslt σ)).frames + 1 ≤ R.frames ∧ 8 + (mi.2.2.1 + 11) + (xrm d (xcnt σ' - xcnt σ) (xslt σ' - xslt σ)).locals ≤ R.locals := by
            exact ⟨hRf.1, xroom m5 hRf.2⟩
          have hcat : 2 * (F0 m pc M ((bs ++ rest).map (xv φ))).monitorRoom + ((rest.map (xv φ)).map fun v => v.category).sum ≤ 8 := by
            rw [xcat_map]
            show 2 * 0 + _ ≤ 8
            omega
          have w6 : ((0 < nn ∧ ci < 13) ∧ xcc ci mi.1.cls = true) := by simpa [and_assoc] using w6
          obtain ⟨⟨hn0, hci⟩, w6⟩ := w6
          have w5 : (parseMethodDescriptor mi.1.desc).map (fun d => d.parameters.length) = some (nn - 1) := by simpa using w5
          have hwh : xwh mid = none := by
            cases hx : xwh mid with
            | none => rfl
            | some hh => rw [hx] at w4; simp at w4
          have hhd : xhd mid mi = .code mi.1 mi.2.1 mi.2.2.1 mi.2.2.2.1 := by unfold xhd; rw [hwh]
          obtain ⟨q, hq, hqc⟩ : ∃ q, vwCl[ci]? = some q ∧ q.1 = mi.1.cls := by
            unfold xcc at w6
            rw [xn_eq] at w6
            split at w6
            · next q e => exact ⟨q, e, of_decide_eq_true w6⟩
            · cases w6
          obtain ⟨ob, As, hbr, hrk⟩ := xrcv_obj hci hrc
          have hbs : bs = (.ref ob :: As).reverse := by rw [← hbr]; simp
          have e9 : ((Value.ref ob :: As).reverse).reverse = Value.ref ob :: As := List.reverse_reverse _
          subst hbs
          rw [e9] at hM hv hc hokb
          obtain ⟨a, ha, hca⟩ := xis_at hrk
          · have hst : (((.ref ob :: As).reverse ++ rest).map (xv φ)) = (As.map (xv φ)).reverse ++ .ref (φ ob) :: rest.map (xv φ) := by simp [xv]
            have hnum : (As.map (xv φ)).length = nn - 1 := by simp at hbl; simp; omega
            have he : (xw φ X.2.1 σ)[ob]? = some (φ ob, .inr (ci, xfs φ (σ.2.1 ob) (σ.2.2 ob) a)) := by rw [xw_at ha, xE_o (by omega), hca]
            have hB : CallB R s args y.cls idx mi.1 mi.2.1 mi.2.2.1 mi.2.2.2.1 (xhd mid mi :: xTl) (xrm d (xcnt σ' - xcnt σ) (xslt σ' - xslt σ)) (xcnt σ' - xcnt σ) (xslt σ' - xslt σ) (nn - 1) :=
              callB_of (nn - 1) C.2.1 (xgood hmi hmid) (by rw [hhd]) rfl rfl (C.2.1 _ m1) (C.2.1 _ w1) ⟨m3, m4, w5⟩ hroom
            have cw : CallW R s args y.cls mi.1.cls idx mi.1 mi.2.1 mi.2.2.1 mi.2.2.2.1 (xhd mid mi :: xTl) (xrm d (xcnt σ' - xcnt σ) (xslt σ' - xslt σ)) (xcnt σ' - xcnt σ) (xslt σ' - xslt σ) (nn - 1) :=
              ⟨hB, C.2.1 _ (xTb_in m2.1), C.2.1 _ (xTb_in m2.2)⟩
            have hr := va_runV (below := below) (meth := meth) (e := e) (As := As.map (xv φ)) (b := φ ob) (rest := rest.map (xv φ)) (g := F0 m pc M (((.ref ob :: As).reverse ++ rest).map (xv φ))) ⟨C.1.1, C.1.2.1, C.1.2.2.1, C.1.2.2.2, C.2.1⟩ hM cw ⟨xPc_blind, by rw [← hqc]; exact va_recv C.2.2.1 hI.1.1 hq he, C.pre hI⟩ rfl hnum hI.2.2.2.1.1 hst hcat hd (locs := locs) hcells
            exact xrun_go hI hokr hle hr hk h
  · cases hMw

theorem xs_callI (C : xCt X φ0 L xs y cc n ret p R s m args meth c) {mid nn rt ci idx h0 : Nat} {mi : xN} (hmi : xn xinfo mid = some mi) (hw : xcw y.cls idx h0 [0, mid, nn, rt, ci] 1 = true) (hd : decode cc pc = .ok (.invokespecial idx, 3)) (hnone : ∀ mid mi, xn xinfo mid = some mi → xn xflag mid = some 1 → mi.2.2.2.1 = none) (hcf : xCs X L xs l cf d) (hcm : ∀ mid as σ v σ', cf mid as σ = some (v, σ') → xle σ σ') (hRf : d + 13 ≤ R.frames ∧ 64 * (d + 1) + 400 ≤ R.locals) (hmo : ∀ ls st σ, k ls st σ = some o → xle σ o.2) (hRb : xcnt o.2 - xcnt σ0 ≤ R.cells ∧ xslt o.2 - xslt σ0 ≤ R.slots) (hk : xGo X φ0 L xs σ0 n p l e R s m args below meth c Q o (pc + 3) k) : xGo X φ0 L xs σ0 n p l e R s m args below meth c Q o pc (fun ls st σ => xcall1 cf mid nn rt ci ls st σ k) := by
  intro φ ls st σ M H locs hI h
  have hw : xcwB y.cls idx h0 mid nn ci 1 = true := hw
  unfold xcwB at hw
  rw [hmi] at hw
  dsimp only at hw
  simp only [Bool.and_eq_true, Bool.not_eq_true', decide_eq_true_eq] at hw
  obtain ⟨⟨⟨⟨⟨w1, w2⟩, w3⟩, w4⟩, w5⟩, w6⟩ := hw
  have w1 := xTb_in w1
  have hmid : ¬ mid = 269 := by
    rintro rfl
    revert w3
    decide +kernel
  have hMw := xMwL_at 0 xinfo xflag xMw_all mid mi 1 hmi w3 (by decide)
  unfold xMw at hMw
  split at hMw
  · next h0 h1 h2 h3 _ =>
    simp only [Bool.and_eq_true, decide_eq_true_eq] at hMw
    obtain ⟨⟨⟨⟨⟨m1, m2⟩, m3⟩, m4⟩, m5⟩, m6⟩ := hMw
    have m1 := xTb_in m1
    replace h : xcall1 cf mid nn rt ci ls st σ k = some o := h
    unfold xcall1 at h
    have hP0 := xpop_inv _ _ _ _ _ h
    clear h
    obtain ⟨bs, rest, rfl, hbl, h⟩ := hP0
    rw [List.append_nil] at h
    cases hb : Nat.ble (xcat rest) 8 with
    | false => simp [hb] at h
    | true =>
      simp only [hb, cond_true] at h
      rw [Nat.ble_eq] at hb
      cases hrc : xrcv σ.1 ci bs.reverse with
      | false => simp [hrc] at h
      | true =>
        simp only [hrc, cond_true] at h
        rcases xret_cases rt (cf mid bs.reverse σ) with hn | ⟨v, σ', hv, hc⟩
        · rw [hn] at h; cases h
        · rw [hc] at h
          have hok : xok' σ.1.1.length (bs ++ rest) := hI.2.2.2.2.2
          have hokb : xok' σ.1.1.length bs.reverse := fun w hw => hok w (List.mem_append_left _ (List.mem_reverse.mp hw))
          have hokr : xok' σ.1.1.length rest := fun w hw => hok w (List.mem_append_right _ hw)
          have hM := hcf mid mi _ _ _ _ φ hv hmi w2 hmid hI.2.1.1 hI.2.1.2.1 hI.2.1.2.2 hokb
          have hle := hcm _ _ _ _ _ hv
          have hm := hmo _ _ _ h
          have h9 := hI.2.2.1.2.2
          have hle2 := hle
          unfold xle at hm h9 hle2
          have hcells : xcnt σ - xcnt σ0 + (xcnt σ' - xcnt σ) ≤ R.cells ∧ xslt σ - xslt σ0 + (xslt σ' - xslt σ) ≤ R.slots := by omega
          have hroom : (xrm d (xcnt σ' - xcnt σ) (xslt σ' - xslt σ)).frames + 1 ≤ R.frames ∧ 8 + (mi.2.2.1 + 11) + (xrm d (xcnt σ' - xcnt σ) (xslt σ' - xslt σ)).locals ≤ R.locals := by
            exact ⟨hRf.1, xroom m5 hRf.2⟩
          have hcat : 2 * (F0 m pc M ((bs ++ rest).map (xv φ))).monitorRoom + ((rest.map (xv φ)).map fun v => v.category).sum ≤ 8 := by
            rw [xcat_map]
            show 2 * 0 + _ ≤ 8
            omega
          have w6 : ((0 < nn ∧ ci < 13) ∧ xcc ci mi.1.cls = true) := by simpa [and_assoc] using w6
          obtain ⟨⟨hn0, hci⟩, w6⟩ := w6
          have w5 : (parseMethodDescriptor mi.1.desc).map (fun d => d.parameters.length) = some (nn - 1) := by simpa using w5
          have hwh : xwh mid = none := by
            cases hx : xwh mid with
            | none => rfl
            | some hh => rw [hx] at w4; simp at w4
          have hhd : xhd mid mi = .code mi.1 mi.2.1 mi.2.2.1 mi.2.2.2.1 := by unfold xhd; rw [hwh]
          obtain ⟨q, hq, hqc⟩ : ∃ q, vwCl[ci]? = some q ∧ q.1 = mi.1.cls := by
            unfold xcc at w6
            rw [xn_eq] at w6
            split at w6
            · next q e => exact ⟨q, e, of_decide_eq_true w6⟩
            · cases w6
          obtain ⟨ob, As, hbr, hrk⟩ := xrcv_obj hci hrc
          have hbs : bs = (.ref ob :: As).reverse := by rw [← hbr]; simp
          have e9 : ((Value.ref ob :: As).reverse).reverse = Value.ref ob :: As := List.reverse_reverse _
          subst hbs
          rw [e9] at hM hv hc hokb
          obtain ⟨a, ha, hca⟩ := xis_at hrk
          · have hst : (((.ref ob :: As).reverse ++ rest).map (xv φ)) = (As.map (xv φ)).reverse ++ .ref (φ ob) :: rest.map (xv φ) := by simp [xv]
            have hnum : (As.map (xv φ)).length = nn - 1 := by simp at hbl; simp; omega
            have he : (xw φ X.2.1 σ)[ob]? = some (φ ob, .inr (ci, xfs φ (σ.2.1 ob) (σ.2.2 ob) a)) := by rw [xw_at ha, xE_o (by omega), hca]
            have hB : CallB R s args y.cls idx mi.1 mi.2.1 mi.2.2.1 mi.2.2.2.1 (xhd mid mi :: xTl) (xrm d (xcnt σ' - xcnt σ) (xslt σ' - xslt σ)) (xcnt σ' - xcnt σ) (xslt σ' - xslt σ) (nn - 1) :=
              callB_of (nn - 1) C.2.1 (xgood hmi hmid) (by rw [hhd]) rfl rfl (C.2.1 _ m1) (C.2.1 _ w1) ⟨m3, m4, w5⟩ hroom
            have hret : mi.2.2.2.1 = none := by
              have := hnone
              exact this mid mi hmi w3
            rw [hret] at hB
            have cw : CallB R s args y.cls idx mi.1 mi.2.1 mi.2.2.1 none (xhd mid mi :: xTl) (xrm d (xcnt σ' - xcnt σ) (xslt σ' - xslt σ)) (xcnt σ' - xcnt σ) (xslt σ' - xslt σ) (nn - 1) ∧ mi.1.name = "<init>" ∧ (Cond.instanceMethod mi.1).before args s = true :=
              ⟨hB, m2.2, C.2.1 _ (xTb_in m2.1)⟩
            have hr := va_runI (below := below) (meth := meth) (e := e) (As := As.map (xv φ)) (b := φ ob) (rest := rest.map (xv φ)) (g := F0 m pc M (((.ref ob :: As).reverse ++ rest).map (xv φ))) ⟨C.1.1, C.1.2.1, C.1.2.2.1, C.1.2.2.2, C.2.1⟩ hM cw ⟨xPc_blind, C.pre hI⟩ rfl hnum hI.2.2.2.1.1 hst hcat hd (locs := locs) hcells
            exact xrun_go hI hokr hle hr hk h
  · cases hMw

end XS6
