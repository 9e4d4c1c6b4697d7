/-! Methods that throw, and the law's own that catch. -/
def xNSE : String := "java/util/NoSuchElementException"
def xXc (X : xX) (φ : Nat → Nat) (L : Nat) (xs : Nat → Int32) (σ : xS) (v : Option Value) (σ' : xS) : String → State → State → Prop := fun E st t => v = some xT ∧ E = xNSE ∧ (∃ φ' : Nat → Nat, (∀ q, xld σ.1.1.length q → φ' q = φ q) ∧ va_P X.1 vwCl (xw φ' X.2.1 σ') t.heap ∧ va_D (xA X) (xw φ' X.2.1 σ')) ∧ xPo L xs σ none σ' ∧ va_F (xA X) st t
def xQt (X : xX) (φ : Nat → Nat) (L : Nat) (xs : Nat → Int32) (σ : xS) (v : Option Value) (σ' : xS) : Array Value → State → Outcome → State → Prop := fun a st oc t => xQc X φ L xs σ v σ' a st oc t ∧ v ≠ some xT
def xtws : List Cond := vx_at0 RX11 147 xNSE ["java/lang/RuntimeException", "java/lang/Exception"]
theorem xtw_ot : ∀ w ∈ Cond.classLink RX11 145 xNSE :: Cond.initialized xNSE :: xtws, vx_ot w = true := by
  have h : (Cond.classLink RX11 145 xNSE :: Cond.initialized xNSE :: xtws).all vx_ot = true := by decide +kernel
  exact List.all_eq_true.mp h
theorem xtw_c : Cond.classLink RX11 145 xNSE ∈ xTl := xTb_in (k := 5301) (by decide +kernel)
theorem xtw_i : Cond.initialized xNSE ∈ xTl := xTb_in (k := 1043) (by decide +kernel)
theorem xtws_rest : ∀ w ∈ xtws.filter (fun w => !goodWord w), w ∈ [.castable xNSE xNSE, .declares (Bundle.init0 "java/lang/RuntimeException"), .declares (Bundle.init0 "java/lang/Exception"), .declares (Bundle.init0 Bundle.tN)] := by decide +kernel
theorem xtws_in : ∀ w ∈ xtws.filter goodWord, w ∈ xTl := xuw_in _ [1040, 5323, 5332, 5334, 5337, 5339, 5324, 5325, 1055, 1056, 5326, 5331, 5335, 5351, 5313, 5352, 5315, 5353, 5317, 5327, 5329, 5319, 5341, 5342, 5343, 5344, 5344, 5345, 5346, 5347, 5347, 5348, 5349, 5324, 5340, 5302, 5310, 5311, 5312, 5314, 5316, 5318, 5322, 5321, 5320] (by decide +kernel)
section XN
variable {X : xX} {φ : Nat → Nat} {L : Nat} {xs : Nat → Int32} {σ : xS} {p : Program} {l : Launch} {e : Env} {R : Room} {s : State} {m : MethodId} {args : Array Value} {below : List Frame} {meth : Method} {c : Code} {Q : State → Prop} {cf : xCF} {d : Nat} {mi : xN} {BM : List xB} {as : List Value}
theorem xthrow_W {y : MethodName} {cc : ByteArray} {n : Nat} {ret : Option FieldType} {v : Option Value} {σ' : xS} (C : xCt X φ L xs y cc n ret p R s m args meth c) (hcls : y.cls = RX11) (hl : l.stackTraces = false) (htab : ∀ x ∈ c.exceptionTable.toList, False) (hw : ∀ w ∈ xtws, w.before args s = true) (w1 : Cond.classLink RX11 145 xNSE ∈ xTl) (w2 : Cond.initialized xNSE ∈ xTl) (hRb : xcnt σ' - xcnt σ ≤ R.cells ∧ xslt σ' - xslt σ ≤ R.slots) :
    xTh X φ L xs σ n p l e R s m args below meth c (vx_MQ below (xQt X φ L xs σ v σ') (xXc X φ L xs σ v σ') args s (xcnt σ' - xcnt σ) (xslt σ' - xslt σ) (xA X)) (v, σ') cc := by
  intro φ' ls st σ1 M H locs pc hI ho hd hx hcat
  cases ho
  simp only [xtw, Bool.and_eq_true, decide_eq_true_eq] at hx
  obtain ⟨⟨⟨-, d3⟩, d4⟩, d7⟩ := hx
  have hle := hI.2.2.1.2.2
  unfold xle at hle
  have ec : xcnt (((σ1.1.1, σ1.1.2.1 + 1, σ1.1.2.2), σ1.2) : xS) = xcnt σ1 + 1 := by simp only [xcnt]; omega
  have es : xslt (((σ1.1.1, σ1.1.2.1 + 1, σ1.1.2.2), σ1.2) : xS) = xslt σ1 + 6 := by simp only [xslt]; omega
  rw [ec, es] at hRb ⊢
  have hR := C.2.2.2.2.2.2
  refine vx_throw0 (names := ["java/lang/RuntimeException", "java/lang/Exception"]) (ic := 147) (A := xA X) C.1.1 C.1.2.1 hl (own := RX11) (by rw [← hcls]; exact C.1.2.2.2) (by decide +kernel) (by decide +kernel) (C.2.1 _ w1) (C.2.1 _ w2) hw xtw_ot C.2.2.2.1.2.2.2.1.1 C.2.2.2.1.2.2.2.1.2 hI.1.2.2 (hI.2.2.2.1.1.trans C.1.2.2.1.symm) hd d3 d4 d7 (fun x hx => (htab x hx).elim) ?_ ?_ (by omega) (by omega) C.2.2.2.2.2.1.2.1 ?_ hI.1.2.2.2.2 (by omega) (by omega)
  · show 2 + 3 < R.frames
    omega
  · rw [xcat_map]
    show _ + (13 * (2 + 1) + 42) ≤ _
    omega
  · intro t hA hsz hkeep
    refine ⟨rfl, rfl, ⟨φ', hI.2.2.1.1, ?_, hI.1.2.1⟩, ⟨⟨hI.2.1.1.1, hI.2.1.1.2⟩, hI.2.1.2.1, hI.2.1.2.2, hI.2.2.1.2.1, ⟨by rw [ec]; omega, by rw [es]; omega⟩, fun w hw => by cases hw⟩, ?_⟩
    · exact hI.1.1.kept (fun k q hq => hkeep q.1 ((hI.1.1 k q hq).lt))
    · exact ⟨Nat.le_trans hI.1.2.2.1 hsz, fun q h1 h2 => (hkeep q (Nat.lt_of_lt_of_le h1 hI.1.2.2.1)).trans (hI.1.2.2.2.1 q h1 h2)⟩
theorem xrett_W {y : MethodName} {cc : ByteArray} {n : Nat} {ret : Option FieldType} {v : Option Value} {σ' : xS} (C : xCt X φ L xs y cc n ret p R s m args meth c) : xRt X φ L xs σ n p l e R s m args below meth c (vx_MQ below (xQt X φ L xs σ v σ') (xXc X φ L xs σ v σ') args s (xcnt σ' - xcnt σ) (xslt σ' - xslt σ) (xA X)) (v, σ') cc ret := by
  intro φ' ls v0 σ1 M H locs pc hI hv ho hrk
  cases ho
  have hne : v ≠ some xT := by
    rcases hrk with ⟨-, x, rfl, -⟩ | ⟨-, ⟨x, rfl⟩, -⟩ | ⟨-, ⟨x, rfl⟩, -⟩ | ⟨-, rfl, -⟩ <;> (intro h; cases h)
  have hw := xret_W (l := l) (e := e) (below := below) (σ := σ) (v := v) (σ' := σ') C φ' ls v σ' M H locs pc hI hv rfl hrk
  intro T hT XS
  obtain ⟨t, a1, oc, b1, b2, b3, b4⟩ := hw T hT XS
  exact ⟨t, a1, oc, b1, b2, Or.inl ⟨⟨b3, hne⟩, b4⟩⟩
theorem xmet_thr {mid : Nat} {v : Option Value} {σ' : xS} (hl : l.stackTraces = false) (hcls : mi.1.cls = RX11) (hM : xMl true mi 0 BM = true) (hst : xn mi.2.2.2.2.1 0 = some 0) (hwh : xwh mid = none) (hcf : xCs X L xs l cf d) (hcm : ∀ mid as σ v σ', cf mid as σ = some (v, σ') → xle σ σ')
    (hwf : xwf σ) (hL : σ.1.2.2 = L) (hxs : σ.2.1 1000000 = xs) (hok : xok' σ.1.1.length as) (hlen : (xargs as).length ≤ mi.2.2.1) (h : xlim cf BM 0 (xent mi.2.2.1 as) [] σ = some (v, σ')) :
    vx_Met l mi.1 (xhd mid mi :: xTl) (xrm (d + 1) (xcnt σ' - xcnt σ) (xslt σ' - xslt σ)) (xPc X φ L xs as σ) (xQt X φ L xs σ v σ') (xXc X φ L xs σ v σ') (xcnt σ' - xcnt σ) (xslt σ' - xslt σ) (xA X) := by
  have hhd : xhd mid mi = .code mi.1 mi.2.1 mi.2.2.1 mi.2.2.2.1 := by unfold xhd; rw [hwh]
  refine vx_ofW (cc := mi.2.1) (maxL := mi.2.2.1) (ret := mi.2.2.2.1) (by rw [hcls]; decide +kernel) (by rw [hhd]) ?_
  intro p e s m args below meth c s₁ B hml htab hp
  have C := xct_of B hml (fun w hw => List.mem_cons_of_mem _ hw) ⟨by show 12 ≤ d + 1 + 12; omega, by show 400 ≤ 64 * (d + 1) + 400; omega⟩ hp
  obtain ⟨h1, h2, h3, h4, h5, h6⟩ := hp
  subst h1
  have hnw := h6.2.2.2.2.2.2.1
  have hw : ∀ w ∈ xtws, w.before ((as.map (xv φ)).toArray) s = true := by
    refine vx_hat (B := [.castable xNSE xNSE, .declares (Bundle.init0 "java/lang/RuntimeException"), .declares (Bundle.init0 "java/lang/Exception"), .declares (Bundle.init0 Bundle.tN)]) (fun w hw => C.2.1 _ (xtws_in w hw)) xtws_rest ?_
    exact vx_c (va_Nw.use rfl hnw.1) (vx_c (va_Nw.use rfl hnw.2.1) (vx_c (va_Nw.use rfl hnw.2.2.1) (vx_c (va_Nw.use rfl hnw.2.2.2) vx_n)))
  exact xbody_W hM hst C hcf hcm ⟨by show d + 13 ≤ d + 1 + 12; omega, Nat.le_refl _⟩ ⟨Nat.le_refl _, Nat.le_refl _⟩ hwf hL hxs hok hlen h3 h5 h (xrett_W C) (fun _ => xthrow_W C hcls hl htab hw xtw_c xtw_i ⟨Nat.le_refl _, Nat.le_refl _⟩)
end XN
