/-! Methods: contracts out of the interpreter's answers. -/
theorem xargs_len {φ : Nat → Nat} : ∀ (as : List Value), (xargs as).length = (lg_sl (as.map (xv φ))).length
  | [] => rfl
  | v :: as => by
    have ih := xargs_len (φ := φ) as
    cases v <;> simp [xargs, lg_sl, xv, Value.category, ih] <;> simp [lg_sl] at ih <;> omega
theorem xargs_at {φ : Nat → Nat} : ∀ (as : List Value) (b i : Nat) (w : Value), (xargs as)[i]? = some w → (∀ f, w ≠ .float f) → (b + i, xv φ w) ∈ lv_args b (as.map (xv φ))
  | [], b, i, w, h, _ => by cases h
  | v :: as, b, i, w, h, hf => by
    have one : (∀ j, xargs (v :: as) = v :: xargs as → i = j + 1 → v.category = 1 → (b + i, xv φ w) ∈ lv_args b ((v :: as).map (xv φ))) := by
      intro j e hj hc
      rw [e, hj, List.getElem?_cons_succ] at h
      have h1 := xargs_at (φ := φ) as (b + 1) j w h hf
      rw [List.map_cons, lv_args, xv_cat, if_neg (by omega), hj, show b + (j + 1) = b + 1 + j by omega]
      exact List.mem_cons_of_mem _ h1
    cases v with
    | long x =>
      match i, h with
      | 0, h => cases h; exact List.mem_cons_self
      | 1, h => cases h; exact absurd rfl (hf _)
      | j + 2, h =>
        have h1 := xargs_at (φ := φ) as (b + 2) j w h hf
        rw [show b + (j + 2) = b + 2 + j by omega]
        exact List.mem_cons_of_mem _ h1
    | double x =>
      match i, h with
      | 0, h => cases h; exact List.mem_cons_self
      | 1, h => cases h; exact absurd rfl (hf _)
      | j + 2, h =>
        have h1 := xargs_at (φ := φ) as (b + 2) j w h hf
        rw [show b + (j + 2) = b + 2 + j by omega]
        exact List.mem_cons_of_mem _ h1
    | int x =>
      cases i with
      | zero => cases h; exact List.mem_cons_self
      | succ j => exact one j rfl rfl rfl
    | float x =>
      cases i with
      | zero => cases h; exact List.mem_cons_self
      | succ j => exact one j rfl rfl rfl
    | null =>
      cases i with
      | zero => cases h; exact List.mem_cons_self
      | succ j => exact one j rfl rfl rfl
    | ref x =>
      cases i with
      | zero => cases h; exact List.mem_cons_self
      | succ j => exact one j rfl rfl rfl
    | retAddr x =>
      cases i with
      | zero => cases h; exact List.mem_cons_self
      | succ j => exact one j rfl rfl rfl
theorem xfit_len : ∀ (n : Nat) (l : List Value), (xfit n l).length = n
  | 0, l => by cases l <;> rfl
  | n + 1, [] => by simp [xfit, xfit_len n]
  | n + 1, v :: l => by simp [xfit, xfit_len n]
theorem xfit_at : ∀ (n : Nat) (l : List Value) (i : Nat) (w : Value), (xfit n l)[i]? = some w → l[i]? = some w ∨ w = xD
  | 0, l, i, w, h => by cases l <;> cases h
  | n + 1, [], 0, w, h => by cases h; exact Or.inr rfl
  | n + 1, [], i + 1, w, h => by
    rcases xfit_at n [] i w h with g | g
    · cases g
    · exact Or.inr g
  | n + 1, v :: l, 0, w, h => by cases h; exact Or.inl rfl
  | n + 1, v :: l, i + 1, w, h => by
    have := xfit_at n l i w (by simpa [xfit] using h)
    simpa using this
theorem xargs_mem : ∀ (as : List Value) (w : Value), w ∈ xargs as → w ∈ as ∨ w = xD
  | [], w, h => by cases h
  | v :: as, w, h => by
    have ih := xargs_mem as w
    have two : w = v ∨ w = xD ∨ w ∈ xargs as → w ∈ v :: as ∨ w = xD := by
      intro h
      rcases h with h | h | h
      · rw [h]; exact Or.inl List.mem_cons_self
      · exact Or.inr h
      · rcases ih h with g | g
        · exact Or.inl (List.mem_cons_of_mem _ g)
        · exact Or.inr g
    have one : w = v ∨ w ∈ xargs as → w ∈ v :: as ∨ w = xD := fun h => two (h.elim Or.inl (fun g => Or.inr (Or.inr g)))
    cases v with
    | long x => exact two (by simpa [xargs] using h)
    | double x => exact two (by simpa [xargs] using h)
    | int x => exact one (by simpa [xargs] using h)
    | float x => exact one (by simpa [xargs] using h)
    | null => exact one (by simpa [xargs] using h)
    | ref x => exact one (by simpa [xargs] using h)
    | retAddr x => exact one (by simpa [xargs] using h)
theorem xent_lr {φ : Nat → Nat} {as : List Value} {n : Nat} (h : (xargs as).length ≤ n) : xlr φ (xent n as) ((lg_sl (as.map (xv φ)) ++ List.replicate (n - (lg_sl (as.map (xv φ))).length) Slot.unset).toArray) n := by
  have hl := lv_entry (as.map (xv φ)) (n := n) (by rw [← xargs_len]; exact h)
  refine ⟨hl.1, hl.2.1, xfit_len _ _, fun i w hw hf => ?_⟩
  rcases xfit_at _ _ _ _ hw with g | g
  · have := xargs_at (φ := φ) as 0 i w g hf
    rw [Nat.zero_add] at this
    exact hl.2.2 _ this
  · exact absurd g (hf _)
theorem xent_ok {as : List Value} {n k : Nat} (h : xok' k as) : xok' k (xent n as) := by
  intro w hw
  obtain ⟨i, hi⟩ := List.getElem?_of_mem hw
  rcases xfit_at _ _ _ _ hi with g | g
  · rcases xargs_mem _ _ (List.mem_of_getElem? g) with q | q
    · exact h w q
    · rw [q]; exact xvd_f
  · rw [g]; exact xvd_f
section XM
variable {X : xX} {φ : Nat → Nat} {L : Nat} {xs : Nat → Int32} {σ : xS} {p : Program} {l : Launch} {e : Env} {R : Room} {s : State} {m : MethodId} {args : Array Value} {below : List Frame} {meth : Method} {c : Code} {Q : State → Prop} {o : xOut} {cf : xCF} {d : Nat} {mi : xN} {BM : List xB} {thr : Bool} {as : List Value}
theorem xbody_W (hM : xMl thr mi 0 BM = true) (hst : xn mi.2.2.2.2.1 0 = some 0) (C : xCt X φ L xs mi.1 mi.2.1 mi.2.2.1 mi.2.2.2.1 p R s m args meth c) (hcf : xCs X L xs l cf d) (hcm : ∀ mid as σ v σ', cf mid as σ = some (v, σ') → xle σ σ') (hRf : d + 13 ≤ R.frames ∧ 64 * (d + 1) + 400 ≤ R.locals) (hRb : xcnt o.2 - xcnt σ ≤ R.cells ∧ xslt o.2 - xslt σ ≤ R.slots)
    (hwf : xwf σ) (hL : σ.1.2.2 = L) (hxs : σ.2.1 1000000 = xs) (hok : xok' σ.1.1.length as) (hlen : (xargs as).length ≤ mi.2.2.1) (hP : va_P X.1 vwCl (xw φ X.2.1 σ) s.heap) (hD : va_D (xA X) (xw φ X.2.1 σ)) (h : xlim cf BM 0 (xent mi.2.2.1 as) [] σ = some o)
    (hRet : xRt X φ L xs σ mi.2.2.1 p l e R s m args below meth c Q o mi.2.1 mi.2.2.2.1) (hThr : thr = true → xTh X φ L xs σ mi.2.2.1 p l e R s m args below meth c Q o mi.2.1) : W p l e R s m args below meth c s.heap [] 0 0 Q (entryFrame m (as.map (xv φ)).toArray mi.2.2.1) := by
  obtain ⟨k, hk⟩ := xlim_some h
  have hg := xloop_go hM C hcf hcm hRf hRb hRet hThr k 0 0 hst φ (xent mi.2.2.1 as) [] σ _ s.heap [] ⟨⟨hP, hD, va_S.rf⟩, ⟨hwf, hL, hxs⟩, ⟨fun q _ => rfl, Nat.le_refl _, xle_r σ⟩, xent_lr hlen, xent_ok hok, fun _ h => by cases h⟩ hk
  rw [Nat.sub_self, Nat.sub_self] at hg
  rw [lg_entry_eq]
  exact hg
theorem xret_W {y : MethodName} {cc : ByteArray} {n : Nat} {ret : Option FieldType} {v : Option Value} {σ' : xS} (C : xCt X φ L xs y cc n ret p R s m args meth c) : xRt X φ L xs σ n p l e R s m args below meth c (MQ below (xQc X φ L xs σ v σ') args s (xcnt σ' - xcnt σ) (xslt σ' - xslt σ) (xA X)) (v, σ') cc ret := by
  intro φ' ls v0 σ1 M H locs pc hI hv ho hrk
  cases ho
  have hq : ∀ t : State, t.heap = H → s.WarmedH t.vm → xQc X φ L xs σ v σ' args s (.returned (v.map (xv φ'))) t := fun t ht _ => ⟨⟨φ', hI.2.2.1.1, rfl, by rw [ht]; exact hI.1.1, hI.1.2.1⟩, ⟨hI.2.1.1, hI.2.1.2.1, hI.2.1.2.2, hI.2.2.1.2.1, hI.2.2.1.2.2, hv⟩, hI.1.2.2.F ht⟩
  have hf : ∀ q ∈ locs, xA X q.base := hI.1.2.2.2.2
  have hr := C.2.2.2.2.2.1.1
  have hlk := C.2.2.2.2.2.1.2.1
  rcases hrk with ⟨hd, x, rfl, h1 | ⟨h1, h2⟩⟩ | ⟨hd, ⟨x, rfl⟩, h1⟩ | ⟨hd, ⟨q, rfl⟩, h1⟩ | ⟨hd, rfl, h1⟩
  · exact W.iret C.1.1 C.1.2.1 (by rw [hr]; exact h1) hq hf hd (hlocks := hlk)
  · exact W.zret (ty := .boolean) C.1.1 C.1.2.1 (by rw [hr]; exact h1) (by rcases h2 with rfl | rfl <;> rfl) hq hf hd (hlocks := hlk)
  · exact W.lret C.1.1 C.1.2.1 (by rw [hr]; exact h1) hq hf hd (hlocks := hlk)
  · rcases h1 with ⟨t, h1⟩ | ⟨t, h1⟩
    · exact W.aret C.1.1 C.1.2.1 (rt := .object t) (by rw [hr]; exact h1) (Or.inl ⟨_, rfl⟩) (Or.inr ⟨_, rfl⟩) hq hf hd (hlocks := hlk)
    · exact W.aret C.1.1 C.1.2.1 (rt := .array t) (by rw [hr]; exact h1) (Or.inr ⟨_, rfl⟩) (Or.inr ⟨_, rfl⟩) hq hf hd (hlocks := hlk)
  · exact W.vret C.1.1 C.1.2.1 (by rw [hr]; exact h1) hq hf hd (hlocks := hlk)
theorem xct_of {ws : List Cond} {rm : Room} {y : MethodName} {cc : ByteArray} {n : Nat} {ret : Option FieldType} {s₁ : State} (B : BodyLoose p l y (headSpec ws rm) cc n ret e s m args below meth c s₁) (hml : c.maxLocals = n) (hws : ∀ w ∈ xTl, w ∈ ws) (hr : 12 ≤ rm.frames ∧ 400 ≤ rm.locals) (hp : xPc X φ L xs as σ args s) : xCt X φ L xs y cc n ret p (headSpec ws rm).room s m args meth c := by
  obtain ⟨h1, h2, h3, h4, h5, h6⟩ := hp
  have hts := atoms_spec (ws := ws) B.pre
  exact ⟨⟨B.exec, B.bytes, hml, findClass_of_methodNamed B.named⟩, fun w hw => hts w (hws w hw), h4, h6, h2, ⟨B.returns, B.notSynchronized, fun _ => (name_of_methodNamed B.named B.method).1⟩, hr⟩
theorem xmet_code {mid : Nat} {v : Option Value} {σ' : xS} (hM : xMl false mi 0 BM = true) (hst : xn mi.2.2.2.2.1 0 = some 0) (hy : plainName mi.1.cls = true) (hwh : xwh mid = none) (hcf : xCs X L xs l cf d) (hcm : ∀ mid as σ v σ', cf mid as σ = some (v, σ') → xle σ σ')
    (hwf : xwf σ) (hL : σ.1.2.2 = L) (hxs : σ.2.1 1000000 = xs) (hok : xok' σ.1.1.length as) (hlen : (xargs as).length ≤ mi.2.2.1) (h : xlim cf BM 0 (xent mi.2.2.1 as) [] σ = some (v, σ')) :
    Met l mi.1 (xhd mid mi :: xTl) (xrm (d + 1) (xcnt σ' - xcnt σ) (xslt σ' - xslt σ)) (xPc X φ L xs as σ) (xQc X φ L xs σ v σ') (xcnt σ' - xcnt σ) (xslt σ' - xslt σ) (xA X) := by
  have hhd : xhd mid mi = .code mi.1 mi.2.1 mi.2.2.1 mi.2.2.2.1 := by unfold xhd; rw [hwh]
  refine Met.ofW (cc := mi.2.1) (maxL := mi.2.2.1) (ret := mi.2.2.2.1) hy (by rw [hhd]) ?_
  intro p e s m args below meth c s₁ B hml hp
  have C := xct_of B hml (fun w hw => List.mem_cons_of_mem _ hw) ⟨by show 12 ≤ d + 1 + 12; omega, by show 400 ≤ 64 * (d + 1) + 400; omega⟩ hp
  obtain ⟨h1, h2, h3, h4, h5, h6⟩ := hp
  subst h1
  exact xbody_W hM hst C hcf hcm ⟨by show d + 13 ≤ d + 1 + 12; omega, Nat.le_refl _⟩ ⟨Nat.le_refl _, Nat.le_refl _⟩ hwf hL hxs hok hlen h3 h5 h (xret_W C) (fun q => by cases q)
end XM
