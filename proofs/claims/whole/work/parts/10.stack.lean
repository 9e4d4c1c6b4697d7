/-! What the interpreter does, the machine does: contexts, and instructions over stack and locals. -/
def xA (X : xX) : Nat → Prop := fun q => X.2.2 ≤ q
/-- words of the tables that are kept, but not by the kit's own rule -/
def xNw (U : State) : Prop := va_Nw (.castable "java/util/NoSuchElementException" "java/util/NoSuchElementException") U ∧ va_Nw (.declares (Bundle.init0 "java/lang/RuntimeException")) U ∧ va_Nw (.declares (Bundle.init0 "java/lang/Exception")) U ∧ va_Nw (.declares (Bundle.init0 Bundle.tN)) U
/-- what lay in the heap before the law began -/
def xZ (X : xX) (φ : Nat → Nat) (L : Nat) (xs : Nat → Int32) (U : State) (H : Heap) : Prop :=
  (va_X (φ 1000000) L xs U H ∧ φ 1000000 < X.2.2 ∧ L < 2 ^ 31) ∧ (va_T .long (φ 1000001) 21 (fun j => .long (xwd j)) (xA X) U H ∧ va_Z "FinalLinks$Tokens" "WORDS" "[J" (.ref (φ 1000001)) (xA X) U H) ∧
  (vk_R RX11 328 " from " (φ 1000002) U ∧ vk_R RX11 337 " to " (φ 1000003) U ∧ ∃ adV : Nat → Nat, vk_S 2 [6, 4] [[32, 102, 114, 111, 109, 32], [32, 116, 111, 32]] (fun i => φ (1000002 + i)) adV (xA X) U H) ∧
  (vx_Zq Bundle.tN "UNASSIGNED_STACK" Bundle.steD (xA X) U H ∧ vx_Zq Bundle.tN "SUPPRESSED_SENTINEL" Bundle.listD (xA X) U H) ∧ (va_AO RX8 U ∧ (Cond.arrayOver (.array .int)).before #[] U = true ∧ xNw U ∧ va_Z "java/lang/String" "COMPACT_STRINGS" "Z" (.int 1) (xA X) U H ∧ va_Zq "jdk/internal/util/Preconditions" "SIOOBE_FORMATTER" "Ljava/util/function/BiFunction;" (xA X) U H)
def xIv (X : xX) (φ0 : Nat → Nat) (L : Nat) (xs : Nat → Int32) (σ0 : xS) (n : Nat) (s : State) (φ : Nat → Nat) (ls st : List Value) (σ : xS) (M : Array Slot) (H : Heap) (locs : List Loc) : Prop :=
  (va_P X.1 vwCl (xw φ X.2.1 σ) H ∧ va_D (xA X) (xw φ X.2.1 σ) ∧ va_S (xA X) s.heap H locs) ∧ (xwf σ ∧ σ.1.2.2 = L ∧ σ.2.1 1000000 = xs) ∧ ((∀ q, xld σ0.1.1.length q → φ q = φ0 q) ∧ σ0.1.1.length ≤ σ.1.1.length ∧ xle σ0 σ) ∧ (xlr φ ls M n ∧ xok' σ.1.1.length ls ∧ xok' σ.1.1.length st)
def xGo (X : xX) (φ0 : Nat → Nat) (L : Nat) (xs : Nat → Int32) (σ0 : xS) (n : Nat) (p : Program) (l : Launch) (e : Env) (R : Room) (s : State) (m : MethodId) (args : Array Value) (below : List Frame) (meth : Method) (c : Code) (Q : State → Prop) (o : xOut) (pc : Nat) (k : xK) : Prop :=
  ∀ φ ls st σ M H locs, xIv X φ0 L xs σ0 n s φ ls st σ M H locs → k ls st σ = some o → W p l e R s m args below meth c H locs (xcnt σ - xcnt σ0) (xslt σ - xslt σ0) Q (F0 m pc M (st.map (xv φ)))
def xCt (X : xX) (φ0 : Nat → Nat) (L : Nat) (xs : Nat → Int32) (y : MethodName) (cc : ByteArray) (n : Nat) (ret : Option FieldType) (p : Program) (R : Room) (s : State) (m : MethodId) (args : Array Value) (meth : Method) (c : Code) : Prop :=
  (p.tables.exec = Jvm.exec ∧ c.code = cc ∧ c.maxLocals = n ∧ s.vm.findClass y.cls = some m.cls) ∧ (∀ w ∈ xTl, w.before args s = true) ∧ va_K X.1 vwCl (xtys X.2.1) s ∧ xZ X φ0 L xs s s.heap ∧ X.2.2 ≤ s.heap.size ∧ (meth.sig.returnType = ret ∧ meth.locks = false ∧ (y.name = "<init>" → meth.name = y.name)) ∧ (12 ≤ R.frames ∧ 400 ≤ R.locals)
theorem xIv.st {X : xX} {φ0 : Nat → Nat} {L : Nat} {xs : Nat → Int32} {σ0 : xS} {n : Nat} {s : State} {φ : Nat → Nat} {ls st st' : List Value} {σ : xS} {M : Array Slot} {H : Heap} {locs : List Loc} (h : xIv X φ0 L xs σ0 n s φ ls st σ M H locs) (h' : xok' σ.1.1.length st') : xIv X φ0 L xs σ0 n s φ ls st' σ M H locs := ⟨h.1, h.2.1, h.2.2.1, h.2.2.2.1, h.2.2.2.2.1, h'⟩
-- locals
theorem xlv_mem {φ : Nat → Nat} : ∀ (ls : List Value) (b j : Nat) (w : Value), ls[j]? = some w → (∀ f, w ≠ .float f) → (b + j, xv φ w) ∈ xlv φ b ls
  | [], b, j, w, h, _ => by simp at h
  | v :: ls, b, 0, w, h, hf => by
    simp at h
    subst h
    cases v <;> first | exact absurd rfl (hf _) | simp [xlv]
  | v :: ls, b, j + 1, w, h, hf => by
    have h1 := xlv_mem (φ := φ) ls (b + 1) j w (by simpa using h) hf
    rw [show b + (j + 1) = b + 1 + j by omega]
    cases v <;> first | exact h1 | exact List.mem_cons_of_mem _ h1
theorem xlv_of {φ : Nat → Nat} : ∀ (ls : List Value) (b : Nat) (q : Nat × Value), q ∈ xlv φ b ls → ∃ j w, q = (b + j, xv φ w) ∧ ls[j]? = some w ∧ ∀ f, w ≠ .float f
  | [], b, q, h => by cases h
  | v :: ls, b, q, h => by
    have key : q ∈ xlv φ (b + 1) ls → ∃ j w, q = (b + j, xv φ w) ∧ (v :: ls)[j]? = some w ∧ ∀ f, w ≠ .float f := by
      intro h
      obtain ⟨j, w, h1, h2, h3⟩ := xlv_of ls (b + 1) q h
      exact ⟨j + 1, w, by rw [h1, show b + 1 + j = b + (j + 1) by omega], by simpa using h2, h3⟩
    cases v <;> first
      | exact key h
      | (rcases List.mem_cons.mp h with h | h
         · exact ⟨0, _, h, rfl, fun f q => by cases q⟩
         · exact key h)
theorem xlr_has {φ : Nat → Nat} {ls : List Value} {M : Array Slot} {n : Nat} (h : xlr φ ls M n) : lv_has M n (xlv φ 0 ls) := by
  refine ⟨h.1, h.2.1, fun q hq => ?_⟩
  obtain ⟨j, w, rfl, h2, h3⟩ := xlv_of ls 0 q hq
  rw [Nat.zero_add]
  exact h.2.2.2 j w h2 h3
theorem xlr_set1 {φ : Nat → Nat} {ls : List Value} {M' : Array Slot} {n i : Nat} {v : Value} (hn : ls.length = n) (hok : xok ls i = true) (h : lv_has M' n ((i, xv φ v) :: (xlv φ 0 ls).filter (fun q => !(q.1 == i) && !(q.1 + 1 == i && q.2.category == 2)))) : xlr φ (ls.set i v) M' n := by
  refine ⟨h.1, h.2.1, by simpa using hn, fun j w hj hf => ?_⟩
  by_cases hji : j = i
  · subst hji
    have hl : j < ls.length := by
      have := (List.getElem?_eq_some_iff.mp hj).1
      simpa using this
    rw [List.getElem?_set_self hl] at hj
    cases hj
    exact h.2.2 _ List.mem_cons_self
  · rw [List.getElem?_set_ne (Ne.symm hji)] at hj
    have hm := xlv_mem (φ := φ) ls 0 j w hj hf
    rw [Nat.zero_add] at hm
    refine h.2.2 (j, xv φ w) (List.mem_cons_of_mem _ (List.mem_filter.mpr ⟨hm, ?_⟩))
    simp only [Bool.and_eq_true, Bool.not_eq_true', beq_eq_false_iff_ne, ne_eq, Bool.and_eq_false_iff, hji, not_false_eq_true, true_and]
    by_cases hs : j + 1 = i
    · right
      subst hs
      unfold xok at hok
      dsimp only at hok
      rw [xn_eq, hj] at hok
      cases w <;> first | (simp at hok; done) | (simp [xv, Value.category]; done) | exact absurd rfl (hf _)
    · left; exact hs
theorem xlr_set2 {φ : Nat → Nat} {ls : List Value} {M' : Array Slot} {n i : Nat} {x : Int64} (hn : ls.length = n) (hok : xok ls i = true) (h : lv_has M' n ((i, .long x) :: (xlv φ 0 ls).filter (fun q => !(q.1 == i) && (!(q.1 == i + 1) && !(q.1 + 1 == i && q.2.category == 2))))) : xlr φ ((ls.set i (.long x)).set (i + 1) xD) M' n := by
  refine ⟨h.1, h.2.1, by simpa using hn, fun j w hj hf => ?_⟩
  by_cases hj1 : j = i + 1
  · subst hj1
    have hl : i + 1 < (ls.set i (.long x)).length := by
      have := (List.getElem?_eq_some_iff.mp hj).1
      simpa using this
    rw [List.getElem?_set_self hl] at hj
    cases hj
    exact absurd rfl (hf _)
  rw [List.getElem?_set_ne (Ne.symm hj1)] at hj
  by_cases hji : j = i
  · subst hji
    have hl : j < ls.length := by
      have := (List.getElem?_eq_some_iff.mp hj).1
      simpa using this
    rw [List.getElem?_set_self hl] at hj
    cases hj
    exact h.2.2 _ List.mem_cons_self
  · rw [List.getElem?_set_ne (Ne.symm hji)] at hj
    have hm := xlv_mem (φ := φ) ls 0 j w hj hf
    rw [Nat.zero_add] at hm
    refine h.2.2 (j, xv φ w) (List.mem_cons_of_mem _ (List.mem_filter.mpr ⟨hm, ?_⟩))
    simp only [Bool.and_eq_true, Bool.not_eq_true', beq_eq_false_iff_ne, ne_eq, Bool.and_eq_false_iff, hji, hj1, not_false_eq_true, true_and]
    by_cases hs : j + 1 = i
    · right
      subst hs
      unfold xok at hok
      dsimp only at hok
      rw [xn_eq, hj] at hok
      cases w <;> first | (simp at hok; done) | (simp [xv, Value.category]; done) | exact absurd rfl (hf _)
    · left; exact hs
-- what a helper that answers has found
theorem x2_inv {f : Int32 → Int32 → Int32} {ls st : List Value} {σ : xS} {k : xK} {o : xOut} (h : x2 f ls st σ k = some o) : ∃ a b r, st = .int b :: .int a :: r ∧ k ls (.int (f a b) :: r) σ = some o := by
  unfold x2 at h
  split at h
  · exact ⟨_, _, _, rfl, h⟩
  · cases h
theorem x2d_inv {f : Int32 → Int32 → Int32} {ls st : List Value} {σ : xS} {k : xK} {o : xOut} (h : x2d f ls st σ k = some o) : ∃ a b r, st = .int b :: .int a :: r ∧ ¬ b = 0 ∧ k ls (.int (f a b) :: r) σ = some o := by
  unfold x2d at h
  split at h
  · next b a r =>
    by_cases hb : b = 0
    · rw [if_pos hb] at h; cases h
    · rw [if_neg hb] at h; exact ⟨_, _, _, rfl, hb, h⟩
  · cases h
theorem x2l_inv {f : Int64 → Int64 → Int64} {ls st : List Value} {σ : xS} {k : xK} {o : xOut} (h : x2l f ls st σ k = some o) : ∃ a b r, st = .long b :: .long a :: r ∧ k ls (.long (f a b) :: r) σ = some o := by
  unfold x2l at h
  split at h
  · exact ⟨_, _, _, rfl, h⟩
  · cases h
theorem x2s_inv {f : Int64 → Int32 → Int64} {ls st : List Value} {σ : xS} {k : xK} {o : xOut} (h : x2s f ls st σ k = some o) : ∃ a b r, st = .int b :: .long a :: r ∧ k ls (.long (f a b) :: r) σ = some o := by
  unfold x2s at h
  split at h
  · exact ⟨_, _, _, rfl, h⟩
  · cases h
section XS1
variable {X : xX} {φ0 : Nat → Nat} {L : Nat} {xs : Nat → Int32} {σ0 : xS} {n : Nat} {p : Program} {l : Launch} {e : Env} {R : Room} {s : State} {m : MethodId} {args : Array Value} {below : List Frame} {meth : Method} {c : Code} {Q : State → Prop} {o : xOut} {pc : Nat} {k : xK} {kb : xKB} {y : MethodName} {cc : ByteArray} {ret : Option FieldType}

theorem xs_iadd (C : xCt X φ0 L xs y cc n ret p R s m args meth c) (hd : decode cc pc = .ok (.iadd, 1)) (hk : xGo X φ0 L xs σ0 n p l e R s m args below meth c Q o (pc + 1) k) : xGo X φ0 L xs σ0 n p l e R s m args below meth c Q o pc (fun ls st σ => x2 (fun a b => a + b) ls st σ k) := by
  intro φ ls st σ M H locs hI h
  obtain ⟨a, b, r, rfl, h⟩ := x2_inv h
  exact lv_iadd C.1.1 C.1.2.1 hd (hk φ ls _ σ M H locs (hI.st (xok_cons.mpr ⟨xvd_i, (xok_cons.mp (xok_cons.mp hI.2.2.2.2.2).2).2⟩)) h)

theorem xs_isub (C : xCt X φ0 L xs y cc n ret p R s m args meth c) (hd : decode cc pc = .ok (.isub, 1)) (hk : xGo X φ0 L xs σ0 n p l e R s m args below meth c Q o (pc + 1) k) : xGo X φ0 L xs σ0 n p l e R s m args below meth c Q o pc (fun ls st σ => x2 (fun a b => a - b) ls st σ k) := by
  intro φ ls st σ M H locs hI h
  obtain ⟨a, b, r, rfl, h⟩ := x2_inv h
  exact lv_isub C.1.1 C.1.2.1 hd (hk φ ls _ σ M H locs (hI.st (xok_cons.mpr ⟨xvd_i, (xok_cons.mp (xok_cons.mp hI.2.2.2.2.2).2).2⟩)) h)

theorem xs_imul (C : xCt X φ0 L xs y cc n ret p R s m args meth c) (hd : decode cc pc = .ok (.imul, 1)) (hk : xGo X φ0 L xs σ0 n p l e R s m args below meth c Q o (pc + 1) k) : xGo X φ0 L xs σ0 n p l e R s m args below meth c Q o pc (fun ls st σ => x2 (fun a b => a * b) ls st σ k) := by
  intro φ ls st σ M H locs hI h
  obtain ⟨a, b, r, rfl, h⟩ := x2_inv h
  exact lv_imul C.1.1 C.1.2.1 hd (hk φ ls _ σ M H locs (hI.st (xok_cons.mpr ⟨xvd_i, (xok_cons.mp (xok_cons.mp hI.2.2.2.2.2).2).2⟩)) h)

theorem xs_iand (C : xCt X φ0 L xs y cc n ret p R s m args meth c) (hd : decode cc pc = .ok (.iand, 1)) (hk : xGo X φ0 L xs σ0 n p l e R s m args below meth c Q o (pc + 1) k) : xGo X φ0 L xs σ0 n p l e R s m args below meth c Q o pc (fun ls st σ => x2 (fun a b => a &&& b) ls st σ k) := by
  intro φ ls st σ M H locs hI h
  obtain ⟨a, b, r, rfl, h⟩ := x2_inv h
  exact lv_iand C.1.1 C.1.2.1 hd (hk φ ls _ σ M H locs (hI.st (xok_cons.mpr ⟨xvd_i, (xok_cons.mp (xok_cons.mp hI.2.2.2.2.2).2).2⟩)) h)

theorem xs_ior (C : xCt X φ0 L xs y cc n ret p R s m args meth c) (hd : decode cc pc = .ok (.ior, 1)) (hk : xGo X φ0 L xs σ0 n p l e R s m args below meth c Q o (pc + 1) k) : xGo X φ0 L xs σ0 n p l e R s m args below meth c Q o pc (fun ls st σ => x2 (fun a b => a ||| b) ls st σ k) := by
  intro φ ls st σ M H locs hI h
  obtain ⟨a, b, r, rfl, h⟩ := x2_inv h
  exact lv_ior C.1.1 C.1.2.1 hd (hk φ ls _ σ M H locs (hI.st (xok_cons.mpr ⟨xvd_i, (xok_cons.mp (xok_cons.mp hI.2.2.2.2.2).2).2⟩)) h)

theorem xs_ixor (C : xCt X φ0 L xs y cc n ret p R s m args meth c) (hd : decode cc pc = .ok (.ixor, 1)) (hk : xGo X φ0 L xs σ0 n p l e R s m args below meth c Q o (pc + 1) k) : xGo X φ0 L xs σ0 n p l e R s m args below meth c Q o pc (fun ls st σ => x2 (fun a b => a ^^^ b) ls st σ k) := by
  intro φ ls st σ M H locs hI h
  obtain ⟨a, b, r, rfl, h⟩ := x2_inv h
  exact lv_ixor C.1.1 C.1.2.1 hd (hk φ ls _ σ M H locs (hI.st (xok_cons.mpr ⟨xvd_i, (xok_cons.mp (xok_cons.mp hI.2.2.2.2.2).2).2⟩)) h)

theorem xs_ishl (C : xCt X φ0 L xs y cc n ret p R s m args meth c) (hd : decode cc pc = .ok (.ishl, 1)) (hk : xGo X φ0 L xs σ0 n p l e R s m args below meth c Q o (pc + 1) k) : xGo X φ0 L xs σ0 n p l e R s m args below meth c Q o pc (fun ls st σ => x2 (fun a b => a <<< (b &&& 31)) ls st σ k) := by
  intro φ ls st σ M H locs hI h
  obtain ⟨a, b, r, rfl, h⟩ := x2_inv h
  exact lv_ishl C.1.1 C.1.2.1 hd (hk φ ls _ σ M H locs (hI.st (xok_cons.mpr ⟨xvd_i, (xok_cons.mp (xok_cons.mp hI.2.2.2.2.2).2).2⟩)) h)

theorem xs_ishr (C : xCt X φ0 L xs y cc n ret p R s m args meth c) (hd : decode cc pc = .ok (.ishr, 1)) (hk : xGo X φ0 L xs σ0 n p l e R s m args below meth c Q o (pc + 1) k) : xGo X φ0 L xs σ0 n p l e R s m args below meth c Q o pc (fun ls st σ => x2 (fun a b => a >>> (b &&& 31)) ls st σ k) := by
  intro φ ls st σ M H locs hI h
  obtain ⟨a, b, r, rfl, h⟩ := x2_inv h
  exact lv_ishr C.1.1 C.1.2.1 hd (hk φ ls _ σ M H locs (hI.st (xok_cons.mpr ⟨xvd_i, (xok_cons.mp (xok_cons.mp hI.2.2.2.2.2).2).2⟩)) h)

theorem xs_iushr (C : xCt X φ0 L xs y cc n ret p R s m args meth c) (hd : decode cc pc = .ok (.iushr, 1)) (hk : xGo X φ0 L xs σ0 n p l e R s m args below meth c Q o (pc + 1) k) : xGo X φ0 L xs σ0 n p l e R s m args below meth c Q o pc (fun ls st σ => x2 (fun a b => (a.toUInt32 >>> (b.toUInt32 &&& Int32.toUInt32 31)).toInt32) ls st σ k) := by
  intro φ ls st σ M H locs hI h
  obtain ⟨a, b, r, rfl, h⟩ := x2_inv h
  exact lv_iushr C.1.1 C.1.2.1 hd rfl (hk φ ls _ σ M H locs (hI.st (xok_cons.mpr ⟨xvd_i, (xok_cons.mp (xok_cons.mp hI.2.2.2.2.2).2).2⟩)) h)

theorem xs_idiv (C : xCt X φ0 L xs y cc n ret p R s m args meth c) (hd : decode cc pc = .ok (.idiv, 1)) (hk : xGo X φ0 L xs σ0 n p l e R s m args below meth c Q o (pc + 1) k) : xGo X φ0 L xs σ0 n p l e R s m args below meth c Q o pc (fun ls st σ => x2d (fun a b => a / b) ls st σ k) := by
  intro φ ls st σ M H locs hI h
  obtain ⟨a, b, r, rfl, hb, h⟩ := x2d_inv h
  exact lv_idiv C.1.1 C.1.2.1 hd hb (hk φ ls _ σ M H locs (hI.st (xok_cons.mpr ⟨xvd_i, (xok_cons.mp (xok_cons.mp hI.2.2.2.2.2).2).2⟩)) h)

theorem xs_irem (C : xCt X φ0 L xs y cc n ret p R s m args meth c) (hd : decode cc pc = .ok (.irem, 1)) (hk : xGo X φ0 L xs σ0 n p l e R s m args below meth c Q o (pc + 1) k) : xGo X φ0 L xs σ0 n p l e R s m args below meth c Q o pc (fun ls st σ => x2d (fun a b => a - a / b * b) ls st σ k) := by
  intro φ ls st σ M H locs hI h
  obtain ⟨a, b, r, rfl, hb, h⟩ := x2d_inv h
  exact lv_irem C.1.1 C.1.2.1 hd hb (hk φ ls _ σ M H locs (hI.st (xok_cons.mpr ⟨xvd_i, (xok_cons.mp (xok_cons.mp hI.2.2.2.2.2).2).2⟩)) h)

theorem xs_land (C : xCt X φ0 L xs y cc n ret p R s m args meth c) (hd : decode cc pc = .ok (.land, 1)) (hk : xGo X φ0 L xs σ0 n p l e R s m args below meth c Q o (pc + 1) k) : xGo X φ0 L xs σ0 n p l e R s m args below meth c Q o pc (fun ls st σ => x2l (fun a b => a &&& b) ls st σ k) := by
  intro φ ls st σ M H locs hI h
  obtain ⟨a, b, r, rfl, h⟩ := x2l_inv h
  exact lv_land C.1.1 C.1.2.1 hd (hk φ ls _ σ M H locs (hI.st (xok_cons.mpr ⟨xvd_j, (xok_cons.mp (xok_cons.mp hI.2.2.2.2.2).2).2⟩)) h)

theorem xs_lor (C : xCt X φ0 L xs y cc n ret p R s m args meth c) (hd : decode cc pc = .ok (.lor, 1)) (hk : xGo X φ0 L xs σ0 n p l e R s m args below meth c Q o (pc + 1) k) : xGo X φ0 L xs σ0 n p l e R s m args below meth c Q o pc (fun ls st σ => x2l (fun a b => a ||| b) ls st σ k) := by
  intro φ ls st σ M H locs hI h
  obtain ⟨a, b, r, rfl, h⟩ := x2l_inv h
  exact lv_lor C.1.1 C.1.2.1 hd (hk φ ls _ σ M H locs (hI.st (xok_cons.mpr ⟨xvd_j, (xok_cons.mp (xok_cons.mp hI.2.2.2.2.2).2).2⟩)) h)

theorem xs_lshl (C : xCt X φ0 L xs y cc n ret p R s m args meth c) (hd : decode cc pc = .ok (.lshl, 1)) (hk : xGo X φ0 L xs σ0 n p l e R s m args below meth c Q o (pc + 1) k) : xGo X φ0 L xs σ0 n p l e R s m args below meth c Q o pc (fun ls st σ => x2s (fun a b => a <<< (b.toInt64 &&& 63)) ls st σ k) := by
  intro φ ls st σ M H locs hI h
  obtain ⟨a, b, r, rfl, h⟩ := x2s_inv h
  exact lv_lshl C.1.1 C.1.2.1 hd rfl (hk φ ls _ σ M H locs (hI.st (xok_cons.mpr ⟨xvd_j, (xok_cons.mp (xok_cons.mp hI.2.2.2.2.2).2).2⟩)) h)

theorem xs_lshr (C : xCt X φ0 L xs y cc n ret p R s m args meth c) (hd : decode cc pc = .ok (.lshr, 1)) (hk : xGo X φ0 L xs σ0 n p l e R s m args below meth c Q o (pc + 1) k) : xGo X φ0 L xs σ0 n p l e R s m args below meth c Q o pc (fun ls st σ => x2s (fun a b => a >>> (b.toInt64 &&& 63)) ls st σ k) := by
  intro φ ls st σ M H locs hI h
  obtain ⟨a, b, r, rfl, h⟩ := x2s_inv h
  exact lv_lshr C.1.1 C.1.2.1 hd rfl (hk φ ls _ σ M H locs (hI.st (xok_cons.mpr ⟨xvd_j, (xok_cons.mp (xok_cons.mp hI.2.2.2.2.2).2).2⟩)) h)

theorem xs_lushr (C : xCt X φ0 L xs y cc n ret p R s m args meth c) (hd : decode cc pc = .ok (.lushr, 1)) (hk : xGo X φ0 L xs σ0 n p l e R s m args below meth c Q o (pc + 1) k) : xGo X φ0 L xs σ0 n p l e R s m args below meth c Q o pc (fun ls st σ => x2s (fun a b => (a.toUInt64 >>> (b.toInt64.toUInt64 &&& Int64.toUInt64 63)).toInt64) ls st σ k) := by
  intro φ ls st σ M H locs hI h
  obtain ⟨a, b, r, rfl, h⟩ := x2s_inv h
  exact lv_lushr C.1.1 C.1.2.1 hd rfl (hk φ ls _ σ M H locs (hI.st (xok_cons.mpr ⟨xvd_j, (xok_cons.mp (xok_cons.mp hI.2.2.2.2.2).2).2⟩)) h)

theorem xs_lcmp (C : xCt X φ0 L xs y cc n ret p R s m args meth c) (hd : decode cc pc = .ok (.lcmp, 1)) (hk : xGo X φ0 L xs σ0 n p l e R s m args below meth c Q o (pc + 1) k) : xGo X φ0 L xs σ0 n p l e R s m args below meth c Q o pc (fun ls st σ => xcm ls st σ k) := by
  intro φ ls st σ M H locs hI h
  unfold xcm at h
  dsimp only at h
  split at h
  · exact W.lcmp C.1.1 C.1.2.1 hd (hk φ _ _ _ M H locs (hI.st (xok_cons.mpr ⟨xvd_i, (xok_cons.mp (xok_cons.mp hI.2.2.2.2.2).2).2⟩)) h)
  · cases h

theorem xs_i2l (C : xCt X φ0 L xs y cc n ret p R s m args meth c) (hd : decode cc pc = .ok (.i2l, 1)) (hk : xGo X φ0 L xs σ0 n p l e R s m args below meth c Q o (pc + 1) k) : xGo X φ0 L xs σ0 n p l e R s m args below meth c Q o pc (fun ls st σ => xil ls st σ k) := by
  intro φ ls st σ M H locs hI h
  unfold xil at h
  dsimp only at h
  split at h
  · exact lv_i2l C.1.1 C.1.2.1 hd rfl (hk φ _ _ _ M H locs (hI.st (xok_cons.mpr ⟨xvd_j, (xok_cons.mp hI.2.2.2.2.2).2⟩)) h)
  · cases h

theorem xs_l2i (C : xCt X φ0 L xs y cc n ret p R s m args meth c) (hd : decode cc pc = .ok (.l2i, 1)) (hk : xGo X φ0 L xs σ0 n p l e R s m args below meth c Q o (pc + 1) k) : xGo X φ0 L xs σ0 n p l e R s m args below meth c Q o pc (fun ls st σ => xli ls st σ k) := by
  intro φ ls st σ M H locs hI h
  unfold xli at h
  dsimp only at h
  split at h
  · exact lv_l2i C.1.1 C.1.2.1 hd rfl (hk φ _ _ _ M H locs (hI.st (xok_cons.mpr ⟨xvd_i, (xok_cons.mp hI.2.2.2.2.2).2⟩)) h)
  · cases h

theorem xs_i2b (C : xCt X φ0 L xs y cc n ret p R s m args meth c) (hd : decode cc pc = .ok (.i2b, 1)) (hk : xGo X φ0 L xs σ0 n p l e R s m args below meth c Q o (pc + 1) k) : xGo X φ0 L xs σ0 n p l e R s m args below meth c Q o pc (fun ls st σ => xib ls st σ k) := by
  intro φ ls st σ M H locs hI h
  unfold xib at h
  dsimp only at h
  split at h
  · exact lv_i2b C.1.1 C.1.2.1 hd rfl (hk φ _ _ _ M H locs (hI.st (xok_cons.mpr ⟨xvd_i, (xok_cons.mp hI.2.2.2.2.2).2⟩)) h)
  · cases h

theorem xs_dup (C : xCt X φ0 L xs y cc n ret p R s m args meth c) (hd : decode cc pc = .ok (.dup, 1)) (hk : xGo X φ0 L xs σ0 n p l e R s m args below meth c Q o (pc + 1) k) : xGo X φ0 L xs σ0 n p l e R s m args below meth c Q o pc (fun ls st σ => xdp ls st σ k) := by
  intro φ ls st σ M H locs hI h
  unfold xdp at h
  dsimp only at h
  split at h
  · next v r =>
    cases hc : Nat.beq v.category 1 with
    | false => simp [hc] at h
    | true =>
      simp only [hc, cond_true] at h
      have hv := xok_cons.mp hI.2.2.2.2.2
      exact lv_dup C.1.1 C.1.2.1 hd (by rw [xv_cat]; exact Nat.eq_of_beq_eq_true hc) (hk φ _ _ _ M H locs (hI.st (xok_cons.mpr ⟨hv.1, hI.2.2.2.2.2⟩)) h)
  · cases h

theorem xs_pop (C : xCt X φ0 L xs y cc n ret p R s m args meth c) (hd : decode cc pc = .ok (.pop, 1)) (hk : xGo X φ0 L xs σ0 n p l e R s m args below meth c Q o (pc + 1) k) : xGo X φ0 L xs σ0 n p l e R s m args below meth c Q o pc (fun ls st σ => xpp ls st σ k) := by
  intro φ ls st σ M H locs hI h
  unfold xpp at h
  dsimp only at h
  split at h
  · next v r =>
    cases hc : Nat.beq v.category 1 with
    | false => simp [hc] at h
    | true =>
      simp only [hc, cond_true] at h
      have hv := xok_cons.mp hI.2.2.2.2.2
      exact lv_pop C.1.1 C.1.2.1 hd (by rw [xv_cat]; exact Nat.eq_of_beq_eq_true hc) (hk φ _ _ _ M H locs (hI.st hv.2) h)
  · cases h

theorem xs_dup2 (C : xCt X φ0 L xs y cc n ret p R s m args meth c) (hd : decode cc pc = .ok (.dup2, 1)) (hk : xGo X φ0 L xs σ0 n p l e R s m args below meth c Q o (pc + 1) k) : xGo X φ0 L xs σ0 n p l e R s m args below meth c Q o pc (fun ls st σ => xd2 ls st σ k) := by
  intro φ ls st σ M H locs hI h
  unfold xd2 at h
  dsimp only at h
  split at h
  · next v w r =>
    cases hc : (Nat.beq v.category 1 && Nat.beq w.category 1) with
    | false => simp [hc] at h
    | true =>
      simp only [hc, cond_true] at h
      simp only [Bool.and_eq_true] at hc
      have hv := xok_cons.mp hI.2.2.2.2.2
      have hv2 := xok_cons.mp hv.2
      exact lv_dup2_11 C.1.1 C.1.2.1 hd (by rw [xv_cat]; exact Nat.eq_of_beq_eq_true hc.1) (by rw [xv_cat]; exact Nat.eq_of_beq_eq_true hc.2) (hk φ _ _ _ M H locs (hI.st (xok_cons.mpr ⟨hv.1, xok_cons.mpr ⟨hv2.1, hI.2.2.2.2.2⟩⟩)) h)
  · cases h

theorem xs_iconst (C : xCt X φ0 L xs y cc n ret p R s m args meth c) {v : Int} {a : Int32} (hd : decode cc pc = .ok (.iconst v, 1)) (hv : Int32.ofInt v = a) (hk : xGo X φ0 L xs σ0 n p l e R s m args below meth c Q o (pc + 1) k) : xGo X φ0 L xs σ0 n p l e R s m args below meth c Q o pc (fun ls st σ => k ls (.int a :: st) σ) := by
  intro φ ls st σ M H locs hI h
  exact lv_iconst C.1.1 C.1.2.1 hd hv (hk φ ls _ σ M H locs (hI.st (xok_cons.mpr ⟨xvd_i, hI.2.2.2.2.2⟩)) h)

theorem xs_bipush (C : xCt X φ0 L xs y cc n ret p R s m args meth c) {v : Int} {a : Int32} (hd : decode cc pc = .ok (.bipush v, 2)) (hv : (Int8.ofInt v).toInt32 = a) (hk : xGo X φ0 L xs σ0 n p l e R s m args below meth c Q o (pc + 2) k) : xGo X φ0 L xs σ0 n p l e R s m args below meth c Q o pc (fun ls st σ => k ls (.int a :: st) σ) := by
  intro φ ls st σ M H locs hI h
  exact lv_bipush C.1.1 C.1.2.1 hd hv (hk φ ls _ σ M H locs (hI.st (xok_cons.mpr ⟨xvd_i, hI.2.2.2.2.2⟩)) h)

theorem xs_sipush (C : xCt X φ0 L xs y cc n ret p R s m args meth c) {v : Int} {a : Int32} (hd : decode cc pc = .ok (.sipush v, 3)) (hv : (Int16.ofInt v).toInt32 = a) (hk : xGo X φ0 L xs σ0 n p l e R s m args below meth c Q o (pc + 3) k) : xGo X φ0 L xs σ0 n p l e R s m args below meth c Q o pc (fun ls st σ => k ls (.int a :: st) σ) := by
  intro φ ls st σ M H locs hI h
  exact lv_sipush C.1.1 C.1.2.1 hd hv (hk φ ls _ σ M H locs (hI.st (xok_cons.mpr ⟨xvd_i, hI.2.2.2.2.2⟩)) h)

theorem xs_lconst (C : xCt X φ0 L xs y cc n ret p R s m args meth c) {v : Fin 2} {a : Nat} (hd : decode cc pc = .ok (.lconst v, 1)) (hv : v.val = a) (hk : xGo X φ0 L xs σ0 n p l e R s m args below meth c Q o (pc + 1) k) : xGo X φ0 L xs σ0 n p l e R s m args below meth c Q o pc (fun ls st σ => k ls (.long (Int64.ofNat a) :: st) σ) := by
  intro φ ls st σ M H locs hI h
  exact lv_lconst C.1.1 C.1.2.1 hd (by rw [hv]) (hk φ ls _ σ M H locs (hI.st (xok_cons.mpr ⟨xvd_j, hI.2.2.2.2.2⟩)) h)

theorem xs_ldc (C : xCt X φ0 L xs y cc n ret p R s m args meth c) {v : Nat} {a : Int32} (hd : decode cc pc = .ok (.ldc v, 2)) (hv : Cond.constant y.cls v a ∈ xTl) (hk : xGo X φ0 L xs σ0 n p l e R s m args below meth c Q o (pc + 2) k) : xGo X φ0 L xs σ0 n p l e R s m args below meth c Q o pc (fun ls st σ => k ls (.int a :: st) σ) := by
  intro φ ls st σ M H locs hI h
  exact lv_ldc C.1.1 C.1.2.1 C.1.2.2.2 (C.2.1 _ hv) hd (hk φ ls _ σ M H locs (hI.st (xok_cons.mpr ⟨xvd_i, hI.2.2.2.2.2⟩)) h)

theorem xs_ldcw (C : xCt X φ0 L xs y cc n ret p R s m args meth c) {v : Nat} {a : Int32} (hd : decode cc pc = .ok (.ldc_w v, 3)) (hv : Cond.constant y.cls v a ∈ xTl) (hk : xGo X φ0 L xs σ0 n p l e R s m args below meth c Q o (pc + 3) k) : xGo X φ0 L xs σ0 n p l e R s m args below meth c Q o pc (fun ls st σ => k ls (.int a :: st) σ) := by
  intro φ ls st σ M H locs hI h
  exact lv_ldcw C.1.1 C.1.2.1 C.1.2.2.2 (C.2.1 _ hv) hd (hk φ ls _ σ M H locs (hI.st (xok_cons.mpr ⟨xvd_i, hI.2.2.2.2.2⟩)) h)

theorem xs_ldc2 (C : xCt X φ0 L xs y cc n ret p R s m args meth c) {v : Nat} {a : Int64} (hd : decode cc pc = .ok (.ldc2_w v, 3)) (hv : Cond.constantLong y.cls v a ∈ xTl) (hk : xGo X φ0 L xs σ0 n p l e R s m args below meth c Q o (pc + 3) k) : xGo X φ0 L xs σ0 n p l e R s m args below meth c Q o pc (fun ls st σ => k ls (.long a :: st) σ) := by
  intro φ ls st σ M H locs hI h
  exact lv_ldc2 C.1.1 C.1.2.1 C.1.2.2.2 (C.2.1 _ hv) hd (hk φ ls _ σ M H locs (hI.st (xok_cons.mpr ⟨xvd_j, hI.2.2.2.2.2⟩)) h)

theorem xs_iload (C : xCt X φ0 L xs y cc n ret p R s m args meth c) {i : Nat} (hd : decode cc pc = .ok (.iload i, 2)) (hk : xGo X φ0 L xs σ0 n p l e R s m args below meth c Q o (pc + 2) k) : xGo X φ0 L xs σ0 n p l e R s m args below meth c Q o pc (fun ls st σ => xldI i ls st σ k) := by
  intro φ ls st σ M H locs hI h
  unfold xldI at h
  dsimp only at h
  rw [xn_eq] at h
  split at h
  · next x hx =>
    have hm := hI.2.2.2.1.2.2.2 _ _ hx (fun b q => by cases q)
    exact lv_iload C.1.1 C.1.2.1 hd hm (hk φ _ _ _ M H locs (hI.st (xok_cons.mpr ⟨hI.2.2.2.2.1 _ (List.mem_of_getElem? hx), hI.2.2.2.2.2⟩)) h)
  · cases h

theorem xs_iload_n (C : xCt X φ0 L xs y cc n ret p R s m args meth c) {i : Fin 4} (hd : decode cc pc = .ok (.iload_n i, 1)) (hk : xGo X φ0 L xs σ0 n p l e R s m args below meth c Q o (pc + 1) k) : xGo X φ0 L xs σ0 n p l e R s m args below meth c Q o pc (fun ls st σ => xldI i.val ls st σ k) := by
  intro φ ls st σ M H locs hI h
  unfold xldI at h
  dsimp only at h
  rw [xn_eq] at h
  split at h
  · next x hx =>
    have hm := hI.2.2.2.1.2.2.2 _ _ hx (fun b q => by cases q)
    exact lv_iload_n C.1.1 C.1.2.1 hd rfl hm (hk φ _ _ _ M H locs (hI.st (xok_cons.mpr ⟨hI.2.2.2.2.1 _ (List.mem_of_getElem? hx), hI.2.2.2.2.2⟩)) h)
  · cases h

theorem xs_lload (C : xCt X φ0 L xs y cc n ret p R s m args meth c) {i : Nat} (hd : decode cc pc = .ok (.lload i, 2)) (hk : xGo X φ0 L xs σ0 n p l e R s m args below meth c Q o (pc + 2) k) : xGo X φ0 L xs σ0 n p l e R s m args below meth c Q o pc (fun ls st σ => xldJ i ls st σ k) := by
  intro φ ls st σ M H locs hI h
  unfold xldJ at h
  dsimp only at h
  rw [xn_eq] at h
  split at h
  · next x hx =>
    have hm := hI.2.2.2.1.2.2.2 _ _ hx (fun b q => by cases q)
    exact lv_lload C.1.1 C.1.2.1 hd hm (hk φ _ _ _ M H locs (hI.st (xok_cons.mpr ⟨hI.2.2.2.2.1 _ (List.mem_of_getElem? hx), hI.2.2.2.2.2⟩)) h)
  · cases h

theorem xs_lload_n (C : xCt X φ0 L xs y cc n ret p R s m args meth c) {i : Fin 4} (hd : decode cc pc = .ok (.lload_n i, 1)) (hk : xGo X φ0 L xs σ0 n p l e R s m args below meth c Q o (pc + 1) k) : xGo X φ0 L xs σ0 n p l e R s m args below meth c Q o pc (fun ls st σ => xldJ i.val ls st σ k) := by
  intro φ ls st σ M H locs hI h
  unfold xldJ at h
  dsimp only at h
  rw [xn_eq] at h
  split at h
  · next x hx =>
    have hm := hI.2.2.2.1.2.2.2 _ _ hx (fun b q => by cases q)
    exact lv_lload_n C.1.1 C.1.2.1 hd rfl hm (hk φ _ _ _ M H locs (hI.st (xok_cons.mpr ⟨hI.2.2.2.2.1 _ (List.mem_of_getElem? hx), hI.2.2.2.2.2⟩)) h)
  · cases h

theorem xs_aload (C : xCt X φ0 L xs y cc n ret p R s m args meth c) {i : Nat} (hd : decode cc pc = .ok (.aload i, 2)) (hk : xGo X φ0 L xs σ0 n p l e R s m args below meth c Q o (pc + 2) k) : xGo X φ0 L xs σ0 n p l e R s m args below meth c Q o pc (fun ls st σ => xldR i ls st σ k) := by
  intro φ ls st σ M H locs hI h
  unfold xldR at h
  dsimp only at h
  rw [xn_eq] at h
  split at h
  · next x hx =>
    have hm := hI.2.2.2.1.2.2.2 _ _ hx (fun b q => by cases q)
    exact lv_aload C.1.1 C.1.2.1 hd hm (hk φ _ _ _ M H locs (hI.st (xok_cons.mpr ⟨hI.2.2.2.2.1 _ (List.mem_of_getElem? hx), hI.2.2.2.2.2⟩)) h)
  · cases h

theorem xs_aload_n (C : xCt X φ0 L xs y cc n ret p R s m args meth c) {i : Fin 4} (hd : decode cc pc = .ok (.aload_n i, 1)) (hk : xGo X φ0 L xs σ0 n p l e R s m args below meth c Q o (pc + 1) k) : xGo X φ0 L xs σ0 n p l e R s m args below meth c Q o pc (fun ls st σ => xldR i.val ls st σ k) := by
  intro φ ls st σ M H locs hI h
  unfold xldR at h
  dsimp only at h
  rw [xn_eq] at h
  split at h
  · next x hx =>
    have hm := hI.2.2.2.1.2.2.2 _ _ hx (fun b q => by cases q)
    exact lv_aload_n C.1.1 C.1.2.1 hd rfl hm (hk φ _ _ _ M H locs (hI.st (xok_cons.mpr ⟨hI.2.2.2.2.1 _ (List.mem_of_getElem? hx), hI.2.2.2.2.2⟩)) h)
  · cases h

theorem xs_istore (C : xCt X φ0 L xs y cc n ret p R s m args meth c) {i : Nat} (hd : decode cc pc = .ok (.istore i, 2)) (hk : xGo X φ0 L xs σ0 n p l e R s m args below meth c Q o (pc + 2) k) : xGo X φ0 L xs σ0 n p l e R s m args below meth c Q o pc (fun ls st σ => xstI i ls st σ k) := by
  intro φ ls st σ M H locs hI h
  unfold xstI at h
  dsimp only at h
  split at h
  · next x r =>
    cases hc : (Nat.blt i ls.length && xok ls i) with
    | false => simp [hc] at h
    | true =>
      simp only [hc, cond_true] at h
      simp only [Bool.and_eq_true, Nat.blt_eq] at hc
      have hv := xok_cons.mp hI.2.2.2.2.2
      have hn := hI.2.2.2.1.2.2.1
      refine lv_istore C.1.1 C.1.2.1 hd (xlr_has hI.2.2.2.1) (by rw [← hn]; exact hc.1) rfl (fun M' hM' => ?_)
      exact hk φ _ _ _ M' H locs ⟨hI.1, hI.2.1, hI.2.2.1, xlr_set1 (v := .int x) hn hc.2 hM', xok_set hI.2.2.2.2.1 hv.1, hv.2⟩ h
  · cases h

theorem xs_istore_n (C : xCt X φ0 L xs y cc n ret p R s m args meth c) {i : Fin 4} (hd : decode cc pc = .ok (.istore_n i, 1)) (hk : xGo X φ0 L xs σ0 n p l e R s m args below meth c Q o (pc + 1) k) : xGo X φ0 L xs σ0 n p l e R s m args below meth c Q o pc (fun ls st σ => xstI i.val ls st σ k) := by
  intro φ ls st σ M H locs hI h
  unfold xstI at h
  dsimp only at h
  split at h
  · next x r =>
    cases hc : (Nat.blt i.val ls.length && xok ls i.val) with
    | false => simp [hc] at h
    | true =>
      simp only [hc, cond_true] at h
      simp only [Bool.and_eq_true, Nat.blt_eq] at hc
      have hv := xok_cons.mp hI.2.2.2.2.2
      have hn := hI.2.2.2.1.2.2.1
      refine lv_istore_n C.1.1 C.1.2.1 hd rfl (xlr_has hI.2.2.2.1) (by rw [← hn]; exact hc.1) rfl (fun M' hM' => ?_)
      exact hk φ _ _ _ M' H locs ⟨hI.1, hI.2.1, hI.2.2.1, xlr_set1 (v := .int x) hn hc.2 hM', xok_set hI.2.2.2.2.1 hv.1, hv.2⟩ h
  · cases h

theorem xs_astore (C : xCt X φ0 L xs y cc n ret p R s m args meth c) {i : Nat} (hd : decode cc pc = .ok (.astore i, 2)) (hk : xGo X φ0 L xs σ0 n p l e R s m args below meth c Q o (pc + 2) k) : xGo X φ0 L xs σ0 n p l e R s m args below meth c Q o pc (fun ls st σ => xstR i ls st σ k) := by
  intro φ ls st σ M H locs hI h
  unfold xstR at h
  dsimp only at h
  split at h
  · next x r =>
    cases hc : (Nat.blt i ls.length && xok ls i) with
    | false => simp [hc] at h
    | true =>
      simp only [hc, cond_true] at h
      simp only [Bool.and_eq_true, Nat.blt_eq] at hc
      have hv := xok_cons.mp hI.2.2.2.2.2
      have hn := hI.2.2.2.1.2.2.1
      refine lv_astore C.1.1 C.1.2.1 hd (xlr_has hI.2.2.2.1) (by rw [← hn]; exact hc.1) rfl (fun M' hM' => ?_)
      exact hk φ _ _ _ M' H locs ⟨hI.1, hI.2.1, hI.2.2.1, xlr_set1 (v := .ref x) hn hc.2 hM', xok_set hI.2.2.2.2.1 hv.1, hv.2⟩ h
  · cases h

theorem xs_astore_n (C : xCt X φ0 L xs y cc n ret p R s m args meth c) {i : Fin 4} (hd : decode cc pc = .ok (.astore_n i, 1)) (hk : xGo X φ0 L xs σ0 n p l e R s m args below meth c Q o (pc + 1) k) : xGo X φ0 L xs σ0 n p l e R s m args below meth c Q o pc (fun ls st σ => xstR i.val ls st σ k) := by
  intro φ ls st σ M H locs hI h
  unfold xstR at h
  dsimp only at h
  split at h
  · next x r =>
    cases hc : (Nat.blt i.val ls.length && xok ls i.val) with
    | false => simp [hc] at h
    | true =>
      simp only [hc, cond_true] at h
      simp only [Bool.and_eq_true, Nat.blt_eq] at hc
      have hv := xok_cons.mp hI.2.2.2.2.2
      have hn := hI.2.2.2.1.2.2.1
      refine lv_astore_n C.1.1 C.1.2.1 hd rfl (xlr_has hI.2.2.2.1) (by rw [← hn]; exact hc.1) rfl (fun M' hM' => ?_)
      exact hk φ _ _ _ M' H locs ⟨hI.1, hI.2.1, hI.2.2.1, xlr_set1 (v := .ref x) hn hc.2 hM', xok_set hI.2.2.2.2.1 hv.1, hv.2⟩ h
  · cases h

theorem xs_lstore (C : xCt X φ0 L xs y cc n ret p R s m args meth c) {i : Nat} (hd : decode cc pc = .ok (.lstore i, 2)) (hk : xGo X φ0 L xs σ0 n p l e R s m args below meth c Q o (pc + 2) k) : xGo X φ0 L xs σ0 n p l e R s m args below meth c Q o pc (fun ls st σ => xstJ i ls st σ k) := by
  intro φ ls st σ M H locs hI h
  unfold xstJ at h
  dsimp only at h
  split at h
  · next x r =>
    cases hc : (Nat.blt (i + 1) ls.length && xok ls i) with
    | false => simp [hc] at h
    | true =>
      simp only [hc, cond_true] at h
      simp only [Bool.and_eq_true, Nat.blt_eq] at hc
      have hv := xok_cons.mp hI.2.2.2.2.2
      have hn := hI.2.2.2.1.2.2.1
      refine lv_lstore C.1.1 C.1.2.1 hd (xlr_has hI.2.2.2.1) (by rw [← hn]; exact hc.1) rfl (fun M' hM' => ?_)
      exact hk φ _ _ _ M' H locs ⟨hI.1, hI.2.1, hI.2.2.1, xlr_set2 hn hc.2 hM', xok_set (xok_set hI.2.2.2.2.1 hv.1) xvd_f, hv.2⟩ h
  · cases h

theorem xs_lstore_n (C : xCt X φ0 L xs y cc n ret p R s m args meth c) {i : Fin 4} (hd : decode cc pc = .ok (.lstore_n i, 1)) (hk : xGo X φ0 L xs σ0 n p l e R s m args below meth c Q o (pc + 1) k) : xGo X φ0 L xs σ0 n p l e R s m args below meth c Q o pc (fun ls st σ => xstJ i.val ls st σ k) := by
  intro φ ls st σ M H locs hI h
  unfold xstJ at h
  dsimp only at h
  split at h
  · next x r =>
    cases hc : (Nat.blt (i.val + 1) ls.length && xok ls i.val) with
    | false => simp [hc] at h
    | true =>
      simp only [hc, cond_true] at h
      simp only [Bool.and_eq_true, Nat.blt_eq] at hc
      have hv := xok_cons.mp hI.2.2.2.2.2
      have hn := hI.2.2.2.1.2.2.1
      refine lv_lstore_n C.1.1 C.1.2.1 hd rfl (xlr_has hI.2.2.2.1) (by rw [← hn]; exact hc.1) rfl (fun M' hM' => ?_)
      exact hk φ _ _ _ M' H locs ⟨hI.1, hI.2.1, hI.2.2.1, xlr_set2 hn hc.2 hM', xok_set (xok_set hI.2.2.2.2.1 hv.1) xvd_f, hv.2⟩ h
  · cases h

theorem xs_iinc (C : xCt X φ0 L xs y cc n ret p R s m args meth c) {i : Nat} {d : Int} {a : Int32} (hd : decode cc pc = .ok (.iinc i d, 3)) (hv : Int32.ofInt d = a) (hk : xGo X φ0 L xs σ0 n p l e R s m args below meth c Q o (pc + 3) k) : xGo X φ0 L xs σ0 n p l e R s m args below meth c Q o pc (fun ls st σ => xinc i a ls st σ k) := by
  intro φ ls st σ M H locs hI h
  unfold xinc at h
  dsimp only at h
  rw [xn_eq] at h
  split at h
  · next x hx =>
    cases hc : (Nat.blt i ls.length && xok ls i) with
    | false => simp [hc] at h
    | true =>
      simp only [hc, cond_true] at h
      simp only [Bool.and_eq_true, Nat.blt_eq] at hc
      have hn := hI.2.2.2.1.2.2.1
      have hm := xlv_mem (φ := φ) ls 0 i _ hx (fun b q => by cases q)
      rw [Nat.zero_add] at hm
      obtain ⟨j, hj⟩ := List.getElem?_of_mem hm
      refine lv_iinc (k := j) C.1.1 C.1.2.1 hd (xlr_has hI.2.2.2.1) hj (v := x + a) (by rw [hv]) (by rw [← hn]; exact hc.1) rfl (fun M' hM' => ?_)
      exact hk φ _ _ _ M' H locs ⟨hI.1, hI.2.1, hI.2.2.1, xlr_set1 (v := .int (x + a)) hn hc.2 hM', xok_set hI.2.2.2.2.1 xvd_i, hI.2.2.2.2.2⟩ h
  · cases h

end XS1
