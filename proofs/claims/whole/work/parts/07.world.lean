/-! The store as a world of cells: what a number of the store is, where it lies. -/
abbrev xX : Type := va_G × (Nat → ClassId) × Nat
def xv (φ : Nat → Nat) : Value → Value
  | .ref i => .ref (φ i)
  | v => v
def xo (rs : List (Option Nat)) (k : Nat) : Option Nat := match xn rs k with
  | some r => r
  | none => none
theorem xrf_eq (g : xG) (o k : Nat) : xrf g o k = match xn g.1 o with | some a => xo a.2.2 k | none => none := rfl
def xfv (φ : Nat → Nat) (I : Nat → Int32) (J : Nat → Int64) (rs : List (Option Nat)) (t k : Nat) : Value := match t with
  | 2 => .long (J k)
  | 3 => va_rf ((xo rs k).map φ)
  | _ => .int (I k)
def xtf (ci k : Nat) : Nat := match xn xft ci with
  | some l => match xn l k with
    | some t => t
    | none => 0
  | none => 0
def xnf (ci : Nat) : Nat := match xn xft ci with
  | some l => l.length
  | none => 0
def xfs (φ : Nat → Nat) (I : Nat → Int32) (J : Nat → Int64) (a : xO) : List Value := (List.range a.2.1).map (fun k => xfv φ I J a.2.2 (xtf a.1 k) k)
def xE (φ : Nat → Nat) (ca : Nat → ClassId) (I : Nat → Int32) (J : Nat → Int64) (a : xO) : va_E :=
  if a.1 < 13 then .inr (a.1, xfs φ I J a) else if a.1 = 15 then .inl (ca a.1, a.2.1, .inr (.inl J)) else if 17 ≤ a.1 then .inl (ca a.1, a.2.1, .inr (.inr (.inr (.inr (fun k => (xo a.2.2 k).map φ))))) else .inl (ca a.1, a.2.1, .inl I)
def xw (φ : Nat → Nat) (ca : Nat → ClassId) (σ : xS) : va_W := σ.1.1.mapIdx (fun i a => (φ i, xE φ ca (σ.2.1 i) (σ.2.2 i) a))
def xld (n q : Nat) : Prop := q < n ∨ 1000000 ≤ q
def xvd (n : Nat) (v : Value) : Prop := ∀ q, v = .ref q → xld n q
def xwf (σ : xS) : Prop := σ.1.1.length ≤ 1000 ∧ ∀ (i : Nat) (a : xO), σ.1.1[i]? = some a → ((a.1 < 13 ∧ a.2.1 = xnf a.1 ∧ a.2.2.length = a.2.1) ∨ (13 ≤ a.1 ∧ a.1 ≤ 18 ∧ (17 ≤ a.1 → a.2.2.length = a.2.1))) ∧ ∀ k q, xo a.2.2 k = some q → xld σ.1.1.length q
theorem xw_at {φ : Nat → Nat} {ca : Nat → ClassId} {σ : xS} {i : Nat} {a : xO} (h : σ.1.1[i]? = some a) : (xw φ ca σ)[i]? = some (φ i, xE φ ca (σ.2.1 i) (σ.2.2 i) a) := by
  unfold xw
  rw [List.getElem?_mapIdx, h]
  rfl
theorem xw_len {φ : Nat → Nat} {ca : Nat → ClassId} {σ : xS} : (xw φ ca σ).length = σ.1.1.length := by simp [xw]
theorem xu_ne {α : Type} {f : Nat → Nat → α} {o k j : Nat} {v : α} (h : j ≠ o) : xu f o k v j = f j := by
  funext b
  simp [xu, h]
theorem xu_eq {α : Type} {f : Nat → Nat → α} {o k : Nat} {v : α} : xu f o k v o = fun b => if b = k then v else f o b := by
  funext b
  simp [xu]
theorem xw_set {φ : Nat → Nat} {ca : Nat → ClassId} {σ : xS} {g : List xO} {I : Nat → Nat → Int32} {J : Nat → Nat → Int64} {w : Nat × Nat} {o : Nat} {a b : xO} (h : σ.1.1[o]? = some a) (hg : g = σ.1.1.set o b) (hI : ∀ j, j ≠ o → I j = σ.2.1 j) (hJ : ∀ j, j ≠ o → J j = σ.2.2 j) : xw φ ca ((g, w), I, J) = (xw φ ca σ).set o (φ o, xE φ ca (I o) (J o) b) := by
  subst hg
  have hl := (List.getElem?_eq_some_iff.mp h).1
  apply List.ext_getElem?
  intro j
  unfold xw
  dsimp only
  by_cases hj : j = o
  · subst hj
    rw [List.getElem?_mapIdx, List.getElem?_set_self hl, List.getElem?_set_self (by simpa using hl)]
    rfl
  · rw [List.getElem?_mapIdx, List.getElem?_set_ne (Ne.symm hj), List.getElem?_set_ne (Ne.symm hj), List.getElem?_mapIdx, hI j hj, hJ j hj]
theorem xself {l : List xO} {o : Nat} {a : xO} (h : l[o]? = some a) : l = l.set o a := by
  apply List.ext_getElem?
  intro j
  by_cases hj : j = o
  · subst hj
    rw [List.getElem?_set_self (List.getElem?_eq_some_iff.mp h).1, h]
  · rw [List.getElem?_set_ne (Ne.symm hj)]
theorem xfv_congr {φ φ' : Nat → Nat} {I : Nat → Int32} {J : Nat → Int64} {rs : List (Option Nat)} {t k : Nat} (h : ∀ q, xo rs k = some q → φ' q = φ q) : xfv φ' I J rs t k = xfv φ I J rs t k := by
  unfold xfv
  split
  · rfl
  · cases e : xo rs k with
    | none => rfl
    | some q => simp [h q e]
  · rfl
theorem xE_congr {φ φ' : Nat → Nat} {ca : Nat → ClassId} {I : Nat → Int32} {J : Nat → Int64} {a : xO} (h : ∀ k q, xo a.2.2 k = some q → φ' q = φ q) : xE φ' ca I J a = xE φ ca I J a := by
  have e1 : xfs φ' I J a = xfs φ I J a := List.map_congr_left (fun k _ => xfv_congr (h k))
  have e2 : (fun k => (xo a.2.2 k).map φ') = (fun k => (xo a.2.2 k).map φ) := by
    funext k
    cases e : xo a.2.2 k with
    | none => rfl
    | some q => simp [h k q e]
  unfold xE
  rw [e1, e2]
theorem xw_ext {φ φ' : Nat → Nat} {ca : Nat → ClassId} {σ : xS} (hw : xwf σ) (h : ∀ q, xld σ.1.1.length q → φ' q = φ q) : xw φ' ca σ = xw φ ca σ := by
  apply List.ext_getElem?
  intro j
  unfold xw
  rw [List.getElem?_mapIdx, List.getElem?_mapIdx]
  cases e : σ.1.1[j]? with
  | none => rfl
  | some a =>
    have hl := (List.getElem?_eq_some_iff.mp e).1
    simp only [Option.map_some]
    rw [h j (Or.inl hl), xE_congr (fun k q hq => h q ((hw.2 j a e).2 k q hq))]
theorem xo_ge {rs : List (Option Nat)} {k : Nat} (h : rs.length ≤ k) : xo rs k = none := by
  unfold xo
  rw [xn_eq, List.getElem?_eq_none h]
theorem xo_rep (n k : Nat) : xo (List.replicate n none) k = none := by
  unfold xo
  rw [xn_eq]
  by_cases h : k < n
  · simp [h]
  · rw [List.getElem?_eq_none (by simp; omega)]
theorem xz_ne {α : Type} {f : Nat → Nat → α} {o n j : Nat} {v : α} (h : j < o ∨ o + n ≤ j) : xz f o n v j = f j := by
  funext b
  simp only [xz]
  rw [if_neg (by omega)]
theorem xz_eq {α : Type} {f : Nat → Nat → α} {o n j : Nat} {v : α} (h : o ≤ j) (h2 : j < o + n) : xz f o n v j = fun _ => v := by
  funext b
  simp only [xz]
  rw [if_pos ⟨h, h2⟩]
theorem xw_app {φ : Nat → Nat} {ca : Nat → ClassId} {σ : xS} {r : List xO} {I : Nat → Nat → Int32} {J : Nat → Nat → Int64} {w : Nat × Nat} (hI : ∀ j, j < σ.1.1.length → I j = σ.2.1 j) (hJ : ∀ j, j < σ.1.1.length → J j = σ.2.2 j) : xw φ ca ((σ.1.1 ++ r, w), I, J) = xw φ ca σ ++ r.mapIdx (fun i a => (φ (i + σ.1.1.length), xE φ ca (I (i + σ.1.1.length)) (J (i + σ.1.1.length)) a)) := by
  unfold xw
  dsimp only
  rw [List.mapIdx_append]
  congr 1
  apply List.ext_getElem?
  intro j
  rw [List.getElem?_mapIdx, List.getElem?_mapIdx]
  cases e : σ.1.1[j]? with
  | none => rfl
  | some a =>
    have hl := (List.getElem?_eq_some_iff.mp e).1
    simp only [Option.map_some]
    rw [hI j hl, hJ j hl]
/-- the array types that the worlds know, by kind -/
def xtys (ca : Nat → ClassId) : List (ClassId × FieldType) := [(ca 13, .byte), (ca 14, .int), (ca 15, .long), (ca 16, .boolean), (ca 17, .object RX8), (ca 18, .array .int)]
theorem xis_at {g : xG} {ci o : Nat} (h : xis g ci o = true) : ∃ a, g.1[o]? = some a ∧ a.1 = ci := by
  unfold xis at h
  rw [xn_eq] at h
  cases e : g.1[o]? with
  | none => rw [e] at h; cases h
  | some a => rw [e] at h; exact ⟨a, rfl, Nat.eq_of_beq_eq_true h⟩
theorem xlen_at {g : xG} {kd r : Nat} {i : Int32} (h : xin i (xlen g kd r) = true) (hk : ¬ (kd = 14 ∧ r = 1000000)) : ∃ a, g.1[r]? = some a ∧ a.1 = kd ∧ xin i a.2.1 = true := by
  have hpos : 0 < xlen g kd r := by
    simp only [xin, Bool.and_eq_true, Nat.blt_eq] at h
    omega
  unfold xlen at h hpos
  rw [xn_eq] at h hpos
  cases e : g.1[r]? with
  | none =>
    rw [e] at hpos
    have : (Nat.beq kd 14 && Nat.beq r 1000000) = false := by
      cases q : (Nat.beq kd 14 && Nat.beq r 1000000) with
      | false => rfl
      | true =>
        simp only [Bool.and_eq_true] at q
        exact absurd ⟨Nat.eq_of_beq_eq_true q.1, Nat.eq_of_beq_eq_true q.2⟩ hk
    simp [this] at hpos
  | some a =>
    rw [e] at h hpos
    cases q : Nat.beq a.1 kd with
    | false => simp [q] at hpos
    | true => exact ⟨a, rfl, Nat.eq_of_beq_eq_true q, by simpa [q] using h⟩
theorem xin_vp {i : Int32} {n : Nat} (h : xin i n = true) : vp_in i n := by
  simp only [xin, Bool.and_eq_true, Bool.not_eq_true', decide_eq_false_iff_not, Nat.blt_eq] at h
  rintro (q | q)
  · exact h.1 q
  · omega
theorem xlen_is {g : xG} {kd r n : Nat} {a : xO} (h : g.1[r]? = some a) (hk : a.1 = kd) : xlen g kd r = a.2.1 := by
  unfold xlen
  rw [xn_eq, h]
  simp [hk]
theorem xE_o {φ : Nat → Nat} {ca : Nat → ClassId} {I : Nat → Int32} {J : Nat → Int64} {a : xO} (h : a.1 < 13) : xE φ ca I J a = .inr (a.1, xfs φ I J a) := by unfold xE; rw [if_pos h]
theorem xE_i {φ : Nat → Nat} {ca : Nat → ClassId} {I : Nat → Int32} {J : Nat → Int64} {a : xO} (h : a.1 = 13 ∨ a.1 = 14 ∨ a.1 = 16) : xE φ ca I J a = .inl (ca a.1, a.2.1, .inl I) := by
  unfold xE
  rw [if_neg (by omega), if_neg (by omega), if_neg (by omega)]
theorem xE_j {φ : Nat → Nat} {ca : Nat → ClassId} {I : Nat → Int32} {J : Nat → Int64} {a : xO} (h : a.1 = 15) : xE φ ca I J a = .inl (ca a.1, a.2.1, .inr (.inl J)) := by
  unfold xE
  rw [if_neg (by omega), if_pos h]
theorem xE_q {φ : Nat → Nat} {ca : Nat → ClassId} {I : Nat → Int32} {J : Nat → Int64} {a : xO} (h : 17 ≤ a.1) : xE φ ca I J a = .inl (ca a.1, a.2.1, .inr (.inr (.inr (.inr (fun k => (xo a.2.2 k).map φ))))) := by
  unfold xE
  rw [if_neg (by omega), if_neg (by omega), if_pos h]
theorem xfs_at {φ : Nat → Nat} {I : Nat → Int32} {J : Nat → Int64} {a : xO} {k : Nat} (h : k < a.2.1) : (xfs φ I J a)[k]? = some (xfv φ I J a.2.2 (xtf a.1 k) k) := by
  unfold xfs
  simp [h]
theorem xfs_len {φ : Nat → Nat} {I : Nat → Int32} {J : Nat → Int64} {a : xO} : (xfs φ I J a).length = a.2.1 := by simp [xfs]
/-- a field is written -/
theorem xfs_set {φ : Nat → Nat} {I I' : Nat → Int32} {J J' : Nat → Int64} {a b : xO} {k : Nat} {v : Value} (h1 : b.1 = a.1) (h2 : b.2.1 = a.2.1) (hk : k < a.2.1) (hv : xfv φ I' J' b.2.2 (xtf a.1 k) k = v) (ho : ∀ j, j ≠ k → xfv φ I' J' b.2.2 (xtf a.1 j) j = xfv φ I J a.2.2 (xtf a.1 j) j) : xfs φ I' J' b = (xfs φ I J a).set k v := by
  apply List.ext_getElem?
  intro j
  by_cases hj : j = k
  · subst hj
    rw [List.getElem?_set_self (by rw [xfs_len]; exact hk), xfs_at (by rw [h2]; exact hk), h1, hv]
  · rw [List.getElem?_set_ne (Ne.symm hj)]
    by_cases hl : j < a.2.1
    · rw [xfs_at (by rw [h2]; exact hl), xfs_at hl, h1, ho j hj]
    · rw [List.getElem?_eq_none (by rw [xfs_len]; omega), List.getElem?_eq_none (by rw [xfs_len]; omega)]
-- what stays well formed
theorem xwf_m {g : xG} {m m' : (Nat → Nat → Int32) × (Nat → Nat → Int64)} (h : xwf (g, m)) : xwf (g, m') := h
theorem xsr_eq {l : List xO} {o k q : Nat} {a : xO} (h : l[o]? = some a) : xsr l o k q = l.set o (a.1, a.2.1, a.2.2.set k (some q)) := by
  unfold xsr
  rw [xn_eq, h]
theorem xo_set {rs : List (Option Nat)} {k j q : Nat} : xo (rs.set k (some q)) j = if j = k ∧ k < rs.length then some q else xo rs j := by
  unfold xo
  rw [xn_eq, xn_eq]
  by_cases hj : j = k
  · subst hj
    by_cases hl : j < rs.length
    · simp [hl]
    · rw [if_neg (by omega), List.getElem?_eq_none (by simp; omega), List.getElem?_eq_none (by omega)]
  · rw [List.getElem?_set_ne (Ne.symm hj), if_neg (by omega)]
theorem xwf_sr {l : List xO} {w : Nat × Nat} {m m' : (Nat → Nat → Int32) × (Nat → Nat → Int64)} {o k q : Nat} (h : xwf ((l, w), m)) (hq : xld l.length q) : xwf ((xsr l o k q, w), m') := by
  refine ⟨by rw [xsr_len]; exact h.1, fun i a hi => ?_⟩
  dsimp only at hi ⊢
  rw [xsr_len]
  cases e : l[o]? with
  | none =>
    have : xsr l o k q = l := by unfold xsr; rw [xn_eq, e]
    rw [this] at hi
    exact h.2 i a hi
  | some b =>
    rw [xsr_eq e] at hi
    by_cases hio : i = o
    · subst hio
      rw [List.getElem?_set_self (List.getElem?_eq_some_iff.mp e).1] at hi
      cases hi
      obtain ⟨g1, g2⟩ := h.2 i b e
      refine ⟨?_, fun j r hr => ?_⟩
      · simpa using g1
      · dsimp only at hr
        rw [xo_set] at hr
        split at hr
        · cases hr; exact hq
        · exact g2 j r hr
    · rw [List.getElem?_set_ne (Ne.symm hio)] at hi
      exact h.2 i a hi
theorem xld_mono {n n' q : Nat} (h : xld n q) (hn : n ≤ n') : xld n' q := by
  unfold xld at *
  omega
theorem xwf_app {l r : List xO} {w : Nat × Nat} {m m' : (Nat → Nat → Int32) × (Nat → Nat → Int64)} (h : xwf ((l, w), m)) (hl : (l ++ r).length ≤ 1000) (hr : ∀ (i : Nat) (a : xO), r[i]? = some a → ((a.1 < 13 ∧ a.2.1 = xnf a.1 ∧ a.2.2.length = a.2.1) ∨ (13 ≤ a.1 ∧ a.1 ≤ 18 ∧ (17 ≤ a.1 → a.2.2.length = a.2.1))) ∧ ∀ k q, xo a.2.2 k = some q → xld (l ++ r).length q) : xwf ((l ++ r, w), m') := by
  refine ⟨hl, fun i a hi => ?_⟩
  dsimp only at hi ⊢
  by_cases hil : i < l.length
  · rw [List.getElem?_append_left hil] at hi
    obtain ⟨g1, g2⟩ := h.2 i a hi
    exact ⟨g1, fun k q hq => xld_mono (g2 k q hq) (by simp)⟩
  · rw [List.getElem?_append_right (by omega)] at hi
    exact hr _ a hi
-- locals
def xlr (φ : Nat → Nat) (ls : List Value) (M : Array Slot) (n : Nat) : Prop := M.size = n ∧ lv_wf M ∧ ls.length = n ∧ ∀ (i : Nat) (v : Value), ls[i]? = some v → (∀ b, v ≠ .float b) → M[i]? = some (.val (xv φ v))
def xlv (φ : Nat → Nat) : Nat → List Value → List (Nat × Value)
  | _, [] => []
  | i, .float _ :: l => xlv φ (i + 1) l
  | i, v :: l => (i, xv φ v) :: xlv φ (i + 1) l
def xok' (n : Nat) (l : List Value) : Prop := ∀ v ∈ l, xvd n v
theorem xv_ext {φ φ' : Nat → Nat} {n : Nat} {v : Value} (hv : xvd n v) (h : ∀ q, xld n q → φ' q = φ q) : xv φ' v = xv φ v := by
  cases v <;> first | rfl | (simp only [xv]; rw [h _ (hv _ rfl)])
theorem xvs_ext {φ φ' : Nat → Nat} {n : Nat} {l : List Value} (hv : xok' n l) (h : ∀ q, xld n q → φ' q = φ q) : l.map (xv φ') = l.map (xv φ) := List.map_congr_left (fun v hm => xv_ext (hv v hm) h)
theorem xlr_ext {φ φ' : Nat → Nat} {ls : List Value} {M : Array Slot} {n k : Nat} (hl : xlr φ ls M n) (hv : xok' k ls) (h : ∀ q, xld k q → φ' q = φ q) : xlr φ' ls M n :=
  ⟨hl.1, hl.2.1, hl.2.2.1, fun i v hi hf => by rw [xv_ext (hv v (List.mem_of_getElem? hi)) h]; exact hl.2.2.2 i v hi hf⟩
theorem xok_mono {n n' : Nat} {l : List Value} (h : xok' n l) (hn : n ≤ n') : xok' n' l := fun v hv q hq => xld_mono (h v hv q hq) hn
theorem xok_cons {n : Nat} {v : Value} {l : List Value} : xok' n (v :: l) ↔ xvd n v ∧ xok' n l := List.forall_mem_cons
theorem xvd_i {n : Nat} {x : Int32} : xvd n (.int x) := fun _ h => by cases h
theorem xvd_j {n : Nat} {x : Int64} : xvd n (.long x) := fun _ h => by cases h
theorem xvd_f {n : Nat} {x : UInt32} : xvd n (.float x) := fun _ h => by cases h
theorem xvd_r {n q : Nat} (h : xld n q) : xvd n (.ref q) := fun _ e => by cases e; exact h
theorem xok_set {n k : Nat} {v : Value} {l : List Value} (h : xok' n l) (hv : xvd n v) : xok' n (l.set k v) := fun w hw => by
  rcases List.mem_or_eq_of_mem_set hw with h1 | h1
  · exact h w h1
  · rw [h1]; exact hv
theorem xv_cat (φ : Nat → Nat) (v : Value) : (xv φ v).category = v.category := by cases v <;> rfl
theorem xcat_map (φ : Nat → Nat) (l : List Value) : ((l.map (xv φ)).map fun v => v.category).sum = xcat l := by
  induction l with
  | nil => rfl
  | cons v l ih => simp only [List.map_cons, List.sum_cons, xcat, xv_cat, ih]
