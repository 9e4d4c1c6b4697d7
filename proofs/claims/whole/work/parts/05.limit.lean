/-! The interpreter's limit: no fuel in equations. -/
def xcnt (σ : xS) : Nat := σ.1.1.length + σ.1.2.1
def xsum : List xO → Nat
  | [] => 0
  | a :: l => a.2.1 + xsum l
def xslt (σ : xS) : Nat := xsum σ.1.1 + 6 * σ.1.2.1
def xle (σ σ' : xS) : Prop := xcnt σ ≤ xcnt σ' ∧ xslt σ ≤ xslt σ'
theorem xle_r (σ : xS) : xle σ σ := ⟨Nat.le_refl _, Nat.le_refl _⟩
theorem xle_t {a b c : xS} (h : xle a b) (h' : xle b c) : xle a c := ⟨Nat.le_trans h.1 h'.1, Nat.le_trans h.2 h'.2⟩
theorem xle_m {g : xG} {m m' : (Nat → Nat → Int32) × (Nat → Nat → Int64)} : xle (g, m) (g, m') := ⟨Nat.le_refl _, Nat.le_refl _⟩
theorem xsum_app (a b : List xO) : xsum (a ++ b) = xsum a + xsum b := by
  induction a with
  | nil => simp [xsum]
  | cons x a ih => simp [xsum, ih, Nat.add_assoc]
theorem xle_app {l l' : List xO} {q : Nat × Nat} {m m' : (Nat → Nat → Int32) × (Nat → Nat → Int64)} : xle ((l, q), m) ((l ++ l', q), m') := by
  constructor
  · simp only [xcnt, List.length_append]; omega
  · simp only [xslt, xsum_app]; omega
theorem xn_eq {α : Type} (l : List α) (k : Nat) : xn l k = l[k]? := by
  induction l generalizing k with
  | nil => simp [xn]
  | cons a l ih => cases k with
    | zero => simp [xn]
    | succ k => simp [xn, ih]
theorem xsum_set {l : List xO} {o : Nat} {a b : xO} (h : l[o]? = some a) (hb : b.2.1 = a.2.1) : xsum (l.set o b) = xsum l := by
  induction l generalizing o with
  | nil => simp at h
  | cons c l ih => cases o with
    | zero =>
      simp at h
      subst h
      simp [xsum, hb]
    | succ o =>
      simp at h
      simp [xsum, ih h]
theorem xsr_len (l : List xO) (o k q : Nat) : (xsr l o k q).length = l.length := by
  unfold xsr
  split <;> simp
theorem xsr_sum (l : List xO) (o k q : Nat) : xsum (xsr l o k q) = xsum l := by
  unfold xsr
  split
  · next a h => exact xsum_set (a := a) (by rw [← xn_eq]; exact h) rfl
  · rfl
theorem xle_sr {l : List xO} {o k q : Nat} {w : Nat × Nat} {m m' : (Nat → Nat → Int32) × (Nat → Nat → Int64)} : xle ((l, w), m) ((xsr l o k q, w), m') := by
  constructor
  · simp only [xcnt, xsr_len]; omega
  · simp only [xslt, xsr_sum]; omega
def xU (σ0 : xS) (F : xCF → xKB → xK → Option xOut) : Prop :=
  (∀ cf kb k, F cf kb k = none) ∨ (∃ v σ, xle σ0 σ ∧ ∀ cf kb k, F cf kb k = some (v, σ)) ∨ (∃ ls st σ, xle σ0 σ ∧ ∀ cf kb k, F cf kb k = k ls st σ) ∨
  (∃ b ls st σ, xle σ0 σ ∧ ∀ cf kb k, F cf kb k = kb b ls st σ) ∨ (∃ mid as ls rest rt, ∀ cf kb k, F cf kb k = xret rt (cf mid as σ0) (fun vs => k ls (vs ++ rest)))
section XU
variable {σ0 : xS} {F G : xCF → xKB → xK → Option xOut}
theorem xU_n : xU σ0 (fun _ _ _ => none) := Or.inl (fun _ _ _ => rfl)
theorem xU_o {v : Option Value} {σ : xS} (h : xle σ0 σ) : xU σ0 (fun _ _ _ => some (v, σ)) := Or.inr (Or.inl ⟨v, σ, h, fun _ _ _ => rfl⟩)
theorem xU_k {ls st : List Value} {σ : xS} (h : xle σ0 σ) : xU σ0 (fun _ _ k => k ls st σ) := Or.inr (Or.inr (Or.inl ⟨ls, st, σ, h, fun _ _ _ => rfl⟩))
theorem xU_b {b : Nat} {ls st : List Value} {σ : xS} (h : xle σ0 σ) : xU σ0 (fun _ kb _ => kb b ls st σ) := Or.inr (Or.inr (Or.inr (Or.inl ⟨b, ls, st, σ, h, fun _ _ _ => rfl⟩)))
theorem xU_c {mid rt : Nat} {as ls rest : List Value} : xU σ0 (fun cf _ k => xret rt (cf mid as σ0) (fun vs => k ls (vs ++ rest))) := Or.inr (Or.inr (Or.inr (Or.inr ⟨mid, as, ls, rest, rt, fun _ _ _ => rfl⟩)))
theorem xU_bif {c : Bool} (h1 : xU σ0 F) (h2 : xU σ0 G) : xU σ0 (fun cf kb k => bif c then F cf kb k else G cf kb k) := by cases c <;> assumption
theorem xU_ite {c : Prop} [Decidable c] (h1 : xU σ0 F) (h2 : xU σ0 G) : xU σ0 (fun cf kb k => if c then F cf kb k else G cf kb k) := by
  by_cases h : c
  · simp only [h, if_true]; exact h1
  · simp only [h, if_false]; exact h2
end XU
section XU2
variable (ls st : List Value) (σ : xS)
theorem xU_x2 (f : Int32 → Int32 → Int32) : xU σ (fun _ _ k => x2 f ls st σ k) := by
  rcases st with _ | ⟨v, _ | ⟨w, r⟩⟩
  · exact xU_n
  · cases v <;> exact xU_n
  · cases v <;> first | exact xU_n | (cases w <;> first | exact xU_n | exact xU_k (xle_r σ))
theorem xU_x2d (f : Int32 → Int32 → Int32) : xU σ (fun _ _ k => x2d f ls st σ k) := by
  rcases st with _ | ⟨v, _ | ⟨w, r⟩⟩
  · exact xU_n
  · cases v <;> exact xU_n
  · cases v <;> first | exact xU_n | (cases w <;> first | exact xU_n | exact xU_ite xU_n (xU_k (xle_r σ)))
theorem xU_x2l (f : Int64 → Int64 → Int64) : xU σ (fun _ _ k => x2l f ls st σ k) := by
  rcases st with _ | ⟨v, _ | ⟨w, r⟩⟩
  · exact xU_n
  · cases v <;> exact xU_n
  · cases v <;> first | exact xU_n | (cases w <;> first | exact xU_n | exact xU_k (xle_r σ))
theorem xU_x2s (f : Int64 → Int32 → Int64) : xU σ (fun _ _ k => x2s f ls st σ k) := by
  rcases st with _ | ⟨v, _ | ⟨w, r⟩⟩
  · exact xU_n
  · cases v <;> exact xU_n
  · cases v <;> first | exact xU_n | (cases w <;> first | exact xU_n | exact xU_k (xle_r σ))
theorem xU_xcm : xU σ (fun _ _ k => xcm ls st σ k) := by
  rcases st with _ | ⟨v, _ | ⟨w, r⟩⟩
  · exact xU_n
  · cases v <;> exact xU_n
  · cases v <;> first | exact xU_n | (cases w <;> first | exact xU_n | exact xU_k (xle_r σ))
theorem xU_xil : xU σ (fun _ _ k => xil ls st σ k) := by
  rcases st with _ | ⟨v, r⟩
  · exact xU_n
  · cases v <;> first | exact xU_n | exact xU_k (xle_r σ)
theorem xU_xli : xU σ (fun _ _ k => xli ls st σ k) := by
  rcases st with _ | ⟨v, r⟩
  · exact xU_n
  · cases v <;> first | exact xU_n | exact xU_k (xle_r σ)
theorem xU_xib : xU σ (fun _ _ k => xib ls st σ k) := by
  rcases st with _ | ⟨v, r⟩
  · exact xU_n
  · cases v <;> first | exact xU_n | exact xU_k (xle_r σ)
theorem xU_xdp : xU σ (fun _ _ k => xdp ls st σ k) := by
  rcases st with _ | ⟨v, r⟩
  · exact xU_n
  · exact xU_bif (xU_k (xle_r σ)) xU_n
theorem xU_xpp : xU σ (fun _ _ k => xpp ls st σ k) := by
  rcases st with _ | ⟨v, r⟩
  · exact xU_n
  · exact xU_bif (xU_k (xle_r σ)) xU_n
theorem xU_xd2 : xU σ (fun _ _ k => xd2 ls st σ k) := by
  rcases st with _ | ⟨v, _ | ⟨w, r⟩⟩
  · exact xU_n
  · exact xU_n
  · exact xU_bif (xU_k (xle_r σ)) xU_n
theorem xU_xldI (n : Nat) : xU σ (fun _ _ k => xldI n ls st σ k) := by
  unfold xldI
  generalize xn ls n = o
  rcases o with _ | v
  · exact xU_n
  · cases v <;> first | exact xU_n | exact xU_k (xle_r σ)
theorem xU_xldJ (n : Nat) : xU σ (fun _ _ k => xldJ n ls st σ k) := by
  unfold xldJ
  generalize xn ls n = o
  rcases o with _ | v
  · exact xU_n
  · cases v <;> first | exact xU_n | exact xU_k (xle_r σ)
theorem xU_xldR (n : Nat) : xU σ (fun _ _ k => xldR n ls st σ k) := by
  unfold xldR
  generalize xn ls n = o
  rcases o with _ | v
  · exact xU_n
  · cases v <;> first | exact xU_n | exact xU_k (xle_r σ)
theorem xU_xinc (n : Nat) (d : Int32) : xU σ (fun _ _ k => xinc n d ls st σ k) := by
  unfold xinc
  generalize xn ls n = o
  rcases o with _ | v
  · exact xU_n
  · cases v <;> first | exact xU_n | exact xU_bif (xU_k (xle_r σ)) xU_n
theorem xU_xstI (n : Nat) : xU σ (fun _ _ k => xstI n ls st σ k) := by
  rcases st with _ | ⟨v, r⟩
  · exact xU_n
  · cases v <;> first | exact xU_n | exact xU_bif (xU_k (xle_r σ)) xU_n
theorem xU_xstJ (n : Nat) : xU σ (fun _ _ k => xstJ n ls st σ k) := by
  rcases st with _ | ⟨v, r⟩
  · exact xU_n
  · cases v <;> first | exact xU_n | exact xU_bif (xU_k (xle_r σ)) xU_n
theorem xU_xstR (n : Nat) : xU σ (fun _ _ k => xstR n ls st σ k) := by
  rcases st with _ | ⟨v, r⟩
  · exact xU_n
  · cases v <;> first | exact xU_n | exact xU_bif (xU_k (xle_r σ)) xU_n
theorem xU_opt {σ : xS} (o : Option Nat) {F : Nat → xCF → xKB → xK → Option xOut} (h : ∀ q, xU σ (F q)) : xU σ (fun cf kb k => match o with | some q => F q cf kb k | none => none) := by
  cases o with
  | none => exact xU_n
  | some q => exact h q
theorem xU_xldA : xU σ (fun _ _ k => xldA ls st σ k) := by
  rcases st with _ | ⟨v, _ | ⟨w, r⟩⟩
  · exact xU_n
  · cases v <;> exact xU_n
  · cases v <;> first | exact xU_n | (cases w <;> first | exact xU_n | exact xU_bif (xU_k (xle_r σ)) xU_n)
theorem xU_xldB : xU σ (fun _ _ k => xldB ls st σ k) := by
  rcases st with _ | ⟨v, _ | ⟨w, r⟩⟩
  · exact xU_n
  · cases v <;> exact xU_n
  · cases v <;> first | exact xU_n | (cases w <;> first | exact xU_n | exact xU_bif (xU_k (xle_r σ)) xU_n)
theorem xU_xldL : xU σ (fun _ _ k => xldL ls st σ k) := by
  rcases st with _ | ⟨v, _ | ⟨w, r⟩⟩
  · exact xU_n
  · cases v <;> exact xU_n
  · cases v <;> first | exact xU_n | (cases w <;> first | exact xU_n | exact xU_bif (xU_bif (xU_k (xle_r σ)) xU_n) (xU_bif (xU_k (xle_r σ)) xU_n))
theorem xU_xldQ : xU σ (fun _ _ k => xldQ ls st σ k) := by
  rcases st with _ | ⟨v, _ | ⟨w, r⟩⟩
  · exact xU_n
  · cases v <;> exact xU_n
  · cases v <;> first | exact xU_n | (cases w <;> first | exact xU_n | exact xU_bif (xU_opt _ (fun q => xU_k (xle_r σ))) xU_n)
theorem xU_xstA : xU σ (fun _ _ k => xstA ls st σ k) := by
  rcases st with _ | ⟨v, _ | ⟨w, _ | ⟨u, r⟩⟩⟩
  · exact xU_n
  · cases v <;> exact xU_n
  · cases v <;> first | exact xU_n | (cases w <;> exact xU_n)
  · cases v <;> first | exact xU_n | (cases w <;> first | exact xU_n | (cases u <;> first | exact xU_n | exact xU_bif (xU_k xle_m) xU_n))
theorem xU_xstB : xU σ (fun _ _ k => xstB ls st σ k) := by
  rcases st with _ | ⟨v, _ | ⟨w, _ | ⟨u, r⟩⟩⟩
  · exact xU_n
  · cases v <;> exact xU_n
  · cases v <;> first | exact xU_n | (cases w <;> exact xU_n)
  · cases v <;> first | exact xU_n | (cases w <;> first | exact xU_n | (cases u <;> first | exact xU_n | exact xU_bif (xU_k xle_m) (xU_bif (xU_k xle_m) xU_n)))
theorem xU_xstL : xU σ (fun _ _ k => xstL ls st σ k) := by
  rcases st with _ | ⟨v, _ | ⟨w, _ | ⟨u, r⟩⟩⟩
  · exact xU_n
  · cases v <;> exact xU_n
  · cases v <;> first | exact xU_n | (cases w <;> exact xU_n)
  · cases v <;> first | exact xU_n | (cases w <;> first | exact xU_n | (cases u <;> first | exact xU_n | exact xU_bif (xU_k xle_m) xU_n))
theorem xU_xstQ : xU σ (fun _ _ k => xstQ ls st σ k) := by
  rcases st with _ | ⟨v, _ | ⟨w, _ | ⟨u, r⟩⟩⟩
  · exact xU_n
  · cases v <;> exact xU_n
  · cases v <;> first | exact xU_n | (cases w <;> exact xU_n)
  · cases v <;> first | exact xU_n | (cases w <;> first | exact xU_n | (cases u <;> first | exact xU_n | exact xU_bif (xU_k xle_sr) xU_n))
theorem xU_xalen : xU σ (fun _ _ k => xalen ls st σ k) := by
  rcases st with _ | ⟨v, r⟩
  · exact xU_n
  · cases v <;> first
      | exact xU_n
      | (unfold xalen xal
         dsimp only
         generalize xn σ.1.1 _ = o
         cases o with
         | none => exact xU_bif (xU_k (xle_r σ)) (xU_bif (xU_k (xle_r σ)) xU_n)
         | some a => exact xU_bif (xU_k (xle_r σ)) xU_n)
theorem xU_xget (ops : List Nat) : xU σ (fun _ _ k => xget ops ls st σ k) := by
  unfold xget
  split
  · exact xU_bif (xU_k (xle_r σ)) xU_n
  · exact xU_bif (xU_k (xle_r σ)) xU_n
  · exact xU_bif (xU_k (xle_r σ)) xU_n
  · exact xU_bif (xU_opt _ (fun q => xU_k (xle_r σ))) xU_n
  · exact xU_n
theorem xU_xput (ops : List Nat) : xU σ (fun _ _ k => xput ops ls st σ k) := by
  unfold xput
  split
  · exact xU_bif (xU_k xle_m) xU_n
  · exact xU_bif (xU_k xle_m) xU_n
  · exact xU_bif (xU_k xle_m) xU_n
  · exact xU_bif (xU_k xle_sr) xU_n
  · exact xU_n
theorem xU_xnew (ops : List Nat) : xU σ (fun _ _ k => xnew ops ls st σ k) := by
  unfold xnew
  split
  · exact xU_bif (xU_k xle_app) xU_n
  · exact xU_bif (xU_o ⟨by simp only [xcnt]; omega, by simp only [xslt]; omega⟩) xU_n
  · exact xU_n
theorem xU_xnewa (t : ArrayType) : xU σ (fun _ _ k => xnewa t ls st σ k) := by
  rcases st with _ | ⟨v, r⟩
  · exact xU_n
  · cases v <;> first | exact xU_n | exact xU_bif xU_n (xU_bif (xU_bif (xU_k xle_app) xU_n) xU_n)
theorem xU_xnewq : xU σ (fun _ _ k => xnewq ls st σ k) := by
  rcases st with _ | ⟨v, r⟩
  · exact xU_n
  · cases v <;> first | exact xU_n | exact xU_bif (xU_bif (xU_k xle_app) xU_n) xU_n
theorem xU_xnewm : xU σ (fun _ _ k => xnewm ls st σ k) := by
  rcases st with _ | ⟨v, _ | ⟨w, r⟩⟩
  · exact xU_n
  · cases v <;> exact xU_n
  · cases v <;> first | exact xU_n | (cases w <;> first | exact xU_n | exact xU_bif (xU_k xle_app) xU_n)
theorem xU_xldc (v : Int32) (ops : List Nat) : xU σ (fun _ _ k => xldc v ops ls st σ k) := by
  cases ops <;> exact xU_k (xle_r σ)
theorem xU_xld2 (ops : List Nat) : xU σ (fun _ _ k => xld2 ops ls st σ k) := by
  cases ops <;> first | exact xU_n | exact xU_k (xle_r σ)
theorem xU_xif (cd : Jvm.ClassFile.Cond) (t : Nat) : xU σ (fun _ kb k => xif cd t kb ls st σ k) := by
  rcases st with _ | ⟨v, r⟩
  · exact xU_n
  · cases v <;> first | exact xU_n | (cases cd <;> first | exact xU_ite (xU_b (xle_r σ)) (xU_k (xle_r σ)) | exact xU_ite (xU_k (xle_r σ)) (xU_b (xle_r σ)))
theorem xU_xic (cd : Jvm.ClassFile.Cond) (t : Nat) : xU σ (fun _ kb k => xic cd t kb ls st σ k) := by
  rcases st with _ | ⟨v, _ | ⟨w, r⟩⟩
  · exact xU_n
  · cases v <;> exact xU_n
  · cases v <;> first | exact xU_n | (cases w <;> first | exact xU_n | (cases cd <;> first | exact xU_ite (xU_b (xle_r σ)) (xU_k (xle_r σ)) | exact xU_ite (xU_k (xle_r σ)) (xU_b (xle_r σ))))
theorem xU_xsw (x : Int32) (tab : List (Int32 × Nat)) (d : Nat) : xU σ (fun _ kb _ => xsw x tab d kb ls st σ) := by
  induction tab with
  | nil => exact xU_b (xle_r σ)
  | cons a tab ih => exact xU_ite (xU_b (xle_r σ)) ih
theorem xU_xswt (tab : List (Int32 × Nat)) (d : Nat) : xU σ (fun _ kb _ => xswt tab d kb ls st σ) := by
  rcases st with _ | ⟨v, r⟩
  · exact xU_n
  · cases v <;> first | exact xU_n | exact xU_xsw _ _ _ _ _ _
theorem xU_xreI (z : List Nat) : xU σ (fun _ _ _ => xreI z st σ) := by
  rcases st with _ | ⟨v, _ | ⟨w, r⟩⟩
  · exact xU_n
  · cases v <;> first | exact xU_n | (cases z <;> first | exact xU_o (xle_r σ) | exact xU_bif (xU_o (xle_r σ)) xU_n)
  · cases v <;> exact xU_n
theorem xU_xreJ : xU σ (fun _ _ _ => xreJ st σ) := by
  rcases st with _ | ⟨v, _ | ⟨w, r⟩⟩
  · exact xU_n
  · cases v <;> first | exact xU_n | exact xU_o (xle_r σ)
  · cases v <;> exact xU_n
theorem xU_xreR : xU σ (fun _ _ _ => xreR st σ) := by
  rcases st with _ | ⟨v, _ | ⟨w, r⟩⟩
  · exact xU_n
  · cases v <;> first | exact xU_n | exact xU_o (xle_r σ)
  · cases v <;> exact xU_n
theorem xU_xreV : xU σ (fun _ _ _ => xreV st σ) := by
  rcases st with _ | ⟨v, r⟩
  · exact xU_o (xle_r σ)
  · exact xU_n
theorem xU_xob : xU σ (fun _ _ k => xob ls st σ k) := by
  rcases st with _ | ⟨v, r⟩
  · exact xU_n
  · cases v <;> first | exact xU_n | exact xU_bif (xU_k (xle_r σ)) xU_n
theorem xU_xmm (mx : Bool) : xU σ (fun _ _ k => xmm mx ls st σ k) := by
  rcases st with _ | ⟨v, _ | ⟨w, r⟩⟩
  · exact xU_n
  · cases v <;> exact xU_n
  · cases v <;> first | exact xU_n | (cases w <;> first | exact xU_n | exact xU_bif (xU_k (xle_r σ)) xU_n)
theorem xU_xcy : xU σ (fun _ _ k => xcy ls st σ k) := by
  unfold xcy
  split
  · exact xU_bif (xU_bif (xU_bif (xU_k xle_m) (xU_bif (xU_k xle_m) xU_n)) xU_n) xU_n
  · exact xU_n
theorem xU_pop {σ : xS} (n : Nat) (st : List Value) (as : List Value) {F : List Value → List Value → xCF → xKB → xK → Option xOut} (h : ∀ as rest, xU σ (F as rest)) : xU σ (fun cf kb k => xpop n st as (fun as rest => F as rest cf kb k)) := by
  induction n generalizing st as with
  | zero => exact h as st
  | succ n ih => cases st with
    | nil => exact xU_n
    | cons v st => exact ih st (v :: as)
theorem xU_xcall1 (mid n rt ci : Nat) : xU σ (fun cf _ k => xcall1 cf mid n rt ci ls st σ k) := by
  unfold xcall1
  exact xU_pop n st [] (F := fun as rest cf _ k => bif Nat.ble (xcat rest) 8 then (bif xrcv σ.1 ci as then xret rt (cf mid as σ) (fun vs => k ls (vs ++ rest)) else none) else none) (fun as rest => xU_bif (xU_bif xU_c xU_n) xU_n)
theorem xU_xinv (ops : List Nat) : xU σ (fun cf _ k => xinv cf ops ls st σ k) := by
  unfold xinv
  split
  · exact xU_xcall1 ls st σ _ _ _ _
  · exact xU_xob ls st σ
  · exact xU_xmm ls st σ true
  · exact xU_xmm ls st σ false
  · exact xU_xcy ls st σ
  · exact xU_n
theorem xU_one (i : xI) : xU σ (fun cf kb k => xone cf kb i ls st σ k) := by
  obtain ⟨ins, len, a, ops, tab⟩ := i
  cases ins
  all_goals first
    | exact xU_n
    | exact xU_k (xle_r σ)
    | exact xU_b (xle_r σ)
    | exact xU_xldc ls st σ a ops
    | exact xU_xld2 ls st σ ops
    | exact xU_xldI ls st σ _
    | exact xU_xldJ ls st σ _
    | exact xU_xldR ls st σ _
    | exact xU_xstI ls st σ _
    | exact xU_xstJ ls st σ _
    | exact xU_xstR ls st σ _
    | exact xU_xinc ls st σ _ a
    | exact xU_x2 ls st σ _
    | exact xU_x2d ls st σ _
    | exact xU_x2l ls st σ _
    | exact xU_x2s ls st σ _
    | exact xU_xcm ls st σ
    | exact xU_xil ls st σ
    | exact xU_xli ls st σ
    | exact xU_xib ls st σ
    | exact xU_xdp ls st σ
    | exact xU_xpp ls st σ
    | exact xU_xd2 ls st σ
    | exact xU_xldA ls st σ
    | exact xU_xldB ls st σ
    | exact xU_xldL ls st σ
    | exact xU_xldQ ls st σ
    | exact xU_xstA ls st σ
    | exact xU_xstB ls st σ
    | exact xU_xstL ls st σ
    | exact xU_xstQ ls st σ
    | exact xU_xalen ls st σ
    | exact xU_xget ls st σ ops
    | exact xU_xput ls st σ ops
    | exact xU_xnew ls st σ ops
    | exact xU_xnewa ls st σ _
    | exact xU_xnewq ls st σ
    | exact xU_xnewm ls st σ
    | exact xU_xinv ls st σ ops
    | exact xU_xif ls st σ _ _
    | exact xU_xic ls st σ _ _
    | exact xU_xswt ls st σ tab _
    | exact xU_xreI st σ ops
    | exact xU_xreJ st σ
    | exact xU_xreR st σ
    | exact xU_xreV st σ
end XU2
theorem xret_cases (rt : Nat) (r : Option xOut) : (∀ c, xret rt r c = none) ∨ ∃ (v : Option Value) (σ : xS), r = some (v, σ) ∧ ∀ c, xret rt r c = c v.toList σ := by
  rcases r with _ | ⟨v, σ⟩
  · left
    intro c
    unfold xret
    split <;> rfl
  · match rt with
    | 0 => cases v with
      | none => exact Or.inr ⟨none, σ, rfl, fun _ => rfl⟩
      | some v => left; intro c; cases v <;> rfl
    | 1 => cases v with
      | none => left; intro c; rfl
      | some v => cases v with
        | int x => exact Or.inr ⟨_, σ, rfl, fun _ => rfl⟩
        | _ => left; intro c; rfl
    | 2 => cases v with
      | none => left; intro c; rfl
      | some v => cases v with
        | long x => exact Or.inr ⟨_, σ, rfl, fun _ => rfl⟩
        | _ => left; intro c; rfl
    | n + 3 => cases v with
      | none => left; intro c; rfl
      | some v => cases v with
        | ref x => exact Or.inr ⟨_, σ, rfl, fun _ => rfl⟩
        | _ => left; intro c; rfl
theorem xexec_V (cf : xCF) (nx : Nat) : ∀ (is : List xI) (ls st : List Value) (σ : xS), (∃ r, ∀ kb, xexec cf kb nx is ls st σ = r) ∨ ∃ b ls' st' σ', ∀ kb, xexec cf kb nx is ls st σ = kb b ls' st' σ'
  | [], ls, st, σ => Or.inr ⟨nx, ls, st, σ, fun _ => rfl⟩
  | i :: is, ls, st, σ => by
    rcases xU_one ls st σ i with h | ⟨v, σ1, -, h⟩ | ⟨ls1, st1, σ1, -, h⟩ | ⟨b, ls1, st1, σ1, -, h⟩ | ⟨mid, as, ls1, rest, rt, h⟩
    · exact Or.inl ⟨none, fun kb => h cf kb _⟩
    · exact Or.inl ⟨_, fun kb => h cf kb _⟩
    · rcases xexec_V cf nx is ls1 st1 σ1 with ⟨r, hr⟩ | ⟨b, ls2, st2, σ2, hr⟩
      · exact Or.inl ⟨r, fun kb => (h cf kb _).trans (hr kb)⟩
      · exact Or.inr ⟨b, ls2, st2, σ2, fun kb => (h cf kb _).trans (hr kb)⟩
    · exact Or.inr ⟨b, ls1, st1, σ1, fun kb => h cf kb _⟩
    · rcases xret_cases rt (cf mid as σ) with h0 | ⟨v, σ1, -, h1⟩
      · exact Or.inl ⟨none, fun kb => (h cf kb _).trans (h0 _)⟩
      · rcases xexec_V cf nx is ls1 (v.toList ++ rest) σ1 with ⟨r, hr⟩ | ⟨b, ls2, st2, σ2, hr⟩
        · exact Or.inl ⟨r, fun kb => ((h cf kb _).trans (h1 _)).trans (hr kb)⟩
        · exact Or.inr ⟨b, ls2, st2, σ2, fun kb => ((h cf kb _).trans (h1 _)).trans (hr kb)⟩
theorem xbody_V (cf : xCF) (M : List xB) (b : Nat) (ls st : List Value) (σ : xS) : (∃ r, ∀ R, xbody cf M R b ls st σ = r) ∨ ∃ b' ls' st' σ', ∀ R, xbody cf M R b ls st σ = R b' ls' st' σ' := by
  unfold xbody
  generalize xn M b = o
  cases o with
  | none => exact Or.inl ⟨none, fun _ => rfl⟩
  | some B =>
    rcases xexec_V cf B.2.1 B.2.2 ls st σ with ⟨r, h⟩ | ⟨b, ls2, st2, σ2, h⟩
    · exact Or.inl ⟨r, fun R => h _⟩
    · exact Or.inr ⟨b, _, st2, σ2, fun R => h _⟩
theorem xloop_up (cf : xCF) (M : List xB) : ∀ (n b : Nat) (ls st : List Value) (σ : xS) (o : xOut), xloop cf M n b ls st σ = some o → xloop cf M (n + 1) b ls st σ = some o
  | 0, b, ls, st, σ, o, h => by cases h
  | n + 1, b, ls, st, σ, o, h => by
    rcases xbody_V cf M b ls st σ with ⟨r, hr⟩ | ⟨b', ls', st', σ', hr⟩
    · have e1 : xloop cf M (n + 1) b ls st σ = r := hr _
      have e2 : xloop cf M (n + 1 + 1) b ls st σ = r := hr _
      rw [e2, ← e1, h]
    · have e1 : xloop cf M (n + 1) b ls st σ = xloop cf M n b' ls' st' σ' := hr _
      have e2 : xloop cf M (n + 1 + 1) b ls st σ = xloop cf M (n + 1) b' ls' st' σ' := hr _
      rw [e2]
      exact xloop_up cf M n b' ls' st' σ' o (e1.symm.trans h)
theorem xloop_add (cf : xCF) (M : List xB) (k : Nat) {n b : Nat} {ls st : List Value} {σ : xS} {o : xOut} (h : xloop cf M n b ls st σ = some o) : xloop cf M (n + k) b ls st σ = some o := by
  induction k with
  | zero => exact h
  | succ k ih => exact xloop_up cf M (n + k) b ls st σ o ih
noncomputable def xlim (cf : xCF) (M : List xB) : xKB := fun b ls st σ => @dite _ (∃ n o, xloop cf M n b ls st σ = some o) (Classical.propDecidable _) (fun h => xloop cf M h.choose b ls st σ) (fun _ => none)
theorem xlim_of {cf : xCF} {M : List xB} {n b : Nat} {ls st : List Value} {σ : xS} {o : xOut} (h : xloop cf M n b ls st σ = some o) : xlim cf M b ls st σ = some o := by
  have hx : ∃ n o, xloop cf M n b ls st σ = some o := ⟨n, o, h⟩
  have e : xlim cf M b ls st σ = xloop cf M hx.choose b ls st σ := dif_pos hx
  rw [e]
  obtain ⟨o1, h1⟩ := hx.choose_spec
  have h2 := xloop_add cf M n h1
  have h3 := xloop_add cf M hx.choose h
  rw [Nat.add_comm] at h3
  rw [h1]
  exact h2.symm.trans h3
theorem xlim_some {cf : xCF} {M : List xB} {b : Nat} {ls st : List Value} {σ : xS} {o : xOut} (h : xlim cf M b ls st σ = some o) : ∃ n, xloop cf M n b ls st σ = some o := by
  by_cases hx : ∃ n o, xloop cf M n b ls st σ = some o
  · obtain ⟨n, o1, h1⟩ := hx
    have := xlim_of h1
    rw [this] at h
    exact ⟨n, by rw [h1]; exact h⟩
  · have e : xlim cf M b ls st σ = none := dif_neg hx
    rw [e] at h
    cases h
theorem xlim_none {cf : xCF} {M : List xB} {b : Nat} {ls st : List Value} {σ : xS} (h : ∀ n, xloop cf M n b ls st σ = none) : xlim cf M b ls st σ = none := by
  cases hl : xlim cf M b ls st σ with
  | none => rfl
  | some o =>
    obtain ⟨n, hn⟩ := xlim_some hl
    rw [h n] at hn
    cases hn
theorem xlim_ext {cf cf' : xCF} {M M' : List xB} {b b' : Nat} {ls st ls' st' : List Value} {σ σ' : xS} (h : ∀ o, xlim cf M b ls st σ = some o ↔ xlim cf' M' b' ls' st' σ' = some o) : xlim cf M b ls st σ = xlim cf' M' b' ls' st' σ' := by
  cases hl : xlim cf M b ls st σ with
  | none => cases hr : xlim cf' M' b' ls' st' σ' with
    | none => rfl
    | some o => rw [(h o).mpr hr] at hl; cases hl
  | some o => exact ((h o).mp hl).symm
theorem xlim_eq (cf : xCF) (M : List xB) (b : Nat) (ls st : List Value) (σ : xS) : xlim cf M b ls st σ = xbody cf M (xlim cf M) b ls st σ := by
  rcases xbody_V cf M b ls st σ with ⟨r, hr⟩ | ⟨b', ls', st', σ', hr⟩
  · rw [hr]
    cases r with
    | none =>
      refine xlim_none (fun n => ?_)
      cases n with
      | zero => rfl
      | succ n => exact hr _
    | some o => exact xlim_of (n := 1) (hr _)
  · rw [hr]
    refine xlim_ext (fun o => ⟨fun h => ?_, fun h => ?_⟩)
    · obtain ⟨n, hn⟩ := xlim_some h
      cases n with
      | zero => cases hn
      | succ n => exact xlim_of (n := n) ((hr (xloop cf M n)).symm.trans hn)
    · obtain ⟨n, hn⟩ := xlim_some h
      exact xlim_of (n := n + 1) ((hr (xloop cf M n)).trans hn)
def xargs : List Value → List Value
  | [] => []
  | .long x :: vs => .long x :: xD :: xargs vs
  | .double x :: vs => .double x :: xD :: xargs vs
  | v :: vs => v :: xargs vs
def xfit : Nat → List Value → List Value
  | 0, _ => []
  | n + 1, [] => xD :: xfit n []
  | n + 1, v :: vs => v :: xfit n vs
def xent (n : Nat) (as : List Value) : List Value := xfit n (xargs as)
def xputs (cf : xCF) (mid o : Nat) : List Int32 → xS → Option xOut
  | [], σ => some (none, σ)
  | c :: cs, σ => bif xis σ.1 1 o then xcV (cf mid [.ref o, .int c] σ) (xputs cf mid o cs) else none
/-- putText of one of the two texts -/
def xtext (cf : xCF) (mid : Nat) (as : List Value) (σ : xS) : Option xOut := match as with
  | [.ref o, .ref q] => bif Nat.beq q 1000002 then xputs cf mid o [32, 102, 114, 111, 109, 32] σ else bif Nat.beq q 1000003 then xputs cf mid o [32, 116, 111, 32] σ else none
  | _ => none
/-- the law's own methods that catch -/
def xwrap1 (cf : xCF) (mid : Nat) (as : List Value) (out : Nat) (σ : xS) : Option xOut := match cf mid as σ with
  | some (some (.int x), σ') => xsJ σ' out 0 x.toInt64 (fun σ2 => some (some (.int 0), σ2))
  | some (some (.float w), σ') => if w = 1 then some (some (.int 1), σ') else none
  | _ => none
def xwrap (cf : xCF) (mid : Nat) (as : List Value) (σ : xS) : Option xOut := match as with
  | [.ref x, .int a, .ref o] => bif (Nat.beq mid 137 || Nat.beq mid 138) && xis σ.1 11 x then xwrap1 cf mid [.ref x, .int a] o σ else none
  | [.ref x, .int a, .int b, .ref o] => bif Nat.beq mid 116 && xis σ.1 11 x then xwrap1 cf mid [.ref x, .int a, .int b] o σ else none
  | [.ref x, .int a, .int b, .int c, .ref o] => bif Nat.beq mid 122 && xis σ.1 11 x then xwrap1 cf mid [.ref x, .int a, .int b, .int c] o σ else none
  | _ => none
abbrev xP : Type := Nat × Nat × List xB
def xact (P : List xP) (cf : xCF) (L : xCF → List xB → xKB) : xCF := fun mid as σ => match xn P mid with
  | some (0, mL, M) => bif Nat.ble (xargs as).length mL then L cf M 0 (xent mL as) [] σ else none
  | some (1, m', _) => xtext cf m' as σ
  | some (2, m', _) => xwrap cf m' as σ
  | _ => none
noncomputable def xcall (P : List xP) : Nat → xCF
  | 0 => fun _ _ _ => none
  | d + 1 => xact P (xcall P d) xlim
/-- the same with fuel, for runs without unknowns -/
def xcallF (P : List xP) (F : Nat) : Nat → xCF
  | 0 => fun _ _ _ => none
  | d + 1 => xact P (xcallF P F d) (fun cf M => xloop cf M F)
def xcle (cf cf' : xCF) : Prop := ∀ mid as σ o, cf mid as σ = some o → cf' mid as σ = some o
theorem xexec_le {cf cf' : xCF} (hc : xcle cf cf') {kb kb' : xKB} (hk : ∀ b ls st σ o, kb b ls st σ = some o → kb' b ls st σ = some o) (nx : Nat) : ∀ (is : List xI) (ls st : List Value) (σ : xS) (o : xOut), xexec cf kb nx is ls st σ = some o → xexec cf' kb' nx is ls st σ = some o
  | [], ls, st, σ, o, h => hk _ _ _ _ _ h
  | i :: is, ls, st, σ, o, h => by
    show xone cf' kb' i ls st σ (xexec cf' kb' nx is) = some o
    have h : xone cf kb i ls st σ (xexec cf kb nx is) = some o := h
    rcases xU_one ls st σ i with g | ⟨v, σ1, -, g⟩ | ⟨ls1, st1, σ1, -, g⟩ | ⟨b, ls1, st1, σ1, -, g⟩ | ⟨mid, as, ls1, rest, rt, g⟩
    · dsimp only at g; rw [g] at h; cases h
    · dsimp only at g; rw [g] at h ⊢; exact h
    · dsimp only at g; rw [g] at h ⊢; exact xexec_le hc hk nx is _ _ _ _ h
    · dsimp only at g; rw [g] at h ⊢; exact hk _ _ _ _ _ h
    · dsimp only at g; rw [g] at h ⊢
      rcases xret_cases rt (cf mid as σ) with h0 | ⟨v, σ1, e, h1⟩
      · rw [h0] at h; cases h
      · rw [h1] at h
        rw [hc _ _ _ _ e]
        rw [e] at h1
        rw [h1]
        exact xexec_le hc hk nx is _ _ _ _ h
theorem xloop_le {cf cf' : xCF} (hc : xcle cf cf') (M : List xB) : ∀ (n b : Nat) (ls st : List Value) (σ : xS) (o : xOut), xloop cf M n b ls st σ = some o → xloop cf' M n b ls st σ = some o
  | 0, _, _, _, _, _, h => by cases h
  | n + 1, b, ls, st, σ, o, h => by
    show xbody cf' M (xloop cf' M n) b ls st σ = some o
    have h : xbody cf M (xloop cf M n) b ls st σ = some o := h
    unfold xbody at h ⊢
    cases hb : xn M b with
    | none => rw [hb] at h; cases h
    | some B =>
      rw [hb] at h
      exact xexec_le hc (fun b ls st σ o hh => xloop_le hc M n _ _ _ _ _ hh) _ _ _ _ _ _ h
theorem xputs_le {cf cf' : xCF} (hc : xcle cf cf') (mid q : Nat) : ∀ (cs : List Int32) (σ : xS) (o : xOut), xputs cf mid q cs σ = some o → xputs cf' mid q cs σ = some o
  | [], σ, o, h => h
  | c :: cs, σ, o, h => by
    have h : (bif xis σ.1 1 q then xcV (cf mid [.ref q, .int c] σ) (xputs cf mid q cs) else none) = some o := h
    show (bif xis σ.1 1 q then xcV (cf' mid [.ref q, .int c] σ) (xputs cf' mid q cs) else none) = some o
    cases hq : xis σ.1 1 q with
    | false => rw [hq] at h; cases h
    | true =>
    rw [hq] at h
    simp only [cond_true] at h ⊢
    cases e : cf mid [.ref q, .int c] σ with
    | none => rw [e] at h; cases h
    | some r =>
      obtain ⟨v, σ1⟩ := r
      rw [hc _ _ _ _ e]
      rw [e] at h
      cases v with
      | none => exact xputs_le hc mid q cs σ1 o h
      | some v => cases h
theorem xtext_le {cf cf' : xCF} (hc : xcle cf cf') {mid : Nat} {as : List Value} {σ : xS} {o : xOut} (h : xtext cf mid as σ = some o) : xtext cf' mid as σ = some o := by
  unfold xtext at h ⊢
  split at h
  · next q r =>
    cases e1 : Nat.beq r 1000002 with
    | true => simp only [e1, cond_true] at h ⊢; exact xputs_le hc _ _ _ _ _ h
    | false =>
      simp only [e1, cond_false] at h ⊢
      cases e2 : Nat.beq r 1000003 with
      | true => simp only [e2, cond_true] at h ⊢; exact xputs_le hc _ _ _ _ _ h
      | false => simp only [e2, cond_false] at h; cases h
  · cases h
theorem xwrap1_le {cf cf' : xCF} (hc : xcle cf cf') {mid q : Nat} {as : List Value} {σ : xS} {o : xOut} (h : xwrap1 cf mid as q σ = some o) : xwrap1 cf' mid as q σ = some o := by
  unfold xwrap1 at h ⊢
  cases e : cf mid as σ with
  | none => rw [e] at h; cases h
  | some r =>
    rw [hc _ _ _ _ e]
    rw [e] at h
    exact h
theorem xwrap_le {cf cf' : xCF} (hc : xcle cf cf') {mid : Nat} {as : List Value} {σ : xS} {o : xOut} (h : xwrap cf mid as σ = some o) : xwrap cf' mid as σ = some o := by
  unfold xwrap at h ⊢
  have key : ∀ {as : List Value} {q : Nat} {b : Bool}, (bif b then xwrap1 cf mid as q σ else none) = some o → (bif b then xwrap1 cf' mid as q σ else none) = some o := by
    intro as q b h
    cases b with
    | false => cases h
    | true => exact xwrap1_le hc h
  split at h
  · exact key h
  · exact key h
  · exact key h
  · cases h
theorem xact_le {P : List xP} {cf cf' : xCF} (hc : xcle cf cf') {L L' : xCF → List xB → xKB} (hL : ∀ M b ls st σ o, L cf M b ls st σ = some o → L' cf' M b ls st σ = some o) : xcle (xact P cf L) (xact P cf' L') := by
  intro mid as σ o h
  unfold xact at h ⊢
  split at h
  · next mL M _ =>
    cases hb : Nat.ble (xargs as).length mL with
    | false => rw [hb] at h; cases h
    | true =>
      rw [hb] at h
      exact hL _ _ _ _ _ _ h
  · exact xtext_le hc h
  · exact xwrap_le hc h
  · cases h
theorem xcallF_le (P : List xP) (F : Nat) : ∀ d, xcle (xcallF P F d) (xcall P d)
  | 0 => fun _ _ _ _ h => by cases h
  | d + 1 => xact_le (xcallF_le P F d) (fun M b ls st σ o h => xlim_of (xloop_le (xcallF_le P F d) M F b ls st σ o h))
theorem xlim_le {cf cf' : xCF} (hc : xcle cf cf') {M : List xB} {b : Nat} {ls st : List Value} {σ : xS} {o : xOut} (h : xlim cf M b ls st σ = some o) : xlim cf' M b ls st σ = some o := by
  obtain ⟨n, hn⟩ := xlim_some h
  exact xlim_of (xloop_le hc M n b ls st σ o hn)
theorem xcall_up (P : List xP) : ∀ d, xcle (xcall P d) (xcall P (d + 1))
  | 0 => fun _ _ _ _ h => by cases h
  | d + 1 => xact_le (xcall_up P d) (fun M b ls st σ o h => xlim_le (xcall_up P d) h)
