/-! No call writes the script. -/
def yf (σ σ' : xS) : Prop := σ.1.1.length ≤ 1000 → σ'.1.1.length ≤ 1000 ∧ σ'.2.1 1000000 = σ.2.1 1000000
theorem yf_r (σ : xS) : yf σ σ := fun h => ⟨h, rfl⟩
theorem yf_t {a b c : xS} (h : yf a b) (h' : yf b c) : yf a c := fun z => ⟨(h' (h z).1).1, (h' (h z).1).2.trans (h z).2⟩
theorem yb_l {a b : Bool} (h : (a && b) = true) : a = true := by rw [Bool.and_eq_true] at h; exact h.1
theorem yb_r {a b : Bool} (h : (a && b) = true) : b = true := by rw [Bool.and_eq_true] at h; exact h.2
theorem yis_lt {g : xG} {kd r : Nat} (h : xis g kd r = true) : r < g.1.length := by
  unfold xis at h
  cases e : xn g.1 r with
  | none => rw [e] at h; cases h
  | some a =>
    rw [xn_eq] at e
    exact (List.getElem?_eq_some_iff.mp e).1
theorem yf_J {g : xG} {a : Nat → Nat → Int32} {b b' : Nat → Nat → Int64} : yf (g, a, b) (g, a, b') := fun h => ⟨h, rfl⟩
theorem yf_I {σ : xS} {kd r k : Nat} {v : Int32} (h : xis σ.1 kd r = true) : yf σ (σ.1, xu σ.2.1 r k v, σ.2.2) := fun hl => ⟨hl, xscr (by have := yis_lt h; omega)⟩
theorem yf_cp {σ : xS} {kd a b sp dp n : Nat} (h : xis σ.1 kd b = true) : yf σ (σ.1, xcp σ.2.1 a b sp dp n, σ.2.2) := fun hl => ⟨hl, funext fun q => by
  have := yis_lt h
  show (if (1000000 = b ∧ dp ≤ q ∧ q < dp + n) then _ else _) = _
  rw [if_neg (by omega)]⟩
theorem yf_sr {l : List xO} {o k q : Nat} {w : Nat × Nat} {m : (Nat → Nat → Int32) × (Nat → Nat → Int64)} : yf ((l, w), m) ((xsr l o k q, w), m) := fun h => ⟨by show (xsr l o k q).length ≤ 1000; rw [xsr_len]; exact h, rfl⟩
theorem yz_ne {f : Nat → Nat → Int32} {o n : Nat} (h : o + n ≤ 1000000) : xz f o n 0 1000000 = f 1000000 := funext fun q => by
  show (if (o ≤ 1000000 ∧ 1000000 < o + n) then _ else _) = _
  rw [if_neg (by omega)]
theorem yf_nw {σ : xS} {x : xO} {b : Nat → Nat → Int64} (h : Nat.blt σ.1.1.length 900 = true) : yf σ ((σ.1.1 ++ [x], σ.1.2), xz σ.2.1 σ.1.1.length 1 0, b) := fun hl => by
  have h9 : σ.1.1.length < 900 := Nat.ble_eq.mp h
  refine ⟨?_, yz_ne (by omega)⟩
  show (σ.1.1 ++ [x]).length ≤ 1000
  rw [List.length_append, List.length_singleton]
  omega
theorem yf_mn {σ : xS} {x y : xO} {i j : Int32} {b : Nat → Nat → Int64} (h : (!(decide (i < 0)) && Nat.ble i.toNatClampNeg 64 && !(decide (j < 0)) && Nat.ble j.toNatClampNeg 64 && Nat.blt σ.1.1.length 900) = true) : yf σ ((σ.1.1 ++ x :: List.replicate i.toNatClampNeg y, σ.1.2), xz σ.2.1 σ.1.1.length (i.toNatClampNeg + 1) 0, b) := fun hl => by
  have h9 : σ.1.1.length < 900 := Nat.ble_eq.mp (yb_r h)
  have h6 : i.toNatClampNeg ≤ 64 := Nat.ble_eq.mp (yb_r (yb_l (yb_l (yb_l h))))
  refine ⟨?_, yz_ne (by omega)⟩
  show (σ.1.1 ++ x :: List.replicate i.toNatClampNeg y).length ≤ 1000
  rw [List.length_append, List.length_cons, List.length_replicate]
  omega
def yU (σ0 : xS) (F : xCF → xKB → xK → Option xOut) : Prop :=
  (∀ cf kb k, F cf kb k = none) ∨ (∃ v σ, yf σ0 σ ∧ ∀ cf kb k, F cf kb k = some (v, σ)) ∨ (∃ ls st σ, yf σ0 σ ∧ ∀ cf kb k, F cf kb k = k ls st σ) ∨
  (∃ b ls st σ, yf σ0 σ ∧ ∀ cf kb k, F cf kb k = kb b ls st σ) ∨ (∃ mid as ls rest rt, ∀ cf kb k, F cf kb k = xret rt (cf mid as σ0) (fun vs => k ls (vs ++ rest)))
section YU
variable {σ0 : xS} {F G : xCF → xKB → xK → Option xOut}
theorem yU_n : yU σ0 (fun _ _ _ => none) := Or.inl (fun _ _ _ => rfl)
theorem yU_o {v : Option Value} {σ : xS} (h : yf σ0 σ) : yU σ0 (fun _ _ _ => some (v, σ)) := Or.inr (Or.inl ⟨v, σ, h, fun _ _ _ => rfl⟩)
theorem yU_k {ls st : List Value} {σ : xS} (h : yf σ0 σ) : yU σ0 (fun _ _ k => k ls st σ) := Or.inr (Or.inr (Or.inl ⟨ls, st, σ, h, fun _ _ _ => rfl⟩))
theorem yU_b {b : Nat} {ls st : List Value} {σ : xS} (h : yf σ0 σ) : yU σ0 (fun _ kb _ => kb b ls st σ) := Or.inr (Or.inr (Or.inr (Or.inl ⟨b, ls, st, σ, h, fun _ _ _ => rfl⟩)))
theorem yU_c {mid rt : Nat} {as ls rest : List Value} : yU σ0 (fun cf _ k => xret rt (cf mid as σ0) (fun vs => k ls (vs ++ rest))) := Or.inr (Or.inr (Or.inr (Or.inr ⟨mid, as, ls, rest, rt, fun _ _ _ => rfl⟩)))
theorem yU_bif {c : Bool} (h1 : yU σ0 F) (h2 : yU σ0 G) : yU σ0 (fun cf kb k => bif c then F cf kb k else G cf kb k) := by cases c <;> assumption
theorem yU_ite {c : Prop} [Decidable c] (h1 : yU σ0 F) (h2 : yU σ0 G) : yU σ0 (fun cf kb k => if c then F cf kb k else G cf kb k) := by
  by_cases h : c
  · simp only [h, if_true]; exact h1
  · simp only [h, if_false]; exact h2
theorem yU_bf {c : Bool} (h1 : c = true → yU σ0 F) (h2 : yU σ0 G) : yU σ0 (fun cf kb k => bif c then F cf kb k else G cf kb k) := by
  cases c with
  | false => exact h2
  | true => exact h1 rfl
end YU
section YU2
variable (ls st : List Value) (σ : xS)
theorem yU_x2 (f : Int32 → Int32 → Int32) : yU σ (fun _ _ k => x2 f ls st σ k) := by
  rcases st with _ | ⟨v, _ | ⟨w, r⟩⟩
  · exact yU_n
  · cases v <;> exact yU_n
  · cases v <;> first | exact yU_n | (cases w <;> first | exact yU_n | exact yU_k (yf_r σ))
theorem yU_x2d (f : Int32 → Int32 → Int32) : yU σ (fun _ _ k => x2d f ls st σ k) := by
  rcases st with _ | ⟨v, _ | ⟨w, r⟩⟩
  · exact yU_n
  · cases v <;> exact yU_n
  · cases v <;> first | exact yU_n | (cases w <;> first | exact yU_n | exact yU_ite yU_n (yU_k (yf_r σ)))
theorem yU_x2l (f : Int64 → Int64 → Int64) : yU σ (fun _ _ k => x2l f ls st σ k) := by
  rcases st with _ | ⟨v, _ | ⟨w, r⟩⟩
  · exact yU_n
  · cases v <;> exact yU_n
  · cases v <;> first | exact yU_n | (cases w <;> first | exact yU_n | exact yU_k (yf_r σ))
theorem yU_x2s (f : Int64 → Int32 → Int64) : yU σ (fun _ _ k => x2s f ls st σ k) := by
  rcases st with _ | ⟨v, _ | ⟨w, r⟩⟩
  · exact yU_n
  · cases v <;> exact yU_n
  · cases v <;> first | exact yU_n | (cases w <;> first | exact yU_n | exact yU_k (yf_r σ))
theorem yU_xcm : yU σ (fun _ _ k => xcm ls st σ k) := by
  rcases st with _ | ⟨v, _ | ⟨w, r⟩⟩
  · exact yU_n
  · cases v <;> exact yU_n
  · cases v <;> first | exact yU_n | (cases w <;> first | exact yU_n | exact yU_k (yf_r σ))
theorem yU_xil : yU σ (fun _ _ k => xil ls st σ k) := by
  rcases st with _ | ⟨v, r⟩
  · exact yU_n
  · cases v <;> first | exact yU_n | exact yU_k (yf_r σ)
theorem yU_xli : yU σ (fun _ _ k => xli ls st σ k) := by
  rcases st with _ | ⟨v, r⟩
  · exact yU_n
  · cases v <;> first | exact yU_n | exact yU_k (yf_r σ)
theorem yU_xib : yU σ (fun _ _ k => xib ls st σ k) := by
  rcases st with _ | ⟨v, r⟩
  · exact yU_n
  · cases v <;> first | exact yU_n | exact yU_k (yf_r σ)
theorem yU_xdp : yU σ (fun _ _ k => xdp ls st σ k) := by
  rcases st with _ | ⟨v, r⟩
  · exact yU_n
  · exact yU_bif (yU_k (yf_r σ)) yU_n
theorem yU_xpp : yU σ (fun _ _ k => xpp ls st σ k) := by
  rcases st with _ | ⟨v, r⟩
  · exact yU_n
  · exact yU_bif (yU_k (yf_r σ)) yU_n
theorem yU_xd2 : yU σ (fun _ _ k => xd2 ls st σ k) := by
  rcases st with _ | ⟨v, _ | ⟨w, r⟩⟩
  · exact yU_n
  · exact yU_n
  · exact yU_bif (yU_k (yf_r σ)) yU_n
theorem yU_xldI (n : Nat) : yU σ (fun _ _ k => xldI n ls st σ k) := by
  unfold xldI
  generalize xn ls n = o
  rcases o with _ | v
  · exact yU_n
  · cases v <;> first | exact yU_n | exact yU_k (yf_r σ)
theorem yU_xldJ (n : Nat) : yU σ (fun _ _ k => xldJ n ls st σ k) := by
  unfold xldJ
  generalize xn ls n = o
  rcases o with _ | v
  · exact yU_n
  · cases v <;> first | exact yU_n | exact yU_k (yf_r σ)
theorem yU_xldR (n : Nat) : yU σ (fun _ _ k => xldR n ls st σ k) := by
  unfold xldR
  generalize xn ls n = o
  rcases o with _ | v
  · exact yU_n
  · cases v <;> first | exact yU_n | exact yU_k (yf_r σ)
theorem yU_xinc (n : Nat) (d : Int32) : yU σ (fun _ _ k => xinc n d ls st σ k) := by
  unfold xinc
  generalize xn ls n = o
  rcases o with _ | v
  · exact yU_n
  · cases v <;> first | exact yU_n | exact yU_bif (yU_k (yf_r σ)) yU_n
theorem yU_xstI (n : Nat) : yU σ (fun _ _ k => xstI n ls st σ k) := by
  rcases st with _ | ⟨v, r⟩
  · exact yU_n
  · cases v <;> first | exact yU_n | exact yU_bif (yU_k (yf_r σ)) yU_n
theorem yU_xstJ (n : Nat) : yU σ (fun _ _ k => xstJ n ls st σ k) := by
  rcases st with _ | ⟨v, r⟩
  · exact yU_n
  · cases v <;> first | exact yU_n | exact yU_bif (yU_k (yf_r σ)) yU_n
theorem yU_xstR (n : Nat) : yU σ (fun _ _ k => xstR n ls st σ k) := by
  rcases st with _ | ⟨v, r⟩
  · exact yU_n
  · cases v <;> first | exact yU_n | exact yU_bif (yU_k (yf_r σ)) yU_n
theorem yU_opt {σ : xS} (o : Option Nat) {F : Nat → xCF → xKB → xK → Option xOut} (h : ∀ q, yU σ (F q)) : yU σ (fun cf kb k => match o with | some q => F q cf kb k | none => none) := by
  cases o with
  | none => exact yU_n
  | some q => exact h q
theorem yU_xldA : yU σ (fun _ _ k => xldA ls st σ k) := by
  rcases st with _ | ⟨v, _ | ⟨w, r⟩⟩
  · exact yU_n
  · cases v <;> exact yU_n
  · cases v <;> first | exact yU_n | (cases w <;> first | exact yU_n | exact yU_bif (yU_k (yf_r σ)) yU_n)
theorem yU_xldB : yU σ (fun _ _ k => xldB ls st σ k) := by
  rcases st with _ | ⟨v, _ | ⟨w, r⟩⟩
  · exact yU_n
  · cases v <;> exact yU_n
  · cases v <;> first | exact yU_n | (cases w <;> first | exact yU_n | exact yU_bif (yU_k (yf_r σ)) yU_n)
theorem yU_xldL : yU σ (fun _ _ k => xldL ls st σ k) := by
  rcases st with _ | ⟨v, _ | ⟨w, r⟩⟩
  · exact yU_n
  · cases v <;> exact yU_n
  · cases v <;> first | exact yU_n | (cases w <;> first | exact yU_n | exact yU_bif (yU_bif (yU_k (yf_r σ)) yU_n) (yU_bif (yU_k (yf_r σ)) yU_n))
theorem yU_xldQ : yU σ (fun _ _ k => xldQ ls st σ k) := by
  rcases st with _ | ⟨v, _ | ⟨w, r⟩⟩
  · exact yU_n
  · cases v <;> exact yU_n
  · cases v <;> first | exact yU_n | (cases w <;> first | exact yU_n | exact yU_bif (yU_opt _ (fun q => yU_k (yf_r σ))) yU_n)
theorem yU_xstA : yU σ (fun _ _ k => xstA ls st σ k) := by
  rcases st with _ | ⟨v, _ | ⟨w, _ | ⟨u, r⟩⟩⟩
  · exact yU_n
  · cases v <;> exact yU_n
  · cases v <;> first | exact yU_n | (cases w <;> exact yU_n)
  · cases v <;> first | exact yU_n | (cases w <;> first | exact yU_n | (cases u <;> first | exact yU_n | exact yU_bf (fun h => yU_k (yf_I (yb_l h))) yU_n))
theorem yU_xstB : yU σ (fun _ _ k => xstB ls st σ k) := by
  rcases st with _ | ⟨v, _ | ⟨w, _ | ⟨u, r⟩⟩⟩
  · exact yU_n
  · cases v <;> exact yU_n
  · cases v <;> first | exact yU_n | (cases w <;> exact yU_n)
  · cases v <;> first | exact yU_n | (cases w <;> first | exact yU_n | (cases u <;> first | exact yU_n | exact yU_bf (fun h => yU_k (yf_I (yb_l h))) (yU_bf (fun h => yU_k (yf_I (yb_l (yb_l h)))) yU_n)))
theorem yU_xstL : yU σ (fun _ _ k => xstL ls st σ k) := by
  rcases st with _ | ⟨v, _ | ⟨w, _ | ⟨u, r⟩⟩⟩
  · exact yU_n
  · cases v <;> exact yU_n
  · cases v <;> first | exact yU_n | (cases w <;> exact yU_n)
  · cases v <;> first | exact yU_n | (cases w <;> first | exact yU_n | (cases u <;> first | exact yU_n | exact yU_bif (yU_k yf_J) yU_n))
theorem yU_xstQ : yU σ (fun _ _ k => xstQ ls st σ k) := by
  rcases st with _ | ⟨v, _ | ⟨w, _ | ⟨u, r⟩⟩⟩
  · exact yU_n
  · cases v <;> exact yU_n
  · cases v <;> first | exact yU_n | (cases w <;> exact yU_n)
  · cases v <;> first | exact yU_n | (cases w <;> first | exact yU_n | (cases u <;> first | exact yU_n | exact yU_bif (yU_k yf_sr) yU_n))
theorem yU_xalen : yU σ (fun _ _ k => xalen ls st σ k) := by
  rcases st with _ | ⟨v, r⟩
  · exact yU_n
  · cases v <;> first
      | exact yU_n
      | (unfold xalen xal
         dsimp only
         generalize xn σ.1.1 _ = o
         cases o with
         | none => exact yU_bif (yU_k (yf_r σ)) (yU_bif (yU_k (yf_r σ)) yU_n)
         | some a => exact yU_bif (yU_k (yf_r σ)) yU_n)
theorem yU_xget (ops : List Nat) : yU σ (fun _ _ k => xget ops ls st σ k) := by
  unfold xget
  split
  · exact yU_bif (yU_k (yf_r σ)) yU_n
  · exact yU_bif (yU_k (yf_r σ)) yU_n
  · exact yU_bif (yU_k (yf_r σ)) yU_n
  · exact yU_bif (yU_opt _ (fun q => yU_k (yf_r σ))) yU_n
  · exact yU_n
theorem yU_xput (ops : List Nat) : yU σ (fun _ _ k => xput ops ls st σ k) := by
  unfold xput
  split
  · exact yU_bf (fun h => yU_k (yf_I h)) yU_n
  · exact yU_bf (fun h => yU_k (yf_I (yb_l h))) yU_n
  · exact yU_bif (yU_k yf_J) yU_n
  · exact yU_bif (yU_k yf_sr) yU_n
  · exact yU_n
theorem yU_xnew (ops : List Nat) : yU σ (fun _ _ k => xnew ops ls st σ k) := by
  unfold xnew
  split
  · exact yU_bf (fun h => yU_k (yf_nw h)) yU_n
  · exact yU_bif (yU_o (fun h => ⟨h, rfl⟩)) yU_n
  · exact yU_n
theorem yU_xnewa (t : ArrayType) : yU σ (fun _ _ k => xnewa t ls st σ k) := by
  rcases st with _ | ⟨v, r⟩
  · exact yU_n
  · cases v <;> first | exact yU_n | exact yU_bif yU_n (yU_bif (yU_bf (fun h => yU_k (yf_nw h)) yU_n) yU_n)
theorem yU_xnewq : yU σ (fun _ _ k => xnewq ls st σ k) := by
  rcases st with _ | ⟨v, r⟩
  · exact yU_n
  · cases v <;> first | exact yU_n | exact yU_bif (yU_bf (fun h => yU_k (yf_nw h)) yU_n) yU_n
theorem yU_xnewm : yU σ (fun _ _ k => xnewm ls st σ k) := by
  rcases st with _ | ⟨v, _ | ⟨w, r⟩⟩
  · exact yU_n
  · cases v <;> exact yU_n
  · cases v <;> first | exact yU_n | (cases w <;> first | exact yU_n | exact yU_bf (fun h => yU_k (yf_mn h)) yU_n)
theorem yU_xldc (v : Int32) (ops : List Nat) : yU σ (fun _ _ k => xldc v ops ls st σ k) := by
  cases ops <;> exact yU_k (yf_r σ)
theorem yU_xld2 (ops : List Nat) : yU σ (fun _ _ k => xld2 ops ls st σ k) := by
  cases ops <;> first | exact yU_n | exact yU_k (yf_r σ)
theorem yU_xif (cd : Jvm.ClassFile.Cond) (t : Nat) : yU σ (fun _ kb k => xif cd t kb ls st σ k) := by
  rcases st with _ | ⟨v, r⟩
  · exact yU_n
  · cases v <;> first | exact yU_n | (cases cd <;> first | exact yU_ite (yU_b (yf_r σ)) (yU_k (yf_r σ)) | exact yU_ite (yU_k (yf_r σ)) (yU_b (yf_r σ)))
theorem yU_xic (cd : Jvm.ClassFile.Cond) (t : Nat) : yU σ (fun _ kb k => xic cd t kb ls st σ k) := by
  rcases st with _ | ⟨v, _ | ⟨w, r⟩⟩
  · exact yU_n
  · cases v <;> exact yU_n
  · cases v <;> first | exact yU_n | (cases w <;> first | exact yU_n | (cases cd <;> first | exact yU_ite (yU_b (yf_r σ)) (yU_k (yf_r σ)) | exact yU_ite (yU_k (yf_r σ)) (yU_b (yf_r σ))))
theorem yU_xsw (x : Int32) (tab : List (Int32 × Nat)) (d : Nat) : yU σ (fun _ kb _ => xsw x tab d kb ls st σ) := by
  induction tab with
  | nil => exact yU_b (yf_r σ)
  | cons a tab ih => exact yU_ite (yU_b (yf_r σ)) ih
theorem yU_xswt (tab : List (Int32 × Nat)) (d : Nat) : yU σ (fun _ kb _ => xswt tab d kb ls st σ) := by
  rcases st with _ | ⟨v, r⟩
  · exact yU_n
  · cases v <;> first | exact yU_n | exact yU_xsw _ _ _ _ _ _
theorem yU_xreI (z : List Nat) : yU σ (fun _ _ _ => xreI z st σ) := by
  rcases st with _ | ⟨v, _ | ⟨w, r⟩⟩
  · exact yU_n
  · cases v <;> first | exact yU_n | (cases z <;> first | exact yU_o (yf_r σ) | exact yU_bif (yU_o (yf_r σ)) yU_n)
  · cases v <;> exact yU_n
theorem yU_xreJ : yU σ (fun _ _ _ => xreJ st σ) := by
  rcases st with _ | ⟨v, _ | ⟨w, r⟩⟩
  · exact yU_n
  · cases v <;> first | exact yU_n | exact yU_o (yf_r σ)
  · cases v <;> exact yU_n
theorem yU_xreR : yU σ (fun _ _ _ => xreR st σ) := by
  rcases st with _ | ⟨v, _ | ⟨w, r⟩⟩
  · exact yU_n
  · cases v <;> first | exact yU_n | exact yU_o (yf_r σ)
  · cases v <;> exact yU_n
theorem yU_xreV : yU σ (fun _ _ _ => xreV st σ) := by
  rcases st with _ | ⟨v, r⟩
  · exact yU_o (yf_r σ)
  · exact yU_n
theorem yU_xob : yU σ (fun _ _ k => xob ls st σ k) := by
  rcases st with _ | ⟨v, r⟩
  · exact yU_n
  · cases v <;> first | exact yU_n | exact yU_bif (yU_k (yf_r σ)) yU_n
theorem yU_xmm (mx : Bool) : yU σ (fun _ _ k => xmm mx ls st σ k) := by
  rcases st with _ | ⟨v, _ | ⟨w, r⟩⟩
  · exact yU_n
  · cases v <;> exact yU_n
  · cases v <;> first | exact yU_n | (cases w <;> first | exact yU_n | exact yU_bif (yU_k (yf_r σ)) yU_n)
theorem yU_xcy : yU σ (fun _ _ k => xcy ls st σ k) := by
  unfold xcy
  split
  · exact yU_bif (yU_bif (yU_bf (fun h => yU_k (yf_cp (yb_r (yb_l (yb_l h))))) (yU_bif (yU_k yf_J) yU_n)) yU_n) yU_n
  · exact yU_n
theorem yU_pop {σ : xS} (n : Nat) (st : List Value) (as : List Value) {F : List Value → List Value → xCF → xKB → xK → Option xOut} (h : ∀ as rest, yU σ (F as rest)) : yU σ (fun cf kb k => xpop n st as (fun as rest => F as rest cf kb k)) := by
  induction n generalizing st as with
  | zero => exact h as st
  | succ n ih => cases st with
    | nil => exact yU_n
    | cons v st => exact ih st (v :: as)
theorem yU_xcall1 (mid n rt ci : Nat) : yU σ (fun cf _ k => xcall1 cf mid n rt ci ls st σ k) := by
  unfold xcall1
  exact yU_pop n st [] (F := fun as rest cf _ k => bif Nat.ble (xcat rest) 8 then (bif xrcv σ.1 ci as then xret rt (cf mid as σ) (fun vs => k ls (vs ++ rest)) else none) else none) (fun as rest => yU_bif (yU_bif yU_c yU_n) yU_n)
theorem yU_xinv (ops : List Nat) : yU σ (fun cf _ k => xinv cf ops ls st σ k) := by
  unfold xinv
  split
  · exact yU_xcall1 ls st σ _ _ _ _
  · exact yU_xob ls st σ
  · exact yU_xmm ls st σ true
  · exact yU_xmm ls st σ false
  · exact yU_xcy ls st σ
  · exact yU_n
theorem yU_one (i : xI) : yU σ (fun cf kb k => xone cf kb i ls st σ k) := by
  obtain ⟨ins, len, a, ops, tab⟩ := i
  cases ins
  all_goals first
    | exact yU_n
    | exact yU_k (yf_r σ)
    | exact yU_b (yf_r σ)
    | exact yU_xldc ls st σ a ops
    | exact yU_xld2 ls st σ ops
    | exact yU_xldI ls st σ _
    | exact yU_xldJ ls st σ _
    | exact yU_xldR ls st σ _
    | exact yU_xstI ls st σ _
    | exact yU_xstJ ls st σ _
    | exact yU_xstR ls st σ _
    | exact yU_xinc ls st σ _ a
    | exact yU_x2 ls st σ _
    | exact yU_x2d ls st σ _
    | exact yU_x2l ls st σ _
    | exact yU_x2s ls st σ _
    | exact yU_xcm ls st σ
    | exact yU_xil ls st σ
    | exact yU_xli ls st σ
    | exact yU_xib ls st σ
    | exact yU_xdp ls st σ
    | exact yU_xpp ls st σ
    | exact yU_xd2 ls st σ
    | exact yU_xldA ls st σ
    | exact yU_xldB ls st σ
    | exact yU_xldL ls st σ
    | exact yU_xldQ ls st σ
    | exact yU_xstA ls st σ
    | exact yU_xstB ls st σ
    | exact yU_xstL ls st σ
    | exact yU_xstQ ls st σ
    | exact yU_xalen ls st σ
    | exact yU_xget ls st σ ops
    | exact yU_xput ls st σ ops
    | exact yU_xnew ls st σ ops
    | exact yU_xnewa ls st σ _
    | exact yU_xnewq ls st σ
    | exact yU_xnewm ls st σ
    | exact yU_xinv ls st σ ops
    | exact yU_xif ls st σ _ _
    | exact yU_xic ls st σ _ _
    | exact yU_xswt ls st σ tab _
    | exact yU_xreI st σ ops
    | exact yU_xreJ st σ
    | exact yU_xreR st σ
    | exact yU_xreV st σ
end YU2
section YM
variable {cf : xCF} {kb : xKB} {o : xOut}
theorem yexec_mo {nx : Nat} (hcm : ∀ mid as σ v σ', cf mid as σ = some (v, σ') → yf σ σ') (hkb : ∀ b ls st σ, kb b ls st σ = some o → yf σ o.2) : ∀ (is : List xI) (ls st : List Value) (σ : xS), xexec cf kb nx is ls st σ = some o → yf σ o.2
  | [], ls, st, σ, h => hkb _ _ _ _ h
  | i :: is, ls, st, σ, h => by
    have h : xone cf kb i ls st σ (xexec cf kb nx is) = some o := h
    rcases yU_one ls st σ i with g | ⟨v, σ1, hl, g⟩ | ⟨ls1, st1, σ1, hl, g⟩ | ⟨b, ls1, st1, σ1, hl, g⟩ | ⟨mid, as, ls1, rest, rt, g⟩
    · dsimp only at g; rw [g] at h; cases h
    · dsimp only at g; rw [g] at h; cases h; exact hl
    · dsimp only at g; rw [g] at h; exact yf_t hl (yexec_mo hcm hkb is _ _ _ h)
    · dsimp only at g; rw [g] at h; exact yf_t hl (hkb _ _ _ _ h)
    · dsimp only at g; rw [g] at h
      rcases xret_cases rt (cf mid as σ) with h0 | ⟨v, σ1, e, h1⟩
      · rw [h0] at h; cases h
      · rw [h1] at h
        exact yf_t (hcm _ _ _ _ _ e) (yexec_mo hcm hkb is _ _ _ h)
theorem yloop_mo {M : List xB} (hcm : ∀ mid as σ v σ', cf mid as σ = some (v, σ') → yf σ σ') : ∀ (k b : Nat) (ls st : List Value) (σ : xS), xloop cf M k b ls st σ = some o → yf σ o.2
  | 0, _, _, _, _, h => by cases h
  | k + 1, b, ls, st, σ, h => by
    have h : xbody cf M (xloop cf M k) b ls st σ = some o := h
    unfold xbody at h
    split at h
    · exact yexec_mo hcm (fun b ls st σ hh => yloop_mo hcm k _ _ _ _ hh) _ _ _ _ h
    · cases h
end YM
theorem yputs_mo {cf : xCF} (hcm : ∀ mid as σ v σ', cf mid as σ = some (v, σ') → yf σ σ') {mid q : Nat} : ∀ (cs : List Int32) (σ : xS) (o : xOut), xputs cf mid q cs σ = some o → yf σ o.2
  | [], σ, o, h => by cases h; exact yf_r σ
  | c :: cs, σ, o, h => by
    have h : (bif xis σ.1 1 q then xcV (cf mid [.ref q, .int c] σ) (xputs cf mid q cs) else none) = some o := h
    cases hq : xis σ.1 1 q with
    | false => rw [hq] at h; cases h
    | true =>
      rw [hq] at h
      simp only [cond_true] at h
      cases e : cf mid [.ref q, .int c] σ with
      | none => rw [e] at h; cases h
      | some r =>
        obtain ⟨v, σ1⟩ := r
        rw [e] at h
        cases v with
        | none => exact yf_t (hcm _ _ _ _ _ e) (yputs_mo hcm cs σ1 o h)
        | some v => cases h
theorem ywrap1_mo {cf : xCF} {mid q : Nat} {as : List Value} {σ : xS} {o : xOut} (hcm : ∀ mid as σ v σ', cf mid as σ = some (v, σ') → yf σ σ') (h : xwrap1 cf mid as q σ = some o) : yf σ o.2 := by
  obtain ⟨v, σ'⟩ := o
  obtain ⟨v1, σ1, e, hc⟩ := xwrap1_inv h
  have hle := hcm _ _ _ _ _ e
  rcases hc with ⟨r, -, -, -, rfl⟩ | ⟨-, -, rfl⟩
  · exact fun z => hle z
  · exact hle
theorem ywrap_mo {cf : xCF} {mid : Nat} {as : List Value} {σ : xS} {o : xOut} (hcm : ∀ mid as σ v σ', cf mid as σ = some (v, σ') → yf σ σ') (h : xwrap cf mid as σ = some o) : yf σ o.2 := by
  have key : ∀ {as : List Value} {q : Nat} {b : Bool}, (bif b then xwrap1 cf mid as q σ else none) = some o → yf σ o.2 := by
    intro as q b h
    cases b with
    | false => cases h
    | true => exact ywrap1_mo hcm h
  unfold xwrap at h
  split at h
  · exact key h
  · exact key h
  · exact key h
  · cases h
theorem ytext_mo {cf : xCF} {mid : Nat} {as : List Value} {σ : xS} {o : xOut} (hcm : ∀ mid as σ v σ', cf mid as σ = some (v, σ') → yf σ σ') (h : xtext cf mid as σ = some o) : yf σ o.2 := by
  unfold xtext at h
  split at h
  · next q r =>
    cases e1 : Nat.beq r 1000002 with
    | true => rw [e1] at h; exact yputs_mo hcm _ _ _ h
    | false =>
      rw [e1] at h
      cases e2 : Nat.beq r 1000003 with
      | true => rw [e2] at h; exact yputs_mo hcm _ _ _ h
      | false => rw [e2] at h; cases h
  · cases h
theorem ylim_mo {cf : xCF} {M : List xB} {b : Nat} {ls st : List Value} {σ : xS} {o : xOut} (hcm : ∀ mid as σ v σ', cf mid as σ = some (v, σ') → yf σ σ') (h : xlim cf M b ls st σ = some o) : yf σ o.2 := by
  obtain ⟨n, hn⟩ := xlim_some h
  exact yloop_mo hcm n _ _ _ _ hn
theorem yact_mo {P : List xP} {cf : xCF} (hcm : ∀ mid as σ v σ', cf mid as σ = some (v, σ') → yf σ σ') (mid : Nat) (as : List Value) (σ : xS) (v : Option Value) (σ' : xS) (h : xact P cf xlim mid as σ = some (v, σ')) : yf σ σ' := by
  unfold xact at h
  split at h
  · next mL M _ =>
    cases hb : Nat.ble (xargs as).length mL with
    | false => rw [hb] at h; cases h
    | true => rw [hb] at h; exact ylim_mo hcm h
  · exact ytext_mo hcm h
  · exact ywrap_mo hcm h
  · cases h
theorem ycall_mo (P : List xP) : ∀ (d mid : Nat) (as : List Value) (σ : xS) (v : Option Value) (σ' : xS), xcall P d mid as σ = some (v, σ') → yf σ σ'
  | 0, _, _, _, _, _, h => by cases h
  | d + 1, mid, as, σ, v, σ', h => yact_mo (ycall_mo P d) mid as σ v σ' h
