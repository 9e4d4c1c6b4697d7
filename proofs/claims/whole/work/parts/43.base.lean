/-! More of numbers, cells, answers. -/
theorem n32_ltE {a b : Nat} (ha : a < 2147483648) (hb : b < 2147483648) : (n32 a < n32 b) = (a < b) := propext (n32_lt ha hb)
theorem n32_leE {a b : Nat} (ha : a < 2147483648) (hb : b < 2147483648) : (n32 a ≤ n32 b) = (a ≤ b) := propext (n32_le ha hb)
theorem n32_eqE {a b : Nat} (ha : a < 2147483648) (hb : b < 2147483648) : (n32 a = n32 b) = (a = b) := propext (n32_inj ha hb)
theorem n32_ltl {a b : Nat} (ha : a < 2147483648) (hb : (OfNat.ofNat b : Nat) < 2147483648) : (n32 a < (OfNat.ofNat b : Int32)) = (a < OfNat.ofNat b) := propext (n32_lt ha hb)
theorem n32_lel {a b : Nat} (ha : a < 2147483648) (hb : (OfNat.ofNat b : Nat) < 2147483648) : (n32 a ≤ (OfNat.ofNat b : Int32)) = (a ≤ OfNat.ofNat b) := propext (n32_le ha hb)
theorem n32_gtl {a b : Nat} (ha : a < 2147483648) (hb : (OfNat.ofNat b : Nat) < 2147483648) : ((OfNat.ofNat b : Int32) < n32 a) = (OfNat.ofNat b < a) := propext (n32_lt hb ha)
theorem n32_gel {a b : Nat} (ha : a < 2147483648) (hb : (OfNat.ofNat b : Nat) < 2147483648) : ((OfNat.ofNat b : Int32) ≤ n32 a) = (OfNat.ofNat b ≤ a) := propext (n32_le hb ha)
theorem n32_eql {a b : Nat} (ha : a < 2147483648) (hb : (OfNat.ofNat b : Nat) < 2147483648) : (n32 a = (OfNat.ofNat b : Int32)) = (a = OfNat.ofNat b) := propext (n32_inj ha hb)
theorem n32_eql0 {a b : Nat} (ha : a < 2147483648) (hb : (OfNat.ofNat b : Nat) < 2147483648) : ((OfNat.ofNat b : Int32) = n32 a) = (OfNat.ofNat b = a) := propext (n32_inj hb ha)
theorem n32_eqm {a : Nat} (ha : a < 2147483648) : (n32 a = -1) = False := eq_false (n32_ne1 ha)
theorem m1_eqn {a : Nat} (ha : a < 2147483648) : (-1 = n32 a) = False := eq_false (fun h => n32_ne1 ha h.symm)
theorem n32_lt0 {a : Nat} (ha : a < 2147483648) : (n32 a < 0) = False := eq_false (n32_neg ha)
theorem n32_ge0 {a : Nat} (ha : a < 2147483648) : (n32 a ≤ 0) = (a = 0) := by
  rw [show (0 : Int32) = n32 0 from rfl, n32_leE ha (by omega)]
  exact propext ⟨fun h => by omega, fun h => by omega⟩
theorem n32_addl {a b : Nat} : n32 a + (OfNat.ofNat b : Int32) = n32 (a + OfNat.ofNat b) := n32_add
theorem n32_mul {a b : Nat} : n32 a * n32 b = n32 (a * b) := (Int32.ofNat_mul a b).symm
theorem n32_mull {a b : Nat} : (OfNat.ofNat b : Int32) * n32 a = n32 (OfNat.ofNat b * a) := n32_mul
theorem n32_of {x : Int32} (h : ¬ x < 0) : x = n32 x.toNatClampNeg := by
  apply Int32.toInt_inj.mp
  have h0 : 0 ≤ x.toInt := by
    rw [Int32.lt_iff_toInt_lt] at h
    simpa using h
  have h1 := Int32.toInt_lt x
  show x.toInt = (n32 x.toInt.toNat).toInt
  rw [n32_toInt (show x.toInt.toNat < 2147483648 by omega)]
  omega
theorem clamp_lt (x : Int32) : x.toNatClampNeg < 2147483648 := by
  show x.toInt.toNat < 2147483648
  have h1 := Int32.toInt_lt x
  omega
theorem n32_sub {a b : Nat} (h : b ≤ a) : n32 a - n32 b = n32 (a - b) := by
  have e : n32 a = n32 (a - b) + n32 b := by rw [n32_add, Nat.sub_add_cancel h]
  rw [e]
  simp
theorem n32_subl {a b : Nat} (h : OfNat.ofNat b ≤ a) : n32 a - (OfNat.ofNat b : Int32) = n32 (a - OfNat.ofNat b) := n32_sub h
theorem n32_pred {a : Nat} (h : 1 ≤ a) : n32 a + (-1) = n32 (a - 1) := by
  rw [← n32_sub h, Int32.sub_eq_add_neg]
  rfl
theorem n32_div {a b : Nat} (ha : a < 2147483648) (hb : b < 2147483648) : n32 a / n32 b = n32 (a / b) := by
  apply Int32.toInt_inj.mp
  have hd : a / b < 2147483648 := Nat.lt_of_le_of_lt (Nat.div_le_self a b) ha
  rw [Int32.toInt_div_of_ne_left _ _ (by
    intro h
    have := congrArg Int32.toInt h
    rw [n32_toInt ha] at this
    have q : Int32.minValue.toInt = -2147483648 := by decide
    omega), n32_toInt ha, n32_toInt hb, n32_toInt hd]
  exact (Int.ofNat_tdiv a b).symm
theorem n32_rem {a b : Nat} (ha : a < 2147483648) (hb : b < 2147483648) : n32 a - n32 a / n32 b * n32 b = n32 (a % b) := by
  rw [n32_div ha hb, n32_mul, n32_sub (by rw [Nat.mul_comm]; exact Nat.mul_div_le a b)]
  congr 1
  rw [Nat.mul_comm, Nat.mod_eq_sub_mul_div]
theorem m1_lt0 : ((-1 : Int32) < 0) = True := eq_true (by decide)
theorem m1_eq0 : ((-1 : Int32) = 0) = False := eq_false (by decide)
theorem z_lt0 : ((0 : Int32) < 0) = False := eq_false (by decide)
theorem i1_eq0 : ((1 : Int32) = 0) = False := eq_false (by decide)
theorem i0_eq1 : ((0 : Int32) = 1) = False := eq_false (by decide)
theorem i1_eq1 : ((1 : Int32) = 1) = True := eq_true rfl
theorem xrZ0 {σ : xS} : xrZ 0 σ = some (some (.int 0), σ) := rfl
theorem xrZ1 {σ : xS} : xrZ 1 σ = some (some (.int 1), σ) := rfl
theorem xin_b1 {a n : Nat} (ha : a < 2147483648) (h : a < n) : (xin (n32 a) n || xin (n32 a) 0) = true := by
  rw [xin_n32 ha h]
  rfl
theorem xin_b2 {a n : Nat} (ha : a < 2147483648) (h : a < n) : (xin (n32 a) 0 || xin (n32 a) n) = true := by
  rw [xin_n32 ha h, Bool.or_true]
-- cells
theorem xu_ee {α : Type} {f : Nat → Nat → α} {o k : Nat} {v : α} : xu f o k v o k = v := if_pos ⟨rfl, rfl⟩
theorem xu_rne {α : Type} {f : Nat → Nat → α} {o k o' : Nat} {v : α} (h : o' ≠ o) : xu f o k v o' = f o' := by
  funext k'
  exact if_neg (fun q => h q.1)
theorem xu_kne {α : Type} {f : Nat → Nat → α} {o k k' : Nat} {v : α} (h : k' ≠ k) : xu f o k v o k' = f o k' := if_neg (fun q => h q.2)
def up {α : Type} (f : Nat → α) (k : Nat) (v : α) : Nat → α := fun x => if x = k then v else f x
theorem up_eq {α : Type} {f : Nat → α} {k : Nat} {v : α} : up f k v k = v := if_pos rfl
theorem up_ne {α : Type} {f : Nat → α} {k k' : Nat} {v : α} (h : k' ≠ k) : up f k v k' = f k' := if_neg h
theorem xu_row {α : Type} {f : Nat → Nat → α} {o k : Nat} {v : α} : xu f o k v o = up (f o) k v := by
  funext k'
  unfold xu up
  simp
theorem xcp_rne {α : Type} {f : Nat → Nat → α} {s t sp dp n o : Nat} (h : o ≠ t) : xcp f s t sp dp n o = f o := by
  funext k'
  exact if_neg (fun q => h q.1)
theorem xcp_in {α : Type} {f : Nat → Nat → α} {s t n k : Nat} (h : k < n) : xcp f s t 0 0 n t k = f s k := by
  unfold xcp
  rw [if_pos ⟨rfl, Nat.zero_le _, by omega⟩]
  simp
theorem bt_t1 (x : Int32) {k : Nat} (hk : k < 32) : (((x >>> (n32 k &&& 31)) &&& 1) = 1) = (bt x k = true) := by
  rw [bt_test x hk]
  cases bt x k <;> simp
theorem bt_t0 (x : Int32) {k : Nat} (hk : k < 32) : (((x >>> (n32 k &&& 31)) &&& 1) = 0) = (bt x k = false) := by
  rw [bt_test x hk]
  cases bt x k <;> simp
-- answers
def RR (r : Option xOut) (Z : xOut → Prop) : Prop := ∃ o, r = some o ∧ Z o
abbrev TI : Type := Nat → Nat → Int32
abbrev TJ : Type := Nat → Nat → Int64
def zI (e L : Nat) (Q : Int32 → TI → TJ → Prop) : xOut → Prop := fun o => ∃ x I J, o = (some (.int x), xst e L I J) ∧ Q x I J
def zJ (e L : Nat) (Q : Int64 → TI → TJ → Prop) : xOut → Prop := fun o => ∃ x I J, o = (some (.long x), xst e L I J) ∧ Q x I J
def zV (e L : Nat) (Q : TI → TJ → Prop) : xOut → Prop := fun o => ∃ I J, o = (none, xst e L I J) ∧ Q I J
section RRS
variable {e L : Nat} {r A B : Option xOut} {Z : xOut → Prop} {I : TI} {J : TJ}
theorem RR_eq (h : r = A) (hA : RR A Z) : RR r Z := by rw [h]; exact hA
theorem RR_if {c : Prop} [Decidable c] (hA : c → RR A Z) (hB : ¬ c → RR B Z) : RR (if c then A else B) Z := by
  by_cases h : c
  · rw [if_pos h]; exact hA h
  · rw [if_neg h]; exact hB h
theorem RR_gd {b : Bool} (h : b = true) (hA : RR A Z) : RR (bif b then A else none) Z := by
  rw [h]
  exact hA
theorem RR_nz {y : Int32} (h : ¬ y = 0) (hA : RR A Z) : RR (if y = 0 then none else A) Z := by
  rw [if_neg h]
  exact hA
theorem RR_I {Q : Int32 → TI → TJ → Prop} {x : Int32} (h : Q x I J) : RR (some (some (.int x), xst e L I J)) (zI e L Q) := ⟨_, rfl, x, I, J, rfl, h⟩
theorem RR_V {Q : TI → TJ → Prop} (h : Q I J) : RR (some (none, xst e L I J)) (zV e L Q) := ⟨_, rfl, I, J, rfl, h⟩
theorem RR_cI {Q : Int32 → TI → TJ → Prop} {k : Int32 → xS → Option xOut} (h : RR r (zI e L Q)) (hk : ∀ x I J, Q x I J → RR (k x (xst e L I J)) Z) : RR (xcI r k) Z := by
  obtain ⟨o, h1, x, I, J, h2, h3⟩ := h
  rw [h1, h2]
  exact hk x I J h3
theorem RR_cJ {Q : Int64 → TI → TJ → Prop} {k : Int64 → xS → Option xOut} (h : RR r (zJ e L Q)) (hk : ∀ x I J, Q x I J → RR (k x (xst e L I J)) Z) : RR (xcJ r k) Z := by
  obtain ⟨o, h1, x, I, J, h2, h3⟩ := h
  rw [h1, h2]
  exact hk x I J h3
theorem RR_cV {Q : TI → TJ → Prop} {k : xS → Option xOut} (h : RR r (zV e L Q)) (hk : ∀ I J, Q I J → RR (k (xst e L I J)) Z) : RR (xcV r k) Z := by
  obtain ⟨o, h1, I, J, h2, h3⟩ := h
  rw [h1, h2]
  exact hk I J h3
theorem RR_wI {Q Q' : Int32 → TI → TJ → Prop} (h : RR r (zI e L Q)) (hq : ∀ x I J, Q x I J → Q' x I J) : RR r (zI e L Q') := by
  obtain ⟨o, h1, x, I, J, h2, h3⟩ := h
  exact ⟨o, h1, x, I, J, h2, hq x I J h3⟩
theorem RR_wV {Q Q' : TI → TJ → Prop} (h : RR r (zV e L Q)) (hq : ∀ I J, Q I J → Q' I J) : RR r (zV e L Q') := by
  obtain ⟨o, h1, I, J, h2, h3⟩ := h
  exact ⟨o, h1, I, J, h2, hq I J h3⟩
end RRS
theorem tf0 {c : Prop} [Decidable c] : ((if c then (1 : Int32) else 0) = 0) = ¬ c := by
  by_cases h : c <;> simp [h]
theorem tf1 {c : Prop} [Decidable c] : ((if c then (1 : Int32) else 0) = 1) = c := by
  by_cases h : c <;> simp [h]
theorem xrZt {c : Prop} [Decidable c] {σ : xS} : xrZ (if c then 1 else 0) σ = some (some (.int (if c then 1 else 0)), σ) := by
  by_cases h : c
  · rw [if_pos h]; rfl
  · rw [if_neg h]; rfl
/-- a number in a row's range, or not -/
theorem inr_or (x : Int32) (n : Nat) (hn : n < 2147483648) : (∃ b, b < n ∧ x = n32 b) ∨ (x < 0 ∨ ¬ x < n32 n) := by
  by_cases h0 : x < 0
  · exact Or.inr (Or.inl h0)
  · by_cases h1 : x < n32 n
    · have q := n32_of h0
      refine Or.inl ⟨x.toNatClampNeg, ?_, q⟩
      rw [q] at h1
      exact (n32_lt (clamp_lt x) hn).mp h1
    · exact Or.inr (Or.inr h1)
theorem xaI_of {e L r i n : Nat} {I : TI} {J : TJ} {c : Int32 → Option xOut} (h : xn G0 r = some (14, n, [])) (hi : i < n) (h2 : i < 2147483648) : xaI (xst e L I J) r (n32 i) c = c (I r i) := by
  have q : xlen (xst e L I J).1 14 r = n := by
    unfold xlen
    show (match xn G0 r with | some a => bif Nat.beq a.1 14 then a.2.1 else 0 | none => _) = n
    rw [h]
    rfl
  unfold xaI
  rw [q, xin_n32 h2 hi, n32_nat h2]
  rfl
theorem n32_ladd {a b : Nat} : (OfNat.ofNat b : Int32) + n32 a = n32 (OfNat.ofNat b + a) := n32_add
theorem n32_dint {a b : Nat} (ha : a < 1000000) (hb : b < 1000000) : (n32 a - n32 b).toInt = (a : Int) - (b : Int) := by
  rw [Int32.toInt_sub, n32_toInt (by omega), n32_toInt (by omega)]
  exact Int.bmod_eq_of_le (by omega) (by omega)
theorem n32_dlt {a b : Nat} (ha : a < 1000000) (hb : b < 1000000) : (n32 a - n32 b < 0) = (a < b) := by
  rw [Int32.lt_iff_toInt_lt, n32_dint ha hb, show (0 : Int32).toInt = 0 from rfl]
  exact propext ⟨fun h => by omega, fun h => by omega⟩
theorem n32_dle {a b : Nat} (ha : a < 1000000) (hb : b < 1000000) : (n32 a - n32 b ≤ 0) = (a ≤ b) := by
  rw [Int32.le_iff_toInt_le, n32_dint ha hb, show (0 : Int32).toInt = 0 from rfl]
  exact propext ⟨fun h => by omega, fun h => by omega⟩
theorem n32_deq {a b : Nat} (ha : a < 1000000) (hb : b < 1000000) : (n32 a - n32 b = 0) = (a = b) := by
  rw [← Int32.toInt_inj, n32_dint ha hb, show (0 : Int32).toInt = 0 from rfl]
  exact propext ⟨fun h => by omega, fun h => by omega⟩
theorem n32_eq0 {a : Nat} (h : a < 2147483648) : (n32 a = 0) = (a = 0) := n32_eqE (b := 0) h (by decide)
theorem n32_eq1 {a : Nat} (h : a < 2147483648) : (n32 a = 1) = (a = 1) := n32_eqE (b := 1) h (by decide)
theorem n32_gt0 {a : Nat} (h : a < 2147483648) : (0 < n32 a) = (0 < a) := n32_ltE (a := 0) (by decide) h
theorem n32_gt1 {a : Nat} (h : a < 2147483648) : (1 < n32 a) = (1 < a) := n32_ltE (a := 1) (by decide) h
theorem n32_lt1 {a : Nat} (h : a < 2147483648) : (n32 a < 1) = (a < 1) := n32_ltE (b := 1) h (by decide)
theorem n32_le1 {a : Nat} (h : a < 2147483648) : (n32 a ≤ 1) = (a ≤ 1) := n32_leE (b := 1) h (by decide)
theorem n32_0le {a : Nat} (h : a < 2147483648) : (0 ≤ n32 a) = True := eq_true ((n32_leE (a := 0) (by decide) h).mpr (Nat.zero_le _))
