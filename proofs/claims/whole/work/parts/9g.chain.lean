/-! The chain that was read becomes the state. -/
/-- the cells of the reference that reading a chain changes -/
def eR (M' M : TI) (N' N : TJ) : Prop := (∀ o, o ≠ 209 → o ≠ 212 → M' o = M o) ∧ (∀ o, o ≠ 209 → o ≠ 215 → N' o = N o) ∧ (∀ k, k < 28 → N' 215 k = N 215 k) ∧ ∀ q, ¬ (q = 0 ∨ (2 ≤ q ∧ q ≤ 5) ∨ (12 ≤ q ∧ q ≤ 17) ∨ q = 19 ∨ q = 20) → M' 209 q = M 209 q
section CHG
variable {d d' e L : Nat} {S S' : TS} {D D' : Nat → Int64} {T : Nat → Int32} {I K K2 M M' M2 : TI} {J J' J2 N N' N2 : TJ} {p q n k i m a j b v r most g lo hi fr V B : Nat} {s t : Bool} {x y bl ch wg : Int32} {w nm : Int64} {cf : xCF}
theorem xst_i {v v' : Option Value} (h : some (v, xst e L K J) = some (v', xst e L K2 J2)) : v = v' ∧ K = K2 ∧ J = J2 := by
  have h1 := Option.some.inj h
  have h2 := (Prod.mk.inj h1).2
  exact ⟨(Prod.mk.inj h1).1, (Prod.mk.inj (Prod.mk.inj h2).2).1, (Prod.mk.inj (Prod.mk.inj h2).2).2⟩
theorem r_taken (hx : M 209 2 = n32 n) : ∃ M', xcall xprog (d + 1) 160 [.ref 209, .int x] (xst e L M N) = some (none, xst e L M' N) ∧ M' 209 2 = 0 ∧ M' 209 3 = n32 n ∧ M' 209 4 = 0 ∧ M' 209 5 = x ∧ (∀ o, o ≠ 209 → M' o = M o) ∧ ∀ q, ¬ (2 ≤ q ∧ q ≤ 5) → M' 209 q = M 209 q := by
  refine ⟨xu (xu (xu (xu M 209 3 (n32 n)) 209 2 0) 209 4 0) 209 5 x, ?_, ?_, ?_, ?_, xu_ee, fun o z => ?_, fun q z => ?_⟩
  · rw [aX12_taken, bX12_taken_0, hx]
  · rw [xu_kne (by decide), xu_kne (by decide), xu_ee]
  · rw [xu_kne (by decide), xu_kne (by decide), xu_kne (by decide), xu_ee]
  · rw [xu_kne (by decide), xu_ee]
  · rw [xu_rne z, xu_rne z, xu_rne z, xu_rne z]
  · rw [xu_kne (by omega), xu_kne (by omega), xu_kne (by omega), xu_kne (by omega)]
theorem r_zero : ∀ m k (M : TI), k + m = 72 → ∃ M', xlim cf mX12_chain 1 [.ref 209, .int (n32 k)] [] (xst e L M N) = xlim cf mX12_chain 2 [.ref 209, xD] [] (xst e L M' N) ∧ (∀ o, o ≠ 212 → M' o = M o) ∧ ∀ i, M' 212 i = if k ≤ i ∧ i < 72 then 0 else M 212 i := by
  intro m
  induction m with
  | zero =>
    intro k M hk
    have : k = 72 := by omega
    subst this
    refine ⟨M, ?_, fun _ _ => rfl, fun i => by rw [if_neg (by omega)]⟩
    rw [bX12_chain_1, if_neg (by decide)]
  | succ m ih =>
    intro k M hk
    obtain ⟨M', h1, h2, h3⟩ := ih (k + 1) (xu M 212 k 0) (by omega)
    refine ⟨M', ?_, fun o z => by rw [h2 o z, xu_rne z], fun i => ?_⟩
    · rw [bX12_chain_1, if_pos ((q72l (by omega)).mpr (by omega)), xin_n32 (by omega) (show k < 72 by omega), cond_true, n32_nat (by omega), n32_succ]
      exact h1
    · rw [h3 i, xu_row]
      by_cases z : i = k
      · subst z
        rw [if_neg (by omega), up_eq, if_pos (by omega)]
      · rw [up_ne z]
        by_cases y : k ≤ i ∧ i < 72
        · rw [if_pos y, if_pos (by omega)]
        · rw [if_neg y, if_neg (by omega)]
theorem r_fill1 : ∀ m k (M : TI), k + m = 360 → ∃ M', xlim cf mX12_chain 7 [.ref 209, .int (n32 k)] [] (xst e L M N) = xlim cf mX12_chain 10 [.ref 209, xD] [] (xst e L M' N) ∧ (∀ o, o ≠ 211 → M' o = M o) ∧ ∀ i, M' 211 i = if k ≤ i ∧ i < 360 then (if i < 72 then M 212 i else 0) else M 211 i := by
  intro m
  induction m with
  | zero =>
    intro k M hk
    have : k = 360 := by omega
    subst this
    refine ⟨M, ?_, fun _ _ => rfl, fun i => by rw [if_neg (by omega)]⟩
    rw [bX12_chain_7, if_neg (by decide)]
  | succ m ih =>
    intro k M hk
    obtain ⟨M', h1, h2, h3⟩ := ih (k + 1) (xu M 211 k (if k < 72 then M 212 k else 0)) (by omega)
    refine ⟨M', ?_, fun o z => by rw [h2 o z, xu_rne z], fun i => ?_⟩
    · rw [← h1, bX12_chain_7, if_pos ((q360l (by omega)).mpr (by omega))]
      by_cases z : k < 72
      · rw [if_pos ((q72l (by omega)).mpr z), xin_n32 (by omega) z, cond_true, n32_nat (by omega), bX12_chain_9, xin_n32 (by omega) (show k < 360 by omega), cond_true, n32_nat (by omega), n32_succ, if_pos z]
      · rw [if_neg (fun w => z ((q72l (by omega)).mp w)), bX12_chain_8, bX12_chain_9, xin_n32 (by omega) (show k < 360 by omega), cond_true, n32_nat (by omega), n32_succ, if_neg z]
    · rw [h3 i, xu_row, xu_rne (by decide)]
      by_cases z : i = k
      · subst z
        rw [if_neg (by omega), up_eq, if_pos (show i ≤ i ∧ i < 360 by omega)]
      · rw [up_ne z]
        by_cases y : k ≤ i ∧ i < 360
        · rw [if_pos y, if_pos (by omega)]
        · rw [if_neg y, if_neg (by omega)]
theorem r_fill2 (h8 : V ≤ 8) : ∀ m k (M : TI) (N : TJ), k + m = 8 → M 211 1 = n32 V → ∃ M' N', xlim cf mX12_chain 11 [.ref 209, .int (n32 k)] [] (xst e L M N) = xlim cf mX12_chain 14 [.ref 209, xD] [] (xst e L M' N') ∧ (∀ o, o ≠ 211 → M' o = M o) ∧ (∀ i, M' 211 i = if 216 + k ≤ i ∧ i < 224 then -1 else M 211 i) ∧ (∀ o, o ≠ 215 → N' o = N o) ∧ ∀ i, N' 215 i = if k ≤ i ∧ i < 8 then (if i < V then N 215 (28 + i) else Int64.ofNat 0) else N 215 i := by
  intro m
  induction m with
  | zero =>
    intro k M N hk hV
    have : k = 8 := by omega
    subst this
    refine ⟨M, N, ?_, fun _ _ => rfl, fun i => by rw [if_neg (by omega)], fun _ _ => rfl, fun i => by rw [if_neg (by omega)]⟩
    rw [bX12_chain_11, if_neg (by decide)]
  | succ m ih =>
    intro k M N hk hV
    have e216 : (216 : Int32) + n32 k = n32 (216 + k) := n32_add
    have e28 : (28 : Int32) + n32 k = n32 (28 + k) := n32_add
    obtain ⟨M', N', h1, h2, h3, h4, h5⟩ := ih (k + 1) (xu M 211 (216 + k) (-1)) (xu N 215 k (if k < V then N 215 (28 + k) else Int64.ofNat 0)) (by omega) (by rw [xu_kne (by omega), hV])
    refine ⟨M', N', ?_, fun o z => by rw [h2 o z, xu_rne z], fun i => ?_, fun o z => by rw [h4 o z, xu_rne z], fun i => ?_⟩
    · rw [← h1, bX12_chain_11, if_pos ((q8l (by omega)).mpr (by omega)), e216, xin_n32 (by omega) (show 216 + k < 360 by omega), cond_true, n32_nat (by omega), xu_kne (show 1 ≠ 216 + k by omega), hV, e28, xin_n32 (by omega) (show 28 + k < 56 by omega), cond_true, n32_nat (by omega)]
      by_cases z : k < V
      · rw [if_pos ((n32_lt (by omega) (by omega)).mpr z), bX12_chain_13, xin_n32 (by omega) (show k < 56 by omega), cond_true, n32_nat (by omega), n32_succ, if_pos z]
      · rw [if_neg (fun w => z ((n32_lt (by omega) (by omega)).mp w)), bX12_chain_12, bX12_chain_13, xin_n32 (by omega) (show k < 56 by omega), cond_true, n32_nat (by omega), n32_succ, if_neg z]
    · rw [h3 i, xu_row]
      by_cases z : i = 216 + k
      · subst z
        rw [if_neg (by omega), up_eq, if_pos (by omega)]
      · rw [up_ne z]
        by_cases y : 216 + k ≤ i ∧ i < 224
        · rw [if_pos y, if_pos (by omega)]
        · rw [if_neg y, if_neg (by omega)]
    · rw [h5 i, xu_row]
      by_cases z : i = k
      · subst z
        rw [if_neg (by omega), up_eq, if_pos (show i ≤ i ∧ i < 8 by omega)]
      · rw [up_ne z, up_ne (show 28 + i ≠ k by omega)]
        by_cases y : k ≤ i ∧ i < 8
        · rw [if_pos y, if_pos (by omega)]
        · rw [if_neg y, if_neg (by omega)]
theorem r_fill3 (h20 : B ≤ 20) (hB : M 211 2 = n32 B) : ∀ m k (N : TJ), k + m = 20 → ∃ N', xlim cf mX12_chain 15 [.ref 209, .int (n32 k)] [] (xst e L M N) = xlim cf mX12_chain 18 [.ref 209, xD] [] (xst e L M N') ∧ (∀ o, o ≠ 215 → N' o = N o) ∧ ∀ i, N' 215 i = if 8 + k ≤ i ∧ i < 28 then (if i < 8 + B then N 215 (28 + i) else Int64.ofNat 0) else N 215 i := by
  intro m
  induction m with
  | zero =>
    intro k N hk
    have : k = 20 := by omega
    subst this
    refine ⟨N, ?_, fun _ _ => rfl, fun i => by rw [if_neg (by omega)]⟩
    rw [bX12_chain_15, if_neg (by decide)]
  | succ m ih =>
    intro k N hk
    have e8 : (8 : Int32) + n32 k = n32 (8 + k) := n32_add
    have e36 : (36 : Int32) + n32 k = n32 (36 + k) := n32_add
    obtain ⟨N', h1, h4, h5⟩ := ih (k + 1) (xu N 215 (8 + k) (if k < B then N 215 (36 + k) else Int64.ofNat 0)) (by omega)
    refine ⟨N', ?_, fun o z => by rw [h4 o z, xu_rne z], fun i => ?_⟩
    · rw [← h1, bX12_chain_15, if_pos ((q20l (by omega)).mpr (by omega)), hB, e36, e8, xin_n32 (by omega) (show 36 + k < 56 by omega), cond_true, n32_nat (by omega)]
      by_cases z : k < B
      · rw [if_pos ((n32_lt (by omega) (by omega)).mpr z), bX12_chain_17, xin_n32 (by omega) (show 8 + k < 56 by omega), cond_true, n32_nat (by omega), n32_succ, if_pos z]
      · rw [if_neg (fun w => z ((n32_lt (by omega) (by omega)).mp w)), bX12_chain_16, bX12_chain_17, xin_n32 (by omega) (show 8 + k < 56 by omega), cond_true, n32_nat (by omega), n32_succ, if_neg z]
    · rw [h5 i, xu_row]
      by_cases z : i = 8 + k
      · subst z
        rw [if_neg (by omega), up_eq, if_pos (show 8 + k ≤ 8 + k ∧ 8 + k < 28 by omega), show 28 + (8 + k) = 36 + k by omega]
        by_cases y : k < B
        · rw [if_pos y, if_pos (by omega)]
        · rw [if_neg y, if_neg (by omega)]
      · rw [up_ne z, up_ne (show 28 + i ≠ 8 + k by omega)]
        by_cases y : 8 + k ≤ i ∧ i < 28
        · rw [if_pos y, if_pos (by omega)]
        · rw [if_neg y, if_neg (by omega)]
/-- the reference takes the draft over -/
theorem r_fill (hV : M 212 1 = n32 V) (h8 : V ≤ 8) (hB : M 212 2 = n32 B) (h20 : B ≤ 20) (hR : M 209 20 = x) : ∃ M' N', xlim cf mX12_chain 6 [.ref 209, xD] [] (xst e L M N) = some (some (.int x), xst e L M' N') ∧ (∀ o, o ≠ 209 → o ≠ 211 → M' o = M o) ∧ (∀ q, q ≠ 34 → q ≠ 38 → M' 209 q = M 209 q) ∧ M' 209 34 = 0 ∧ M' 209 38 = 0 ∧ (∀ i, i < 72 → M' 211 i = M 212 i) ∧ (∀ i, 72 ≤ i → i < 360 → M' 211 i = if 216 ≤ i ∧ i < 224 then -1 else 0) ∧ (∀ o, o ≠ 215 → N' o = N o) ∧ (∀ i, i < 8 → N' 215 i = if i < V then N 215 (28 + i) else Int64.ofNat 0) ∧ ∀ i, i < 20 → N' 215 (8 + i) = if i < B then N 215 (36 + i) else Int64.ofNat 0 := by
  obtain ⟨M1, a1, a2, a3⟩ := r_fill1 (e := e) (L := L) (N := N) (cf := cf) 360 0 M (by omega)
  have v1 : M1 211 1 = n32 V := by rw [a3 1, if_pos (by omega), if_pos (by omega), hV]
  obtain ⟨M2, N2, b1, b2, b3, b4, b5⟩ := r_fill2 (e := e) (L := L) (cf := cf) h8 8 0 M1 N (by omega) v1
  have w1 : M2 211 2 = n32 B := by rw [b3 2, if_neg (by omega), a3 2, if_pos (by omega), if_pos (by omega), hB]
  obtain ⟨N3, c1, c2, c3⟩ := r_fill3 (e := e) (L := L) (cf := cf) h20 w1 20 0 N2 (by omega)
  have e209 : M2 209 = M 209 := (b2 209 (by omega)).trans (a2 209 (by omega))
  refine ⟨xu (xu M2 209 38 0) 209 34 0, N3, ?_, fun o z1 z2 => ?_, fun q z1 z2 => ?_, xu_ee, ?_, fun i hi => ?_, fun i h1 h2 => ?_, fun o z => ?_, fun i hi => ?_, fun i hi => ?_⟩
  · have z0 : ∀ A B, xlim cf mX12_chain A B [] (xst e L M N) = xlim cf mX12_chain A B [] (xst e L M N) := fun _ _ => rfl
    refine (bX12_chain_6 cf e L M N).trans (a1.trans ((bX12_chain_10 cf e L M1 N).trans (b1.trans ((bX12_chain_14 cf e L M2 N2).trans (c1.trans ?_)))))
    rw [bX12_chain_18, e209, hR]
  · rw [xu_rne z1, xu_rne z1, b2 o z2, a2 o z2]
  · rw [xu_kne z1, xu_kne z2, e209]
  · rw [xu_kne (by decide), xu_ee]
  · rw [xu_rne (by decide), xu_rne (by decide), b3 i, if_neg (by omega), a3 i, if_pos (by omega), if_pos hi]
  · rw [xu_rne (by decide), xu_rne (by decide), b3 i, a3 i]
    by_cases z : 216 ≤ i ∧ i < 224
    · rw [if_pos (by omega), if_pos z]
    · rw [if_neg (by omega), if_pos (by omega), if_neg (by omega), if_neg z]
  · rw [c2 o z, b4 o z]
  · rw [c3 i, if_neg (by omega), b5 i, if_pos (by omega)]
  · rw [c3 (8 + i), if_pos (show 8 + 0 ≤ 8 + i ∧ 8 + i < 28 by omega), b5 (28 + (8 + i)), if_neg (show ¬ (0 ≤ 28 + (8 + i) ∧ 28 + (8 + i) < 8) by omega), show 28 + (8 + i) = 36 + i by omega]
    by_cases z : i < B
    · rw [if_pos (by omega), if_pos z]
    · rw [if_neg (by omega), if_neg z]
/-- both sides read a chain -/
theorem lk_chain (h9 : n ≤ 940) (h1 : I 1 1 = n32 n) (hT : ∀ i, i < n → I 2 i = M 210 i &&& 255) (h2 : M 209 2 = n32 n) (hr : ∀ k, k < 21 → N 216 k = xwd k) : (∃ K J' M' N' R, xcall xprog (d + 6) 15 [.ref 89, .ref 5] (xst e L I J) = some (some (.int (n32 R)), xst e L K J') ∧ xcall xprog (d' + 6) 181 [.ref 209] (xst e L M N) = xlim (xcall xprog (d' + 5)) mX12_chain 6 [.ref 209, xD] [] (xst e L M' N') ∧ R < 30 ∧ M' 209 20 = n32 R ∧ M' 209 2 = 0 ∧ Dr K J' M' N' ∧ K 5 2 = M' 209 16 ∧ cC K I J' J ∧ eR M' M N' N) ∨ ∃ K J' M' N', xcall xprog (d + 6) 15 [.ref 89, .ref 5] (xst e L I J) = some (some (.int (-1)), xst e L K J') ∧ xcall xprog (d' + 6) 181 [.ref 209] (xst e L M N) = some (some (.int (-1 - M' 209 17)), xst e L M' N') ∧ M' 209 2 = 0 ∧ Flt K M' ∧ cC K I J' J ∧ eR M' M N' N := by
  have h2' : (xu M 209 0 0) 209 2 = n32 n := by rw [xu_kne (by decide), h2]
  obtain ⟨M1, a1, a2, a3, a4, a5, a6, a7⟩ := r_taken (d := d' + 4) (e := e) (L := L) (N := N) (x := 900) h2'
  obtain ⟨M2, b1, b2, b3⟩ := r_zero (e := e) (L := L) (N := N) (cf := xcall xprog (d' + 5)) 72 0 (xu (xu M1 209 16 0) 209 20 0) (by omega)
  have m2 : ∀ q, ¬ (q = 0 ∨ (2 ≤ q ∧ q ≤ 5) ∨ q = 16 ∨ q = 20) → M2 209 q = M 209 q := fun q z => by rw [b2 209 (by decide), xu_kne (by omega), xu_kne (by omega), a7 q (by omega), xu_kne (by omega)]
  have m3 : ∀ q, 2 ≤ q → q ≤ 5 → M2 209 q = M1 209 q := fun q z1 z2 => by rw [b2 209 (by decide), xu_kne (by omega), xu_kne (by omega)]
  have mo : ∀ o, o ≠ 209 → o ≠ 212 → M2 o = M o := fun o z1 z2 => by rw [b2 o z2, xu_rne z1, xu_rne z1, a6 o z1, xu_rne z1]
  have h16 : M2 209 16 = 0 := by rw [b2 209 (by decide), xu_kne (by decide), xu_ee]
  have h20 : M2 209 20 = 0 := by rw [b2 209 (by decide), xu_ee]
  have hI : ∀ o, o ≠ 89 → (xu (xu (xu I 89 0 1) 89 1 0) 89 2 0) o = I o := fun o z => by rw [xu_rne z, xu_rne z, xu_rne z]
  have e212 : ∀ o, o ≠ 212 → (xu M2 212 0 1) o = M2 o := fun o z => xu_rne z
  obtain ⟨K, J', M', N', c1, c2, c3, c4, c5⟩ := lk_open (d := d + 2) (d' := d' + 3) (e := e) (L := L) (most := 900) (n := n) (x := 900) (I := xu (xu (xu I 89 0 1) 89 1 0) 89 2 0) (J := J) (M := xu M2 212 0 1) (N := N) (by omega) h9 (by rw [hI 1 (by omega), h1]) (fun i hi => by rw [hI 2 (by omega), e212 210 (by omega), mo 210 (by omega) (by omega)]; exact hT i hi) (by rw [e212 209 (by omega), m3 3 (by omega) (by omega), a3]) (by rw [e212 209 (by omega), m3 4 (by omega) (by omega), a4]) (by rw [e212 209 (by omega), m3 5 (by omega) (by omega), a5]; rfl) (by rw [e212 209 (by omega), h16]) rfl
  have s' : ∀ i, M' 212 i = if i = 0 then 1 else if i < 72 then 0 else M2 212 i := fun i => by
    rw [c5.1 212 (by omega), xu_row]
    by_cases z : i = 0
    · rw [if_pos z, z, up_eq]
    · rw [up_ne z, if_neg z]
      by_cases y : i < 72
      · rw [if_pos y, b3 i, if_pos (by omega)]
      · rw [if_neg y]
  have eV : sV (M' 212) = 0 := by unfold sV; rw [s', if_neg (by omega), if_pos (by omega)]; decide
  have eB : sB (M' 212) = 0 := by unfold sB; rw [s', if_neg (by omega), if_pos (by omega)]; decide
  have eE : sE (M' 212) = 1 := by unfold sE; rw [s', if_pos rfl]; decide
  have nv : ∀ {v : Nat} {P : Prop}, v < 0 → P := fun h => absurd h (Nat.not_lt_zero _)
  have k89 : ∀ q, K 89 q = (xu (xu (xu I 89 0 1) 89 1 0) 89 2 0) 89 q := fun q => by rw [c4.1 89 (by omega)]
  have hD : Dr K J' M' N' := by
    refine ⟨?_, ?_, ⟨?_, ?_, ?_, ?_, ?_⟩, ?_, fun k hk => ?_⟩
    · unfold wfT
      rw [eV, eB, eE]
      refine ⟨by omega, by omega, ?_, by omega, ?_, by omega, ?_, fun v hv => nv hv, fun hv => nv hv, fun b _ hv => nv hv, fun b hv => nv hv⟩
      · rw [s', if_pos rfl]; rfl
      · rw [s', if_neg (by omega), if_pos (by omega)]; rfl
      · rw [s', if_neg (by omega), if_pos (by omega)]; rfl
    · rw [s', if_neg (by omega), if_pos (by omega)]
    · rw [k89, s', if_pos rfl, xu_kne (by decide), xu_kne (by decide), xu_ee]
    · rw [k89, s', if_neg (by omega), if_pos (by omega), xu_kne (by decide), xu_ee]
    · rw [k89, s', if_neg (by omega), if_pos (by omega), xu_ee]
    · rw [eV]; exact fun v hv => nv hv
    · rw [eB]; exact fun v hv => nv hv
    · rw [eV]; exact fun v hv => nv hv
    · rw [c5.2.1 216 (by omega)]; exact hr k hk
  have ee : eR M' M N' N := by
    refine ⟨fun o z1 z2 => by rw [c5.1 o z1, e212 o z2, mo o z1 z2], fun o z1 z2 => c5.2.1 o z1, fun k hk => by rw [c5.2.1 215 (by omega)], fun q z => ?_⟩
    rw [c5.2.2 q (by omega), e212 209 (by omega), m2 q (by omega)]
  have cc : cC K I J' J := ⟨fun o z1 z2 => by rw [c4.1 o z1, hI o (by omega)], fun o z1 z2 => c4.2 o z1⟩
  have l20 : M' 209 20 = n32 0 := by rw [c5.2.2 20 (by omega), e212 209 (by omega), h20]; rfl
  have l2 : M' 209 2 = 0 := by rw [c5.2.2 2 (by omega), e212 209 (by omega), m3 2 (by omega) (by omega), a2]
  have ed : ∀ {M2 : TI} {N2 : TJ}, dR M2 M' N2 N' → eR M2 M N2 N ∧ M2 209 2 = 0 := fun {M2 N2} y => by
    refine ⟨⟨fun o z1 z2 => (y.1 o z1 z2).trans (ee.1 o z1 z2), fun o z1 z2 => (y.2.1 o z1 z2).trans (ee.2.1 o z1 z2), fun k z => (y.2.2.1 k z).trans (ee.2.2.1 k z), fun q z => (y.2.2.2 q (by omega)).trans (ee.2.2.2 q z)⟩, ?_⟩
    rw [y.2.2.2 2 (by omega), l2]
  have cs : xcall xprog (d + 6) 15 [.ref 89, .ref 5] (xst e L I J) = xlim (xcall xprog (d + 5)) mX2_readFrom 1 [.ref 89, .ref 5, .int (n32 0)] [] (xst e L K J') := by
    rw [aX2_readFrom, bX2_readFrom_0, c1, xcV_some, ekX2_readFrom_0_11]
    rfl
  have rs : xcall xprog (d' + 6) 181 [.ref 209] (xst e L M N) = xlim (xcall xprog (d' + 5)) mX12_chain 3 [.ref 209, xD] [] (xst e L M' N') := by
    rw [aX12_chain, bX12_chain_0, a1, xcV_some, ekX12_chain_0_5]
    refine b1.trans ?_
    rw [bX12_chain_2, c2, xcV_some, ekX12_chain_2_6]
  rw [cs, rs]
  rcases lk_lines (d := d) (d' := d') (e := e) (L := L) 30 0 K J' M' N' (by omega) c3 hD l20 (by omega) (fun _ => ⟨eV, eB⟩) with ⟨K4, J4, M4, N4, R, g1, g2, g3, g4, g5, g6, g7, g8⟩ | ⟨K4, J4, M4, N4, g1, g2, g3, g4, g5⟩
  · exact Or.inl ⟨K4, J4, M4, N4, R, g1, g2, g3, g4, (ed g8).2, g5, g6, cC_t cc g7, (ed g8).1⟩
  · exact Or.inr ⟨K4, J4, M4, N4, g1, g2, (ed g5).2, g3, cC_t cc g4, (ed g5).1⟩
end CHG
