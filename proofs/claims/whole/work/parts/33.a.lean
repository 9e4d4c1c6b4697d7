/-! What the constructors leave. -/
theorem yNew {G : List xO} {e L N kd n : Nat} {rs : List (Option Nat)} {I : Nat → Nat → Int32} {J : Nat → Nat → Int64} {c : Nat → xS → Option xOut} (h : G.length = N) (h2 : Nat.blt N 900 = true) : xnw ((G, e, L), I, J) kd n rs c = c N ((G ++ [(kd, n, rs)], e, L), xz I N 1 0, xz J N 1 0) := by
  subst h
  unfold xnw
  show (bif Nat.blt G.length 900 then _ else none) = _
  rw [h2]
  rfl
theorem yNa {σ : xS} {kd N : Nat} {i : Int32} {c : Nat → xS → Option xOut} {r : Option xOut} (h1 : (!(decide (i < 0)) && Nat.ble i.toNatClampNeg 65536) = true) (h2 : i.toNatClampNeg = N) (h : xnw σ kd N [] c = r) : xna σ kd i c = r := by
  unfold xna
  rw [h1, h2]
  exact h
theorem yNq {σ : xS} {N : Nat} {i : Int32} {c : Nat → xS → Option xOut} {r : Option xOut} (h1 : (!(decide (i < 0)) && Nat.ble i.toNatClampNeg 65536) = true) (h2 : i.toNatClampNeg = N) (h : xnw σ 17 N (List.replicate N none) c = r) : xnq σ i c = r := by
  unfold xnq
  rw [h1, h2]
  exact h
theorem yMn {G : List xO} {e L N n k : Nat} {i j : Int32} {I : Nat → Nat → Int32} {J : Nat → Nat → Int64} {c : Nat → xS → Option xOut} (h : G.length = N) (h1 : (!(decide (i < 0)) && Nat.ble i.toNatClampNeg 64 && !(decide (j < 0)) && Nat.ble j.toNatClampNeg 64 && Nat.blt N 900) = true) (h2 : i.toNatClampNeg = n) (h3 : j.toNatClampNeg = k) : xmn ((G, e, L), I, J) i j c = c N ((G ++ (18, n, (List.range n).map (fun k => some (N + 1 + k))) :: List.replicate n (14, k, []), e, L), xz I N (n + 1) 0, xz J N (n + 1) 0) := by
  subst h
  subst h2
  subst h3
  unfold xmn
  show (bif (!(decide (i < 0)) && Nat.ble i.toNatClampNeg 64 && !(decide (j < 0)) && Nat.ble j.toNatClampNeg 64 && Nat.blt G.length 900) then _ else none) = _
  rw [h1]
  rfl
def xisL (G : List xO) (ci o : Nat) : Bool := match xn G o with
  | some a => Nat.beq a.1 ci
  | none => false
def xrfL (G : List xO) (o k : Nat) : Option Nat := match xn G o with
  | some a => match xn a.2.2 k with
    | some r => r
    | none => none
  | none => none
section YS
variable {G : List xO} {e L ci o k q : Nat} {I : Nat → Nat → Int32} {J : Nat → Nat → Int64}
theorem yis (h : xisL G ci o = true) : xis (G, e, L) ci o = true := h
theorem ypR {c : xS → Option xOut} (h : xisL G ci o = true) : xpR ((G, e, L), I, J) ci o k q c = c ((xsr G o k q, e, L), I, J) := by
  unfold xpR
  show (bif xisL G ci o then _ else none) = _
  rw [h]
  rfl
theorem ypI {v : Int32} {c : xS → Option xOut} (h : xisL G ci o = true) : xpI ((G, e, L), I, J) ci o k v c = c ((G, e, L), xu I o k v, J) := by
  unfold xpI
  show (bif xisL G ci o then _ else none) = _
  rw [h]
  rfl
theorem ypZ {v : Int32} {c : xS → Option xOut} (h : xisL G ci o = true) (h2 : (decide (v = 0) || decide (v = 1)) = true) : xpZ ((G, e, L), I, J) ci o k v c = c ((G, e, L), xu I o k v, J) := by
  unfold xpZ
  show (bif xisL G ci o && (decide (v = 0) || decide (v = 1)) then _ else none) = _
  rw [h, h2]
  rfl
theorem ypJ {v : Int64} {c : xS → Option xOut} (h : xisL G ci o = true) : xpJ ((G, e, L), I, J) ci o k v c = c ((G, e, L), I, xu J o k v) := by
  unfold xpJ
  show (bif xisL G ci o then _ else none) = _
  rw [h]
  rfl
theorem ygR {c : Nat → Option xOut} (h : xisL G ci o = true) (h2 : xrfL G o k = some q) : xgR ((G, e, L), I, J) ci o k c = c q := by
  unfold xgR
  show (bif xisL G ci o then (match xrfL G o k with | some q => c q | none => none) else none) = _
  rw [h, h2]
  rfl
def xokA (G : List xO) (kd r : Nat) (i : Int32) : Bool := xisL G kd r && xin i (match xn G r with | some a => bif Nat.beq a.1 kd then a.2.1 else 0 | none => 0)
theorem yokA {kd r : Nat} {i : Int32} (h : xokA G kd r i = true) : xis (G, e, L) kd r = true ∧ xin i (xlen (G, e, L) kd r) = true := by
  unfold xokA at h
  simp only [Bool.and_eq_true] at h
  refine ⟨h.1, ?_⟩
  have h1 := h.1
  have h2 := h.2
  unfold xisL at h1
  unfold xlen
  cases hx : xn G r with
  | none => rw [hx] at h1; cases h1
  | some a => rw [hx] at h2; exact h2
theorem ysI {r n : Nat} {i v : Int32} {c : xS → Option xOut} (h : xokA G 14 r i = true) (hn : i.toNatClampNeg = n) : xsI ((G, e, L), I, J) r i v c = c ((G, e, L), xu I r n v, J) := by
  obtain ⟨h1, h2⟩ := yokA (e := e) (L := L) h
  subst hn
  unfold xsI
  show (bif xis (G, e, L) 14 r && xin i (xlen (G, e, L) 14 r) then _ else none) = _
  rw [h1, h2]
  rfl
theorem ysJ {r n : Nat} {i : Int32} {v : Int64} {c : xS → Option xOut} (h : xokA G 15 r i = true) (hn : i.toNatClampNeg = n) : xsJ ((G, e, L), I, J) r i v c = c ((G, e, L), I, xu J r n v) := by
  obtain ⟨h1, h2⟩ := yokA (e := e) (L := L) h
  subst hn
  unfold xsJ
  show (bif xis (G, e, L) 15 r && xin i (xlen (G, e, L) 15 r) then _ else none) = _
  rw [h1, h2]
  rfl
theorem ysR {r n : Nat} {i : Int32} {c : xS → Option xOut} (h : (xokA G 17 r i && xisL G 8 q) = true) (hn : i.toNatClampNeg = n) : xsR ((G, e, L), I, J) r i q c = c ((xsr G r n q, e, L), I, J) := by
  simp only [Bool.and_eq_true] at h
  obtain ⟨h1, h2⟩ := yokA (e := e) (L := L) h.1
  subst hn
  unfold xsR
  show (bif xis (G, e, L) 17 r && xin i (xlen (G, e, L) 17 r) && xisL G 8 q then _ else none) = _
  rw [h1, h2, h.2]
  rfl
end YS
theorem xcV_some {σ : xS} {c : xS → Option xOut} : xcV (some (none, σ)) c = c σ := rfl
set_option maxRecDepth 20000 in
theorem qX11_init_0 (cf : xCF) (σ : xS) (v0 : Nat) : xlim cf mX11_init 0 [.ref v0] [] σ = xnw σ 1 2 (List.replicate 2 none) (fun r1 s2 => bif xis s2.1 1 r1 then xcV (cf 6 [.ref r1, .int 940] s2) (fun s4 => xpR s4 11 v0 0 r1 (fun s5 => xnw s5 1 2 (List.replicate 2 none) (fun r6 s7 => bif xis s7.1 1 r6 then xcV (cf 6 [.ref r6, .int 32] s7) (fun s9 => xpR s9 11 v0 1 r6 (fun s10 => xnw s10 9 12 (List.replicate 12 none) (fun r11 s12 => xgR s12 11 v0 0 (fun r13 => bif xis s12.1 9 r11 then xcV (cf 87 [.ref r11, .ref r13] s12) (fun s15 => xpR s15 11 v0 2 r11 (fun s16 => xnw s16 8 4 (List.replicate 4 none) (fun r17 s18 => bif xis s18.1 8 r17 then xcV (cf 79 [.ref r17] s18) (fun s20 => xpR s20 11 v0 3 r17 (fun s21 => xgR s21 11 v0 3 (fun r22 => xgR s21 8 r22 0 (fun r23 => xpR s21 11 v0 4 r23 (fun s24 => xgR s24 11 v0 3 (fun r25 => xgR s24 8 r25 1 (fun r26 => xpR s24 11 v0 5 r26 (fun s27 => xnw s27 4 15 (List.replicate 15 none) (fun r28 s29 => xgR s29 11 v0 3 (fun r30 => bif xis s29.1 4 r28 then xcV (cf 43 [.ref r28, .ref r30] s29) (fun s32 => xpR s32 11 v0 6 r28 (fun s33 => xnw s33 6 5 (List.replicate 5 none) (fun r34 s35 => xgR s35 11 v0 3 (fun r36 => xgR s35 11 v0 6 (fun r37 => bif xis s35.1 6 r34 then xcV (cf 61 [.ref r34, .ref r36, .ref r37] s35) (fun s39 => xpR s39 11 v0 7 r34 (fun s40 => xnw s40 0 6 (List.replicate 6 none) (fun r41 s42 => bif xis s42.1 0 r41 then xcV (cf 0 [.ref r41] s42) (fun s44 => xpR s44 11 v0 8 r41 (fun s45 => xnw s45 3 1 (List.replicate 1 none) (fun r46 s47 => bif xis s47.1 3 r46 then xcV (cf 39 [.ref r46] s47) (fun s49 => xpR s49 11 v0 9 r46 (fun s50 => xnw s50 5 3 (List.replicate 3 none) (fun r51 s52 => bif xis s52.1 5 r51 then xcV (cf 57 [.ref r51] s52) (fun s54 => xpR s54 11 v0 10 r51 (fun s55 => xnw s55 2 12 (List.replicate 12 none) (fun r56 s57 => bif xis s57.1 2 r56 then xcV (cf 13 [.ref r56] s57) (fun s59 => xpR s59 11 v0 11 r56 (fun s60 => xnw s60 7 6 (List.replicate 6 none) (fun r61 s62 => bif xis s62.1 7 r61 then xcV (cf 66 [.ref r61] s62) (fun s64 => xpR s64 11 v0 12 r61 (fun s65 => xnq s65 2 (fun r66 s67 => xnw s67 8 4 (List.replicate 4 none) (fun r68 s69 => bif xis s69.1 8 r68 then xcV (cf 79 [.ref r68] s69) (fun s71 => xsR s71 r66 0 r68 (fun s72 => xnw s72 8 4 (List.replicate 4 none) (fun r73 s74 => bif xis s74.1 8 r73 then xcV (cf 79 [.ref r73] s74) (fun s76 => xsR s76 r66 1 r73 (fun s77 => xpR s77 11 v0 13 r66 (fun s78 => xna s78 16 2 (fun r79 s80 => xpR s80 11 v0 14 r79 (fun s81 => xna s81 14 10 (fun r82 s83 => xpR s83 11 v0 15 r82 (fun s84 => xpI s84 11 v0 16 0 (fun s85 => some (none, s85))))))))) else none))) else none)))) else none))) else none))) else none))) else none))) else none))) else none))))) else none)))))))))) else none))) else none)))) else none))) else none) := (xlim_eq cf mX11_init 0 _ _ σ).trans rfl
theorem qX1_init_0 (cf : xCF) (σ : xS) (v0 : Nat) (v1 : Int32) : xlim cf mX1_init 0 [.ref v0, .int v1] [] σ = xna σ 14 ((if 0 < v1 then v1 else 0)) (fun r1 s2 => xpR s2 1 v0 0 r1 (fun s3 => xpI s3 1 v0 1 0 (fun s4 => some (none, s4)))) := (xlim_eq cf mX1_init 0 _ _ σ).trans rfl
theorem qX9_init_0 (cf : xCF) (σ : xS) (v0 : Nat) (v1 : Nat) : xlim cf mX9_init 0 [.ref v0, .ref v1] [] σ = xpR σ 9 v0 4 v1 (fun s1 => some (none, s1)) := (xlim_eq cf mX9_init 0 _ _ σ).trans rfl
theorem qX8_init_0 (cf : xCF) (σ : xS) (v0 : Nat) : xlim cf mX8_init 0 [.ref v0] [] σ = xnw σ 2 12 (List.replicate 12 none) (fun r1 s2 => bif xis s2.1 2 r1 then xcV (cf 13 [.ref r1] s2) (fun s4 => xpR s4 8 v0 0 r1 (fun s5 => xnw s5 10 6 (List.replicate 6 none) (fun r6 s7 => xgR s7 8 v0 0 (fun r8 => bif xis s7.1 10 r6 then xcV (cf 99 [.ref r6, .ref r8] s7) (fun s10 => xpR s10 8 v0 1 r6 (fun s11 => xgR s11 8 v0 1 (fun r12 => bif xis s11.1 10 r12 then xcV (cf 100 [.ref r12] s11) (fun s14 => xnw s14 7 6 (List.replicate 6 none) (fun r15 s16 => bif xis s16.1 7 r15 then xcV (cf 66 [.ref r15] s16) (fun s18 => xpR s18 8 v0 2 r15 (fun s19 => xpZ s19 8 v0 3 1 (fun s20 => some (none, s20)))) else none)) else none))) else none)))) else none) := (xlim_eq cf mX8_init 0 _ _ σ).trans rfl
theorem qX2_init_0 (cf : xCF) (σ : xS) (v0 : Nat) : xlim cf mX2_init 0 [.ref v0] [] σ = xpI σ 2 v0 0 1 (fun s1 => xpI s1 2 v0 1 0 (fun s2 => xpI s2 2 v0 2 0 (fun s3 => xna s3 15 8 (fun r4 s5 => xpR s5 2 v0 3 r4 (fun s6 => xna s6 14 8 (fun r7 s8 => xpR s8 2 v0 4 r7 (fun s9 => xna s9 15 20 (fun r10 s11 => xpR s11 2 v0 5 r10 (fun s12 => xna s12 14 20 (fun r13 s14 => xpR s14 2 v0 6 r13 (fun s15 => xna s15 14 20 (fun r16 s17 => xpR s17 2 v0 7 r16 (fun s18 => xna s18 14 20 (fun r19 s20 => xpR s20 2 v0 8 r19 (fun s21 => xna s21 14 20 (fun r22 s23 => xpR s23 2 v0 9 r22 (fun s24 => xna s24 14 20 (fun r25 s26 => xpR s26 2 v0 10 r25 (fun s27 => xmn s27 20 8 (fun r28 s29 => xpR s29 2 v0 11 r28 (fun s30 => some (none, s30)))))))))))))))))))))) := (xlim_eq cf mX2_init 0 _ _ σ).trans rfl
theorem qX10_init_0 (cf : xCF) (σ : xS) (v0 : Nat) (v1 : Nat) : xlim cf mX10_init 0 [.ref v0, .ref v1] [] σ = xpR σ 10 v0 5 v1 (fun s1 => xpI s1 10 v0 0 0 (fun s2 => xna s2 14 48 (fun r3 s4 => xpR s4 10 v0 1 r3 (fun s5 => xna s5 14 48 (fun r6 s7 => xpR s7 10 v0 2 r6 (fun s8 => xna s8 14 48 (fun r9 s10 => xpR s10 10 v0 3 r9 (fun s11 => xna s11 14 8 (fun r12 s13 => xpR s13 10 v0 4 r12 (fun s14 => some (none, s14))))))))))) := (xlim_eq cf mX10_init 0 _ _ σ).trans rfl
theorem qX10_clear_0 (cf : xCF) (σ : xS) (v0 : Nat) : xlim cf mX10_clear 0 [.ref v0, xD] [] σ = xpI σ 10 v0 0 0 (fun s1 => xlim cf mX10_clear 1 [.ref v0, .int 0] [] s1) := (xlim_eq cf mX10_clear 0 _ _ σ).trans rfl
theorem qX10_clear_1 (cf : xCF) (σ : xS) (v0 : Nat) (v1 : Int32) : xlim cf mX10_clear 1 [.ref v0, .int v1] [] σ = if v1 < 8 then xgR σ 10 v0 4 (fun r1 => xsI σ r1 v1 ((-1)) (fun s2 => xlim cf mX10_clear 1 [.ref v0, .int (v1 + 1)] [] s2)) else xlim cf mX10_clear 2 [xD, xD] [] σ := (xlim_eq cf mX10_clear 1 _ _ σ).trans rfl
theorem qX10_clear_2 (cf : xCF) (σ : xS)  : xlim cf mX10_clear 2 [xD, xD] [] σ = some (none, σ) := (xlim_eq cf mX10_clear 2 _ _ σ).trans rfl
theorem qX7_init_0 (cf : xCF) (σ : xS) (v0 : Nat) : xlim cf mX7_init 0 [.ref v0] [] σ = xpI σ 7 v0 0 0 (fun s1 => xpI s1 7 v0 1 0 (fun s2 => xna s2 14 40 (fun r3 s4 => xpR s4 7 v0 2 r3 (fun s5 => xna s5 14 40 (fun r6 s7 => xpR s7 7 v0 3 r6 (fun s8 => xna s8 14 40 (fun r9 s10 => xpR s10 7 v0 4 r9 (fun s11 => xna s11 14 40 (fun r12 s13 => xpR s13 7 v0 5 r12 (fun s14 => some (none, s14))))))))))) := (xlim_eq cf mX7_init 0 _ _ σ).trans rfl
theorem qX4_init_0 (cf : xCF) (σ : xS) (v0 : Nat) (v1 : Nat) : xlim cf mX4_init 0 [.ref v0, .ref v1] [] σ = xpR σ 4 v0 12 v1 (fun s1 => xgR s1 8 v1 0 (fun r2 => xpR s1 4 v0 13 r2 (fun s3 => xgR s3 8 v1 1 (fun r4 => xpR s3 4 v0 14 r4 (fun s5 => xpI s5 4 v0 6 ((-1)) (fun s6 => xna s6 14 20 (fun r7 s8 => xpR s8 4 v0 9 r7 (fun s9 => xna s9 14 20 (fun r10 s11 => xpR s11 4 v0 10 r10 (fun s12 => xmn s12 20 20 (fun r13 s14 => xpR s14 4 v0 11 r13 (fun s15 => some (none, s15))))))))))))) := (xlim_eq cf mX4_init 0 _ _ σ).trans rfl
theorem qX6_init_0 (cf : xCF) (σ : xS) (v0 : Nat) (v1 : Nat) (v2 : Nat) : xlim cf mX6_init 0 [.ref v0, .ref v1, .ref v2] [] σ = xpR σ 6 v0 3 v1 (fun s1 => xpR s1 6 v0 4 v2 (fun s2 => xpI s2 6 v0 0 ((-1)) (fun s3 => xpI s3 6 v0 1 ((-1)) (fun s4 => xpI s4 6 v0 2 0 (fun s5 => some (none, s5)))))) := (xlim_eq cf mX6_init 0 _ _ σ).trans rfl
theorem qX0_init_0 (cf : xCF) (σ : xS) (v0 : Nat) : xlim cf mX0_init 0 [.ref v0] [] σ = xna σ 14 4 (fun r1 s2 => xsI s2 r1 0 ((-1)) (fun s3 => xsI s3 r1 1 ((-1)) (fun s4 => xsI s4 r1 2 ((-1)) (fun s5 => xsI s5 r1 3 ((-1)) (fun s6 => xpR s6 0 v0 0 r1 (fun s7 => xpI s7 0 v0 1 0 (fun s8 => xna s8 14 40 (fun r9 s10 => xpR s10 0 v0 2 r9 (fun s11 => xna s11 14 40 (fun r12 s13 => xpR s13 0 v0 3 r12 (fun s14 => xna s14 14 40 (fun r15 s16 => xpR s16 0 v0 4 r15 (fun s17 => xna s17 14 40 (fun r18 s19 => xpR s19 0 v0 5 r18 (fun s20 => some (none, s20)))))))))))))))) := (xlim_eq cf mX0_init 0 _ _ σ).trans rfl
theorem qX3_init_0 (cf : xCF) (σ : xS) (v0 : Nat) : xlim cf mX3_init 0 [.ref v0] [] σ = xpI σ 3 v0 0 0 (fun s1 => some (none, s1)) := (xlim_eq cf mX3_init 0 _ _ σ).trans rfl
theorem qX5_init_0 (cf : xCF) (σ : xS) (v0 : Nat) : xlim cf mX5_init 0 [.ref v0] [] σ = xmn σ 8 10 (fun r1 s2 => xpR s2 5 v0 0 r1 (fun s3 => xpI s3 5 v0 1 0 (fun s4 => xpI s4 5 v0 2 0 (fun s5 => some (none, s5))))) := (xlim_eq cf mX5_init 0 _ _ σ).trans rfl
set_option maxRecDepth 20000 in
theorem qX12_init_0 (cf : xCF) (σ : xS) (v0 : Nat) : xlim cf mX12_init 0 [.ref v0] [] σ = xna σ 13 940 (fun r1 s2 => xpR s2 12 v0 1 r1 (fun s3 => xna s3 14 360 (fun r4 s5 => xpR s5 12 v0 6 r4 (fun s6 => xna s6 14 72 (fun r7 s8 => xpR s8 12 v0 7 r7 (fun s9 => xna s9 14 135 (fun r10 s11 => xpR s11 12 v0 8 r10 (fun s12 => xna s12 14 164 (fun r13 s14 => xpR s14 12 v0 9 r13 (fun s15 => xna s15 15 56 (fun r16 s17 => xpR s17 12 v0 10 r16 (fun s18 => xna s18 15 21 (fun r19 s20 => xpR s20 12 v0 11 r19 (fun s21 => xna s21 14 20 (fun r22 s23 => xpR s23 12 v0 21 r22 (fun s24 => xna s24 14 20 (fun r25 s26 => xpR s26 12 v0 22 r25 (fun s27 => xna s27 14 400 (fun r28 s29 => xpR s29 12 v0 23 r28 (fun s30 => xna s30 14 20 (fun r31 s32 => xpR s32 12 v0 24 r31 (fun s33 => xna s33 14 20 (fun r34 s35 => xpR s35 12 v0 25 r34 (fun s36 => xna s36 14 1776 (fun r37 s38 => xpR s38 12 v0 35 r37 (fun s39 => xna s39 14 222 (fun r40 s41 => xpR s41 12 v0 36 r40 (fun s42 => xna s42 14 222 (fun r43 s44 => xpR s44 12 v0 37 r43 (fun s45 => xpI s45 12 v0 40 ((-1)) (fun s46 => xpI s46 12 v0 41 ((-1)) (fun s47 => xna s47 13 30 (fun r48 s49 => xpR s49 12 v0 42 r48 (fun s50 => xna s50 14 4 (fun r51 s52 => xpR s52 12 v0 46 r51 (fun s53 => xna s53 14 45 (fun r54 s55 => xpR s55 12 v0 48 r54 (fun s56 => xna s56 16 45 (fun r57 s58 => xpR s58 12 v0 54 r57 (fun s59 => xna s59 14 720 (fun r60 s61 => xpR s61 12 v0 55 r60 (fun s62 => xna s62 15 56 (fun r63 s64 => xpR s64 12 v0 56 r63 (fun s65 => xna s65 16 2 (fun r66 s67 => xpR s67 12 v0 57 r66 (fun s68 => xgR s68 12 v0 11 (fun r69 => xsJ s68 r69 0 ((Int64.ofNat 435678045032)) (fun s70 => xgR s70 12 v0 11 (fun r71 => xsJ s70 r71 1 ((Int64.ofNat 508676040050)) (fun s72 => xgR s72 12 v0 11 (fun r73 => xsJ s72 r73 2 ((Int64.ofNat 422726034283)) (fun s74 => xgR s74 12 v0 11 (fun r75 => xsJ s74 r75 3 ((Int64.ofNat 28526)) (fun s76 => xgR s76 12 v0 11 (fun r77 => xsJ s76 r77 4 ((Int64.ofNat 109299962373989)) (fun s78 => xgR s78 12 v0 11 (fun r79 => xsJ s78 r79 5 ((Int64.ofNat 1987015781)) (fun s80 => xgR s80 12 v0 11 (fun r81 => xsJ s80 r81 6 ((Int64.ofNat 1819242347)) (fun s82 => xgR s82 12 v0 11 (fun r83 => xsJ s82 r83 7 ((Int64.ofNat 1735552887)) (fun s84 => xgR s84 12 v0 11 (fun r85 => xsJ s84 r85 8 ((Int64.ofNat 28530)) (fun s86 => xgR s86 12 v0 11 (fun r87 => xsJ s86 r87 9 ((Int64.ofNat 6385252)) (fun s88 => xgR s88 12 v0 11 (fun r89 => xsJ s88 r89 10 ((Int64.ofNat 7237492)) (fun s90 => xgR s90 12 v0 11 (fun r91 => xsJ s90 r91 11 ((Int64.ofNat 1818583398)) (fun s92 => xgR s92 12 v0 11 (fun r93 => xsJ s92 r93 12 ((Int64.ofNat 482905517684)) (fun s94 => xgR s94 12 v0 11 (fun r95 => xsJ s94 r95 13 ((Int64.ofNat 1786082164)) (fun s96 => xgR s96 12 v0 11 (fun r97 => xsJ s96 r97 14 ((Int64.ofNat 439855505772)) (fun s98 => xgR s98 12 v0 11 (fun r99 => xsJ s98 r99 15 ((Int64.ofNat 109300197582190)) (fun s100 => xgR s100 12 v0 11 (fun r101 => xsJ s100 r101 16 ((Int64.ofNat 504363246962)) (fun s102 => xgR s102 12 v0 11 (fun r103 => xsJ s102 r103 17 ((Int64.ofNat 114784769370228)) (fun s104 => xgR s104 12 v0 11 (fun r105 => xsJ s104 r105 18 ((Int64.ofNat 465558725996)) (fun s106 => xgR s106 12 v0 11 (fun r107 => xsJ s106 r107 19 ((Int64.ofNat 1751475828)) (fun s108 => xgR s108 12 v0 11 (fun r109 => xsJ s108 r109 20 ((Int64.ofNat 121450625394034)) (fun s110 => xgR s110 12 v0 6 (fun r111 => xsI s110 r111 0 1 (fun s112 => some (none, s112))))))))))))))))))))))))))))))))))))))))))))))))))))))))))))))))))))))))))))))))))))))))))) := (xlim_eq cf mX12_init 0 _ _ σ).trans rfl
