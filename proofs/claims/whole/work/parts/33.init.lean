/-! What the constructors leave. -/
theorem yNew {G : List xO} {e L N kd n : Nat} {rs : List (Option Nat)} {I : Nat → Nat → Int32} {J : Nat → Nat → Int64} {c : Nat → xS → Option xOut} (h : G.length = N) (h2 : Nat.blt N 900 = true) : xnw ((G, e, L), I, J) kd n rs c = c N ((G ++ [(kd, n, rs)], e, L), xz I N 1 0, xz J N 1 0) := by
  subst h
  unfold xnw
  show (bif Nat.blt G.length 900 then _ else none) = _
  rw [h2]
  rfl
theorem yNa {σ : xS} {kd N : Nat} {i : Int32} {c : Nat → xS → Option xOut} {r : Option xOut} (h1 : (!(decide (i < 0)) && Nat.ble i.toNatClampNeg 65536) = true) (h2 : i.toNatClampNeg = N) (h : xnw σ kd N [] c = r) : xna σ kd i c = r := by
  unfold xna
  rw [h1, h2]
  exact h
theorem yNq {σ : xS} {N : Nat} {i : Int32} {c : Nat → xS → Option xOut} {r : Option xOut} (h1 : (!(decide (i < 0)) && Nat.ble i.toNatClampNeg 65536) = true) (h2 : i.toNatClampNeg = N) (h : xnw σ 17 N (List.replicate N none) c = r) : xnq σ i c = r := by
  unfold xnq
  rw [h1, h2]
  exact h
theorem yMn {G : List xO} {e L N n k : Nat} {i j : Int32} {I : Nat → Nat → Int32} {J : Nat → Nat → Int64} {c : Nat → xS → Option xOut} (h : G.length = N) (h1 : (!(decide (i < 0)) && Nat.ble i.toNatClampNeg 64 && !(decide (j < 0)) && Nat.ble j.toNatClampNeg 64 && Nat.blt N 900) = true) (h2 : i.toNatClampNeg = n) (h3 : j.toNatClampNeg = k) : xmn ((G, e, L), I, J) i j c = c N ((G ++ (18, n, (List.range n).map (fun k => some (N + 1 + k))) :: List.replicate n (14, k, []), e, L), xz I N (n + 1) 0, xz J N (n + 1) 0) := by
  subst h
  subst h2
  subst h3
  unfold xmn
  show (bif (!(decide (i < 0)) && Nat.ble i.toNatClampNeg 64 && !(decide (j < 0)) && Nat.ble j.toNatClampNeg 64 && Nat.blt G.length 900) then _ else none) = _
  rw [h1]
  rfl
def xisL (G : List xO) (ci o : Nat) : Bool := match xn G o with
  | some a => Nat.beq a.1 ci
  | none => false
def xrfL (G : List xO) (o k : Nat) : Option Nat := match xn G o with
  | some a => match xn a.2.2 k with
    | some r => r
    | none => none
  | none => none
section YS
variable {G : List xO} {e L ci o k q : Nat} {I : Nat → Nat → Int32} {J : Nat → Nat → Int64}
theorem yis (h : xisL G ci o = true) : xis (G, e, L) ci o = true := h
theorem ypR {c : xS → Option xOut} (h : xisL G ci o = true) : xpR ((G, e, L), I, J) ci o k q c = c ((xsr G o k q, e, L), I, J) := by
  unfold xpR
  show (bif xisL G ci o then _ else none) = _
  rw [h]
  rfl
theorem ypI {v : Int32} {c : xS → Option xOut} (h : xisL G ci o = true) : xpI ((G, e, L), I, J) ci o k v c = c ((G, e, L), xu I o k v, J) := by
  unfold xpI
  show (bif xisL G ci o then _ else none) = _
  rw [h]
  rfl
theorem ypZ {v : Int32} {c : xS → Option xOut} (h : xisL G ci o = true) (h2 : (decide (v = 0) || decide (v = 1)) = true) : xpZ ((G, e, L), I, J) ci o k v c = c ((G, e, L), xu I o k v, J) := by
  unfold xpZ
  show (bif xisL G ci o && (decide (v = 0) || decide (v = 1)) then _ else none) = _
  rw [h, h2]
  rfl
theorem ypJ {v : Int64} {c : xS → Option xOut} (h : xisL G ci o = true) : xpJ ((G, e, L), I, J) ci o k v c = c ((G, e, L), I, xu J o k v) := by
  unfold xpJ
  show (bif xisL G ci o then _ else none) = _
  rw [h]
  rfl
theorem ygR {c : Nat → Option xOut} (h : xisL G ci o = true) (h2 : xrfL G o k = some q) : xgR ((G, e, L), I, J) ci o k c = c q := by
  unfold xgR
  show (bif xisL G ci o then (match xrfL G o k with | some q => c q | none => none) else none) = _
  rw [h, h2]
  rfl
def xokA (G : List xO) (kd r : Nat) (i : Int32) : Bool := xisL G kd r && xin i (match xn G r with | some a => bif Nat.beq a.1 kd then a.2.1 else 0 | none => 0)
theorem yokA {kd r : Nat} {i : Int32} (h : xokA G kd r i = true) : xis (G, e, L) kd r = true ∧ xin i (xlen (G, e, L) kd r) = true := by
  unfold xokA at h
  simp only [Bool.and_eq_true] at h
  refine ⟨h.1, ?_⟩
  have h1 := h.1
  have h2 := h.2
  unfold xisL at h1
  unfold xlen
  cases hx : xn G r with
  | none => rw [hx] at h1; cases h1
  | some a => rw [hx] at h2; exact h2
theorem ysI {r n : Nat} {i v : Int32} {c : xS → Option xOut} (h : xokA G 14 r i = true) (hn : i.toNatClampNeg = n) : xsI ((G, e, L), I, J) r i v c = c ((G, e, L), xu I r n v, J) := by
  obtain ⟨h1, h2⟩ := yokA (e := e) (L := L) h
  subst hn
  unfold xsI
  show (bif xis (G, e, L) 14 r && xin i (xlen (G, e, L) 14 r) then _ else none) = _
  rw [h1, h2]
  rfl
theorem ysJ {r n : Nat} {i : Int32} {v : Int64} {c : xS → Option xOut} (h : xokA G 15 r i = true) (hn : i.toNatClampNeg = n) : xsJ ((G, e, L), I, J) r i v c = c ((G, e, L), I, xu J r n v) := by
  obtain ⟨h1, h2⟩ := yokA (e := e) (L := L) h
  subst hn
  unfold xsJ
  show (bif xis (G, e, L) 15 r && xin i (xlen (G, e, L) 15 r) then _ else none) = _
  rw [h1, h2]
  rfl
theorem ysR {r n : Nat} {i : Int32} {c : xS → Option xOut} (h : (xokA G 17 r i && xisL G 8 q) = true) (hn : i.toNatClampNeg = n) : xsR ((G, e, L), I, J) r i q c = c ((xsr G r n q, e, L), I, J) := by
  simp only [Bool.and_eq_true] at h
  obtain ⟨h1, h2⟩ := yokA (e := e) (L := L) h.1
  subst hn
  unfold xsR
  show (bif xis (G, e, L) 17 r && xin i (xlen (G, e, L) 17 r) && xisL G 8 q then _ else none) = _
  rw [h1, h2, h.2]
  rfl
end YS
theorem xcV_some {σ : xS} {c : xS → Option xOut} : xcV (some (none, σ)) c = c σ := rfl
set_option maxRecDepth 20000 in
theorem qX11_init_0 (cf : xCF) (σ : xS) (v0 : Nat) : xlim cf mX11_init 0 [.ref v0] [] σ = xnw σ 1 2 (List.replicate 2 none) (fun r1 s2 => bif xis s2.1 1 r1 then xcV (cf 6 [.ref r1, .int 940] s2) (fun s4 => xpR s4 11 v0 0 r1 (fun s5 => xnw s5 1 2 (List.replicate 2 none) (fun r6 s7 => bif xis s7.1 1 r6 then xcV (cf 6 [.ref r6, .int 32] s7) (fun s9 => xpR s9 11 v0 1 r6 (fun s10 => xnw s10 9 12 (List.replicate 12 none) (fun r11 s12 => xgR s12 11 v0 0 (fun r13 => bif xis s12.1 9 r11 then xcV (cf 87 [.ref r11, .ref r13] s12) (fun s15 => xpR s15 11 v0 2 r11 (fun s16 => xnw s16 8 4 (List.replicate 4 none) (fun r17 s18 => bif xis s18.1 8 r17 then xcV (cf 79 [.ref r17] s18) (fun s20 => xpR s20 11 v0 3 r17 (fun s21 => xgR s21 11 v0 3 (fun r22 => xgR s21 8 r22 0 (fun r23 => xpR s21 11 v0 4 r23 (fun s24 => xgR s24 11 v0 3 (fun r25 => xgR s24 8 r25 1 (fun r26 => xpR s24 11 v0 5 r26 (fun s27 => xnw s27 4 15 (List.replicate 15 none) (fun r28 s29 => xgR s29 11 v0 3 (fun r30 => bif xis s29.1 4 r28 then xcV (cf 43 [.ref r28, .ref r30] s29) (fun s32 => xpR s32 11 v0 6 r28 (fun s33 => xnw s33 6 5 (List.replicate 5 none) (fun r34 s35 => xgR s35 11 v0 3 (fun r36 => xgR s35 11 v0 6 (fun r37 => bif xis s35.1 6 r34 then xcV (cf 61 [.ref r34, .ref r36, .ref r37] s35) (fun s39 => xpR s39 11 v0 7 r34 (fun s40 => xnw s40 0 6 (List.replicate 6 none) (fun r41 s42 => bif xis s42.1 0 r41 then xcV (cf 0 [.ref r41] s42) (fun s44 => xpR s44 11 v0 8 r41 (fun s45 => xnw s45 3 1 (List.replicate 1 none) (fun r46 s47 => bif xis s47.1 3 r46 then xcV (cf 39 [.ref r46] s47) (fun s49 => xpR s49 11 v0 9 r46 (fun s50 => xnw s50 5 3 (List.replicate 3 none) (fun r51 s52 => bif xis s52.1 5 r51 then xcV (cf 57 [.ref r51] s52) (fun s54 => xpR s54 11 v0 10 r51 (fun s55 => xnw s55 2 12 (List.replicate 12 none) (fun r56 s57 => bif xis s57.1 2 r56 then xcV (cf 13 [.ref r56] s57) (fun s59 => xpR s59 11 v0 11 r56 (fun s60 => xnw s60 7 6 (List.replicate 6 none) (fun r61 s62 => bif xis s62.1 7 r61 then xcV (cf 66 [.ref r61] s62) (fun s64 => xpR s64 11 v0 12 r61 (fun s65 => xnq s65 2 (fun r66 s67 => xnw s67 8 4 (List.replicate 4 none) (fun r68 s69 => bif xis s69.1 8 r68 then xcV (cf 79 [.ref r68] s69) (fun s71 => xsR s71 r66 0 r68 (fun s72 => xnw s72 8 4 (List.replicate 4 none) (fun r73 s74 => bif xis s74.1 8 r73 then xcV (cf 79 [.ref r73] s74) (fun s76 => xsR s76 r66 1 r73 (fun s77 => xpR s77 11 v0 13 r66 (fun s78 => xna s78 16 2 (fun r79 s80 => xpR s80 11 v0 14 r79 (fun s81 => xna s81 14 10 (fun r82 s83 => xpR s83 11 v0 15 r82 (fun s84 => xpI s84 11 v0 16 0 (fun s85 => some (none, s85))))))))) else none))) else none)))) else none))) else none))) else none))) else none))) else none))) else none))))) else none)))))))))) else none))) else none)))) else none))) else none) := (xlim_eq cf mX11_init 0 _ _ σ).trans rfl
theorem qX1_init_0 (cf : xCF) (σ : xS) (v0 : Nat) (v1 : Int32) : xlim cf mX1_init 0 [.ref v0, .int v1] [] σ = xna σ 14 ((if 0 < v1 then v1 else 0)) (fun r1 s2 => xpR s2 1 v0 0 r1 (fun s3 => xpI s3 1 v0 1 0 (fun s4 => some (none, s4)))) := (xlim_eq cf mX1_init 0 _ _ σ).trans rfl
theorem qX9_init_0 (cf : xCF) (σ : xS) (v0 : Nat) (v1 : Nat) : xlim cf mX9_init 0 [.ref v0, .ref v1] [] σ = xpR σ 9 v0 4 v1 (fun s1 => some (none, s1)) := (xlim_eq cf mX9_init 0 _ _ σ).trans rfl
theorem qX8_init_0 (cf : xCF) (σ : xS) (v0 : Nat) : xlim cf mX8_init 0 [.ref v0] [] σ = xnw σ 2 12 (List.replicate 12 none) (fun r1 s2 => bif xis s2.1 2 r1 then xcV (cf 13 [.ref r1] s2) (fun s4 => xpR s4 8 v0 0 r1 (fun s5 => xnw s5 10 6 (List.replicate 6 none) (fun r6 s7 => xgR s7 8 v0 0 (fun r8 => bif xis s7.1 10 r6 then xcV (cf 99 [.ref r6, .ref r8] s7) (fun s10 => xpR s10 8 v0 1 r6 (fun s11 => xgR s11 8 v0 1 (fun r12 => bif xis s11.1 10 r12 then xcV (cf 100 [.ref r12] s11) (fun s14 => xnw s14 7 6 (List.replicate 6 none) (fun r15 s16 => bif xis s16.1 7 r15 then xcV (cf 66 [.ref r15] s16) (fun s18 => xpR s18 8 v0 2 r15 (fun s19 => xpZ s19 8 v0 3 1 (fun s20 => some (none, s20)))) else none)) else none))) else none)))) else none) := (xlim_eq cf mX8_init 0 _ _ σ).trans rfl
theorem qX2_init_0 (cf : xCF) (σ : xS) (v0 : Nat) : xlim cf mX2_init 0 [.ref v0] [] σ = xpI σ 2 v0 0 1 (fun s1 => xpI s1 2 v0 1 0 (fun s2 => xpI s2 2 v0 2 0 (fun s3 => xna s3 15 8 (fun r4 s5 => xpR s5 2 v0 3 r4 (fun s6 => xna s6 14 8 (fun r7 s8 => xpR s8 2 v0 4 r7 (fun s9 => xna s9 15 20 (fun r10 s11 => xpR s11 2 v0 5 r10 (fun s12 => xna s12 14 20 (fun r13 s14 => xpR s14 2 v0 6 r13 (fun s15 => xna s15 14 20 (fun r16 s17 => xpR s17 2 v0 7 r16 (fun s18 => xna s18 14 20 (fun r19 s20 => xpR s20 2 v0 8 r19 (fun s21 => xna s21 14 20 (fun r22 s23 => xpR s23 2 v0 9 r22 (fun s24 => xna s24 14 20 (fun r25 s26 => xpR s26 2 v0 10 r25 (fun s27 => xmn s27 20 8 (fun r28 s29 => xpR s29 2 v0 11 r28 (fun s30 => some (none, s30)))))))))))))))))))))) := (xlim_eq cf mX2_init 0 _ _ σ).trans rfl
theorem qX10_init_0 (cf : xCF) (σ : xS) (v0 : Nat) (v1 : Nat) : xlim cf mX10_init 0 [.ref v0, .ref v1] [] σ = xpR σ 10 v0 5 v1 (fun s1 => xpI s1 10 v0 0 0 (fun s2 => xna s2 14 48 (fun r3 s4 => xpR s4 10 v0 1 r3 (fun s5 => xna s5 14 48 (fun r6 s7 => xpR s7 10 v0 2 r6 (fun s8 => xna s8 14 48 (fun r9 s10 => xpR s10 10 v0 3 r9 (fun s11 => xna s11 14 8 (fun r12 s13 => xpR s13 10 v0 4 r12 (fun s14 => some (none, s14))))))))))) := (xlim_eq cf mX10_init 0 _ _ σ).trans rfl
theorem qX10_clear_0 (cf : xCF) (σ : xS) (v0 : Nat) : xlim cf mX10_clear 0 [.ref v0, xD] [] σ = xpI σ 10 v0 0 0 (fun s1 => xlim cf mX10_clear 1 [.ref v0, .int 0] [] s1) := (xlim_eq cf mX10_clear 0 _ _ σ).trans rfl
theorem qX10_clear_1 (cf : xCF) (σ : xS) (v0 : Nat) (v1 : Int32) : xlim cf mX10_clear 1 [.ref v0, .int v1] [] σ = if v1 < 8 then xgR σ 10 v0 4 (fun r1 => xsI σ r1 v1 ((-1)) (fun s2 => xlim cf mX10_clear 1 [.ref v0, .int (v1 + 1)] [] s2)) else xlim cf mX10_clear 2 [xD, xD] [] σ := (xlim_eq cf mX10_clear 1 _ _ σ).trans rfl
theorem qX10_clear_2 (cf : xCF) (σ : xS)  : xlim cf mX10_clear 2 [xD, xD] [] σ = some (none, σ) := (xlim_eq cf mX10_clear 2 _ _ σ).trans rfl
theorem qX7_init_0 (cf : xCF) (σ : xS) (v0 : Nat) : xlim cf mX7_init 0 [.ref v0] [] σ = xpI σ 7 v0 0 0 (fun s1 => xpI s1 7 v0 1 0 (fun s2 => xna s2 14 40 (fun r3 s4 => xpR s4 7 v0 2 r3 (fun s5 => xna s5 14 40 (fun r6 s7 => xpR s7 7 v0 3 r6 (fun s8 => xna s8 14 40 (fun r9 s10 => xpR s10 7 v0 4 r9 (fun s11 => xna s11 14 40 (fun r12 s13 => xpR s13 7 v0 5 r12 (fun s14 => some (none, s14))))))))))) := (xlim_eq cf mX7_init 0 _ _ σ).trans rfl
theorem qX4_init_0 (cf : xCF) (σ : xS) (v0 : Nat) (v1 : Nat) : xlim cf mX4_init 0 [.ref v0, .ref v1] [] σ = xpR σ 4 v0 12 v1 (fun s1 => xgR s1 8 v1 0 (fun r2 => xpR s1 4 v0 13 r2 (fun s3 => xgR s3 8 v1 1 (fun r4 => xpR s3 4 v0 14 r4 (fun s5 => xpI s5 4 v0 6 ((-1)) (fun s6 => xna s6 14 20 (fun r7 s8 => xpR s8 4 v0 9 r7 (fun s9 => xna s9 14 20 (fun r10 s11 => xpR s11 4 v0 10 r10 (fun s12 => xmn s12 20 20 (fun r13 s14 => xpR s14 4 v0 11 r13 (fun s15 => some (none, s15))))))))))))) := (xlim_eq cf mX4_init 0 _ _ σ).trans rfl
theorem qX6_init_0 (cf : xCF) (σ : xS) (v0 : Nat) (v1 : Nat) (v2 : Nat) : xlim cf mX6_init 0 [.ref v0, .ref v1, .ref v2] [] σ = xpR σ 6 v0 3 v1 (fun s1 => xpR s1 6 v0 4 v2 (fun s2 => xpI s2 6 v0 0 ((-1)) (fun s3 => xpI s3 6 v0 1 ((-1)) (fun s4 => xpI s4 6 v0 2 0 (fun s5 => some (none, s5)))))) := (xlim_eq cf mX6_init 0 _ _ σ).trans rfl
theorem qX0_init_0 (cf : xCF) (σ : xS) (v0 : Nat) : xlim cf mX0_init 0 [.ref v0] [] σ = xna σ 14 4 (fun r1 s2 => xsI s2 r1 0 ((-1)) (fun s3 => xsI s3 r1 1 ((-1)) (fun s4 => xsI s4 r1 2 ((-1)) (fun s5 => xsI s5 r1 3 ((-1)) (fun s6 => xpR s6 0 v0 0 r1 (fun s7 => xpI s7 0 v0 1 0 (fun s8 => xna s8 14 40 (fun r9 s10 => xpR s10 0 v0 2 r9 (fun s11 => xna s11 14 40 (fun r12 s13 => xpR s13 0 v0 3 r12 (fun s14 => xna s14 14 40 (fun r15 s16 => xpR s16 0 v0 4 r15 (fun s17 => xna s17 14 40 (fun r18 s19 => xpR s19 0 v0 5 r18 (fun s20 => some (none, s20)))))))))))))))) := (xlim_eq cf mX0_init 0 _ _ σ).trans rfl
theorem qX3_init_0 (cf : xCF) (σ : xS) (v0 : Nat) : xlim cf mX3_init 0 [.ref v0] [] σ = xpI σ 3 v0 0 0 (fun s1 => some (none, s1)) := (xlim_eq cf mX3_init 0 _ _ σ).trans rfl
theorem qX5_init_0 (cf : xCF) (σ : xS) (v0 : Nat) : xlim cf mX5_init 0 [.ref v0] [] σ = xmn σ 8 10 (fun r1 s2 => xpR s2 5 v0 0 r1 (fun s3 => xpI s3 5 v0 1 0 (fun s4 => xpI s4 5 v0 2 0 (fun s5 => some (none, s5))))) := (xlim_eq cf mX5_init 0 _ _ σ).trans rfl
set_option maxRecDepth 20000 in
theorem qX12_init_0 (cf : xCF) (σ : xS) (v0 : Nat) : xlim cf mX12_init 0 [.ref v0] [] σ = xna σ 13 940 (fun r1 s2 => xpR s2 12 v0 1 r1 (fun s3 => xna s3 14 360 (fun r4 s5 => xpR s5 12 v0 6 r4 (fun s6 => xna s6 14 72 (fun r7 s8 => xpR s8 12 v0 7 r7 (fun s9 => xna s9 14 135 (fun r10 s11 => xpR s11 12 v0 8 r10 (fun s12 => xna s12 14 164 (fun r13 s14 => xpR s14 12 v0 9 r13 (fun s15 => xna s15 15 56 (fun r16 s17 => xpR s17 12 v0 10 r16 (fun s18 => xna s18 15 21 (fun r19 s20 => xpR s20 12 v0 11 r19 (fun s21 => xna s21 14 20 (fun r22 s23 => xpR s23 12 v0 21 r22 (fun s24 => xna s24 14 20 (fun r25 s26 => xpR s26 12 v0 22 r25 (fun s27 => xna s27 14 400 (fun r28 s29 => xpR s29 12 v0 23 r28 (fun s30 => xna s30 14 20 (fun r31 s32 => xpR s32 12 v0 24 r31 (fun s33 => xna s33 14 20 (fun r34 s35 => xpR s35 12 v0 25 r34 (fun s36 => xna s36 14 1776 (fun r37 s38 => xpR s38 12 v0 35 r37 (fun s39 => xna s39 14 222 (fun r40 s41 => xpR s41 12 v0 36 r40 (fun s42 => xna s42 14 222 (fun r43 s44 => xpR s44 12 v0 37 r43 (fun s45 => xpI s45 12 v0 40 ((-1)) (fun s46 => xpI s46 12 v0 41 ((-1)) (fun s47 => xna s47 13 30 (fun r48 s49 => xpR s49 12 v0 42 r48 (fun s50 => xna s50 14 4 (fun r51 s52 => xpR s52 12 v0 46 r51 (fun s53 => xna s53 14 45 (fun r54 s55 => xpR s55 12 v0 48 r54 (fun s56 => xna s56 16 45 (fun r57 s58 => xpR s58 12 v0 54 r57 (fun s59 => xna s59 14 720 (fun r60 s61 => xpR s61 12 v0 55 r60 (fun s62 => xna s62 15 56 (fun r63 s64 => xpR s64 12 v0 56 r63 (fun s65 => xna s65 16 2 (fun r66 s67 => xpR s67 12 v0 57 r66 (fun s68 => xgR s68 12 v0 11 (fun r69 => xsJ s68 r69 0 ((Int64.ofNat 435678045032)) (fun s70 => xgR s70 12 v0 11 (fun r71 => xsJ s70 r71 1 ((Int64.ofNat 508676040050)) (fun s72 => xgR s72 12 v0 11 (fun r73 => xsJ s72 r73 2 ((Int64.ofNat 422726034283)) (fun s74 => xgR s74 12 v0 11 (fun r75 => xsJ s74 r75 3 ((Int64.ofNat 28526)) (fun s76 => xgR s76 12 v0 11 (fun r77 => xsJ s76 r77 4 ((Int64.ofNat 109299962373989)) (fun s78 => xgR s78 12 v0 11 (fun r79 => xsJ s78 r79 5 ((Int64.ofNat 1987015781)) (fun s80 => xgR s80 12 v0 11 (fun r81 => xsJ s80 r81 6 ((Int64.ofNat 1819242347)) (fun s82 => xgR s82 12 v0 11 (fun r83 => xsJ s82 r83 7 ((Int64.ofNat 1735552887)) (fun s84 => xgR s84 12 v0 11 (fun r85 => xsJ s84 r85 8 ((Int64.ofNat 28530)) (fun s86 => xgR s86 12 v0 11 (fun r87 => xsJ s86 r87 9 ((Int64.ofNat 6385252)) (fun s88 => xgR s88 12 v0 11 (fun r89 => xsJ s88 r89 10 ((Int64.ofNat 7237492)) (fun s90 => xgR s90 12 v0 11 (fun r91 => xsJ s90 r91 11 ((Int64.ofNat 1818583398)) (fun s92 => xgR s92 12 v0 11 (fun r93 => xsJ s92 r93 12 ((Int64.ofNat 482905517684)) (fun s94 => xgR s94 12 v0 11 (fun r95 => xsJ s94 r95 13 ((Int64.ofNat 1786082164)) (fun s96 => xgR s96 12 v0 11 (fun r97 => xsJ s96 r97 14 ((Int64.ofNat 439855505772)) (fun s98 => xgR s98 12 v0 11 (fun r99 => xsJ s98 r99 15 ((Int64.ofNat 109300197582190)) (fun s100 => xgR s100 12 v0 11 (fun r101 => xsJ s100 r101 16 ((Int64.ofNat 504363246962)) (fun s102 => xgR s102 12 v0 11 (fun r103 => xsJ s102 r103 17 ((Int64.ofNat 114784769370228)) (fun s104 => xgR s104 12 v0 11 (fun r105 => xsJ s104 r105 18 ((Int64.ofNat 465558725996)) (fun s106 => xgR s106 12 v0 11 (fun r107 => xsJ s106 r107 19 ((Int64.ofNat 1751475828)) (fun s108 => xgR s108 12 v0 11 (fun r109 => xsJ s108 r109 20 ((Int64.ofNat 121450625394034)) (fun s110 => xgR s110 12 v0 6 (fun r111 => xsI s110 r111 0 1 (fun s112 => some (none, s112))))))))))))))))))))))))))))))))))))))))))))))))))))))))))))))))))))))))))))))))))))))))))) := (xlim_eq cf mX12_init 0 _ _ σ).trans rfl
def Gt_0 : List xO := []
def Gt_1 : List xO := Gt_0 ++ [(11, 17, List.replicate 17 none)]
def Gt_2 : List xO := Gt_1 ++ [(1, 2, List.replicate 2 none)]
def Gt_3 : List xO := Gt_2 ++ [(14, 940, [])]
def Gt_4 : List xO := xsr Gt_3 1 0 2
def Gt_5 : List xO := xsr Gt_4 0 0 1
def Gt_6 : List xO := Gt_5 ++ [(1, 2, List.replicate 2 none)]
def Gt_7 : List xO := Gt_6 ++ [(14, 32, [])]
def Gt_8 : List xO := xsr Gt_7 3 0 4
def Gt_9 : List xO := xsr Gt_8 0 1 3
def Gt_10 : List xO := Gt_9 ++ [(9, 12, List.replicate 12 none)]
def Gt_11 : List xO := xsr Gt_10 5 4 1
def Gt_12 : List xO := xsr Gt_11 0 2 5
def Gt_13 : List xO := Gt_12 ++ [(8, 4, List.replicate 4 none)]
def Gt_14 : List xO := Gt_13 ++ [(2, 12, List.replicate 12 none)]
def Gt_15 : List xO := Gt_14 ++ [(15, 8, [])]
def Gt_16 : List xO := xsr Gt_15 7 3 8
def Gt_17 : List xO := Gt_16 ++ [(14, 8, [])]
def Gt_18 : List xO := xsr Gt_17 7 4 9
def Gt_19 : List xO := Gt_18 ++ [(15, 20, [])]
def Gt_20 : List xO := xsr Gt_19 7 5 10
def Gt_21 : List xO := Gt_20 ++ [(14, 20, [])]
def Gt_22 : List xO := xsr Gt_21 7 6 11
def Gt_23 : List xO := Gt_22 ++ [(14, 20, [])]
def Gt_24 : List xO := xsr Gt_23 7 7 12
def Gt_25 : List xO := Gt_24 ++ [(14, 20, [])]
def Gt_26 : List xO := xsr Gt_25 7 8 13
def Gt_27 : List xO := Gt_26 ++ [(14, 20, [])]
def Gt_28 : List xO := xsr Gt_27 7 9 14
def Gt_29 : List xO := Gt_28 ++ [(14, 20, [])]
def Gt_30 : List xO := xsr Gt_29 7 10 15
def Gt_31 : List xO := Gt_30 ++ (18, 20, (List.range 20).map (fun k => some (16 + 1 + k))) :: List.replicate 20 (14, 8, [])
def Gt_32 : List xO := xsr Gt_31 7 11 16
def Gt_33 : List xO := xsr Gt_32 6 0 7
def Gt_34 : List xO := Gt_33 ++ [(10, 6, List.replicate 6 none)]
def Gt_35 : List xO := xsr Gt_34 37 5 7
def Gt_36 : List xO := Gt_35 ++ [(14, 48, [])]
def Gt_37 : List xO := xsr Gt_36 37 1 38
def Gt_38 : List xO := Gt_37 ++ [(14, 48, [])]
def Gt_39 : List xO := xsr Gt_38 37 2 39
def Gt_40 : List xO := Gt_39 ++ [(14, 48, [])]
def Gt_41 : List xO := xsr Gt_40 37 3 40
def Gt_42 : List xO := Gt_41 ++ [(14, 8, [])]
def Gt_43 : List xO := xsr Gt_42 37 4 41
def Gt_44 : List xO := xsr Gt_43 6 1 37
def Gt_45 : List xO := Gt_44 ++ [(7, 6, List.replicate 6 none)]
def Gt_46 : List xO := Gt_45 ++ [(14, 40, [])]
def Gt_47 : List xO := xsr Gt_46 42 2 43
def Gt_48 : List xO := Gt_47 ++ [(14, 40, [])]
def Gt_49 : List xO := xsr Gt_48 42 3 44
def Gt_50 : List xO := Gt_49 ++ [(14, 40, [])]
def Gt_51 : List xO := xsr Gt_50 42 4 45
def Gt_52 : List xO := Gt_51 ++ [(14, 40, [])]
def Gt_53 : List xO := xsr Gt_52 42 5 46
def Gt_54 : List xO := xsr Gt_53 6 2 42
def Gt_55 : List xO := xsr Gt_54 0 3 6
def Gt_56 : List xO := xsr Gt_55 0 4 7
def Gt_57 : List xO := xsr Gt_56 0 5 37
def Gt_58 : List xO := Gt_57 ++ [(4, 15, List.replicate 15 none)]
def Gt_59 : List xO := xsr Gt_58 47 12 6
def Gt_60 : List xO := xsr Gt_59 47 13 7
def Gt_61 : List xO := xsr Gt_60 47 14 37
def Gt_62 : List xO := Gt_61 ++ [(14, 20, [])]
def Gt_63 : List xO := xsr Gt_62 47 9 48
def Gt_64 : List xO := Gt_63 ++ [(14, 20, [])]
def Gt_65 : List xO := xsr Gt_64 47 10 49
def Gt_66 : List xO := Gt_65 ++ (18, 20, (List.range 20).map (fun k => some (50 + 1 + k))) :: List.replicate 20 (14, 20, [])
def Gt_67 : List xO := xsr Gt_66 47 11 50
def Gt_68 : List xO := xsr Gt_67 0 6 47
def Gt_69 : List xO := Gt_68 ++ [(6, 5, List.replicate 5 none)]
def Gt_70 : List xO := xsr Gt_69 71 3 6
def Gt_71 : List xO := xsr Gt_70 71 4 47
def Gt_72 : List xO := xsr Gt_71 0 7 71
def Gt_73 : List xO := Gt_72 ++ [(0, 6, List.replicate 6 none)]
def Gt_74 : List xO := Gt_73 ++ [(14, 4, [])]
def Gt_75 : List xO := xsr Gt_74 72 0 73
def Gt_76 : List xO := Gt_75 ++ [(14, 40, [])]
def Gt_77 : List xO := xsr Gt_76 72 2 74
def Gt_78 : List xO := Gt_77 ++ [(14, 40, [])]
def Gt_79 : List xO := xsr Gt_78 72 3 75
def Gt_80 : List xO := Gt_79 ++ [(14, 40, [])]
def Gt_81 : List xO := xsr Gt_80 72 4 76
def Gt_82 : List xO := Gt_81 ++ [(14, 40, [])]
def Gt_83 : List xO := xsr Gt_82 72 5 77
def Gt_84 : List xO := xsr Gt_83 0 8 72
def Gt_85 : List xO := Gt_84 ++ [(3, 1, List.replicate 1 none)]
def Gt_86 : List xO := xsr Gt_85 0 9 78
def Gt_87 : List xO := Gt_86 ++ [(5, 3, List.replicate 3 none)]
def Gt_88 : List xO := Gt_87 ++ (18, 8, (List.range 8).map (fun k => some (80 + 1 + k))) :: List.replicate 8 (14, 10, [])
def Gt_89 : List xO := xsr Gt_88 79 0 80
def Gt_90 : List xO := xsr Gt_89 0 10 79
def Gt_91 : List xO := Gt_90 ++ [(2, 12, List.replicate 12 none)]
def Gt_92 : List xO := Gt_91 ++ [(15, 8, [])]
def Gt_93 : List xO := xsr Gt_92 89 3 90
def Gt_94 : List xO := Gt_93 ++ [(14, 8, [])]
def Gt_95 : List xO := xsr Gt_94 89 4 91
def Gt_96 : List xO := Gt_95 ++ [(15, 20, [])]
def Gt_97 : List xO := xsr Gt_96 89 5 92
def Gt_98 : List xO := Gt_97 ++ [(14, 20, [])]
def Gt_99 : List xO := xsr Gt_98 89 6 93
def Gt_100 : List xO := Gt_99 ++ [(14, 20, [])]
def Gt_101 : List xO := xsr Gt_100 89 7 94
def Gt_102 : List xO := Gt_101 ++ [(14, 20, [])]
def Gt_103 : List xO := xsr Gt_102 89 8 95
def Gt_104 : List xO := Gt_103 ++ [(14, 20, [])]
def Gt_105 : List xO := xsr Gt_104 89 9 96
def Gt_106 : List xO := Gt_105 ++ [(14, 20, [])]
def Gt_107 : List xO := xsr Gt_106 89 10 97
def Gt_108 : List xO := Gt_107 ++ (18, 20, (List.range 20).map (fun k => some (98 + 1 + k))) :: List.replicate 20 (14, 8, [])
def Gt_109 : List xO := xsr Gt_108 89 11 98
def Gt_110 : List xO := xsr Gt_109 0 11 89
def Gt_111 : List xO := Gt_110 ++ [(7, 6, List.replicate 6 none)]
def Gt_112 : List xO := Gt_111 ++ [(14, 40, [])]
def Gt_113 : List xO := xsr Gt_112 119 2 120
def Gt_114 : List xO := Gt_113 ++ [(14, 40, [])]
def Gt_115 : List xO := xsr Gt_114 119 3 121
def Gt_116 : List xO := Gt_115 ++ [(14, 40, [])]
def Gt_117 : List xO := xsr Gt_116 119 4 122
def Gt_118 : List xO := Gt_117 ++ [(14, 40, [])]
def Gt_119 : List xO := xsr Gt_118 119 5 123
def Gt_120 : List xO := xsr Gt_119 0 12 119
def Gt_121 : List xO := Gt_120 ++ [(17, 2, List.replicate 2 none)]
def Gt_122 : List xO := Gt_121 ++ [(8, 4, List.replicate 4 none)]
def Gt_123 : List xO := Gt_122 ++ [(2, 12, List.replicate 12 none)]
def Gt_124 : List xO := Gt_123 ++ [(15, 8, [])]
def Gt_125 : List xO := xsr Gt_124 126 3 127
def Gt_126 : List xO := Gt_125 ++ [(14, 8, [])]
def Gt_127 : List xO := xsr Gt_126 126 4 128
def Gt_128 : List xO := Gt_127 ++ [(15, 20, [])]
def Gt_129 : List xO := xsr Gt_128 126 5 129
def Gt_130 : List xO := Gt_129 ++ [(14, 20, [])]
def Gt_131 : List xO := xsr Gt_130 126 6 130
def Gt_132 : List xO := Gt_131 ++ [(14, 20, [])]
def Gt_133 : List xO := xsr Gt_132 126 7 131
def Gt_134 : List xO := Gt_133 ++ [(14, 20, [])]
def Gt_135 : List xO := xsr Gt_134 126 8 132
def Gt_136 : List xO := Gt_135 ++ [(14, 20, [])]
def Gt_137 : List xO := xsr Gt_136 126 9 133
def Gt_138 : List xO := Gt_137 ++ [(14, 20, [])]
def Gt_139 : List xO := xsr Gt_138 126 10 134
def Gt_140 : List xO := Gt_139 ++ (18, 20, (List.range 20).map (fun k => some (135 + 1 + k))) :: List.replicate 20 (14, 8, [])
def Gt_141 : List xO := xsr Gt_140 126 11 135
def Gt_142 : List xO := xsr Gt_141 125 0 126
def Gt_143 : List xO := Gt_142 ++ [(10, 6, List.replicate 6 none)]
def Gt_144 : List xO := xsr Gt_143 156 5 126
def Gt_145 : List xO := Gt_144 ++ [(14, 48, [])]
def Gt_146 : List xO := xsr Gt_145 156 1 157
def Gt_147 : List xO := Gt_146 ++ [(14, 48, [])]
def Gt_148 : List xO := xsr Gt_147 156 2 158
def Gt_149 : List xO := Gt_148 ++ [(14, 48, [])]
def Gt_150 : List xO := xsr Gt_149 156 3 159
def Gt_151 : List xO := Gt_150 ++ [(14, 8, [])]
def Gt_152 : List xO := xsr Gt_151 156 4 160
def Gt_153 : List xO := xsr Gt_152 125 1 156
def Gt_154 : List xO := Gt_153 ++ [(7, 6, List.replicate 6 none)]
def Gt_155 : List xO := Gt_154 ++ [(14, 40, [])]
def Gt_156 : List xO := xsr Gt_155 161 2 162
def Gt_157 : List xO := Gt_156 ++ [(14, 40, [])]
def Gt_158 : List xO := xsr Gt_157 161 3 163
def Gt_159 : List xO := Gt_158 ++ [(14, 40, [])]
def Gt_160 : List xO := xsr Gt_159 161 4 164
def Gt_161 : List xO := Gt_160 ++ [(14, 40, [])]
def Gt_162 : List xO := xsr Gt_161 161 5 165
def Gt_163 : List xO := xsr Gt_162 125 2 161
def Gt_164 : List xO := xsr Gt_163 124 0 125
def Gt_165 : List xO := Gt_164 ++ [(8, 4, List.replicate 4 none)]
def Gt_166 : List xO := Gt_165 ++ [(2, 12, List.replicate 12 none)]
def Gt_167 : List xO := Gt_166 ++ [(15, 8, [])]
def Gt_168 : List xO := xsr Gt_167 167 3 168
def Gt_169 : List xO := Gt_168 ++ [(14, 8, [])]
def Gt_170 : List xO := xsr Gt_169 167 4 169
def Gt_171 : List xO := Gt_170 ++ [(15, 20, [])]
def Gt_172 : List xO := xsr Gt_171 167 5 170
def Gt_173 : List xO := Gt_172 ++ [(14, 20, [])]
def Gt_174 : List xO := xsr Gt_173 167 6 171
def Gt_175 : List xO := Gt_174 ++ [(14, 20, [])]
def Gt_176 : List xO := xsr Gt_175 167 7 172
def Gt_177 : List xO := Gt_176 ++ [(14, 20, [])]
def Gt_178 : List xO := xsr Gt_177 167 8 173
def Gt_179 : List xO := Gt_178 ++ [(14, 20, [])]
def Gt_180 : List xO := xsr Gt_179 167 9 174
def Gt_181 : List xO := Gt_180 ++ [(14, 20, [])]
def Gt_182 : List xO := xsr Gt_181 167 10 175
def Gt_183 : List xO := Gt_182 ++ (18, 20, (List.range 20).map (fun k => some (176 + 1 + k))) :: List.replicate 20 (14, 8, [])
def Gt_184 : List xO := xsr Gt_183 167 11 176
def Gt_185 : List xO := xsr Gt_184 166 0 167
def Gt_186 : List xO := Gt_185 ++ [(10, 6, List.replicate 6 none)]
def Gt_187 : List xO := xsr Gt_186 197 5 167
def Gt_188 : List xO := Gt_187 ++ [(14, 48, [])]
def Gt_189 : List xO := xsr Gt_188 197 1 198
def Gt_190 : List xO := Gt_189 ++ [(14, 48, [])]
def Gt_191 : List xO := xsr Gt_190 197 2 199
def Gt_192 : List xO := Gt_191 ++ [(14, 48, [])]
def Gt_193 : List xO := xsr Gt_192 197 3 200
def Gt_194 : List xO := Gt_193 ++ [(14, 8, [])]
def Gt_195 : List xO := xsr Gt_194 197 4 201
def Gt_196 : List xO := xsr Gt_195 166 1 197
def Gt_197 : List xO := Gt_196 ++ [(7, 6, List.replicate 6 none)]
def Gt_198 : List xO := Gt_197 ++ [(14, 40, [])]
def Gt_199 : List xO := xsr Gt_198 202 2 203
def Gt_200 : List xO := Gt_199 ++ [(14, 40, [])]
def Gt_201 : List xO := xsr Gt_200 202 3 204
def Gt_202 : List xO := Gt_201 ++ [(14, 40, [])]
def Gt_203 : List xO := xsr Gt_202 202 4 205
def Gt_204 : List xO := Gt_203 ++ [(14, 40, [])]
def Gt_205 : List xO := xsr Gt_204 202 5 206
def Gt_206 : List xO := xsr Gt_205 166 2 202
def Gt_207 : List xO := xsr Gt_206 124 1 166
def Gt_208 : List xO := xsr Gt_207 0 13 124
def Gt_209 : List xO := Gt_208 ++ [(16, 2, [])]
def Gt_210 : List xO := xsr Gt_209 0 14 207
def Gt_211 : List xO := Gt_210 ++ [(14, 10, [])]
def Gt_212 : List xO := xsr Gt_211 0 15 208
def Gt_213 : List xO := Gt_212 ++ [(12, 58, List.replicate 58 none)]
def Gt_214 : List xO := Gt_213 ++ [(13, 940, [])]
def Gt_215 : List xO := xsr Gt_214 209 1 210
def Gt_216 : List xO := Gt_215 ++ [(14, 360, [])]
def Gt_217 : List xO := xsr Gt_216 209 6 211
def Gt_218 : List xO := Gt_217 ++ [(14, 72, [])]
def Gt_219 : List xO := xsr Gt_218 209 7 212
def Gt_220 : List xO := Gt_219 ++ [(14, 135, [])]
def Gt_221 : List xO := xsr Gt_220 209 8 213
def Gt_222 : List xO := Gt_221 ++ [(14, 164, [])]
def Gt_223 : List xO := xsr Gt_222 209 9 214
def Gt_224 : List xO := Gt_223 ++ [(15, 56, [])]
def Gt_225 : List xO := xsr Gt_224 209 10 215
def Gt_226 : List xO := Gt_225 ++ [(15, 21, [])]
def Gt_227 : List xO := xsr Gt_226 209 11 216
def Gt_228 : List xO := Gt_227 ++ [(14, 20, [])]
def Gt_229 : List xO := xsr Gt_228 209 21 217
def Gt_230 : List xO := Gt_229 ++ [(14, 20, [])]
def Gt_231 : List xO := xsr Gt_230 209 22 218
def Gt_232 : List xO := Gt_231 ++ [(14, 400, [])]
def Gt_233 : List xO := xsr Gt_232 209 23 219
def Gt_234 : List xO := Gt_233 ++ [(14, 20, [])]
def Gt_235 : List xO := xsr Gt_234 209 24 220
def Gt_236 : List xO := Gt_235 ++ [(14, 20, [])]
def Gt_237 : List xO := xsr Gt_236 209 25 221
def Gt_238 : List xO := Gt_237 ++ [(14, 1776, [])]
def Gt_239 : List xO := xsr Gt_238 209 35 222
def Gt_240 : List xO := Gt_239 ++ [(14, 222, [])]
def Gt_241 : List xO := xsr Gt_240 209 36 223
def Gt_242 : List xO := Gt_241 ++ [(14, 222, [])]
def Gt_243 : List xO := xsr Gt_242 209 37 224
def Gt_244 : List xO := Gt_243 ++ [(13, 30, [])]
def Gt_245 : List xO := xsr Gt_244 209 42 225
def Gt_246 : List xO := Gt_245 ++ [(14, 4, [])]
def Gt_247 : List xO := xsr Gt_246 209 46 226
def Gt_248 : List xO := Gt_247 ++ [(14, 45, [])]
def Gt_249 : List xO := xsr Gt_248 209 48 227
def Gt_250 : List xO := Gt_249 ++ [(16, 45, [])]
def Gt_251 : List xO := xsr Gt_250 209 54 228
def Gt_252 : List xO := Gt_251 ++ [(14, 720, [])]
def Gt_253 : List xO := xsr Gt_252 209 55 229
def Gt_254 : List xO := Gt_253 ++ [(15, 56, [])]
def Gt_255 : List xO := xsr Gt_254 209 56 230
def Gt_256 : List xO := Gt_255 ++ [(16, 2, [])]
def Gt_257 : List xO := xsr Gt_256 209 57 231
theorem stp_1 {L : Nat} {I : Nat → Nat → Int32} {J : Nat → Nat → Int64} {c : Nat → xS → Option xOut} : xnw ((Gt_1, 0, L), I, J) 1 2 (List.replicate 2 none) c = c 1 ((Gt_2, 0, L), (xz I 1 1 0), (xz J 1 1 0)) := yNew (by decide +kernel) rfl
theorem stp_2 {L : Nat} {I : Nat → Nat → Int32} {J : Nat → Nat → Int64} {c : Nat → xS → Option xOut} : xna ((Gt_2, 0, L), I, J) 14 ((if 0 < 940 then 940 else 0)) c = c 2 ((Gt_3, 0, L), (xz I 2 1 0), (xz J 2 1 0)) := yNa rfl rfl (yNew (by decide +kernel) rfl)
theorem stp_3 {L : Nat} {I : Nat → Nat → Int32} {J : Nat → Nat → Int64} {c : xS → Option xOut} : xpR ((Gt_3, 0, L), I, J) 1 1 0 2 c = c ((Gt_4, 0, L), I, J) := ypR (by decide +kernel)
theorem ini_1 (d : Nat) {L : Nat} {I : Nat → Nat → Int32} {J : Nat → Nat → Int64} : xcall xprog (d + 1) 6 [.ref 1, .int 940] ((Gt_2, 0, L), I, J) = some (none, ((Gt_4, 0, L), (xu (xz I 2 1 0) 1 1 0), (xz J 2 1 0))) := by
  show xlim (xcall xprog (d + 0)) mX1_init 0 [.ref 1, .int 940] [] ((Gt_2, 0, L), I, J) = _
  rw [qX1_init_0, stp_2, stp_3, ypI (G := Gt_4) (by decide +kernel)]
theorem stp_4 {L : Nat} {I : Nat → Nat → Int32} {J : Nat → Nat → Int64} {c : xS → Option xOut} : xpR ((Gt_4, 0, L), I, J) 11 0 0 1 c = c ((Gt_5, 0, L), I, J) := ypR (by decide +kernel)
theorem stp_5 {L : Nat} {I : Nat → Nat → Int32} {J : Nat → Nat → Int64} {c : Nat → xS → Option xOut} : xnw ((Gt_5, 0, L), I, J) 1 2 (List.replicate 2 none) c = c 3 ((Gt_6, 0, L), (xz I 3 1 0), (xz J 3 1 0)) := yNew (by decide +kernel) rfl
theorem stp_6 {L : Nat} {I : Nat → Nat → Int32} {J : Nat → Nat → Int64} {c : Nat → xS → Option xOut} : xna ((Gt_6, 0, L), I, J) 14 ((if 0 < 32 then 32 else 0)) c = c 4 ((Gt_7, 0, L), (xz I 4 1 0), (xz J 4 1 0)) := yNa rfl rfl (yNew (by decide +kernel) rfl)
theorem stp_7 {L : Nat} {I : Nat → Nat → Int32} {J : Nat → Nat → Int64} {c : xS → Option xOut} : xpR ((Gt_7, 0, L), I, J) 1 3 0 4 c = c ((Gt_8, 0, L), I, J) := ypR (by decide +kernel)
theorem ini_2 (d : Nat) {L : Nat} {I : Nat → Nat → Int32} {J : Nat → Nat → Int64} : xcall xprog (d + 1) 6 [.ref 3, .int 32] ((Gt_6, 0, L), I, J) = some (none, ((Gt_8, 0, L), (xu (xz I 4 1 0) 3 1 0), (xz J 4 1 0))) := by
  show xlim (xcall xprog (d + 0)) mX1_init 0 [.ref 3, .int 32] [] ((Gt_6, 0, L), I, J) = _
  rw [qX1_init_0, stp_6, stp_7, ypI (G := Gt_8) (by decide +kernel)]
theorem stp_8 {L : Nat} {I : Nat → Nat → Int32} {J : Nat → Nat → Int64} {c : xS → Option xOut} : xpR ((Gt_8, 0, L), I, J) 11 0 1 3 c = c ((Gt_9, 0, L), I, J) := ypR (by decide +kernel)
theorem stp_9 {L : Nat} {I : Nat → Nat → Int32} {J : Nat → Nat → Int64} {c : Nat → xS → Option xOut} : xnw ((Gt_9, 0, L), I, J) 9 12 (List.replicate 12 none) c = c 5 ((Gt_10, 0, L), (xz I 5 1 0), (xz J 5 1 0)) := yNew (by decide +kernel) rfl
theorem stp_10 {L : Nat} {I : Nat → Nat → Int32} {J : Nat → Nat → Int64} {c : xS → Option xOut} : xpR ((Gt_10, 0, L), I, J) 9 5 4 1 c = c ((Gt_11, 0, L), I, J) := ypR (by decide +kernel)
theorem ini_3 (d : Nat) {L : Nat} {I : Nat → Nat → Int32} {J : Nat → Nat → Int64} : xcall xprog (d + 1) 87 [.ref 5, .ref 1] ((Gt_10, 0, L), I, J) = some (none, ((Gt_11, 0, L), I, J)) := by
  show xlim (xcall xprog (d + 0)) mX9_init 0 [.ref 5, .ref 1] [] ((Gt_10, 0, L), I, J) = _
  rw [qX9_init_0, stp_10]
theorem stp_11 {L : Nat} {I : Nat → Nat → Int32} {J : Nat → Nat → Int64} {c : xS → Option xOut} : xpR ((Gt_11, 0, L), I, J) 11 0 2 5 c = c ((Gt_12, 0, L), I, J) := ypR (by decide +kernel)
theorem stp_12 {L : Nat} {I : Nat → Nat → Int32} {J : Nat → Nat → Int64} {c : Nat → xS → Option xOut} : xnw ((Gt_12, 0, L), I, J) 8 4 (List.replicate 4 none) c = c 6 ((Gt_13, 0, L), (xz I 6 1 0), (xz J 6 1 0)) := yNew (by decide +kernel) rfl
theorem stp_13 {L : Nat} {I : Nat → Nat → Int32} {J : Nat → Nat → Int64} {c : Nat → xS → Option xOut} : xnw ((Gt_13, 0, L), I, J) 2 12 (List.replicate 12 none) c = c 7 ((Gt_14, 0, L), (xz I 7 1 0), (xz J 7 1 0)) := yNew (by decide +kernel) rfl
theorem stp_14 {L : Nat} {I : Nat → Nat → Int32} {J : Nat → Nat → Int64} {c : Nat → xS → Option xOut} : xna ((Gt_14, 0, L), I, J) 15 8 c = c 8 ((Gt_15, 0, L), (xz I 8 1 0), (xz J 8 1 0)) := yNa rfl rfl (yNew (by decide +kernel) rfl)
theorem stp_15 {L : Nat} {I : Nat → Nat → Int32} {J : Nat → Nat → Int64} {c : xS → Option xOut} : xpR ((Gt_15, 0, L), I, J) 2 7 3 8 c = c ((Gt_16, 0, L), I, J) := ypR (by decide +kernel)
theorem stp_16 {L : Nat} {I : Nat → Nat → Int32} {J : Nat → Nat → Int64} {c : Nat → xS → Option xOut} : xna ((Gt_16, 0, L), I, J) 14 8 c = c 9 ((Gt_17, 0, L), (xz I 9 1 0), (xz J 9 1 0)) := yNa rfl rfl (yNew (by decide +kernel) rfl)
theorem stp_17 {L : Nat} {I : Nat → Nat → Int32} {J : Nat → Nat → Int64} {c : xS → Option xOut} : xpR ((Gt_17, 0, L), I, J) 2 7 4 9 c = c ((Gt_18, 0, L), I, J) := ypR (by decide +kernel)
theorem stp_18 {L : Nat} {I : Nat → Nat → Int32} {J : Nat → Nat → Int64} {c : Nat → xS → Option xOut} : xna ((Gt_18, 0, L), I, J) 15 20 c = c 10 ((Gt_19, 0, L), (xz I 10 1 0), (xz J 10 1 0)) := yNa rfl rfl (yNew (by decide +kernel) rfl)
theorem stp_19 {L : Nat} {I : Nat → Nat → Int32} {J : Nat → Nat → Int64} {c : xS → Option xOut} : xpR ((Gt_19, 0, L), I, J) 2 7 5 10 c = c ((Gt_20, 0, L), I, J) := ypR (by decide +kernel)
theorem stp_20 {L : Nat} {I : Nat → Nat → Int32} {J : Nat → Nat → Int64} {c : Nat → xS → Option xOut} : xna ((Gt_20, 0, L), I, J) 14 20 c = c 11 ((Gt_21, 0, L), (xz I 11 1 0), (xz J 11 1 0)) := yNa rfl rfl (yNew (by decide +kernel) rfl)
theorem stp_21 {L : Nat} {I : Nat → Nat → Int32} {J : Nat → Nat → Int64} {c : xS → Option xOut} : xpR ((Gt_21, 0, L), I, J) 2 7 6 11 c = c ((Gt_22, 0, L), I, J) := ypR (by decide +kernel)
theorem stp_22 {L : Nat} {I : Nat → Nat → Int32} {J : Nat → Nat → Int64} {c : Nat → xS → Option xOut} : xna ((Gt_22, 0, L), I, J) 14 20 c = c 12 ((Gt_23, 0, L), (xz I 12 1 0), (xz J 12 1 0)) := yNa rfl rfl (yNew (by decide +kernel) rfl)
theorem stp_23 {L : Nat} {I : Nat → Nat → Int32} {J : Nat → Nat → Int64} {c : xS → Option xOut} : xpR ((Gt_23, 0, L), I, J) 2 7 7 12 c = c ((Gt_24, 0, L), I, J) := ypR (by decide +kernel)
theorem stp_24 {L : Nat} {I : Nat → Nat → Int32} {J : Nat → Nat → Int64} {c : Nat → xS → Option xOut} : xna ((Gt_24, 0, L), I, J) 14 20 c = c 13 ((Gt_25, 0, L), (xz I 13 1 0), (xz J 13 1 0)) := yNa rfl rfl (yNew (by decide +kernel) rfl)
theorem stp_25 {L : Nat} {I : Nat → Nat → Int32} {J : Nat → Nat → Int64} {c : xS → Option xOut} : xpR ((Gt_25, 0, L), I, J) 2 7 8 13 c = c ((Gt_26, 0, L), I, J) := ypR (by decide +kernel)
theorem stp_26 {L : Nat} {I : Nat → Nat → Int32} {J : Nat → Nat → Int64} {c : Nat → xS → Option xOut} : xna ((Gt_26, 0, L), I, J) 14 20 c = c 14 ((Gt_27, 0, L), (xz I 14 1 0), (xz J 14 1 0)) := yNa rfl rfl (yNew (by decide +kernel) rfl)
theorem stp_27 {L : Nat} {I : Nat → Nat → Int32} {J : Nat → Nat → Int64} {c : xS → Option xOut} : xpR ((Gt_27, 0, L), I, J) 2 7 9 14 c = c ((Gt_28, 0, L), I, J) := ypR (by decide +kernel)
theorem stp_28 {L : Nat} {I : Nat → Nat → Int32} {J : Nat → Nat → Int64} {c : Nat → xS → Option xOut} : xna ((Gt_28, 0, L), I, J) 14 20 c = c 15 ((Gt_29, 0, L), (xz I 15 1 0), (xz J 15 1 0)) := yNa rfl rfl (yNew (by decide +kernel) rfl)
theorem stp_29 {L : Nat} {I : Nat → Nat → Int32} {J : Nat → Nat → Int64} {c : xS → Option xOut} : xpR ((Gt_29, 0, L), I, J) 2 7 10 15 c = c ((Gt_30, 0, L), I, J) := ypR (by decide +kernel)
theorem stp_30 {L : Nat} {I : Nat → Nat → Int32} {J : Nat → Nat → Int64} {c : Nat → xS → Option xOut} : xmn ((Gt_30, 0, L), I, J) 20 8 c = c 16 ((Gt_31, 0, L), (xz I 16 21 0), (xz J 16 21 0)) := yMn (by decide +kernel) rfl rfl rfl
theorem stp_31 {L : Nat} {I : Nat → Nat → Int32} {J : Nat → Nat → Int64} {c : xS → Option xOut} : xpR ((Gt_31, 0, L), I, J) 2 7 11 16 c = c ((Gt_32, 0, L), I, J) := ypR (by decide +kernel)
theorem ini_5 (d : Nat) {L : Nat} {I : Nat → Nat → Int32} {J : Nat → Nat → Int64} : xcall xprog (d + 1) 13 [.ref 7] ((Gt_14, 0, L), I, J) = some (none, ((Gt_32, 0, L), (xz (xz (xz (xz (xz (xz (xz (xz (xz (xu (xu (xu I 7 0 1) 7 1 0) 7 2 0) 8 1 0) 9 1 0) 10 1 0) 11 1 0) 12 1 0) 13 1 0) 14 1 0) 15 1 0) 16 21 0), (xz (xz (xz (xz (xz (xz (xz (xz (xz J 8 1 0) 9 1 0) 10 1 0) 11 1 0) 12 1 0) 13 1 0) 14 1 0) 15 1 0) 16 21 0))) := by
  show xlim (xcall xprog (d + 0)) mX2_init 0 [.ref 7] [] ((Gt_14, 0, L), I, J) = _
  rw [qX2_init_0, ypI (G := Gt_14) (by decide +kernel), ypI (G := Gt_14) (by decide +kernel), ypI (G := Gt_14) (by decide +kernel), stp_14, stp_15, stp_16, stp_17, stp_18, stp_19, stp_20, stp_21, stp_22, stp_23, stp_24, stp_25, stp_26, stp_27, stp_28, stp_29, stp_30, stp_31]
theorem stp_32 {L : Nat} {I : Nat → Nat → Int32} {J : Nat → Nat → Int64} {c : xS → Option xOut} : xpR ((Gt_32, 0, L), I, J) 8 6 0 7 c = c ((Gt_33, 0, L), I, J) := ypR (by decide +kernel)
theorem stp_33 {L : Nat} {I : Nat → Nat → Int32} {J : Nat → Nat → Int64} {c : Nat → xS → Option xOut} : xnw ((Gt_33, 0, L), I, J) 10 6 (List.replicate 6 none) c = c 37 ((Gt_34, 0, L), (xz I 37 1 0), (xz J 37 1 0)) := yNew (by decide +kernel) rfl
theorem stp_34 {L : Nat} {I : Nat → Nat → Int32} {J : Nat → Nat → Int64} {c : xS → Option xOut} : xpR ((Gt_34, 0, L), I, J) 10 37 5 7 c = c ((Gt_35, 0, L), I, J) := ypR (by decide +kernel)
theorem stp_35 {L : Nat} {I : Nat → Nat → Int32} {J : Nat → Nat → Int64} {c : Nat → xS → Option xOut} : xna ((Gt_35, 0, L), I, J) 14 48 c = c 38 ((Gt_36, 0, L), (xz I 38 1 0), (xz J 38 1 0)) := yNa rfl rfl (yNew (by decide +kernel) rfl)
theorem stp_36 {L : Nat} {I : Nat → Nat → Int32} {J : Nat → Nat → Int64} {c : xS → Option xOut} : xpR ((Gt_36, 0, L), I, J) 10 37 1 38 c = c ((Gt_37, 0, L), I, J) := ypR (by decide +kernel)
theorem stp_37 {L : Nat} {I : Nat → Nat → Int32} {J : Nat → Nat → Int64} {c : Nat → xS → Option xOut} : xna ((Gt_37, 0, L), I, J) 14 48 c = c 39 ((Gt_38, 0, L), (xz I 39 1 0), (xz J 39 1 0)) := yNa rfl rfl (yNew (by decide +kernel) rfl)
theorem stp_38 {L : Nat} {I : Nat → Nat → Int32} {J : Nat → Nat → Int64} {c : xS → Option xOut} : xpR ((Gt_38, 0, L), I, J) 10 37 2 39 c = c ((Gt_39, 0, L), I, J) := ypR (by decide +kernel)
theorem stp_39 {L : Nat} {I : Nat → Nat → Int32} {J : Nat → Nat → Int64} {c : Nat → xS → Option xOut} : xna ((Gt_39, 0, L), I, J) 14 48 c = c 40 ((Gt_40, 0, L), (xz I 40 1 0), (xz J 40 1 0)) := yNa rfl rfl (yNew (by decide +kernel) rfl)
theorem stp_40 {L : Nat} {I : Nat → Nat → Int32} {J : Nat → Nat → Int64} {c : xS → Option xOut} : xpR ((Gt_40, 0, L), I, J) 10 37 3 40 c = c ((Gt_41, 0, L), I, J) := ypR (by decide +kernel)
theorem stp_41 {L : Nat} {I : Nat → Nat → Int32} {J : Nat → Nat → Int64} {c : Nat → xS → Option xOut} : xna ((Gt_41, 0, L), I, J) 14 8 c = c 41 ((Gt_42, 0, L), (xz I 41 1 0), (xz J 41 1 0)) := yNa rfl rfl (yNew (by decide +kernel) rfl)
theorem stp_42 {L : Nat} {I : Nat → Nat → Int32} {J : Nat → Nat → Int64} {c : xS → Option xOut} : xpR ((Gt_42, 0, L), I, J) 10 37 4 41 c = c ((Gt_43, 0, L), I, J) := ypR (by decide +kernel)
theorem ini_6 (d : Nat) {L : Nat} {I : Nat → Nat → Int32} {J : Nat → Nat → Int64} : xcall xprog (d + 1) 99 [.ref 37, .ref 7] ((Gt_34, 0, L), I, J) = some (none, ((Gt_43, 0, L), (xz (xz (xz (xz (xu I 37 0 0) 38 1 0) 39 1 0) 40 1 0) 41 1 0), (xz (xz (xz (xz J 38 1 0) 39 1 0) 40 1 0) 41 1 0))) := by
  show xlim (xcall xprog (d + 0)) mX10_init 0 [.ref 37, .ref 7] [] ((Gt_34, 0, L), I, J) = _
  rw [qX10_init_0, stp_34, ypI (G := Gt_35) (by decide +kernel), stp_35, stp_36, stp_37, stp_38, stp_39, stp_40, stp_41, stp_42]
theorem stp_43 {L : Nat} {I : Nat → Nat → Int32} {J : Nat → Nat → Int64} {c : xS → Option xOut} : xpR ((Gt_43, 0, L), I, J) 8 6 1 37 c = c ((Gt_44, 0, L), I, J) := ypR (by decide +kernel)
theorem ini_7 (d : Nat) {L : Nat} {I : Nat → Nat → Int32} {J : Nat → Nat → Int64} : xcall xprog (d + 1) 100 [.ref 37] ((Gt_44, 0, L), I, J) = some (none, ((Gt_44, 0, L), (xu (xu (xu (xu (xu (xu (xu (xu (xu I 37 0 0) 41 0 (-1)) 41 1 (-1)) 41 2 (-1)) 41 3 (-1)) 41 4 (-1)) 41 5 (-1)) 41 6 (-1)) 41 7 (-1)), J)) := by
  show xlim (xcall xprog (d + 0)) mX10_clear 0 [.ref 37, xD] [] ((Gt_44, 0, L), I, J) = _
  rw [qX10_clear_0, ypI (G := Gt_44) (by decide +kernel), qX10_clear_1, if_pos (by decide), ygR (G := Gt_44) (q := 41) (by decide +kernel) (by decide +kernel), ysI (G := Gt_44) (n := 0) (by decide +kernel) rfl, qX10_clear_1, if_pos (by decide), ygR (G := Gt_44) (q := 41) (by decide +kernel) (by decide +kernel), ysI (G := Gt_44) (n := 1) (by decide +kernel) rfl, qX10_clear_1, if_pos (by decide), ygR (G := Gt_44) (q := 41) (by decide +kernel) (by decide +kernel), ysI (G := Gt_44) (n := 2) (by decide +kernel) rfl, qX10_clear_1, if_pos (by decide), ygR (G := Gt_44) (q := 41) (by decide +kernel) (by decide +kernel), ysI (G := Gt_44) (n := 3) (by decide +kernel) rfl, qX10_clear_1, if_pos (by decide), ygR (G := Gt_44) (q := 41) (by decide +kernel) (by decide +kernel), ysI (G := Gt_44) (n := 4) (by decide +kernel) rfl, qX10_clear_1, if_pos (by decide), ygR (G := Gt_44) (q := 41) (by decide +kernel) (by decide +kernel), ysI (G := Gt_44) (n := 5) (by decide +kernel) rfl, qX10_clear_1, if_pos (by decide), ygR (G := Gt_44) (q := 41) (by decide +kernel) (by decide +kernel), ysI (G := Gt_44) (n := 6) (by decide +kernel) rfl, qX10_clear_1, if_pos (by decide), ygR (G := Gt_44) (q := 41) (by decide +kernel) (by decide +kernel), ysI (G := Gt_44) (n := 7) (by decide +kernel) rfl, qX10_clear_1, if_neg (by decide), qX10_clear_2]
theorem stp_44 {L : Nat} {I : Nat → Nat → Int32} {J : Nat → Nat → Int64} {c : Nat → xS → Option xOut} : xnw ((Gt_44, 0, L), I, J) 7 6 (List.replicate 6 none) c = c 42 ((Gt_45, 0, L), (xz I 42 1 0), (xz J 42 1 0)) := yNew (by decide +kernel) rfl
theorem stp_45 {L : Nat} {I : Nat → Nat → Int32} {J : Nat → Nat → Int64} {c : Nat → xS → Option xOut} : xna ((Gt_45, 0, L), I, J) 14 40 c = c 43 ((Gt_46, 0, L), (xz I 43 1 0), (xz J 43 1 0)) := yNa rfl rfl (yNew (by decide +kernel) rfl)
theorem stp_46 {L : Nat} {I : Nat → Nat → Int32} {J : Nat → Nat → Int64} {c : xS → Option xOut} : xpR ((Gt_46, 0, L), I, J) 7 42 2 43 c = c ((Gt_47, 0, L), I, J) := ypR (by decide +kernel)
theorem stp_47 {L : Nat} {I : Nat → Nat → Int32} {J : Nat → Nat → Int64} {c : Nat → xS → Option xOut} : xna ((Gt_47, 0, L), I, J) 14 40 c = c 44 ((Gt_48, 0, L), (xz I 44 1 0), (xz J 44 1 0)) := yNa rfl rfl (yNew (by decide +kernel) rfl)
theorem stp_48 {L : Nat} {I : Nat → Nat → Int32} {J : Nat → Nat → Int64} {c : xS → Option xOut} : xpR ((Gt_48, 0, L), I, J) 7 42 3 44 c = c ((Gt_49, 0, L), I, J) := ypR (by decide +kernel)
theorem stp_49 {L : Nat} {I : Nat → Nat → Int32} {J : Nat → Nat → Int64} {c : Nat → xS → Option xOut} : xna ((Gt_49, 0, L), I, J) 14 40 c = c 45 ((Gt_50, 0, L), (xz I 45 1 0), (xz J 45 1 0)) := yNa rfl rfl (yNew (by decide +kernel) rfl)
theorem stp_50 {L : Nat} {I : Nat → Nat → Int32} {J : Nat → Nat → Int64} {c : xS → Option xOut} : xpR ((Gt_50, 0, L), I, J) 7 42 4 45 c = c ((Gt_51, 0, L), I, J) := ypR (by decide +kernel)
theorem stp_51 {L : Nat} {I : Nat → Nat → Int32} {J : Nat → Nat → Int64} {c : Nat → xS → Option xOut} : xna ((Gt_51, 0, L), I, J) 14 40 c = c 46 ((Gt_52, 0, L), (xz I 46 1 0), (xz J 46 1 0)) := yNa rfl rfl (yNew (by decide +kernel) rfl)
theorem stp_52 {L : Nat} {I : Nat → Nat → Int32} {J : Nat → Nat → Int64} {c : xS → Option xOut} : xpR ((Gt_52, 0, L), I, J) 7 42 5 46 c = c ((Gt_53, 0, L), I, J) := ypR (by decide +kernel)
theorem ini_8 (d : Nat) {L : Nat} {I : Nat → Nat → Int32} {J : Nat → Nat → Int64} : xcall xprog (d + 1) 66 [.ref 42] ((Gt_45, 0, L), I, J) = some (none, ((Gt_53, 0, L), (xz (xz (xz (xz (xu (xu I 42 0 0) 42 1 0) 43 1 0) 44 1 0) 45 1 0) 46 1 0), (xz (xz (xz (xz J 43 1 0) 44 1 0) 45 1 0) 46 1 0))) := by
  show xlim (xcall xprog (d + 0)) mX7_init 0 [.ref 42] [] ((Gt_45, 0, L), I, J) = _
  rw [qX7_init_0, ypI (G := Gt_45) (by decide +kernel), ypI (G := Gt_45) (by decide +kernel), stp_45, stp_46, stp_47, stp_48, stp_49, stp_50, stp_51, stp_52]
theorem stp_53 {L : Nat} {I : Nat → Nat → Int32} {J : Nat → Nat → Int64} {c : xS → Option xOut} : xpR ((Gt_53, 0, L), I, J) 8 6 2 42 c = c ((Gt_54, 0, L), I, J) := ypR (by decide +kernel)
theorem ini_4 (d : Nat) {L : Nat} {I : Nat → Nat → Int32} {J : Nat → Nat → Int64} : xcall xprog (d + 2) 79 [.ref 6] ((Gt_13, 0, L), I, J) = some (none, ((Gt_54, 0, L), (xu (xz (xz (xz (xz (xu (xu (xz (xu (xu (xu (xu (xu (xu (xu (xu (xu (xz (xz (xz (xz (xu (xz (xz (xz (xz (xz (xz (xz (xz (xz (xz (xu (xu (xu (xz I 7 1 0) 7 0 1) 7 1 0) 7 2 0) 8 1 0) 9 1 0) 10 1 0) 11 1 0) 12 1 0) 13 1 0) 14 1 0) 15 1 0) 16 21 0) 37 1 0) 37 0 0) 38 1 0) 39 1 0) 40 1 0) 41 1 0) 37 0 0) 41 0 (-1)) 41 1 (-1)) 41 2 (-1)) 41 3 (-1)) 41 4 (-1)) 41 5 (-1)) 41 6 (-1)) 41 7 (-1)) 42 1 0) 42 0 0) 42 1 0) 43 1 0) 44 1 0) 45 1 0) 46 1 0) 6 3 1), (xz (xz (xz (xz (xz (xz (xz (xz (xz (xz (xz (xz (xz (xz (xz (xz (xz (xz (xz (xz J 7 1 0) 8 1 0) 9 1 0) 10 1 0) 11 1 0) 12 1 0) 13 1 0) 14 1 0) 15 1 0) 16 21 0) 37 1 0) 38 1 0) 39 1 0) 40 1 0) 41 1 0) 42 1 0) 43 1 0) 44 1 0) 45 1 0) 46 1 0))) := by
  show xlim (xcall xprog (d + 1)) mX8_init 0 [.ref 6] [] ((Gt_13, 0, L), I, J) = _
  rw [qX8_init_0, stp_13, show xis (Gt_14, 0, L) 2 7 = true from yis (by decide +kernel), cond_true, ini_5 (d + 0), xcV_some, stp_32, stp_33, ygR (G := Gt_34) (q := 7) (by decide +kernel) (by decide +kernel), show xis (Gt_34, 0, L) 10 37 = true from yis (by decide +kernel), cond_true, ini_6 (d + 0), xcV_some, stp_43, ygR (G := Gt_44) (q := 37) (by decide +kernel) (by decide +kernel), show xis (Gt_44, 0, L) 10 37 = true from yis (by decide +kernel), cond_true, ini_7 (d + 0), xcV_some, stp_44, show xis (Gt_45, 0, L) 7 42 = true from yis (by decide +kernel), cond_true, ini_8 (d + 0), xcV_some, stp_53, ypZ (G := Gt_54) (by decide +kernel) rfl]
theorem stp_54 {L : Nat} {I : Nat → Nat → Int32} {J : Nat → Nat → Int64} {c : xS → Option xOut} : xpR ((Gt_54, 0, L), I, J) 11 0 3 6 c = c ((Gt_55, 0, L), I, J) := ypR (by decide +kernel)
theorem stp_55 {L : Nat} {I : Nat → Nat → Int32} {J : Nat → Nat → Int64} {c : xS → Option xOut} : xpR ((Gt_55, 0, L), I, J) 11 0 4 7 c = c ((Gt_56, 0, L), I, J) := ypR (by decide +kernel)
theorem stp_56 {L : Nat} {I : Nat → Nat → Int32} {J : Nat → Nat → Int64} {c : xS → Option xOut} : xpR ((Gt_56, 0, L), I, J) 11 0 5 37 c = c ((Gt_57, 0, L), I, J) := ypR (by decide +kernel)
theorem stp_57 {L : Nat} {I : Nat → Nat → Int32} {J : Nat → Nat → Int64} {c : Nat → xS → Option xOut} : xnw ((Gt_57, 0, L), I, J) 4 15 (List.replicate 15 none) c = c 47 ((Gt_58, 0, L), (xz I 47 1 0), (xz J 47 1 0)) := yNew (by decide +kernel) rfl
theorem stp_58 {L : Nat} {I : Nat → Nat → Int32} {J : Nat → Nat → Int64} {c : xS → Option xOut} : xpR ((Gt_58, 0, L), I, J) 4 47 12 6 c = c ((Gt_59, 0, L), I, J) := ypR (by decide +kernel)
theorem stp_59 {L : Nat} {I : Nat → Nat → Int32} {J : Nat → Nat → Int64} {c : xS → Option xOut} : xpR ((Gt_59, 0, L), I, J) 4 47 13 7 c = c ((Gt_60, 0, L), I, J) := ypR (by decide +kernel)
theorem stp_60 {L : Nat} {I : Nat → Nat → Int32} {J : Nat → Nat → Int64} {c : xS → Option xOut} : xpR ((Gt_60, 0, L), I, J) 4 47 14 37 c = c ((Gt_61, 0, L), I, J) := ypR (by decide +kernel)
theorem stp_61 {L : Nat} {I : Nat → Nat → Int32} {J : Nat → Nat → Int64} {c : Nat → xS → Option xOut} : xna ((Gt_61, 0, L), I, J) 14 20 c = c 48 ((Gt_62, 0, L), (xz I 48 1 0), (xz J 48 1 0)) := yNa rfl rfl (yNew (by decide +kernel) rfl)
theorem stp_62 {L : Nat} {I : Nat → Nat → Int32} {J : Nat → Nat → Int64} {c : xS → Option xOut} : xpR ((Gt_62, 0, L), I, J) 4 47 9 48 c = c ((Gt_63, 0, L), I, J) := ypR (by decide +kernel)
theorem stp_63 {L : Nat} {I : Nat → Nat → Int32} {J : Nat → Nat → Int64} {c : Nat → xS → Option xOut} : xna ((Gt_63, 0, L), I, J) 14 20 c = c 49 ((Gt_64, 0, L), (xz I 49 1 0), (xz J 49 1 0)) := yNa rfl rfl (yNew (by decide +kernel) rfl)
theorem stp_64 {L : Nat} {I : Nat → Nat → Int32} {J : Nat → Nat → Int64} {c : xS → Option xOut} : xpR ((Gt_64, 0, L), I, J) 4 47 10 49 c = c ((Gt_65, 0, L), I, J) := ypR (by decide +kernel)
theorem stp_65 {L : Nat} {I : Nat → Nat → Int32} {J : Nat → Nat → Int64} {c : Nat → xS → Option xOut} : xmn ((Gt_65, 0, L), I, J) 20 20 c = c 50 ((Gt_66, 0, L), (xz I 50 21 0), (xz J 50 21 0)) := yMn (by decide +kernel) rfl rfl rfl
theorem stp_66 {L : Nat} {I : Nat → Nat → Int32} {J : Nat → Nat → Int64} {c : xS → Option xOut} : xpR ((Gt_66, 0, L), I, J) 4 47 11 50 c = c ((Gt_67, 0, L), I, J) := ypR (by decide +kernel)
theorem ini_9 (d : Nat) {L : Nat} {I : Nat → Nat → Int32} {J : Nat → Nat → Int64} : xcall xprog (d + 1) 43 [.ref 47, .ref 6] ((Gt_58, 0, L), I, J) = some (none, ((Gt_67, 0, L), (xz (xz (xz (xu I 47 6 (-1)) 48 1 0) 49 1 0) 50 21 0), (xz (xz (xz J 48 1 0) 49 1 0) 50 21 0))) := by
  show xlim (xcall xprog (d + 0)) mX4_init 0 [.ref 47, .ref 6] [] ((Gt_58, 0, L), I, J) = _
  rw [qX4_init_0, stp_58, ygR (G := Gt_59) (q := 7) (by decide +kernel) (by decide +kernel), stp_59, ygR (G := Gt_60) (q := 37) (by decide +kernel) (by decide +kernel), stp_60, ypI (G := Gt_61) (by decide +kernel), stp_61, stp_62, stp_63, stp_64, stp_65, stp_66]
theorem stp_67 {L : Nat} {I : Nat → Nat → Int32} {J : Nat → Nat → Int64} {c : xS → Option xOut} : xpR ((Gt_67, 0, L), I, J) 11 0 6 47 c = c ((Gt_68, 0, L), I, J) := ypR (by decide +kernel)
theorem stp_68 {L : Nat} {I : Nat → Nat → Int32} {J : Nat → Nat → Int64} {c : Nat → xS → Option xOut} : xnw ((Gt_68, 0, L), I, J) 6 5 (List.replicate 5 none) c = c 71 ((Gt_69, 0, L), (xz I 71 1 0), (xz J 71 1 0)) := yNew (by decide +kernel) rfl
theorem stp_69 {L : Nat} {I : Nat → Nat → Int32} {J : Nat → Nat → Int64} {c : xS → Option xOut} : xpR ((Gt_69, 0, L), I, J) 6 71 3 6 c = c ((Gt_70, 0, L), I, J) := ypR (by decide +kernel)
theorem stp_70 {L : Nat} {I : Nat → Nat → Int32} {J : Nat → Nat → Int64} {c : xS → Option xOut} : xpR ((Gt_70, 0, L), I, J) 6 71 4 47 c = c ((Gt_71, 0, L), I, J) := ypR (by decide +kernel)
theorem ini_10 (d : Nat) {L : Nat} {I : Nat → Nat → Int32} {J : Nat → Nat → Int64} : xcall xprog (d + 1) 61 [.ref 71, .ref 6, .ref 47] ((Gt_69, 0, L), I, J) = some (none, ((Gt_71, 0, L), (xu (xu (xu I 71 0 (-1)) 71 1 (-1)) 71 2 0), J)) := by
  show xlim (xcall xprog (d + 0)) mX6_init 0 [.ref 71, .ref 6, .ref 47] [] ((Gt_69, 0, L), I, J) = _
  rw [qX6_init_0, stp_69, stp_70, ypI (G := Gt_71) (by decide +kernel), ypI (G := Gt_71) (by decide +kernel), ypI (G := Gt_71) (by decide +kernel)]
theorem stp_71 {L : Nat} {I : Nat → Nat → Int32} {J : Nat → Nat → Int64} {c : xS → Option xOut} : xpR ((Gt_71, 0, L), I, J) 11 0 7 71 c = c ((Gt_72, 0, L), I, J) := ypR (by decide +kernel)
theorem stp_72 {L : Nat} {I : Nat → Nat → Int32} {J : Nat → Nat → Int64} {c : Nat → xS → Option xOut} : xnw ((Gt_72, 0, L), I, J) 0 6 (List.replicate 6 none) c = c 72 ((Gt_73, 0, L), (xz I 72 1 0), (xz J 72 1 0)) := yNew (by decide +kernel) rfl
theorem stp_73 {L : Nat} {I : Nat → Nat → Int32} {J : Nat → Nat → Int64} {c : Nat → xS → Option xOut} : xna ((Gt_73, 0, L), I, J) 14 4 c = c 73 ((Gt_74, 0, L), (xz I 73 1 0), (xz J 73 1 0)) := yNa rfl rfl (yNew (by decide +kernel) rfl)
theorem stp_74 {L : Nat} {I : Nat → Nat → Int32} {J : Nat → Nat → Int64} {c : xS → Option xOut} : xpR ((Gt_74, 0, L), I, J) 0 72 0 73 c = c ((Gt_75, 0, L), I, J) := ypR (by decide +kernel)
theorem stp_75 {L : Nat} {I : Nat → Nat → Int32} {J : Nat → Nat → Int64} {c : Nat → xS → Option xOut} : xna ((Gt_75, 0, L), I, J) 14 40 c = c 74 ((Gt_76, 0, L), (xz I 74 1 0), (xz J 74 1 0)) := yNa rfl rfl (yNew (by decide +kernel) rfl)
theorem stp_76 {L : Nat} {I : Nat → Nat → Int32} {J : Nat → Nat → Int64} {c : xS → Option xOut} : xpR ((Gt_76, 0, L), I, J) 0 72 2 74 c = c ((Gt_77, 0, L), I, J) := ypR (by decide +kernel)
theorem stp_77 {L : Nat} {I : Nat → Nat → Int32} {J : Nat → Nat → Int64} {c : Nat → xS → Option xOut} : xna ((Gt_77, 0, L), I, J) 14 40 c = c 75 ((Gt_78, 0, L), (xz I 75 1 0), (xz J 75 1 0)) := yNa rfl rfl (yNew (by decide +kernel) rfl)
theorem stp_78 {L : Nat} {I : Nat → Nat → Int32} {J : Nat → Nat → Int64} {c : xS → Option xOut} : xpR ((Gt_78, 0, L), I, J) 0 72 3 75 c = c ((Gt_79, 0, L), I, J) := ypR (by decide +kernel)
theorem stp_79 {L : Nat} {I : Nat → Nat → Int32} {J : Nat → Nat → Int64} {c : Nat → xS → Option xOut} : xna ((Gt_79, 0, L), I, J) 14 40 c = c 76 ((Gt_80, 0, L), (xz I 76 1 0), (xz J 76 1 0)) := yNa rfl rfl (yNew (by decide +kernel) rfl)
theorem stp_80 {L : Nat} {I : Nat → Nat → Int32} {J : Nat → Nat → Int64} {c : xS → Option xOut} : xpR ((Gt_80, 0, L), I, J) 0 72 4 76 c = c ((Gt_81, 0, L), I, J) := ypR (by decide +kernel)
theorem stp_81 {L : Nat} {I : Nat → Nat → Int32} {J : Nat → Nat → Int64} {c : Nat → xS → Option xOut} : xna ((Gt_81, 0, L), I, J) 14 40 c = c 77 ((Gt_82, 0, L), (xz I 77 1 0), (xz J 77 1 0)) := yNa rfl rfl (yNew (by decide +kernel) rfl)
theorem stp_82 {L : Nat} {I : Nat → Nat → Int32} {J : Nat → Nat → Int64} {c : xS → Option xOut} : xpR ((Gt_82, 0, L), I, J) 0 72 5 77 c = c ((Gt_83, 0, L), I, J) := ypR (by decide +kernel)
theorem ini_11 (d : Nat) {L : Nat} {I : Nat → Nat → Int32} {J : Nat → Nat → Int64} : xcall xprog (d + 1) 0 [.ref 72] ((Gt_73, 0, L), I, J) = some (none, ((Gt_83, 0, L), (xz (xz (xz (xz (xu (xu (xu (xu (xu (xz I 73 1 0) 73 0 (-1)) 73 1 (-1)) 73 2 (-1)) 73 3 (-1)) 72 1 0) 74 1 0) 75 1 0) 76 1 0) 77 1 0), (xz (xz (xz (xz (xz J 73 1 0) 74 1 0) 75 1 0) 76 1 0) 77 1 0))) := by
  show xlim (xcall xprog (d + 0)) mX0_init 0 [.ref 72] [] ((Gt_73, 0, L), I, J) = _
  rw [qX0_init_0, stp_73, ysI (G := Gt_74) (n := 0) (by decide +kernel) rfl, ysI (G := Gt_74) (n := 1) (by decide +kernel) rfl, ysI (G := Gt_74) (n := 2) (by decide +kernel) rfl, ysI (G := Gt_74) (n := 3) (by decide +kernel) rfl, stp_74, ypI (G := Gt_75) (by decide +kernel), stp_75, stp_76, stp_77, stp_78, stp_79, stp_80, stp_81, stp_82]
theorem stp_83 {L : Nat} {I : Nat → Nat → Int32} {J : Nat → Nat → Int64} {c : xS → Option xOut} : xpR ((Gt_83, 0, L), I, J) 11 0 8 72 c = c ((Gt_84, 0, L), I, J) := ypR (by decide +kernel)
theorem stp_84 {L : Nat} {I : Nat → Nat → Int32} {J : Nat → Nat → Int64} {c : Nat → xS → Option xOut} : xnw ((Gt_84, 0, L), I, J) 3 1 (List.replicate 1 none) c = c 78 ((Gt_85, 0, L), (xz I 78 1 0), (xz J 78 1 0)) := yNew (by decide +kernel) rfl
theorem ini_12 (d : Nat) {L : Nat} {I : Nat → Nat → Int32} {J : Nat → Nat → Int64} : xcall xprog (d + 1) 39 [.ref 78] ((Gt_85, 0, L), I, J) = some (none, ((Gt_85, 0, L), (xu I 78 0 0), J)) := by
  show xlim (xcall xprog (d + 0)) mX3_init 0 [.ref 78] [] ((Gt_85, 0, L), I, J) = _
  rw [qX3_init_0, ypI (G := Gt_85) (by decide +kernel)]
theorem stp_85 {L : Nat} {I : Nat → Nat → Int32} {J : Nat → Nat → Int64} {c : xS → Option xOut} : xpR ((Gt_85, 0, L), I, J) 11 0 9 78 c = c ((Gt_86, 0, L), I, J) := ypR (by decide +kernel)
theorem stp_86 {L : Nat} {I : Nat → Nat → Int32} {J : Nat → Nat → Int64} {c : Nat → xS → Option xOut} : xnw ((Gt_86, 0, L), I, J) 5 3 (List.replicate 3 none) c = c 79 ((Gt_87, 0, L), (xz I 79 1 0), (xz J 79 1 0)) := yNew (by decide +kernel) rfl
theorem stp_87 {L : Nat} {I : Nat → Nat → Int32} {J : Nat → Nat → Int64} {c : Nat → xS → Option xOut} : xmn ((Gt_87, 0, L), I, J) 8 10 c = c 80 ((Gt_88, 0, L), (xz I 80 9 0), (xz J 80 9 0)) := yMn (by decide +kernel) rfl rfl rfl
theorem stp_88 {L : Nat} {I : Nat → Nat → Int32} {J : Nat → Nat → Int64} {c : xS → Option xOut} : xpR ((Gt_88, 0, L), I, J) 5 79 0 80 c = c ((Gt_89, 0, L), I, J) := ypR (by decide +kernel)
theorem ini_13 (d : Nat) {L : Nat} {I : Nat → Nat → Int32} {J : Nat → Nat → Int64} : xcall xprog (d + 1) 57 [.ref 79] ((Gt_87, 0, L), I, J) = some (none, ((Gt_89, 0, L), (xu (xu (xz I 80 9 0) 79 1 0) 79 2 0), (xz J 80 9 0))) := by
  show xlim (xcall xprog (d + 0)) mX5_init 0 [.ref 79] [] ((Gt_87, 0, L), I, J) = _
  rw [qX5_init_0, stp_87, stp_88, ypI (G := Gt_89) (by decide +kernel), ypI (G := Gt_89) (by decide +kernel)]
theorem stp_89 {L : Nat} {I : Nat → Nat → Int32} {J : Nat → Nat → Int64} {c : xS → Option xOut} : xpR ((Gt_89, 0, L), I, J) 11 0 10 79 c = c ((Gt_90, 0, L), I, J) := ypR (by decide +kernel)
theorem stp_90 {L : Nat} {I : Nat → Nat → Int32} {J : Nat → Nat → Int64} {c : Nat → xS → Option xOut} : xnw ((Gt_90, 0, L), I, J) 2 12 (List.replicate 12 none) c = c 89 ((Gt_91, 0, L), (xz I 89 1 0), (xz J 89 1 0)) := yNew (by decide +kernel) rfl
theorem stp_91 {L : Nat} {I : Nat → Nat → Int32} {J : Nat → Nat → Int64} {c : Nat → xS → Option xOut} : xna ((Gt_91, 0, L), I, J) 15 8 c = c 90 ((Gt_92, 0, L), (xz I 90 1 0), (xz J 90 1 0)) := yNa rfl rfl (yNew (by decide +kernel) rfl)
theorem stp_92 {L : Nat} {I : Nat → Nat → Int32} {J : Nat → Nat → Int64} {c : xS → Option xOut} : xpR ((Gt_92, 0, L), I, J) 2 89 3 90 c = c ((Gt_93, 0, L), I, J) := ypR (by decide +kernel)
theorem stp_93 {L : Nat} {I : Nat → Nat → Int32} {J : Nat → Nat → Int64} {c : Nat → xS → Option xOut} : xna ((Gt_93, 0, L), I, J) 14 8 c = c 91 ((Gt_94, 0, L), (xz I 91 1 0), (xz J 91 1 0)) := yNa rfl rfl (yNew (by decide +kernel) rfl)
theorem stp_94 {L : Nat} {I : Nat → Nat → Int32} {J : Nat → Nat → Int64} {c : xS → Option xOut} : xpR ((Gt_94, 0, L), I, J) 2 89 4 91 c = c ((Gt_95, 0, L), I, J) := ypR (by decide +kernel)
theorem stp_95 {L : Nat} {I : Nat → Nat → Int32} {J : Nat → Nat → Int64} {c : Nat → xS → Option xOut} : xna ((Gt_95, 0, L), I, J) 15 20 c = c 92 ((Gt_96, 0, L), (xz I 92 1 0), (xz J 92 1 0)) := yNa rfl rfl (yNew (by decide +kernel) rfl)
theorem stp_96 {L : Nat} {I : Nat → Nat → Int32} {J : Nat → Nat → Int64} {c : xS → Option xOut} : xpR ((Gt_96, 0, L), I, J) 2 89 5 92 c = c ((Gt_97, 0, L), I, J) := ypR (by decide +kernel)
theorem stp_97 {L : Nat} {I : Nat → Nat → Int32} {J : Nat → Nat → Int64} {c : Nat → xS → Option xOut} : xna ((Gt_97, 0, L), I, J) 14 20 c = c 93 ((Gt_98, 0, L), (xz I 93 1 0), (xz J 93 1 0)) := yNa rfl rfl (yNew (by decide +kernel) rfl)
theorem stp_98 {L : Nat} {I : Nat → Nat → Int32} {J : Nat → Nat → Int64} {c : xS → Option xOut} : xpR ((Gt_98, 0, L), I, J) 2 89 6 93 c = c ((Gt_99, 0, L), I, J) := ypR (by decide +kernel)
theorem stp_99 {L : Nat} {I : Nat → Nat → Int32} {J : Nat → Nat → Int64} {c : Nat → xS → Option xOut} : xna ((Gt_99, 0, L), I, J) 14 20 c = c 94 ((Gt_100, 0, L), (xz I 94 1 0), (xz J 94 1 0)) := yNa rfl rfl (yNew (by decide +kernel) rfl)
theorem stp_100 {L : Nat} {I : Nat → Nat → Int32} {J : Nat → Nat → Int64} {c : xS → Option xOut} : xpR ((Gt_100, 0, L), I, J) 2 89 7 94 c = c ((Gt_101, 0, L), I, J) := ypR (by decide +kernel)
theorem stp_101 {L : Nat} {I : Nat → Nat → Int32} {J : Nat → Nat → Int64} {c : Nat → xS → Option xOut} : xna ((Gt_101, 0, L), I, J) 14 20 c = c 95 ((Gt_102, 0, L), (xz I 95 1 0), (xz J 95 1 0)) := yNa rfl rfl (yNew (by decide +kernel) rfl)
theorem stp_102 {L : Nat} {I : Nat → Nat → Int32} {J : Nat → Nat → Int64} {c : xS → Option xOut} : xpR ((Gt_102, 0, L), I, J) 2 89 8 95 c = c ((Gt_103, 0, L), I, J) := ypR (by decide +kernel)
theorem stp_103 {L : Nat} {I : Nat → Nat → Int32} {J : Nat → Nat → Int64} {c : Nat → xS → Option xOut} : xna ((Gt_103, 0, L), I, J) 14 20 c = c 96 ((Gt_104, 0, L), (xz I 96 1 0), (xz J 96 1 0)) := yNa rfl rfl (yNew (by decide +kernel) rfl)
theorem stp_104 {L : Nat} {I : Nat → Nat → Int32} {J : Nat → Nat → Int64} {c : xS → Option xOut} : xpR ((Gt_104, 0, L), I, J) 2 89 9 96 c = c ((Gt_105, 0, L), I, J) := ypR (by decide +kernel)
theorem stp_105 {L : Nat} {I : Nat → Nat → Int32} {J : Nat → Nat → Int64} {c : Nat → xS → Option xOut} : xna ((Gt_105, 0, L), I, J) 14 20 c = c 97 ((Gt_106, 0, L), (xz I 97 1 0), (xz J 97 1 0)) := yNa rfl rfl (yNew (by decide +kernel) rfl)
theorem stp_106 {L : Nat} {I : Nat → Nat → Int32} {J : Nat → Nat → Int64} {c : xS → Option xOut} : xpR ((Gt_106, 0, L), I, J) 2 89 10 97 c = c ((Gt_107, 0, L), I, J) := ypR (by decide +kernel)
theorem stp_107 {L : Nat} {I : Nat → Nat → Int32} {J : Nat → Nat → Int64} {c : Nat → xS → Option xOut} : xmn ((Gt_107, 0, L), I, J) 20 8 c = c 98 ((Gt_108, 0, L), (xz I 98 21 0), (xz J 98 21 0)) := yMn (by decide +kernel) rfl rfl rfl
theorem stp_108 {L : Nat} {I : Nat → Nat → Int32} {J : Nat → Nat → Int64} {c : xS → Option xOut} : xpR ((Gt_108, 0, L), I, J) 2 89 11 98 c = c ((Gt_109, 0, L), I, J) := ypR (by decide +kernel)
theorem ini_14 (d : Nat) {L : Nat} {I : Nat → Nat → Int32} {J : Nat → Nat → Int64} : xcall xprog (d + 1) 13 [.ref 89] ((Gt_91, 0, L), I, J) = some (none, ((Gt_109, 0, L), (xz (xz (xz (xz (xz (xz (xz (xz (xz (xu (xu (xu I 89 0 1) 89 1 0) 89 2 0) 90 1 0) 91 1 0) 92 1 0) 93 1 0) 94 1 0) 95 1 0) 96 1 0) 97 1 0) 98 21 0), (xz (xz (xz (xz (xz (xz (xz (xz (xz J 90 1 0) 91 1 0) 92 1 0) 93 1 0) 94 1 0) 95 1 0) 96 1 0) 97 1 0) 98 21 0))) := by
  show xlim (xcall xprog (d + 0)) mX2_init 0 [.ref 89] [] ((Gt_91, 0, L), I, J) = _
  rw [qX2_init_0, ypI (G := Gt_91) (by decide +kernel), ypI (G := Gt_91) (by decide +kernel), ypI (G := Gt_91) (by decide +kernel), stp_91, stp_92, stp_93, stp_94, stp_95, stp_96, stp_97, stp_98, stp_99, stp_100, stp_101, stp_102, stp_103, stp_104, stp_105, stp_106, stp_107, stp_108]
theorem stp_109 {L : Nat} {I : Nat → Nat → Int32} {J : Nat → Nat → Int64} {c : xS → Option xOut} : xpR ((Gt_109, 0, L), I, J) 11 0 11 89 c = c ((Gt_110, 0, L), I, J) := ypR (by decide +kernel)
theorem stp_110 {L : Nat} {I : Nat → Nat → Int32} {J : Nat → Nat → Int64} {c : Nat → xS → Option xOut} : xnw ((Gt_110, 0, L), I, J) 7 6 (List.replicate 6 none) c = c 119 ((Gt_111, 0, L), (xz I 119 1 0), (xz J 119 1 0)) := yNew (by decide +kernel) rfl
theorem stp_111 {L : Nat} {I : Nat → Nat → Int32} {J : Nat → Nat → Int64} {c : Nat → xS → Option xOut} : xna ((Gt_111, 0, L), I, J) 14 40 c = c 120 ((Gt_112, 0, L), (xz I 120 1 0), (xz J 120 1 0)) := yNa rfl rfl (yNew (by decide +kernel) rfl)
theorem stp_112 {L : Nat} {I : Nat → Nat → Int32} {J : Nat → Nat → Int64} {c : xS → Option xOut} : xpR ((Gt_112, 0, L), I, J) 7 119 2 120 c = c ((Gt_113, 0, L), I, J) := ypR (by decide +kernel)
theorem stp_113 {L : Nat} {I : Nat → Nat → Int32} {J : Nat → Nat → Int64} {c : Nat → xS → Option xOut} : xna ((Gt_113, 0, L), I, J) 14 40 c = c 121 ((Gt_114, 0, L), (xz I 121 1 0), (xz J 121 1 0)) := yNa rfl rfl (yNew (by decide +kernel) rfl)
theorem stp_114 {L : Nat} {I : Nat → Nat → Int32} {J : Nat → Nat → Int64} {c : xS → Option xOut} : xpR ((Gt_114, 0, L), I, J) 7 119 3 121 c = c ((Gt_115, 0, L), I, J) := ypR (by decide +kernel)
theorem stp_115 {L : Nat} {I : Nat → Nat → Int32} {J : Nat → Nat → Int64} {c : Nat → xS → Option xOut} : xna ((Gt_115, 0, L), I, J) 14 40 c = c 122 ((Gt_116, 0, L), (xz I 122 1 0), (xz J 122 1 0)) := yNa rfl rfl (yNew (by decide +kernel) rfl)
theorem stp_116 {L : Nat} {I : Nat → Nat → Int32} {J : Nat → Nat → Int64} {c : xS → Option xOut} : xpR ((Gt_116, 0, L), I, J) 7 119 4 122 c = c ((Gt_117, 0, L), I, J) := ypR (by decide +kernel)
theorem stp_117 {L : Nat} {I : Nat → Nat → Int32} {J : Nat → Nat → Int64} {c : Nat → xS → Option xOut} : xna ((Gt_117, 0, L), I, J) 14 40 c = c 123 ((Gt_118, 0, L), (xz I 123 1 0), (xz J 123 1 0)) := yNa rfl rfl (yNew (by decide +kernel) rfl)
theorem stp_118 {L : Nat} {I : Nat → Nat → Int32} {J : Nat → Nat → Int64} {c : xS → Option xOut} : xpR ((Gt_118, 0, L), I, J) 7 119 5 123 c = c ((Gt_119, 0, L), I, J) := ypR (by decide +kernel)
theorem ini_15 (d : Nat) {L : Nat} {I : Nat → Nat → Int32} {J : Nat → Nat → Int64} : xcall xprog (d + 1) 66 [.ref 119] ((Gt_111, 0, L), I, J) = some (none, ((Gt_119, 0, L), (xz (xz (xz (xz (xu (xu I 119 0 0) 119 1 0) 120 1 0) 121 1 0) 122 1 0) 123 1 0), (xz (xz (xz (xz J 120 1 0) 121 1 0) 122 1 0) 123 1 0))) := by
  show xlim (xcall xprog (d + 0)) mX7_init 0 [.ref 119] [] ((Gt_111, 0, L), I, J) = _
  rw [qX7_init_0, ypI (G := Gt_111) (by decide +kernel), ypI (G := Gt_111) (by decide +kernel), stp_111, stp_112, stp_113, stp_114, stp_115, stp_116, stp_117, stp_118]
theorem stp_119 {L : Nat} {I : Nat → Nat → Int32} {J : Nat → Nat → Int64} {c : xS → Option xOut} : xpR ((Gt_119, 0, L), I, J) 11 0 12 119 c = c ((Gt_120, 0, L), I, J) := ypR (by decide +kernel)
theorem stp_120 {L : Nat} {I : Nat → Nat → Int32} {J : Nat → Nat → Int64} {c : Nat → xS → Option xOut} : xnq ((Gt_120, 0, L), I, J) 2 c = c 124 ((Gt_121, 0, L), (xz I 124 1 0), (xz J 124 1 0)) := yNq rfl rfl (yNew (by decide +kernel) rfl)
theorem stp_121 {L : Nat} {I : Nat → Nat → Int32} {J : Nat → Nat → Int64} {c : Nat → xS → Option xOut} : xnw ((Gt_121, 0, L), I, J) 8 4 (List.replicate 4 none) c = c 125 ((Gt_122, 0, L), (xz I 125 1 0), (xz J 125 1 0)) := yNew (by decide +kernel) rfl
theorem stp_122 {L : Nat} {I : Nat → Nat → Int32} {J : Nat → Nat → Int64} {c : Nat → xS → Option xOut} : xnw ((Gt_122, 0, L), I, J) 2 12 (List.replicate 12 none) c = c 126 ((Gt_123, 0, L), (xz I 126 1 0), (xz J 126 1 0)) := yNew (by decide +kernel) rfl
theorem stp_123 {L : Nat} {I : Nat → Nat → Int32} {J : Nat → Nat → Int64} {c : Nat → xS → Option xOut} : xna ((Gt_123, 0, L), I, J) 15 8 c = c 127 ((Gt_124, 0, L), (xz I 127 1 0), (xz J 127 1 0)) := yNa rfl rfl (yNew (by decide +kernel) rfl)
theorem stp_124 {L : Nat} {I : Nat → Nat → Int32} {J : Nat → Nat → Int64} {c : xS → Option xOut} : xpR ((Gt_124, 0, L), I, J) 2 126 3 127 c = c ((Gt_125, 0, L), I, J) := ypR (by decide +kernel)
theorem stp_125 {L : Nat} {I : Nat → Nat → Int32} {J : Nat → Nat → Int64} {c : Nat → xS → Option xOut} : xna ((Gt_125, 0, L), I, J) 14 8 c = c 128 ((Gt_126, 0, L), (xz I 128 1 0), (xz J 128 1 0)) := yNa rfl rfl (yNew (by decide +kernel) rfl)
theorem stp_126 {L : Nat} {I : Nat → Nat → Int32} {J : Nat → Nat → Int64} {c : xS → Option xOut} : xpR ((Gt_126, 0, L), I, J) 2 126 4 128 c = c ((Gt_127, 0, L), I, J) := ypR (by decide +kernel)
theorem stp_127 {L : Nat} {I : Nat → Nat → Int32} {J : Nat → Nat → Int64} {c : Nat → xS → Option xOut} : xna ((Gt_127, 0, L), I, J) 15 20 c = c 129 ((Gt_128, 0, L), (xz I 129 1 0), (xz J 129 1 0)) := yNa rfl rfl (yNew (by decide +kernel) rfl)
theorem stp_128 {L : Nat} {I : Nat → Nat → Int32} {J : Nat → Nat → Int64} {c : xS → Option xOut} : xpR ((Gt_128, 0, L), I, J) 2 126 5 129 c = c ((Gt_129, 0, L), I, J) := ypR (by decide +kernel)
theorem stp_129 {L : Nat} {I : Nat → Nat → Int32} {J : Nat → Nat → Int64} {c : Nat → xS → Option xOut} : xna ((Gt_129, 0, L), I, J) 14 20 c = c 130 ((Gt_130, 0, L), (xz I 130 1 0), (xz J 130 1 0)) := yNa rfl rfl (yNew (by decide +kernel) rfl)
theorem stp_130 {L : Nat} {I : Nat → Nat → Int32} {J : Nat → Nat → Int64} {c : xS → Option xOut} : xpR ((Gt_130, 0, L), I, J) 2 126 6 130 c = c ((Gt_131, 0, L), I, J) := ypR (by decide +kernel)
theorem stp_131 {L : Nat} {I : Nat → Nat → Int32} {J : Nat → Nat → Int64} {c : Nat → xS → Option xOut} : xna ((Gt_131, 0, L), I, J) 14 20 c = c 131 ((Gt_132, 0, L), (xz I 131 1 0), (xz J 131 1 0)) := yNa rfl rfl (yNew (by decide +kernel) rfl)
theorem stp_132 {L : Nat} {I : Nat → Nat → Int32} {J : Nat → Nat → Int64} {c : xS → Option xOut} : xpR ((Gt_132, 0, L), I, J) 2 126 7 131 c = c ((Gt_133, 0, L), I, J) := ypR (by decide +kernel)
theorem stp_133 {L : Nat} {I : Nat → Nat → Int32} {J : Nat → Nat → Int64} {c : Nat → xS → Option xOut} : xna ((Gt_133, 0, L), I, J) 14 20 c = c 132 ((Gt_134, 0, L), (xz I 132 1 0), (xz J 132 1 0)) := yNa rfl rfl (yNew (by decide +kernel) rfl)
theorem stp_134 {L : Nat} {I : Nat → Nat → Int32} {J : Nat → Nat → Int64} {c : xS → Option xOut} : xpR ((Gt_134, 0, L), I, J) 2 126 8 132 c = c ((Gt_135, 0, L), I, J) := ypR (by decide +kernel)
theorem stp_135 {L : Nat} {I : Nat → Nat → Int32} {J : Nat → Nat → Int64} {c : Nat → xS → Option xOut} : xna ((Gt_135, 0, L), I, J) 14 20 c = c 133 ((Gt_136, 0, L), (xz I 133 1 0), (xz J 133 1 0)) := yNa rfl rfl (yNew (by decide +kernel) rfl)
theorem stp_136 {L : Nat} {I : Nat → Nat → Int32} {J : Nat → Nat → Int64} {c : xS → Option xOut} : xpR ((Gt_136, 0, L), I, J) 2 126 9 133 c = c ((Gt_137, 0, L), I, J) := ypR (by decide +kernel)
theorem stp_137 {L : Nat} {I : Nat → Nat → Int32} {J : Nat → Nat → Int64} {c : Nat → xS → Option xOut} : xna ((Gt_137, 0, L), I, J) 14 20 c = c 134 ((Gt_138, 0, L), (xz I 134 1 0), (xz J 134 1 0)) := yNa rfl rfl (yNew (by decide +kernel) rfl)
theorem stp_138 {L : Nat} {I : Nat → Nat → Int32} {J : Nat → Nat → Int64} {c : xS → Option xOut} : xpR ((Gt_138, 0, L), I, J) 2 126 10 134 c = c ((Gt_139, 0, L), I, J) := ypR (by decide +kernel)
theorem stp_139 {L : Nat} {I : Nat → Nat → Int32} {J : Nat → Nat → Int64} {c : Nat → xS → Option xOut} : xmn ((Gt_139, 0, L), I, J) 20 8 c = c 135 ((Gt_140, 0, L), (xz I 135 21 0), (xz J 135 21 0)) := yMn (by decide +kernel) rfl rfl rfl
theorem stp_140 {L : Nat} {I : Nat → Nat → Int32} {J : Nat → Nat → Int64} {c : xS → Option xOut} : xpR ((Gt_140, 0, L), I, J) 2 126 11 135 c = c ((Gt_141, 0, L), I, J) := ypR (by decide +kernel)
theorem ini_17 (d : Nat) {L : Nat} {I : Nat → Nat → Int32} {J : Nat → Nat → Int64} : xcall xprog (d + 1) 13 [.ref 126] ((Gt_123, 0, L), I, J) = some (none, ((Gt_141, 0, L), (xz (xz (xz (xz (xz (xz (xz (xz (xz (xu (xu (xu I 126 0 1) 126 1 0) 126 2 0) 127 1 0) 128 1 0) 129 1 0) 130 1 0) 131 1 0) 132 1 0) 133 1 0) 134 1 0) 135 21 0), (xz (xz (xz (xz (xz (xz (xz (xz (xz J 127 1 0) 128 1 0) 129 1 0) 130 1 0) 131 1 0) 132 1 0) 133 1 0) 134 1 0) 135 21 0))) := by
  show xlim (xcall xprog (d + 0)) mX2_init 0 [.ref 126] [] ((Gt_123, 0, L), I, J) = _
  rw [qX2_init_0, ypI (G := Gt_123) (by decide +kernel), ypI (G := Gt_123) (by decide +kernel), ypI (G := Gt_123) (by decide +kernel), stp_123, stp_124, stp_125, stp_126, stp_127, stp_128, stp_129, stp_130, stp_131, stp_132, stp_133, stp_134, stp_135, stp_136, stp_137, stp_138, stp_139, stp_140]
theorem stp_141 {L : Nat} {I : Nat → Nat → Int32} {J : Nat → Nat → Int64} {c : xS → Option xOut} : xpR ((Gt_141, 0, L), I, J) 8 125 0 126 c = c ((Gt_142, 0, L), I, J) := ypR (by decide +kernel)
theorem stp_142 {L : Nat} {I : Nat → Nat → Int32} {J : Nat → Nat → Int64} {c : Nat → xS → Option xOut} : xnw ((Gt_142, 0, L), I, J) 10 6 (List.replicate 6 none) c = c 156 ((Gt_143, 0, L), (xz I 156 1 0), (xz J 156 1 0)) := yNew (by decide +kernel) rfl
theorem stp_143 {L : Nat} {I : Nat → Nat → Int32} {J : Nat → Nat → Int64} {c : xS → Option xOut} : xpR ((Gt_143, 0, L), I, J) 10 156 5 126 c = c ((Gt_144, 0, L), I, J) := ypR (by decide +kernel)
theorem stp_144 {L : Nat} {I : Nat → Nat → Int32} {J : Nat → Nat → Int64} {c : Nat → xS → Option xOut} : xna ((Gt_144, 0, L), I, J) 14 48 c = c 157 ((Gt_145, 0, L), (xz I 157 1 0), (xz J 157 1 0)) := yNa rfl rfl (yNew (by decide +kernel) rfl)
theorem stp_145 {L : Nat} {I : Nat → Nat → Int32} {J : Nat → Nat → Int64} {c : xS → Option xOut} : xpR ((Gt_145, 0, L), I, J) 10 156 1 157 c = c ((Gt_146, 0, L), I, J) := ypR (by decide +kernel)
theorem stp_146 {L : Nat} {I : Nat → Nat → Int32} {J : Nat → Nat → Int64} {c : Nat → xS → Option xOut} : xna ((Gt_146, 0, L), I, J) 14 48 c = c 158 ((Gt_147, 0, L), (xz I 158 1 0), (xz J 158 1 0)) := yNa rfl rfl (yNew (by decide +kernel) rfl)
theorem stp_147 {L : Nat} {I : Nat → Nat → Int32} {J : Nat → Nat → Int64} {c : xS → Option xOut} : xpR ((Gt_147, 0, L), I, J) 10 156 2 158 c = c ((Gt_148, 0, L), I, J) := ypR (by decide +kernel)
theorem stp_148 {L : Nat} {I : Nat → Nat → Int32} {J : Nat → Nat → Int64} {c : Nat → xS → Option xOut} : xna ((Gt_148, 0, L), I, J) 14 48 c = c 159 ((Gt_149, 0, L), (xz I 159 1 0), (xz J 159 1 0)) := yNa rfl rfl (yNew (by decide +kernel) rfl)
theorem stp_149 {L : Nat} {I : Nat → Nat → Int32} {J : Nat → Nat → Int64} {c : xS → Option xOut} : xpR ((Gt_149, 0, L), I, J) 10 156 3 159 c = c ((Gt_150, 0, L), I, J) := ypR (by decide +kernel)
theorem stp_150 {L : Nat} {I : Nat → Nat → Int32} {J : Nat → Nat → Int64} {c : Nat → xS → Option xOut} : xna ((Gt_150, 0, L), I, J) 14 8 c = c 160 ((Gt_151, 0, L), (xz I 160 1 0), (xz J 160 1 0)) := yNa rfl rfl (yNew (by decide +kernel) rfl)
theorem stp_151 {L : Nat} {I : Nat → Nat → Int32} {J : Nat → Nat → Int64} {c : xS → Option xOut} : xpR ((Gt_151, 0, L), I, J) 10 156 4 160 c = c ((Gt_152, 0, L), I, J) := ypR (by decide +kernel)
theorem ini_18 (d : Nat) {L : Nat} {I : Nat → Nat → Int32} {J : Nat → Nat → Int64} : xcall xprog (d + 1) 99 [.ref 156, .ref 126] ((Gt_143, 0, L), I, J) = some (none, ((Gt_152, 0, L), (xz (xz (xz (xz (xu I 156 0 0) 157 1 0) 158 1 0) 159 1 0) 160 1 0), (xz (xz (xz (xz J 157 1 0) 158 1 0) 159 1 0) 160 1 0))) := by
  show xlim (xcall xprog (d + 0)) mX10_init 0 [.ref 156, .ref 126] [] ((Gt_143, 0, L), I, J) = _
  rw [qX10_init_0, stp_143, ypI (G := Gt_144) (by decide +kernel), stp_144, stp_145, stp_146, stp_147, stp_148, stp_149, stp_150, stp_151]
theorem stp_152 {L : Nat} {I : Nat → Nat → Int32} {J : Nat → Nat → Int64} {c : xS → Option xOut} : xpR ((Gt_152, 0, L), I, J) 8 125 1 156 c = c ((Gt_153, 0, L), I, J) := ypR (by decide +kernel)
theorem ini_19 (d : Nat) {L : Nat} {I : Nat → Nat → Int32} {J : Nat → Nat → Int64} : xcall xprog (d + 1) 100 [.ref 156] ((Gt_153, 0, L), I, J) = some (none, ((Gt_153, 0, L), (xu (xu (xu (xu (xu (xu (xu (xu (xu I 156 0 0) 160 0 (-1)) 160 1 (-1)) 160 2 (-1)) 160 3 (-1)) 160 4 (-1)) 160 5 (-1)) 160 6 (-1)) 160 7 (-1)), J)) := by
  show xlim (xcall xprog (d + 0)) mX10_clear 0 [.ref 156, xD] [] ((Gt_153, 0, L), I, J) = _
  rw [qX10_clear_0, ypI (G := Gt_153) (by decide +kernel), qX10_clear_1, if_pos (by decide), ygR (G := Gt_153) (q := 160) (by decide +kernel) (by decide +kernel), ysI (G := Gt_153) (n := 0) (by decide +kernel) rfl, qX10_clear_1, if_pos (by decide), ygR (G := Gt_153) (q := 160) (by decide +kernel) (by decide +kernel), ysI (G := Gt_153) (n := 1) (by decide +kernel) rfl, qX10_clear_1, if_pos (by decide), ygR (G := Gt_153) (q := 160) (by decide +kernel) (by decide +kernel), ysI (G := Gt_153) (n := 2) (by decide +kernel) rfl, qX10_clear_1, if_pos (by decide), ygR (G := Gt_153) (q := 160) (by decide +kernel) (by decide +kernel), ysI (G := Gt_153) (n := 3) (by decide +kernel) rfl, qX10_clear_1, if_pos (by decide), ygR (G := Gt_153) (q := 160) (by decide +kernel) (by decide +kernel), ysI (G := Gt_153) (n := 4) (by decide +kernel) rfl, qX10_clear_1, if_pos (by decide), ygR (G := Gt_153) (q := 160) (by decide +kernel) (by decide +kernel), ysI (G := Gt_153) (n := 5) (by decide +kernel) rfl, qX10_clear_1, if_pos (by decide), ygR (G := Gt_153) (q := 160) (by decide +kernel) (by decide +kernel), ysI (G := Gt_153) (n := 6) (by decide +kernel) rfl, qX10_clear_1, if_pos (by decide), ygR (G := Gt_153) (q := 160) (by decide +kernel) (by decide +kernel), ysI (G := Gt_153) (n := 7) (by decide +kernel) rfl, qX10_clear_1, if_neg (by decide), qX10_clear_2]
theorem stp_153 {L : Nat} {I : Nat → Nat → Int32} {J : Nat → Nat → Int64} {c : Nat → xS → Option xOut} : xnw ((Gt_153, 0, L), I, J) 7 6 (List.replicate 6 none) c = c 161 ((Gt_154, 0, L), (xz I 161 1 0), (xz J 161 1 0)) := yNew (by decide +kernel) rfl
theorem stp_154 {L : Nat} {I : Nat → Nat → Int32} {J : Nat → Nat → Int64} {c : Nat → xS → Option xOut} : xna ((Gt_154, 0, L), I, J) 14 40 c = c 162 ((Gt_155, 0, L), (xz I 162 1 0), (xz J 162 1 0)) := yNa rfl rfl (yNew (by decide +kernel) rfl)
theorem stp_155 {L : Nat} {I : Nat → Nat → Int32} {J : Nat → Nat → Int64} {c : xS → Option xOut} : xpR ((Gt_155, 0, L), I, J) 7 161 2 162 c = c ((Gt_156, 0, L), I, J) := ypR (by decide +kernel)
theorem stp_156 {L : Nat} {I : Nat → Nat → Int32} {J : Nat → Nat → Int64} {c : Nat → xS → Option xOut} : xna ((Gt_156, 0, L), I, J) 14 40 c = c 163 ((Gt_157, 0, L), (xz I 163 1 0), (xz J 163 1 0)) := yNa rfl rfl (yNew (by decide +kernel) rfl)
theorem stp_157 {L : Nat} {I : Nat → Nat → Int32} {J : Nat → Nat → Int64} {c : xS → Option xOut} : xpR ((Gt_157, 0, L), I, J) 7 161 3 163 c = c ((Gt_158, 0, L), I, J) := ypR (by decide +kernel)
theorem stp_158 {L : Nat} {I : Nat → Nat → Int32} {J : Nat → Nat → Int64} {c : Nat → xS → Option xOut} : xna ((Gt_158, 0, L), I, J) 14 40 c = c 164 ((Gt_159, 0, L), (xz I 164 1 0), (xz J 164 1 0)) := yNa rfl rfl (yNew (by decide +kernel) rfl)
theorem stp_159 {L : Nat} {I : Nat → Nat → Int32} {J : Nat → Nat → Int64} {c : xS → Option xOut} : xpR ((Gt_159, 0, L), I, J) 7 161 4 164 c = c ((Gt_160, 0, L), I, J) := ypR (by decide +kernel)
theorem stp_160 {L : Nat} {I : Nat → Nat → Int32} {J : Nat → Nat → Int64} {c : Nat → xS → Option xOut} : xna ((Gt_160, 0, L), I, J) 14 40 c = c 165 ((Gt_161, 0, L), (xz I 165 1 0), (xz J 165 1 0)) := yNa rfl rfl (yNew (by decide +kernel) rfl)
theorem stp_161 {L : Nat} {I : Nat → Nat → Int32} {J : Nat → Nat → Int64} {c : xS → Option xOut} : xpR ((Gt_161, 0, L), I, J) 7 161 5 165 c = c ((Gt_162, 0, L), I, J) := ypR (by decide +kernel)
theorem ini_20 (d : Nat) {L : Nat} {I : Nat → Nat → Int32} {J : Nat → Nat → Int64} : xcall xprog (d + 1) 66 [.ref 161] ((Gt_154, 0, L), I, J) = some (none, ((Gt_162, 0, L), (xz (xz (xz (xz (xu (xu I 161 0 0) 161 1 0) 162 1 0) 163 1 0) 164 1 0) 165 1 0), (xz (xz (xz (xz J 162 1 0) 163 1 0) 164 1 0) 165 1 0))) := by
  show xlim (xcall xprog (d + 0)) mX7_init 0 [.ref 161] [] ((Gt_154, 0, L), I, J) = _
  rw [qX7_init_0, ypI (G := Gt_154) (by decide +kernel), ypI (G := Gt_154) (by decide +kernel), stp_154, stp_155, stp_156, stp_157, stp_158, stp_159, stp_160, stp_161]
theorem stp_162 {L : Nat} {I : Nat → Nat → Int32} {J : Nat → Nat → Int64} {c : xS → Option xOut} : xpR ((Gt_162, 0, L), I, J) 8 125 2 161 c = c ((Gt_163, 0, L), I, J) := ypR (by decide +kernel)
theorem ini_16 (d : Nat) {L : Nat} {I : Nat → Nat → Int32} {J : Nat → Nat → Int64} : xcall xprog (d + 2) 79 [.ref 125] ((Gt_122, 0, L), I, J) = some (none, ((Gt_163, 0, L), (xu (xz (xz (xz (xz (xu (xu (xz (xu (xu (xu (xu (xu (xu (xu (xu (xu (xz (xz (xz (xz (xu (xz (xz (xz (xz (xz (xz (xz (xz (xz (xz (xu (xu (xu (xz I 126 1 0) 126 0 1) 126 1 0) 126 2 0) 127 1 0) 128 1 0) 129 1 0) 130 1 0) 131 1 0) 132 1 0) 133 1 0) 134 1 0) 135 21 0) 156 1 0) 156 0 0) 157 1 0) 158 1 0) 159 1 0) 160 1 0) 156 0 0) 160 0 (-1)) 160 1 (-1)) 160 2 (-1)) 160 3 (-1)) 160 4 (-1)) 160 5 (-1)) 160 6 (-1)) 160 7 (-1)) 161 1 0) 161 0 0) 161 1 0) 162 1 0) 163 1 0) 164 1 0) 165 1 0) 125 3 1), (xz (xz (xz (xz (xz (xz (xz (xz (xz (xz (xz (xz (xz (xz (xz (xz (xz (xz (xz (xz J 126 1 0) 127 1 0) 128 1 0) 129 1 0) 130 1 0) 131 1 0) 132 1 0) 133 1 0) 134 1 0) 135 21 0) 156 1 0) 157 1 0) 158 1 0) 159 1 0) 160 1 0) 161 1 0) 162 1 0) 163 1 0) 164 1 0) 165 1 0))) := by
  show xlim (xcall xprog (d + 1)) mX8_init 0 [.ref 125] [] ((Gt_122, 0, L), I, J) = _
  rw [qX8_init_0, stp_122, show xis (Gt_123, 0, L) 2 126 = true from yis (by decide +kernel), cond_true, ini_17 (d + 0), xcV_some, stp_141, stp_142, ygR (G := Gt_143) (q := 126) (by decide +kernel) (by decide +kernel), show xis (Gt_143, 0, L) 10 156 = true from yis (by decide +kernel), cond_true, ini_18 (d + 0), xcV_some, stp_152, ygR (G := Gt_153) (q := 156) (by decide +kernel) (by decide +kernel), show xis (Gt_153, 0, L) 10 156 = true from yis (by decide +kernel), cond_true, ini_19 (d + 0), xcV_some, stp_153, show xis (Gt_154, 0, L) 7 161 = true from yis (by decide +kernel), cond_true, ini_20 (d + 0), xcV_some, stp_162, ypZ (G := Gt_163) (by decide +kernel) rfl]
theorem stp_163 {L : Nat} {I : Nat → Nat → Int32} {J : Nat → Nat → Int64} {c : xS → Option xOut} : xsR ((Gt_163, 0, L), I, J) 124 0 125 c = c ((Gt_164, 0, L), I, J) := ysR (n := 0) (by decide +kernel) rfl
theorem stp_164 {L : Nat} {I : Nat → Nat → Int32} {J : Nat → Nat → Int64} {c : Nat → xS → Option xOut} : xnw ((Gt_164, 0, L), I, J) 8 4 (List.replicate 4 none) c = c 166 ((Gt_165, 0, L), (xz I 166 1 0), (xz J 166 1 0)) := yNew (by decide +kernel) rfl
theorem stp_165 {L : Nat} {I : Nat → Nat → Int32} {J : Nat → Nat → Int64} {c : Nat → xS → Option xOut} : xnw ((Gt_165, 0, L), I, J) 2 12 (List.replicate 12 none) c = c 167 ((Gt_166, 0, L), (xz I 167 1 0), (xz J 167 1 0)) := yNew (by decide +kernel) rfl
theorem stp_166 {L : Nat} {I : Nat → Nat → Int32} {J : Nat → Nat → Int64} {c : Nat → xS → Option xOut} : xna ((Gt_166, 0, L), I, J) 15 8 c = c 168 ((Gt_167, 0, L), (xz I 168 1 0), (xz J 168 1 0)) := yNa rfl rfl (yNew (by decide +kernel) rfl)
theorem stp_167 {L : Nat} {I : Nat → Nat → Int32} {J : Nat → Nat → Int64} {c : xS → Option xOut} : xpR ((Gt_167, 0, L), I, J) 2 167 3 168 c = c ((Gt_168, 0, L), I, J) := ypR (by decide +kernel)
theorem stp_168 {L : Nat} {I : Nat → Nat → Int32} {J : Nat → Nat → Int64} {c : Nat → xS → Option xOut} : xna ((Gt_168, 0, L), I, J) 14 8 c = c 169 ((Gt_169, 0, L), (xz I 169 1 0), (xz J 169 1 0)) := yNa rfl rfl (yNew (by decide +kernel) rfl)
theorem stp_169 {L : Nat} {I : Nat → Nat → Int32} {J : Nat → Nat → Int64} {c : xS → Option xOut} : xpR ((Gt_169, 0, L), I, J) 2 167 4 169 c = c ((Gt_170, 0, L), I, J) := ypR (by decide +kernel)
theorem stp_170 {L : Nat} {I : Nat → Nat → Int32} {J : Nat → Nat → Int64} {c : Nat → xS → Option xOut} : xna ((Gt_170, 0, L), I, J) 15 20 c = c 170 ((Gt_171, 0, L), (xz I 170 1 0), (xz J 170 1 0)) := yNa rfl rfl (yNew (by decide +kernel) rfl)
theorem stp_171 {L : Nat} {I : Nat → Nat → Int32} {J : Nat → Nat → Int64} {c : xS → Option xOut} : xpR ((Gt_171, 0, L), I, J) 2 167 5 170 c = c ((Gt_172, 0, L), I, J) := ypR (by decide +kernel)
theorem stp_172 {L : Nat} {I : Nat → Nat → Int32} {J : Nat → Nat → Int64} {c : Nat → xS → Option xOut} : xna ((Gt_172, 0, L), I, J) 14 20 c = c 171 ((Gt_173, 0, L), (xz I 171 1 0), (xz J 171 1 0)) := yNa rfl rfl (yNew (by decide +kernel) rfl)
theorem stp_173 {L : Nat} {I : Nat → Nat → Int32} {J : Nat → Nat → Int64} {c : xS → Option xOut} : xpR ((Gt_173, 0, L), I, J) 2 167 6 171 c = c ((Gt_174, 0, L), I, J) := ypR (by decide +kernel)
theorem stp_174 {L : Nat} {I : Nat → Nat → Int32} {J : Nat → Nat → Int64} {c : Nat → xS → Option xOut} : xna ((Gt_174, 0, L), I, J) 14 20 c = c 172 ((Gt_175, 0, L), (xz I 172 1 0), (xz J 172 1 0)) := yNa rfl rfl (yNew (by decide +kernel) rfl)
theorem stp_175 {L : Nat} {I : Nat → Nat → Int32} {J : Nat → Nat → Int64} {c : xS → Option xOut} : xpR ((Gt_175, 0, L), I, J) 2 167 7 172 c = c ((Gt_176, 0, L), I, J) := ypR (by decide +kernel)
theorem stp_176 {L : Nat} {I : Nat → Nat → Int32} {J : Nat → Nat → Int64} {c : Nat → xS → Option xOut} : xna ((Gt_176, 0, L), I, J) 14 20 c = c 173 ((Gt_177, 0, L), (xz I 173 1 0), (xz J 173 1 0)) := yNa rfl rfl (yNew (by decide +kernel) rfl)
theorem stp_177 {L : Nat} {I : Nat → Nat → Int32} {J : Nat → Nat → Int64} {c : xS → Option xOut} : xpR ((Gt_177, 0, L), I, J) 2 167 8 173 c = c ((Gt_178, 0, L), I, J) := ypR (by decide +kernel)
theorem stp_178 {L : Nat} {I : Nat → Nat → Int32} {J : Nat → Nat → Int64} {c : Nat → xS → Option xOut} : xna ((Gt_178, 0, L), I, J) 14 20 c = c 174 ((Gt_179, 0, L), (xz I 174 1 0), (xz J 174 1 0)) := yNa rfl rfl (yNew (by decide +kernel) rfl)
theorem stp_179 {L : Nat} {I : Nat → Nat → Int32} {J : Nat → Nat → Int64} {c : xS → Option xOut} : xpR ((Gt_179, 0, L), I, J) 2 167 9 174 c = c ((Gt_180, 0, L), I, J) := ypR (by decide +kernel)
theorem stp_180 {L : Nat} {I : Nat → Nat → Int32} {J : Nat → Nat → Int64} {c : Nat → xS → Option xOut} : xna ((Gt_180, 0, L), I, J) 14 20 c = c 175 ((Gt_181, 0, L), (xz I 175 1 0), (xz J 175 1 0)) := yNa rfl rfl (yNew (by decide +kernel) rfl)
theorem stp_181 {L : Nat} {I : Nat → Nat → Int32} {J : Nat → Nat → Int64} {c : xS → Option xOut} : xpR ((Gt_181, 0, L), I, J) 2 167 10 175 c = c ((Gt_182, 0, L), I, J) := ypR (by decide +kernel)
theorem stp_182 {L : Nat} {I : Nat → Nat → Int32} {J : Nat → Nat → Int64} {c : Nat → xS → Option xOut} : xmn ((Gt_182, 0, L), I, J) 20 8 c = c 176 ((Gt_183, 0, L), (xz I 176 21 0), (xz J 176 21 0)) := yMn (by decide +kernel) rfl rfl rfl
theorem stp_183 {L : Nat} {I : Nat → Nat → Int32} {J : Nat → Nat → Int64} {c : xS → Option xOut} : xpR ((Gt_183, 0, L), I, J) 2 167 11 176 c = c ((Gt_184, 0, L), I, J) := ypR (by decide +kernel)
theorem ini_22 (d : Nat) {L : Nat} {I : Nat → Nat → Int32} {J : Nat → Nat → Int64} : xcall xprog (d + 1) 13 [.ref 167] ((Gt_166, 0, L), I, J) = some (none, ((Gt_184, 0, L), (xz (xz (xz (xz (xz (xz (xz (xz (xz (xu (xu (xu I 167 0 1) 167 1 0) 167 2 0) 168 1 0) 169 1 0) 170 1 0) 171 1 0) 172 1 0) 173 1 0) 174 1 0) 175 1 0) 176 21 0), (xz (xz (xz (xz (xz (xz (xz (xz (xz J 168 1 0) 169 1 0) 170 1 0) 171 1 0) 172 1 0) 173 1 0) 174 1 0) 175 1 0) 176 21 0))) := by
  show xlim (xcall xprog (d + 0)) mX2_init 0 [.ref 167] [] ((Gt_166, 0, L), I, J) = _
  rw [qX2_init_0, ypI (G := Gt_166) (by decide +kernel), ypI (G := Gt_166) (by decide +kernel), ypI (G := Gt_166) (by decide +kernel), stp_166, stp_167, stp_168, stp_169, stp_170, stp_171, stp_172, stp_173, stp_174, stp_175, stp_176, stp_177, stp_178, stp_179, stp_180, stp_181, stp_182, stp_183]
theorem stp_184 {L : Nat} {I : Nat → Nat → Int32} {J : Nat → Nat → Int64} {c : xS → Option xOut} : xpR ((Gt_184, 0, L), I, J) 8 166 0 167 c = c ((Gt_185, 0, L), I, J) := ypR (by decide +kernel)
theorem stp_185 {L : Nat} {I : Nat → Nat → Int32} {J : Nat → Nat → Int64} {c : Nat → xS → Option xOut} : xnw ((Gt_185, 0, L), I, J) 10 6 (List.replicate 6 none) c = c 197 ((Gt_186, 0, L), (xz I 197 1 0), (xz J 197 1 0)) := yNew (by decide +kernel) rfl
theorem stp_186 {L : Nat} {I : Nat → Nat → Int32} {J : Nat → Nat → Int64} {c : xS → Option xOut} : xpR ((Gt_186, 0, L), I, J) 10 197 5 167 c = c ((Gt_187, 0, L), I, J) := ypR (by decide +kernel)
theorem stp_187 {L : Nat} {I : Nat → Nat → Int32} {J : Nat → Nat → Int64} {c : Nat → xS → Option xOut} : xna ((Gt_187, 0, L), I, J) 14 48 c = c 198 ((Gt_188, 0, L), (xz I 198 1 0), (xz J 198 1 0)) := yNa rfl rfl (yNew (by decide +kernel) rfl)
theorem stp_188 {L : Nat} {I : Nat → Nat → Int32} {J : Nat → Nat → Int64} {c : xS → Option xOut} : xpR ((Gt_188, 0, L), I, J) 10 197 1 198 c = c ((Gt_189, 0, L), I, J) := ypR (by decide +kernel)
theorem stp_189 {L : Nat} {I : Nat → Nat → Int32} {J : Nat → Nat → Int64} {c : Nat → xS → Option xOut} : xna ((Gt_189, 0, L), I, J) 14 48 c = c 199 ((Gt_190, 0, L), (xz I 199 1 0), (xz J 199 1 0)) := yNa rfl rfl (yNew (by decide +kernel) rfl)
theorem stp_190 {L : Nat} {I : Nat → Nat → Int32} {J : Nat → Nat → Int64} {c : xS → Option xOut} : xpR ((Gt_190, 0, L), I, J) 10 197 2 199 c = c ((Gt_191, 0, L), I, J) := ypR (by decide +kernel)
theorem stp_191 {L : Nat} {I : Nat → Nat → Int32} {J : Nat → Nat → Int64} {c : Nat → xS → Option xOut} : xna ((Gt_191, 0, L), I, J) 14 48 c = c 200 ((Gt_192, 0, L), (xz I 200 1 0), (xz J 200 1 0)) := yNa rfl rfl (yNew (by decide +kernel) rfl)
theorem stp_192 {L : Nat} {I : Nat → Nat → Int32} {J : Nat → Nat → Int64} {c : xS → Option xOut} : xpR ((Gt_192, 0, L), I, J) 10 197 3 200 c = c ((Gt_193, 0, L), I, J) := ypR (by decide +kernel)
theorem stp_193 {L : Nat} {I : Nat → Nat → Int32} {J : Nat → Nat → Int64} {c : Nat → xS → Option xOut} : xna ((Gt_193, 0, L), I, J) 14 8 c = c 201 ((Gt_194, 0, L), (xz I 201 1 0), (xz J 201 1 0)) := yNa rfl rfl (yNew (by decide +kernel) rfl)
theorem stp_194 {L : Nat} {I : Nat → Nat → Int32} {J : Nat → Nat → Int64} {c : xS → Option xOut} : xpR ((Gt_194, 0, L), I, J) 10 197 4 201 c = c ((Gt_195, 0, L), I, J) := ypR (by decide +kernel)
theorem ini_23 (d : Nat) {L : Nat} {I : Nat → Nat → Int32} {J : Nat → Nat → Int64} : xcall xprog (d + 1) 99 [.ref 197, .ref 167] ((Gt_186, 0, L), I, J) = some (none, ((Gt_195, 0, L), (xz (xz (xz (xz (xu I 197 0 0) 198 1 0) 199 1 0) 200 1 0) 201 1 0), (xz (xz (xz (xz J 198 1 0) 199 1 0) 200 1 0) 201 1 0))) := by
  show xlim (xcall xprog (d + 0)) mX10_init 0 [.ref 197, .ref 167] [] ((Gt_186, 0, L), I, J) = _
  rw [qX10_init_0, stp_186, ypI (G := Gt_187) (by decide +kernel), stp_187, stp_188, stp_189, stp_190, stp_191, stp_192, stp_193, stp_194]
theorem stp_195 {L : Nat} {I : Nat → Nat → Int32} {J : Nat → Nat → Int64} {c : xS → Option xOut} : xpR ((Gt_195, 0, L), I, J) 8 166 1 197 c = c ((Gt_196, 0, L), I, J) := ypR (by decide +kernel)
theorem ini_24 (d : Nat) {L : Nat} {I : Nat → Nat → Int32} {J : Nat → Nat → Int64} : xcall xprog (d + 1) 100 [.ref 197] ((Gt_196, 0, L), I, J) = some (none, ((Gt_196, 0, L), (xu (xu (xu (xu (xu (xu (xu (xu (xu I 197 0 0) 201 0 (-1)) 201 1 (-1)) 201 2 (-1)) 201 3 (-1)) 201 4 (-1)) 201 5 (-1)) 201 6 (-1)) 201 7 (-1)), J)) := by
  show xlim (xcall xprog (d + 0)) mX10_clear 0 [.ref 197, xD] [] ((Gt_196, 0, L), I, J) = _
  rw [qX10_clear_0, ypI (G := Gt_196) (by decide +kernel), qX10_clear_1, if_pos (by decide), ygR (G := Gt_196) (q := 201) (by decide +kernel) (by decide +kernel), ysI (G := Gt_196) (n := 0) (by decide +kernel) rfl, qX10_clear_1, if_pos (by decide), ygR (G := Gt_196) (q := 201) (by decide +kernel) (by decide +kernel), ysI (G := Gt_196) (n := 1) (by decide +kernel) rfl, qX10_clear_1, if_pos (by decide), ygR (G := Gt_196) (q := 201) (by decide +kernel) (by decide +kernel), ysI (G := Gt_196) (n := 2) (by decide +kernel) rfl, qX10_clear_1, if_pos (by decide), ygR (G := Gt_196) (q := 201) (by decide +kernel) (by decide +kernel), ysI (G := Gt_196) (n := 3) (by decide +kernel) rfl, qX10_clear_1, if_pos (by decide), ygR (G := Gt_196) (q := 201) (by decide +kernel) (by decide +kernel), ysI (G := Gt_196) (n := 4) (by decide +kernel) rfl, qX10_clear_1, if_pos (by decide), ygR (G := Gt_196) (q := 201) (by decide +kernel) (by decide +kernel), ysI (G := Gt_196) (n := 5) (by decide +kernel) rfl, qX10_clear_1, if_pos (by decide), ygR (G := Gt_196) (q := 201) (by decide +kernel) (by decide +kernel), ysI (G := Gt_196) (n := 6) (by decide +kernel) rfl, qX10_clear_1, if_pos (by decide), ygR (G := Gt_196) (q := 201) (by decide +kernel) (by decide +kernel), ysI (G := Gt_196) (n := 7) (by decide +kernel) rfl, qX10_clear_1, if_neg (by decide), qX10_clear_2]
theorem stp_196 {L : Nat} {I : Nat → Nat → Int32} {J : Nat → Nat → Int64} {c : Nat → xS → Option xOut} : xnw ((Gt_196, 0, L), I, J) 7 6 (List.replicate 6 none) c = c 202 ((Gt_197, 0, L), (xz I 202 1 0), (xz J 202 1 0)) := yNew (by decide +kernel) rfl
theorem stp_197 {L : Nat} {I : Nat → Nat → Int32} {J : Nat → Nat → Int64} {c : Nat → xS → Option xOut} : xna ((Gt_197, 0, L), I, J) 14 40 c = c 203 ((Gt_198, 0, L), (xz I 203 1 0), (xz J 203 1 0)) := yNa rfl rfl (yNew (by decide +kernel) rfl)
theorem stp_198 {L : Nat} {I : Nat → Nat → Int32} {J : Nat → Nat → Int64} {c : xS → Option xOut} : xpR ((Gt_198, 0, L), I, J) 7 202 2 203 c = c ((Gt_199, 0, L), I, J) := ypR (by decide +kernel)
theorem stp_199 {L : Nat} {I : Nat → Nat → Int32} {J : Nat → Nat → Int64} {c : Nat → xS → Option xOut} : xna ((Gt_199, 0, L), I, J) 14 40 c = c 204 ((Gt_200, 0, L), (xz I 204 1 0), (xz J 204 1 0)) := yNa rfl rfl (yNew (by decide +kernel) rfl)
theorem stp_200 {L : Nat} {I : Nat → Nat → Int32} {J : Nat → Nat → Int64} {c : xS → Option xOut} : xpR ((Gt_200, 0, L), I, J) 7 202 3 204 c = c ((Gt_201, 0, L), I, J) := ypR (by decide +kernel)
theorem stp_201 {L : Nat} {I : Nat → Nat → Int32} {J : Nat → Nat → Int64} {c : Nat → xS → Option xOut} : xna ((Gt_201, 0, L), I, J) 14 40 c = c 205 ((Gt_202, 0, L), (xz I 205 1 0), (xz J 205 1 0)) := yNa rfl rfl (yNew (by decide +kernel) rfl)
theorem stp_202 {L : Nat} {I : Nat → Nat → Int32} {J : Nat → Nat → Int64} {c : xS → Option xOut} : xpR ((Gt_202, 0, L), I, J) 7 202 4 205 c = c ((Gt_203, 0, L), I, J) := ypR (by decide +kernel)
theorem stp_203 {L : Nat} {I : Nat → Nat → Int32} {J : Nat → Nat → Int64} {c : Nat → xS → Option xOut} : xna ((Gt_203, 0, L), I, J) 14 40 c = c 206 ((Gt_204, 0, L), (xz I 206 1 0), (xz J 206 1 0)) := yNa rfl rfl (yNew (by decide +kernel) rfl)
theorem stp_204 {L : Nat} {I : Nat → Nat → Int32} {J : Nat → Nat → Int64} {c : xS → Option xOut} : xpR ((Gt_204, 0, L), I, J) 7 202 5 206 c = c ((Gt_205, 0, L), I, J) := ypR (by decide +kernel)
theorem ini_25 (d : Nat) {L : Nat} {I : Nat → Nat → Int32} {J : Nat → Nat → Int64} : xcall xprog (d + 1) 66 [.ref 202] ((Gt_197, 0, L), I, J) = some (none, ((Gt_205, 0, L), (xz (xz (xz (xz (xu (xu I 202 0 0) 202 1 0) 203 1 0) 204 1 0) 205 1 0) 206 1 0), (xz (xz (xz (xz J 203 1 0) 204 1 0) 205 1 0) 206 1 0))) := by
  show xlim (xcall xprog (d + 0)) mX7_init 0 [.ref 202] [] ((Gt_197, 0, L), I, J) = _
  rw [qX7_init_0, ypI (G := Gt_197) (by decide +kernel), ypI (G := Gt_197) (by decide +kernel), stp_197, stp_198, stp_199, stp_200, stp_201, stp_202, stp_203, stp_204]
theorem stp_205 {L : Nat} {I : Nat → Nat → Int32} {J : Nat → Nat → Int64} {c : xS → Option xOut} : xpR ((Gt_205, 0, L), I, J) 8 166 2 202 c = c ((Gt_206, 0, L), I, J) := ypR (by decide +kernel)
theorem ini_21 (d : Nat) {L : Nat} {I : Nat → Nat → Int32} {J : Nat → Nat → Int64} : xcall xprog (d + 2) 79 [.ref 166] ((Gt_165, 0, L), I, J) = some (none, ((Gt_206, 0, L), (xu (xz (xz (xz (xz (xu (xu (xz (xu (xu (xu (xu (xu (xu (xu (xu (xu (xz (xz (xz (xz (xu (xz (xz (xz (xz (xz (xz (xz (xz (xz (xz (xu (xu (xu (xz I 167 1 0) 167 0 1) 167 1 0) 167 2 0) 168 1 0) 169 1 0) 170 1 0) 171 1 0) 172 1 0) 173 1 0) 174 1 0) 175 1 0) 176 21 0) 197 1 0) 197 0 0) 198 1 0) 199 1 0) 200 1 0) 201 1 0) 197 0 0) 201 0 (-1)) 201 1 (-1)) 201 2 (-1)) 201 3 (-1)) 201 4 (-1)) 201 5 (-1)) 201 6 (-1)) 201 7 (-1)) 202 1 0) 202 0 0) 202 1 0) 203 1 0) 204 1 0) 205 1 0) 206 1 0) 166 3 1), (xz (xz (xz (xz (xz (xz (xz (xz (xz (xz (xz (xz (xz (xz (xz (xz (xz (xz (xz (xz J 167 1 0) 168 1 0) 169 1 0) 170 1 0) 171 1 0) 172 1 0) 173 1 0) 174 1 0) 175 1 0) 176 21 0) 197 1 0) 198 1 0) 199 1 0) 200 1 0) 201 1 0) 202 1 0) 203 1 0) 204 1 0) 205 1 0) 206 1 0))) := by
  show xlim (xcall xprog (d + 1)) mX8_init 0 [.ref 166] [] ((Gt_165, 0, L), I, J) = _
  rw [qX8_init_0, stp_165, show xis (Gt_166, 0, L) 2 167 = true from yis (by decide +kernel), cond_true, ini_22 (d + 0), xcV_some, stp_184, stp_185, ygR (G := Gt_186) (q := 167) (by decide +kernel) (by decide +kernel), show xis (Gt_186, 0, L) 10 197 = true from yis (by decide +kernel), cond_true, ini_23 (d + 0), xcV_some, stp_195, ygR (G := Gt_196) (q := 197) (by decide +kernel) (by decide +kernel), show xis (Gt_196, 0, L) 10 197 = true from yis (by decide +kernel), cond_true, ini_24 (d + 0), xcV_some, stp_196, show xis (Gt_197, 0, L) 7 202 = true from yis (by decide +kernel), cond_true, ini_25 (d + 0), xcV_some, stp_205, ypZ (G := Gt_206) (by decide +kernel) rfl]
theorem stp_206 {L : Nat} {I : Nat → Nat → Int32} {J : Nat → Nat → Int64} {c : xS → Option xOut} : xsR ((Gt_206, 0, L), I, J) 124 1 166 c = c ((Gt_207, 0, L), I, J) := ysR (n := 1) (by decide +kernel) rfl
theorem stp_207 {L : Nat} {I : Nat → Nat → Int32} {J : Nat → Nat → Int64} {c : xS → Option xOut} : xpR ((Gt_207, 0, L), I, J) 11 0 13 124 c = c ((Gt_208, 0, L), I, J) := ypR (by decide +kernel)
theorem stp_208 {L : Nat} {I : Nat → Nat → Int32} {J : Nat → Nat → Int64} {c : Nat → xS → Option xOut} : xna ((Gt_208, 0, L), I, J) 16 2 c = c 207 ((Gt_209, 0, L), (xz I 207 1 0), (xz J 207 1 0)) := yNa rfl rfl (yNew (by decide +kernel) rfl)
theorem stp_209 {L : Nat} {I : Nat → Nat → Int32} {J : Nat → Nat → Int64} {c : xS → Option xOut} : xpR ((Gt_209, 0, L), I, J) 11 0 14 207 c = c ((Gt_210, 0, L), I, J) := ypR (by decide +kernel)
theorem stp_210 {L : Nat} {I : Nat → Nat → Int32} {J : Nat → Nat → Int64} {c : Nat → xS → Option xOut} : xna ((Gt_210, 0, L), I, J) 14 10 c = c 208 ((Gt_211, 0, L), (xz I 208 1 0), (xz J 208 1 0)) := yNa rfl rfl (yNew (by decide +kernel) rfl)
theorem stp_211 {L : Nat} {I : Nat → Nat → Int32} {J : Nat → Nat → Int64} {c : xS → Option xOut} : xpR ((Gt_211, 0, L), I, J) 11 0 15 208 c = c ((Gt_212, 0, L), I, J) := ypR (by decide +kernel)
theorem ini_0 (d : Nat) {L : Nat} {I : Nat → Nat → Int32} {J : Nat → Nat → Int64} : xcall xprog (d + 3) 111 [.ref 0] ((Gt_1, 0, L), I, J) = some (none, ((Gt_212, 0, L), (xu (xz (xz (xu (xz (xz (xz (xz (xu (xu (xz (xu (xu (xu (xu (xu (xu (xu (xu (xu (xz (xz (xz (xz (xu (xz (xz (xz (xz (xz (xz (xz (xz (xz (xz (xu (xu (xu (xz (xz (xu (xz (xz (xz (xz (xu (xu (xz (xu (xu (xu (xu (xu (xu (xu (xu (xu (xz (xz (xz (xz (xu (xz (xz (xz (xz (xz (xz (xz (xz (xz (xz (xu (xu (xu (xz (xz (xz (xz (xz (xz (xz (xu (xu (xz (xz (xz (xz (xz (xz (xz (xz (xz (xz (xu (xu (xu (xz (xu (xu (xz (xz (xu (xz (xz (xz (xz (xz (xu (xu (xu (xu (xu (xz (xz (xu (xu (xu (xz (xz (xz (xz (xu (xz (xu (xz (xz (xz (xz (xu (xu (xz (xu (xu (xu (xu (xu (xu (xu (xu (xu (xz (xz (xz (xz (xu (xz (xz (xz (xz (xz (xz (xz (xz (xz (xz (xu (xu (xu (xz (xz (xz (xu (xz (xz (xu (xz (xz I 1 1 0) 2 1 0) 1 1 0) 3 1 0) 4 1 0) 3 1 0) 5 1 0) 6 1 0) 7 1 0) 7 0 1) 7 1 0) 7 2 0) 8 1 0) 9 1 0) 10 1 0) 11 1 0) 12 1 0) 13 1 0) 14 1 0) 15 1 0) 16 21 0) 37 1 0) 37 0 0) 38 1 0) 39 1 0) 40 1 0) 41 1 0) 37 0 0) 41 0 (-1)) 41 1 (-1)) 41 2 (-1)) 41 3 (-1)) 41 4 (-1)) 41 5 (-1)) 41 6 (-1)) 41 7 (-1)) 42 1 0) 42 0 0) 42 1 0) 43 1 0) 44 1 0) 45 1 0) 46 1 0) 6 3 1) 47 1 0) 47 6 (-1)) 48 1 0) 49 1 0) 50 21 0) 71 1 0) 71 0 (-1)) 71 1 (-1)) 71 2 0) 72 1 0) 73 1 0) 73 0 (-1)) 73 1 (-1)) 73 2 (-1)) 73 3 (-1)) 72 1 0) 74 1 0) 75 1 0) 76 1 0) 77 1 0) 78 1 0) 78 0 0) 79 1 0) 80 9 0) 79 1 0) 79 2 0) 89 1 0) 89 0 1) 89 1 0) 89 2 0) 90 1 0) 91 1 0) 92 1 0) 93 1 0) 94 1 0) 95 1 0) 96 1 0) 97 1 0) 98 21 0) 119 1 0) 119 0 0) 119 1 0) 120 1 0) 121 1 0) 122 1 0) 123 1 0) 124 1 0) 125 1 0) 126 1 0) 126 0 1) 126 1 0) 126 2 0) 127 1 0) 128 1 0) 129 1 0) 130 1 0) 131 1 0) 132 1 0) 133 1 0) 134 1 0) 135 21 0) 156 1 0) 156 0 0) 157 1 0) 158 1 0) 159 1 0) 160 1 0) 156 0 0) 160 0 (-1)) 160 1 (-1)) 160 2 (-1)) 160 3 (-1)) 160 4 (-1)) 160 5 (-1)) 160 6 (-1)) 160 7 (-1)) 161 1 0) 161 0 0) 161 1 0) 162 1 0) 163 1 0) 164 1 0) 165 1 0) 125 3 1) 166 1 0) 167 1 0) 167 0 1) 167 1 0) 167 2 0) 168 1 0) 169 1 0) 170 1 0) 171 1 0) 172 1 0) 173 1 0) 174 1 0) 175 1 0) 176 21 0) 197 1 0) 197 0 0) 198 1 0) 199 1 0) 200 1 0) 201 1 0) 197 0 0) 201 0 (-1)) 201 1 (-1)) 201 2 (-1)) 201 3 (-1)) 201 4 (-1)) 201 5 (-1)) 201 6 (-1)) 201 7 (-1)) 202 1 0) 202 0 0) 202 1 0) 203 1 0) 204 1 0) 205 1 0) 206 1 0) 166 3 1) 207 1 0) 208 1 0) 0 16 0), (xz (xz (xz (xz (xz (xz (xz (xz (xz (xz (xz (xz (xz (xz (xz (xz (xz (xz (xz (xz (xz (xz (xz (xz (xz (xz (xz (xz (xz (xz (xz (xz (xz (xz (xz (xz (xz (xz (xz (xz (xz (xz (xz (xz (xz (xz (xz (xz (xz (xz (xz (xz (xz (xz (xz (xz (xz (xz (xz (xz (xz (xz (xz (xz (xz (xz (xz (xz (xz (xz (xz (xz (xz (xz (xz (xz (xz (xz (xz (xz (xz (xz (xz (xz (xz (xz (xz (xz (xz (xz (xz (xz (xz (xz (xz (xz (xz (xz (xz (xz J 1 1 0) 2 1 0) 3 1 0) 4 1 0) 5 1 0) 6 1 0) 7 1 0) 8 1 0) 9 1 0) 10 1 0) 11 1 0) 12 1 0) 13 1 0) 14 1 0) 15 1 0) 16 21 0) 37 1 0) 38 1 0) 39 1 0) 40 1 0) 41 1 0) 42 1 0) 43 1 0) 44 1 0) 45 1 0) 46 1 0) 47 1 0) 48 1 0) 49 1 0) 50 21 0) 71 1 0) 72 1 0) 73 1 0) 74 1 0) 75 1 0) 76 1 0) 77 1 0) 78 1 0) 79 1 0) 80 9 0) 89 1 0) 90 1 0) 91 1 0) 92 1 0) 93 1 0) 94 1 0) 95 1 0) 96 1 0) 97 1 0) 98 21 0) 119 1 0) 120 1 0) 121 1 0) 122 1 0) 123 1 0) 124 1 0) 125 1 0) 126 1 0) 127 1 0) 128 1 0) 129 1 0) 130 1 0) 131 1 0) 132 1 0) 133 1 0) 134 1 0) 135 21 0) 156 1 0) 157 1 0) 158 1 0) 159 1 0) 160 1 0) 161 1 0) 162 1 0) 163 1 0) 164 1 0) 165 1 0) 166 1 0) 167 1 0) 168 1 0) 169 1 0) 170 1 0) 171 1 0) 172 1 0) 173 1 0) 174 1 0) 175 1 0) 176 21 0) 197 1 0) 198 1 0) 199 1 0) 200 1 0) 201 1 0) 202 1 0) 203 1 0) 204 1 0) 205 1 0) 206 1 0) 207 1 0) 208 1 0))) := by
  show xlim (xcall xprog (d + 2)) mX11_init 0 [.ref 0] [] ((Gt_1, 0, L), I, J) = _
  rw [qX11_init_0, stp_1, show xis (Gt_2, 0, L) 1 1 = true from yis (by decide +kernel), cond_true, ini_1 (d + 1), xcV_some, stp_4, stp_5, show xis (Gt_6, 0, L) 1 3 = true from yis (by decide +kernel), cond_true, ini_2 (d + 1), xcV_some, stp_8, stp_9, ygR (G := Gt_10) (q := 1) (by decide +kernel) (by decide +kernel), show xis (Gt_10, 0, L) 9 5 = true from yis (by decide +kernel), cond_true, ini_3 (d + 1), xcV_some, stp_11, stp_12, show xis (Gt_13, 0, L) 8 6 = true from yis (by decide +kernel), cond_true, ini_4 (d + 0), xcV_some, stp_54, ygR (G := Gt_55) (q := 6) (by decide +kernel) (by decide +kernel), ygR (G := Gt_55) (q := 7) (by decide +kernel) (by decide +kernel), stp_55, ygR (G := Gt_56) (q := 6) (by decide +kernel) (by decide +kernel), ygR (G := Gt_56) (q := 37) (by decide +kernel) (by decide +kernel), stp_56, stp_57, ygR (G := Gt_58) (q := 6) (by decide +kernel) (by decide +kernel), show xis (Gt_58, 0, L) 4 47 = true from yis (by decide +kernel), cond_true, ini_9 (d + 1), xcV_some, stp_67, stp_68, ygR (G := Gt_69) (q := 6) (by decide +kernel) (by decide +kernel), ygR (G := Gt_69) (q := 47) (by decide +kernel) (by decide +kernel), show xis (Gt_69, 0, L) 6 71 = true from yis (by decide +kernel), cond_true, ini_10 (d + 1), xcV_some, stp_71, stp_72, show xis (Gt_73, 0, L) 0 72 = true from yis (by decide +kernel), cond_true, ini_11 (d + 1), xcV_some, stp_83, stp_84, show xis (Gt_85, 0, L) 3 78 = true from yis (by decide +kernel), cond_true, ini_12 (d + 1), xcV_some, stp_85, stp_86, show xis (Gt_87, 0, L) 5 79 = true from yis (by decide +kernel), cond_true, ini_13 (d + 1), xcV_some, stp_89, stp_90, show xis (Gt_91, 0, L) 2 89 = true from yis (by decide +kernel), cond_true, ini_14 (d + 1), xcV_some, stp_109, stp_110, show xis (Gt_111, 0, L) 7 119 = true from yis (by decide +kernel), cond_true, ini_15 (d + 1), xcV_some, stp_119, stp_120, stp_121, show xis (Gt_122, 0, L) 8 125 = true from yis (by decide +kernel), cond_true, ini_16 (d + 0), xcV_some, stp_163, stp_164, show xis (Gt_165, 0, L) 8 166 = true from yis (by decide +kernel), cond_true, ini_21 (d + 0), xcV_some, stp_206, stp_207, stp_208, stp_209, stp_210, stp_211, ypI (G := Gt_212) (by decide +kernel)]
theorem stp_212 {L : Nat} {I : Nat → Nat → Int32} {J : Nat → Nat → Int64} {c : Nat → xS → Option xOut} : xna ((Gt_213, 0, L), I, J) 13 940 c = c 210 ((Gt_214, 0, L), (xz I 210 1 0), (xz J 210 1 0)) := yNa rfl rfl (yNew (by decide +kernel) rfl)
theorem stp_213 {L : Nat} {I : Nat → Nat → Int32} {J : Nat → Nat → Int64} {c : xS → Option xOut} : xpR ((Gt_214, 0, L), I, J) 12 209 1 210 c = c ((Gt_215, 0, L), I, J) := ypR (by decide +kernel)
theorem stp_214 {L : Nat} {I : Nat → Nat → Int32} {J : Nat → Nat → Int64} {c : Nat → xS → Option xOut} : xna ((Gt_215, 0, L), I, J) 14 360 c = c 211 ((Gt_216, 0, L), (xz I 211 1 0), (xz J 211 1 0)) := yNa rfl rfl (yNew (by decide +kernel) rfl)
theorem stp_215 {L : Nat} {I : Nat → Nat → Int32} {J : Nat → Nat → Int64} {c : xS → Option xOut} : xpR ((Gt_216, 0, L), I, J) 12 209 6 211 c = c ((Gt_217, 0, L), I, J) := ypR (by decide +kernel)
theorem stp_216 {L : Nat} {I : Nat → Nat → Int32} {J : Nat → Nat → Int64} {c : Nat → xS → Option xOut} : xna ((Gt_217, 0, L), I, J) 14 72 c = c 212 ((Gt_218, 0, L), (xz I 212 1 0), (xz J 212 1 0)) := yNa rfl rfl (yNew (by decide +kernel) rfl)
theorem stp_217 {L : Nat} {I : Nat → Nat → Int32} {J : Nat → Nat → Int64} {c : xS → Option xOut} : xpR ((Gt_218, 0, L), I, J) 12 209 7 212 c = c ((Gt_219, 0, L), I, J) := ypR (by decide +kernel)
theorem stp_218 {L : Nat} {I : Nat → Nat → Int32} {J : Nat → Nat → Int64} {c : Nat → xS → Option xOut} : xna ((Gt_219, 0, L), I, J) 14 135 c = c 213 ((Gt_220, 0, L), (xz I 213 1 0), (xz J 213 1 0)) := yNa rfl rfl (yNew (by decide +kernel) rfl)
theorem stp_219 {L : Nat} {I : Nat → Nat → Int32} {J : Nat → Nat → Int64} {c : xS → Option xOut} : xpR ((Gt_220, 0, L), I, J) 12 209 8 213 c = c ((Gt_221, 0, L), I, J) := ypR (by decide +kernel)
theorem stp_220 {L : Nat} {I : Nat → Nat → Int32} {J : Nat → Nat → Int64} {c : Nat → xS → Option xOut} : xna ((Gt_221, 0, L), I, J) 14 164 c = c 214 ((Gt_222, 0, L), (xz I 214 1 0), (xz J 214 1 0)) := yNa rfl rfl (yNew (by decide +kernel) rfl)
theorem stp_221 {L : Nat} {I : Nat → Nat → Int32} {J : Nat → Nat → Int64} {c : xS → Option xOut} : xpR ((Gt_222, 0, L), I, J) 12 209 9 214 c = c ((Gt_223, 0, L), I, J) := ypR (by decide +kernel)
theorem stp_222 {L : Nat} {I : Nat → Nat → Int32} {J : Nat → Nat → Int64} {c : Nat → xS → Option xOut} : xna ((Gt_223, 0, L), I, J) 15 56 c = c 215 ((Gt_224, 0, L), (xz I 215 1 0), (xz J 215 1 0)) := yNa rfl rfl (yNew (by decide +kernel) rfl)
theorem stp_223 {L : Nat} {I : Nat → Nat → Int32} {J : Nat → Nat → Int64} {c : xS → Option xOut} : xpR ((Gt_224, 0, L), I, J) 12 209 10 215 c = c ((Gt_225, 0, L), I, J) := ypR (by decide +kernel)
theorem stp_224 {L : Nat} {I : Nat → Nat → Int32} {J : Nat → Nat → Int64} {c : Nat → xS → Option xOut} : xna ((Gt_225, 0, L), I, J) 15 21 c = c 216 ((Gt_226, 0, L), (xz I 216 1 0), (xz J 216 1 0)) := yNa rfl rfl (yNew (by decide +kernel) rfl)
theorem stp_225 {L : Nat} {I : Nat → Nat → Int32} {J : Nat → Nat → Int64} {c : xS → Option xOut} : xpR ((Gt_226, 0, L), I, J) 12 209 11 216 c = c ((Gt_227, 0, L), I, J) := ypR (by decide +kernel)
theorem stp_226 {L : Nat} {I : Nat → Nat → Int32} {J : Nat → Nat → Int64} {c : Nat → xS → Option xOut} : xna ((Gt_227, 0, L), I, J) 14 20 c = c 217 ((Gt_228, 0, L), (xz I 217 1 0), (xz J 217 1 0)) := yNa rfl rfl (yNew (by decide +kernel) rfl)
theorem stp_227 {L : Nat} {I : Nat → Nat → Int32} {J : Nat → Nat → Int64} {c : xS → Option xOut} : xpR ((Gt_228, 0, L), I, J) 12 209 21 217 c = c ((Gt_229, 0, L), I, J) := ypR (by decide +kernel)
theorem stp_228 {L : Nat} {I : Nat → Nat → Int32} {J : Nat → Nat → Int64} {c : Nat → xS → Option xOut} : xna ((Gt_229, 0, L), I, J) 14 20 c = c 218 ((Gt_230, 0, L), (xz I 218 1 0), (xz J 218 1 0)) := yNa rfl rfl (yNew (by decide +kernel) rfl)
theorem stp_229 {L : Nat} {I : Nat → Nat → Int32} {J : Nat → Nat → Int64} {c : xS → Option xOut} : xpR ((Gt_230, 0, L), I, J) 12 209 22 218 c = c ((Gt_231, 0, L), I, J) := ypR (by decide +kernel)
theorem stp_230 {L : Nat} {I : Nat → Nat → Int32} {J : Nat → Nat → Int64} {c : Nat → xS → Option xOut} : xna ((Gt_231, 0, L), I, J) 14 400 c = c 219 ((Gt_232, 0, L), (xz I 219 1 0), (xz J 219 1 0)) := yNa rfl rfl (yNew (by decide +kernel) rfl)
theorem stp_231 {L : Nat} {I : Nat → Nat → Int32} {J : Nat → Nat → Int64} {c : xS → Option xOut} : xpR ((Gt_232, 0, L), I, J) 12 209 23 219 c = c ((Gt_233, 0, L), I, J) := ypR (by decide +kernel)
theorem stp_232 {L : Nat} {I : Nat → Nat → Int32} {J : Nat → Nat → Int64} {c : Nat → xS → Option xOut} : xna ((Gt_233, 0, L), I, J) 14 20 c = c 220 ((Gt_234, 0, L), (xz I 220 1 0), (xz J 220 1 0)) := yNa rfl rfl (yNew (by decide +kernel) rfl)
theorem stp_233 {L : Nat} {I : Nat → Nat → Int32} {J : Nat → Nat → Int64} {c : xS → Option xOut} : xpR ((Gt_234, 0, L), I, J) 12 209 24 220 c = c ((Gt_235, 0, L), I, J) := ypR (by decide +kernel)
theorem stp_234 {L : Nat} {I : Nat → Nat → Int32} {J : Nat → Nat → Int64} {c : Nat → xS → Option xOut} : xna ((Gt_235, 0, L), I, J) 14 20 c = c 221 ((Gt_236, 0, L), (xz I 221 1 0), (xz J 221 1 0)) := yNa rfl rfl (yNew (by decide +kernel) rfl)
theorem stp_235 {L : Nat} {I : Nat → Nat → Int32} {J : Nat → Nat → Int64} {c : xS → Option xOut} : xpR ((Gt_236, 0, L), I, J) 12 209 25 221 c = c ((Gt_237, 0, L), I, J) := ypR (by decide +kernel)
theorem stp_236 {L : Nat} {I : Nat → Nat → Int32} {J : Nat → Nat → Int64} {c : Nat → xS → Option xOut} : xna ((Gt_237, 0, L), I, J) 14 1776 c = c 222 ((Gt_238, 0, L), (xz I 222 1 0), (xz J 222 1 0)) := yNa rfl rfl (yNew (by decide +kernel) rfl)
theorem stp_237 {L : Nat} {I : Nat → Nat → Int32} {J : Nat → Nat → Int64} {c : xS → Option xOut} : xpR ((Gt_238, 0, L), I, J) 12 209 35 222 c = c ((Gt_239, 0, L), I, J) := ypR (by decide +kernel)
theorem stp_238 {L : Nat} {I : Nat → Nat → Int32} {J : Nat → Nat → Int64} {c : Nat → xS → Option xOut} : xna ((Gt_239, 0, L), I, J) 14 222 c = c 223 ((Gt_240, 0, L), (xz I 223 1 0), (xz J 223 1 0)) := yNa rfl rfl (yNew (by decide +kernel) rfl)
theorem stp_239 {L : Nat} {I : Nat → Nat → Int32} {J : Nat → Nat → Int64} {c : xS → Option xOut} : xpR ((Gt_240, 0, L), I, J) 12 209 36 223 c = c ((Gt_241, 0, L), I, J) := ypR (by decide +kernel)
theorem stp_240 {L : Nat} {I : Nat → Nat → Int32} {J : Nat → Nat → Int64} {c : Nat → xS → Option xOut} : xna ((Gt_241, 0, L), I, J) 14 222 c = c 224 ((Gt_242, 0, L), (xz I 224 1 0), (xz J 224 1 0)) := yNa rfl rfl (yNew (by decide +kernel) rfl)
theorem stp_241 {L : Nat} {I : Nat → Nat → Int32} {J : Nat → Nat → Int64} {c : xS → Option xOut} : xpR ((Gt_242, 0, L), I, J) 12 209 37 224 c = c ((Gt_243, 0, L), I, J) := ypR (by decide +kernel)
theorem stp_242 {L : Nat} {I : Nat → Nat → Int32} {J : Nat → Nat → Int64} {c : Nat → xS → Option xOut} : xna ((Gt_243, 0, L), I, J) 13 30 c = c 225 ((Gt_244, 0, L), (xz I 225 1 0), (xz J 225 1 0)) := yNa rfl rfl (yNew (by decide +kernel) rfl)
theorem stp_243 {L : Nat} {I : Nat → Nat → Int32} {J : Nat → Nat → Int64} {c : xS → Option xOut} : xpR ((Gt_244, 0, L), I, J) 12 209 42 225 c = c ((Gt_245, 0, L), I, J) := ypR (by decide +kernel)
theorem stp_244 {L : Nat} {I : Nat → Nat → Int32} {J : Nat → Nat → Int64} {c : Nat → xS → Option xOut} : xna ((Gt_245, 0, L), I, J) 14 4 c = c 226 ((Gt_246, 0, L), (xz I 226 1 0), (xz J 226 1 0)) := yNa rfl rfl (yNew (by decide +kernel) rfl)
theorem stp_245 {L : Nat} {I : Nat → Nat → Int32} {J : Nat → Nat → Int64} {c : xS → Option xOut} : xpR ((Gt_246, 0, L), I, J) 12 209 46 226 c = c ((Gt_247, 0, L), I, J) := ypR (by decide +kernel)
theorem stp_246 {L : Nat} {I : Nat → Nat → Int32} {J : Nat → Nat → Int64} {c : Nat → xS → Option xOut} : xna ((Gt_247, 0, L), I, J) 14 45 c = c 227 ((Gt_248, 0, L), (xz I 227 1 0), (xz J 227 1 0)) := yNa rfl rfl (yNew (by decide +kernel) rfl)
theorem stp_247 {L : Nat} {I : Nat → Nat → Int32} {J : Nat → Nat → Int64} {c : xS → Option xOut} : xpR ((Gt_248, 0, L), I, J) 12 209 48 227 c = c ((Gt_249, 0, L), I, J) := ypR (by decide +kernel)
theorem stp_248 {L : Nat} {I : Nat → Nat → Int32} {J : Nat → Nat → Int64} {c : Nat → xS → Option xOut} : xna ((Gt_249, 0, L), I, J) 16 45 c = c 228 ((Gt_250, 0, L), (xz I 228 1 0), (xz J 228 1 0)) := yNa rfl rfl (yNew (by decide +kernel) rfl)
theorem stp_249 {L : Nat} {I : Nat → Nat → Int32} {J : Nat → Nat → Int64} {c : xS → Option xOut} : xpR ((Gt_250, 0, L), I, J) 12 209 54 228 c = c ((Gt_251, 0, L), I, J) := ypR (by decide +kernel)
theorem stp_250 {L : Nat} {I : Nat → Nat → Int32} {J : Nat → Nat → Int64} {c : Nat → xS → Option xOut} : xna ((Gt_251, 0, L), I, J) 14 720 c = c 229 ((Gt_252, 0, L), (xz I 229 1 0), (xz J 229 1 0)) := yNa rfl rfl (yNew (by decide +kernel) rfl)
theorem stp_251 {L : Nat} {I : Nat → Nat → Int32} {J : Nat → Nat → Int64} {c : xS → Option xOut} : xpR ((Gt_252, 0, L), I, J) 12 209 55 229 c = c ((Gt_253, 0, L), I, J) := ypR (by decide +kernel)
theorem stp_252 {L : Nat} {I : Nat → Nat → Int32} {J : Nat → Nat → Int64} {c : Nat → xS → Option xOut} : xna ((Gt_253, 0, L), I, J) 15 56 c = c 230 ((Gt_254, 0, L), (xz I 230 1 0), (xz J 230 1 0)) := yNa rfl rfl (yNew (by decide +kernel) rfl)
theorem stp_253 {L : Nat} {I : Nat → Nat → Int32} {J : Nat → Nat → Int64} {c : xS → Option xOut} : xpR ((Gt_254, 0, L), I, J) 12 209 56 230 c = c ((Gt_255, 0, L), I, J) := ypR (by decide +kernel)
theorem stp_254 {L : Nat} {I : Nat → Nat → Int32} {J : Nat → Nat → Int64} {c : Nat → xS → Option xOut} : xna ((Gt_255, 0, L), I, J) 16 2 c = c 231 ((Gt_256, 0, L), (xz I 231 1 0), (xz J 231 1 0)) := yNa rfl rfl (yNew (by decide +kernel) rfl)
theorem stp_255 {L : Nat} {I : Nat → Nat → Int32} {J : Nat → Nat → Int64} {c : xS → Option xOut} : xpR ((Gt_256, 0, L), I, J) 12 209 57 231 c = c ((Gt_257, 0, L), I, J) := ypR (by decide +kernel)
theorem ini_26 (d : Nat) {L : Nat} {I : Nat → Nat → Int32} {J : Nat → Nat → Int64} : xcall xprog (d + 1) 163 [.ref 209] ((Gt_213, 0, L), I, J) = some (none, ((Gt_257, 0, L), (xu (xz (xz (xz (xz (xz (xz (xz (xu (xu (xz (xz (xz (xz (xz (xz (xz (xz (xz (xz (xz (xz (xz (xz (xz I 210 1 0) 211 1 0) 212 1 0) 213 1 0) 214 1 0) 215 1 0) 216 1 0) 217 1 0) 218 1 0) 219 1 0) 220 1 0) 221 1 0) 222 1 0) 223 1 0) 224 1 0) 209 40 (-1)) 209 41 (-1)) 225 1 0) 226 1 0) 227 1 0) 228 1 0) 229 1 0) 230 1 0) 231 1 0) 211 0 1), (xu (xu (xu (xu (xu (xu (xu (xu (xu (xu (xu (xu (xu (xu (xu (xu (xu (xu (xu (xu (xu (xz (xz (xz (xz (xz (xz (xz (xz (xz (xz (xz (xz (xz (xz (xz (xz (xz (xz (xz (xz (xz (xz J 210 1 0) 211 1 0) 212 1 0) 213 1 0) 214 1 0) 215 1 0) 216 1 0) 217 1 0) 218 1 0) 219 1 0) 220 1 0) 221 1 0) 222 1 0) 223 1 0) 224 1 0) 225 1 0) 226 1 0) 227 1 0) 228 1 0) 229 1 0) 230 1 0) 231 1 0) 216 0 (Int64.ofNat 435678045032)) 216 1 (Int64.ofNat 508676040050)) 216 2 (Int64.ofNat 422726034283)) 216 3 (Int64.ofNat 28526)) 216 4 (Int64.ofNat 109299962373989)) 216 5 (Int64.ofNat 1987015781)) 216 6 (Int64.ofNat 1819242347)) 216 7 (Int64.ofNat 1735552887)) 216 8 (Int64.ofNat 28530)) 216 9 (Int64.ofNat 6385252)) 216 10 (Int64.ofNat 7237492)) 216 11 (Int64.ofNat 1818583398)) 216 12 (Int64.ofNat 482905517684)) 216 13 (Int64.ofNat 1786082164)) 216 14 (Int64.ofNat 439855505772)) 216 15 (Int64.ofNat 109300197582190)) 216 16 (Int64.ofNat 504363246962)) 216 17 (Int64.ofNat 114784769370228)) 216 18 (Int64.ofNat 465558725996)) 216 19 (Int64.ofNat 1751475828)) 216 20 (Int64.ofNat 121450625394034)))) := by
  show xlim (xcall xprog (d + 0)) mX12_init 0 [.ref 209] [] ((Gt_213, 0, L), I, J) = _
  rw [qX12_init_0, stp_212, stp_213, stp_214, stp_215, stp_216, stp_217, stp_218, stp_219, stp_220, stp_221, stp_222, stp_223, stp_224, stp_225, stp_226, stp_227, stp_228, stp_229, stp_230, stp_231, stp_232, stp_233, stp_234, stp_235, stp_236, stp_237, stp_238, stp_239, stp_240, stp_241, ypI (G := Gt_243) (by decide +kernel), ypI (G := Gt_243) (by decide +kernel), stp_242, stp_243, stp_244, stp_245, stp_246, stp_247, stp_248, stp_249, stp_250, stp_251, stp_252, stp_253, stp_254, stp_255, ygR (G := Gt_257) (q := 216) (by decide +kernel) (by decide +kernel), ysJ (G := Gt_257) (n := 0) (by decide +kernel) rfl, ygR (G := Gt_257) (q := 216) (by decide +kernel) (by decide +kernel), ysJ (G := Gt_257) (n := 1) (by decide +kernel) rfl, ygR (G := Gt_257) (q := 216) (by decide +kernel) (by decide +kernel), ysJ (G := Gt_257) (n := 2) (by decide +kernel) rfl, ygR (G := Gt_257) (q := 216) (by decide +kernel) (by decide +kernel), ysJ (G := Gt_257) (n := 3) (by decide +kernel) rfl, ygR (G := Gt_257) (q := 216) (by decide +kernel) (by decide +kernel), ysJ (G := Gt_257) (n := 4) (by decide +kernel) rfl, ygR (G := Gt_257) (q := 216) (by decide +kernel) (by decide +kernel), ysJ (G := Gt_257) (n := 5) (by decide +kernel) rfl, ygR (G := Gt_257) (q := 216) (by decide +kernel) (by decide +kernel), ysJ (G := Gt_257) (n := 6) (by decide +kernel) rfl, ygR (G := Gt_257) (q := 216) (by decide +kernel) (by decide +kernel), ysJ (G := Gt_257) (n := 7) (by decide +kernel) rfl, ygR (G := Gt_257) (q := 216) (by decide +kernel) (by decide +kernel), ysJ (G := Gt_257) (n := 8) (by decide +kernel) rfl, ygR (G := Gt_257) (q := 216) (by decide +kernel) (by decide +kernel), ysJ (G := Gt_257) (n := 9) (by decide +kernel) rfl, ygR (G := Gt_257) (q := 216) (by decide +kernel) (by decide +kernel), ysJ (G := Gt_257) (n := 10) (by decide +kernel) rfl, ygR (G := Gt_257) (q := 216) (by decide +kernel) (by decide +kernel), ysJ (G := Gt_257) (n := 11) (by decide +kernel) rfl, ygR (G := Gt_257) (q := 216) (by decide +kernel) (by decide +kernel), ysJ (G := Gt_257) (n := 12) (by decide +kernel) rfl, ygR (G := Gt_257) (q := 216) (by decide +kernel) (by decide +kernel), ysJ (G := Gt_257) (n := 13) (by decide +kernel) rfl, ygR (G := Gt_257) (q := 216) (by decide +kernel) (by decide +kernel), ysJ (G := Gt_257) (n := 14) (by decide +kernel) rfl, ygR (G := Gt_257) (q := 216) (by decide +kernel) (by decide +kernel), ysJ (G := Gt_257) (n := 15) (by decide +kernel) rfl, ygR (G := Gt_257) (q := 216) (by decide +kernel) (by decide +kernel), ysJ (G := Gt_257) (n := 16) (by decide +kernel) rfl, ygR (G := Gt_257) (q := 216) (by decide +kernel) (by decide +kernel), ysJ (G := Gt_257) (n := 17) (by decide +kernel) rfl, ygR (G := Gt_257) (q := 216) (by decide +kernel) (by decide +kernel), ysJ (G := Gt_257) (n := 18) (by decide +kernel) rfl, ygR (G := Gt_257) (q := 216) (by decide +kernel) (by decide +kernel), ysJ (G := Gt_257) (n := 19) (by decide +kernel) rfl, ygR (G := Gt_257) (q := 216) (by decide +kernel) (by decide +kernel), ysJ (G := Gt_257) (n := 20) (by decide +kernel) rfl, ygR (G := Gt_257) (q := 211) (by decide +kernel) (by decide +kernel), ysI (G := Gt_257) (n := 0) (by decide +kernel) rfl]
