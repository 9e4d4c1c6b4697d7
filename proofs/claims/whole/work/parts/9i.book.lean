/-! Lines of a book are read. -/
def bR (M' M : TI) (N' N : TJ) : Prop := (∀ o, o ≠ 209 → o ≠ 214 → M' o = M o) ∧ (∀ o, o ≠ 209 → N' o = N o) ∧ ∀ q, ¬ (q = 4 ∨ (12 ≤ q ∧ q ≤ 17) ∨ q = 19 ∨ q = 45) → M' 209 q = M 209 q
def bC (K I : TI) (J' J : TJ) : Prop := (∀ o, o ≠ 5 → o ≠ 72 → ¬ (74 ≤ o ∧ o < 78) → K o = I o) ∧ (∀ q, q ≠ 1 → K 72 q = I 72 q) ∧ ∀ o, o ≠ 5 → J' o = J o
/-- names by which a book's lines speak -/
def Nm (V B : Nat) (I : TI) (J : TJ) (M : TI) (N : TJ) : Prop := V ≤ 8 ∧ B ≤ 20 ∧ I 7 1 = n32 V ∧ I 7 2 = n32 B ∧ M 211 1 = n32 V ∧ M 211 2 = n32 B ∧ (∀ v, v < V → J 8 v = N 215 v) ∧ (∀ b, b < B → J 10 b = N 215 (8 + b)) ∧ ∀ k, k < 21 → N 216 k = xwd k
def LnP (V B kk : Nat) (v b t x y z : Int32) : Prop := (∃ i, i < B ∧ b = n32 i ∧ y = n32 i) ∧ (kk < 2 → ∃ i, i < V ∧ v = n32 i ∧ x = n32 i) ∧ (kk = 0 → ∃ i, i < B ∧ t = n32 i ∧ z = n32 i)
def Ln (V B i : Nat) (I M : TI) : Prop := ∃ kk, kk < 3 ∧ I 74 i = n32 (69 + kk) ∧ M 214 (4 * i) = n32 kk ∧ LnP V B kk (I 75 i) (I 76 i) (I 77 i) (M 214 (4 * i + 1)) (M 214 (4 * i + 2)) (M 214 (4 * i + 3))
section BOK
variable {d d' e L : Nat} {S S' : TS} {D D' : Nat → Int64} {T : Nat → Int32} {I K K2 M M' M2 : TI} {J J' J2 N N' N2 : TJ} {p q n k i m a j b v r most g lo hi fr V B c kk : Nat} {s t : Bool} {x y v4 v5 v6 : Int32} {w nm : Int64} {cf : xCF}
theorem bC_r : bC I I J J := ⟨fun _ _ _ _ => rfl, fun _ _ => rfl, fun _ _ => rfl⟩
theorem bR_r : bR M M N N := ⟨fun _ _ _ => rfl, fun _ _ => rfl, fun _ _ => rfl⟩
theorem bC_t (h : bC K I J' J) (h' : bC K2 K J2 J') : bC K2 I J2 J := ⟨fun o z y w => (h'.1 o z y w).trans (h.1 o z y w), fun q z => (h'.2.1 q z).trans (h.2.1 q z), fun o z => (h'.2.2 o z).trans (h.2.2 o z)⟩
theorem bR_t (h : bR M' M N' N) (h' : bR M2 M' N2 N') : bR M2 M N2 N := ⟨fun o z y => (h'.1 o z y).trans (h.1 o z y), fun o z => (h'.2.1 o z).trans (h.2.1 o z), fun q z => (h'.2.2 q z).trans (h.2.2 q z)⟩
theorem fC_b (h : fC K I J' J) : bC K I J' J := ⟨fun o z _ _ => h.1 o z, fun q _ => by rw [h.1 72 (by omega)], h.2⟩
theorem fR_b (h : fR M' M N' N) : bR M' M N' N := ⟨fun o z _ => h.1 o z, h.2.1, fun q z => h.2.2 q (by omega)⟩
theorem Nm_f (h : Nm V B I J M N) (hc : bC K I J' J) (hr : bR M' M N' N) : Nm V B K J' M' N' := by
  obtain ⟨h1, h2, h3, h4, h5, h6, h7, h8, h9⟩ := h
  unfold Nm
  rw [hc.1 7 (by omega) (by omega) (by omega), hr.1 211 (by omega) (by omega), hc.2.2 8 (by omega), hc.2.2 10 (by omega), hr.2.1 215 (by omega), hr.2.1 216 (by omega)]
  exact ⟨h1, h2, h3, h4, h5, h6, h7, h8, h9⟩
theorem n4 : (4 : Int32) * n32 c = n32 (4 * c) := n32_mul (a := 4)
/-- a block in a line -/
theorem lk_bb (h : Par T n most I J M N) (hN : Nm V B I J M N) : O2 e L (xcall xprog (d + 3) 98 [.ref 5, .int (fw (J 10) (J 5 1) B)] (xst e L I J)) (xcall xprog (d' + 3) 175 [.ref 209, .int 8, .int (M 211 2)] (xst e L M N)) (.int (-1)) (fun K J' M' N' => fC K I J' J ∧ fR M' M N' N) (fun cv K J' M' N' => ∃ k, k < B ∧ cv = .int (n32 k) ∧ M' 209 19 = n32 k ∧ Par T n most K J' M' N' ∧ fC K I J' J ∧ fR M' M N' N) := by
  obtain ⟨h1, h2, h3, h4, h5, h6, h7, h8, h9⟩ := hN
  rw [h6]
  exact lk_named (fr := 8) (by omega) (fw_c (fun k hk => h8 k hk)) rfl rfl h9 h
theorem lk_bv (h : Par T n most I J M N) (hN : Nm V B I J M N) : O2 e L (xcall xprog (d + 3) 98 [.ref 5, .int (fw (J 8) (J 5 1) V)] (xst e L I J)) (xcall xprog (d' + 3) 175 [.ref 209, .int 0, .int (M 211 1)] (xst e L M N)) (.int (-1)) (fun K J' M' N' => fC K I J' J ∧ fR M' M N' N) (fun cv K J' M' N' => ∃ k, k < V ∧ cv = .int (n32 k) ∧ M' 209 19 = n32 k ∧ Par T n most K J' M' N' ∧ fC K I J' J ∧ fR M' M N' N) := by
  obtain ⟨h1, h2, h3, h4, h5, h6, h7, h8, h9⟩ := hN
  rw [h5]
  exact lk_named (fr := 0) (by omega) (fw_c (fun k hk => by rw [h7 k hk, Nat.zero_add])) rfl rfl h9 h
theorem lk_bB (h : Par T n most I J M N) (hN : Nm V B I J M N) (hk : kk < 3) (hM : M 214 (4 * c) = n32 kk) (hc : c < 40) : (∃ K J' M' N' v5 v6, xlim (xcall xprog (d + 3)) mX0_readLine 3 [.ref 72, .ref 5, .ref 7, .int (n32 (69 + kk)), .int v4, xD, xD] [] (xst e L I J) = xlim (xcall xprog (d + 3)) mX0_readLine 5 [.ref 72, .ref 5, xD, .int (n32 (69 + kk)), .int v4, .int v5, .int v6] [] (xst e L K J') ∧ xlim (xcall xprog (d' + 3)) mX12_bookLine 8 [.ref 209, .int (n32 (4 * c))] [] (xst e L M N) = some (some (.int 1), xst e L M' N') ∧ Par T n most K J' M' N' ∧ fC K I J' J ∧ bR M' M N' N ∧ (∀ i, i ≠ 4 * c + 2 → i ≠ 4 * c + 3 → M' 214 i = M 214 i) ∧ M' 209 45 = M 209 45 ∧ (∃ b, b < B ∧ v5 = n32 b ∧ M' 214 (4 * c + 2) = n32 b) ∧ (kk = 0 → ∃ t, t < B ∧ v6 = n32 t ∧ M' 214 (4 * c + 3) = n32 t)) ∨ ∃ K J' M' N', xlim (xcall xprog (d + 3)) mX0_readLine 3 [.ref 72, .ref 5, .ref 7, .int (n32 (69 + kk)), .int v4, xD, xD] [] (xst e L I J) = some (some (.int 0), xst e L K J') ∧ xlim (xcall xprog (d' + 3)) mX12_bookLine 8 [.ref 209, .int (n32 (4 * c))] [] (xst e L M N) = some (some (.int 0), xst e L M' N') ∧ Flt K M' ∧ fC K I J' J ∧ bR M' M N' N := by
  have e2 : n32 (4 * c) + 2 = n32 (4 * c + 2) := n32_add (b := 2)
  have e3 : n32 (4 * c) + 3 = n32 (4 * c + 3) := n32_add (b := 3)
  rw [bX0_readLine_3, c_blockNamed_7 hN.2.2.2.1 hN.2.1, xcI_some, ekX0_readLine_3_4, bX12_bookLine_8]
  rcases lk_bb (d := d) (d' := d') (e := e) (L := L) h hN with ⟨cv, K, J', M', N', b1, b2, b, b3, rfl, b5, b6, b7, b8⟩ | ⟨K, J', M', N', b1, b2, b3, b4, b5⟩
  rotate_left
  · refine Or.inr ⟨K, J', M', N', ?_, ?_, b3, b4, fR_b b5⟩
    · rw [b1, xcI_some, ekX0_readLine_3_5, if_pos im1]
    · rw [b2, xcI_some, ekX12_bookLine_8_6, if_pos i00]
  have hB20 := hN.2.1
  have m14 : M' 214 = M 214 := b8.1 214 (by omega)
  have hme : (xu M' 214 (4 * c + 2) (n32 b)) 214 (4 * c) = n32 kk := by rw [xu_kne (by omega), m14, hM]
  rw [b1, xcI_some, ekX0_readLine_3_5, if_neg (n32_ne1 (by omega)), bX0_readLine_4, b2, xcI_some, ekX12_bookLine_8_6, if_neg i10, bX12_bookLine_9, e2, xin_n32 (by omega) (show 4 * c + 2 < 164 by omega), xin_n32 (by omega) (show 4 * c < 164 by omega), cond_true, cond_true, n32_nat (by omega), n32_nat (by omega), b5, hme]
  generalize hMb : xu M' 214 (4 * c + 2) (n32 b) = Mb
  have mb : ∀ i, Mb 214 i = if i = 4 * c + 2 then n32 b else M 214 i := fun i => by rw [← hMb, xu_row, m14]; rfl
  have mo : ∀ o, o ≠ 214 → Mb o = M' o := fun o z => by rw [← hMb, xu_rne z]
  have hP : Par T n most K J' Mb N' := Par_c (fun _ _ => rfl) rfl (fun q z => by rw [mo 209 (by omega)]) (mo 210 (by omega)) rfl b6
  have fb : bR Mb M N' N := bR_t (fR_b b8) ⟨fun o z1 z2 => mo o z2, fun _ _ => rfl, fun q z => by rw [mo 209 (by omega)]⟩
  by_cases k0 : kk = 0
  rotate_left
  · have q1 : ¬ n32 kk ≤ 0 := fun z => k0 ((n32_ge0 (by omega)).mp z)
    have q2 : ¬ n32 (69 + kk) = 69 := lit_ne (b := 69) (by omega) (by omega) (by omega)
    rw [if_neg q1, if_neg q2]
    exact Or.inl ⟨K, J', Mb, N', _, _, rfl, rfl, hP, b7, fb, fun i z1 z2 => by rw [mb, if_neg z1], by rw [mo 209 (by omega), b8.2.2 45 (by omega)], ⟨b, b3, rfl, by rw [mb, if_pos rfl]⟩, fun z => absurd z k0⟩
  subst k0
  have q1 : n32 0 ≤ 0 := by decide
  have q2 : n32 (69 + 0) = 69 := rfl
  have hN' := Nm_f hN (fC_b b7) fb
  rw [if_pos q1, if_pos q2, c_blockNamed_7 hN'.2.2.2.1 hN'.2.1, xcI_some, ekX0_readLine_4_9, bX12_bookLine_10]
  rcases lk_bb (d := d) (d' := d') (e := e) (L := L) hP hN' with ⟨cv, K2, J2, M2, N2, c1, c2, t, c3, rfl, c5, c6, c7, c8⟩ | ⟨K2, J2, M2, N2, c1, c2, c3, c4, c5⟩
  rotate_left
  · refine Or.inr ⟨K2, J2, M2, N2, ?_, ?_, c3, fC_t b7 c4, bR_t fb (fR_b c5)⟩
    · rw [c1, xcI_some, ekX0_readLine_4_10, if_pos im1]
    · rw [c2, xcI_some, ekX12_bookLine_10_6, if_pos i00]
  have m24 : M2 214 = Mb 214 := c8.1 214 (by omega)
  have mc : ∀ i, (xu M2 214 (4 * c + 3) (n32 t)) 214 i = if i = 4 * c + 3 then n32 t else Mb 214 i := fun i => by rw [xu_row, m24]; rfl
  rw [c1, xcI_some, ekX0_readLine_4_10, if_neg (n32_ne1 (by omega)), c2, xcI_some, ekX12_bookLine_10_6, if_neg i10, bX12_bookLine_11, e3, xin_n32 (by omega) (show 4 * c + 3 < 164 by omega), cond_true, n32_nat (by omega), c5]
  refine Or.inl ⟨K2, J2, _, N2, _, _, rfl, rfl, ?_, fC_t b7 c7, ?_, fun i z1 z2 => by rw [mc, if_neg z2, mb, if_neg z1], ?_, ⟨b, b3, rfl, by rw [mc, if_neg (by omega), mb, if_pos rfl]⟩, fun _ => ⟨t, c3, rfl, by rw [mc, if_pos rfl]⟩⟩
  · exact Par_c (fun _ _ => rfl) rfl (fun q z => by rw [xu_rne (by omega)]) (xu_rne (by omega)) rfl c6
  · exact bR_t (bR_t fb (fR_b c8)) ⟨fun o z1 z2 => xu_rne z2, fun _ _ => rfl, fun q z => by rw [xu_rne (by omega)]⟩
  · rw [xu_rne (by omega), c8.2.2 45 (by omega), mo 209 (by omega), b8.2.2 45 (by omega)]
/-- the first word of a line, as both sides see it -/
theorem lk_b0 (h : Par T n most I J M N) (hm : M 209 45 = n32 c) (hI : I 72 1 = n32 c) (hc : c ≤ 40) : (∃ kk, kk < 3 ∧ c < 40 ∧ I 5 0 = n32 (69 + kk) ∧ xlim (xcall xprog (d + 3)) mX0_readLine 0 [.ref 72, .ref 5, .ref 7, xD, xD, xD, xD] [] (xst e L I J) = xlim (xcall xprog (d + 3)) mX0_readLine 2 [.ref 72, .ref 5, .ref 7, .int (n32 (69 + kk)), xD, xD, xD] [] (xst e L I J) ∧ xcall xprog (d' + 4) 251 [.ref 209] (xst e L M N) = xlim (xcall xprog (d' + 3)) mX12_bookLine 6 [.ref 209, .int (n32 (4 * c))] [] (xst e L (xu M 214 (4 * c) (n32 kk)) N)) ∨ ∃ K J' M' N', xlim (xcall xprog (d + 3)) mX0_readLine 0 [.ref 72, .ref 5, .ref 7, xD, xD, xD, xD] [] (xst e L I J) = some (some (.int 0), xst e L K J') ∧ xcall xprog (d' + 4) 251 [.ref 209] (xst e L M N) = some (some (.int 0), xst e L M' N') ∧ Flt K M' ∧ fC K I J' J ∧ bR M' M N' N := by
  have four : ∀ (z : Int32), xlim (xcall xprog (d' + 3)) mX12_bookLine 4 [.ref 209, .int (n32 (4 * c))] [.int z, .int (n32 (4 * c)), .ref 214] (xst e L M N) = if z < 0 then xcI (xcall xprog (d' + 3) 168 [.ref 209, .int 1] (xst e L (xu M 214 (4 * c) z) N)) (kX12_bookLine_4_8 (xcall xprog (d' + 3))) else xlim (xcall xprog (d' + 3)) mX12_bookLine 5 [.ref 209, .int (n32 (4 * c))] [] (xst e L (xu M 214 (4 * c) z) N) := fun z => by
    rw [bX12_bookLine_4, xin_n32 (by omega) (show 4 * c < 164 by omega), cond_true, cond_true, n32_nat (by omega), xu_ee]
  have hPz : ∀ z, Par T n most I J (xu M 214 (4 * c) z) N := fun z => Par_c (fun _ _ => rfl) rfl (fun q z => by rw [xu_rne (by omega)]) (xu_rne (by omega)) rfl h
  have fz : ∀ z, bR (xu M 214 (4 * c) z) M N N := fun z => ⟨fun o z1 z2 => xu_rne z2, fun _ _ => rfl, fun q z => by rw [xu_rne (by omega)]⟩
  have hit : ∀ kk, kk < 3 → I 5 0 = n32 (69 + kk) → xlim (xcall xprog (d + 3)) mX0_readLine 0 [.ref 72, .ref 5, .ref 7, xD, xD, xD, xD] [] (xst e L I J) = xlim (xcall xprog (d + 3)) mX0_readLine 1 [.ref 72, .ref 5, .ref 7, .int (n32 (69 + kk)), xD, xD, xD] [] (xst e L I J) → xcall xprog (d' + 4) 251 [.ref 209] (xst e L M N) = xlim (xcall xprog (d' + 3)) mX12_bookLine 4 [.ref 209, .int (n32 (4 * c))] [.int (n32 kk), .int (n32 (4 * c)), .ref 214] (xst e L M N) → (∃ kk, kk < 3 ∧ c < 40 ∧ I 5 0 = n32 (69 + kk) ∧ xlim (xcall xprog (d + 3)) mX0_readLine 0 [.ref 72, .ref 5, .ref 7, xD, xD, xD, xD] [] (xst e L I J) = xlim (xcall xprog (d + 3)) mX0_readLine 2 [.ref 72, .ref 5, .ref 7, .int (n32 (69 + kk)), xD, xD, xD] [] (xst e L I J) ∧ xcall xprog (d' + 4) 251 [.ref 209] (xst e L M N) = xlim (xcall xprog (d' + 3)) mX12_bookLine 6 [.ref 209, .int (n32 (4 * c))] [] (xst e L (xu M 214 (4 * c) (n32 kk)) N)) ∨ ∃ K J' M' N', xlim (xcall xprog (d + 3)) mX0_readLine 0 [.ref 72, .ref 5, .ref 7, xD, xD, xD, xD] [] (xst e L I J) = some (some (.int 0), xst e L K J') ∧ xcall xprog (d' + 4) 251 [.ref 209] (xst e L M N) = some (some (.int 0), xst e L M' N') ∧ Flt K M' ∧ fC K I J' J ∧ bR M' M N' N := fun kk hk h5 hc1 hr1 => by
    have h45 : (xu M 214 (4 * c) (n32 kk)) 209 45 = n32 c := by rw [xu_rne (by decide), hm]
    by_cases z : c < 40
    · refine Or.inl ⟨kk, hk, z, h5, ?_, ?_⟩
      · rw [hc1, bX0_readLine_1, hI, if_pos ((q40l (by omega)).mpr z)]
      · rw [hr1, four, if_neg (n32_neg (by omega)), bX12_bookLine_5, h45, if_neg (show ¬ n32 c = 40 from lit_ne (b := 40) (by omega) (by omega) (by omega))]
    · obtain ⟨K, M', r1, r2, r3, r4, r5⟩ := lk_ref (d := d + 2) (d' := d' + 2) (e := e) (L := L) 4 (hPz (n32 kk))
      refine Or.inr ⟨K, J, M', N, ?_, ?_, r3, r4, bR_t (fz _) (fR_b r5)⟩
      · rw [hc1, bX0_readLine_1, hI, if_neg (fun w => z ((q40l (by omega)).mp w)), r1, xcI_some, ekX0_readLine_1_6, xrZ0]
      · rw [hr1, four, if_neg (n32_neg (by omega)), bX12_bookLine_5, h45, if_pos (show n32 c = 40 by rw [show c = 40 by omega]; rfl), r2, xcI_some, ekX12_bookLine_5_6, xrZ0]
  have rb : xcall xprog (d' + 4) 251 [.ref 209] (xst e L M N) = (if (if I 5 0 = n32 (64 + 5) then (1 : Int32) else 0) = 0 then xlim (xcall xprog (d' + 3)) mX12_bookLine 1 [.ref 209, .int (n32 (4 * c))] [.int (n32 (4 * c)), .ref 214] (xst e L M N) else xlim (xcall xprog (d' + 3)) mX12_bookLine 4 [.ref 209, .int (n32 (4 * c))] [.int 0, .int (n32 (4 * c)), .ref 214] (xst e L M N)) := by
    rw [aX12_bookLine, bX12_bookLine_0, hm, n4, r_isWord (k := 5) (by omega) (show Int64.ofNat 1987015781 = xwd 5 by decide) h.2.1, xcI_some, ekX12_bookLine_0_10]
  by_cases z5 : I 5 0 = n32 (69 + 0)
  · refine hit 0 (by omega) z5 ?_ ?_
    · rw [bX0_readLine_0, if_pos (show I 5 0 = 69 from z5), z5]
    · rw [rb, if_pos (show I 5 0 = n32 (64 + 5) from z5), if_neg i10]; rfl
  have z5' : ¬ I 5 0 = 69 := z5
  rw [if_neg (show ¬ I 5 0 = n32 (64 + 5) from z5), if_pos i00, bX12_bookLine_1, r_isWord (k := 6) (by omega) (show Int64.ofNat 1819242347 = xwd 6 by decide) h.2.1, xcI_some, ekX12_bookLine_1_2] at rb
  by_cases z6 : I 5 0 = n32 (69 + 1)
  · refine hit 1 (by omega) z6 ?_ ?_
    · rw [bX0_readLine_0, if_neg z5', if_pos (show I 5 0 = 70 from z6), z6]
    · rw [rb, if_pos (show I 5 0 = n32 (64 + 6) from z6), if_neg i10]; rfl
  have z6' : ¬ I 5 0 = 70 := z6
  rw [if_neg (show ¬ I 5 0 = n32 (64 + 6) from z6), if_pos i00, bX12_bookLine_2, r_isWord (k := 7) (by omega) (show Int64.ofNat 1735552887 = xwd 7 by decide) h.2.1, xcI_some, ekX12_bookLine_2_2] at rb
  by_cases z7 : I 5 0 = n32 (69 + 2)
  · refine hit 2 (by omega) z7 ?_ ?_
    · rw [bX0_readLine_0, if_neg z5', if_neg z6', if_pos (show I 5 0 = 71 from z7), z7]
    · rw [rb, if_pos (show I 5 0 = n32 (64 + 7) from z7), if_neg i10]; rfl
  have z7' : ¬ I 5 0 = 71 := z7
  rw [if_neg (show ¬ I 5 0 = n32 (64 + 7) from z7), if_pos i00, bX12_bookLine_3, four, if_pos im10] at rb
  obtain ⟨K, M', r1, r2, r3, r4, r5⟩ := lk_ref (d := d + 2) (d' := d' + 2) (e := e) (L := L) 1 (hPz (-1))
  refine Or.inr ⟨K, J, M', N, ?_, ?_, r3, r4, bR_t (fz _) (fR_b r5)⟩
  · rw [bX0_readLine_0, if_neg z5', if_neg z6', if_neg z7', r1, xcI_some, ekX0_readLine_0_14, xrZ0]
  · rw [rb, r2, xcI_some, ekX12_bookLine_4_8, xrZ0]
/-- a line, but for its end -/
theorem lk_bin (h : Par T n most I J M N) (hN : Nm V B I J M N) (hm : M 209 45 = n32 c) (hI : I 72 1 = n32 c) (hc : c ≤ 40) : (∃ K J' M' N' kk v4 v5 v6, kk < 3 ∧ c < 40 ∧ xlim (xcall xprog (d + 3)) mX0_readLine 0 [.ref 72, .ref 5, .ref 7, xD, xD, xD, xD] [] (xst e L I J) = xlim (xcall xprog (d + 3)) mX0_readLine 5 [.ref 72, .ref 5, xD, .int (n32 (69 + kk)), .int v4, .int v5, .int v6] [] (xst e L K J') ∧ xcall xprog (d' + 4) 251 [.ref 209] (xst e L M N) = some (some (.int 1), xst e L M' N') ∧ Par T n most K J' M' N' ∧ fC K I J' J ∧ bR M' M N' N ∧ (∀ i, i < 4 * c → M' 214 i = M 214 i) ∧ M' 209 45 = n32 c ∧ M' 214 (4 * c) = n32 kk ∧ LnP V B kk v4 v5 v6 (M' 214 (4 * c + 1)) (M' 214 (4 * c + 2)) (M' 214 (4 * c + 3))) ∨ ∃ K J' M' N', xlim (xcall xprog (d + 3)) mX0_readLine 0 [.ref 72, .ref 5, .ref 7, xD, xD, xD, xD] [] (xst e L I J) = some (some (.int 0), xst e L K J') ∧ xcall xprog (d' + 4) 251 [.ref 209] (xst e L M N) = some (some (.int 0), xst e L M' N') ∧ Flt K M' ∧ fC K I J' J ∧ bR M' M N' N := by
  rcases lk_b0 (d := d) (d' := d') (e := e) (L := L) h hm hI hc with ⟨kk, hk, c40, z5, q1, q2⟩ | q
  rotate_left
  · exact Or.inr q
  rw [q1, q2]
  generalize hMa : xu M 214 (4 * c) (n32 kk) = Ma
  have ma : ∀ i, Ma 214 i = if i = 4 * c then n32 kk else M 214 i := fun i => by rw [← hMa, xu_row]; rfl
  have mo : ∀ o, o ≠ 214 → Ma o = M o := fun o z => by rw [← hMa, xu_rne z]
  have hP : Par T n most I J Ma N := Par_c (fun _ _ => rfl) rfl (fun q z => by rw [mo 209 (by omega)]) (mo 210 (by omega)) rfl h
  have fa : bR Ma M N N := ⟨fun o z1 z2 => mo o z2, fun _ _ => rfl, fun q z => by rw [mo 209 (by omega)]⟩
  obtain ⟨K1, J1, M1, N1, a1, a2, a3, a4, a5, _⟩ := lk_adv (d := d + 1) (d' := d' + 1) (e := e) (L := L) hP
  have m1 : M1 214 = Ma 214 := a5.1 214 (by omega)
  have f1 := bR_t fa (fR_b a5)
  have hN1 := Nm_f hN (fC_b a4) f1
  have m1c : M1 214 (4 * c) = n32 kk := by rw [m1, ma, if_pos rfl]
  have m145 : M1 209 45 = n32 c := by rw [a5.2.2 45 (by omega), mo 209 (by omega), hm]
  rw [bX0_readLine_2, a1, xcV_some, ekX0_readLine_2_1, bX12_bookLine_6, a2, xcV_some, ekX12_bookLine_6_1, xin_n32 (by omega) (show 4 * c < 164 by omega), cond_true, n32_nat (by omega), m1c]
  have h8 := hN.1
  have e1 : n32 (4 * c) + 1 = n32 (4 * c + 1) := n32_succ
  by_cases k2 : kk = 2
  · subst k2
    have p1 : n32 (69 + 2) = 71 := rfl
    have p2 : ¬ n32 2 < 2 := by decide
    rw [if_pos p1, if_neg p2]
    rcases lk_bB (d := d) (d' := d') (e := e) (L := L) (kk := 2) (c := c) (v4 := -1) a3 hN1 (by omega) m1c c40 with ⟨K, J', M', N', v5, v6, b1, b2, b3, b4, b5, b6, b7, b8, b9⟩ | ⟨K, J', M', N', b1, b2, b3, b4, b5⟩
    · exact Or.inl ⟨K, J', M', N', 2, -1, v5, v6, hk, c40, b1, b2, b3, fC_t a4 b4, bR_t f1 b5, fun i hi => by rw [b6 i (by omega) (by omega), m1, ma, if_neg (by omega)], b7.trans m145, by rw [b6 _ (by omega) (by omega), m1c], b8, fun z => absurd z (by omega), fun z => absurd z (by omega)⟩
    · exact Or.inr ⟨K, J', M', N', b1, b2, b3, fC_t a4 b4, bR_t f1 b5⟩
  · have p1 : ¬ n32 (69 + kk) = 71 := lit_ne (b := 71) (by omega) (by omega) (by omega)
    have p2 : n32 kk < 2 := (n32_lt (b := 2) (by omega) (by omega)).mpr (by omega)
    rw [if_neg p1, if_pos p2, c_voterNamed_7 hN1.2.2.1 hN1.1, xcI_some, ekX0_readLine_2_11]
    rcases lk_bv (d := d) (d' := d') (e := e) (L := L) a3 hN1 with ⟨cv, K2, J2, M2, N2, c1, c2, v, c3, rfl, c5, c6, c7, c8⟩ | ⟨K2, J2, M2, N2, c1, c2, c3, c4, c5⟩
    rotate_left
    · refine Or.inr ⟨K2, J2, M2, N2, ?_, ?_, c3, fC_t a4 c4, bR_t f1 (fR_b c5)⟩
      · rw [c1, xcI_some, ekX0_readLine_2_12, if_pos im1]
      · rw [c2, xcI_some, ekX12_bookLine_6_14, if_pos i00]
    have m24 : M2 214 = Ma 214 := (c8.1 214 (by omega)).trans m1
    rw [c1, xcI_some, ekX0_readLine_2_12, if_neg (n32_ne1 (by omega)), c2, xcI_some, ekX12_bookLine_6_14, if_neg i10, bX12_bookLine_7, e1, xin_n32 (by omega) (show 4 * c + 1 < 164 by omega), cond_true, n32_nat (by omega), c5]
    generalize hMb : xu M2 214 (4 * c + 1) (n32 v) = Mb
    have mb : ∀ i, Mb 214 i = if i = 4 * c + 1 then n32 v else Ma 214 i := fun i => by rw [← hMb, xu_row, m24]; rfl
    have mo2 : ∀ o, o ≠ 214 → Mb o = M2 o := fun o z => by rw [← hMb, xu_rne z]
    have hP2 : Par T n most K2 J2 Mb N2 := Par_c (fun _ _ => rfl) rfl (fun q z => by rw [mo2 209 (by omega)]) (mo2 210 (by omega)) rfl c6
    have f2 : bR Mb M N2 N := bR_t (bR_t f1 (fR_b c8)) ⟨fun o z1 z2 => mo2 o z2, fun _ _ => rfl, fun q z => by rw [mo2 209 (by omega)]⟩
    have hN2 := Nm_f hN (fC_b (fC_t a4 c7)) f2
    have mbc : Mb 214 (4 * c) = n32 kk := by rw [mb, if_neg (by omega), ma, if_pos rfl]
    rcases lk_bB (d := d) (d' := d') (e := e) (L := L) (kk := kk) (c := c) (v4 := n32 v) hP2 hN2 hk mbc c40 with ⟨K, J', M', N', v5, v6, b1, b2, b3, b4, b5, b6, b7, b8, b9⟩ | ⟨K, J', M', N', b1, b2, b3, b4, b5⟩
    · refine Or.inl ⟨K, J', M', N', kk, n32 v, v5, v6, hk, c40, b1, b2, b3, fC_t (fC_t a4 c7) b4, bR_t f2 b5, fun i hi => by rw [b6 i (by omega) (by omega), mb, if_neg (by omega), ma, if_neg (by omega)], ?_, by rw [b6 _ (by omega) (by omega), mbc], b8, fun z => ⟨v, c3, rfl, by rw [b6 _ (by omega) (by omega), mb, if_pos rfl]⟩, b9⟩
      rw [b7, mo2 209 (by omega), c8.2.2 45 (by omega), m145]
    · exact Or.inr ⟨K, J', M', N', b1, b2, b3, fC_t (fC_t a4 c7) b4, bR_t f2 b5⟩
end BOK
