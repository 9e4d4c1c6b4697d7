/-! A book's lines are lived. -/
def zfr (K I : TI) : Prop := ∀ o k, o ≠ 211 → ¬ (217 ≤ o ∧ o < 222) → (o ≠ 209 ∨ ¬ (26 ≤ k ∧ k ≤ 34)) → K o k = I o k
section LIV
variable {d d' e L : Nat} {S S' : TS} {D D' : Nat → Int64} {T : Nat → Int32} {I K K2 M M' M2 : TI} {J J' J2 N N' N2 : TJ} {p q n k i m a j b v r most g lo hi fr V B c C kk : Nat} {x y v4 v5 v6 hw : Int32} {cf : xCF}
theorem zfr_r : zfr I I := fun _ _ _ _ _ => rfl
theorem zfr_t (h : zfr M K) (h' : zfr K I) : zfr M I := fun o k z1 z2 z3 => (h o k z1 z2 z3).trans (h' o k z1 z2 z3)
theorem zfr_l (h : lfr K I) : zfr K I := fun o k _ z2 z3 => h o k z2 z3
theorem zfr_d (h : dfr K I) : zfr K I := fun o k z1 _ z3 => h o k z1 (by omega)
/-- one line on both sides -/
theorem lk_does (hC : CS S D I J) (hZ : NZ S D) (hR : RS S M) (hL : Ln V B i I M) (hi : i < 40) (hV : sV S = V) (hB : B ≤ sB S) : ∃ S' K J' M' w, xcall xprog (d + 6) 5 [.ref 72, .ref 6, .int (n32 i)] (xst e L I J) = some (some (.int (n32 w)), xst e L K J') ∧ xcall xprog (d' + 10) 252 [.ref 209, .int (n32 (4 * i))] (xst e L M N) = some (some (.int (n32 w)), xst e L M' N) ∧ w < 30 ∧ ((w = 0 ∧ pre S S' ∧ (∀ k, 224 ≤ k → S k = S' k) ∧ NZ S' D) ∨ (w ≠ 0 ∧ S' = S)) ∧ CS S' D K J' ∧ RS S' M' ∧ afr K I ∧ jfr J' J ∧ zfr M' M := by
  obtain ⟨kk, hk, k1, k2, ⟨b, b1, b2, b3⟩, k4, k5⟩ := hL
  have hW := hC.1
  have hw := hW.1
  have h8 := wf_V8 hw
  have h20 := wf_B hw
  have hK48 := hW.2.1.1
  have e1 : n32 (4 * i) + 1 = n32 (4 * i + 1) := n32_succ
  have e2 : n32 (4 * i) + 2 = n32 (4 * i + 2) := n32_add (b := 2)
  have e3 : n32 (4 * i) + 3 = n32 (4 * i + 3) := n32_add (b := 3)
  have x0 : xin (n32 (4 * i)) 164 = true := xin_n32 (by omega) (by omega)
  have x1 : xin (n32 (4 * i + 1)) 164 = true := xin_n32 (by omega) (by omega)
  have x2 : xin (n32 (4 * i + 2)) 164 = true := xin_n32 (by omega) (by omega)
  have x3 : xin (n32 (4 * i + 3)) 164 = true := xin_n32 (by omega) (by omega)
  have hb : b < sB S := by omega
  rw [aX0_liveLine, bX0_liveLine_0, xin_n32 (by omega) hi, cond_true, cond_true, cond_true, cond_true, n32_nat (by omega), k1, b2, aX12_does, bX12_does_0, e1, e2, e3, x0, x1, x2, x3, cond_true, cond_true, cond_true, cond_true, n32_nat (by omega), n32_nat (by omega), n32_nat (by omega), n32_nat (by omega), k2, b3]
  by_cases q0 : kk = 0
  · subst q0
    obtain ⟨v, v1, v2, v3⟩ := k4 (by omega)
    obtain ⟨t, t1, t2, t3⟩ := k5 rfl
    have hv : v < sV S := by omega
    have ht : t < sB S := by omega
    have p1 : n32 (69 + 0) = 69 := rfl
    have p2 : n32 0 = 0 := rfl
    rw [if_pos p1, if_pos p2, v2, v3, t2, t3]
    obtain ⟨_, c1, xc, K, J', rfl, hj, rfl, c3⟩ := c_tryVote (d := d + 1) (e := e) (L := L) hC hv hb ht
    subst J'
    obtain ⟨_, r1, xr, M1, N1, rfl, rfl, hj, r4, r5, r6⟩ := r_whyVote (d := d' + 1) (e := e) (L := L) (J := N) (v := v) hR (by omega) hb ht
    subst N1
    have hle := why_le (S := S) (v := v) (s := b) (t := t)
    rw [c1, xcI_some, ekX0_liveLine_0_19, r1, xcI_some, ekX12_does_0_28]
    have m14 : M1 214 (4 * i + 3) = n32 t := by rw [r4 214 _ (by omega) (by omega), t3]
    by_cases z : why S v b t = 0
    · rcases c3 with ⟨_, c4, c5⟩ | ⟨y, _⟩
      rotate_left
      · exact absurd z y
      obtain ⟨g1, g2, g3, g4, g5⟩ := why_0 z
      obtain ⟨_, s1, M2, N2, rfl, hj, s2, s3⟩ := r_doesVote (d := d' + 8) (e := e) (L := L) (J := N) r6 hv hb ht z
      subst N2
      refine ⟨svote S v b t, K, J, M2, 0, ?_, ?_, by omega, Or.inl ⟨rfl, pre_sv hw g5, fun k hk => (sv_ne (by omega) (by omega) (by omega) (by omega)).symm, NZ_same (by rw [sv_B]; exact Nat.le_refl _) hZ⟩, c4, s2, c5, jfr_r, zfr_t (zfr_d s3) (zfr_l r4)⟩
      · rw [z]
      · rw [z, if_pos p2, e3, x3, cond_true, n32_nat (by omega), m14, s1, xcV_some, ekX12_does_0_41, bX12_does_1]
    · rcases c3 with ⟨y, _⟩ | ⟨_, hK⟩
      · exact absurd y z
      subst K
      have z' : ¬ n32 (why S v b t) = 0 := fun y => z ((n32_eq0 (by omega)).mp y)
      refine ⟨S, I, J, M1, why S v b t, rfl, ?_, by omega, Or.inr ⟨z, rfl⟩, hC, r6, afr_r, jfr_r, zfr_l r4⟩
      rw [if_neg z', bX12_does_1]
  have p1 : ¬ n32 (69 + kk) = 69 := lit_ne (b := 69) (by omega) (by omega) (by omega)
  have p2 : ¬ n32 kk = 0 := lit_ne (b := 0) (by omega) (by omega) (by omega)
  rw [if_neg p1, if_neg p2, bX0_liveLine_1, xin_n32 (by omega) hi, cond_true, cond_true, cond_true, n32_nat (by omega), k1, b2, bX12_does_2, x0, cond_true, n32_nat (by omega), k2]
  by_cases q1 : kk = 1
  · subst q1
    obtain ⟨v, v1, v2, v3⟩ := k4 (by omega)
    have hv : v < sV S := by omega
    have p3 : n32 (69 + 1) = 70 := rfl
    have p4 : n32 1 = 1 := rfl
    have e216 : (216 : Int32) + n32 v = n32 (216 + v) := n32_add
    obtain ⟨_, c1, xc, K, J', rfl, hj, c3⟩ := c_tryLook (d := d + 4) (e := e) (L := L) hC hv hb
    subst J'
    rw [if_pos p3, if_pos p4, v2, v3, e216, xin_n32 (by omega) (show 216 + v < 360 by omega), cond_true, n32_nat (by omega), hR.2.1, c1, xcI_some, ekX0_liveLine_1_15]
    rcases c3 with ⟨c3, rfl, c4, c5⟩ | ⟨c3, rfl, hK⟩
    · obtain ⟨_, s1, M2, N2, rfl, hj, s2, s3⟩ := r_doesLook (d := d' + 8) (e := e) (L := L) (J := N) hR hv hb
      subst N2
      refine ⟨slook S v b, K, J, M2, 0, ?_, ?_, by omega, Or.inl ⟨rfl, pre_sl hw hK48, fun k hk => (sl_ne (by omega)).symm, NZ_same (by rw [sl_B]; exact Nat.le_refl _) hZ⟩, c4, s2, c5, jfr_r, zfr_d s3⟩
      · rw [if_pos i00, bX0_liveLine_3]; rfl
      · rw [if_neg c3, bX12_does_3, s1, xcV_some, ekX12_does_3_3]; rfl
    · subst K
      refine ⟨S, I, J, M, 11, ?_, ?_, by omega, Or.inr ⟨by omega, rfl⟩, hC, hR, afr_r, jfr_r, zfr_r⟩
      · rw [if_neg i10, bX0_liveLine_2, bX0_liveLine_3]; rfl
      · rw [if_pos c3]; rfl
  · have k2' : kk = 2 := by omega
    subst k2'
    have p3 : ¬ n32 (69 + 2) = 70 := by decide
    have p4 : ¬ n32 2 = 1 := by decide
    rw [if_neg p3, if_neg p4, bX0_liveLine_4, xin_n32 (by omega) hi, cond_true, n32_nat (by omega), b2, bX12_does_4, hR.2.1, wf_2 hw]
    obtain ⟨_, c1, xc, K, J', rfl, c2, c3⟩ := c_tryGrow (d := d + 3) (e := e) (L := L) hC hZ hb
    rw [c1, xcI_some, ekX0_liveLine_4_5]
    rcases c3 with ⟨c3, rfl, c4, c5⟩ | ⟨c3, rfl, hK, hj⟩
    · obtain ⟨_, s1, M2, N2, rfl, hj, s2, s3⟩ := r_doesGrow (d := d' + 8) (e := e) (L := L) (J := N) hR c3 hb
      subst N2
      have p5 : ¬ n32 (sB S) = 20 := lit_ne (b := 20) (by omega) (by omega) (by omega)
      refine ⟨sgrow S b, K, J', M2, 0, ?_, ?_, by omega, Or.inl ⟨rfl, pre_sg hw c3, fun k hk => (sg_ne (by omega) (by omega) (by omega) (by omega)).symm, NZ_same (by rw [sg_B c3]; omega) hZ⟩, c4, s2, c5, c2, zfr_d s3⟩
      · rw [if_pos i00, bX0_liveLine_6]; rfl
      · rw [if_neg p5, bX12_does_5, s1, xcV_some, ekX12_does_5_2]; rfl
    · have p5 : n32 (sB S) = 20 := by rw [c3]; rfl
      subst K
      subst J'
      refine ⟨S, I, J, M, 21, ?_, ?_, by omega, Or.inr ⟨by omega, rfl⟩, hC, hR, afr_r, jfr_r, zfr_r⟩
      · rw [if_neg i10, bX0_liveLine_5, bX0_liveLine_6]; rfl
      · rw [if_pos p5]; rfl
/-- cells of the reference that living changes -/
def uyf (K I : TI) : Prop := ∀ o k, o ≠ 211 → ¬ (217 ≤ o ∧ o < 222) → (o ≠ 226 ∨ k ≠ 0) → (o ≠ 209 ∨ ¬ (26 ≤ k ∧ k ≤ 34)) → K o k = I o k
theorem uyf_t (h : uyf M K) (h' : uyf K I) : uyf M I := fun o k z1 z2 z3 z4 => (h o k z1 z2 z3 z4).trans (h' o k z1 z2 z3 z4)
theorem RS_o {Y : TI} (f : ∀ o, o ≠ 226 → Y o = M o) (h : RS S M) : RS S Y := by
  have e1 : ∀ k, Y 209 k = M 209 k := fun k => by rw [f 209 (by decide)]
  exact ⟨h.1, by rw [f 211 (by decide)]; exact h.2.1, fun q => Rf_c (fun o k z1 z2 => by rw [f o (by omega)]) (fun k z1 z2 => e1 k) (h.2.2 (by rw [← e1]; exact q))⟩
theorem lk_live : ∀ m i (S : TS) (I : TI) (J : TJ) (M : TI), i + m = C → C ≤ 40 → CS S D I J → NZ S D → RS S M → sV S = V → B ≤ sB S → (∀ i, i < C → Ln V B i I M) → I 72 1 = n32 C → M 209 45 = n32 C → M 226 0 = 0 → ∃ S' K J' M' w l, pre S S' ∧ (∀ k, 224 ≤ k → S k = S' k) ∧ NZ S' D ∧ CS S' D K J' ∧ RS S' M' ∧ xlim (xcall xprog (d + 6)) mX0_live 1 [.ref 72, .ref 6, .int 0, .int (n32 i), .int (n32 i)] [] (xst e L I J) = some (some (.int (n32 l)), xst e L (xu (xu K 73 0 (n32 w)) 73 1 (n32 l)) J') ∧ xlim (xcall xprog (d' + 10)) mX12_book 6 [.ref 209, .int hw, .int (-1), .int (n32 i)] [] (xst e L M N) = xlim (xcall xprog (d' + 10)) mX12_book 8 [.ref 209, .int hw, .int (if w = 0 then -1 else n32 l), xD] [] (xst e L M' N) ∧ M' 226 0 = n32 w ∧ w < 30 ∧ l ≤ C ∧ (w = 0 → l = C) ∧ (w ≠ 0 → l < C) ∧ (l = i → S' = S) ∧ i ≤ l ∧ afr K I ∧ jfr J' J ∧ uyf M' M := by
  intro m
  induction m with
  | zero =>
    intro i S I J M hm hC40 hC hZ hR hV hB hL h72 h45 h226
    have : i = C := by omega
    subst this
    have z : ¬ n32 i < n32 i := fun w => absurd ((n32_lt (by omega) (by omega)).mp w) (by omega)
    refine ⟨S, I, J, M, 0, i, pre_r, fun _ _ => rfl, hZ, hC, hR, ?_, ?_, h226, by omega, Nat.le_refl _, fun _ => rfl, fun y => absurd rfl y, fun _ => rfl, Nat.le_refl _, afr_r, jfr_r, fun _ _ _ _ _ _ => rfl⟩
    · rw [bX0_live_1, h72, if_neg z, bX0_live_4]; rfl
    · rw [bX12_book_6, h45, if_neg z, if_pos rfl]
  | succ m ih =>
    intro i S I J M hm hC40 hC hZ hR hV hB hL h72 h45 h226
    have z : n32 i < n32 C := (n32_lt (by omega) (by omega)).mpr (by omega)
    obtain ⟨S1, K1, J1, M1, w, a1, a2, a3, a4, a5, a6, a7, a8, a9⟩ := lk_does (d := d) (d' := d') (e := e) (L := L) (N := N) hC hZ hR (hL i (by omega)) (by omega) hV hB
    have n40 : (4 : Int32) * n32 i = n32 (4 * i) := n4
    have x4 : xin 0 4 = true := by decide
    have c0 : Int32.toNatClampNeg 0 = 0 := by decide
    rw [bX0_live_1, h72, if_pos z, if_pos i00, a1, xcI_some, ekX0_live_1_9, bX12_book_6, h45, if_pos z, if_pos im10, n40, a2, xcI_some, ekX12_book_6_13, x4, cond_true, c0, xu_ee]
    have hR1 : RS S1 (xu M1 226 0 (n32 w)) := RS_o (fun o z => xu_rne z) a6
    have yf : uyf (xu M1 226 0 (n32 w)) M := fun o k z1 z2 z3 z4 => by
      rw [← a9 o k z1 z2 z4]
      by_cases y : o = 226
      · subst y
        rw [xu_kne (by omega)]
      · rw [xu_rne y]
    rcases a4 with ⟨rfl, p1, p2, p3⟩ | ⟨w0, rfl⟩
    · have q0 : n32 0 = 0 := rfl
      have q1 : n32 0 ≤ 0 := by decide
      rw [if_pos q0, if_pos q1, bX0_live_3, bX12_book_7, n32_succ]
      have hV1 : sV S1 = V := by rw [← pre_V p1, hV]
      have hB1 : B ≤ sB S1 := Nat.le_trans hB p1.2.2.2.1
      obtain ⟨S', K, J', M', w, l, b1, b2, b3, b4, b5, b6, b7, b8, b9, b10, b11, b12, b13, b14, b15, b16, b17⟩ := ih (i + 1) S1 K1 J1 (xu M1 226 0 (n32 0)) (by omega) hC40 a5 p3 hR1 hV1 hB1 (fun j hj => Ln_c (fun q z1 z2 => a7 q j (by omega) (by omega)) (fun j hj => by rw [xu_rne (by decide), a9 214 j (by omega) (by omega) (by omega)]) (hL j hj)) (by rw [a7 72 1 (by omega) (by omega), h72]) (by rw [xu_rne (by decide), a9 209 45 (by omega) (by omega) (by omega), h45]) xu_ee
      refine ⟨S', K, J', M', w, l, pre_t p1 b1, fun k hk => (p2 k hk).trans (b2 k hk), b3, b4, b5, b6, b7, b8, b9, b10, b11, b12, fun y => by omega, by omega, afr_t b15 a7, jfr_t b16 a8, uyf_t b17 yf⟩
    · have q0 : ¬ n32 w = 0 := fun y => w0 ((n32_eq0 (by omega)).mp y)
      have q1 : ¬ n32 w ≤ 0 := fun y => w0 ((n32_ge0 (by omega)).mp y)
      have i0 : n32 i + 0 = n32 i := Int32.add_zero _
      have k72 : K1 72 1 = n32 C := by rw [a7 72 1 (by omega) (by omega), h72]
      have m45 : (xu M1 226 0 (n32 w)) 209 45 = n32 C := by rw [xu_rne (by decide), a9 209 45 (by omega) (by omega) (by omega), h45]
      refine ⟨S1, K1, J1, xu M1 226 0 (n32 w), w, i, pre_r, fun _ _ => rfl, hZ, a5, hR1, ?_, ?_, xu_ee, a3, by omega, fun y => absurd y w0, fun _ => by omega, fun _ => rfl, Nat.le_refl _, a7, a8, yf⟩
      · rw [if_neg q0, bX0_live_2, bX0_live_3, i0, n32_succ, bX0_live_1, k72]
        by_cases y : i + 1 < C
        · rw [if_pos ((n32_lt (by omega) (by omega)).mpr y), if_neg q0, bX0_live_4]
        · rw [if_neg (fun v => y ((n32_lt (by omega) (by omega)).mp v)), bX0_live_4]
      · rw [if_neg q1, bX12_book_7, n32_succ, bX12_book_6, m45, if_neg w0]
        by_cases y : i + 1 < C
        · rw [if_pos ((n32_lt (by omega) (by omega)).mpr y), if_neg (n32_neg (by omega))]
        · rw [if_neg (fun v => y ((n32_lt (by omega) (by omega)).mp v))]
end LIV
