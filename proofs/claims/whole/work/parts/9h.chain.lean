/-! The call chain. -/
section CHH
variable {d d' e L : Nat} {S S' : TS} {D D' : Nat → Int64} {T : Nat → Int32} {I K K2 M M' M2 : TI} {J J' J2 N N' N2 : TJ} {p q n k i m a j b v r most g lo hi fr V B : Nat} {s t : Bool} {x y bl ch wg : Int32} {w nm : Int64} {cf : xCF}
theorem c_clearA : ∃ K, xcall xprog (d + 1) 100 [.ref 37] (xst e L I J) = some (none, xst e L K J) ∧ K 37 0 = 0 ∧ (∀ v, v < 8 → K 41 v = -1) ∧ ∀ o q, ¬ (o = 37 ∧ q = 0) → o ≠ 41 → K o q = I o q := by
  rw [aX10_clear, bX10_clear_0]
  have main : ∀ m k (K : TI), k + m = 8 → ∃ K2, xlim (xcall xprog d) mX10_clear 1 [.ref 37, .int (n32 k)] [] (xst e L K J) = some (none, xst e L K2 J) ∧ (∀ o, o ≠ 41 → K2 o = K o) ∧ (∀ v, v < k → K2 41 v = K 41 v) ∧ ∀ v, k ≤ v → v < 8 → K2 41 v = -1 := by
    intro m
    induction m with
    | zero =>
      intro k K hk
      have : k = 8 := by omega
      subst this
      refine ⟨K, ?_, fun _ _ => rfl, fun _ _ => rfl, fun v h1 h2 => absurd h2 (by omega)⟩
      rw [bX10_clear_1, if_neg (by decide), bX10_clear_2]
    | succ m ih =>
      intro k K hk
      obtain ⟨K2, h1, h2, h3, h4⟩ := ih (k + 1) (xu K 41 k (-1)) (by omega)
      refine ⟨K2, ?_, fun o z => by rw [h2 o z, xu_rne z], fun v hv => by rw [h3 v (by omega), xu_kne (by omega)], fun v z1 z2 => ?_⟩
      · rw [bX10_clear_1, if_pos ((q8l (by omega)).mpr (by omega)), xin_n32 (by omega) (show k < 8 by omega), cond_true, n32_nat (by omega), n32_succ]
        exact h1
      · by_cases z : v = k
        · rw [z, h3 k (by omega), xu_ee]
        · exact h4 v (by omega) z2
  obtain ⟨K2, h1, h2, h3, h4⟩ := main 8 0 (xu I 37 0 0) (by omega)
  refine ⟨K2, h1, by rw [h2 37 (by omega), xu_ee], fun v hv => h4 v (by omega) hv, fun o q z1 z2 => ?_⟩
  rw [h2 o z2]
  by_cases z : o = 37
  · subst z
    rw [xu_kne (by omega)]
  · rw [xu_rne z]
/-- the class takes the draft over -/
theorem c_begin : ∃ K J', xcall xprog (d + 2) 81 [.ref 6, .ref 89] (xst e L I J) = some (none, xst e L K J') ∧ K 6 3 = 1 ∧ K 37 0 = 0 ∧ (∀ v, v < 8 → K 41 v = -1) ∧ K 42 0 = 0 ∧ K 42 1 = 0 ∧ (∀ o q, ¬ (o = 6 ∧ q = 3) → ¬ (7 ≤ o ∧ o < 37) → ¬ (o = 37 ∧ q = 0) → o ≠ 41 → ¬ (o = 42 ∧ q < 2) → K o q = I o q) ∧ (∀ o, ¬ (7 < o ∧ o ≤ 10) → J' o = J o) ∧ ∃ Ka, CpT 7 89 Ka I J' J ∧ ∀ o, 7 ≤ o → o < 37 → K o = Ka o := by
  obtain ⟨o, r1, Ka, J', r2, r3⟩ := c_cpT_7_89 (d := d) (e := e) (L := L) (I := I) (J := J)
  obtain ⟨Kb, b1, b2, b3, b4⟩ := c_clearA (d := d) (e := e) (L := L) (I := Ka) (J := J')
  have r4 : ∀ o, ¬ (7 ≤ o ∧ o < 7 + 30) → Ka o = I o := r3.2.2.2.2.2.2.1
  have r5 : ∀ o, ¬ (7 < o ∧ o ≤ 7 + 3) → J' o = J o := r3.2.2.2.2.2.2.2
  refine ⟨xu (xu (xu Kb 42 0 0) 42 1 0) 6 3 1, J', ?_, xu_ee, ?_, fun v hv => ?_, ?_, ?_, fun o q z1 z2 z3 z4 z5 => ?_, fun o z => r5 o (by omega), Ka, r3, fun o z1 z2 => ?_⟩
  · rw [aX8_begin, bX8_begin_0, r1, r2, xcV_some, ekX8_begin_0_3, b1, xcV_some, ekX8_begin_0_6, aX7_clear_42, bX7_clear_42_0, xcV_some, ekX8_begin_0_9]
  · rw [xu_rne (by decide), xu_rne (by decide), xu_rne (by decide), b2]
  · rw [xu_rne (by decide), xu_rne (by decide), xu_rne (by decide), b3 v hv]
  · rw [xu_rne (by decide), xu_kne (by decide), xu_ee]
  · rw [xu_rne (by decide), xu_ee]
  · have e1 : (xu (xu (xu Kb 42 0 0) 42 1 0) 6 3 1) o q = Kb o q := by
      by_cases y : o = 6
      · subst y
        rw [xu_kne (by omega), xu_rne (by decide), xu_rne (by decide)]
      · rw [xu_rne y]
        by_cases w : o = 42
        · subst w
          rw [xu_kne (by omega), xu_kne (by omega)]
        · rw [xu_rne w, xu_rne w]
    rw [e1, b4 o q z3 z4, r4 o (by omega)]
  · funext q
    rw [xu_rne (by omega), xu_rne (by omega), xu_rne (by omega), b4 o q (by omega) (by omega)]
theorem wfT_72 (h : ∀ k, k < 72 → S' k = S k) (hw : wfT S) : wfT S' := by
  have eB : sB S' = sB S := by unfold sB; rw [h 2 (by omega)]
  have eE : sE S' = sE S := by unfold sE; rw [h 0 (by omega)]
  have eV : sV S' = sV S := by unfold sV; rw [h 1 (by omega)]
  have h8 := wf_V8 hw
  have h20 := wf_B hw
  unfold wfT
  rw [eB, eE, eV]
  refine ⟨wf_E1 hw, wf_E4 hw, ?_, h8, ?_, h20, ?_, fun v hv => ?_, fun h0 => ?_, fun b h0 hb => ?_, fun b hb => ?_⟩
  · rw [h 0 (by omega)]; exact wf_0 hw
  · rw [h 1 (by omega)]; exact wf_1 hw
  · rw [h 2 (by omega)]; exact wf_2 hw
  · rw [h _ (by omega)]; exact wf_w hw hv
  · rw [h _ (by omega)]; exact wf_p0 hw h0
  · have ep : par S' b = par S b := by unfold par; rw [h _ (by omega)]
    rw [h _ (by omega), ep]; exact wf_p hw h0 hb
  · rw [h _ (by omega), h _ (by omega)]; exact wf_ch hw hb
theorem CpT_Tr {u t : Nat} (h : CpT t u K I J' J) (hw : wfT S) (hT : Tr u S D I J) : Tr t S D K J' := by
  obtain ⟨c1, c2, c3, c4, c5, c6, _, _⟩ := h
  obtain ⟨h0, h1, h2, h3, h4⟩ := hT
  have h8 := wf_V8 hw
  have h20 := wf_B hw
  refine ⟨by rw [c1 0 (by omega), h0], by rw [c1 1 (by omega), h1], by rw [c1 2 (by omega), h2], fun v hv => ?_, fun b hb => ?_⟩
  · rw [c5 v (by omega), c2 v (by omega)]
    exact h3 v hv
  · rw [c6 b (by omega), c3 4 b (by omega) (by omega) (by omega), c3 5 b (by omega) (by omega) (by omega), c3 6 b (by omega) (by omega) (by omega), c3 7 b (by omega) (by omega) (by omega), c3 8 b (by omega) (by omega) (by omega)]
    obtain ⟨q1, q2, q3, q4, q5, q6, q7⟩ := h4 b hb
    exact ⟨q1, q2, q3, q4, q5, q6, fun v hv => by rw [c4 b v (by omega) (by omega)]; exact q7 v hv⟩
/-- between two calls still, with another state -/
theorem chain_inv (h : Inv I J) (hw : wfT (M' 211)) (h3 : M' 211 3 = 0) (hL : ∀ v, v < 8 → M' 211 (216 + v) = -1) (h224 : M' 211 224 = 0) (hT : Tr 7 (M' 211) (nmN N') M' N') (hA0 : M' 37 0 = 0) (hA1 : ∀ v, v < 8 → M' 41 v = -1) (h6 : M' 6 3 = 1) (h34 : M' 209 34 = 0) (hZ : NZ (M' 211) (nmN N')) (hB : NB (M' 211) (nmN N')) (h79 : M' 79 2 = 0) (h38 : M' 209 38 = 0) (ht1 : M' 1 1 = 0) (ht2 : M' 209 2 = 0) (hs0 : M' 42 0 = 0) (hs1 : M' 42 1 = 0) (hf : M' 0 16 = M' 209 16) (fI : ∀ o k, (o = 3 ∨ o = 4 ∨ (o = 71 ∧ k < 2) ∨ o = 73 ∨ (o = 79 ∧ k = 1) ∨ (126 ≤ o ∧ o ≤ 164) ∨ (167 ≤ o ∧ o ≤ 205) ∨ o = 207 ∨ (o = 209 ∧ (k = 40 ∨ k = 41 ∨ k = 43 ∨ k = 47)) ∨ o = 225 ∨ o = 226 ∨ o = 229 ∨ o = 231) → M' o k = I o k) (fJ : ∀ o k, vJ o → N' o k = J o k) : Inv M' N' := by
  obtain ⟨_, _, _, ⟨m, o, hH⟩, _, ht, hse, him, hg, ⟨c1, c2, c3⟩, hd, hres⟩ := h
  have h8 := wf_V8 hw
  have hWK : wfK (M' 211) := by
    have e : sK (M' 211) = 0 := by unfold sK; rw [h3]; decide
    refine ⟨by omega, by rw [e, h3]; rfl, fun i hi => absurd hi (by rw [e]; exact Nat.not_lt_zero i)⟩
  have hW : WS (M' 211) := ⟨hw, hWK, fun v hv => Or.inl (hL v (by omega))⟩
  refine ⟨⟨hW, hT, ⟨by rw [hA0, h3], fun i hi => ?_, fun v hv => ?_⟩, fun z => absurd z (by rw [h6]; decide)⟩, RS_new hW rfl h34, hZ, ⟨0, o, by omega, hH.2.1, by rw [h79]; rfl, ?_, by rw [h38]; rfl, fun j hj => absurd hj (Nat.not_lt_zero j), fun j hj => absurd hj (Nat.not_lt_zero _), fun z => absurd z (Nat.lt_irrefl 0)⟩, hB, ⟨0, by omega, ht1, ht2, fun i hi => absurd hi (Nat.not_lt_zero i)⟩, ⟨0, by omega, h224, hs1, ⟨fun _ => rfl, fun _ => hs0⟩, fun z => absurd z (Nat.lt_irrefl 0), fun i hi => absurd hi (Nat.not_lt_zero i)⟩, fun r hr => ?_, Tag_c (fI _ _ (by omega)) (fI _ _ (by omega)) (funext fun i => fI _ _ (by omega)) (funext fun i => fI _ _ (by omega)) hg, ⟨?_, ?_, hf⟩, Told_c (fI _ _ (by omega)) (funext fun i => fI _ _ (by omega)) (funext fun i => fI _ _ (by omega)) hd, fun k hk => ?_⟩
  · have e : sK (M' 211) = 0 := by unfold sK; rw [h3]; decide
    rw [e] at hi
    exact absurd hi (Nat.not_lt_zero i)
  · rw [hA1 v (by omega), hL v (by omega)]
  · rw [fI 79 1 (by omega)]; exact hH.2.2.2.1
  · rw [fI 207 r (by omega), fI 231 r (by omega)]
    refine ⟨(him r hr).1, fun y => Im_k (fun o i z1 => fI o i (by omega)) (fun o i z1 => fJ o i (by unfold vJ; omega)) (fun i hi => ?_) (fun i hi => ?_) ((him r hr).2 y)⟩
    · exact (fI 229 _ (by omega)).symm
    · exact (fJ 230 _ (by unfold vJ; omega)).symm
  · rw [fI 71 0 (by omega), fI 209 40 (by omega), c1]
  · rw [fI 71 1 (by omega), fI 209 41 (by omega), c2]
  · rw [fJ 216 k (by unfold vJ; omega)]; exact hres k hk
theorem c_close : xcall xprog (d + 1) 150 [.ref 0] (xst e L I J) = some (none, xst e L (xu (xu I 1 1 0) 0 16 (I 5 2)) J) := by rw [aX11_closeText, bX11_closeText_0]
theorem s_chain : stp 114 181 [] := by
  intro d e L I J h
  obtain ⟨hC, hR, hNZ, ⟨hm, ho, hH⟩, hNB, ⟨n, t1, t2, t3, t4⟩, hse, him, hg, ⟨c1, c2, c3⟩, hd, hres⟩ := id h
  refine RR_eq ((aX11_chain _ e L I J).trans (bX11_chain_0 _ e L I J)) ?_
  rcases lk_chain (d := d + 33) (d' := d + 34) (e := e) (L := L) (n := n) (I := I) (J := J) (M := I) (N := J) t1 t2 t4 t3 hres with ⟨K, J1, _, _, R, a1, _, a3, _, _, _, _, a8, _⟩ | ⟨K, J1, _, _, a1, _, _, _, a5, _⟩
  rotate_left
  · -- a fault
    have kc : ∀ o q, ¬ (o = 1 ∧ q = 1) → ¬ (o = 0 ∧ q = 16) → o ≠ 5 → ¬ (89 ≤ o ∧ o < 119) → (xu (xu K 1 1 0) 0 16 (K 5 2)) o q = I o q := fun o q z1 z2 z3 z4 => by
      rw [← a5.1 o z3 z4]
      by_cases y : o = 0
      · subst y
        rw [xu_kne (by omega), xu_rne (by decide)]
      · rw [xu_rne y]
        by_cases w : o = 1
        · subst w
          rw [xu_kne (by omega)]
        · rw [xu_rne w]
    have k5 : ∀ q, (xu (xu K 1 1 0) 0 16 (K 5 2)) 5 q = K 5 q := fun q => by rw [xu_rne (by decide), xu_rne (by decide)]
    rw [a1, xcI_some, ekX11_chain_0_4, c_close, xcV_some, ekX11_chain_0_7, if_pos im1, k5]
    refine RR_I ?_
    rcases lk_chain (d := d + 33) (d' := d + 34) (e := e) (L := L) (n := n) (I := I) (J := J) (M := xu (xu K 1 1 0) 0 16 (K 5 2)) (N := J1) t1 t2 (fun i hi => by rw [kc 210 i (by omega) (by omega) (by omega) (by omega)]; exact t4 i hi) (by rw [kc 209 2 (by omega) (by omega) (by omega) (by omega), t3]) (fun k hk => by rw [a5.2 216 (by omega) (by omega)]; exact hres k hk) with ⟨K', J1', M', N', R', b1, _, b3, _⟩ | ⟨K', J1', M', N', b1, b2, b3, b4, b5, b6⟩
    · rw [a1] at b1
      have := (xst_i b1).1
      injection this with this
      injection this with this
      exact absurd this.symm (n32_ne1 (by omega))
    · rw [a1] at b1
      obtain ⟨_, rfl, rfl⟩ := xst_i b1
      refine RR_eq b2 (RR_I ⟨by rw [b4.2], ?_⟩)
      have mk : ∀ o q, o ≠ 209 → o ≠ 212 → M' o q = (xu (xu K 1 1 0) 0 16 (K 5 2)) o q := fun o q z1 z2 => by rw [b6.1 o z1 z2]
      have mI : ∀ o q, o ≠ 209 → o ≠ 212 → ¬ (o = 1 ∧ q = 1) → ¬ (o = 0 ∧ q = 16) → o ≠ 5 → ¬ (89 ≤ o ∧ o < 119) → M' o q = I o q := fun o q z1 z2 z3 z4 z5 z6 => by rw [mk o q z1 z2, kc o q z3 z4 z5 z6]
      have m9 : ∀ q, ¬ (q = 0 ∨ (2 ≤ q ∧ q ≤ 5) ∨ (12 ≤ q ∧ q ≤ 17) ∨ q = 19 ∨ q = 20) → M' 209 q = I 209 q := fun q z => by rw [b6.2.2.2 q z, kc 209 q (by omega) (by omega) (by omega) (by omega)]
      have nJ : ∀ o q, o ≠ 209 → o ≠ 215 → o ≠ 5 → ¬ (89 ≤ o ∧ o < 119) → N' o q = J o q := fun o q z1 z2 z3 z4 => by rw [b6.2.1 o z1 z2, a5.2 o z3 z4]
      refine Inv_g h (fun o q z => ?_) (fun o q z => ?_) ?_ ⟨0, by omega, ?_, by rw [b3]; rfl, fun i hi => absurd hi (Nat.not_lt_zero i)⟩ (Tag_c (mI _ _ (by omega) (by omega) (by omega) (by omega) (by omega) (by omega)) (m9 _ (by omega)) (funext fun q => mI _ _ (by omega) (by omega) (by omega) (by omega) (by omega) (by omega)) (funext fun q => mI _ _ (by omega) (by omega) (by omega) (by omega) (by omega) (by omega)) hg) ⟨?_, ?_, ?_⟩ (Told_c (m9 _ (by omega)) (funext fun q => mI _ _ (by omega) (by omega) (by omega) (by omega) (by omega) (by omega)) (funext fun q => mI _ _ (by omega) (by omega) (by omega) (by omega) (by omega) (by omega)) hd)
      · by_cases y : o = 209
        · subst y
          unfold gI at z
          exact m9 q (by omega)
        · unfold gI at z
          exact mI o q y (by omega) (by omega) (by omega) (by omega) (by omega)
      · unfold gJ vJ at z
        exact nJ o q (by omega) (by omega) (by omega) (by omega)
      · funext k
        unfold nmN
        by_cases z : k < 28
        · rw [if_pos z, if_pos z, b6.2.2.1 k z, a5.2 215 (by omega) (by omega)]
        · rw [if_neg z, if_neg z]
      · rw [mk 1 1 (by omega) (by omega), xu_rne (by decide), xu_ee]; rfl
      · rw [mI 71 0 (by omega) (by omega) (by omega) (by omega) (by omega) (by omega), m9 40 (by omega), c1]
      · rw [mI 71 1 (by omega) (by omega) (by omega) (by omega) (by omega) (by omega), m9 41 (by omega), c2]
      · rw [mk 0 16 (by omega) (by omega), xu_ee, b4.1]
  · -- no fault
    obtain ⟨Kb, Jb, e1, e2, e3, e4, e5, e6, e7, e8, Ka, e9, e10⟩ := c_begin (d := d + 37) (e := e) (L := L) (I := xu (xu K 1 1 0) 0 16 (K 5 2)) (J := J1)
    rw [a1, xcI_some, ekX11_chain_0_4, c_close, xcV_some, ekX11_chain_0_7, if_neg (n32_ne1 (by omega)), bX11_chain_1, e1, xcV_some, ekX11_chain_1_4, aX5_forget, bX5_forget_0, xcV_some, ekX11_chain_1_7]
    refine RR_I ?_
    generalize hKe : xu Kb 79 2 0 = Ke
    have kb : ∀ o q, ¬ (o = 79 ∧ q = 2) → Ke o q = Kb o q := fun o q z => by
      rw [← hKe]
      by_cases y : o = 79
      · subst y
        rw [xu_kne (by omega)]
      · rw [xu_rne y]
    have kI : ∀ o q, ¬ (o = 0 ∧ q = 16) → ¬ (o = 1 ∧ q = 1) → o ≠ 5 → ¬ (o = 6 ∧ q = 3) → ¬ (7 ≤ o ∧ o < 37) → ¬ (o = 37 ∧ q = 0) → o ≠ 41 → ¬ (o = 42 ∧ q < 2) → ¬ (o = 79 ∧ q = 2) → ¬ (89 ≤ o ∧ o < 119) → Ke o q = I o q := fun o q z1 z2 z3 z4 z5 z6 z7 z8 z9 z10 => by
      rw [kb o q z9, e7 o q z4 z5 z6 z7 z8, ← a8.1 o z3 z10]
      by_cases y : o = 0
      · subst y
        rw [xu_kne (by omega), xu_rne (by decide)]
      · rw [xu_rne y]
        by_cases w : o = 1
        · subst w
          rw [xu_kne (by omega)]
        · rw [xu_rne w]
    have k9 : ∀ o q, 209 ≤ o → Ke o q = I o q := fun o q z => kI o q (by omega) (by omega) (by omega) (by omega) (by omega) (by omega) (by omega) (by omega) (by omega) (by omega)
    rcases lk_chain (d := d + 33) (d' := d + 34) (e := e) (L := L) (n := n) (I := I) (J := J) (M := Ke) (N := Jb) t1 t2 (fun i hi => by rw [k9 210 i (by omega)]; exact t4 i hi) (by rw [k9 209 2 (by omega), t3]) (fun k hk => by rw [e8 216 (by omega), a8.2 216 (by omega) (by omega)]; exact hres k hk) with ⟨K', J1', M', N', R', b1, b2, b3, b4, b5, b6, b7, b8, b9⟩ | ⟨K', J1', M', N', b1, _⟩
    rotate_left
    · rw [a1] at b1
      have := (xst_i b1).1
      injection this with this
      injection this with this
      exact absurd this (n32_ne1 (by omega))
    rw [a1] at b1
    obtain ⟨z1, rfl, rfl⟩ := xst_i b1
    injection z1 with z1
    injection z1 with z1
    have hwd := b6.1
    have h8 := wf_V8 hwd
    have h20 := wf_B hwd
    obtain ⟨M2, N2, f1, f2, f3, f4, f5, f6, f7, f8, f9, f10⟩ := r_fill (e := e) (L := L) (M := M') (N := N') (cf := xcall xprog (d + 39)) (wf_1 hwd) h8 (wf_2 hwd) h20 b4
    refine RR_eq (b2.trans f1) (RR_I ⟨z1, ?_⟩)
    have mK : ∀ o, o ≠ 209 → o ≠ 211 → o ≠ 212 → M2 o = Ke o := fun o y1 y2 y3 => (f2 o y1 y2).trans (b9.1 o y1 y3)
    have m9 : ∀ q, ¬ (q = 0 ∨ (2 ≤ q ∧ q ≤ 5) ∨ (12 ≤ q ∧ q ≤ 17) ∨ q = 19 ∨ q = 20) → q ≠ 34 → q ≠ 38 → M2 209 q = I 209 q := fun q y1 y2 y3 => by rw [f3 q y2 y3, b9.2.2.2 q y1, k9 209 q (by omega)]
    have hS : ∀ k, k < 72 → M2 211 k = M' 212 k := f6
    have hw2 := wfT_72 hS hwd
    have eV : sV (M2 211) = sV (M' 212) := by unfold sV; rw [hS 1 (by omega)]
    have eB : sB (M2 211) = sB (M' 212) := by unfold sB; rw [hS 2 (by omega)]
    have n28 : ∀ v, v < 8 → nmN N2 v = if v < sV (M' 212) then N' 215 (28 + v) else Int64.ofNat 0 := fun v hv => (if_pos (by omega)).trans (f9 v hv)
    have n36 : ∀ b, b < 20 → nmN N2 (8 + b) = if b < sB (M' 212) then N' 215 (36 + b) else Int64.ofNat 0 := fun b hb => (if_pos (by omega)).trans (f10 b hb)
    have hpre : pre (M2 211) (M' 212) := by
      have k0 : sK (M2 211) = 0 := by unfold sK; rw [hS 3 (by omega), b6.2.1]; decide
      refine ⟨hS 0 (by omega), hS 1 (by omega), fun v hv => hS _ (by omega), by omega, fun b hb => ⟨hS _ (by omega), hS _ (by omega), hS _ (by omega)⟩, by omega, fun i hi => absurd hi (by omega)⟩
    have hT7 : Tr 7 (M' 212) (dN N') Ka Jb := by
      refine CpT_Tr (I := xu (xu K 1 1 0) 0 16 (K 5 2)) e9 hwd ?_
      have := b6.2.2.1
      exact Tr_c (fun o k y1 y2 => by rw [xu_rne (by omega), xu_rne (by omega)]) hwd this
    have hT2 : Tr 7 (M' 212) (dN N') M2 N2 := Tr_J (fun o k y1 y2 => by rw [mK o (by omega) (by omega) (by omega), kb o k (by omega), e10 o (by omega) (by omega)]) (fun o k y1 y2 => by rw [f8 o (by omega), b9.2.1 o (by omega) (by omega)]) hwd hT7
    refine chain_inv h hw2 (by rw [hS 3 (by omega)]; exact b6.2.1) (fun v hv => by rw [f7 _ (by omega) (by omega), if_pos (by omega)]) (by rw [f7 224 (by omega) (by omega), if_neg (by omega)]) ?_ ?_ (fun v hv => ?_) ?_ f4 (fun b hb1 hb2 => ?_) (fun v hv => ?_) ?_ f5 ?_ ?_ ?_ ?_ ?_ (fun o q z => ?_) (fun o q z => ?_)
    · refine Tr_N (fun v hv => ?_) (fun b hb => ?_) (Tr_pre hw2 hpre hT2 (hT2.2.2.1.trans (hS 2 (by omega)).symm))
      · rw [eV] at hv
        rw [n28 v (by omega), if_pos hv, dN_v (by omega)]
      · rw [eB] at hb
        rw [n36 b (by omega), if_pos hb, dN_b (by omega)]
    · rw [mK 37 (by omega) (by omega) (by omega), kb 37 0 (by omega), e3]
    · rw [mK 41 (by omega) (by omega) (by omega), kb 41 v (by omega), e4 v hv]
    · rw [mK 6 (by omega) (by omega) (by omega), kb 6 3 (by omega), e2]
    · rw [eB] at hb1
      rw [n36 b hb2, if_neg (by omega)]; rfl
    · rw [eV] at hv
      obtain ⟨w, _, w2, w3, w4⟩ := b6.2.2.2.1 v hv
      exact ⟨w, w2, w3, by rw [n28 v (by omega), if_pos hv, w4]⟩
    · rw [mK 79 (by omega) (by omega) (by omega), ← hKe, xu_ee]
    · rw [mK 1 (by omega) (by omega) (by omega), kb 1 1 (by omega), e7 1 1 (by omega) (by omega) (by omega) (by omega) (by omega), xu_rne (by decide), xu_ee]
    · rw [f3 2 (by omega) (by omega), b5]
    · rw [mK 42 (by omega) (by omega) (by omega), kb 42 0 (by omega), e5]
    · rw [mK 42 (by omega) (by omega) (by omega), kb 42 1 (by omega), e6]
    · rw [mK 0 (by omega) (by omega) (by omega), kb 0 16 (by omega), e7 0 16 (by omega) (by omega) (by omega) (by omega) (by omega), xu_ee, b7, f3 16 (by omega) (by omega)]
    · by_cases y : o = 209
      · subst y
        exact m9 q (by omega) (by omega) (by omega)
      · rw [mK o y (by omega) (by omega)]
        exact kI o q (by omega) (by omega) (by omega) (by omega) (by omega) (by omega) (by omega) (by omega) (by omega) (by omega)
    · unfold vJ at z
      rw [f8 o (by omega), b9.2.1 o (by omega) (by omega), e8 o (by omega), a8.2 o (by omega) (by omega)]
end CHH
