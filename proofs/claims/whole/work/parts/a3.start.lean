/-! What the two constructors leave holds between two calls; the law's loop. -/
section LWS
variable {d e L i : Nat} {I : TI} {J : TJ} {A : TI} {B : TJ}
theorem inv_cells (s0 : A 211 0 = 1) (s1 : A 211 1 = 0) (s2 : A 211 2 = 0) (s3 : A 211 3 = 0) (s4 : A 211 224 = 0) (t0 : A 7 0 = 1) (t1 : A 7 1 = 0) (t2 : A 7 2 = 0) (a0 : A 37 0 = 0) (h6 : A 6 3 = 1) (h34 : A 209 34 = 0) (n0 : ∀ k, B 215 k = 0) (g1 : A 79 1 = 0) (g2 : A 79 2 = 0) (g3 : A 209 38 = 0) (p1 : A 1 1 = 0) (p2 : A 209 2 = 0) (q0 : A 42 0 = 0) (q1 : A 42 1 = 0) (i0 : ∀ k, A 207 k = 0) (i1 : ∀ k, A 231 k = 0) (u1 : A 3 1 = 0) (u2 : A 209 43 = 0) (c0 : A 71 0 = -1) (c1 : A 71 1 = -1) (c2 : A 209 40 = -1) (c3 : A 209 41 = -1) (c4 : A 0 16 = 0) (c5 : A 209 16 = 0) (d0 : A 209 47 = 0) (d1 : ∀ k, k < 4 → A 73 k = -1) (w : ∀ k, k < 21 → B 216 k = xwd k) : Inv A B := by
  have eE : sE (A 211) = 1 := by unfold sE; rw [s0]; decide
  have eV : sV (A 211) = 0 := by unfold sV; rw [s1]; decide
  have eB : sB (A 211) = 0 := by unfold sB; rw [s2]; decide
  have eK : sK (A 211) = 0 := by unfold sK; rw [s3]; decide
  have nv : ∀ {v : Nat} {P : Prop}, v < 0 → P := fun h => absurd h (Nat.not_lt_zero _)
  have hW : WS (A 211) := by
    refine ⟨?_, ?_, ?_⟩
    · unfold wfT
      rw [eE, eV, eB]
      exact ⟨by omega, by omega, s0, by omega, s1, by omega, s2, fun v hv => nv hv, fun hv => nv hv, fun b _ hv => nv hv, fun b hv => nv hv⟩
    · unfold wfK
      rw [eK]
      exact ⟨by omega, s3, fun i hi => nv hi⟩
    · unfold wfL
      rw [eV]
      exact fun v hv => nv hv
  have hT : Tr 7 (A 211) (nmN B) A B := by
    unfold Tr
    rw [eV, eB]
    exact ⟨t0.trans s0.symm, t1.trans s1.symm, t2.trans s2.symm, fun v hv => nv hv, fun b hb => nv hb⟩
  have hA : Ac 37 (A 211) A := by
    unfold Ac
    rw [eV, eK]
    exact ⟨a0.trans s3.symm, fun i hi => nv hi, fun v hv => nv hv⟩
  refine ⟨⟨hW, hT, hA, fun z => absurd z (by rw [h6]; decide)⟩, ⟨hW, rfl, fun z => absurd h34 z⟩, fun b _ hb => ?_, ⟨0, 0, by omega, by omega, g2, g1, g3, fun j hj => nv hj, fun j hj => absurd hj (Nat.not_lt_zero _), fun z => nv z⟩, ?_, ⟨0, by omega, p1, p2, fun i hi => nv hi⟩, ⟨0, by omega, s4, q1, ⟨fun _ => rfl, fun _ => q0⟩, fun z => nv z, fun i hi => nv hi⟩, fun k _ => ⟨(i0 k).trans (i1 k).symm, fun z => absurd (i0 k) z⟩, ⟨0, by omega, u1, u2, fun i hi => nv hi⟩, ⟨c0.trans c2.symm, c1.trans c3.symm, c4.trans c5.symm⟩, ⟨fun _ => d1, fun z => absurd d0 z⟩, w⟩
  · unfold nmN
    rw [if_pos (by omega), n0]
  · unfold NB
    rw [eV]
    exact fun v hv => nv hv
set_option maxRecDepth 20000 in
theorem inv_start (f : TI) (g : TJ) : Inv (I1 f) (J1 g) := by
  refine inv_cells rfl rfl rfl rfl rfl rfl rfl rfl rfl rfl rfl (fun k => rfl) rfl rfl rfl rfl rfl rfl rfl (fun k => rfl) (fun k => rfl) rfl rfl rfl rfl rfl rfl rfl rfl rfl (fun k hk => ?_) (fun k hk => ?_)
  · match k, hk with
    | 0, _ => rfl
    | 1, _ => rfl
    | 2, _ => rfl
    | 3, _ => rfl
  · match k, hk with
    | 0, _ => rfl
    | 1, _ => rfl
    | 2, _ => rfl
    | 3, _ => rfl
    | 4, _ => rfl
    | 5, _ => rfl
    | 6, _ => rfl
    | 7, _ => rfl
    | 8, _ => rfl
    | 9, _ => rfl
    | 10, _ => rfl
    | 11, _ => rfl
    | 12, _ => rfl
    | 13, _ => rfl
    | 14, _ => rfl
    | 15, _ => rfl
    | 16, _ => rfl
    | 17, _ => rfl
    | 18, _ => rfl
    | 19, _ => rfl
    | 20, _ => rfl
    | n + 21, h => exact absurd h (by omega)
theorem lw_out (hi : L < 6 * i + 6) (hL : L ≤ 3072) (h0 : i = 0 ∨ 6 * i ≤ L) : xlim (xcall xprog (d + 41)) mL_law 1 [.ref 1000000, .ref 0, .ref 209, .ref 232, .int (n32 (6 * i)), xD, xD] [] (xst e L I J) = some (some (.int 1), xst e L I J) := by
  have z : ¬ n32 (6 * i) ≤ Int32.ofNat L - 6 := by
    by_cases h6 : 6 ≤ L
    · have e6 : Int32.ofNat L - 6 = n32 (L - 6) := n32_sub (b := 6) h6
      rw [e6]
      exact fun y => absurd ((n32_le (by omega) (by omega)).mp y) (by omega)
    · have hz : i = 0 := by omega
      subst hz
      have hl : L = 0 ∨ L = 1 ∨ L = 2 ∨ L = 3 ∨ L = 4 ∨ L = 5 := by omega
      rcases hl with rfl | rfl | rfl | rfl | rfl | rfl <;> decide
  rw [bL_law_1, if_neg z, bL_law_49]
theorem lw_loop (hL : L ≤ 3072) : ∀ (m i e : Nat) (I : TI) (J : TJ), L < 6 * i + 6 * m + 6 → (i = 0 ∨ 6 * i ≤ L) → Inv I J → ∃ e' M J', e' ≤ e + m ∧ xlim (xcall xprog (d + 41)) mL_law 1 [.ref 1000000, .ref 0, .ref 209, .ref 232, .int (n32 (6 * i)), xD, xD] [] (xst e L I J) = some (some (.int 1), xst e' L M J') := by
  intro m
  induction m with
  | zero =>
    intro i e I J hm h0 hI
    exact ⟨e, I, J, Nat.le_refl _, lw_out (by omega) hL h0⟩
  | succ m ih =>
    intro i e I J hm h0 hI
    by_cases z : 6 * i + 6 ≤ L
    · obtain ⟨e1, M, J1, h1, h2, h3, _⟩ := lw_head (d := d) (e := e) hI z hL
      obtain ⟨e2, M2, J2, k1, k2⟩ := ih (i + 1) e1 M J1 (by omega) (Or.inr (by omega)) h3
      have e6 : n32 (6 * i) + 6 = n32 (6 * (i + 1)) := n32_add (b := 6)
      refine ⟨e2, M2, J2, by omega, ?_⟩
      rw [h2, bL_law_48, e6]
      exact k2
    · exact ⟨e, I, J, Nat.le_add_right _ _, lw_out (by omega) hL h0⟩
end LWS
