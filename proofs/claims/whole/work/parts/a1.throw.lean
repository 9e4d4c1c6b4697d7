/-! The four calls that throw, with the law's own row between the two sides. -/
def stw (cm rm : Nat) (as : List Value) : Prop := ∀ (d d' e L : Nat) (I : TI) (J : TJ), Inv I J →
  (∃ x K, xcall xprog (d + 40) cm (.ref 0 :: as) (xst e L I J) = some (some (.int x), xst e L K J) ∧ ∀ J0 : TJ, (∀ o k, o ≠ 232 → J0 o k = J o k) → ∃ M, xcall xprog (d' + 40) rm (.ref 209 :: as) (xst e L K J0) = some (some (.int x), xst e L M J0) ∧ Inv M J0 ∧ M 209 0 = 0) ∨
  (xcall xprog (d + 40) cm (.ref 0 :: as) (xst e L I J) = some (some xT, xst (e + 1) L I J) ∧ ∀ e', ∃ y M, xcall xprog (d' + 40) rm (.ref 209 :: as) (xst e' L I J) = some (some (.int y), xst e' L M J) ∧ Inv M J ∧ M 209 0 = 1)
section THW
variable {d d' e L cm rm : Nat} {as : List Value} {V : Int32} {I K M : TI} {J J' : TJ}
theorem Inv_J (h : ∀ o k, o ≠ 232 → J' o k = J o k) (hI : Inv I J) : Inv I J' := by
  obtain ⟨_, _, _, _, _, ht, _, _, hg, hc, hd, _⟩ := id hI
  refine Inv_g hI (fun _ _ _ => rfl) (fun o k z => h o k (by unfold gJ vJ at z; omega)) ?_ ht hg hc hd
  funext k
  unfold nmN
  by_cases z : k < 28
  · rw [if_pos z, if_pos z, h 215 k (by omega)]
  · rw [if_neg z, if_neg z]
theorem stw_y (h : Inv I J) (hc : RR (xcall xprog (d + 40) cm (.ref 0 :: as) (xst e L I J)) (zI e L (oC (I 211) (nmN J) I J V))) (hr : ∀ K J0, RS (I 211) K → RR (xcall xprog (d' + 40) rm (.ref 209 :: as) (xst e L K J0)) (zI e L fun y M J' => oR (I 211) K J0 V y M J' ∧ M 209 0 = 0)) : ∃ x K, xcall xprog (d + 40) cm (.ref 0 :: as) (xst e L I J) = some (some (.int x), xst e L K J) ∧ ∀ J0 : TJ, (∀ o k, o ≠ 232 → J0 o k = J o k) → ∃ M, xcall xprog (d' + 40) rm (.ref 209 :: as) (xst e L K J0) = some (some (.int x), xst e L M J0) ∧ Inv M J0 ∧ M 209 0 = 0 := by
  obtain ⟨o, r1, x, K, J1, r2, x1, j1, f1, hC⟩ := hc
  subst r2
  subst j1
  refine ⟨x, K, r1, fun J0 h0 => ?_⟩
  obtain ⟨o2, s1, y, M, J2, s2, ⟨y1, j2, f2, hR⟩, m0⟩ := hr K J0 (RS_cf (cfr_r209 f1) h.2.1)
  subst s2
  subst j2
  exact ⟨M, by rw [s1, y1, x1], Inv_J h0 (Inv_q h f1 hC f2 hR), m0⟩
theorem stw_n (h : Inv I J) (hr : RR (xcall xprog (d' + 40) rm (.ref 209 :: as) (xst e L I J)) (zI e L fun y M J' => oR (I 211) I J 0 y M J' ∧ M 209 0 = 1)) : ∃ y M, xcall xprog (d' + 40) rm (.ref 209 :: as) (xst e L I J) = some (some (.int y), xst e L M J) ∧ Inv M J ∧ M 209 0 = 1 := by
  obtain ⟨o2, s1, y, M, J2, s2, ⟨y1, j2, f2, hR⟩, m0⟩ := hr
  subst s2
  subst j2
  exact ⟨y, M, s1, Inv_q h cfr_r h.1 f2 hR, m0⟩
theorem w_block (y x : Int32) : stw 116 203 [.int y, .int x] := by
  intro d d' e L I J h
  have h20 := wf_B h.1.1.1
  have no : ((y < 0 ∨ ¬ y < n32 (sB (I 211))) ∨ x < 0 ∨ ¬ x ≤ 7) → xcall xprog (d + 40) 116 [.ref 0, .int y, .int x] (xst e L I J) = some (some xT, xst (e + 1) L I J) ∧ ∀ e', ∃ z M, xcall xprog (d' + 40) 203 [.ref 209, .int y, .int x] (xst e' L I J) = some (some (.int z), xst e' L M J) ∧ Inv M J ∧ M 209 0 = 1 := fun q =>
    ⟨c_block_f (d := d + 33) h.1 q, fun e' => ⟨_, _, r_block_f (d := d' + 32) h.2.1 q, Inv_0 h, xu_ee⟩⟩
  rcases inr_or y (sB (I 211)) (by omega) with ⟨b, hb, rfl⟩ | hy
  rotate_left
  · exact Or.inr (no (Or.inl hy))
  by_cases q0 : x < 0
  · exact Or.inr (no (Or.inr (Or.inl q0)))
  by_cases q7 : x ≤ 7
  rotate_left
  · exact Or.inr (no (Or.inr (Or.inr q7)))
  exact Or.inl (stw_y h (c_block_t (d := d + 33) h.1 hb q0 q7) (fun K J0 hK => r_block_t (d := d' + 32) hK hb q0 q7))
theorem w_guilt (x : Int32) : stw 137 239 [.int x] := by
  intro d d' e L I J h
  have no : (swN (I 211) 255 (sV (I 211)) = 0 ∨ x < 0 ∨ ¬ x ≤ 1) → xcall xprog (d + 40) 137 [.ref 0, .int x] (xst e L I J) = some (some xT, xst (e + 1) L I J) ∧ ∀ e', ∃ z M, xcall xprog (d' + 40) 239 [.ref 209, .int x] (xst e' L I J) = some (some (.int z), xst e' L M J) ∧ Inv M J ∧ M 209 0 = 1 := fun q =>
    ⟨c_guilt_f (d := d + 33) h.1 q, fun e' => stw_n h (r_guilt_f (d := d' + 32) h.2.1 q)⟩
  by_cases qa : swN (I 211) 255 (sV (I 211)) = 0
  · exact Or.inr (no (Or.inl qa))
  by_cases q0 : x < 0
  · exact Or.inr (no (Or.inr (Or.inl q0)))
  by_cases q1 : x ≤ 1
  rotate_left
  · exact Or.inr (no (Or.inr (Or.inr q1)))
  exact Or.inl (stw_y h (c_guilt_t (d := d + 33) h.1 q0 q1 qa) (fun K J0 hK => r_guilt_t (d := d' + 32) hK q0 q1 qa))
theorem w_mean (x : Int32) : stw 138 240 [.int x] := by
  intro d d' e L I J h
  have no : (sB (I 211) = 0 ∨ x < 0 ∨ ¬ x ≤ 1) → xcall xprog (d + 40) 138 [.ref 0, .int x] (xst e L I J) = some (some xT, xst (e + 1) L I J) ∧ ∀ e', ∃ z M, xcall xprog (d' + 40) 240 [.ref 209, .int x] (xst e' L I J) = some (some (.int z), xst e' L M J) ∧ Inv M J ∧ M 209 0 = 1 := fun q =>
    ⟨c_mean_f (d := d + 33) h.1 q, fun e' => ⟨_, _, r_mean_f (d := d' + 32) h.2.1 q, Inv_0 h, xu_ee⟩⟩
  by_cases qa : sB (I 211) = 0
  · exact Or.inr (no (Or.inl qa))
  by_cases q0 : x < 0
  · exact Or.inr (no (Or.inr (Or.inl q0)))
  by_cases q1 : x ≤ 1
  rotate_left
  · exact Or.inr (no (Or.inr (Or.inr q1)))
  exact Or.inl (stw_y h (RR_eq (c_mean_t (d := d + 33) h.1 q0 q1 (by omega)) (RR_I ⟨rfl, rfl, cfr_r, h.1⟩)) (fun K J0 hK => r_mean_t (d := d' + 32) hK q0 q1 (by omega)))
theorem w_link (y z x : Int32) : stw 122 211 [.int y, .int z, .int x] := by
  intro d d' e L I J h
  have no : (¬ lnk (I 211) y z ∨ x < 0 ∨ ¬ x ≤ 5) → xcall xprog (d + 40) 122 [.ref 0, .int y, .int z, .int x] (xst e L I J) = some (some xT, xst (e + 1) L I J) ∧ ∀ e', ∃ z' M, xcall xprog (d' + 40) 211 [.ref 209, .int y, .int z, .int x] (xst e' L I J) = some (some (.int z'), xst e' L M J) ∧ Inv M J ∧ M 209 0 = 1 := fun q =>
    ⟨c_link_f (d := d + 33) h.1 q, fun e' => stw_n h (r_link_f (d := d' + 31) h.2.1 q)⟩
  rcases Classical.em (lnk (I 211) y z) with qa | qa
  rotate_left
  · exact Or.inr (no (Or.inl qa))
  by_cases q0 : x < 0
  · exact Or.inr (no (Or.inr (Or.inl q0)))
  by_cases q1 : x ≤ 5
  rotate_left
  · exact Or.inr (no (Or.inr (Or.inr q1)))
  obtain ⟨s, t, h1, h2, rfl, rfl, h3, h4, h5⟩ := qa
  exact Or.inl (stw_y h (c_link_t (d := d + 33) h.1 h1 h2 h3 h4 h5 q0 q1) (fun K J0 hK => r_link_t (d := d' + 31) hK h1 h2 h3 h4 h5 q0 q1))
end THW
