/-! The calls that throw. -/
/-- one call that may throw, on both sides -/
def stt (cm rm : Nat) (as : List Value) : Prop := ∀ d e L I J, Inv I J → RR (xcall xprog (d + 40) cm (.ref 0 :: as) (xst e L I J)) (zI e L fun x K J' => RR (xcall xprog (d + 40) rm (.ref 209 :: as) (xst e L K J')) (zI e L fun y M J'' => x = y ∧ Inv M J'' ∧ M 209 0 = 0)) ∨ (xcall xprog (d + 40) cm (.ref 0 :: as) (xst e L I J) = some (some xT, xst (e + 1) L I J) ∧ ∀ e', RR (xcall xprog (d + 40) rm (.ref 209 :: as) (xst e' L I J)) (zI e' L fun y M J'' => Inv M J'' ∧ M 209 0 = 1))
section THR
variable {d e L : Nat} {S : TS} {I K M : TI} {J J' : TJ}
theorem stt_y {cm rm : Nat} {as : List Value} {V : Int32} (h : Inv I J) (hc : RR (xcall xprog (d + 40) cm (.ref 0 :: as) (xst e L I J)) (zI e L (oC (I 211) (nmN J) I J V))) (hr : ∀ K, RS (I 211) K → RR (xcall xprog (d + 40) rm (.ref 209 :: as) (xst e L K J)) (zI e L fun y M J' => oR (I 211) K J V y M J' ∧ M 209 0 = 0)) : RR (xcall xprog (d + 40) cm (.ref 0 :: as) (xst e L I J)) (zI e L fun x K J' => RR (xcall xprog (d + 40) rm (.ref 209 :: as) (xst e L K J')) (zI e L fun y M J'' => x = y ∧ Inv M J'' ∧ M 209 0 = 0)) := by
  refine RR_wI hc (fun x K J' ⟨x1, j1, f1, hC⟩ => ?_)
  subst j1
  refine RR_wI (hr K (RS_cf (cfr_r209 f1) h.2.1)) (fun y M J2 ⟨⟨y1, j2, f2, hR⟩, m0⟩ => ?_)
  subst j2
  exact ⟨x1.trans y1.symm, Inv_q h f1 hC f2 hR, m0⟩
theorem stt_n (h : Inv I J) {e : Nat} {rm : Nat} {as : List Value} (hr : RR (xcall xprog (d + 40) rm (.ref 209 :: as) (xst e L I J)) (zI e L fun y M J' => oR (I 211) I J 0 y M J' ∧ M 209 0 = 1)) : RR (xcall xprog (d + 40) rm (.ref 209 :: as) (xst e L I J)) (zI e L fun y M J'' => Inv M J'' ∧ M 209 0 = 1) := by
  refine RR_wI hr (fun y M J2 ⟨⟨y1, j2, f2, hR⟩, m0⟩ => ?_)
  subst j2
  exact ⟨Inv_q h cfr_r h.1 f2 hR, m0⟩
theorem t_block (y x : Int32) : stt 116 203 [.int y, .int x] := by
  intro d e L I J h
  have h20 := wf_B h.1.1.1
  have no : ((y < 0 ∨ ¬ y < n32 (sB (I 211))) ∨ x < 0 ∨ ¬ x ≤ 7) → xcall xprog (d + 40) 116 [.ref 0, .int y, .int x] (xst e L I J) = some (some xT, xst (e + 1) L I J) ∧ ∀ e', RR (xcall xprog (d + 40) 203 [.ref 209, .int y, .int x] (xst e' L I J)) (zI e' L fun y M J'' => Inv M J'' ∧ M 209 0 = 1) := fun q =>
    ⟨c_block_f (d := d + 33) h.1 q, fun e' => RR_eq (r_block_f (d := d + 32) h.2.1 q) (RR_I ⟨Inv_0 h, xu_ee⟩)⟩
  rcases inr_or y (sB (I 211)) (by omega) with ⟨b, hb, rfl⟩ | hy
  rotate_left
  · exact Or.inr (no (Or.inl hy))
  by_cases q0 : x < 0
  · exact Or.inr (no (Or.inr (Or.inl q0)))
  by_cases q7 : x ≤ 7
  rotate_left
  · exact Or.inr (no (Or.inr (Or.inr q7)))
  exact Or.inl (stt_y h (c_block_t (d := d + 33) h.1 hb q0 q7) (fun K hK => r_block_t (d := d + 32) hK hb q0 q7))
theorem t_guilt (x : Int32) : stt 137 239 [.int x] := by
  intro d e L I J h
  have no : (swN (I 211) 255 (sV (I 211)) = 0 ∨ x < 0 ∨ ¬ x ≤ 1) → xcall xprog (d + 40) 137 [.ref 0, .int x] (xst e L I J) = some (some xT, xst (e + 1) L I J) ∧ ∀ e', RR (xcall xprog (d + 40) 239 [.ref 209, .int x] (xst e' L I J)) (zI e' L fun y M J'' => Inv M J'' ∧ M 209 0 = 1) := fun q =>
    ⟨c_guilt_f (d := d + 33) h.1 q, fun e' => stt_n h (r_guilt_f (d := d + 32) h.2.1 q)⟩
  by_cases qa : swN (I 211) 255 (sV (I 211)) = 0
  · exact Or.inr (no (Or.inl qa))
  by_cases q0 : x < 0
  · exact Or.inr (no (Or.inr (Or.inl q0)))
  by_cases q1 : x ≤ 1
  rotate_left
  · exact Or.inr (no (Or.inr (Or.inr q1)))
  exact Or.inl (stt_y h (c_guilt_t (d := d + 33) h.1 q0 q1 qa) (fun K hK => r_guilt_t (d := d + 32) hK q0 q1 qa))
theorem t_mean (x : Int32) : stt 138 240 [.int x] := by
  intro d e L I J h
  have no : (sB (I 211) = 0 ∨ x < 0 ∨ ¬ x ≤ 1) → xcall xprog (d + 40) 138 [.ref 0, .int x] (xst e L I J) = some (some xT, xst (e + 1) L I J) ∧ ∀ e', RR (xcall xprog (d + 40) 240 [.ref 209, .int x] (xst e' L I J)) (zI e' L fun y M J'' => Inv M J'' ∧ M 209 0 = 1) := fun q =>
    ⟨c_mean_f (d := d + 33) h.1 q, fun e' => RR_eq (r_mean_f (d := d + 32) h.2.1 q) (RR_I ⟨Inv_0 h, xu_ee⟩)⟩
  by_cases qa : sB (I 211) = 0
  · exact Or.inr (no (Or.inl qa))
  by_cases q0 : x < 0
  · exact Or.inr (no (Or.inr (Or.inl q0)))
  by_cases q1 : x ≤ 1
  rotate_left
  · exact Or.inr (no (Or.inr (Or.inr q1)))
  exact Or.inl (stt_y h (RR_eq (c_mean_t (d := d + 33) h.1 q0 q1 (by omega)) (RR_I ⟨rfl, rfl, cfr_r, h.1⟩)) (fun K hK => r_mean_t (d := d + 32) hK q0 q1 (by omega)))
theorem t_linkk (y z x : Int32) : stt 122 211 [.int y, .int z, .int x] := by
  intro d e L I J h
  have no : (¬ lnk (I 211) y z ∨ x < 0 ∨ ¬ x ≤ 5) → xcall xprog (d + 40) 122 [.ref 0, .int y, .int z, .int x] (xst e L I J) = some (some xT, xst (e + 1) L I J) ∧ ∀ e', RR (xcall xprog (d + 40) 211 [.ref 209, .int y, .int z, .int x] (xst e' L I J)) (zI e' L fun y M J'' => Inv M J'' ∧ M 209 0 = 1) := fun q =>
    ⟨c_link_f (d := d + 33) h.1 q, fun e' => stt_n h (r_link_f (d := d + 31) h.2.1 q)⟩
  rcases Classical.em (lnk (I 211) y z) with qa | qa
  rotate_left
  · exact Or.inr (no (Or.inl qa))
  by_cases q0 : x < 0
  · exact Or.inr (no (Or.inr (Or.inl q0)))
  by_cases q1 : x ≤ 5
  rotate_left
  · exact Or.inr (no (Or.inr (Or.inr q1)))
  obtain ⟨s, t, h1, h2, rfl, rfl, h3, h4, h5⟩ := qa
  exact Or.inl (stt_y h (c_link_t (d := d + 33) h.1 h1 h2 h3 h4 h5 q0 q1) (fun K hK => r_link_t (d := d + 31) hK h1 h2 h3 h4 h5 q0 q1))
end THR
