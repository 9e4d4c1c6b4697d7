/-! What comes behind an operand. -/
section BHD
variable {d d' f f' e L : Nat} {T : Nat → Int32} {I K K2 M M' M2 : TI} {J J' J2 N N' N2 : TJ} {P Q R : List Cd} {X Y : List Nat} {i j k m n a t l dp on g most V B : Nat} {x y till : Int32} {wh ow aw : Bool} {cf : xCF}
theorem clr_w (ha : a ≠ 21) (ha' : a ≠ 22) (h : clr X a) : clr (X ++ wt2 ow aw) a := by
  have key : ∀ (Z : List Nat) (b : Nat), b ≠ a → clr (Z ++ [b]) a := fun Z b hb Y z => by
    have := congrArg List.getLast? z
    rw [List.getLast?_concat, List.getLast?_concat] at this
    injection this with this
    exact hb this
  unfold wt2
  cases ow <;> cases aw
  · rw [if_neg Bool.false_ne_true, if_neg Bool.false_ne_true, List.append_nil, List.append_nil]; exact h
  · rw [if_neg Bool.false_ne_true, if_pos rfl, List.nil_append]; exact key _ _ (fun z => ha z.symm)
  · rw [if_pos rfl, if_neg Bool.false_ne_true, List.append_nil]; exact key _ _ (fun z => ha' z.symm)
  · rw [if_pos rfl, if_pos rfl, ← List.append_assoc]; exact key _ _ (fun z => ha z.symm)
theorem wt2_len : (wt2 ow aw).length = (bif ow then 1 else 0) + (bif aw then 1 else 0) := by cases ow <;> cases aw <;> rfl
theorem fl2_len : (fl2 ow aw).length = (bif ow then 1 else 0) + (bif aw then 1 else 0) := by cases ow <;> cases aw <;> rfl
theorem wt2_b (hb : ∀ b, b ∈ X → b < 100) : ∀ b, b ∈ X ++ wt2 ow aw → b < 100 := fun b hm => by
  rcases List.mem_append.mp hm with z | z
  · exact hb b z
  · have : b = 21 ∨ b = 22 := by
      unfold wt2 at z
      cases ow <;> cases aw <;> simp at z <;> omega
    omega
theorem bw2 : (bif ow then 1 else 0) + (bif aw then 1 else 0) ≤ 2 := by cases ow <;> cases aw <;> decide
/-- first the NOTs -/
theorem bh_nots (h : SR T n most V B P Q (X ++ wt2 ow aw ++ n20 k) on (dp + k) true I J M N) (hq : Q.length + k < 45) (hx : X.length + 2 + k < 45) (hd : dp + k < 1000) (hc : clr X 20) (hb : ∀ b, b ∈ X → b < 100) : ∃ M', xcall xprog (f + 2) 257 [.ref 209] (xst e L M N) = some (none, xst e L M' N) ∧ SR T n most V B P (Q ++ nt k) (X ++ wt2 ow aw) on dp true I J M' N ∧ senR M' M N N := by
  obtain ⟨h1, h2, h3, h4, h5, h6, h7, h8, h9⟩ := h
  have hw := bw2 (ow := ow) (aw := aw)
  obtain ⟨M', a1, a2, a3, a4, a5, a6⟩ := r_nots (d := f) (e := e) (L := L) (N := N) (X := X ++ wt2 ow aw) k Q M h7 h6 hq (by rw [List.length_append, wt2_len]; omega) h8 hd (clr_w (by omega) (by omega) hc) (wt2_b hb)
  refine ⟨M', by rw [aX12_nots]; exact a1, ⟨Par_c (fun _ _ => rfl) rfl (fun q z => a6.2 q (by omega)) (a6.1 210 (by omega) (by omega) (by omega)) rfl h1, Nm_s h2 senC_r (pR_s a6), h3, by rw [a5 50 (by omega) (by omega) (by omega) (by omega), h4], h5, a3, a2, a4, by rw [a5 53 (by omega) (by omega) (by omega) (by omega), h9]⟩, pR_s a6⟩
/-- then what joins -/
theorem bh_joins (h : SR T n most V B P Q (X ++ wt2 ow aw) on dp wh I J M N) (hq : Q.length + 2 < 45) (hx : X.length + 2 < 45) (hb : ∀ b, b ∈ X → b < 100) (h21 : clr X 21) (h22 : clr X 22) : ∃ M', xcall xprog (f + 2) 256 [.ref 209, .int 22] (xst e L M N) = some (none, xst e L M' N) ∧ SR T n most V B P (Q ++ fl2 ow aw) X on dp wh I J M' N ∧ senR M' M N N := by
  obtain ⟨h1, h2, h3, h4, h5, h6, h7, h8, h9⟩ := h
  obtain ⟨M', a1, a2, a3, a5, a6⟩ := r_joinA (d := f) (e := e) (L := L) (N := N) h7 h6 hq hx hb h21 h22
  exact ⟨M', a1, ⟨Par_c (fun _ _ => rfl) rfl (fun q z => a6.2 q (by omega)) (a6.1 210 (by omega) (by omega) (by omega)) rfl h1, Nm_s h2 senC_r (pR_s a6), h3, by rw [a5 50 (by omega) (by omega) (by omega), h4], h5, a3, a2, by rw [a5 52 (by omega) (by omega) (by omega), h8], by rw [a5 53 (by omega) (by omega) (by omega), h9]⟩, pR_s a6⟩
theorem bh_joinsB (h : SR T n most V B P Q (X ++ wt2 ow aw) on dp wh I J M N) (hq : Q.length + 2 < 45) (hx : X.length + 2 < 45) (hb : ∀ b, b ∈ X → b < 100) (h21 : clr X 21) : ∃ M', xcall xprog (f + 2) 256 [.ref 209, .int 21] (xst e L M N) = some (none, xst e L M' N) ∧ SR T n most V B P (Q ++ fl2 false aw) (X ++ wt2 ow false) on dp wh I J M' N ∧ senR M' M N N := by
  obtain ⟨h1, h2, h3, h4, h5, h6, h7, h8, h9⟩ := h
  obtain ⟨M', a1, a2, a3, a5, a6⟩ := r_joinB (d := f) (e := e) (L := L) (N := N) h7 h6 hq hx hb h21
  exact ⟨M', a1, ⟨Par_c (fun _ _ => rfl) rfl (fun q z => a6.2 q (by omega)) (a6.1 210 (by omega) (by omega) (by omega)) rfl h1, Nm_s h2 senC_r (pR_s a6), h3, by rw [a5 50 (by omega) (by omega) (by omega), h4], h5, a3, a2, by rw [a5 52 (by omega) (by omega) (by omega), h8], by rw [a5 53 (by omega) (by omega) (by omega), h9]⟩, pR_s a6⟩
/-- a joining word is put on the stack, and the next token read -/
theorem bh_push (h : SR T n most V B P Q X on dp wh I J M N) (hx : X.length < 45) (ha : x = n32 a) : ∃ K J' M' N', xcall xprog (f + 2) 89 [.ref 5] (xst e L I J) = some (none, xst e L K J') ∧ xlim (xcall xprog (f' + 2)) mX12_behindOne 5 [.ref 209] [.int x, .int (M 209 51), .ref 227] (xst e L M N) = some (some (.int 1), xst e L M' N') ∧ SR T n most V B P Q (X ++ [a]) on dp false K J' M' N' ∧ senC K I J' J ∧ senR M' M N' N := by
  subst ha
  obtain ⟨h1, h2, h3, h4, h5, h6, h7, h8, h9⟩ := h
  generalize hMa : xu (xu (xu M 227 X.length (n32 a)) 209 51 (n32 (X.length + 1))) 209 53 0 = Ma
  have mo : ∀ o, o ≠ 209 → o ≠ 227 → Ma o = M o := fun o z1 z2 => by rw [← hMa, xu_rne z1, xu_rne z1, xu_rne z2]
  have m9 : ∀ q, q ≠ 51 → q ≠ 53 → Ma 209 q = M 209 q := fun q z1 z2 => by rw [← hMa, xu_kne z2, xu_kne z1, xu_rne (by decide)]
  have m51 : Ma 209 51 = n32 (X.length + 1) := by rw [← hMa, xu_kne (by decide), xu_ee]
  have m53 : Ma 209 53 = 0 := by rw [← hMa, xu_ee]
  have m27 : Ma 227 = up (M 227) X.length (n32 a) := by rw [← hMa, xu_rne (by decide), xu_rne (by decide), xu_row]
  have s2 : senR Ma M N N := ⟨fun o z1 z2 z3 => mo o z1 z3, fun _ _ => rfl, fun q z => m9 q (by omega) (by omega)⟩
  have h1' : Par T n most I J Ma N := Par_c (fun _ _ => rfl) rfl (fun q z => m9 q (by omega) (by omega)) (mo 210 (by omega) (by omega)) rfl h1
  have h' : SR T n most V B P Q (X ++ [a]) on dp false I J Ma N := ⟨h1', Nm_s h2 senC_r s2, h3, by rw [m9 50 (by omega) (by omega), h4], h5, RfS_c (m9 49 (by omega) (by omega)) (mo 213 (by omega) (by omega)) h6, Stk_push h7 m51 m27, by rw [m9 52 (by omega) (by omega), h8], m53⟩
  obtain ⟨K, J', M', N', a1, a2, a3, a4, a5, _⟩ := lk_adv (d := f) (d' := f') (e := e) (L := L) h1'
  refine ⟨K, J', M', N', a1, ?_, SR_f h' a3 a4 a5, fC_s a4, senR_t s2 (fR_s a5)⟩
  have mx : (xu M 227 X.length (n32 a)) 209 51 = n32 X.length := by rw [xu_rne (by decide), h7.1]
  rw [bX12_behindOne_5, h7.1, xin_n32 (by omega) hx, cond_true, n32_nat (by omega), n32_succ, hMa, a2, xcV_some, ekX12_behindOne_5_11]
end BHD
