/-! Operands that are joined. -/
section CND
variable {d d' f f' g h e L : Nat} {T : Nat → Int32} {I K K2 M M' M2 : TI} {J J' J2 N N' N2 : TJ} {P Q R : List Cd} {X Y : List Nat} {i j k m n a t l dp on most V B : Nat} {x y till : Int32} {wh ow aw : Bool} {cf : xCF}
theorem c_isJoint : xcall xprog (d + 1) 71 [.int x] (xst e L I J) = some (some (.int (if x = 72 then 1 else if x = 73 then 1 else 0)), xst e L I J) := by
  rw [aX7_isJoint, bX7_isJoint_0]
  by_cases z : x = 72
  · rw [if_pos z, if_pos z, bX7_isJoint_1, bX7_isJoint_3, xrZ1]
  · rw [if_neg z, if_neg z]
    by_cases y : x = 73
    · rw [if_pos y, if_pos y, bX7_isJoint_1, bX7_isJoint_3, xrZ1]
    · rw [if_neg y, if_neg y, bX7_isJoint_2, bX7_isJoint_3, xrZ0]
theorem fl2_o : fl2 false aw ++ [(22, 0, 0)] = fl2 true aw := by cases aw <;> rfl
theorem fl2_a : ([] : List Cd) ++ [(21, 0, 0)] = fl2 false true := rfl
theorem wt2_a : (X ++ wt2 ow false) ++ [21] = X ++ wt2 ow true := by
  unfold wt2
  rw [if_neg Bool.false_ne_true, if_pos rfl, List.append_nil, List.append_assoc]
theorem fl2_n (aw : Bool) : fl2 false aw = if aw = true then [(21, 0, 0)] else [] := by cases aw <;> rfl
theorem cls11 (v5 : Int32) : xlim cf mX7_readCond 11 [.ref 119, xD, xD, xD, .int 0, .int v5, xD, xD] [] (xst e L I J) = some (some (.int 0), xst e L I J) := by
  rw [bX7_readCond_11, if_pos i00, bX7_readCond_13, bX7_readCond_14, xrZ0]
theorem cls1 (v3 v5 v6 : Int32) : xlim cf mX7_readCond 1 [.ref 119, .ref 5, .ref 7, .int v3, .int 0, .int v5, .int v6, xD] [] (xst e L I J) = some (some (.int 0), xst e L I J) := by
  rw [bX7_readCond_1, if_pos i00, cls11, ite_self]
/-- a step of the class alone -/
theorem st_add (h : SR T n most V B P Q X on dp wh I J M N) (hl : P.length < 40) (hx : till = n32 (kdm a)) : ∃ K, xcall xprog (d + 1) 74 [.ref 119, .int till, .int 0, .int 0] (xst e L I J) = some (some (.int 1), xst e L K J) ∧ SR T n most V B (P ++ [(a, 0, 0)]) Q X on dp wh K J M N ∧ senC K I J J ∧ K 5 = I 5 := by
  obtain ⟨s1, s2, s3, s4, s5, s6, s7, s8, s9⟩ := h
  obtain ⟨K, d1, d2, d3, d4⟩ := c_addStep (d := d) (e := e) (L := L) (J := J) (x := 0) (y := 0) s5 hl hx
  have sc : senC K I J J := ⟨fun o z1 z2 => d4 o z2, fun _ _ => rfl⟩
  exact ⟨K, d1, ⟨Par_c (fun o z => d4 o (by omega)) rfl (fun _ _ => rfl) rfl rfl s1, Nm_s s2 sc senR_r, by rw [d3, s3], s4, d2, s6, s7, s8, s9⟩, sc, d4 5 (by omega)⟩
/-- a joint: the reference from the head to the next operand; the class reads on -/
theorem hd_or (hS : SR T n most V B P Q (X ++ wt2 ow aw ++ n20 k) on (dp + k) true I J M N) (hP : P = Q ++ nt k ++ fl2 ow aw) (hq : Q.length + k + 2 < 45) (hx : X.length + 3 + k < 45) (hd : dp + k < 1000) (h20 : clr X 20) (h21 : clr X 21) (h22 : clr X 22) (hb : ∀ b, b ∈ X → b < 100) (z : I 5 0 = n32 (64 + 8)) : ∃ K J' M' N', xcall xprog (f + 2) 89 [.ref 5] (xst e L I J) = some (none, xst e L K J') ∧ HD (h + 6) e L M N = HD (h + 6) e L M' N' ∧ SR T n most V B P P (X ++ [22]) on dp false K J' M' N' ∧ senC K I J' J ∧ senR M' M N' N := by
  have n73 : ¬ I 5 0 = n32 (64 + 9) := by rw [z]; decide
  have n0 : ¬ I 5 0 = 0 := by rw [z]; decide
  have z12 : ¬ M 209 12 = 0 := fun y => n0 ((tok_end hS.1.2.1).mpr y)
  obtain ⟨M1, M2, a1, a2, a3, a4, a5⟩ := flush (f := h + 3) (e := e) (L := L) hS hP hq (by omega) hd h20 h21 h22 hb
  obtain ⟨K, J', M', N', b1, b2, b3, b4, b5⟩ := bh_push (f := f) (f' := h + 3) (e := e) (L := L) (a := 22) (x := 22) a4 (by omega) rfl
  refine ⟨K, J', M', N', b1, ?_, b3, b4, senR_t a5 b5⟩
  rw [hd_bh (wh_t hS) z12, aX12_behindOne, bX12_behindOne_0, a1, xcV_some, ekX12_behindOne_0_1, r_isWord (k := 9) (by omega) (show Int64.ofNat 6385252 = xwd 9 by decide) a3.1.2.1, xcI_some, ekX12_behindOne_0_4, if_neg n73, if_pos i00, r_isWord (k := 8) (by omega) (show Int64.ofNat 28530 = xwd 8 by decide) a3.1.2.1, xcI_some, ekX12_behindOne_0_8, if_pos z, if_neg i10, bX12_behindOne_1, r_isWord (k := 9) (by omega) (show Int64.ofNat 6385252 = xwd 9 by decide) a3.1.2.1, xcI_some, ekX12_behindOne_1_3, if_neg n73, if_pos i00, bX12_behindOne_2, bX12_behindOne_3, a2, xcV_some, ekX12_behindOne_3_0, r_isWord (k := 9) (by omega) (show Int64.ofNat 6385252 = xwd 9 by decide) a4.1.2.1, xcI_some, ekX12_behindOne_3_7, if_neg n73, if_pos i00, bX12_behindOne_4, b2, xcI_some, ekX12_sentence_3_4, if_neg i10]
  rfl
theorem hd_and (hS : SR T n most V B P Q (X ++ wt2 ow aw ++ n20 k) on (dp + k) true I J M N) (hP : P = Q ++ nt k ++ fl2 false aw) (hq : Q.length + k + 2 < 45) (hx : X.length + 3 + k < 45) (hd : dp + k < 1000) (h20 : clr X 20) (h21 : clr X 21) (hb : ∀ b, b ∈ X → b < 100) (z : I 5 0 = n32 (64 + 9)) : ∃ K J' M' N', xcall xprog (f + 2) 89 [.ref 5] (xst e L I J) = some (none, xst e L K J') ∧ HD (h + 6) e L M N = HD (h + 6) e L M' N' ∧ SR T n most V B P P ((X ++ wt2 ow false) ++ [21]) on dp false K J' M' N' ∧ senC K I J' J ∧ senR M' M N' N := by
  have n0 : ¬ I 5 0 = 0 := by rw [z]; decide
  have z12 : ¬ M 209 12 = 0 := fun y => n0 ((tok_end hS.1.2.1).mpr y)
  obtain ⟨M1, a1, a3, a6⟩ := bh_nots (f := h + 3) (e := e) (L := L) hS (by omega) (by omega) hd h20 hb
  have lq : (Q ++ nt k).length + 2 < 45 := by rw [nt_len]; omega
  obtain ⟨M2, a2, a4, a5⟩ := bh_joinsB (f := h + 3) (e := e) (L := L) a3 lq (by omega) hb h21
  rw [← hP] at a4
  have hw := bw2 (ow := ow) (aw := false)
  obtain ⟨K, J', M', N', b1, b2, b3, b4, b5⟩ := bh_push (f := f) (f' := h + 3) (e := e) (L := L) (a := 21) (x := 21) a4 (by rw [List.length_append, wt2_len]; omega) rfl
  refine ⟨K, J', M', N', b1, ?_, b3, b4, senR_t a6 (senR_t a5 b5)⟩
  rw [hd_bh (wh_t hS) z12, aX12_behindOne, bX12_behindOne_0, a1, xcV_some, ekX12_behindOne_0_1, r_isWord (k := 9) (by omega) (show Int64.ofNat 6385252 = xwd 9 by decide) a3.1.2.1, xcI_some, ekX12_behindOne_0_4, if_pos z, if_neg i10, bX12_behindOne_1, r_isWord (k := 9) (by omega) (show Int64.ofNat 6385252 = xwd 9 by decide) a3.1.2.1, xcI_some, ekX12_behindOne_1_3, if_pos z, if_neg i10, bX12_behindOne_3, a2, xcV_some, ekX12_behindOne_3_0, r_isWord (k := 9) (by omega) (show Int64.ofNat 6385252 = xwd 9 by decide) a4.1.2.1, xcI_some, ekX12_behindOne_3_7, if_pos z, if_neg i10, b2, xcI_some, ekX12_sentence_3_4, if_neg i10]
  rfl
end CND
