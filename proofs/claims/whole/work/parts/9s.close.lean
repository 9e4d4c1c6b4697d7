/-! The reference's loop over a sentence; brackets. -/
noncomputable def HD (g e L : Nat) (M : TI) (N : TJ) : Option xOut := xlim (xcall xprog g) mX12_sentence 1 [.ref 209, .int 1, xD] [] (xst e L M N)
/-- both sides have the same fault -/
def SFl (g e L : Nat) (c : Option xOut) (I : TI) (J : TJ) (M : TI) (N : TJ) : Prop := ∃ K J' M' N', c = some (some (.int 0), xst e L K J') ∧ HD g e L M N = some (some (.int (-1 - M' 209 17)), xst e L M' N') ∧ Flt K M' ∧ senC K I J' J ∧ senR M' M N' N
section HDS
variable {d d' f f' g e L : Nat} {T : Nat → Int32} {I K K2 M M' M2 : TI} {J J' J2 N N' N2 : TJ} {P Q R : List Cd} {X Y : List Nat} {i j k m n a t l dp on most V B : Nat} {x y till : Int32} {wh ow aw : Bool} {cf : xCF}
theorem hd_op (h : M 209 53 = 0) : HD g e L M N = xcI (xcall xprog g 259 [.ref 209] (xst e L M N)) (kX12_sentence_4_1 (xcall xprog g) 209 1) := by
  unfold HD
  rw [bX12_sentence_1, if_neg i10, if_pos h, bX12_sentence_3, if_pos h, bX12_sentence_4]
theorem hd_bh (h : ¬ M 209 53 = 0) (h2 : ¬ M 209 12 = 0) : HD g e L M N = xcI (xcall xprog g 260 [.ref 209] (xst e L M N)) (kX12_sentence_3_4 (xcall xprog g) 209 1) := by
  unfold HD
  rw [bX12_sentence_1, if_neg i10, if_neg h, if_neg h2, bX12_sentence_3, if_neg h]
theorem hd_end (h : ¬ M 209 53 = 0) (h2 : M 209 12 = 0) : HD g e L M N = xcV (xcall xprog g 257 [.ref 209] (xst e L M N)) (kX12_sentence_1_9 (xcall xprog g) 209) := by
  unfold HD
  rw [bX12_sentence_1, if_neg i10, if_neg h, if_pos h2]
theorem wh_t (h : SR T n most V B P Q X on dp true I J M N) : ¬ M 209 53 = 0 := by
  rw [h.2.2.2.2.2.2.2.2]
  decide
theorem clr_23 (ha : a ≠ 23) : clr (X ++ [23]) a := fun Y z => by
  have := congrArg List.getLast? z
  rw [List.getLast?_concat, List.getLast?_concat] at this
  injection this with this
  exact ha this.symm
theorem b_23 (hb : ∀ b, b ∈ X → b < 100) (ha : a < 100) : ∀ b, b ∈ X ++ [a] → b < 100 := fun b hm => by
  rcases List.mem_append.mp hm with z | z
  · exact hb b z
  · rw [List.mem_singleton] at z; omega
/-- behind an operand no joining word: all that waits is done -/
theorem flush (h : SR T n most V B P Q (X ++ wt2 ow aw ++ n20 k) on (dp + k) true I J M N) (hP : P = Q ++ nt k ++ fl2 ow aw) (hq : Q.length + k + 2 < 45) (hx : X.length + 2 + k < 45) (hd : dp + k < 1000) (h20 : clr X 20) (h21 : clr X 21) (h22 : clr X 22) (hb : ∀ b, b ∈ X → b < 100) : ∃ M1 M2, xcall xprog (f + 2) 257 [.ref 209] (xst e L M N) = some (none, xst e L M1 N) ∧ xcall xprog (f + 2) 256 [.ref 209, .int 22] (xst e L M1 N) = some (none, xst e L M2 N) ∧ SR T n most V B P (Q ++ nt k) (X ++ wt2 ow aw) on dp true I J M1 N ∧ SR T n most V B P P X on dp true I J M2 N ∧ senR M2 M N N := by
  obtain ⟨M1, a1, a2, a3⟩ := bh_nots (f := f) (e := e) (L := L) h (by omega) hx hd h20 hb
  have lq : (Q ++ nt k).length + 2 < 45 := by rw [nt_len]; omega
  obtain ⟨M2, b1, b2, b3⟩ := bh_joins (f := f) (e := e) (L := L) a2 lq (by omega) hb h21 h22
  rw [← hP] at b2
  exact ⟨M1, M2, a1, b1, a2, b2, senR_t a3 b3⟩
/-- a bracket is closed, or not -/
theorem hd_close (h : SR T n most V B P Q ((X ++ [23]) ++ wt2 ow aw ++ n20 k) on (dp + 1 + k) true I J M N) (hP : P = Q ++ nt k ++ fl2 ow aw) (hq : Q.length + k + 2 < 45) (hx : X.length + 3 + k < 45) (hd : dp + 1 + k < 1000) (hb : ∀ b, b ∈ X → b < 100) (n72 : ¬ I 5 0 = n32 (64 + 8)) (n73 : ¬ I 5 0 = n32 (64 + 9)) : (∃ K J' M' N', xcall xprog (f + 3) 95 [.ref 5, .int 41] (xst e L I J) = some (some (.int 1), xst e L K J') ∧ HD (f' + 4) e L M N = HD (f' + 4) e L M' N' ∧ SR T n most V B P P X on dp true K J' M' N' ∧ senC K I J' J ∧ senR M' M N' N) ∨ SFl (f' + 4) e L (xcall xprog (f + 3) 95 [.ref 5, .int 41] (xst e L I J)) I J M N := by
  have hb' := b_23 (a := 23) hb (by omega)
  have lx : (X ++ [23]).length = X.length + 1 := l1
  have h20 : clr (X ++ [23]) 20 := clr_23 (by omega)
  have h21 : clr (X ++ [23]) 21 := clr_23 (by omega)
  have h22 : clr (X ++ [23]) 22 := clr_23 (by omega)
  have z53 := wh_t h
  by_cases z0 : I 5 0 = 0
  · obtain ⟨M1, M2, a1, a2, a3, a4, a5⟩ := flush (f := f' + 2) (e := e) (L := L) h hP hq (by rw [lx]; omega) hd h20 h21 h22 hb'
    obtain ⟨K, M', r1, r2, r3, r4, r5⟩ := lk_ref (d := f + 1) (d' := f' + 3) (e := e) (L := L) 1 a4.1
    have n41 : ¬ I 5 0 = 41 := by rw [z0]; decide
    have top : ¬ M2 209 51 ≤ 0 := by
      rw [a4.2.2.2.2.2.2.1.1, lx]
      exact fun y => absurd ((n32_ge0 (by omega)).mp y) (by omega)
    refine Or.inr ⟨K, J, M', N, ?_, ?_, r3, fC_s r4, senR_t a5 (fR_s r5)⟩
    · rw [aX9_take, bX9_take_0, if_neg n41, r1, xcI_some, ekX9_take_0_6, xrZ0]
    · rw [hd_end z53 ((tok_end h.1.2.1).mp z0), a1, xcV_some, ekX12_sentence_1_9, a2, xcV_some, ekX12_sentence_1_12, if_neg top, r2, xcI_some, ekX12_sentence_1_18]
  · have z12 : ¬ M 209 12 = 0 := fun y => z0 ((tok_end h.1.2.1).mpr y)
    obtain ⟨M1, M2, a1, a2, a3, a4, a5⟩ := flush (f := f' + 1) (e := e) (L := L) h hP hq (by rw [lx]; omega) hd h20 h21 h22 hb'
    have m51 : M2 209 51 = n32 (X.length + 1) := by rw [a4.2.2.2.2.2.2.1.1, lx]
    have m52 : M2 209 52 = n32 (dp + 1) := a4.2.2.2.2.2.2.2.1
    have be : xcall xprog (f' + 4) 260 [.ref 209] (xst e L M N) = kX12_behindOne_6_5 (xcall xprog (f' + 3)) 209 (if I 5 0 = n32 41 then 1 else 0) (xst e L M2 N) := by
      rw [aX12_behindOne, bX12_behindOne_0, a1, xcV_some, ekX12_behindOne_0_1, r_isWord (k := 9) (by omega) (show Int64.ofNat 6385252 = xwd 9 by decide) a3.1.2.1, xcI_some, ekX12_behindOne_0_4, if_neg n73, if_pos i00, r_isWord (k := 8) (by omega) (show Int64.ofNat 28530 = xwd 8 by decide) a3.1.2.1, xcI_some, ekX12_behindOne_0_8, if_neg n72, if_pos i00, bX12_behindOne_6, a2, xcV_some, ekX12_behindOne_6_2, r_isSign (g := 41) (by omega) (show (41 : Int32) = n32 41 from rfl) a4.1.2.1, xcI_some]
    rw [hd_bh z53 z12, be, ekX12_behindOne_6_5]
    by_cases z41 : I 5 0 = n32 41
    · have z41' : I 5 0 = 41 := z41
      have e1 : n32 (X.length + 1) - 1 = n32 X.length := n32_sub (b := 1) (by omega)
      have e2 : n32 (dp + 1) - 1 = n32 dp := n32_sub (b := 1) (by omega)
      have t0 : ¬ n32 (X.length + 1) = 0 := fun y => absurd ((n32_eq0 (by omega)).mp y) (by omega)
      generalize hMa : xu (xu M2 209 51 (n32 X.length)) 209 52 (n32 dp) = Ma
      have mo : ∀ o, o ≠ 209 → Ma o = M2 o := fun o z => by rw [← hMa, xu_rne z, xu_rne z]
      have m9 : ∀ q, q ≠ 51 → q ≠ 52 → Ma 209 q = M2 209 q := fun q z1 z2 => by rw [← hMa, xu_kne z2, xu_kne z1]
      obtain ⟨h1, h2, h3, h4, h5, h6, h7, h8, h9⟩ := a4
      have s2 : senR Ma M2 N N := ⟨fun o z1 z2 z3 => mo o z1, fun _ _ => rfl, fun q z => m9 q (by omega) (by omega)⟩
      have h1' : Par T n most I J Ma N := Par_c (fun _ _ => rfl) rfl (fun q z => m9 q (by omega) (by omega)) (mo 210 (by omega)) rfl h1
      have h' : SR T n most V B P P X on dp true I J Ma N := ⟨h1', Nm_s h2 senC_r s2, h3, by rw [m9 50 (by omega) (by omega), h4], h5, RfS_c (m9 49 (by omega) (by omega)) (mo 213 (by omega)) h6, Stk_pop h7 (by rw [← hMa, xu_kne (by decide), xu_ee]) (mo 227 (by omega)), by rw [← hMa, xu_ee], by rw [m9 53 (by omega) (by omega), h9]⟩
      obtain ⟨K, J', M', N', b1, b2, b3, b4, b5, _⟩ := lk_adv (d := f) (d' := f' + 1) (e := e) (L := L) h1'
      refine Or.inl ⟨K, J', M', N', ?_, ?_, SR_f h' b3 b4 b5, fC_s b4, senR_t a5 (senR_t s2 (fR_s b5))⟩
      · rw [aX9_take, bX9_take_0, if_pos z41', bX9_take_1, b1, xcV_some, ekX9_take_1_1]
      · rw [if_pos z41, if_neg i10, m51, if_neg t0, bX12_behindOne_8, m51, m52, e1, e2, hMa, b2, xcV_some, ekX12_behindOne_8_13, xcI_some, ekX12_sentence_3_4, if_neg i10]
        rfl
    · obtain ⟨K, M', r1, r2, r3, r4, r5⟩ := lk_ref (d := f + 1) (d' := f' + 2) (e := e) (L := L) 1 a4.1
      have n41 : ¬ I 5 0 = 41 := z41
      refine Or.inr ⟨K, J, M', N, ?_, ?_, r3, fC_s r4, senR_t a5 (fR_s r5)⟩
      · rw [aX9_take, bX9_take_0, if_neg n41, r1, xcI_some, ekX9_take_0_6, xrZ0]
      · rw [hd_bh z53 z12, be, ekX12_behindOne_6_5, if_neg z41, if_pos i00, bX12_behindOne_7, r2, xcI_some, ekX12_behindOne_7_2, xrZ0, xcI_some, ekX12_sentence_3_4, if_pos i00, bX12_sentence_5]
end HDS
