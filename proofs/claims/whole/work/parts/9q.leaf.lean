/-! Operands without others. -/
section LFS
variable {d d' f f' e L : Nat} {T : Nat → Int32} {I K K2 M M' M2 : TI} {J J' J2 N N' N2 : TJ} {P Q R : List Cd} {X Y : List Nat} {i j k m n a t l dp on g most V B : Nat} {x y till : Int32} {w : Int64} {wh : Bool} {cf : xCF}
theorem kdm_l (h : l < 10) : kdm l = 75 + l := by
  unfold kdm
  rw [if_neg (by omega), if_neg (by omega), if_neg (by omega)]
/-- a step and a code -/
theorem lk_step (h : SR T n most V B P P X on dp wh I J M N) (hl : P.length < 40) (hx : till = n32 (kdm a)) : ∃ K M', xcall xprog (d + 1) 74 [.ref 119, .int till, .int x, .int y] (xst e L I J) = some (some (.int 1), xst e L K J) ∧ xcall xprog (d' + 1) 255 [.ref 209, .int (n32 a), .int x, .int y] (xst e L M N) = some (none, xst e L M' N) ∧ SR T n most V B (P ++ [(a, x, y)]) (P ++ [(a, x, y)]) X on dp wh K J M' N ∧ senC K I J J ∧ senR M' M N N := by
  obtain ⟨h1, h2, h3, h4, h5, h6, h7, h8, h9⟩ := h
  obtain ⟨K, c1, c2, c3, c4⟩ := c_addStep (d := d) (e := e) (L := L) (J := J) (x := x) (y := y) h5 hl hx
  obtain ⟨M', r1, r2, r3, r4⟩ := r_code (d := d') (e := e) (L := L) (N := N) (x := x) (y := y) h6 (by omega) (show n32 a = n32 a from rfl)
  have s1 : senC K I J J := ⟨fun o z1 z2 => c4 o z2, fun _ _ => rfl⟩
  have s2 : senR M' M N N := ⟨fun o z1 z2 z3 => r3 o z1 z2, fun _ _ => rfl, fun q z => r4 q (by omega)⟩
  exact ⟨K, M', c1, r1, ⟨Par_c (fun o z => c4 o (by omega)) rfl (fun q z => r4 q (by omega)) (r3 210 (by omega) (by omega)) rfl h1, Nm_s h2 s1 s2, by rw [c3, h3], by rw [r4 50 (by omega), h4], c2, r2, Stk_c (r4 51 (by omega)) (r3 227 (by omega) (by omega)) h7, by rw [r4 52 (by omega), h8], by rw [r4 53 (by omega), h9]⟩, s1, s2⟩
theorem SR_wh (h : SR T n most V B P Q X on dp wh I J M N) : SR T n most V B P Q X on dp true I J (xu M 209 53 1) N ∧ senR (xu M 209 53 1) M N N := by
  obtain ⟨h1, h2, h3, h4, h5, h6, h7, h8, h9⟩ := h
  have m9 : ∀ q, q ≠ 53 → (xu M 209 53 1) 209 q = M 209 q := fun q z => xu_kne z
  have mo : ∀ o, o ≠ 209 → (xu M 209 53 1) o = M o := fun o z => xu_rne z
  have s2 : senR (xu M 209 53 1) M N N := ⟨fun o z1 z2 z3 => mo o z1, fun _ _ => rfl, fun q z => m9 q (by omega)⟩
  exact ⟨⟨Par_c (fun _ _ => rfl) rfl (fun q z => m9 q (by omega)) (mo 210 (by omega)) rfl h1, Nm_s h2 senC_r s2, h3, by rw [m9 50 (by omega), h4], h5, RfS_c (m9 49 (by omega)) (mo 213 (by omega)) h6, Stk_c (m9 51 (by omega)) (mo 227 (by omega)) h7, by rw [m9 52 (by omega), h8], by rw [xu_ee]; rfl⟩, s2⟩
theorem tok_cmp (h : Tok I J M N) : (∃ g, 60 ≤ g ∧ g ≤ 62 ∧ I 5 0 = n32 g ∧ M 209 12 = 3 ∧ M 209 15 = n32 g) ∨ ((∃ g, g < 85 ∧ I 5 0 = n32 g ∧ (g < 60 ∨ 62 < g)) ∧ (¬ M 209 12 = 3 ∨ (M 209 12 = 3 ∧ ∃ g, g < 85 ∧ M 209 15 = n32 g ∧ (g < 60 ∨ 62 < g)))) := by
  rcases h.2 with h | h | h | ⟨g', h1, h2, h3, h4⟩ | h
  · exact Or.inr ⟨⟨0, by omega, h.1, by omega⟩, Or.inl (by rw [h.2]; decide)⟩
  · exact Or.inr ⟨⟨1, by omega, h.1, by omega⟩, Or.inl (by rw [h.2]; decide)⟩
  · exact Or.inr ⟨⟨3, by omega, h.1, by omega⟩, Or.inl (by rw [h.2.1]; decide)⟩
  · by_cases z : 60 ≤ g' ∧ g' ≤ 62
    · exact Or.inl ⟨g', z.1, z.2, h2, h3, h4⟩
    · exact Or.inr ⟨⟨g', by omega, h2, by omega⟩, Or.inr ⟨h3, g', by omega, h4, by omega⟩⟩
  · obtain ⟨g2, g3, g4⟩ := kw_r (w := N 209 18)
    exact Or.inr ⟨⟨g2, by omega, h.1.trans g4, by omega⟩, Or.inl (by rw [h.2.1]; decide)⟩
theorem lk_leaf (h : SR T n most V B P P X on dp false I J M N) (hB : B ≤ 20) (h75 : 75 ≤ g) (h84 : g ≤ 84) (hl : P.length < 40) (hgd : good P) : (∃ K J' M' N' x y, kX7_readOne_4_7 (xcall xprog (f + 5)) 119 5 7 (n32 dp) (n32 g) (xst e L I J) = some (some (.int 1), xst e L K J') ∧ kX12_operand_3_7 (xcall xprog (f' + 5)) 209 0 0 (n32 (g - 75)) (xst e L M N) = some (some (.int 1), xst e L M' N') ∧ SR T n most V B (P ++ [(g - 75, x, y)]) (P ++ [(g - 75, x, y)]) X on dp true K J' M' N' ∧ good (P ++ [(g - 75, x, y)]) ∧ senC K I J' J ∧ senR M' M N' N) ∨ ∃ K J' M' N', kX7_readOne_4_7 (xcall xprog (f + 5)) 119 5 7 (n32 dp) (n32 g) (xst e L I J) = some (some (.int 0), xst e L K J') ∧ kX12_operand_3_7 (xcall xprog (f' + 5)) 209 0 0 (n32 (g - 75)) (xst e L M N) = some (some (.int 0), xst e L M' N') ∧ Flt K M' ∧ senC K I J' J ∧ senR M' M N' N := by
  obtain ⟨hw, sw⟩ := SR_wh h
  have hk : kdm (g - 75) = g := by rw [kdm_l (by omega)]; omega
  have n40 : ¬ n32 g = 40 := lit_ne (b := 40) (by omega) (by omega) (by omega)
  have n74 : ¬ n32 g = 74 := lit_ne (b := 74) (by omega) (by omega) (by omega)
  rw [ekX7_readOne_4_7, if_neg n40, bX7_readOne_7, if_neg n74, bX7_readOne_10, ekX12_operand_3_7, if_pos i00, if_pos i00, bX12_operand_7]
  by_cases c5 : g < 80
  · have n80 : ¬ n32 g = 80 := lit_ne (b := 80) (by omega) (by omega) (by omega)
    have l81 : n32 g < 81 := (n32_lt (b := 81) (by omega) (by omega)).mpr (by omega)
    have l5 : n32 (g - 75) < 5 := (n32_lt (b := 5) (by omega) (by omega)).mpr (by omega)
    obtain ⟨K, M', a1, a2, a3, a4, a5⟩ := lk_step (d := f + 4) (d' := f' + 4) (e := e) (L := L) (a := g - 75) (x := 0) (y := 0) (till := n32 g) hw hl (by rw [hk])
    refine Or.inl ⟨K, J, M', N, 0, 0, ?_, ?_, a3, good_a hgd (Or.inl (by show g - 75 < 10; omega)) (fun z => absurd z (by show ¬ g - 75 = 5; omega)) (fun z => absurd z (by show ¬ 6 ≤ g - 75; omega)), a4, senR_t sw a5⟩
    · rw [if_neg n80, bX7_readOne_13, if_pos l81, a1, xcI_some, ekX7_readOne_13_7, bX7_readOne_15, xrZ1]
    · rw [if_pos l5, a2, xcV_some, ekX12_operand_7_10]
  have l5 : ¬ n32 (g - 75) < 5 := fun z => absurd ((n32_lt (b := 5) (by omega) (by omega)).mp z) (by omega)
  rw [if_neg l5, bX12_operand_8]
  by_cases c80 : g = 80
  · subst c80
    have p1 : n32 80 = 80 := rfl
    have p2 : n32 (80 - 75) = 5 := rfl
    rw [if_pos p1, if_pos p2, c_blockNamed_7 hw.2.1.2.2.2.1 hw.2.1.2.1, xcI_some, ekX7_readOne_10_7]
    rcases lk_bb (d := f + 2) (d' := f' + 2) (e := e) (L := L) hw.1 hw.2.1 with ⟨cv, K, J', M', N', b1, b2, b, b3, rfl, b5, b6, b7, b8⟩ | ⟨K, J', M', N', b1, b2, b3, b4, b5⟩
    rotate_left
    · refine Or.inr ⟨K, J', M', N', ?_, ?_, b3, fC_s b4, senR_t sw (fR_s b5)⟩
      · rw [b1, xcI_some, ekX7_readOne_10_8, if_pos im1, bX7_readOne_11, bX7_readOne_12, xrZ0]
      · rw [b2, xcI_some, ekX12_operand_8_9, if_pos i00]
    have hw2 := SR_f hw b6 b7 b8
    obtain ⟨K2, M2, a1, a2, a3, a4, a5⟩ := lk_step (d := f + 4) (d' := f' + 4) (e := e) (L := L) (a := 80 - 75) (x := 0) (y := n32 b) (till := 80) hw2 hl (by rw [hk]; rfl)
    refine Or.inl ⟨K2, J', M2, N', 0, n32 b, ?_, ?_, a3, good_a hgd (Or.inl (by show 80 - 75 < 10; omega)) (fun _ => ⟨b, by omega, rfl⟩) (fun z => absurd z (by show ¬ 6 ≤ 80 - 75; omega)), senC_t (fC_s b7) a4, senR_t (senR_t sw (fR_s b8)) a5⟩
    · rw [b1, xcI_some, ekX7_readOne_10_8, if_neg (n32_ne1 (by omega)), a1, xcI_some, ekX7_readOne_10_17, if_neg i10, bX7_readOne_12, xrZ1]
    · rw [b2, xcI_some, ekX12_operand_8_9, if_neg i10, bX12_operand_9, b5, a2, xcV_some, ekX12_operand_9_5]
  have n80 : ¬ n32 g = 80 := lit_ne (b := 80) (by omega) (by omega) c80
  have l81 : ¬ n32 g < 81 := fun z => absurd ((n32_lt (b := 81) (by omega) (by omega)).mp z) (by omega)
  have n5 : ¬ n32 (g - 75) = 5 := lit_ne (b := 5) (by omega) (by omega) (by omega)
  rw [if_neg n80, bX7_readOne_13, if_neg l81, bX7_readOne_14, aX7_readMeasure, bX7_readMeasure_0, if_neg n5, bX12_operand_10]
  rcases tok_cmp hw.1.2.1 with ⟨s, s1, s2, s3, s4, s5⟩ | ⟨⟨s, s1, s2, s3⟩, q⟩
  rotate_left
  · obtain ⟨K, M', r1, r2, r3, r4, r5⟩ := lk_ref (d := f + 3) (d' := f' + 4) (e := e) (L := L) 1 hw.1
    refine Or.inr ⟨K, J, M', N, ?_, ?_, r3, fC_s r4, senR_t sw (fR_s r5)⟩
    · have t : xlim (xcall xprog (f + 4)) mX7_readMeasure 1 [xD, .ref 5, xD, xD, xD] [] (xst e L I J) = some (some (.int 0), xst e L K J) := by rw [bX7_readMeasure_1, r1, xcI_some, ekX7_readMeasure_1_2, xrZ0]
      have t2 : (if I 5 0 < 60 then xlim (xcall xprog (f + 4)) mX7_readMeasure 1 [xD, .ref 5, xD, xD, xD] [] (xst e L I J) else if I 5 0 ≤ 62 then xlim (xcall xprog (f + 4)) mX7_readMeasure 2 [.ref 119, .ref 5, .int (n32 g), .int (I 5 0), xD] [] (xst e L I J) else xlim (xcall xprog (f + 4)) mX7_readMeasure 1 [xD, .ref 5, xD, xD, xD] [] (xst e L I J)) = some (some (.int 0), xst e L K J) := by
        rw [s2]
        by_cases z : s < 60
        · rw [if_pos ((q60l (by omega)).mpr z), t]
        · rw [if_neg (fun y => z ((q60l (by omega)).mp y)), if_neg (fun y => absurd ((q62r (by omega)).mp y) (by omega)), t]
      rw [t2, xcI_some, ekX7_readOne_14_3, bX7_readOne_15, xrZ0]
    · have t : xlim (xcall xprog (f' + 5)) mX12_operand 11 [.ref 209, xD, xD, xD, xD] [] (xst e L (xu M 209 53 1) N) = some (some (.int 0), xst e L M' N) := by rw [bX12_operand_11, r2, xcI_some, ekX12_operand_11_2, xrZ0]
      rcases q with q | ⟨q, s', q1, q2, q3⟩
      · rw [if_neg q, t]
      · rw [if_pos q, q2]
        by_cases z : s' < 60
        · rw [if_pos ((q60l (by omega)).mpr z), t]
        · rw [if_neg (fun y => z ((q60l (by omega)).mp y)), if_neg (fun y => absurd ((q62r (by omega)).mp y) (by omega)), t]
  obtain ⟨K, J', M', N', a1, a2, a3, a4, a5, _⟩ := lk_adv (d := f + 2) (d' := f' + 3) (e := e) (L := L) hw.1
  have hw2 := SR_f hw a3 a4 a5
  rw [s3, if_neg (fun y => absurd ((q60l (by omega)).mp y) (by omega)), if_pos ((q62r (by omega)).mpr s2), bX7_readMeasure_2, a1, xcV_some, ekX7_readMeasure_2_1, if_pos s4, s5, if_neg (fun y => absurd ((q60l (by omega)).mp y) (by omega)), if_pos ((q62r (by omega)).mpr s2), bX12_operand_12, s5, a2, xcV_some, ekX12_operand_12_4, aX9_takeNumber, bX9_takeNumber_0]
  rcases tok_dig a3.2.1 with ⟨t1, t2, t3, m, t4, t5⟩ | ⟨t1, t2⟩
  rotate_left
  · obtain ⟨K2, M2, r1, r2, r3, r4, r5⟩ := lk_ref (d := f + 2) (d' := f' + 4) (e := e) (L := L) 1 a3
    refine Or.inr ⟨K2, J', M2, N', ?_, ?_, r3, fC_s (fC_t a4 r4), senR_t sw (fR_s (fR_t a5 r5))⟩
    · rw [if_neg t1, r1, xcI_some, ekX9_takeNumber_0_6, xcI_some, ekX7_readMeasure_2_5, if_pos im1, bX7_readMeasure_3, bX7_readMeasure_4, xrZ0, xcI_some, ekX7_readOne_14_3, bX7_readOne_15, xrZ0]
    · rw [if_neg t2, r2, xcI_some, ekX12_operand_12_11, xrZ0]
  -- the class takes the number, then adds the step; the reference the other way round
  obtain ⟨Mc, r1, r2, r3, r4⟩ := r_code (d := f' + 4) (e := e) (L := L) (N := N') (a := g - 75) (x := n32 s) (y := n32 m) (till := n32 (g - 75)) hw2.2.2.2.2.2.1 (by omega) rfl
  have pc : Par T n most K J' Mc N' := Par_c (fun _ _ => rfl) rfl (fun q z => r4 q (by omega)) (r3 210 (by omega) (by omega)) rfl a3
  obtain ⟨K3, J3, M3, N3, b1, b2, b3, b4, b5, _⟩ := lk_adv (d := f + 1) (d' := f' + 3) (e := e) (L := L) pc
  obtain ⟨K4, c1, c2, c3, c4⟩ := c_addStep (d := f + 3) (e := e) (L := L) (J := J3) (x := n32 s) (y := n32 m) (a := g - 75) (till := n32 g) (I := K3) (ClS_c (fun o z1 z2 => by rw [b4.1 o (by omega)]) hw2.2.2.2.2.1) hl (by rw [hk])
  have e0 : ¬ n32 m < 0 := n32_neg (by omega)
  have e9 : n32 m ≤ 999 := (n32_le (b := 999) (by omega) (by omega)).mpr (by omega)
  have sc : senC K4 I J3 J := senC_t (fC_s (fC_t a4 b4)) ⟨fun o z1 z2 => c4 o z2, fun _ _ => rfl⟩
  have scr : senR Mc M' N' N' := ⟨fun o z1 z2 z3 => r3 o z1 z2, fun _ _ => rfl, fun q z => r4 q (by omega)⟩
  have sr : senR M3 M N3 N := senR_t (senR_t sw (fR_s a5)) (senR_t scr (fR_s b5))
  obtain ⟨_, g2, g3, g4, g5, g6, g7, g8, g9⟩ := h
  obtain ⟨_, _, g3', g4', _, _, g7', g8', g9'⟩ := hw2
  refine Or.inl ⟨K4, J3, M3, N3, n32 s, n32 m, ?_, ?_, ⟨Par_c (fun o z => c4 o (by omega)) rfl (fun _ _ => rfl) rfl rfl b3, Nm_s g2 sc sr, by rw [c3, b4.1 119 (by omega), g3'], by rw [b5.2.2 50 (by omega), r4 50 (by omega), g4'], c2, RfS_c (b5.2.2 49 (by omega)) (b5.1 213 (by omega)) r2, Stk_c (by rw [b5.2.2 51 (by omega), r4 51 (by omega)]) (by rw [b5.1 227 (by omega), r3 227 (by omega) (by omega)]) g7', by rw [b5.2.2 52 (by omega), r4 52 (by omega), g8'], by rw [b5.2.2 53 (by omega), r4 53 (by omega), g9']⟩, good_a hgd (Or.inl (by show g - 75 < 10; omega)) (fun z => absurd z (by show ¬ g - 75 = 5; omega)) (fun _ _ => ⟨s, m, s1, s2, t4, rfl, rfl⟩), sc, sr⟩
  · rw [if_pos t1, bX9_takeNumber_1, t3, t5, if_neg e0, if_pos e9, bX9_takeNumber_3, b1, xcV_some, ekX9_takeNumber_3_4, t3, t5, xcI_some, ekX7_readMeasure_2_5, if_neg (n32_ne1 (by omega)), c1, xcI_some, ekX7_readMeasure_2_14, if_neg i10, bX7_readMeasure_4, xrZ1, xcI_some, ekX7_readOne_14_3, bX7_readOne_15, xrZ1]
  · rw [if_pos t2, bX12_operand_13, t5, r1, xcV_some, ekX12_operand_13_5, b2, xcV_some, ekX12_operand_13_7]
end LFS
