/-! readCond, and both by induction. -/
section CNL
variable {d d' f f' g h e L : Nat} {T : Nat → Int32} {I K K2 M M' M2 : TI} {J J' J2 N N' N2 : TJ} {P Q R : List Cd} {X Y : List Nat} {i j k m n a t l dp on most V B : Nat} {x y till : Int32} {wh ow aw : Bool} {cf : xCF}
theorem ap_nil {α : Type} (A : List α) : A ++ [] = A := List.append_nil A
theorem cnd_loop {on0 D0 L0 : Nat} (hf : 2 * (9 - dp) + 8 ≤ f) (hdp : dp ≤ 9) (hL0 : L0 ≤ 2 * on0) (h20 : clr X 20) (h21 : clr X 21) (h22 : clr X 22) (hb : ∀ b, b ∈ X → b < 100) : ∀ c, (∀ m', m' ≤ c → One h e L T n most V B m') → ∀ (on nn k : Nat) (ow aw : Bool) (Q : List Cd) (I : TI) (J : TJ) (M : TI) (N : TJ), on + c = 20 → nn + 1 ≤ on → SR T n most V B (Q ++ nt k ++ fl2 false aw) Q (X ++ wt2 ow aw ++ n20 k) on (dp + k) true I J M N → good (Q ++ nt k ++ fl2 false aw) → dpt (Q ++ nt k ++ fl2 false aw) = D0 + 1 + (bif ow then 1 else 0) → (Q ++ nt k ++ fl2 false aw).length + (bif ow then 1 else 0) + 1 + 2 * on0 ≤ L0 + 2 * on → X.length + (wt2 ow aw).length + k + 1 ≤ 2 * on → on0 < on →
  (∃ K J' M' N' Q' k' ow' aw' on', xlim (xcall xprog f) mX7_readCond 1 [.ref 119, .ref 5, .ref 7, .int (n32 dp), .int 1, .int (bI ow), .int (n32 nn), xD] [] (xst e L I J) = some (some (.int 1), xst e L K J') ∧ HD (h + 6) e L M N = HD (h + 6) e L M' N' ∧ SR T n most V B (Q' ++ nt k' ++ fl2 ow' aw') Q' (X ++ wt2 ow' aw' ++ n20 k') on' (dp + k') true K J' M' N' ∧ good (Q' ++ nt k' ++ fl2 ow' aw') ∧ dpt (Q' ++ nt k' ++ fl2 ow' aw') = D0 + 1 ∧ (Q' ++ nt k' ++ fl2 ow' aw').length + 1 + 2 * on0 ≤ L0 + 2 * on' ∧ X.length + (wt2 ow' aw').length + k' + 1 ≤ 2 * on' ∧ ¬ K 5 0 = n32 (64 + 8) ∧ ¬ K 5 0 = n32 (64 + 9) ∧ on0 < on' ∧ on' ≤ 20 ∧ senC K I J' J ∧ senR M' M N' N) ∨
  SFl (h + 6) e L (xlim (xcall xprog f) mX7_readCond 1 [.ref 119, .ref 5, .ref 7, .int (n32 dp), .int 1, .int (bI ow), .int (n32 nn), xD] [] (xst e L I J)) I J M N := by
  intro c
  obtain ⟨f2, rfl⟩ : ∃ f2, f = f2 + 2 := ⟨f - 2, by omega⟩
  induction c using Nat.strongRecOn with
  | _ c ih =>
    intro hone on nn k ow aw Q I J M N hc hnn hS hgd hdt hPl hXl hon
    have hw2 := bw2 (ow := ow) (aw := aw)
    have hlen : (Q ++ nt k ++ fl2 false aw).length = Q.length + k + (bif aw then 1 else 0) := by rw [List.length_append, nt_len, fl2_len]; cases aw <;> rfl
    have hwl := wt2_len (ow := ow) (aw := aw)
    have haw : (bif aw then 1 else 0) ≤ 1 := by cases aw <;> decide
    have how : (bif ow then 1 else 0) ≤ 1 := by cases ow <;> decide
    rw [bX7_readCond_1, if_pos ((q20l (by omega)).mpr (by omega)), if_neg i10, c_isJoint, xcI_some, ekX7_readCond_1_7]
    by_cases z8 : I 5 0 = n32 (64 + 8)
    · -- or
      have z8' : I 5 0 = 72 := z8
      rw [if_pos z8', if_neg i10, if_pos z8']
      have start : ∃ K1, SR T n most V B (Q ++ nt k ++ fl2 ow aw) Q (X ++ wt2 ow aw ++ n20 k) on (dp + k) true K1 J M N ∧ (senC K1 I J J ∧ K1 5 = I 5) ∧ good (Q ++ nt k ++ fl2 ow aw) ∧ dpt (Q ++ nt k ++ fl2 ow aw) = D0 + 1 ∧ (Q ++ nt k ++ fl2 ow aw).length = Q.length + k + (bif aw then 1 else 0) + (bif ow then 1 else 0) ∧ (if bI ow = 0 then xlim (xcall xprog (f2 + 2)) mX7_readCond 2 [.ref 119, .ref 5, .ref 7, .int (n32 dp), xD, xD, .int (n32 nn), .int (I 5 0)] [] (xst e L I J) else xcI (xcall xprog (f2 + 2) 74 [.ref 119, .int 72, .int 0, .int 0] (xst e L I J)) (kX7_readCond_1_21 (xcall xprog (f2 + 2)) 119 5 7 (n32 dp) (n32 nn) (I 5 0))) = xlim (xcall xprog (f2 + 2)) mX7_readCond 5 [.ref 119, .ref 5, .ref 7, .int (n32 dp), .int 1, .int 1, .int (n32 nn), .int 72] [] (xst e L K1 J) := by
        cases ow with
        | false =>
          refine ⟨I, hS, ⟨senC_r, rfl⟩, hgd, hdt, hlen, ?_⟩
          rw [if_pos bI_f0, bX7_readCond_2, bX7_readCond_4, z8']
        | true =>
          have how1 : (bif true then 1 else 0) = 1 := rfl
          rw [how1] at hdt hPl
          obtain ⟨K1, d1, d2, d3, d5⟩ := st_add (d := f2 + 1) (e := e) (L := L) (a := 22) (till := 72) hS (by omega) rfl
          rw [List.append_assoc, fl2_o] at d2
          refine ⟨K1, d2, ⟨d3, d5⟩, ?_, ?_, ?_, ?_⟩
          · rw [← fl2_o, ← List.append_assoc]
            exact good_a hgd (Or.inr (Or.inr ⟨Or.inr rfl, by omega⟩)) (fun y => absurd y (by decide)) (fun _ y => absurd y (by decide))
          · rw [← fl2_o, ← List.append_assoc, dpt_a, if_neg (show ¬ (22 : Nat) = 20 by decide), if_pos (show (22 : Nat) = 21 ∨ (22 : Nat) = 22 from Or.inr rfl), hdt]
            omega
          · rw [← fl2_o, ← List.append_assoc, l1, hlen]
            rfl
          · rw [if_neg bI_t0, d1, xcI_some, ekX7_readCond_1_21, if_neg i10, bX7_readCond_2, bX7_readCond_4, z8']
      obtain ⟨K1, s1, ⟨s2, k5⟩, s3, s4, s5, s6⟩ := start
      have n73 : ¬ (72 : Int32) = 73 := by decide
      obtain ⟨K2, J2, M2, N2, b1, b2, b3, b4, b5⟩ := hd_or (f := f2) (h := h) (e := e) (L := L) s1 rfl (by omega) (by omega) (by omega) h20 h21 h22 hb (by rw [k5]; exact z8)
      have lx : (X ++ [22]).length = X.length + 1 := l1
      have sc := senC_t s2 b4
      rw [s6, bX7_readCond_5, b1, xcV_some, ekX7_readCond_5_1, if_neg i10]
      rcases hone c (Nat.le_refl _) (f2 + 2) dp on _ (X ++ [22]) K2 J2 M2 N2 hc hf hdp b3 s3 (by omega) (by omega) (b_23 hb (by omega)) with ⟨K3, J3, M3, N3, Q3, k3, on3, c1, c2, c3, c4, c5, c6, c7, c8, c9, c10, c11⟩ | ⟨K3, J3, M3, N3, c1, c2, c3, c4, c5⟩
      rotate_left
      · refine Or.inr ⟨K3, J3, M3, N3, ?_, b2.trans c2, c3, senC_t sc c4, senR_t b5 c5⟩
        rw [c1, xcI_some, ekX7_readCond_5_8, if_pos i00, bX7_readCond_6, bX7_readCond_7, if_neg n73, bX7_readCond_10, cls1]
      rw [c1, xcI_some, ekX7_readCond_5_8, if_neg i10, bX7_readCond_7, if_neg n73, bX7_readCond_10, n32_succ]
      have ef : fl2 false false = [] := rfl
      have ew : wt2 true false = [22] := rfl
      have e1 : (bif true then 1 else 0) = 1 := rfl
      have ih' := ih (20 - on3) (by omega) (fun m' hm => hone m' (by omega)) on3 (nn + 1) k3 true false Q3 K3 J3 M3 N3 (by omega) (by omega)
      rw [ef, ew, ap_nil, bI_t, nt_len, e1] at ih'
      have lw : [22].length = 1 := rfl
      rw [lw] at ih'
      rcases ih' c3 c4 (by omega) (by omega) (by omega) (by omega) with ⟨K4, J4, M4, N4, Q4, k4, ow4, aw4, on4, g1, g2, g3, g4, g5, g6, g7, g8, g9, g10, g11, g12, g13⟩ | g
      · exact Or.inl ⟨K4, J4, M4, N4, Q4, k4, ow4, aw4, on4, g1, b2.trans (c2.trans g2), g3, g4, g5, g6, g7, g8, g9, g10, g11, senC_t sc (senC_t c10 g12), senR_t b5 (senR_t c11 g13)⟩
      · exact Or.inr (SFl_t (senC_t sc c10) (senR_t b5 c11) (b2.trans c2) g)
    have z8' : ¬ I 5 0 = 72 := z8
    rw [if_neg z8']
    by_cases z9 : I 5 0 = n32 (64 + 9)
    · -- and
      have z9' : I 5 0 = 73 := z9
      obtain ⟨K2, J2, M2, N2, b1, b2, b3, b4, b5⟩ := hd_and (f := f2) (h := h) (e := e) (L := L) hS rfl (by omega) (by omega) (by omega) h20 h21 hb z9
      have i73 : (73 : Int32) = 73 := rfl
      have hwl2 := wt2_len (ow := ow) (aw := false)
      have hf0 : (bif false then 1 else 0) = 0 := rfl
      rw [hf0] at hwl2
      have lx : ((X ++ wt2 ow false) ++ [21]).length = X.length + (bif ow then 1 else 0) + 1 := by rw [l1, List.length_append, hwl2]; omega
      rw [if_pos z9', if_neg i10, if_neg z8', z9', bX7_readCond_5, b1, xcV_some, ekX7_readCond_5_1, if_neg i10]
      rcases hone c (Nat.le_refl _) (f2 + 2) dp on _ ((X ++ wt2 ow false) ++ [21]) K2 J2 M2 N2 hc hf hdp b3 hgd (by omega) (by omega) (b_23 (wt2_b hb) (by omega)) with ⟨K3, J3, M3, N3, Q3, k3, on3, c1, c2, c3, c4, c5, c6, c7, c8, c9, c10, c11⟩ | ⟨K3, J3, M3, N3, c1, c2, c3, c4, c5⟩
      rotate_left
      · refine Or.inr ⟨K3, J3, M3, N3, ?_, b2.trans c2, c3, senC_t b4 c4, senR_t b5 c5⟩
        rw [c1, xcI_some, ekX7_readCond_5_8, if_pos i00, bX7_readCond_6, bX7_readCond_7, if_pos i73, if_pos i00, bX7_readCond_8, bX7_readCond_9, bX7_readCond_10, cls1]
      have lq3 : (Q3 ++ nt k3).length = Q3.length + k3 := nt_len
      obtain ⟨K5, d1, d2, d3, _⟩ := st_add (d := f2 + 1) (e := e) (L := L) (a := 21) (till := 73) c3 (by omega) rfl
      rw [wt2_a] at d2
      rw [c1, xcI_some, ekX7_readCond_5_8, if_neg i10, bX7_readCond_7, if_pos i73, if_neg i10, d1, xcI_some, ekX7_readCond_7_10, if_neg i10, bX7_readCond_9, bX7_readCond_10, n32_succ]
      have ef : fl2 false true = [(21, 0, 0)] := rfl
      have ih' := ih (20 - on3) (by omega) (fun m' hm => hone m' (by omega)) on3 (nn + 1) k3 ow true Q3 K5 J3 M3 N3 (by omega) (by omega)
      have hwl3 := wt2_len (ow := ow) (aw := true)
      have ht1 : (bif true then 1 else 0) = 1 := rfl
      rw [ht1] at hwl3
      rw [ef, hwl3, l1, nt_len] at ih'
      have gd : good (Q3 ++ nt k3 ++ [(21, 0, 0)]) := good_a c4 (Or.inr (Or.inr ⟨Or.inl rfl, by omega⟩)) (fun y => absurd y (by decide)) (fun _ y => absurd y (by decide))
      have dt : dpt (Q3 ++ nt k3 ++ [(21, 0, 0)]) = D0 + 1 + (bif ow then 1 else 0) := by
        rw [dpt_a, if_neg (show ¬ (21 : Nat) = 20 by decide), if_pos (show (21 : Nat) = 21 ∨ (21 : Nat) = 22 from Or.inl rfl), c5, hdt]
        omega
      rcases ih' d2 gd dt (by omega) (by omega) (by omega) with ⟨K4, J4, M4, N4, Q4, k4, ow4, aw4, on4, g1, g2, g3, g4, g5, g6, g7, g8, g9, g10, g11, g12, g13⟩ | g
      · exact Or.inl ⟨K4, J4, M4, N4, Q4, k4, ow4, aw4, on4, g1, b2.trans (c2.trans g2), g3, g4, g5, g6, g7, g8, g9, g10, g11, senC_t b4 (senC_t c10 (senC_t d3 g12)), senR_t b5 (senR_t c11 g13)⟩
      · exact Or.inr (SFl_t (senC_t b4 (senC_t c10 d3)) (senR_t b5 c11) (b2.trans c2) g)
    -- no joint
    have z9' : ¬ I 5 0 = 73 := z9
    rw [if_neg z9', if_pos i00, bX7_readCond_11, if_neg i10]
    cases ow with
    | false =>
      rw [if_pos bI_f0, bX7_readCond_12, bX7_readCond_14, xrZ1]
      exact Or.inl ⟨I, J, M, N, Q, k, false, aw, on, rfl, rfl, hS, hgd, hdt, hPl, hXl, z8, z9, hon, by omega, senC_r, senR_r⟩
    | true =>
      have how1 : (bif true then 1 else 0) = 1 := rfl
      rw [how1] at hdt hPl
      obtain ⟨K1, d1, d2, d3, d5⟩ := st_add (d := f2 + 1) (e := e) (L := L) (a := 22) (till := 72) hS (by omega) rfl
      rw [if_neg bI_t0, d1, xcI_some, ekX7_readCond_11_8, if_neg i10, bX7_readCond_12, bX7_readCond_14, xrZ1]
      have ea : Q ++ nt k ++ fl2 true aw = (Q ++ nt k ++ fl2 false aw) ++ [(22, 0, 0)] := by rw [← fl2_o, ← List.append_assoc]
      refine Or.inl ⟨K1, J, M, N, Q, k, true, aw, on, rfl, rfl, by rw [ea]; exact d2, ?_, ?_, by rw [ea, l1]; omega, hXl, by rw [d5]; exact z8, by rw [d5]; exact z9, hon, by omega, d3, senR_r⟩
      · rw [ea]
        exact good_a hgd (Or.inr (Or.inr ⟨Or.inr rfl, by omega⟩)) (fun y => absurd y (by decide)) (fun _ y => absurd y (by decide))
      · rw [ea, dpt_a, if_neg (show ¬ (22 : Nat) = 20 by decide), if_pos (show (22 : Nat) = 21 ∨ (22 : Nat) = 22 from Or.inr rfl), hdt]
        omega
end CNL
