/-! readCond, and both by induction. -/
section CNL
variable {d d' f f' g h e L : Nat} {T : Nat → Int32} {I K K2 M M' M2 : TI} {J J' J2 N N' N2 : TJ} {P Q R : List Cd} {X Y : List Nat} {i j k m n a t l dp on most V B : Nat} {x y till : Int32} {wh ow aw : Bool} {cf : xCF}
theorem ap_nil {α : Type} (A : List α) : A ++ [] = A := List.append_nil A
theorem cnd_loop {on0 D0 L0 : Nat} (hf : 2 * (9 - dp) + 8 ≤ f) (hdp : dp ≤ 9) (hL0 : L0 ≤ 2 * on0) (h20 : clr X 20) (h21 : clr X 21) (h22 : clr X 22) (hb : ∀ b, b ∈ X → b < 100) : ∀ c, (∀ m', m' ≤ c → One h e L T n most V B m') → ∀ (on nn k : Nat) (ow aw : Bool) (Q : List Cd) (I : TI) (J : TJ) (M : TI) (N : TJ), on + c = 20 → nn + 1 ≤ on → SR T n most V B (Q ++ nt k ++ fl2 false aw) Q (X ++ wt2 ow aw ++ n20 k) on (dp + k) true I J M N → good (Q ++ nt k ++ fl2 false aw) → dpt (Q ++ nt k ++ fl2 false aw) = D0 + 1 + (bif ow then 1 else 0) → (Q ++ nt k ++ fl2 false aw).length + (bif ow then 1 else 0) + 1 + 2 * on0 ≤ L0 + 2 * on → X.length + (wt2 ow aw).length + k + 1 ≤ 2 * on → on0 < on →
  (∃ K J' M' N' Q' k' ow' aw' on', xlim (xcall xprog f) mX7_readCond 1 [.ref 119, .ref 5, .ref 7, .int (n32 dp), .int 1, .int (bI ow), .int (n32 nn), xD] [] (xst e L I J) = some (some (.int 1), xst e L K J') ∧ HD (h + 6) e L M N = HD (h + 6) e L M' N' ∧ SR T n most V B (Q' ++ nt k' ++ fl2 ow' aw') Q' (X ++ wt2 ow' aw' ++ n20 k') on' (dp + k') true K J' M' N' ∧ good (Q' ++ nt k' ++ fl2 ow' aw') ∧ dpt (Q' ++ nt k' ++ fl2 ow' aw') = D0 + 1 ∧ (Q' ++ nt k' ++ fl2 ow' aw').length + 1 + 2 * on0 ≤ L0 + 2 * on' ∧ X.length + (wt2 ow' aw').length + k' + 1 ≤ 2 * on' ∧ ¬ K 5 0 = n32 (64 + 8) ∧ ¬ K 5 0 = n32 (64 + 9) ∧ on0 < on' ∧ on' ≤ 20 ∧ senC K I J' J ∧ senR M' M N' N) ∨
  SFl (h + 6) e L (xlim (xcall xprog f) mX7_readCond 1 [.ref 119, .ref 5, .ref 7, .int (n32 dp), .int 1, .int (bI ow), .int (n32 nn), xD] [] (xst e L I J)) I J M N := by
  intro c
  obtain ⟨f2, rfl⟩ : ∃ f2, f = f2 + 2 := ⟨f - 2, by omega⟩
  induction c using Nat.strongRecOn with
  | _ c ih =>
    intro hone on nn k ow aw Q I J M N hc hnn hS hgd hdt hPl hXl hon
    have hw2 := bw2 (ow := ow) (aw := aw)
    have hlen : (Q ++ nt k ++ fl2 false aw).length = Q.length + k + (bif aw then 1 else 0) := by rw [List.length_append, nt_len, fl2_len]; cases aw <;> rfl
    have hwl := wt2_len (ow := ow) (aw := aw)
    have haw : (bif aw then 1 else 0) ≤ 1 := by cases aw <;> decide
    have how : (bif ow then 1 else 0) ≤ 1 := by cases ow <;> decide
    rw [bX7_readCond_1, if_pos ((q20l (by omega)).mpr (by omega)), if_neg i10, c_isJoint, xcI_some, ekX7_readCond_1_7]
    by_cases z8 : I 5 0 = n32 (64 + 8)
    · -- or
      have z8' : I 5 0 = 72 := z8
      rw [if_pos z8', if_neg i10, if_pos z8']
      have start : ∃ K1, SR T n most V B (Q ++ nt k ++ fl2 ow aw) Q (X ++ wt2 ow aw ++ n20 k) on (dp + k) true K1 J M N ∧ senC K1 I J J ∧ good (Q ++ nt k ++ fl2 ow aw) ∧ dpt (Q ++ nt k ++ fl2 ow aw) = D0 + 1 ∧ (Q ++ nt k ++ fl2 ow aw).length = Q.length + k + (bif aw then 1 else 0) + (bif ow then 1 else 0) ∧ (if bI ow = 0 then xlim (xcall xprog (f2 + 2)) mX7_readCond 2 [.ref 119, .ref 5, .ref 7, .int (n32 dp), xD, xD, .int (n32 nn), .int (I 5 0)] [] (xst e L I J) else xcI (xcall xprog (f2 + 2) 74 [.ref 119, .int 72, .int 0, .int 0] (xst e L I J)) (kX7_readCond_1_21 (xcall xprog (f2 + 2)) 119 5 7 (n32 dp) (n32 nn) (I 5 0))) = xlim (xcall xprog (f2 + 2)) mX7_readCond 5 [.ref 119, .ref 5, .ref 7, .int (n32 dp), .int 1, .int 1, .int (n32 nn), .int 72] [] (xst e L K1 J) := by
        cases ow with
        | false =>
          refine ⟨I, hS, senC_r, hgd, hdt, hlen, ?_⟩
          rw [if_pos bI_f0, bX7_readCond_2, bX7_readCond_4, z8']
        | true =>
          have how1 : (bif true then 1 else 0) = 1 := rfl
          rw [how1] at hdt hPl
          obtain ⟨K1, d1, d2, d3⟩ := st_add (d := f2 + 1) (e := e) (L := L) (a := 22) (till := 72) hS (by omega) rfl
          rw [List.append_assoc, fl2_o] at d2
          refine ⟨K1, d2, d3, ?_, ?_, ?_, ?_⟩
          · rw [← fl2_o, ← List.append_assoc]
            exact good_a hgd (Or.inr (Or.inr ⟨Or.inr rfl, by omega⟩)) (fun y => absurd y (by decide)) (fun _ y => absurd y (by decide))
          · rw [← fl2_o, ← List.append_assoc, dpt_a, if_neg (show ¬ (22 : Nat) = 20 by decide), if_pos (show (22 : Nat) = 21 ∨ (22 : Nat) = 22 from Or.inr rfl), hdt]
            omega
          · rw [← fl2_o, ← List.append_assoc, l1, hlen]
            rfl
          · rw [if_neg bI_t0, d1, xcI_some, ekX7_readCond_1_21, if_neg i10, bX7_readCond_2, bX7_readCond_4, z8']
      obtain ⟨K1, s1, s2, s3, s4, s5, s6⟩ := start
      have k50 : K1 5 0 = I 5 0 := by
        sorry
      rw [s6, bX7_readCond_5]
      sorry
    · sorry
end CNL
