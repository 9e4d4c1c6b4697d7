/-! Operands of all sorts. -/
/-- readOne on both sides, with m ones left -/
def One (h e L : Nat) (T : Nat → Int32) (n most V B m : Nat) : Prop := ∀ (f dp on : Nat) (P : List Cd) (X : List Nat) (I : TI) (J : TJ) (M : TI) (N : TJ), on + m = 20 → 2 * (9 - dp) + 8 ≤ f → dp ≤ 9 → SR T n most V B P P X on dp false I J M N → good P → P.length ≤ 2 * on → X.length ≤ 2 * on → (∀ b, b ∈ X → b < 100) →
  (∃ K J' M' N' Q k on', xcall xprog f 72 [.ref 119, .ref 5, .ref 7, .int (n32 dp)] (xst e L I J) = some (some (.int 1), xst e L K J') ∧ HD (h + 6) e L M N = HD (h + 6) e L M' N' ∧ SR T n most V B (Q ++ nt k) Q (X ++ n20 k) on' (dp + k) true K J' M' N' ∧ good (Q ++ nt k) ∧ dpt (Q ++ nt k) = dpt P + 1 ∧ Q.length + k + 1 + 2 * on ≤ P.length + 2 * on' ∧ X.length + k + 1 ≤ 2 * on' ∧ on < on' ∧ on' ≤ 20 ∧ senC K I J' J ∧ senR M' M N' N) ∨
  SFl (h + 6) e L (xcall xprog f 72 [.ref 119, .ref 5, .ref 7, .int (n32 dp)] (xst e L I J)) I J M N
/-- readCond on both sides, with m ones left -/
def Cnd (h e L : Nat) (T : Nat → Int32) (n most V B m : Nat) : Prop := ∀ (f dp on : Nat) (P : List Cd) (X : List Nat) (I : TI) (J : TJ) (M : TI) (N : TJ), on + m = 20 → 2 * (9 - dp) + 9 ≤ f → dp ≤ 9 → SR T n most V B P P X on dp false I J M N → good P → P.length ≤ 2 * on → X.length ≤ 2 * on → (∀ b, b ∈ X → b < 100) → clr X 20 → clr X 21 → clr X 22 →
  (∃ K J' M' N' Q k ow aw on', xcall xprog f 70 [.ref 119, .ref 5, .ref 7, .int (n32 dp)] (xst e L I J) = some (some (.int 1), xst e L K J') ∧ HD (h + 6) e L M N = HD (h + 6) e L M' N' ∧ SR T n most V B (Q ++ nt k ++ fl2 ow aw) Q (X ++ wt2 ow aw ++ n20 k) on' (dp + k) true K J' M' N' ∧ good (Q ++ nt k ++ fl2 ow aw) ∧ dpt (Q ++ nt k ++ fl2 ow aw) = dpt P + 1 ∧ (Q ++ nt k ++ fl2 ow aw).length + 1 + 2 * on ≤ P.length + 2 * on' ∧ X.length + (wt2 ow aw).length + k + 1 ≤ 2 * on' ∧ ¬ K 5 0 = n32 (64 + 8) ∧ ¬ K 5 0 = n32 (64 + 9) ∧ on < on' ∧ on' ≤ 20 ∧ senC K I J' J ∧ senR M' M N' N) ∨
  SFl (h + 6) e L (xcall xprog f 70 [.ref 119, .ref 5, .ref 7, .int (n32 dp)] (xst e L I J)) I J M N
section ONE
variable {d d' f f' g h e L : Nat} {T : Nat → Int32} {I K K2 M M' M2 : TI} {J J' J2 N N' N2 : TJ} {P Q R : List Cd} {X Y : List Nat} {i j k m n a t l dp on most V B : Nat} {x y till : Int32} {wh ow aw : Bool} {cf : xCF}
theorem op_push (h : SR T n most V B P Q X on dp wh I J M N) (hx : X.length < 45) (ha : x = n32 a) : ∃ M', xlim cf mX12_operand 6 [.ref 209, xD, xD, xD, xD] [.int x, .int (M 209 51), .ref 227] (xst e L M N) = some (some (.int 1), xst e L M' N) ∧ SR T n most V B P Q (X ++ [a]) on (dp + 1) wh I J M' N ∧ senR M' M N N := by
  subst ha
  obtain ⟨h1, h2, h3, h4, h5, h6, h7, h8, h9⟩ := h
  generalize hMa : xu (xu (xu M 227 X.length (n32 a)) 209 51 (n32 (X.length + 1))) 209 52 (n32 (dp + 1)) = Ma
  have mo : ∀ o, o ≠ 209 → o ≠ 227 → Ma o = M o := fun o z1 z2 => by rw [← hMa, xu_rne z1, xu_rne z1, xu_rne z2]
  have m9 : ∀ q, q ≠ 51 → q ≠ 52 → Ma 209 q = M 209 q := fun q z1 z2 => by rw [← hMa, xu_kne z2, xu_kne z1, xu_rne (by decide)]
  have m51 : Ma 209 51 = n32 (X.length + 1) := by rw [← hMa, xu_kne (by decide), xu_ee]
  have m27 : Ma 227 = up (M 227) X.length (n32 a) := by rw [← hMa, xu_rne (by decide), xu_rne (by decide), xu_row]
  have s2 : senR Ma M N N := ⟨fun o z1 z2 z3 => mo o z1 z3, fun _ _ => rfl, fun q z => m9 q (by omega) (by omega)⟩
  refine ⟨Ma, ?_, ⟨Par_c (fun _ _ => rfl) rfl (fun q z => m9 q (by omega) (by omega)) (mo 210 (by omega) (by omega)) rfl h1, Nm_s h2 senC_r s2, h3, by rw [m9 50 (by omega) (by omega), h4], h5, RfS_c (m9 49 (by omega) (by omega)) (mo 213 (by omega) (by omega)) h6, Stk_push h7 m51 m27, by rw [← hMa, xu_ee], by rw [m9 53 (by omega) (by omega), h9]⟩, s2⟩
  rw [bX12_operand_6, h7.1, xin_n32 (by omega) hx, cond_true, n32_nat (by omega), n32_succ, h8, n32_succ, hMa]
theorem SFl_t (hc : senC K I J' J) (hr : senR M' M N' N) (hd : HD g e L M N = HD g e L M' N') {c : Option xOut} (h : SFl g e L c K J' M' N') : SFl g e L c I J M N := by
  obtain ⟨K2, J2, M2, N2, a1, a2, a3, a4, a5⟩ := h
  exact ⟨K2, J2, M2, N2, a1, hd.trans a2, a3, senC_t hc a4, senR_t hr a5⟩
theorem one_of (hB : B ≤ 20) (ih : ∀ m', m' < m → Cnd h e L T n most V B m' ∧ One h e L T n most V B m') : One h e L T n most V B m := by
  intro f dp on P X I J M N hm hf hdp hS hgd hPl hXl hb
  obtain ⟨f1, rfl⟩ : ∃ f1, f = f1 + 6 := ⟨f - 6, by omega⟩
  have z53 : M 209 53 = 0 := hS.2.2.2.2.2.2.2.2
  rcases lk_op0 (f := f1 + 2) (f' := h + 2) (e := e) (L := L) hS hdp (by omega) with ⟨K, J', M', N', g, hg, a1, a2, a3, a4, a5, a6, a7⟩ | ⟨K, J', M', N', a1, a2, a3, a4, a5⟩
  rotate_left
  · refine Or.inr ⟨K, J', M', N', a1, ?_, a3, a4, a5⟩
    rw [hd_op z53, a2, xcI_some, ekX12_sentence_4_1, if_pos i00, bX12_sentence_5]
  have hdm : HD (h + 6) e L M N = xcI (kX12_operand_3_7 (xcall xprog (h + 5)) 209 (if g = 74 then 1 else 0) (if g = 40 then 1 else 0) (if 75 ≤ g then n32 (g - 75) else -1) (xst e L M' N')) (kX12_sentence_4_1 (xcall xprog (h + 6)) 209 1) := by
    rw [hd_op z53, a2]
  by_cases g75 : 75 ≤ g
  · -- a leaf
    rw [if_neg (show ¬ g = 74 by omega), if_neg (show ¬ g = 40 by omega), if_pos g75] at hdm
    rcases lk_leaf (f := f1) (f' := h) (e := e) (L := L) a3 hB g75 (by omega) (by omega) hgd with ⟨K2, J2, M2, N2, x, y, b1, b2, b3, b4, b5, b6⟩ | ⟨K2, J2, M2, N2, b1, b2, b3, b4, b5⟩
    · have e0 : (P ++ [(g - 75, x, y)]) ++ nt 0 = P ++ [(g - 75, x, y)] := List.append_nil _
      have e1 : X ++ n20 0 = X := List.append_nil _
      refine Or.inl ⟨K2, J2, M2, N2, P ++ [(g - 75, x, y)], 0, on + 1, a1.trans b1, ?_, by rw [e0, e1]; exact b3, by rw [e0]; exact b4, ?_, by rw [l1]; omega, by omega, by omega, by omega, senC_t a6 b5, senR_t a7 b6⟩
      · rw [hdm, b2, xcI_some, ekX12_sentence_4_1, if_neg i10]
        rfl
      · rw [e0, dpt_a, if_neg (show ¬ g - 75 = 20 by omega), if_neg (show ¬ (g - 75 = 21 ∨ g - 75 = 22) by omega)]
    · refine Or.inr ⟨K2, J2, M2, N2, a1.trans b1, ?_, b3, senC_t a6 b4, senR_t a7 b5⟩
      rw [hdm, b2, xcI_some, ekX12_sentence_4_1, if_pos i00, bX12_sentence_5]
  by_cases g74 : g = 74
  · -- not
    subst g74
    obtain ⟨Mp, p1, p2, p3⟩ := op_push (a := 20) (x := 20) (e := e) (L := L) (cf := xcall xprog (h + 5)) a3 (by omega) rfl
    have hd1 : HD (h + 6) e L M N = HD (h + 6) e L Mp N' := by
      rw [hdm, if_pos (show 74 = 74 from rfl), ekX12_operand_3_7, if_neg i10, bX12_operand_4, if_neg i10, p1, xcI_some, ekX12_sentence_4_1, if_neg i10]
      rfl
    have c1 : xcall xprog (f1 + 6) 72 [.ref 119, .ref 5, .ref 7, .int (n32 dp)] (xst e L I J) = xcI (xcall xprog (f1 + 5) 72 [.ref 119, .ref 5, .ref 7, .int (n32 (dp + 1))] (xst e L K J')) (kX7_readOne_7_9 (xcall xprog (f1 + 5)) 119) := by
      rw [a1, ekX7_readOne_4_7, if_neg (show ¬ n32 74 = 40 by decide), bX7_readOne_7, if_pos (show n32 74 = 74 from rfl), n32_succ]
    have lx : (X ++ [20]).length = X.length + 1 := l1
    rcases (ih (m - 1) (by omega)).2 (f1 + 5) (dp + 1) (on + 1) P (X ++ [20]) K J' Mp N' (by omega) (by omega) (by omega) p2 hgd (by omega) (by omega) (b_23 hb (by omega)) with ⟨K2, J2, M2, N2, Q, k, on', b1, b2, b3, b4, b5, b6, b7, b8, b9, b10, b11⟩ | ⟨K2, J2, M2, N2, b1, b2, b3, b4, b5⟩
    rotate_left
    · refine Or.inr ⟨K2, J2, M2, N2, ?_, hd1.trans b2, b3, senC_t a6 b4, senR_t (senR_t a7 p3) b5⟩
      rw [c1, b1, xcI_some, ekX7_readOne_7_9, if_pos i00, bX7_readOne_8, bX7_readOne_9, xrZ0]
    obtain ⟨s1, s2, s3, s4, s5, s6, s7, s8, s9⟩ := b3
    obtain ⟨K3, d1, d2, d3, d4⟩ := c_addStep (d := f1 + 4) (e := e) (L := L) (J := J2) (x := 0) (y := 0) (a := 20) (till := 74) s5 (by rw [nt_len]; omega) rfl
    have sc : senC K3 K2 J2 J2 := ⟨fun o z1 z2 => d4 o z2, fun _ _ => rfl⟩
    have ex : (X ++ [20]) ++ n20 k = X ++ n20 (k + 1) := by
      unfold n20
      rw [List.replicate_succ, List.append_assoc]
      rfl
    rw [nt_e] at d2
    refine Or.inl ⟨K3, J2, M2, N2, Q, k + 1, on', ?_, hd1.trans b2, ⟨Par_c (fun o z => d4 o (by omega)) rfl (fun _ _ => rfl) rfl rfl s1, Nm_s s2 sc senR_r, by rw [d3, s3], s4, d2, s6, by rw [← ex]; exact s7, by rw [s8]; congr 1; omega, s9⟩, ?_, ?_, by omega, by omega, by omega, b9, senC_t a6 (senC_t b10 sc), senR_t (senR_t a7 p3) b11⟩
    · rw [c1, b1, xcI_some, ekX7_readOne_7_9, if_neg i10, d1, xcI_some, ekX7_readOne_7_15, if_neg i10, bX7_readOne_9, xrZ1]
    · rw [← nt_e]
      exact good_a b4 (Or.inr (Or.inl ⟨rfl, by omega⟩)) (fun z => absurd z (by decide)) (fun _ z => absurd z (by decide))
    · rw [← nt_e, dpt_a, if_pos rfl, b5]
  -- a bracket
  have g40 : g = 40 := by omega
  subst g40
  obtain ⟨Mp, p1, p2, p3⟩ := op_push (a := 23) (x := 23) (e := e) (L := L) (cf := xcall xprog (h + 5)) a3 (by omega) rfl
  have hd1 : HD (h + 6) e L M N = HD (h + 6) e L Mp N' := by
    rw [hdm, if_neg (show ¬ 40 = 74 by omega), if_pos (show 40 = 40 from rfl), ekX12_operand_3_7, if_pos i00, if_neg i10, bX12_operand_4, if_pos i00, bX12_operand_5, p1, xcI_some, ekX12_sentence_4_1, if_neg i10]
    rfl
  have c1 : xcall xprog (f1 + 6) 72 [.ref 119, .ref 5, .ref 7, .int (n32 dp)] (xst e L I J) = xcI (xcall xprog (f1 + 5) 70 [.ref 119, .ref 5, .ref 7, .int (n32 (dp + 1))] (xst e L K J')) (kX7_readOne_4_17 (xcall xprog (f1 + 5)) 5) := by
    rw [a1, ekX7_readOne_4_7, if_pos (show n32 40 = 40 from rfl), n32_succ]
  have lx : (X ++ [23]).length = X.length + 1 := l1
  rcases (ih (m - 1) (by omega)).1 (f1 + 5) (dp + 1) (on + 1) P (X ++ [23]) K J' Mp N' (by omega) (by omega) (by omega) p2 hgd (by omega) (by omega) (b_23 hb (by omega)) (clr_23 (by omega)) (clr_23 (by omega)) (clr_23 (by omega)) with ⟨K2, J2, M2, N2, Q, k, ow, aw, on', b1, b2, b3, b4, b5, b6, b7, b12, b13, b8, b9, b10, b11⟩ | ⟨K2, J2, M2, N2, b1, b2, b3, b4, b5⟩
  rotate_left
  · refine Or.inr ⟨K2, J2, M2, N2, ?_, hd1.trans b2, b3, senC_t a6 b4, senR_t (senR_t a7 p3) b5⟩
    rw [c1, b1, xcI_some, ekX7_readOne_4_17, if_pos i00, bX7_readOne_5, bX7_readOne_6, xrZ0]
  have hlen : (Q ++ nt k ++ fl2 ow aw).length = Q.length + k + (fl2 ow aw).length := by rw [List.length_append, nt_len]
  have hw2 := bw2 (ow := ow) (aw := aw)
  rw [wt2_len] at b7
  rcases hd_close (f := f1 + 2) (f' := h + 2) (e := e) (L := L) b3 rfl (by omega) (by omega) (by omega) hb b12 b13 with ⟨K3, J3, M3, N3, d1, d2, d3, d4, d5⟩ | ⟨K3, J3, M3, N3, d1, d2, d3, d4, d5⟩
  rotate_left
  · refine Or.inr ⟨K3, J3, M3, N3, ?_, hd1.trans (b2.trans d2), d3, senC_t a6 (senC_t b10 d4), senR_t (senR_t a7 p3) (senR_t b11 d5)⟩
    rw [c1, b1, xcI_some, ekX7_readOne_4_17, if_neg i10, d1, xcI_some, ekX7_readOne_4_21, if_pos i00, bX7_readOne_5, bX7_readOne_6, xrZ0]
  have e0 : (Q ++ nt k ++ fl2 ow aw) ++ nt 0 = Q ++ nt k ++ fl2 ow aw := List.append_nil _
  have e1 : X ++ n20 0 = X := List.append_nil _
  refine Or.inl ⟨K3, J3, M3, N3, Q ++ nt k ++ fl2 ow aw, 0, on', ?_, hd1.trans (b2.trans d2), by rw [e0, e1]; exact d3, by rw [e0]; exact b4, by rw [e0]; exact b5, by omega, by omega, by omega, b9, senC_t a6 (senC_t b10 d4), senR_t (senR_t a7 p3) (senR_t b11 d5)⟩
  rw [c1, b1, xcI_some, ekX7_readOne_4_17, if_neg i10, d1, xcI_some, ekX7_readOne_4_21, if_neg i10, bX7_readOne_6, xrZ1]
end ONE
