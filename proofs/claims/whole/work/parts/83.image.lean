/-! The calls image and restore. -/
def eS (X Y : TS) : Prop := ∀ k, k < 360 → X k = Y k
def eN (N N' : Nat → Int64) : Prop := ∀ k, k < 28 → N k = N' k
section IMG
variable {d e L : Nat} {S S' X Y : TS} {N N' : Nat → Int64} {I K M : TI} {J J' J2 : TJ} {a b c s t u v k i n r m o q : Nat}
theorem eS_224 (h : eS X Y) : ∀ k, k < 224 → X k = Y k := fun k hk => h k (by omega)
theorem cw_e (h : eS X Y) (hi : i < 40) : cw X i = cw Y i := by unfold cw; rw [h _ (by omega)]
theorem dep_e (h : eS X Y) (hi : i ≤ 40) : dep X i = dep Y i := by
  induction i with
  | zero => rfl
  | succ i ih =>
    show (if _ then _ else if _ then _ else _) = (if _ then _ else if _ then _ else _)
    rw [cw_e h (by omega), ih (by omega)]
theorem Se_e (h : eS X Y) (hs : Se q X I) : Se q Y I := by
  obtain ⟨c, c1, c2, c3, c4, c5, c6⟩ := hs
  refine ⟨c, c1, (h 224 (by omega)).symm.trans c2, c3, c4, fun hc => by rw [← dep_e h c1]; exact c5 hc, fun i hi => ?_⟩
  obtain ⟨⟨o1, o2, o3, o4⟩, r1, r2, r3⟩ := c6 i hi
  rw [← cw_e h (by omega), ← h (226 + 3 * i) (by omega), ← h (227 + 3 * i) (by omega)]
  refine ⟨⟨?_, ?_, ?_, ?_⟩, r1, r2, r3⟩
  · rw [← h (225 + 3 * i) (by omega), ← cw_e h (by omega)]; exact o1
  · rw [← cw_e h (by omega), ← dep_e h (by omega)]; exact o2
  · rw [← cw_e h (by omega), ← h (227 + 3 * i) (by omega)]; exact o3
  · rw [← cw_e h (by omega), ← h (226 + 3 * i) (by omega), ← h (227 + 3 * i) (by omega)]; exact o4
theorem Tr_e (h : eS X Y) (hN : eN N N') (hW : WS X) (hT : Tr t X N I J) : Tr t Y N' I J := by
  have h8 := wf_V8 hW.1
  have hp := pre_224 (eS_224 h) (wf_B hW.1) hW.2.1.1
  obtain ⟨t0, t1, t2, t3, t4⟩ := Tr_same h8 hp (h 2 (by omega)).symm hT
  have hwY := (WS_224 (eS_224 h) hW).1
  have h8' := wf_V8 hwY
  have h20 := wf_B hwY
  refine ⟨t0, t1, t2, fun v hv => ⟨(t3 v hv).1.trans (hN v (by omega)), (t3 v hv).2⟩, fun b hb => ?_⟩
  obtain ⟨b1, b2⟩ := t4 b hb
  exact ⟨b1.trans (hN _ (by omega)), b2⟩
theorem Ac_e (h : eS X Y) (hW : WS X) (hA : Ac a X I) : Ac a Y I := by
  have eK : sK Y = sK X := by unfold sK; rw [h 3 (by omega)]
  have eV : sV Y = sV X := by unfold sV; rw [h 1 (by omega)]
  have h8 := wf_V8 hW.1
  have h48 := hW.2.1.1
  refine ⟨hA.1.trans (h 3 (by omega)), fun i hi => ?_, fun v hv => (hA.2.2 v (by omega)).trans (h _ (by omega))⟩
  obtain ⟨r1, r2, r3⟩ := hA.2.1 i (by omega)
  exact ⟨r1.trans (h _ (by omega)), r2.trans (h _ (by omega)), r3.trans (h _ (by omega))⟩
theorem NZ_e (h : eS X Y) (hN : eN N N') (hz : NZ X N) : NZ Y N' := fun b z1 z2 => by
  rw [← hN _ (by omega)]
  exact NZ_224 (eS_224 h) hz b z1 z2
theorem NB_e (h : eS X Y) (hN : eN N N') (h8 : sV X ≤ 8) (hz : NB X N) : NB Y N' := fun v hv => by
  have eV : sV Y = sV X := by unfold sV; rw [h 1 (by omega)]
  rw [eV] at hv
  rw [← hN _ (by omega)]
  exact hz v hv
theorem Im_of (hW : WS S) (hZ : NZ S N) (hB : NB S N) (hT : Tr (126 + 41 * k) S N M J) (hA : Ac (156 + 41 * k) S M) (hs : Se (161 + 41 * k) S M) (h : eS S (imS M k)) (hN : eN N (imN J k)) : Im M J k :=
  ⟨WS_224 (eS_224 h) hW, NZ_e h hN hZ, NB_e h hN (wf_V8 hW.1) hB, Tr_e h hN hW hT, Ac_e h hW hA, Se_e h hs⟩
/-- an image that was not touched -/
theorem Im_k (hI : ∀ o k, (126 + 41 * r ≤ o ∧ o < 165 + 41 * r) → K o k = I o k) (hJ : ∀ o k, (126 + 41 * r < o ∧ o ≤ 129 + 41 * r) → J' o k = J o k) (h1 : eS (imS I r) (imS K r)) (h2 : eN (imN J r) (imN J' r)) (h : Im I J r) : Im K J' r := by
  obtain ⟨g1, g2, g3, g4, g5, g6⟩ := h
  exact Im_of g1 g2 g3 (Tr_J (fun o k z1 z2 => hI o k (by omega)) (fun o k z1 z2 => hJ o k (by omega)) g1.1 g4) (Ac_c (fun o k z1 z2 => hI o k (by omega)) g5) (Se_c (fun _ _ => rfl) (fun o k z1 z2 => hI o k (by omega)) g6) h1 h2
theorem r_image (hk : k < 2) : RR (xcall xprog (d + 2) 266 [.ref 209, .int (n32 k)] (xst e L I J)) (zI e L fun x K J' => x = 1 ∧ ((∀ o, o ≠ 229 → o ≠ 231 → o ≠ 209 → K o = I o) ∧ (∀ i, i ≠ 0 → K 209 i = I 209 i) ∧ (∀ i, i < 360 → K 229 (360 * k + i) = I 211 i) ∧ (∀ i, ¬ (360 * k ≤ i ∧ i < 360 * k + 360) → K 229 i = I 229 i) ∧ K 231 k = 1 ∧ ∀ i, i ≠ k → K 231 i = I 231 i) ∧ (∀ o, o ≠ 230 → J' o = J o) ∧ (∀ i, i < 28 → J' 230 (28 * k + i) = J 215 i) ∧ ∀ i, ¬ (28 * k ≤ i ∧ i < 28 * k + 28) → J' 230 i = J 230 i) := by
  refine RR_eq ((aX12_image _ e L I J _).trans (bX12_image_0 _ e L I J _)) ?_
  have z1 : ¬ n32 k < 0 := fun h => absurd ((n32_lt (b := 0) (by omega) (by omega)).mp h) (by omega)
  have z2 : n32 k ≤ 1 := (n32_le (b := 1) (by omega) (by omega)).mpr (by omega)
  have h0 : ∀ d K, xcall xprog (d + 1) 161 [.int (n32 k), .int 0, .int 1] (xst e L K J) = some (some (.int 1), xst e L K J) := fun d K => by rw [sX12_isIn, if_neg z1, if_pos z2]
  rw [h0 d, xcI_some, ekX12_image_0_6, if_neg (by decide : ¬ (1 : Int32) = 0), bX12_image_1]
  have e360 : (360 : Int32) * n32 k = n32 (360 * k) := n32_mul
  have e28 : (28 : Int32) * n32 k = n32 (28 * k) := n32_mul
  obtain ⟨K, h1, h2, h3, h4⟩ := xfor (fun i K => xlim (xcall xprog (d + 1)) mX12_image 2 [.ref 209, .int (n32 k), .int (n32 i)] [] (xst e L K J)) (fun i K => (∀ o, o ≠ 229 → K o = (xu I 209 0 0) o) ∧ (∀ j, j < i → K 229 (360 * k + j) = I 211 j) ∧ ∀ j, ¬ (360 * k ≤ j ∧ j < 360 * k + i) → K 229 j = I 229 j) (n := 360) (fun i K hi ⟨g1, g2, g3⟩ => by
    refine ⟨xu K 229 (360 * k + i) (I 211 i), ?_, fun o z => by rw [xu_rne z, g1 o z], fun j hj => ?_, fun j hj => by rw [xu_kne (by omega), g3 j (by omega)]⟩
    · refine (bX12_image_2 _ e L K J _ _).trans ?_
      refine (if_pos ((n32_lt (b := 360) (by omega) (by omega)).mpr hi)).trans ?_
      rw [e360, n32_add, xin_n32 (by omega) hi, cond_true, xin_n32 (n := 720) (by omega) (by omega), cond_true, n32_nat (by omega), n32_nat (by omega), n32_succ, g1 211 (by decide), xu_rne (by decide)]
    · by_cases z : j = i
      · rw [z, xu_ee]
      · rw [xu_kne (by omega), g2 j (by omega)]) (xu I 209 0 0) ⟨fun _ _ => rfl, fun j hj => absurd hj (Nat.not_lt_zero j), fun j _ => by rw [xu_rne (by decide)]⟩
  refine RR_eq (h1.trans ((bX12_image_2 _ e L K J _ _).trans (if_neg (by decide)))) ?_
  refine RR_eq (bX12_image_3 _ e L K J _) ?_
  obtain ⟨P, p1, p2, p3, p4⟩ := xfor (fun i P => xlim (xcall xprog (d + 1)) mX12_image 4 [.ref 209, .int (n32 k), .int (n32 i)] [] (xst e L K P)) (fun i P => (∀ o, o ≠ 230 → P o = J o) ∧ (∀ j, j < i → P 230 (28 * k + j) = J 215 j) ∧ ∀ j, ¬ (28 * k ≤ j ∧ j < 28 * k + i) → P 230 j = J 230 j) (n := 28) (fun i P hi ⟨g1, g2, g3⟩ => by
    refine ⟨xu P 230 (28 * k + i) (J 215 i), ?_, fun o z => by rw [xu_rne z, g1 o z], fun j hj => ?_, fun j hj => by rw [xu_kne (by omega), g3 j (by omega)]⟩
    · refine (bX12_image_4 _ e L K P _ _).trans ?_
      refine (if_pos ((n32_lt (b := 28) (by omega) (by omega)).mpr hi)).trans ?_
      rw [e28, n32_add, xin_n32 (n := 56) (by omega) (by omega), cond_true, xin_n32 (n := 56) (by omega) (by omega), cond_true, n32_nat (by omega), n32_nat (by omega), n32_succ, g1 215 (by decide)]
    · by_cases z : j = i
      · rw [z, xu_ee]
      · rw [xu_kne (by omega), g2 j (by omega)]) J ⟨fun _ _ => rfl, fun j hj => absurd hj (Nat.not_lt_zero j), fun j _ => rfl⟩
  refine RR_eq (p1.trans ((bX12_image_4 _ e L K P _ _).trans (if_neg (by decide)))) ?_
  refine RR_eq (bX12_image_5 _ e L K P _) ?_
  rw [xin_n32 (by omega) hk, Bool.and_true, cond_true, n32_nat (by omega)]
  refine RR_I ⟨rfl, ⟨fun o z1 z2 z3 => by rw [xu_rne z2, h2 o z1, xu_rne z3], fun i hi => by rw [xu_rne (by decide), h2 209 (by decide), xu_kne hi], fun i hi => by rw [xu_rne (by decide), h3 i hi], fun i hi => by rw [xu_rne (by decide), h4 i hi], xu_ee, fun i hi => by rw [xu_kne hi, h2 231 (by decide), xu_rne (by decide)]⟩, p2, p3, p4⟩
theorem r_restore (hk : k < 2) (hz : I 231 k ≠ 0) : RR (xcall xprog (d + 2) 267 [.ref 209, .int (n32 k)] (xst e L I J)) (zI e L fun x K J' => x = 1 ∧ ((∀ o, o ≠ 211 → o ≠ 209 → K o = I o) ∧ (∀ i, i ≠ 0 → i ≠ 38 → i ≠ 34 → K 209 i = I 209 i) ∧ (∀ i, i < 360 → K 211 i = I 229 (360 * k + i)) ∧ K 209 38 = 0 ∧ K 209 34 = 0) ∧ (∀ o, o ≠ 215 → J' o = J o) ∧ (∀ i, i < 28 → J' 215 i = J 230 (28 * k + i))) := by
  refine RR_eq ((aX12_restore _ e L I J _).trans (bX12_restore_0 _ e L I J _)) ?_
  have z1 : ¬ n32 k < 0 := fun h => absurd ((n32_lt (b := 0) (by omega) (by omega)).mp h) (by omega)
  have z2 : n32 k ≤ 1 := (n32_le (b := 1) (by omega) (by omega)).mpr (by omega)
  have h0 : ∀ d K, xcall xprog (d + 1) 161 [.int (n32 k), .int 0, .int 1] (xst e L K J) = some (some (.int 1), xst e L K J) := fun d K => by rw [sX12_isIn, if_neg z1, if_pos z2]
  have hz' : ¬ (xu I 209 0 0) 231 k = 0 := by rw [xu_rne (by decide)]; exact hz
  rw [h0 d, xcI_some, ekX12_restore_0_6, if_neg (by decide : ¬ (1 : Int32) = 0), xin_n32 (n := 2) (by omega) hk, Bool.or_true, cond_true, n32_nat (by omega), if_neg hz', bX12_restore_2]
  have e360 : (360 : Int32) * n32 k = n32 (360 * k) := n32_mul
  have e28 : (28 : Int32) * n32 k = n32 (28 * k) := n32_mul
  obtain ⟨K, h1, h2, h3⟩ := xfor (fun i K => xlim (xcall xprog (d + 1)) mX12_restore 3 [.ref 209, .int (n32 k), .int (n32 i)] [] (xst e L K J)) (fun i K => (∀ o, o ≠ 211 → K o = (xu I 209 0 0) o) ∧ (∀ j, j < i → K 211 j = I 229 (360 * k + j))) (n := 360) (fun i K hi ⟨g1, g2⟩ => by
    refine ⟨xu K 211 i (I 229 (360 * k + i)), ?_, fun o z => by rw [xu_rne z, g1 o z], fun j hj => ?_⟩
    · refine (bX12_restore_3 _ e L K J _ _).trans ?_
      refine (if_pos ((n32_lt (b := 360) (by omega) (by omega)).mpr hi)).trans ?_
      rw [e360, n32_add, xin_n32 (n := 720) (by omega) (by omega), cond_true, xin_n32 (n := 360) (by omega) hi, cond_true, n32_nat (by omega), n32_nat (by omega), n32_succ, g1 229 (by decide), xu_rne (by decide)]
    · by_cases z : j = i
      · rw [z, xu_ee]
      · rw [xu_kne (by omega), g2 j (by omega)]) (xu I 209 0 0) ⟨fun _ _ => rfl, fun j hj => absurd hj (Nat.not_lt_zero j)⟩
  refine RR_eq (h1.trans ((bX12_restore_3 _ e L K J _ _).trans (if_neg (by decide)))) ?_
  refine RR_eq (bX12_restore_4 _ e L K J _) ?_
  obtain ⟨P, p1, p2, p3⟩ := xfor (fun i P => xlim (xcall xprog (d + 1)) mX12_restore 5 [.ref 209, .int (n32 k), .int (n32 i)] [] (xst e L K P)) (fun i P => (∀ o, o ≠ 215 → P o = J o) ∧ (∀ j, j < i → P 215 j = J 230 (28 * k + j))) (n := 28) (fun i P hi ⟨g1, g2⟩ => by
    refine ⟨xu P 215 i (J 230 (28 * k + i)), ?_, fun o z => by rw [xu_rne z, g1 o z], fun j hj => ?_⟩
    · refine (bX12_restore_5 _ e L K P _ _).trans ?_
      refine (if_pos ((n32_lt (b := 28) (by omega) (by omega)).mpr hi)).trans ?_
      rw [e28, n32_add, xin_n32 (n := 56) (by omega) (by omega), cond_true, xin_n32 (n := 56) (by omega) (by omega), cond_true, n32_nat (by omega), n32_nat (by omega), n32_succ, g1 230 (by decide)]
    · by_cases z : j = i
      · rw [z, xu_ee]
      · rw [xu_kne (by omega), g2 j (by omega)]) J ⟨fun _ _ => rfl, fun j hj => absurd hj (Nat.not_lt_zero j)⟩
  refine RR_eq (p1.trans ((bX12_restore_5 _ e L K P _ _).trans (if_neg (by decide)))) ?_
  refine RR_eq (bX12_restore_6 _ e L K P) ?_
  refine RR_I ⟨rfl, ⟨fun o z1 z2 => by rw [xu_rne z2, xu_rne z2, h2 o z1, xu_rne z2], fun i hi h38 h34 => by rw [xu_kne h34, xu_kne h38, h2 209 (by decide), xu_kne hi], fun i hi => by rw [xu_rne (by decide), xu_rne (by decide), h3 i hi], by rw [xu_kne (by decide), xu_ee], xu_ee⟩, p2, p3⟩
end IMG
