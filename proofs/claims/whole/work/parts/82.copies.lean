/-! Copies of trees, acts, sentences and states of the class. -/
def ctI (t u : Nat) (I : TI) : TI := xcp (xcp (xcp (xcp (xcp (xcp (xu (xu (xu I t 0 (I u 0)) t 1 (I u 1)) t 2 (I u 2)) (u + 2) (t + 2) 0 0 8) (u + 4) (t + 4) 0 0 20) (u + 5) (t + 5) 0 0 20) (u + 6) (t + 6) 0 0 20) (u + 7) (t + 7) 0 0 20) (u + 8) (t + 8) 0 0 20
def ctJ (t u : Nat) (J : TJ) : TJ := xcp (xcp J (u + 1) (t + 1) 0 0 8) (u + 3) (t + 3) 0 0 20
def caI (a c : Nat) (I : TI) : TI := xcp (xcp (xcp (xcp (xu I a 0 (I c 0)) (c + 1) (a + 1) 0 0 48) (c + 2) (a + 2) 0 0 48) (c + 3) (a + 3) 0 0 48) (c + 4) (a + 4) 0 0 8
def csI (a c : Nat) (I : TI) : TI := xcp (xcp (xcp (xu (xu I a 0 (I c 0)) a 1 (I c 1)) (c + 1) (a + 1) 0 0 40) (c + 2) (a + 2) 0 0 40) (c + 3) (a + 3) 0 0 40
def CpT (t u : Nat) (K I : TI) (J' J : TJ) : Prop := (∀ k, k < 3 → K t k = I u k) ∧ (∀ k, k < 8 → K (t + 2) k = I (u + 2) k) ∧ (∀ j k, 4 ≤ j → j ≤ 8 → k < 20 → K (t + j) k = I (u + j) k) ∧ (∀ b k, b < 20 → k < 8 → K (t + 10 + b) k = I (u + 10 + b) k) ∧ (∀ k, k < 8 → J' (t + 1) k = J (u + 1) k) ∧ (∀ k, k < 20 → J' (t + 3) k = J (u + 3) k) ∧ (∀ o, ¬ (t ≤ o ∧ o < t + 30) → K o = I o) ∧ ∀ o, ¬ (t < o ∧ o ≤ t + 3) → J' o = J o
def CpA (a c : Nat) (K I : TI) : Prop := K a 0 = I c 0 ∧ (∀ j k, 1 ≤ j → j ≤ 3 → k < 48 → K (a + j) k = I (c + j) k) ∧ (∀ k, k < 8 → K (a + 4) k = I (c + 4) k) ∧ ∀ o, ¬ (a ≤ o ∧ o < a + 5) → K o = I o
def CpE (a c : Nat) (K I : TI) : Prop := (∀ k, k < 2 → K a k = I c k) ∧ (∀ j k, 1 ≤ j → j ≤ 3 → k < 40 → K (a + j) k = I (c + j) k) ∧ ∀ o, ¬ (a ≤ o ∧ o < a + 4) → K o = I o
section CPY
variable {d e L : Nat} {S S' X Y : TS} {N N' : Nat → Int64} {I K M : TI} {J J' J2 : TJ} {a b c s t u v k i n r m o q : Nat}
theorem j48 {j : Nat} (h1 : 4 ≤ j) (h2 : j ≤ 8) : j = 4 ∨ j = 5 ∨ j = 6 ∨ j = 7 ∨ j = 8 := by omega
theorem ct_J : (∀ k, k < 8 → ctJ t u J (t + 1) k = J (u + 1) k) ∧ (t + 30 ≤ u ∨ u + 30 ≤ t → ∀ k, k < 20 → ctJ t u J (t + 3) k = J (u + 3) k) ∧ ∀ o, ¬ (t < o ∧ o ≤ t + 3) → ctJ t u J o = J o := by
  unfold ctJ
  refine ⟨fun k hk => ?_, fun h k hk => ?_, fun o h => ?_⟩
  · rw [xcp_rne (by omega), xcp_in hk]
  · rw [xcp_in hk, xcp_rne (by omega)]
  · rw [xcp_rne (by omega), xcp_rne (by omega)]
theorem ct_I (h : t + 30 ≤ u ∨ u + 30 ≤ t) : (∀ k, k < 3 → ctI t u I t k = I u k) ∧ (∀ k, k < 8 → ctI t u I (t + 2) k = I (u + 2) k) ∧ (∀ j k, 4 ≤ j → j ≤ 8 → k < 20 → ctI t u I (t + j) k = I (u + j) k) ∧ ∀ o, o ≠ t → o ≠ t + 2 → ¬ (t + 4 ≤ o ∧ o ≤ t + 8) → ctI t u I o = I o := by
  unfold ctI
  refine ⟨fun k hk => ?_, fun k hk => ?_, fun j k h1 h2 hk => ?_, fun o h1 h2 h3 => ?_⟩
  · rw [xcp_rne (by omega), xcp_rne (by omega), xcp_rne (by omega), xcp_rne (by omega), xcp_rne (by omega), xcp_rne (by omega)]
    have : k = 0 ∨ k = 1 ∨ k = 2 := by omega
    rcases this with rfl | rfl | rfl
    · rw [xu_kne (by decide), xu_kne (by decide), xu_ee]
    · rw [xu_kne (by decide), xu_ee]
    · rw [xu_ee]
  · rw [xcp_rne (by omega), xcp_rne (by omega), xcp_rne (by omega), xcp_rne (by omega), xcp_rne (by omega), xcp_in hk, xu_rne (by omega), xu_rne (by omega), xu_rne (by omega)]
  · rcases j48 h1 h2 with rfl | rfl | rfl | rfl | rfl
    · rw [xcp_rne (by omega), xcp_rne (by omega), xcp_rne (by omega), xcp_rne (by omega), xcp_in hk, xcp_rne (by omega), xu_rne (by omega), xu_rne (by omega), xu_rne (by omega)]
    · rw [xcp_rne (by omega), xcp_rne (by omega), xcp_rne (by omega), xcp_in hk, xcp_rne (by omega), xcp_rne (by omega), xu_rne (by omega), xu_rne (by omega), xu_rne (by omega)]
    · rw [xcp_rne (by omega), xcp_rne (by omega), xcp_in hk, xcp_rne (by omega), xcp_rne (by omega), xcp_rne (by omega), xu_rne (by omega), xu_rne (by omega), xu_rne (by omega)]
    · rw [xcp_rne (by omega), xcp_in hk, xcp_rne (by omega), xcp_rne (by omega), xcp_rne (by omega), xcp_rne (by omega), xu_rne (by omega), xu_rne (by omega), xu_rne (by omega)]
    · rw [xcp_in hk, xcp_rne (by omega), xcp_rne (by omega), xcp_rne (by omega), xcp_rne (by omega), xcp_rne (by omega), xu_rne (by omega), xu_rne (by omega), xu_rne (by omega)]
  · rw [xcp_rne (by omega), xcp_rne (by omega), xcp_rne (by omega), xcp_rne (by omega), xcp_rne (by omega), xcp_rne (by omega), xu_rne (by omega), xu_rne (by omega), xu_rne (by omega)]
theorem ca_I (h : a + 5 ≤ c ∨ c + 5 ≤ a) : CpA a c (caI a c I) I := by
  unfold caI
  refine ⟨?_, fun j k h1 h2 hk => ?_, fun k hk => ?_, fun o h1 => ?_⟩
  · rw [xcp_rne (by omega), xcp_rne (by omega), xcp_rne (by omega), xcp_rne (by omega), xu_ee]
  · have : j = 1 ∨ j = 2 ∨ j = 3 := by omega
    rcases this with rfl | rfl | rfl
    · rw [xcp_rne (by omega), xcp_rne (by omega), xcp_rne (by omega), xcp_in hk, xu_rne (by omega)]
    · rw [xcp_rne (by omega), xcp_rne (by omega), xcp_in hk, xcp_rne (by omega), xu_rne (by omega)]
    · rw [xcp_rne (by omega), xcp_in hk, xcp_rne (by omega), xcp_rne (by omega), xu_rne (by omega)]
  · rw [xcp_in hk, xcp_rne (by omega), xcp_rne (by omega), xcp_rne (by omega), xu_rne (by omega)]
  · rw [xcp_rne (by omega), xcp_rne (by omega), xcp_rne (by omega), xcp_rne (by omega), xu_rne (by omega)]
theorem cs_I (h : a + 4 ≤ c ∨ c + 4 ≤ a) : CpE a c (csI a c I) I := by
  unfold csI
  refine ⟨fun k hk => ?_, fun j k h1 h2 hk => ?_, fun o h1 => ?_⟩
  · rw [xcp_rne (by omega), xcp_rne (by omega), xcp_rne (by omega)]
    have : k = 0 ∨ k = 1 := by omega
    rcases this with rfl | rfl
    · rw [xu_kne (by decide), xu_ee]
    · rw [xu_ee]
  · have : j = 1 ∨ j = 2 ∨ j = 3 := by omega
    rcases this with rfl | rfl | rfl
    · rw [xcp_rne (by omega), xcp_rne (by omega), xcp_in hk, xu_rne (by omega), xu_rne (by omega)]
    · rw [xcp_rne (by omega), xcp_in hk, xcp_rne (by omega), xu_rne (by omega), xu_rne (by omega)]
    · rw [xcp_in hk, xcp_rne (by omega), xcp_rne (by omega), xu_rne (by omega), xu_rne (by omega)]
  · rw [xcp_rne (by omega), xcp_rne (by omega), xcp_rne (by omega), xu_rne (by omega), xu_rne (by omega)]
theorem Tr_cp (h : CpT t u K I J' J) (hw : wfT S) (hT : Tr u S N I J) : Tr t S N K J' := by
  have h20 := wf_B hw
  have h8 := wf_V8 hw
  obtain ⟨g1, g2, g3, g4, g5, g6, _, _⟩ := h
  obtain ⟨t0, t1, t2, t3, t4⟩ := hT
  refine ⟨(g1 0 (by omega)).trans t0, (g1 1 (by omega)).trans t1, (g1 2 (by omega)).trans t2, fun v hv => ⟨(g5 v (by omega)).trans (t3 v hv).1, (g2 v (by omega)).trans (t3 v hv).2⟩, fun b hb => ?_⟩
  obtain ⟨b1, b2, b3, b4, b5, b6, b7⟩ := t4 b hb
  exact ⟨(g6 b (by omega)).trans b1, (g3 4 b (by omega) (by omega) (by omega)).trans b2, (g3 5 b (by omega) (by omega) (by omega)).trans b3, (g3 6 b (by omega) (by omega) (by omega)).trans b4, (g3 7 b (by omega) (by omega) (by omega)).trans b5, (g3 8 b (by omega) (by omega) (by omega)).trans b6, fun v hv => (g4 b v (by omega) (by omega)).trans (b7 v hv)⟩
theorem Ac_cp (h : CpA a c K I) (hw : wfT S) (hk : sK S ≤ 48) (hA : Ac c S I) : Ac a S K := by
  have h8 := wf_V8 hw
  obtain ⟨g1, g2, g3, _⟩ := h
  obtain ⟨a1, a2, a3⟩ := hA
  refine ⟨g1.trans a1, fun i hi => ?_, fun v hv => (g3 v (by omega)).trans (a3 v hv)⟩
  obtain ⟨b1, b2, b3⟩ := a2 i hi
  exact ⟨(g2 1 i (by omega) (by omega) (by omega)).trans b1, (g2 2 i (by omega) (by omega) (by omega)).trans b2, (g2 3 i (by omega) (by omega) (by omega)).trans b3⟩
theorem Se_cp (h : CpE a c K I) (hs : Se c S I) : Se a S K := by
  obtain ⟨g1, g2, _⟩ := h
  obtain ⟨n, c1, c2, c3, c4, c5, c6⟩ := hs
  refine ⟨n, c1, c2, (g1 1 (by omega)).trans c3, by rw [g1 0 (by omega)]; exact c4, c5, fun i hi => ?_⟩
  obtain ⟨o1, o2, o3, o4⟩ := c6 i hi
  exact ⟨o1, (g2 1 i (by omega) (by omega) (by omega)).trans o2, (g2 2 i (by omega) (by omega) (by omega)).trans o3, (g2 3 i (by omega) (by omega) (by omega)).trans o4⟩
theorem G0_cr7 : ∀ b, b < 20 → xn G0 (17 + b) = some (14, 8, []) := by decide
theorem G0_cx7 : ∀ i, i < 20 → xrf (G0, 0, 0) 16 i = some (17 + i) := by decide
theorem xaR_c7 {c : Nat → Option xOut} (hi : i < 20) : xaR (xst e L I J) 16 (n32 i) c = c (17 + i) := xaR_of (n := 20) rfl rfl (G0_cx7 i hi) hi (by omega)
theorem G0_cr89 : ∀ b, b < 20 → xn G0 (99 + b) = some (14, 8, []) := by decide
theorem G0_cx89 : ∀ i, i < 20 → xrf (G0, 0, 0) 98 i = some (99 + i) := by decide
theorem xaR_c89 {c : Nat → Option xOut} (hi : i < 20) : xaR (xst e L I J) 98 (n32 i) c = c (99 + i) := xaR_of (n := 20) rfl rfl (G0_cx89 i hi) hi (by omega)
theorem G0_cr126 : ∀ b, b < 20 → xn G0 (136 + b) = some (14, 8, []) := by decide
theorem G0_cx126 : ∀ i, i < 20 → xrf (G0, 0, 0) 135 i = some (136 + i) := by decide
theorem xaR_c126 {c : Nat → Option xOut} (hi : i < 20) : xaR (xst e L I J) 135 (n32 i) c = c (136 + i) := xaR_of (n := 20) rfl rfl (G0_cx126 i hi) hi (by omega)
theorem G0_cr167 : ∀ b, b < 20 → xn G0 (177 + b) = some (14, 8, []) := by decide
theorem G0_cx167 : ∀ i, i < 20 → xrf (G0, 0, 0) 176 i = some (177 + i) := by decide
theorem xaR_c167 {c : Nat → Option xOut} (hi : i < 20) : xaR (xst e L I J) 176 (n32 i) c = c (177 + i) := xaR_of (n := 20) rfl rfl (G0_cx167 i hi) hi (by omega)
theorem c_cpT_126_7 : RR (xcall xprog (d + 1) 14 [.ref 126, .ref 7] (xst e L I J)) (zV e L fun K J' => CpT 126 7 K I J' J) := by
  refine RR_eq ((aX2_copyFrom_126_7 _ e L I J).trans (bX2_copyFrom_126_7_0 _ e L I J)) ?_
  show RR (xlim (xcall xprog d) mX2_copyFrom 1 [.ref 126, .ref 7, .int (n32 0)] [] (xst e L (ctI 126 7 I) (ctJ 126 7 J))) _
  obtain ⟨p1, p2, p3, p4⟩ := ct_I (t := 126) (u := 7) (I := I) (by omega)
  obtain ⟨j1, j2, j3⟩ := ct_J (t := 126) (u := 7) (J := J)
  obtain ⟨K, h1, h2, h3⟩ := xfor (fun i K => xlim (xcall xprog d) mX2_copyFrom 1 [.ref 126, .ref 7, .int (n32 i)] [] (xst e L K (ctJ 126 7 J))) (fun i K => (∀ o, ¬ (136 ≤ o ∧ o < 156) → K o = ctI 126 7 I o) ∧ ∀ b k, b < i → k < 8 → K (136 + b) k = I (17 + b) k) (n := 20) (fun i K hi ⟨g1, g2⟩ => by
    refine ⟨xcp K (17 + i) (136 + i) 0 0 8, ?_, fun o z => by rw [xcp_rne (by omega), g1 o z], fun b k hb hk => ?_⟩
    · refine (bX2_copyFrom_126_7_1 _ e L K _ _).trans ?_
      have hcq : ∀ c, xcq (xst e L K (ctJ 126 7 J)) (17 + i) 0 (136 + i) 0 8 c = c (xst e L (xcp K (17 + i) (136 + i) 0 0 8) (ctJ 126 7 J)) := fun c => xcq_of (G0_cr7 i hi) (G0_cr126 i hi) (sp := 0) (dp := 0) (n := 8) (by omega) (by omega) (by omega) (by omega) (by omega)
      refine (if_pos ((n32_lt (b := 20) (by omega) (by omega)).mpr hi)).trans ?_
      rw [xaR_c7 hi, xaR_c126 hi, hcq, ekX2_copyFrom_126_7_1_14, n32_succ]
    · by_cases z : b = i
      · rw [z, xcp_in hk, g1 (17 + i) (by omega), p4 _ (by omega) (by omega) (by omega)]
      · rw [xcp_rne (by omega), g2 b k (by omega) hk]) (ctI 126 7 I) ⟨fun _ _ => rfl, fun b _ hb => absurd hb (Nat.not_lt_zero b)⟩
  refine RR_eq (h1.trans ((bX2_copyFrom_126_7_1 _ e L K _ _).trans (if_neg (by decide)))) ?_
  refine RR_eq (bX2_copyFrom_126_7_2 _ e L K _) (RR_V ⟨fun k hk => ?_, fun k hk => ?_, fun j k z1 z2 hk => ?_, fun b k hb hk => h3 b k hb hk, fun k hk => j1 k hk, fun k hk => j2 (by omega) k hk, fun o z => ?_, fun o z => j3 o z⟩)
  · rw [h2 126 (by omega), p1 k hk]
  · rw [h2 (126 + 2) (by omega), p2 k hk]
  · rw [h2 (126 + j) (by omega), p3 j k z1 z2 hk]
  · rw [h2 o (by omega), p4 o (by omega) (by omega) (by omega)]
theorem c_cpT_167_7 : RR (xcall xprog (d + 1) 14 [.ref 167, .ref 7] (xst e L I J)) (zV e L fun K J' => CpT 167 7 K I J' J) := by
  refine RR_eq ((aX2_copyFrom_167_7 _ e L I J).trans (bX2_copyFrom_167_7_0 _ e L I J)) ?_
  show RR (xlim (xcall xprog d) mX2_copyFrom 1 [.ref 167, .ref 7, .int (n32 0)] [] (xst e L (ctI 167 7 I) (ctJ 167 7 J))) _
  obtain ⟨p1, p2, p3, p4⟩ := ct_I (t := 167) (u := 7) (I := I) (by omega)
  obtain ⟨j1, j2, j3⟩ := ct_J (t := 167) (u := 7) (J := J)
  obtain ⟨K, h1, h2, h3⟩ := xfor (fun i K => xlim (xcall xprog d) mX2_copyFrom 1 [.ref 167, .ref 7, .int (n32 i)] [] (xst e L K (ctJ 167 7 J))) (fun i K => (∀ o, ¬ (177 ≤ o ∧ o < 197) → K o = ctI 167 7 I o) ∧ ∀ b k, b < i → k < 8 → K (177 + b) k = I (17 + b) k) (n := 20) (fun i K hi ⟨g1, g2⟩ => by
    refine ⟨xcp K (17 + i) (177 + i) 0 0 8, ?_, fun o z => by rw [xcp_rne (by omega), g1 o z], fun b k hb hk => ?_⟩
    · refine (bX2_copyFrom_167_7_1 _ e L K _ _).trans ?_
      have hcq : ∀ c, xcq (xst e L K (ctJ 167 7 J)) (17 + i) 0 (177 + i) 0 8 c = c (xst e L (xcp K (17 + i) (177 + i) 0 0 8) (ctJ 167 7 J)) := fun c => xcq_of (G0_cr7 i hi) (G0_cr167 i hi) (sp := 0) (dp := 0) (n := 8) (by omega) (by omega) (by omega) (by omega) (by omega)
      refine (if_pos ((n32_lt (b := 20) (by omega) (by omega)).mpr hi)).trans ?_
      rw [xaR_c7 hi, xaR_c167 hi, hcq, ekX2_copyFrom_167_7_1_14, n32_succ]
    · by_cases z : b = i
      · rw [z, xcp_in hk, g1 (17 + i) (by omega), p4 _ (by omega) (by omega) (by omega)]
      · rw [xcp_rne (by omega), g2 b k (by omega) hk]) (ctI 167 7 I) ⟨fun _ _ => rfl, fun b _ hb => absurd hb (Nat.not_lt_zero b)⟩
  refine RR_eq (h1.trans ((bX2_copyFrom_167_7_1 _ e L K _ _).trans (if_neg (by decide)))) ?_
  refine RR_eq (bX2_copyFrom_167_7_2 _ e L K _) (RR_V ⟨fun k hk => ?_, fun k hk => ?_, fun j k z1 z2 hk => ?_, fun b k hb hk => h3 b k hb hk, fun k hk => j1 k hk, fun k hk => j2 (by omega) k hk, fun o z => ?_, fun o z => j3 o z⟩)
  · rw [h2 167 (by omega), p1 k hk]
  · rw [h2 (167 + 2) (by omega), p2 k hk]
  · rw [h2 (167 + j) (by omega), p3 j k z1 z2 hk]
  · rw [h2 o (by omega), p4 o (by omega) (by omega) (by omega)]
theorem c_cpT_7_126 : RR (xcall xprog (d + 1) 14 [.ref 7, .ref 126] (xst e L I J)) (zV e L fun K J' => CpT 7 126 K I J' J) := by
  refine RR_eq ((aX2_copyFrom_7_126 _ e L I J).trans (bX2_copyFrom_7_126_0 _ e L I J)) ?_
  show RR (xlim (xcall xprog d) mX2_copyFrom 1 [.ref 7, .ref 126, .int (n32 0)] [] (xst e L (ctI 7 126 I) (ctJ 7 126 J))) _
  obtain ⟨p1, p2, p3, p4⟩ := ct_I (t := 7) (u := 126) (I := I) (by omega)
  obtain ⟨j1, j2, j3⟩ := ct_J (t := 7) (u := 126) (J := J)
  obtain ⟨K, h1, h2, h3⟩ := xfor (fun i K => xlim (xcall xprog d) mX2_copyFrom 1 [.ref 7, .ref 126, .int (n32 i)] [] (xst e L K (ctJ 7 126 J))) (fun i K => (∀ o, ¬ (17 ≤ o ∧ o < 37) → K o = ctI 7 126 I o) ∧ ∀ b k, b < i → k < 8 → K (17 + b) k = I (136 + b) k) (n := 20) (fun i K hi ⟨g1, g2⟩ => by
    refine ⟨xcp K (136 + i) (17 + i) 0 0 8, ?_, fun o z => by rw [xcp_rne (by omega), g1 o z], fun b k hb hk => ?_⟩
    · refine (bX2_copyFrom_7_126_1 _ e L K _ _).trans ?_
      have hcq : ∀ c, xcq (xst e L K (ctJ 7 126 J)) (136 + i) 0 (17 + i) 0 8 c = c (xst e L (xcp K (136 + i) (17 + i) 0 0 8) (ctJ 7 126 J)) := fun c => xcq_of (G0_cr126 i hi) (G0_cr7 i hi) (sp := 0) (dp := 0) (n := 8) (by omega) (by omega) (by omega) (by omega) (by omega)
      refine (if_pos ((n32_lt (b := 20) (by omega) (by omega)).mpr hi)).trans ?_
      rw [xaR_c126 hi, xaR_c7 hi, hcq, ekX2_copyFrom_7_126_1_14, n32_succ]
    · by_cases z : b = i
      · rw [z, xcp_in hk, g1 (136 + i) (by omega), p4 _ (by omega) (by omega) (by omega)]
      · rw [xcp_rne (by omega), g2 b k (by omega) hk]) (ctI 7 126 I) ⟨fun _ _ => rfl, fun b _ hb => absurd hb (Nat.not_lt_zero b)⟩
  refine RR_eq (h1.trans ((bX2_copyFrom_7_126_1 _ e L K _ _).trans (if_neg (by decide)))) ?_
  refine RR_eq (bX2_copyFrom_7_126_2 _ e L K _) (RR_V ⟨fun k hk => ?_, fun k hk => ?_, fun j k z1 z2 hk => ?_, fun b k hb hk => h3 b k hb hk, fun k hk => j1 k hk, fun k hk => j2 (by omega) k hk, fun o z => ?_, fun o z => j3 o z⟩)
  · rw [h2 7 (by omega), p1 k hk]
  · rw [h2 (7 + 2) (by omega), p2 k hk]
  · rw [h2 (7 + j) (by omega), p3 j k z1 z2 hk]
  · rw [h2 o (by omega), p4 o (by omega) (by omega) (by omega)]
theorem c_cpT_7_167 : RR (xcall xprog (d + 1) 14 [.ref 7, .ref 167] (xst e L I J)) (zV e L fun K J' => CpT 7 167 K I J' J) := by
  refine RR_eq ((aX2_copyFrom_7_167 _ e L I J).trans (bX2_copyFrom_7_167_0 _ e L I J)) ?_
  show RR (xlim (xcall xprog d) mX2_copyFrom 1 [.ref 7, .ref 167, .int (n32 0)] [] (xst e L (ctI 7 167 I) (ctJ 7 167 J))) _
  obtain ⟨p1, p2, p3, p4⟩ := ct_I (t := 7) (u := 167) (I := I) (by omega)
  obtain ⟨j1, j2, j3⟩ := ct_J (t := 7) (u := 167) (J := J)
  obtain ⟨K, h1, h2, h3⟩ := xfor (fun i K => xlim (xcall xprog d) mX2_copyFrom 1 [.ref 7, .ref 167, .int (n32 i)] [] (xst e L K (ctJ 7 167 J))) (fun i K => (∀ o, ¬ (17 ≤ o ∧ o < 37) → K o = ctI 7 167 I o) ∧ ∀ b k, b < i → k < 8 → K (17 + b) k = I (177 + b) k) (n := 20) (fun i K hi ⟨g1, g2⟩ => by
    refine ⟨xcp K (177 + i) (17 + i) 0 0 8, ?_, fun o z => by rw [xcp_rne (by omega), g1 o z], fun b k hb hk => ?_⟩
    · refine (bX2_copyFrom_7_167_1 _ e L K _ _).trans ?_
      have hcq : ∀ c, xcq (xst e L K (ctJ 7 167 J)) (177 + i) 0 (17 + i) 0 8 c = c (xst e L (xcp K (177 + i) (17 + i) 0 0 8) (ctJ 7 167 J)) := fun c => xcq_of (G0_cr167 i hi) (G0_cr7 i hi) (sp := 0) (dp := 0) (n := 8) (by omega) (by omega) (by omega) (by omega) (by omega)
      refine (if_pos ((n32_lt (b := 20) (by omega) (by omega)).mpr hi)).trans ?_
      rw [xaR_c167 hi, xaR_c7 hi, hcq, ekX2_copyFrom_7_167_1_14, n32_succ]
    · by_cases z : b = i
      · rw [z, xcp_in hk, g1 (177 + i) (by omega), p4 _ (by omega) (by omega) (by omega)]
      · rw [xcp_rne (by omega), g2 b k (by omega) hk]) (ctI 7 167 I) ⟨fun _ _ => rfl, fun b _ hb => absurd hb (Nat.not_lt_zero b)⟩
  refine RR_eq (h1.trans ((bX2_copyFrom_7_167_1 _ e L K _ _).trans (if_neg (by decide)))) ?_
  refine RR_eq (bX2_copyFrom_7_167_2 _ e L K _) (RR_V ⟨fun k hk => ?_, fun k hk => ?_, fun j k z1 z2 hk => ?_, fun b k hb hk => h3 b k hb hk, fun k hk => j1 k hk, fun k hk => j2 (by omega) k hk, fun o z => ?_, fun o z => j3 o z⟩)
  · rw [h2 7 (by omega), p1 k hk]
  · rw [h2 (7 + 2) (by omega), p2 k hk]
  · rw [h2 (7 + j) (by omega), p3 j k z1 z2 hk]
  · rw [h2 o (by omega), p4 o (by omega) (by omega) (by omega)]
theorem c_cpT_7_89 : RR (xcall xprog (d + 1) 14 [.ref 7, .ref 89] (xst e L I J)) (zV e L fun K J' => CpT 7 89 K I J' J) := by
  refine RR_eq ((aX2_copyFrom_7_89 _ e L I J).trans (bX2_copyFrom_7_89_0 _ e L I J)) ?_
  show RR (xlim (xcall xprog d) mX2_copyFrom 1 [.ref 7, .ref 89, .int (n32 0)] [] (xst e L (ctI 7 89 I) (ctJ 7 89 J))) _
  obtain ⟨p1, p2, p3, p4⟩ := ct_I (t := 7) (u := 89) (I := I) (by omega)
  obtain ⟨j1, j2, j3⟩ := ct_J (t := 7) (u := 89) (J := J)
  obtain ⟨K, h1, h2, h3⟩ := xfor (fun i K => xlim (xcall xprog d) mX2_copyFrom 1 [.ref 7, .ref 89, .int (n32 i)] [] (xst e L K (ctJ 7 89 J))) (fun i K => (∀ o, ¬ (17 ≤ o ∧ o < 37) → K o = ctI 7 89 I o) ∧ ∀ b k, b < i → k < 8 → K (17 + b) k = I (99 + b) k) (n := 20) (fun i K hi ⟨g1, g2⟩ => by
    refine ⟨xcp K (99 + i) (17 + i) 0 0 8, ?_, fun o z => by rw [xcp_rne (by omega), g1 o z], fun b k hb hk => ?_⟩
    · refine (bX2_copyFrom_7_89_1 _ e L K _ _).trans ?_
      have hcq : ∀ c, xcq (xst e L K (ctJ 7 89 J)) (99 + i) 0 (17 + i) 0 8 c = c (xst e L (xcp K (99 + i) (17 + i) 0 0 8) (ctJ 7 89 J)) := fun c => xcq_of (G0_cr89 i hi) (G0_cr7 i hi) (sp := 0) (dp := 0) (n := 8) (by omega) (by omega) (by omega) (by omega) (by omega)
      refine (if_pos ((n32_lt (b := 20) (by omega) (by omega)).mpr hi)).trans ?_
      rw [xaR_c89 hi, xaR_c7 hi, hcq, ekX2_copyFrom_7_89_1_14, n32_succ]
    · by_cases z : b = i
      · rw [z, xcp_in hk, g1 (99 + i) (by omega), p4 _ (by omega) (by omega) (by omega)]
      · rw [xcp_rne (by omega), g2 b k (by omega) hk]) (ctI 7 89 I) ⟨fun _ _ => rfl, fun b _ hb => absurd hb (Nat.not_lt_zero b)⟩
  refine RR_eq (h1.trans ((bX2_copyFrom_7_89_1 _ e L K _ _).trans (if_neg (by decide)))) ?_
  refine RR_eq (bX2_copyFrom_7_89_2 _ e L K _) (RR_V ⟨fun k hk => ?_, fun k hk => ?_, fun j k z1 z2 hk => ?_, fun b k hb hk => h3 b k hb hk, fun k hk => j1 k hk, fun k hk => j2 (by omega) k hk, fun o z => ?_, fun o z => j3 o z⟩)
  · rw [h2 7 (by omega), p1 k hk]
  · rw [h2 (7 + 2) (by omega), p2 k hk]
  · rw [h2 (7 + j) (by omega), p3 j k z1 z2 hk]
  · rw [h2 o (by omega), p4 o (by omega) (by omega) (by omega)]
theorem c_cpA_156_37 : RR (xcall xprog (d + 1) 101 [.ref 156, .ref 37] (xst e L I J)) (zV e L fun K J' => J' = J ∧ CpA 156 37 K I) := by
  refine RR_eq ((aX10_copyFrom_156_37 _ e L I J).trans (bX10_copyFrom_156_37_0 _ e L I J)) ?_
  exact RR_V ⟨rfl, ca_I (a := 156) (c := 37) (by omega)⟩
theorem c_cpA_197_37 : RR (xcall xprog (d + 1) 101 [.ref 197, .ref 37] (xst e L I J)) (zV e L fun K J' => J' = J ∧ CpA 197 37 K I) := by
  refine RR_eq ((aX10_copyFrom_197_37 _ e L I J).trans (bX10_copyFrom_197_37_0 _ e L I J)) ?_
  exact RR_V ⟨rfl, ca_I (a := 197) (c := 37) (by omega)⟩
theorem c_cpA_37_156 : RR (xcall xprog (d + 1) 101 [.ref 37, .ref 156] (xst e L I J)) (zV e L fun K J' => J' = J ∧ CpA 37 156 K I) := by
  refine RR_eq ((aX10_copyFrom_37_156 _ e L I J).trans (bX10_copyFrom_37_156_0 _ e L I J)) ?_
  exact RR_V ⟨rfl, ca_I (a := 37) (c := 156) (by omega)⟩
theorem c_cpA_37_197 : RR (xcall xprog (d + 1) 101 [.ref 37, .ref 197] (xst e L I J)) (zV e L fun K J' => J' = J ∧ CpA 37 197 K I) := by
  refine RR_eq ((aX10_copyFrom_37_197 _ e L I J).trans (bX10_copyFrom_37_197_0 _ e L I J)) ?_
  exact RR_V ⟨rfl, ca_I (a := 37) (c := 197) (by omega)⟩
theorem c_cpE_161_42 : RR (xcall xprog (d + 1) 68 [.ref 161, .ref 42] (xst e L I J)) (zV e L fun K J' => J' = J ∧ CpE 161 42 K I) := by
  refine RR_eq ((aX7_copyFrom_161_42 _ e L I J).trans (bX7_copyFrom_161_42_0 _ e L I J)) ?_
  exact RR_V ⟨rfl, cs_I (a := 161) (c := 42) (by omega)⟩
theorem c_cpE_202_42 : RR (xcall xprog (d + 1) 68 [.ref 202, .ref 42] (xst e L I J)) (zV e L fun K J' => J' = J ∧ CpE 202 42 K I) := by
  refine RR_eq ((aX7_copyFrom_202_42 _ e L I J).trans (bX7_copyFrom_202_42_0 _ e L I J)) ?_
  exact RR_V ⟨rfl, cs_I (a := 202) (c := 42) (by omega)⟩
theorem c_cpE_42_119 : RR (xcall xprog (d + 1) 68 [.ref 42, .ref 119] (xst e L I J)) (zV e L fun K J' => J' = J ∧ CpE 42 119 K I) := by
  refine RR_eq ((aX7_copyFrom_42_119 _ e L I J).trans (bX7_copyFrom_42_119_0 _ e L I J)) ?_
  exact RR_V ⟨rfl, cs_I (a := 42) (c := 119) (by omega)⟩
theorem c_cpE_42_161 : RR (xcall xprog (d + 1) 68 [.ref 42, .ref 161] (xst e L I J)) (zV e L fun K J' => J' = J ∧ CpE 42 161 K I) := by
  refine RR_eq ((aX7_copyFrom_42_161 _ e L I J).trans (bX7_copyFrom_42_161_0 _ e L I J)) ?_
  exact RR_V ⟨rfl, cs_I (a := 42) (c := 161) (by omega)⟩
theorem c_cpE_42_202 : RR (xcall xprog (d + 1) 68 [.ref 42, .ref 202] (xst e L I J)) (zV e L fun K J' => J' = J ∧ CpE 42 202 K I) := by
  refine RR_eq ((aX7_copyFrom_42_202 _ e L I J).trans (bX7_copyFrom_42_202_0 _ e L I J)) ?_
  exact RR_V ⟨rfl, cs_I (a := 42) (c := 202) (by omega)⟩
/-- a state of the class copied, from what lies at u to what lies at t -/
def CpS (t u : Nat) (K I : TI) (J' J : TJ) : Prop := (∀ S N, WS S → Tr u S N I J → Tr t S N K J') ∧ (∀ S, WS S → Ac (u + 30) S I → Ac (t + 30) S K) ∧ (∀ S, Se (u + 35) S I → Se (t + 35) S K) ∧ (∀ o k, ¬ (t ≤ o ∧ o < t + 39) → (o + 1 ≠ t ∨ k ≠ 3) → K o k = I o k) ∧ ∀ o, ¬ (t < o ∧ o ≤ t + 3) → J' o = J o
theorem c_cpS_125_6 : RR (xcall xprog (d + 2) 80 [.ref 125, .ref 6] (xst e L I J)) (zV e L fun K J' => CpS 126 7 K I J' J ∧ K 125 3 = 1) := by
  refine RR_eq ((aX8_copyFrom_125_6 _ e L I J).trans (bX8_copyFrom_125_6_0 _ e L I J)) ?_
  refine RR_cV (c_cpT_126_7 (d := d)) (fun K J' hK => ?_)
  rw [ekX8_copyFrom_125_6_0_4]
  refine RR_cV (c_cpA_156_37 (d := d)) (fun M J2 ⟨j2, hM⟩ => ?_)
  subst j2
  rw [ekX8_copyFrom_125_6_0_9]
  refine RR_cV (c_cpE_161_42 (d := d)) (fun P J2 ⟨j2, hP⟩ => ?_)
  subst j2
  rw [ekX8_copyFrom_125_6_0_14]
  have fK := hK.2.2.2.2.2.2.1
  have fM := hM.2.2.2
  have fP := hP.2.2
  have fe : ∀ o k, o ≠ 125 → xu P 125 3 1 o k = P o k := fun o k z => by rw [xu_rne z]
  refine RR_V ⟨⟨fun S N hW hT => ?_, fun S hW hA => ?_, fun S hs => ?_, fun q k z1 z2 => ?_, hK.2.2.2.2.2.2.2⟩, xu_ee⟩
  · exact Tr_c (fun o k z1 z2 => by rw [fe o k (by omega), fP o (by omega), fM o (by omega)]) hW.1 (Tr_cp hK hW.1 hT)
  · have h1 : Ac 37 S K := Ac_c (fun o k z1 z2 => by rw [fK o (by omega)]) hA
    exact Ac_c (a := 156) (fun o k z1 z2 => by rw [fe o k (by omega), fP o (by omega)]) (Ac_cp hM hW.1 hW.2.1.1 h1)
  · have h1 : Se 42 S M := Se_c (fun _ _ => rfl) (fun o k z1 z2 => by rw [fM o (by omega), fK o (by omega)]) hs
    exact Se_c (q := 161) (fun _ _ => rfl) (fun o k z1 z2 => fe o k (by omega)) (Se_cp hP h1)
  · by_cases z : q = 125
    · subst z
      rw [xu_kne (by omega), fP _ (by omega), fM _ (by omega), fK _ (by omega)]
    · rw [fe q k z, fP q (by omega), fM q (by omega), fK q (by omega)]
theorem c_cpS_166_6 : RR (xcall xprog (d + 2) 80 [.ref 166, .ref 6] (xst e L I J)) (zV e L fun K J' => CpS 167 7 K I J' J ∧ K 166 3 = 1) := by
  refine RR_eq ((aX8_copyFrom_166_6 _ e L I J).trans (bX8_copyFrom_166_6_0 _ e L I J)) ?_
  refine RR_cV (c_cpT_167_7 (d := d)) (fun K J' hK => ?_)
  rw [ekX8_copyFrom_166_6_0_4]
  refine RR_cV (c_cpA_197_37 (d := d)) (fun M J2 ⟨j2, hM⟩ => ?_)
  subst j2
  rw [ekX8_copyFrom_166_6_0_9]
  refine RR_cV (c_cpE_202_42 (d := d)) (fun P J2 ⟨j2, hP⟩ => ?_)
  subst j2
  rw [ekX8_copyFrom_166_6_0_14]
  have fK := hK.2.2.2.2.2.2.1
  have fM := hM.2.2.2
  have fP := hP.2.2
  have fe : ∀ o k, o ≠ 166 → xu P 166 3 1 o k = P o k := fun o k z => by rw [xu_rne z]
  refine RR_V ⟨⟨fun S N hW hT => ?_, fun S hW hA => ?_, fun S hs => ?_, fun q k z1 z2 => ?_, hK.2.2.2.2.2.2.2⟩, xu_ee⟩
  · exact Tr_c (fun o k z1 z2 => by rw [fe o k (by omega), fP o (by omega), fM o (by omega)]) hW.1 (Tr_cp hK hW.1 hT)
  · have h1 : Ac 37 S K := Ac_c (fun o k z1 z2 => by rw [fK o (by omega)]) hA
    exact Ac_c (a := 197) (fun o k z1 z2 => by rw [fe o k (by omega), fP o (by omega)]) (Ac_cp hM hW.1 hW.2.1.1 h1)
  · have h1 : Se 42 S M := Se_c (fun _ _ => rfl) (fun o k z1 z2 => by rw [fM o (by omega), fK o (by omega)]) hs
    exact Se_c (q := 202) (fun _ _ => rfl) (fun o k z1 z2 => fe o k (by omega)) (Se_cp hP h1)
  · by_cases z : q = 166
    · subst z
      rw [xu_kne (by omega), fP _ (by omega), fM _ (by omega), fK _ (by omega)]
    · rw [fe q k z, fP q (by omega), fM q (by omega), fK q (by omega)]
theorem c_cpS_6_125 : RR (xcall xprog (d + 2) 80 [.ref 6, .ref 125] (xst e L I J)) (zV e L fun K J' => CpS 7 126 K I J' J ∧ K 6 3 = 1) := by
  refine RR_eq ((aX8_copyFrom_6_125 _ e L I J).trans (bX8_copyFrom_6_125_0 _ e L I J)) ?_
  refine RR_cV (c_cpT_7_126 (d := d)) (fun K J' hK => ?_)
  rw [ekX8_copyFrom_6_125_0_4]
  refine RR_cV (c_cpA_37_156 (d := d)) (fun M J2 ⟨j2, hM⟩ => ?_)
  subst j2
  rw [ekX8_copyFrom_6_125_0_9]
  refine RR_cV (c_cpE_42_161 (d := d)) (fun P J2 ⟨j2, hP⟩ => ?_)
  subst j2
  rw [ekX8_copyFrom_6_125_0_14]
  have fK := hK.2.2.2.2.2.2.1
  have fM := hM.2.2.2
  have fP := hP.2.2
  have fe : ∀ o k, o ≠ 6 → xu P 6 3 1 o k = P o k := fun o k z => by rw [xu_rne z]
  refine RR_V ⟨⟨fun S N hW hT => ?_, fun S hW hA => ?_, fun S hs => ?_, fun q k z1 z2 => ?_, hK.2.2.2.2.2.2.2⟩, xu_ee⟩
  · exact Tr_c (fun o k z1 z2 => by rw [fe o k (by omega), fP o (by omega), fM o (by omega)]) hW.1 (Tr_cp hK hW.1 hT)
  · have h1 : Ac 156 S K := Ac_c (fun o k z1 z2 => by rw [fK o (by omega)]) hA
    exact Ac_c (a := 37) (fun o k z1 z2 => by rw [fe o k (by omega), fP o (by omega)]) (Ac_cp hM hW.1 hW.2.1.1 h1)
  · have h1 : Se 161 S M := Se_c (fun _ _ => rfl) (fun o k z1 z2 => by rw [fM o (by omega), fK o (by omega)]) hs
    exact Se_c (q := 42) (fun _ _ => rfl) (fun o k z1 z2 => fe o k (by omega)) (Se_cp hP h1)
  · by_cases z : q = 6
    · subst z
      rw [xu_kne (by omega), fP _ (by omega), fM _ (by omega), fK _ (by omega)]
    · rw [fe q k z, fP q (by omega), fM q (by omega), fK q (by omega)]
theorem c_cpS_6_166 : RR (xcall xprog (d + 2) 80 [.ref 6, .ref 166] (xst e L I J)) (zV e L fun K J' => CpS 7 167 K I J' J ∧ K 6 3 = 1) := by
  refine RR_eq ((aX8_copyFrom_6_166 _ e L I J).trans (bX8_copyFrom_6_166_0 _ e L I J)) ?_
  refine RR_cV (c_cpT_7_167 (d := d)) (fun K J' hK => ?_)
  rw [ekX8_copyFrom_6_166_0_4]
  refine RR_cV (c_cpA_37_197 (d := d)) (fun M J2 ⟨j2, hM⟩ => ?_)
  subst j2
  rw [ekX8_copyFrom_6_166_0_9]
  refine RR_cV (c_cpE_42_202 (d := d)) (fun P J2 ⟨j2, hP⟩ => ?_)
  subst j2
  rw [ekX8_copyFrom_6_166_0_14]
  have fK := hK.2.2.2.2.2.2.1
  have fM := hM.2.2.2
  have fP := hP.2.2
  have fe : ∀ o k, o ≠ 6 → xu P 6 3 1 o k = P o k := fun o k z => by rw [xu_rne z]
  refine RR_V ⟨⟨fun S N hW hT => ?_, fun S hW hA => ?_, fun S hs => ?_, fun q k z1 z2 => ?_, hK.2.2.2.2.2.2.2⟩, xu_ee⟩
  · exact Tr_c (fun o k z1 z2 => by rw [fe o k (by omega), fP o (by omega), fM o (by omega)]) hW.1 (Tr_cp hK hW.1 hT)
  · have h1 : Ac 197 S K := Ac_c (fun o k z1 z2 => by rw [fK o (by omega)]) hA
    exact Ac_c (a := 37) (fun o k z1 z2 => by rw [fe o k (by omega), fP o (by omega)]) (Ac_cp hM hW.1 hW.2.1.1 h1)
  · have h1 : Se 202 S M := Se_c (fun _ _ => rfl) (fun o k z1 z2 => by rw [fM o (by omega), fK o (by omega)]) hs
    exact Se_c (q := 42) (fun _ _ => rfl) (fun o k z1 z2 => fe o k (by omega)) (Se_cp hP h1)
  · by_cases z : q = 6
    · subst z
      rw [xu_kne (by omega), fP _ (by omega), fM _ (by omega), fK _ (by omega)]
    · rw [fe q k z, fP q (by omega), fM q (by omega), fK q (by omega)]
end CPY
