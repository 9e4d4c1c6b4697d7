/-! Acts undone: the class's ring of marks against the reference's rows. -/
def hS (I : TI) (S : TS) (j : Nat) : TS := fun k => if k < 2 then S k else if k < 224 then I 222 (222 * j + (k - 2)) else 0
def HM (S : TS) (N : Nat → Int64) (I : TI) (m o : Nat) : Prop := m ≤ 8 ∧ o < 8 ∧ I 79 2 = n32 m ∧ I 79 1 = n32 o ∧ I 209 38 = n32 m ∧ (∀ j, j < m → WS (hS I S j) ∧ NZ (hS I S j) N ∧ MK I (hS I S j) (81 + (o + j) % 8)) ∧ (∀ j, j + 1 < m → pre (hS I S j) (hS I S (j + 1))) ∧ (0 < m → pre (hS I S (m - 1)) S)
def Hst (S : TS) (N : Nat → Int64) (I : TI) : Prop := ∃ m o, HM S N I m o
/-- the class has kept a mark of S -/
def CK (I K : TI) (S : TS) (m o : Nat) : Prop := (m < 8 → K 79 2 = n32 (m + 1) ∧ K 79 1 = n32 o) ∧ (m = 8 → K 79 2 = n32 8 ∧ K 79 1 = n32 ((o + 1) % 8)) ∧ (∀ i k, i < 8 → i ≠ (o + m) % 8 → K (81 + i) k = I (81 + i) k) ∧ MK K S (81 + (o + m) % 8)
section HIST
variable {d e L : Nat} {S S' X Y : TS} {N : Nat → Int64} {I K M : TI} {J J' : TJ} {a b s t v k i n r m o : Nat}
theorem pre_224 (h : ∀ k, k < 224 → X k = Y k) (hB : sB X ≤ 20) (hK : sK X ≤ 48) : pre X Y := by
  have eB : sB X = sB Y := by unfold sB; rw [h 2 (by omega)]
  have eK : sK X = sK Y := by unfold sK; rw [h 3 (by omega)]
  exact ⟨h 0 (by omega), h 1 (by omega), fun v hv => h _ (by omega), by omega, fun b hb => ⟨h _ (by omega), h _ (by omega), h _ (by omega)⟩, by omega, fun i hi => ⟨h _ (by omega), h _ (by omega), h _ (by omega)⟩⟩
theorem WS_224 (h : ∀ k, k < 224 → X k = Y k) (hW : WS X) : WS Y := by
  obtain ⟨hw, hk, hl⟩ := hW
  have hp := pre_224 h (wf_B hw) hk.1
  have eB : sB Y = sB X := by unfold sB; rw [h 2 (by omega)]
  have eK : sK Y = sK X := by unfold sK; rw [h 3 (by omega)]
  have eV := pre_V hp
  have h8 := wf_V8 hw
  refine ⟨wfT_same hw hp (h 2 (by omega)).symm, ⟨by rw [eK]; exact hk.1, by rw [eK, ← h 3 (by omega)]; exact hk.2.1, fun i hi => wfK_pre hk hp i (by omega)⟩, fun v hv => ?_⟩
  have e1 : lk Y v = lk X v := by unfold lk; rw [h (216 + v) (by omega)]
  rw [← h (216 + v) (by omega), e1, eB]
  exact hl v (by omega)
theorem NZ_224 (h : ∀ k, k < 224 → X k = Y k) (hN : NZ X N) : NZ Y N := by
  have eB : sB Y = sB X := by unfold sB; rw [h 2 (by omega)]
  intro b z1 z2
  exact hN b (by omega) z2
theorem MK_224 (h : ∀ k, k < 224 → X k = Y k) (h8 : sV X ≤ 8) (hM : MK I X r) : MK I Y r := by
  have eV : sV Y = sV X := by unfold sV; rw [h 1 (by omega)]
  exact ⟨hM.1.trans (h 3 (by omega)), hM.2.1.trans (h 2 (by omega)), fun v hv => (hM.2.2 v (by omega)).trans (h _ (by omega))⟩
theorem CS_224 (h : ∀ k, k < 224 → X k = Y k) (h6 : I 6 3 ≠ 0) (hC : CS X N I J) : CS Y N I J := by
  have h8 := wf_V8 hC.1.1
  have hp := pre_224 h (wf_B hC.1.1) hC.1.2.1.1
  have eK : sK Y = sK X := by unfold sK; rw [h 3 (by omega)]
  have eV := pre_V hp
  have hk48 := hC.1.2.1.1
  refine ⟨WS_224 h hC.1, Tr_same h8 hp (h 2 (by omega)).symm hC.2.1, ⟨hC.2.2.1.1.trans (h 3 (by omega)), fun i hi => ?_, fun v hv => (hC.2.2.1.2.2 v (by omega)).trans (h _ (by omega))⟩, fun q => absurd q h6⟩
  rw [eK] at hi
  obtain ⟨r1, r2, r3⟩ := hC.2.2.1.2.1 i hi
  exact ⟨r1.trans (h _ (by omega)), r2.trans (h _ (by omega)), r3.trans (h _ (by omega))⟩
theorem hS_c (h1 : ∀ k, k < 222 → K 222 (222 * i + k) = I 222 (222 * n + k)) (h0 : S 0 = S' 0) (h01 : S 1 = S' 1) : hS K S' i = hS I S n := by
  funext k
  unfold hS
  by_cases z : k < 2
  · rw [if_pos z, if_pos z]
    have : k = 0 ∨ k = 1 := by omega
    rcases this with rfl | rfl
    · exact h0.symm
    · exact h01.symm
  · rw [if_neg z, if_neg z]
    by_cases z2 : k < 224
    · rw [if_pos z2, if_pos z2, h1 (k - 2) (by omega)]
    · rw [if_neg z2, if_neg z2]
theorem hS_row (h1 : ∀ k, k < 222 → K 222 (222 * i + k) = S (2 + k)) (h0 : S 0 = S' 0) (h01 : S 1 = S' 1) : ∀ k, k < 224 → S k = hS K S' i k := by
  intro k hk
  unfold hS
  by_cases z : k < 2
  · rw [if_pos z]
    have : k = 0 ∨ k = 1 := by omega
    rcases this with rfl | rfl
    · exact h0
    · exact h01
  · rw [if_neg z, if_pos hk, h1 (k - 2) (by omega)]
    congr 1
    omega
theorem c_keep (hm : I 79 2 = n32 m) (ho : I 79 1 = n32 o) (h8 : m ≤ 8) (ho8 : o < 8) (hk : MK I S 208) (hV : sV S ≤ 8) : RR (xcall xprog (d + 1) 59 [.ref 79, .ref 208] (xst e L I J)) (zV e L fun K J' => J' = J ∧ CK I K S m o ∧ ∀ q k, ¬ (79 ≤ q ∧ q < 89) → K q k = I q k) := by
  refine RR_eq ((aX5_keep _ e L I J).trans (bX5_keep_0 _ e L I J)) ?_
  have hr : (n32 o + n32 m) - (n32 o + n32 m) / 8 * 8 = n32 ((o + m) % 8) := by
    rw [n32_add]
    exact n32_rem (b := 8) (by omega) (by omega)
  have hlt : (o + m) % 8 < 8 := Nat.mod_lt _ (by omega)
  have hG208 : xn G0 208 = some (14, 10, []) := by decide
  have hcq : ∀ c, xcq (xst e L I J) 208 0 (81 + (o + m) % 8) 0 10 c = c (xst e L (xcp I 208 (81 + (o + m) % 8) 0 0 10) J) := fun c => xcq_of hG208 (G0_81 _ hlt) (sp := 0) (dp := 0) (n := 10) (by omega) (by omega) (by omega) (by omega) (by omega)
  refine RR_eq (if_neg (by decide)) ?_
  refine RR_eq (bX5_keep_1 _ e L I J) ?_
  rw [if_neg (by decide), hm, ho, hr, xaR_80 hlt, hcq, ekX5_keep_1_14]
  generalize hK1 : xcp I 208 (81 + (o + m) % 8) 0 0 10 = K1
  have ko : ∀ q k, q ≠ 81 + (o + m) % 8 → K1 q k = I q k := fun q k z => by rw [← hK1, xcp_rne z]
  have kr : ∀ k, k < 10 → K1 (81 + (o + m) % 8) k = I 208 k := fun k z => by rw [← hK1, xcp_in z]
  have mkK : MK K1 S (81 + (o + m) % 8) := ⟨(kr 0 (by omega)).trans hk.1, (kr 1 (by omega)).trans hk.2.1, fun v hv => (kr (2 + v) (by omega)).trans (hk.2.2 v hv)⟩
  have e79 : K1 79 2 = n32 m := (ko 79 2 (by omega)).trans hm
  have e791 : K1 79 1 = n32 o := (ko 79 1 (by omega)).trans ho
  rw [e79]
  by_cases q : m < 8
  · have ql : n32 m < (8 : Int32) := (n32_lt (b := 8) (by omega) (by omega)).mpr q
    rw [if_pos ql, bX5_keep_3, n32_succ]
    refine RR_V ⟨rfl, ⟨fun _ => ⟨xu_ee, by rw [xu_kne (by decide), e791]⟩, fun h => absurd h (by omega), fun i k hi hn => ?_, ?_⟩, fun q k hq => ?_⟩
    · rw [xu_rne (by omega), ko _ k (by omega)]
    · refine ⟨?_, ?_, fun v hv => ?_⟩
      · rw [xu_rne (by omega)]; exact mkK.1
      · rw [xu_rne (by omega)]; exact mkK.2.1
      · rw [xu_rne (by omega)]; exact mkK.2.2 v hv
    · rw [xu_rne (by omega), ko q k (by omega)]
  · have q8 : m = 8 := by omega
    have ql : ¬ n32 m < (8 : Int32) := fun h => q ((n32_lt (b := 8) (by omega) (by omega)).mp h)
    rw [if_neg ql, bX5_keep_2, if_neg (by decide), bX5_keep_3, e791]
    have hr2 : (n32 o + 1) - (n32 o + 1) / 8 * 8 = n32 ((o + 1) % 8) := by
      rw [n32_succ]
      exact n32_rem (b := 8) (by omega) (by omega)
    rw [hr2]
    refine RR_V ⟨rfl, ⟨fun h => absurd h q, fun _ => ⟨by rw [xu_kne (by decide), e79, q8], xu_ee⟩, fun i k hi hn => ?_, ?_⟩, fun q k hq => ?_⟩
    · rw [xu_rne (by omega), ko _ k (by omega)]
    · refine ⟨?_, ?_, fun v hv => ?_⟩
      · rw [xu_rne (by omega)]; exact mkK.1
      · rw [xu_rne (by omega)]; exact mkK.2.1
      · rw [xu_rne (by omega)]; exact mkK.2.2 v hv
    · rw [xu_rne (by omega), ko q k (by omega)]
/-- both sides have kept S, and stand at S' -/
theorem Hst_push (h : HM S N I m o) (hW : WS S) (hN : NZ S N) (hp : pre S S') (hc : CK I K S m o) (hr : (m < 8 ∧ K 209 38 = n32 (m + 1) ∧ (∀ k, k < 222 * m → K 222 k = I 222 k) ∧ ∀ i, i < 222 → K 222 (222 * m + i) = S (2 + i)) ∨ (m = 8 ∧ K 209 38 = n32 8 ∧ (∀ k, k < 1554 → K 222 k = I 222 (k + 222)) ∧ ∀ i, i < 222 → K 222 (1554 + i) = S (2 + i))) : Hst S' N K := by
  obtain ⟨h8, ho, _, _, _, g1, g2, g3⟩ := h
  obtain ⟨c1, c2, c3, c4⟩ := hc
  have h0 := hp.1
  have h01 := hp.2.1
  have hV := wf_V8 hW.1
  have mkc : ∀ {X : TS} {i : Nat}, i < 8 → i ≠ (o + m) % 8 → MK I X (81 + i) → MK K X (81 + i) := fun {X i} z1 z2 q => ⟨(c3 i _ z1 z2).trans q.1, (c3 i _ z1 z2).trans q.2.1, fun v hv => (c3 i _ z1 z2).trans (q.2.2 v hv)⟩
  rcases hr with ⟨r1, r2, r3, r4⟩ | ⟨r1, r2, r3, r4⟩
  · have es : ∀ j, j < m → hS K S' j = hS I S j := fun j hj => hS_c (fun k hk => r3 _ (by omega)) h0 h01
    have el := hS_row r4 h0 h01
    refine ⟨m + 1, o, by omega, ho, (c1 r1).1, (c1 r1).2, r2, fun j hj => ?_, fun j hj => ?_, fun _ => ?_⟩
    · by_cases z : j = m
      · subst z
        exact ⟨WS_224 el hW, NZ_224 el hN, MK_224 el hV c4⟩
      · rw [es j (by omega)]
        obtain ⟨q1, q2, q3⟩ := g1 j (by omega)
        exact ⟨q1, q2, mkc (Nat.mod_lt _ (by omega)) (by omega) q3⟩
    · by_cases z : j + 1 = m
      · rw [es j (by omega)]
        subst z
        have := g3 (by omega)
        rw [show j + 1 - 1 = j by omega] at this
        exact pre_t this (pre_224 el (wf_B hW.1) hW.2.1.1)
      · rw [es j (by omega), es (j + 1) (by omega)]
        exact g2 j (by omega)
    · rw [show m + 1 - 1 = m by omega]
      refine pre_t (pre_224 (fun k hk => (el k hk).symm) ?_ ?_) hp
      · have : sB (hS K S' m) = sB S := by unfold sB; rw [← el 2 (by omega)]
        rw [this]; exact wf_B hW.1
      · have : sK (hS K S' m) = sK S := by unfold sK; rw [← el 3 (by omega)]
        rw [this]; exact hW.2.1.1
  · subst r1
    have es : ∀ j, j < 7 → hS K S' j = hS I S (j + 1) := fun j hj => hS_c (fun k hk => by rw [r3 _ (by omega)]; congr 1; omega) h0 h01
    have el : ∀ k, k < 224 → S k = hS K S' 7 k := hS_row (i := 7) r4 h0 h01
    refine ⟨8, (o + 1) % 8, by omega, Nat.mod_lt _ (by omega), (c2 rfl).1, (c2 rfl).2, r2, fun j hj => ?_, fun j hj => ?_, fun _ => ?_⟩
    · by_cases z : j = 7
      · subst z
        rw [show 81 + ((o + 1) % 8 + 7) % 8 = 81 + (o + 8) % 8 by omega]
        exact ⟨WS_224 el hW, NZ_224 el hN, MK_224 el hV c4⟩
      · rw [es j (by omega)]
        obtain ⟨q1, q2, q3⟩ := g1 (j + 1) (by omega)
        rw [show 81 + ((o + 1) % 8 + j) % 8 = 81 + (o + (j + 1)) % 8 by omega]
        exact ⟨q1, q2, mkc (Nat.mod_lt _ (by omega)) (by omega) q3⟩
    · by_cases z : j + 1 = 7
      · rw [es j (by omega), z]
        refine pre_t (g3 (by omega)) (pre_224 el (wf_B hW.1) hW.2.1.1)|> fun q => ?_
        exact q
      · rw [es j (by omega), es (j + 1) (by omega)]
        exact g2 (j + 1) (by omega)
    · refine pre_t (pre_224 (fun k hk => (el k hk).symm) ?_ ?_) hp
      · have : sB (hS K S' 7) = sB S := by unfold sB; rw [← el 2 (by omega)]
        rw [show 8 - 1 = 7 from rfl, this]; exact wf_B hW.1
      · have : sK (hS K S' 7) = sK S := by unfold sK; rw [← el 3 (by omega)]
        rw [show 8 - 1 = 7 from rfl, this]; exact hW.2.1.1
theorem hS_0 (h0 : S 0 = S' 0) (h01 : S 1 = S' 1) (h : K 222 = I 222) : hS K S' i = hS I S i := hS_c (fun k _ => by rw [h]) h0 h01
/-- back to the latest state kept -/
theorem c_takeBack (hC : CS S N I J) (h : HM S N I m o) : RR (xcall xprog (d + 2) 60 [.ref 79, .ref 6] (xst e L I J)) (zI e L fun x K J' => J' = J ∧ ((m = 0 ∧ x = -1 ∧ K = I) ∨ (0 < m ∧ x = n32 (m - 1) ∧ K 79 2 = n32 (m - 1) ∧ CS (hS I S (m - 1)) N K J ∧ K 6 3 ≠ 0 ∧ (∀ q k, ¬ (7 ≤ q ∧ q < 42) → (q ≠ 6 ∨ k ≠ 3) → (q ≠ 79 ∨ k ≠ 2) → K q k = I q k)))) := by
  obtain ⟨h8, ho, e1, e2, e3, g1, g2, g3⟩ := h
  refine RR_eq ((aX5_takeBack _ e L I J).trans (bX5_takeBack_0 _ e L I J)) ?_
  rw [e1]
  by_cases q : m = 0
  · subst q
    rw [if_pos (show n32 0 = 0 from rfl)]
    exact RR_I ⟨rfl, Or.inl ⟨rfl, rfl, rfl⟩⟩
  · have qz : ¬ n32 m = 0 := fun h => q ((n32_inj (b := 0) (by omega) (by omega)).mp h)
    rw [if_neg qz]
    refine RR_eq (bX5_takeBack_1 _ e L I J) ?_
    have hm1 : n32 m - 1 = n32 (m - 1) := n32_sub (b := 1) (by omega)
    have hr : (n32 o + n32 (m - 1)) - (n32 o + n32 (m - 1)) / 8 * 8 = n32 ((o + (m - 1)) % 8) := by
      rw [n32_add]
      exact n32_rem (b := 8) (by omega) (by omega)
    have hlt : (o + (m - 1)) % 8 < 8 := Nat.mod_lt _ (by omega)
    obtain ⟨q1, q2, q3⟩ := g1 (m - 1) (by omega)
    refine RR_eq (if_neg (by decide)) ?_
    rw [e1, e2, hm1, hr, xaR_80 hlt, c_rewind_x hlt, xcV_some, ekX5_takeBack_1_17]
    have hC1 : CS S N (xu I 79 2 (n32 (m - 1))) J := CS_o (fun o k z1 z2 => by rw [xu_rne (by omega)]) (by rw [xu_rne (by decide)]) hC
    have mk1 : MK (xu I 79 2 (n32 (m - 1))) (hS I S (m - 1)) (81 + (o + (m - 1)) % 8) := by
      refine ⟨?_, ?_, fun v hv => ?_⟩
      · rw [xu_rne (by omega)]; exact q3.1
      · rw [xu_rne (by omega)]; exact q3.2.1
      · rw [xu_rne (by omega)]; exact q3.2.2 v hv
    obtain ⟨hC2, f2⟩ := rwd_CS hC1 q1 (g3 (by omega)) mk1 (by omega)
    have k79 : rwd (xu I 79 2 (n32 (m - 1))) (81 + (o + (m - 1)) % 8) 79 2 = n32 (m - 1) := by rw [f2 79 2 (by omega) (Or.inl (by decide)), xu_ee]
    rw [k79]
    refine RR_I ⟨rfl, Or.inr ⟨by omega, rfl, k79, hC2, ?_, fun q k z1 z2 z3 => ?_⟩⟩
    · unfold rwd
      rw [xu_ee]
      decide
    · rw [f2 q k z1 z2]
      by_cases z : q = 79
      · subst z
        rw [xu_kne (by omega)]
      · rw [xu_rne z]
theorem r_undo (hC : RS S I) (hm : I 209 38 = n32 m) (h8 : m ≤ 8) (hW : 0 < m → WS (hS I S (m - 1))) : RR (xcall xprog (d + 2) 223 [.ref 209] (xst e L I J)) (zI e L fun x K J' => J' = J ∧ ((m = 0 ∧ x = -1 ∧ K = xu I 209 0 0) ∨ (0 < m ∧ x = n32 (m - 1) ∧ K 209 38 = n32 (m - 1) ∧ RS (K 211) K ∧ (∀ k, k < 224 → hS I S (m - 1) k = K 211 k) ∧ (∀ k, 224 ≤ k → K 211 k = S k) ∧ (∀ q k, q ≠ 211 → (q ≠ 209 ∨ ¬ (k = 0 ∨ k = 34 ∨ k = 38)) → K q k = I q k)))) := by
  refine RR_eq ((aX12_undo _ e L I J).trans (bX12_undo_0 _ e L I J)) ?_
  rw [hm]
  by_cases q : m = 0
  · subst q
    rw [if_pos (show n32 0 = 0 from rfl)]
    exact RR_I ⟨rfl, Or.inl ⟨rfl, rfl, rfl⟩⟩
  · have qz : ¬ n32 m = 0 := fun h => q ((n32_inj (b := 0) (by omega) (by omega)).mp h)
    rw [if_neg qz]
    refine RR_eq (bX12_undo_1 _ e L _ J) ?_
    have hm0 : (xu I 209 0 0) 209 38 = n32 m := by rw [xu_kne (by decide), hm]
    have hm1 : n32 m - 1 = n32 (m - 1) := n32_sub (b := 1) (by omega)
    have hm2 : (222 : Int32) * n32 (m - 1) = n32 (222 * (m - 1)) := n32_mul
    rw [hm0, hm1, hm2]
    refine RR_cV (r_brings_222 (d := d) (n := 222 * (m - 1)) (by omega)) (fun K J' ⟨j1, f1, f2, f3, f4⟩ => ?_)
    subst j1
    rw [ekX12_undo_1_13]
    have k38 : K 209 38 = n32 (m - 1) := by rw [f1 209 38 (by decide) (Or.inr (by decide)), xu_ee]
    have hrow : ∀ k, k < 224 → hS I S (m - 1) k = K 211 k := fun k hk => by
      unfold hS
      by_cases z : k < 2
      · rw [if_pos z, f4 k (Or.inl z), xu_rne (by decide), xu_rne (by decide), hC.2.1]
      · rw [if_neg z, if_pos hk]
        have := f3 (k - 2) (by omega)
        rw [show 2 + (k - 2) = k by omega] at this
        rw [this, xu_rne (by decide), xu_rne (by decide)]
    rw [k38]
    refine RR_I ⟨rfl, Or.inr ⟨by omega, rfl, k38, RS_new (WS_224 hrow (hW (by omega))) rfl f2, hrow, fun k hk => ?_, fun q k z1 z2 => ?_⟩⟩
    · rw [f4 k (Or.inr hk), xu_rne (by decide), xu_rne (by decide), hC.2.1]
    · rw [f1 q k z1 (by omega)]
      by_cases z : q = 209
      · subst z
        rw [xu_kne (by omega), xu_kne (by omega)]
      · rw [xu_rne z, xu_rne z]
/-- what is left is a history of the state gone back to -/
theorem Hst_pop (h : HM S N I m o) (hm : 0 < m) (h0 : S' 0 = S 0) (h01 : S' 1 = S 1) (hrow : ∀ k, k < 224 → hS I S (m - 1) k = S' k) (k1 : K 79 2 = n32 (m - 1)) (k2 : K 79 1 = I 79 1) (k3 : K 209 38 = n32 (m - 1)) (k4 : K 222 = I 222) (k5 : ∀ i k, i < 8 → K (81 + i) k = I (81 + i) k) : Hst S' N K := by
  obtain ⟨h8, ho, e1, e2, e3, g1, g2, g3⟩ := h
  have es : ∀ j, hS K S' j = hS I S j := fun j => hS_0 h0.symm h01.symm k4
  refine ⟨m - 1, o, by omega, ho, k1, k2.trans e2, k3, fun j hj => ?_, fun j hj => ?_, fun hp => ?_⟩
  · rw [es j]
    obtain ⟨q1, q2, q3⟩ := g1 j (by omega)
    have hlt : (o + j) % 8 < 8 := Nat.mod_lt _ (by omega)
    exact ⟨q1, q2, (k5 _ _ hlt).trans q3.1, (k5 _ _ hlt).trans q3.2.1, fun v hv => (k5 _ _ hlt).trans (q3.2.2 v hv)⟩
  · rw [es j, es (j + 1)]
    exact g2 j (by omega)
  · rw [es]
    have q := g2 (m - 1 - 1) (by omega)
    rw [show m - 1 - 1 + 1 = m - 1 by omega] at q
    obtain ⟨w1, w2, w3⟩ := (g1 (m - 1) (by omega)).1
    exact pre_t q (pre_224 hrow (wf_B w1) w2.1)
end HIST
