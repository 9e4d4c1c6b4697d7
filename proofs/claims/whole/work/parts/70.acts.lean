/-! Acts: how they change the state. -/
/-- Y goes on from X -/
def pre (X Y : TS) : Prop := X 0 = Y 0 ∧ X 1 = Y 1 ∧ (∀ v, v < 8 → X (4 + v) = Y (4 + v)) ∧ sB X ≤ sB Y ∧ (∀ b, b < sB X → X (12 + b) = Y (12 + b) ∧ X (32 + b) = Y (32 + b) ∧ X (52 + b) = Y (52 + b)) ∧ sK X ≤ sK Y ∧ ∀ i, i < sK X → X (72 + i) = Y (72 + i) ∧ X (120 + i) = Y (120 + i) ∧ X (168 + i) = Y (168 + i)
def NZ (S : TS) (N : Nat → Int64) : Prop := ∀ b, sB S ≤ b → b < 20 → N (8 + b) = 0
def svote (S : TS) (v s t : Nat) : TS := up (up (up (up S (72 + sK S) (n32 v)) (120 + sK S) (n32 s)) (168 + sK S) (n32 t)) 3 (n32 (sK S + 1))
def slook (S : TS) (v b : Nat) : TS := up S (216 + v) (n32 b)
def sgrow (S : TS) (b : Nat) : TS := up (up (up (up S (12 + sB S) (n32 b)) (32 + sB S) (-1)) (52 + sB S) 0) 2 (n32 (sB S + 1))
section ACT
variable {X Y Z S : TS} {N : Nat → Int64} {I K : TI} {J : TJ} {a b s t v k i n : Nat}
theorem pre_r : pre S S := ⟨rfl, rfl, fun _ _ => rfl, Nat.le_refl _, fun _ _ => ⟨rfl, rfl, rfl⟩, Nat.le_refl _, fun _ _ => ⟨rfl, rfl, rfl⟩⟩
theorem pre_t (h : pre X Y) (h' : pre Y Z) : pre X Z := by
  obtain ⟨a1, a2, a3, a4, a5, a6, a7⟩ := h
  obtain ⟨b1, b2, b3, b4, b5, b6, b7⟩ := h'
  refine ⟨a1.trans b1, a2.trans b2, fun v hv => (a3 v hv).trans (b3 v hv), by omega, fun b hb => ?_, by omega, fun i hi => ?_⟩
  · obtain ⟨c1, c2, c3⟩ := a5 b hb
    obtain ⟨d1, d2, d3⟩ := b5 b (by omega)
    exact ⟨c1.trans d1, c2.trans d2, c3.trans d3⟩
  · obtain ⟨c1, c2, c3⟩ := a7 i hi
    obtain ⟨d1, d2, d3⟩ := b7 i (by omega)
    exact ⟨c1.trans d1, c2.trans d2, c3.trans d3⟩
theorem anc_c {p q : Nat → Nat} (h : ∀ b, b < n → p b = q b) (hb : b < n) : anc p a b = anc q a b := by
  induction b using Nat.strongRecOn with
  | _ b ih =>
    by_cases hc : p b < b
    · have hq : q b < b := by rw [← h b hb]; exact hc
      rw [anc_s hc, anc_s hq, ih (p b) hc (by omega), h b hb]
    · have hq : ¬ q b < b := by rw [← h b hb]; exact hc
      rw [anc_z hc, anc_z hq]
theorem pre_par (h : pre X Y) (hb : b < sB X) : par X b = par Y b := by
  unfold par
  rw [(h.2.2.2.2.1 b hb).1]
theorem pre_E (h : pre X Y) : sE X = sE Y := by unfold sE; rw [h.1]
theorem pre_V (h : pre X Y) : sV X = sV Y := by unfold sV; rw [h.2.1]
theorem pre_hei (h : pre X Y) (hb : b < sB X) : hei X b = hei Y b := hgt_c (n := sB X) (fun b hb => pre_par h hb) hb
theorem pre_ahs (h : pre X Y) (hb : b < sB X) : ahs (par X) b = ahs (par Y) b := ahs_c (n := sB X) (fun b hb => pre_par h hb) hb
theorem pre_anc (h : pre X Y) (hb : b < sB X) : anc (par X) a b = anc (par Y) a b := anc_c (n := sB X) (fun b hb => pre_par h hb) hb
theorem pre_lv (h : pre X Y) (hb : b < sB X) : lv X b = lv Y b := by unfold lv; rw [pre_hei h hb, pre_E h]
theorem pre_pt (h : pre X Y) (hb : b < sB X) : pt X b = pt Y b := by unfold pt; rw [pre_hei h hb, pre_E h]
theorem pre_lvc (h : pre X Y) (hb : b < sB X) : lvc X b = lvc Y b := by unfold lvc; rw [pre_pt h hb, pre_lv h hb]
theorem pre_wt (h : pre X Y) (hb : b < sB X) (hv : v < 8) : wt X b v = wt Y b v := wt_c (n := sB X) (h.2.2.1 v hv) (fun b hb => h.2.2.2.2.1 b hb) hb
theorem pre_vo (h : pre X Y) (hi : i < sK X) : vo X i = vo Y i := by unfold vo; rw [(h.2.2.2.2.2.2 i hi).1]
theorem pre_so (h : pre X Y) (hi : i < sK X) : so X i = so Y i := by unfold so; rw [(h.2.2.2.2.2.2 i hi).2.1]
theorem pre_ta (h : pre X Y) (hi : i < sK X) : ta X i = ta Y i := by unfold ta; rw [(h.2.2.2.2.2.2 i hi).2.2]
/-- a tree's cells serve an earlier state too -/
theorem Tr_pre {t : Nat} (hw : wfT X) (h : pre X Y) (hT : Tr t Y N I J) (hB : I t 2 = X 2) : Tr t X N I J := by
  have h8 := wf_V8 hw
  obtain ⟨h0, h1, h2, h3, h4⟩ := hT
  refine ⟨h0.trans h.1.symm, h1.trans h.2.1.symm, hB, fun v hv => ⟨(h3 v (by rw [← pre_V h]; exact hv)).1, (h3 v (by rw [← pre_V h]; exact hv)).2.trans (h.2.2.1 v (by omega)).symm⟩, fun b hb => ?_⟩
  obtain ⟨q1, q2, q3, q4, q5, q6, q7⟩ := h4 b (by have := h.2.2.2.1; omega)
  obtain ⟨r1, r2, r3⟩ := h.2.2.2.2.1 b hb
  refine ⟨q1, q2.trans r1.symm, q3.trans (pre_ahs h hb).symm, q4.trans (by rw [pre_hei h hb]), q5.trans (pre_lvc h hb).symm, q6.trans r2.symm, fun v hv => ?_⟩
  rw [pre_wt h hb (by omega)]
  exact q7 v (by rw [← pre_V h]; exact hv)
-- a vote
theorem sv_ne (h1 : k ≠ 72 + sK S) (h2 : k ≠ 120 + sK S) (h3 : k ≠ 168 + sK S) (h4 : k ≠ 3) : svote S v s t k = S k := by
  unfold svote
  rw [up_ne h4, up_ne h3, up_ne h2, up_ne h1]
theorem sv_3 : svote S v s t 3 = n32 (sK S + 1) := up_eq
theorem sv_K (hk : sK S < 48) : sK (svote S v s t) = sK S + 1 := by
  unfold sK
  rw [sv_3]
  exact n32_nat (by show sK S + 1 < 2147483648; omega)
theorem sv_B : sB (svote S v s t) = sB S := by
  unfold sB
  rw [sv_ne (by omega) (by omega) (by omega) (by omega)]
theorem sv_V : sV (svote S v s t) = sV S := by
  unfold sV
  rw [sv_ne (by omega) (by omega) (by omega) (by omega)]
theorem sv_v (hk : sK S < 48) : svote S v s t (72 + sK S) = n32 v := by
  unfold svote
  rw [up_ne (by omega), up_ne (by omega), up_ne (by omega), up_eq]
theorem sv_s (hk : sK S < 48) : svote S v s t (120 + sK S) = n32 s := by
  unfold svote
  rw [up_ne (by omega), up_ne (by omega), up_eq]
theorem sv_t (hk : sK S < 48) : svote S v s t (168 + sK S) = n32 t := by
  unfold svote
  rw [up_ne (by omega), up_eq]
theorem pre_sv (hw : wfT S) (hk : sK S < 48) : pre S (svote S v s t) := by
  have h20 := wf_B hw
  refine ⟨(sv_ne (by omega) (by omega) (by omega) (by omega)).symm, (sv_ne (by omega) (by omega) (by omega) (by omega)).symm, fun v hv => (sv_ne (by omega) (by omega) (by omega) (by omega)).symm, by rw [sv_B]; exact Nat.le_refl _, fun b hb => ⟨(sv_ne (by omega) (by omega) (by omega) (by omega)).symm, (sv_ne (by omega) (by omega) (by omega) (by omega)).symm, (sv_ne (by omega) (by omega) (by omega) (by omega)).symm⟩, by rw [sv_K hk]; omega, fun i hi => ⟨(sv_ne (by omega) (by omega) (by omega) (by omega)).symm, (sv_ne (by omega) (by omega) (by omega) (by omega)).symm, (sv_ne (by omega) (by omega) (by omega) (by omega)).symm⟩⟩
/-- a longer tree of the same rows is good -/
theorem wfT_same (hw : wfT S) (h : pre S Y) (h2 : Y 2 = S 2) : wfT Y := by
  obtain ⟨w1, w2, w3, w4, w5, w6, w7, w8, w9, w10, w11⟩ := hw
  have eB : sB Y = sB S := by unfold sB; rw [h2]
  have eE := pre_E h
  have eV := pre_V h
  refine ⟨by omega, by omega, by rw [← h.1, ← eE]; exact w3, by omega, by rw [← h.2.1, ← eV]; exact w5, by omega, by rw [h2, eB]; exact w7, fun v hv => ?_, fun h0 => ?_, fun b h0 hb => ?_, fun b hb => ?_⟩
  · rw [← h.2.2.1 v (by omega)]
    exact w8 v (by omega)
  · have := (h.2.2.2.2.1 0 (by omega)).1
    rw [show Y 12 = S 12 from this.symm]
    exact w9 (by omega)
  · rw [← (h.2.2.2.2.1 b (by omega)).1, ← pre_par h (show b < sB S by omega)]
    exact w10 b h0 (by omega)
  · rw [← (h.2.2.2.2.1 b (by omega)).2.1, ← (h.2.2.2.2.1 b (by omega)).2.2, ← eV]
    exact w11 b (by omega)
theorem wfK_pre (hk : wfK S) (h : pre S Y) (i : Nat) (hi : i < sK S) : Y (72 + i) = n32 (vo Y i) ∧ vo Y i < sV Y ∧ Y (120 + i) = n32 (so Y i) ∧ so Y i < sB Y ∧ Y (168 + i) = n32 (ta Y i) ∧ ta Y i < sB Y ∧ pt Y (so Y i) = true ∧ pt Y (ta Y i) = true ∧ anc (par Y) (so Y i) (ta Y i) = true := by
  obtain ⟨q1, q2, q3, q4, q5, q6, q7, q8, q9⟩ := hk.2.2 i hi
  obtain ⟨r1, r2, r3⟩ := h.2.2.2.2.2.2 i hi
  have hB := h.2.2.2.1
  rw [← pre_vo h hi, ← pre_so h hi, ← pre_ta h hi, ← r1, ← r2, ← r3, ← pre_V h, ← pre_pt h q4, ← pre_pt h q6, ← pre_anc h q6]
  exact ⟨q1, q2, q3, by omega, q5, by omega, q7, q8, q9⟩
theorem WS_sv (hW : WS S) (hK : sK S < 48) (hv : v < sV S) (hs : s < sB S) (ht : t < sB S) (ps : pt S s = true) (pq : pt S t = true) (ha : anc (par S) s t = true) : WS (svote S v s t) := by
  obtain ⟨hw, hk, hl⟩ := hW
  have h20 := wf_B hw
  have h8 := wf_V8 hw
  have hp := pre_sv (v := v) (s := s) (t := t) hw hK
  have e2 : svote S v s t 2 = S 2 := sv_ne (by omega) (by omega) (by omega) (by omega)
  refine ⟨wfT_same hw hp e2, ⟨by rw [sv_K hK]; omega, by rw [sv_K hK, sv_3], fun i hi => ?_⟩, fun u hu => ?_⟩
  · rw [sv_K hK] at hi
    by_cases z : i = sK S
    · subst z
      have e1 : vo (svote S v s t) (sK S) = v := by unfold vo; rw [sv_v hK, n32_nat (by omega)]
      have e2 : so (svote S v s t) (sK S) = s := by unfold so; rw [sv_s hK, n32_nat (by omega)]
      have e3 : ta (svote S v s t) (sK S) = t := by unfold ta; rw [sv_t hK, n32_nat (by omega)]
      rw [e1, e2, e3, sv_v hK, sv_s hK, sv_t hK, sv_V, sv_B, ← pre_pt hp hs, ← pre_pt hp ht, ← pre_anc hp ht]
      exact ⟨rfl, hv, rfl, hs, rfl, ht, ps, pq, ha⟩
    · exact wfK_pre hk hp i (by omega)
  · rw [sv_V] at hu
    have e1 : svote S v s t (216 + u) = S (216 + u) := sv_ne (by omega) (by omega) (by omega) (by omega)
    have e2 : lk (svote S v s t) u = lk S u := by unfold lk; rw [e1]
    rw [e1, e2, sv_B]
    exact hl u hu
-- a look
theorem sl_ne (h : k ≠ 216 + v) : slook S v b k = S k := up_ne h
theorem pre_sl (hw : wfT S) (hk : sK S ≤ 48) : pre S (slook S v b) := by
  have h20 := wf_B hw
  have eB : sB (slook S v b) = sB S := by unfold sB; rw [sl_ne (by omega)]
  have eK : sK (slook S v b) = sK S := by unfold sK; rw [sl_ne (by omega)]
  exact ⟨(sl_ne (by omega)).symm, (sl_ne (by omega)).symm, fun v hv => (sl_ne (by omega)).symm, by omega, fun b hb => ⟨(sl_ne (by omega)).symm, (sl_ne (by omega)).symm, (sl_ne (by omega)).symm⟩, by omega, fun i hi => ⟨(sl_ne (by omega)).symm, (sl_ne (by omega)).symm, (sl_ne (by omega)).symm⟩⟩
theorem sl_B : sB (slook S v b) = sB S := by unfold sB; rw [sl_ne (by omega)]
theorem sl_V : sV (slook S v b) = sV S := by unfold sV; rw [sl_ne (by omega)]
theorem sl_K : sK (slook S v b) = sK S := by unfold sK; rw [sl_ne (by omega)]
theorem WS_sl (hW : WS S) (hv : v < sV S) (hb : b < sB S) : WS (slook S v b) := by
  obtain ⟨hw, hk, hl⟩ := hW
  have h20 := wf_B hw
  have h8 := wf_V8 hw
  have hp := pre_sl (v := v) (b := b) hw hk.1
  refine ⟨wfT_same hw hp (sl_ne (by omega)), ⟨by rw [sl_K]; exact hk.1, by rw [sl_K, sl_ne (by omega)]; exact hk.2.1, fun i hi => ?_⟩, fun u hu => ?_⟩
  · rw [sl_K] at hi
    exact wfK_pre hk hp i hi
  · rw [sl_V] at hu
    by_cases z : u = v
    · subst z
      have e1 : slook S u b (216 + u) = n32 b := up_eq
      have e2 : lk (slook S u b) u = b := by unfold lk; rw [e1, n32_nat (by omega)]
      rw [e1, e2, sl_B]
      exact Or.inr ⟨rfl, hb⟩
    · have e1 : slook S v b (216 + u) = S (216 + u) := sl_ne (by omega)
      have e2 : lk (slook S v b) u = lk S u := by unfold lk; rw [e1]
      rw [e1, e2, sl_B]
      exact hl u hu
-- a new block
theorem sg_ne (h1 : k ≠ 12 + sB S) (h2 : k ≠ 32 + sB S) (h3 : k ≠ 52 + sB S) (h4 : k ≠ 2) : sgrow S b k = S k := by
  unfold sgrow
  rw [up_ne h4, up_ne h3, up_ne h2, up_ne h1]
theorem sg_2 : sgrow S b 2 = n32 (sB S + 1) := up_eq
theorem sg_B (hB : sB S < 20) : sB (sgrow S b) = sB S + 1 := by
  unfold sB
  rw [sg_2]
  exact n32_nat (by show sB S + 1 < 2147483648; omega)
theorem sg_V : sV (sgrow S b) = sV S := by unfold sV; rw [sg_ne (by omega) (by omega) (by omega) (by omega)]
theorem sg_K (hB : sB S < 20) : sK (sgrow S b) = sK S := by unfold sK; rw [sg_ne (by omega) (by omega) (by omega) (by omega)]
theorem sg_p (hB : sB S < 20) : sgrow S b (12 + sB S) = n32 b := by
  unfold sgrow
  rw [up_ne (by omega), up_ne (by omega), up_ne (by omega), up_eq]
theorem sg_w (hB : sB S < 20) : sgrow S b (32 + sB S) = -1 := by
  unfold sgrow
  rw [up_ne (by omega), up_ne (by omega), up_eq]
theorem sg_n (hB : sB S < 20) : sgrow S b (52 + sB S) = 0 := by
  unfold sgrow
  rw [up_ne (by omega), up_eq]
theorem pre_sg (hw : wfT S) (hB : sB S < 20) : pre S (sgrow S b) := by
  refine ⟨(sg_ne (by omega) (by omega) (by omega) (by omega)).symm, (sg_ne (by omega) (by omega) (by omega) (by omega)).symm, fun v hv => (sg_ne (by omega) (by omega) (by omega) (by omega)).symm, by rw [sg_B hB]; omega, fun c hc => ⟨(sg_ne (by omega) (by omega) (by omega) (by omega)).symm, (sg_ne (by omega) (by omega) (by omega) (by omega)).symm, (sg_ne (by omega) (by omega) (by omega) (by omega)).symm⟩, by rw [sg_K hB]; exact Nat.le_refl _, fun i hi => ⟨(sg_ne (by omega) (by omega) (by omega) (by omega)).symm, (sg_ne (by omega) (by omega) (by omega) (by omega)).symm, (sg_ne (by omega) (by omega) (by omega) (by omega)).symm⟩⟩
theorem WS_sg (hW : WS S) (hB : sB S < 20) (hb : b < sB S) : WS (sgrow S b) := by
  obtain ⟨hw, hk, hl⟩ := hW
  have h8 := wf_V8 hw
  have hp := pre_sg (b := b) hw hB
  have eE := pre_E hp
  have ep : par (sgrow S b) (sB S) = b := by unfold par; rw [sg_p hB, n32_nat (by omega)]
  obtain ⟨w1, w2, w3, w4, w5, w6, w7, w8, w9, w10, w11⟩ := hw
  refine ⟨⟨by omega, by omega, by rw [← hp.1, ← eE]; exact w3, by rw [sg_V]; exact w4, by rw [sg_V, ← hp.2.1]; exact w5, by rw [sg_B hB]; omega, by rw [sg_B hB, sg_2], fun v hv => ?_, fun _ => ?_, fun c h0 hc => ?_, fun c hc => ?_⟩, ⟨by rw [sg_K hB]; exact hk.1, by rw [sg_K hB, sg_ne (by omega) (by omega) (by omega) (by omega)]; exact hk.2.1, fun i hi => ?_⟩, fun u hu => ?_⟩
  · rw [sg_V] at hv
    rw [← hp.2.2.1 v (by omega)]
    exact w8 v hv
  · have := (hp.2.2.2.2.1 0 (by omega)).1
    rw [show sgrow S b 12 = S 12 from this.symm]
    exact w9 (by omega)
  · rw [sg_B hB] at hc
    by_cases z : c = sB S
    · subst z
      rw [sg_p hB, ep]
      exact ⟨rfl, hb⟩
    · rw [← (hp.2.2.2.2.1 c (by omega)).1, ← pre_par hp (show c < sB S by omega)]
      exact w10 c h0 (by omega)
  · rw [sg_B hB] at hc
    by_cases z : c = sB S
    · subst z
      rw [sg_w hB, sg_n hB]
      exact ⟨Or.inl rfl, 0, by omega, rfl⟩
    · rw [← (hp.2.2.2.2.1 c (by omega)).2.1, ← (hp.2.2.2.2.1 c (by omega)).2.2, sg_V]
      exact w11 c (by omega)
  · rw [sg_K hB] at hi
    exact wfK_pre hk hp i hi
  · rw [sg_V] at hu
    have e1 : sgrow S b (216 + u) = S (216 + u) := sg_ne (by omega) (by omega) (by omega) (by omega)
    have e2 : lk (sgrow S b) u = lk S u := by unfold lk; rw [e1]
    rw [e1, e2, sg_B hB]
    rcases hl u hu with q | ⟨q1, q2⟩
    · exact Or.inl q
    · exact Or.inr ⟨q1, by omega⟩
end ACT
