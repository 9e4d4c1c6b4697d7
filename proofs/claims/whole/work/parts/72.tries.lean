/-! The class's acts, and marks. -/
/-- nothing but tree, votes and looks has changed, and the flag -/
def afr (K I : TI) : Prop := ∀ o k, ¬ (7 ≤ o ∧ o < 42) → (o ≠ 6 ∨ k ≠ 3) → K o k = I o k
def jfr (K J : TJ) : Prop := ∀ o k, o ≠ 10 → K o k = J o k
/-- a row marks a state -/
def MK (I : TI) (X : TS) (r : Nat) : Prop := I r 0 = X 3 ∧ I r 1 = X 2 ∧ ∀ v, v < sV X → I r (2 + v) = X (216 + v)
section TRY
variable {d e L : Nat} {S X Y : TS} {N : Nat → Int64} {I K M : TI} {J J' : TJ} {a b s t v k i n r : Nat}
theorem afr_r : afr I I := fun _ _ _ _ => rfl
theorem afr_t (h : afr M K) (h' : afr K I) : afr M I := fun o k z1 z2 => (h o k z1 z2).trans (h' o k z1 z2)
theorem jfr_r : jfr J J := fun _ _ _ => rfl
theorem why_0 (h : why S v s t = 0) : pt S s = true ∧ pt S t = true ∧ anc (par S) s t = true ∧ hld S v s t = false ∧ sK S < 48 := by
  unfold why at h
  cases h1 : pt S s <;> cases h2 : pt S t <;> cases h3 : anc (par S) s t <;> cases h4 : hld S v s t <;> by_cases h5 : sK S < 48 <;> simp_all
theorem why_le : why S v s t ≤ 4 := by
  unfold why
  split
  · split
    · split
      · omega
      · split <;> omega
    · omega
  · omega
/-- the tree's cells serve a state that differs in votes and looks alone -/
theorem Tr_same {t : Nat} (h8 : sV S ≤ 8) (h : pre S Y) (h2 : Y 2 = S 2) (hT : Tr t S N I J) : Tr t Y N I J := by
  have eB : sB Y = sB S := by unfold sB; rw [h2]
  have eV := pre_V h
  obtain ⟨h0, h1, h2', h3, h4⟩ := hT
  refine ⟨h0.trans h.1, h1.trans h.2.1, h2'.trans h2.symm, fun v hv => ⟨(h3 v (by omega)).1, (h3 v (by omega)).2.trans (h.2.2.1 v (by omega))⟩, fun b hb => ?_⟩
  have hb' : b < sB S := by omega
  obtain ⟨q1, q2, q3, q4, q5, q6, q7⟩ := h4 b hb'
  obtain ⟨r1, r2, r3⟩ := h.2.2.2.2.1 b hb'
  exact ⟨q1, q2.trans r1, q3.trans (pre_ahs h hb'), q4.trans (by rw [pre_hei h hb']), q5.trans (pre_lvc h hb'), q6.trans r2, fun v hv => (q7 v (by omega)).trans (pre_wt h hb' (by omega))⟩
theorem c_tryVote (hC : CS S N I J) (hv : v < sV S) (hs : s < sB S) (ht : t < sB S) : RR (xcall xprog (d + 4) 84 [.ref 6, .int (n32 v), .int (n32 s), .int (n32 t)] (xst e L I J)) (zI e L fun x K J' => J' = J ∧ x = n32 (why S v s t) ∧ ((why S v s t = 0 ∧ CS (svote S v s t) N K J ∧ afr K I) ∨ (why S v s t ≠ 0 ∧ K = I))) := by
  obtain ⟨⟨hw, hk, hl⟩, hT, hA, hF⟩ := hC
  have h8 := wf_V8 hw
  have h20 := wf_B hw
  refine RR_eq ((aX8_tryVote _ e L I J _ _ _).trans (bX8_tryVote_0 _ e L I J _ _ _)) ?_
  rw [c_whyNotVote hT hw hA hk (by omega) hs ht, xcI_some, ekX8_tryVote_0_5]
  have hwl := why_le (S := S) (v := v) (s := s) (t := t)
  by_cases q : why S v s t = 0
  · obtain ⟨q1, q2, q3, q4, q5⟩ := why_0 q
    have eadd : ∀ d, xcall xprog (d + 1) 106 [.ref 37, .int (n32 v), .int (n32 s), .int (n32 t)] (xst e L I J) = some (none, xst e L (xu (xu (xu (xu I 38 (sK S) (n32 v)) 39 (sK S) (n32 s)) 40 (sK S) (n32 t)) 37 0 (n32 (sK S + 1))) J) := fun d => by
      rw [aX10_add, bX10_add_0]
      simp (disch := omega) only [n32_ltE, n32_leE, n32_eqE, n32_eqm, m1_eqn, n32_ge0, n32_lt0, n32_nat, n32_succ, n32_add, xin_n32, xin_b1, xin_b2, cond_true, cond_false, if_true, if_false, xcI_some, xcV_some, xcJ_some, xcR_some, xu_ee, xu_rne, xu_kne, ite_self, not_true_eq_false, not_false_eq_true, ne_eq, true_and, and_true, false_and, and_false, m1_lt0, m1_eq0, eq_self, Bool.false_eq_true, reduceCtorEq, z_lt0, i1_eq0, i0_eq1, i1_eq1, xrZ0, xrZ1, xrZt, n32_eq0, n32_eq1, n32_gt0, n32_gt1, n32_lt1, n32_le1, n32_0le, tf0, tf1, xaI_of, q48a, q48b, q48m, q48l, q48g, q48r, q48s, q48e, a_K hA hk, q5, bX10_add_0, bX10_add_1]
    rw [q, show n32 0 = (0 : Int32) from rfl, if_pos rfl, eadd (d + 2), xcV_some, ekX8_tryVote_0_14, bX8_tryVote_1]
    generalize hK1 : xu (xu (xu (xu I 38 (sK S) (n32 v)) 39 (sK S) (n32 s)) 40 (sK S) (n32 t)) 37 0 (n32 (sK S + 1)) = K1
    have ko : ∀ o k, ¬ (37 ≤ o ∧ o < 41) → K1 o k = I o k := fun o k z => by
      rw [← hK1, xu_rne (by omega), xu_rne (by omega), xu_rne (by omega), xu_rne (by omega)]
    have fr : afr (xu K1 6 3 1) I := fun o k z1 z2 => by
      by_cases z : o = 6
      · subst z
        rw [xu_kne (by omega), ko 6 k (by omega)]
      · rw [xu_rne z, ko o k (by omega)]
    have hp := pre_sv (v := v) (s := s) (t := t) hw q5
    have e2 : svote S v s t 2 = S 2 := sv_ne (by omega) (by omega) (by omega) (by omega)
    have hW' := WS_sv (v := v) ⟨hw, hk, hl⟩ q5 hv hs ht q1 q2 q3
    refine RR_I ⟨rfl, rfl, Or.inl ⟨rfl, ⟨hW', ?_, ?_, fun h => ?_⟩, fr⟩⟩
    · exact Tr_same h8 hp e2 (Tr_c (fun o k z1 z2 => by rw [xu_rne (by omega), ko o k (by omega)]) hw hT)
    · have ek : ∀ o k, o ≠ 6 → xu K1 6 3 1 o k = K1 o k := fun o k z => by rw [xu_rne z]
      refine ⟨?_, fun i hi => ?_, fun u hu => ?_⟩
      · rw [ek 37 0 (by decide), sv_3, ← hK1, xu_ee]
      · show xu K1 6 3 1 38 i = _ ∧ xu K1 6 3 1 39 i = _ ∧ xu K1 6 3 1 40 i = _
        rw [ek 38 i (by decide), ek 39 i (by decide), ek 40 i (by decide), ← hK1]
        rw [sv_K q5] at hi
        by_cases z : i = sK S
        · subst z
          rw [sv_v q5, sv_s q5, sv_t q5]
          refine ⟨?_, ?_, ?_⟩
          · rw [xu_rne (by decide), xu_rne (by decide), xu_rne (by decide), xu_ee]
          · rw [xu_rne (by decide), xu_rne (by decide), xu_ee]
          · rw [xu_rne (by decide), xu_ee]
        · obtain ⟨r1, r2, r3⟩ := hp.2.2.2.2.2.2 i (by omega)
          obtain ⟨t1, t2, t3⟩ := hA.2.1 i (by omega)
          rw [← r1, ← r2, ← r3]
          refine ⟨?_, ?_, ?_⟩
          · rw [xu_rne (by decide), xu_rne (by decide), xu_rne (by decide), xu_kne z]
            exact t1
          · rw [xu_rne (by decide), xu_rne (by decide), xu_kne z, xu_rne (by decide)]
            exact t2
          · rw [xu_rne (by decide), xu_kne z, xu_rne (by decide), xu_rne (by decide)]
            exact t3
      · show xu K1 6 3 1 41 u = _
        rw [sv_V] at hu
        rw [ek 41 u (by decide), ko 41 u (by omega), sv_ne (by omega) (by omega) (by omega) (by omega)]
        exact hA.2.2 u hu
    · rw [xu_ee] at h
      exact absurd h (by decide)
  · have qz : ¬ n32 (why S v s t) = 0 := fun h => q ((n32_inj (b := 0) (by omega) (by omega)).mp h)
    rw [if_neg qz, bX8_tryVote_1]
    exact RR_I ⟨rfl, rfl, Or.inr ⟨q, rfl⟩⟩
theorem c_tryLook (hC : CS S N I J) (hv : v < sV S) (hb : b < sB S) : RR (xcall xprog (d + 1) 85 [.ref 6, .int (n32 v), .int (n32 b)] (xst e L I J)) (zI e L fun x K J' => J' = J ∧ ((S (216 + v) ≠ n32 b ∧ x = 0 ∧ CS (slook S v b) N K J ∧ afr K I) ∨ (S (216 + v) = n32 b ∧ x = 1 ∧ K = I))) := by
  obtain ⟨⟨hw, hk, hl⟩, hT, hA, hF⟩ := hC
  have h8 := wf_V8 hw
  have h20 := wf_B hw
  refine RR_eq ((aX8_tryLook _ e L I J _ _).trans (bX8_tryLook_0 _ e L I J _ _)) ?_
  by_cases q : S (216 + v) = n32 b
  · simp (disch := omega) only [n32_ltE, n32_leE, n32_eqE, n32_eqm, m1_eqn, n32_ge0, n32_lt0, n32_nat, n32_succ, n32_add, xin_n32, xin_b1, xin_b2, cond_true, cond_false, if_true, if_false, xcI_some, xcV_some, xcJ_some, xcR_some, xu_ee, xu_rne, xu_kne, ite_self, not_true_eq_false, not_false_eq_true, ne_eq, true_and, and_true, false_and, and_false, m1_lt0, m1_eq0, eq_self, Bool.false_eq_true, reduceCtorEq, z_lt0, i1_eq0, i0_eq1, i1_eq1, xrZ0, xrZ1, xrZt, n32_eq0, n32_eq1, n32_gt0, n32_gt1, n32_lt1, n32_le1, n32_0le, tf0, tf1, xaI_of, a_lo hA hv, q]
    exact RR_I ⟨rfl, Or.inr ⟨rfl, rfl⟩⟩
  · simp (disch := omega) only [n32_ltE, n32_leE, n32_eqE, n32_eqm, m1_eqn, n32_ge0, n32_lt0, n32_nat, n32_succ, n32_add, xin_n32, xin_b1, xin_b2, cond_true, cond_false, if_true, if_false, xcI_some, xcV_some, xcJ_some, xcR_some, xu_ee, xu_rne, xu_kne, ite_self, not_true_eq_false, not_false_eq_true, ne_eq, true_and, and_true, false_and, and_false, m1_lt0, m1_eq0, eq_self, Bool.false_eq_true, reduceCtorEq, z_lt0, i1_eq0, i0_eq1, i1_eq1, xrZ0, xrZ1, xrZt, n32_eq0, n32_eq1, n32_gt0, n32_gt1, n32_lt1, n32_le1, n32_0le, tf0, tf1, xaI_of, a_lo hA hv, q, bX8_tryLook_1]
    have hp := pre_sl (v := v) (b := b) hw hk.1
    refine RR_I ⟨rfl, Or.inl ⟨rfl, ⟨WS_sl ⟨hw, hk, hl⟩ hv hb, ?_, ?_, fun h => ?_⟩, fun o k z1 z2 => ?_⟩⟩
    · exact Tr_same h8 hp (sl_ne (by omega)) (Tr_c (fun o k z1 z2 => by rw [xu_rne (by omega), xu_rne (by omega)]) hw hT)
    · refine ⟨?_, fun i hi => ?_, fun u hu => ?_⟩
      · rw [xu_rne (by decide), xu_rne (by decide), sl_ne (by omega)]
        exact hA.1
      · rw [sl_K] at hi
        obtain ⟨r1, r2, r3⟩ := hp.2.2.2.2.2.2 i hi
        rw [xu_rne (by omega), xu_rne (by omega), xu_rne (by omega), xu_rne (by omega), xu_rne (by omega), xu_rne (by omega), ← r1, ← r2, ← r3]
        exact hA.2.1 i hi
      · rw [sl_V] at hu
        show xu (xu I 41 v (n32 b)) 6 3 1 41 u = _
        rw [xu_rne (by decide)]
        by_cases z : u = v
        · subst z
          rw [xu_ee]
          exact up_eq.symm
        · rw [xu_kne z, sl_ne (by omega)]
          exact hA.2.2 u hu
    · rw [xu_ee] at h
      exact absurd h (by decide)
    · by_cases z : o = 6
      · subst z
        rw [xu_kne (by omega), xu_rne (by decide)]
      · rw [xu_rne z, xu_rne (by omega)]
theorem c_tryGrow (hC : CS S N I J) (hN : NZ S N) (hb : b < sB S) : RR (xcall xprog (d + 2) 86 [.ref 6, .int (n32 b)] (xst e L I J)) (zI e L fun x K J' => jfr J' J ∧ ((sB S < 20 ∧ x = 0 ∧ CS (sgrow S b) N K J' ∧ afr K I) ∨ (sB S = 20 ∧ x = 1 ∧ K = I ∧ J' = J))) := by
  obtain ⟨⟨hw, hk, hl⟩, hT, hA, hF⟩ := hC
  have h8 := wf_V8 hw
  have h20 := wf_B hw
  refine RR_eq ((aX8_tryGrow _ e L I J _).trans (bX8_tryGrow_0 _ e L I J _)) ?_
  by_cases q : sB S < 20
  · simp (disch := omega) only [n32_ltE, n32_leE, n32_eqE, n32_eqm, m1_eqn, n32_ge0, n32_lt0, n32_nat, n32_succ, n32_add, xin_n32, xin_b1, xin_b2, cond_true, cond_false, if_true, if_false, xcI_some, xcV_some, xcJ_some, xcR_some, xu_ee, xu_rne, xu_kne, ite_self, not_true_eq_false, not_false_eq_true, ne_eq, true_and, and_true, false_and, and_false, m1_lt0, m1_eq0, eq_self, Bool.false_eq_true, reduceCtorEq, z_lt0, i1_eq0, i0_eq1, i1_eq1, xrZ0, xrZ1, xrZt, n32_eq0, n32_eq1, n32_gt0, n32_gt1, n32_lt1, n32_le1, n32_0le, tf0, tf1, xaI_of, q20a, q20b, q20m, q20l, q20g, q20r, q20s, q20e, t7_B hT hw, q, bX8_tryGrow_1]
    have hW' := WS_sg (b := b) ⟨hw, hk, hl⟩ q hb
    have hp := pre_sg (b := b) hw q
    have hadd := c_addBlock_7 (d := d) (e := e) (L := L) (nm := Int64.ofNat 0) (bl := n32 b) (ch := -1) (wg := -1) (N' := N) hT hw q hW'.1 hp sg_2 (sg_p q) (sg_w q) (fun v _ h => absurd h.symm (n32_ne1 (by omega))) (fun _ _ => rfl) (fun _ _ => rfl) (hN _ (Nat.le_refl _) q)
    refine RR_cV hadd (fun K J' ⟨j1, f1, hT'⟩ => ?_)
    rw [ekX8_tryGrow_1_6]
    refine RR_I ⟨fun o k z => by rw [j1, xu_rne z], Or.inl ⟨rfl, ⟨hW', Tr_c (fun o k z1 z2 => by rw [xu_rne (by omega)]) hW'.1 hT', ?_, fun h => ?_⟩, fun o k z1 z2 => ?_⟩⟩
    · refine ⟨?_, fun i hi => ?_, fun u hu => ?_⟩
      · rw [xu_rne (by decide), f1 37 0 (by omega), sg_ne (by omega) (by omega) (by omega) (by omega)]
        exact hA.1
      · rw [sg_K q] at hi
        obtain ⟨r1, r2, r3⟩ := hp.2.2.2.2.2.2 i hi
        rw [xu_rne (by omega), xu_rne (by omega), xu_rne (by omega), f1 _ _ (by omega), f1 _ _ (by omega), f1 _ _ (by omega), ← r1, ← r2, ← r3]
        exact hA.2.1 i hi
      · rw [sg_V] at hu
        rw [xu_rne (by omega), f1 _ _ (by omega), sg_ne (by omega) (by omega) (by omega) (by omega)]
        exact hA.2.2 u hu
    · rw [xu_ee] at h
      exact absurd h (by decide)
    · by_cases z : o = 6
      · subst z
        rw [xu_kne (by omega), f1 6 k (by omega)]
      · rw [xu_rne z, f1 o k (by omega)]
  · simp (disch := omega) only [n32_ltE, n32_leE, n32_eqE, n32_eqm, m1_eqn, n32_ge0, n32_lt0, n32_nat, n32_succ, n32_add, xin_n32, xin_b1, xin_b2, cond_true, cond_false, if_true, if_false, xcI_some, xcV_some, xcJ_some, xcR_some, xu_ee, xu_rne, xu_kne, ite_self, not_true_eq_false, not_false_eq_true, ne_eq, true_and, and_true, false_and, and_false, m1_lt0, m1_eq0, eq_self, Bool.false_eq_true, reduceCtorEq, z_lt0, i1_eq0, i0_eq1, i1_eq1, xrZ0, xrZ1, xrZt, n32_eq0, n32_eq1, n32_gt0, n32_gt1, n32_lt1, n32_le1, n32_0le, tf0, tf1, xaI_of, q20a, q20b, q20m, q20l, q20g, q20r, q20s, q20e, t7_B hT hw, q]
    exact RR_I ⟨jfr_r, Or.inr ⟨by omega, rfl, rfl, rfl⟩⟩
theorem l10 : ((10 : Int32) < 10) = False := eq_false (by decide)
theorem l8 : ((8 : Int32) = 0) = False := eq_false (by decide)
def mrk (I : TI) : TI := xcp (xu (xu I 208 0 (I 37 0)) 208 1 (I 7 2)) 41 208 0 2 8
theorem c_mark : xcall xprog (d + 1) 82 [.ref 6, .ref 208] (xst e L I J) = some (none, xst e L (mrk I) J) := by
  rw [aX8_mark, bX8_mark_0]
  simp (disch := omega) only [n32_ltE, n32_leE, n32_eqE, n32_eqm, m1_eqn, n32_ge0, n32_lt0, n32_nat, n32_succ, n32_add, xin_n32, xin_b1, xin_b2, cond_true, cond_false, if_true, if_false, xcI_some, xcV_some, xcJ_some, xcR_some, xu_ee, xu_rne, xu_kne, ite_self, not_true_eq_false, not_false_eq_true, ne_eq, true_and, and_true, false_and, and_false, m1_lt0, m1_eq0, eq_self, Bool.false_eq_true, reduceCtorEq, z_lt0, i1_eq0, i0_eq1, i1_eq1, xrZ0, xrZ1, xrZt, n32_eq0, n32_eq1, n32_gt0, n32_gt1, n32_lt1, n32_le1, n32_0le, tf0, tf1, xaI_of, l10, bX8_mark_1]
  rfl
theorem xcp_at {α : Type} {f : Nat → Nat → α} {s t dp n j : Nat} (h : j < n) : xcp f s t 0 dp n t (dp + j) = f s j := by
  unfold xcp
  rw [if_pos ⟨rfl, by omega, by omega⟩]
  congr 1
  omega
theorem xcp_out {α : Type} {f : Nat → Nat → α} {s t sp dp n k : Nat} (h : k < dp ∨ dp + n ≤ k) : xcp f s t sp dp n t k = f t k := if_neg (fun q => by omega)
theorem mrk_ne {o : Nat} (h : o ≠ 208) : mrk I o = I o := by
  unfold mrk
  rw [xcp_rne h, xu_rne h, xu_rne h]
theorem mrk_MK (hC : CS S N I J) : MK (mrk I) S 208 := by
  have h8 := wf_V8 hC.1.1
  refine ⟨?_, ?_, fun v hv => ?_⟩
  · unfold mrk
    rw [xcp_out (by omega), xu_kne (by decide), xu_ee]
    exact hC.2.2.1.1
  · unfold mrk
    rw [xcp_out (by omega), xu_ee]
    exact hC.2.1.2.2.1
  · unfold mrk
    rw [xcp_at (by omega), xu_rne (by decide), xu_rne (by decide)]
    exact a_lo hC.2.2.1 hv
theorem CS_o (h : ∀ o k, o ≠ 6 → o < 71 → K o k = I o k) (h6 : K 6 3 = I 6 3) (hC : CS S N I J) : CS S N K J := by
  refine ⟨hC.1, Tr_c (fun o k q1 q2 => h o k (by omega) (by omega)) hC.1.1 hC.2.1, Ac_c (fun o k q1 q2 => h o k (by omega) (by omega)) hC.2.2.1, fun q => ?_⟩
  obtain ⟨h1, h2, h3, h4, h5, h6, h7, h8, h9, n, h10, h11, h12, h13⟩ := hC.2.2.2 (by rw [← h6]; exact q)
  have hc : ∀ k, K 47 k = I 47 k := fun k => h 47 k (by decide) (by decide)
  exact ⟨by rw [hc, h1], by rw [hc, h2], by rw [hc, h3], by rw [hc, h4], by rw [hc, h5], by rw [hc, h6], by rw [hc, h7], fun s t z1 z2 => by rw [h (51 + s) t (by omega) (by omega), h8 s t z1 z2], fun b hb => by rw [h 49 b (by decide) (by decide), h9 b hb], n, h10, by rw [hc, h11], fun k hk => by rw [h 48 k (by decide) (by decide), h12 k hk], by rw [hc]; exact h13⟩
theorem CS_mrk (hC : CS S N I J) : CS S N (mrk I) J := CS_o (fun o k z1 z2 => by rw [mrk_ne (by omega)]) (by rw [mrk_ne (by decide)]) hC
/-- going back to a marked state -/
def rwd (I : TI) (r : Nat) : TI := xu (xcp (xu (xu I 37 0 (I r 0)) 7 2 (I r 1)) r 41 2 0 8) 6 3 1
theorem rwd_CS (hC : CS Y N I J) (hX : WS X) (hp : pre X Y) (hm : MK I X r) (hr : 71 ≤ r) : CS X N (rwd I r) J ∧ afr (rwd I r) I := by
  have h8 := wf_V8 hX.1
  have fr : afr (rwd I r) I := fun o k z1 z2 => by
    unfold rwd
    by_cases z : o = 6
    · subst z
      rw [xu_kne (by omega), xcp_rne (by omega), xu_rne (by omega), xu_rne (by omega)]
    · rw [xu_rne z, xcp_rne (by omega), xu_rne (by omega), xu_rne (by omega)]
  have ht : ∀ o k, 7 ≤ o → o < 37 → (o ≠ 7 ∨ k ≠ 2) → rwd I r o k = I o k := fun o k z1 z2 z3 => by
    unfold rwd
    rw [xu_rne (by omega), xcp_rne (by omega)]
    by_cases z : o = 7
    · subst z
      rw [xu_kne (by omega), xu_rne (by omega)]
    · rw [xu_rne z, xu_rne (by omega)]
  refine ⟨⟨hX, ?_, ?_, fun h => ?_⟩, fr⟩
  · have hT := hC.2.1
    have hTY : ∀ o k, (o ≠ 7 ∨ k ≠ 2) → 7 ≤ o → o < 37 → rwd I r o k = I o k := fun o k z1 z2 z3 => ht o k z2 z3 z1
    -- the tree of Y but for its number of blocks
    have h20 := wf_B hC.1.1
    obtain ⟨h0, h1, h2, h3, h4⟩ := hT
    have eV := pre_V hp
    refine ⟨(hTY 7 0 (Or.inr (by decide)) (by omega) (by omega)).trans (h0.trans hp.1.symm), (hTY 7 1 (Or.inr (by decide)) (by omega) (by omega)).trans (h1.trans hp.2.1.symm), ?_, fun v hv => ⟨(h3 v (by omega)).1, (hTY 9 v (Or.inl (by decide)) (by omega) (by omega)).trans ((h3 v (by omega)).2.trans (hp.2.2.1 v (by omega)).symm)⟩, fun b hb => ?_⟩
    · unfold rwd
      rw [xu_rne (by decide), xcp_rne (by decide), xu_ee]
      exact hm.2.1
    · have hbY : b < sB Y := by have := hp.2.2.2.1; omega
      obtain ⟨q1, q2, q3, q4, q5, q6, q7⟩ := h4 b hbY
      obtain ⟨r1, r2, r3⟩ := hp.2.2.2.2.1 b hb
      refine ⟨q1, (hTY 11 b (Or.inl (by decide)) (by omega) (by omega)).trans (q2.trans r1.symm), (hTY 12 b (Or.inl (by decide)) (by omega) (by omega)).trans (q3.trans (pre_ahs hp hb).symm), (hTY 13 b (Or.inl (by decide)) (by omega) (by omega)).trans (q4.trans (by rw [pre_hei hp hb])), (hTY 14 b (Or.inl (by decide)) (by omega) (by omega)).trans (q5.trans (pre_lvc hp hb).symm), (hTY 15 b (Or.inl (by decide)) (by omega) (by omega)).trans (q6.trans r2.symm), fun v hv => ?_⟩
      rw [pre_wt hp hb (by omega)]
      exact (hTY (7 + 10 + b) v (Or.inl (by omega)) (by omega) (by omega)).trans (q7 v (by omega))
  · refine ⟨?_, fun i hi => ?_, fun v hv => ?_⟩
    · unfold rwd
      rw [xu_rne (by decide), xcp_rne (by decide), xu_rne (by decide), xu_ee]
      exact hm.1
    · obtain ⟨r1, r2, r3⟩ := hp.2.2.2.2.2.2 i hi
      obtain ⟨t1, t2, t3⟩ := hC.2.2.1.2.1 i (by have := hp.2.2.2.2.2.1; omega)
      have e : ∀ o, 38 ≤ o → o < 41 → rwd I r o i = I o i := fun o z1 z2 => by
        unfold rwd
        rw [xu_rne (by omega), xcp_rne (by omega), xu_rne (by omega), xu_rne (by omega)]
      exact ⟨(e 38 (by omega) (by omega)).trans (t1.trans r1.symm), (e 39 (by omega) (by omega)).trans (t2.trans r2.symm), (e 40 (by omega) (by omega)).trans (t3.trans r3.symm)⟩
    · show rwd I r 41 v = _
      unfold rwd
      rw [xu_rne (by decide)]
      have : xcp (xu (xu I 37 0 (I r 0)) 7 2 (I r 1)) r 41 2 0 8 41 v = (xu (xu I 37 0 (I r 0)) 7 2 (I r 1)) r (2 + v) := by
        unfold xcp
        rw [if_pos ⟨rfl, by omega, by omega⟩]
        rfl
      rw [this, xu_rne (by omega), xu_rne (by omega)]
      exact hm.2.2 v hv
  · unfold rwd at h
    rw [xu_ee] at h
    exact absurd h (by decide)
theorem c_rewind_208 : xcall xprog (d + 1) 83 [.ref 6, .ref 208] (xst e L I J) = some (none, xst e L (rwd I 208) J) := by
  rw [aX8_rewind_6_208, bX8_rewind_6_208_0]
  simp (disch := omega) only [n32_ltE, n32_leE, n32_eqE, n32_eqm, m1_eqn, n32_ge0, n32_lt0, n32_nat, n32_succ, n32_add, xin_n32, xin_b1, xin_b2, cond_true, cond_false, if_true, if_false, xcI_some, xcV_some, xcJ_some, xcR_some, xu_ee, xu_rne, xu_kne, ite_self, not_true_eq_false, not_false_eq_true, ne_eq, true_and, and_true, false_and, and_false, m1_lt0, m1_eq0, eq_self, Bool.false_eq_true, reduceCtorEq, z_lt0, i1_eq0, i0_eq1, i1_eq1, xrZ0, xrZ1, xrZt, n32_eq0, n32_eq1, n32_gt0, n32_gt1, n32_lt1, n32_le1, n32_0le, tf0, tf1, xaI_of, l10, bX8_rewind_6_208_1]
  rfl
theorem xal_of {c : Int32 → Option xOut} (h : xn G0 r = some (14, n, [])) : xal (xst e L I J) r c = c (n32 n) := by
  unfold xal
  show (match xn G0 r with | some a => bif Nat.ble 13 a.1 then c (Int32.ofNat a.2.1) else none | none => _) = _
  rw [h]
  rfl
theorem c_rewind_x (hi : i < 8) : xcall xprog (d + 1) 83 [.ref 6, .ref (81 + i)] (xst e L I J) = some (none, xst e L (rwd I (81 + i)) J) := by
  have hG := G0_81 i hi
  have hG41 : xn G0 41 = some (14, 8, []) := by decide
  rw [aX8_rewind_6_x, bX8_rewind_6_x_0, xal_of hG]
  have z1 : ¬ n32 10 < (10 : Int32) := by decide
  rw [if_neg z1]
  have a0 : ∀ (I : TI) c, xaI (xst e L I J) (81 + i) 0 c = c (I (81 + i) 0) := fun I c => xaI_of hG (i := 0) (by omega) (by omega)
  have a1 : ∀ (I : TI) c, xaI (xst e L I J) (81 + i) 1 c = c (I (81 + i) 1) := fun I c => xaI_of hG (i := 1) (by omega) (by omega)
  have a2 : ∀ (I : TI) c, xcq (xst e L I J) (81 + i) 2 41 0 8 c = c (xst e L (xcp I (81 + i) 41 2 0 8) J) := fun I c => xcq_of hG hG41 (sp := 2) (dp := 0) (n := 8) (by omega) (by omega) (by omega) (by omega) (by omega)
  rw [a0, a1, a2, ekX8_rewind_6_x_0_23, bX8_rewind_6_x_1, xu_rne (show 81 + i ≠ 37 by omega)]
  rfl
end TRY
