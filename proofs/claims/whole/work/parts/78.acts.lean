/-! The calls votes, looks, grows, undo. -/
section ACV
variable {d e L : Nat} {S S' : TS} {N N' : Nat → Int64} {I K M : TI} {J J' : TJ} {a b s t v k i n r m o q : Nat}
theorem nmN_j (h : jfr J' J) : nmN J' = nmN J := by
  funext k
  unfold nmN
  rw [h 215 k (by decide)]
theorem Inv_act (h : Inv I J) (h224 : ∀ k, 224 ≤ k → I 211 k = S' k) (h1 : I 211 1 = S' 1) (hNZ : NZ S' (nmN J)) (hC : CS S' (nmN J) K J') (fK : ∀ o k, ¬ (7 ≤ o ∧ o < 42) → o ≠ 6 → ¬ (46 ≤ o ∧ o < 71) → ¬ (78 ≤ o ∧ o < 89) → o ≠ 208 → K o k = I o k) (jK : jfr J' J) (hR : RS S' M) (fM : ∀ o k, o ≠ 211 → ¬ (217 ≤ o ∧ o < 225) → (o ≠ 209 ∨ ¬ (k = 0 ∨ (26 ≤ k ∧ k ≤ 34) ∨ k = 38 ∨ k = 44)) → M o k = K o k) (hH : Hst S' (nmN J) M) : Inv M J' := by
  obtain ⟨g1, _, _, _, h5⟩ := id h
  unfold Inv
  rw [hR.2.1, nmN_j jK]
  refine ⟨CS_o (fun q k z1 z2 => fM q k (by omega) (by omega) (Or.inl (by omega))) (fM 6 3 (by omega) (by omega) (Or.inl (by omega))) hC, hR, hNZ, hH, Rest_c (fun q k z => ?_) (fun q k z => jK q k (by unfold vJ at z; omega)) h224 h1 (fun _ _ => rfl) (wf_V8 g1.1.1) h5⟩
  unfold vI at z
  rw [fM q k (by omega) (by omega) (by omega), fK q k (by omega) (by omega) (by omega) (by omega) (by omega)]
theorem Inv_mrk (h : Inv I J) : Inv (mrk I) J := by
  obtain ⟨_, _, _, _, _, ht, _, _, hg, ⟨c1, c2, c3⟩, hd, _⟩ := id h
  refine Inv_g h (fun o k z => by rw [mrk_ne (by unfold gI at z; omega)]) (fun _ _ _ => rfl) rfl (Tape_c (by rw [mrk_ne (by decide)]) (by rw [mrk_ne (by decide)]) (by rw [mrk_ne (by decide)]) (by rw [mrk_ne (by decide)]) ht) (Tag_c (by rw [mrk_ne (by decide)]) (by rw [mrk_ne (by decide)]) (by rw [mrk_ne (by decide)]) (by rw [mrk_ne (by decide)]) hg) ⟨?_, ?_, ?_⟩ (Told_c (by rw [mrk_ne (by decide)]) (by rw [mrk_ne (by decide)]) (by rw [mrk_ne (by decide)]) hd)
  · rw [mrk_ne (by decide), mrk_ne (by decide), c1]
  · rw [mrk_ne (by decide), mrk_ne (by decide), c2]
  · rw [mrk_ne (by decide), mrk_ne (by decide), c3]
theorem c_keepIf_0 (hm : I 79 2 = n32 m) (ho : I 79 1 = n32 o) (h8 : m ≤ 8) (ho8 : o < 8) (hk : MK I S 208) (hV : sV S ≤ 8) : RR (xcall xprog (d + 2) 151 [.ref 0, .int 0] (xst e L I J)) (zI e L fun x K J' => x = 0 ∧ J' = J ∧ CK I K S m o ∧ ∀ q k, ¬ (79 ≤ q ∧ q < 89) → K q k = I q k) := by
  refine RR_eq ((aX11_keepIfDone _ e L I J _).trans (bX11_keepIfDone_0 _ e L I J _)) ?_
  refine RR_eq (if_pos rfl) ?_
  refine RR_cV (c_keep (d := d) hm ho h8 ho8 hk hV) (fun K J' ⟨j1, c1, f1⟩ => ?_)
  subst j1
  rw [ekX11_keepIfDone_0_6, bX11_keepIfDone_1]
  exact RR_I ⟨rfl, rfl, c1, f1⟩
theorem c_keepIf_n {y : Int32} (hy : ¬ y = 0) : xcall xprog (d + 2) 151 [.ref 0, .int y] (xst e L I J) = some (some (.int y), xst e L I J) := by
  rw [aX11_keepIfDone, bX11_keepIfDone_0, if_neg hy, bX11_keepIfDone_1]
def RK (I K : TI) (S : TS) (m : Nat) : Prop := (m < 8 ∧ K 209 38 = n32 (m + 1) ∧ (∀ k, k < 222 * m → K 222 k = I 222 k) ∧ ∀ i, i < 222 → K 222 (222 * m + i) = S (2 + i)) ∨ (m = 8 ∧ K 209 38 = n32 8 ∧ (∀ k, k < 1554 → K 222 k = I 222 (k + 222)) ∧ ∀ i, i < 222 → K 222 (1554 + i) = S (2 + i))
theorem r_keeps (hm : I 209 38 = n32 m) (h8 : m ≤ 8) : RR (xcall xprog (d + 2) 222 [.ref 209] (xst e L I J)) (zV e L fun K J' => J' = J ∧ (∀ q k, q ≠ 222 → q ≠ 223 → (q ≠ 209 ∨ k ≠ 38) → K q k = I q k) ∧ RK I K (I 211) m) := by
  refine RR_eq ((aX12_keeps _ e L I J).trans (bX12_keeps_0 _ e L I J)) ?_
  refine RR_cV (r_copies_223 (d := d)) (fun K J' ⟨j1, f1, f2⟩ => ?_)
  subst j1
  rw [ekX12_keeps_0_3]
  refine RR_cV (r_stores_223 (d := d) (m := m) (by rw [f1 209 (by decide), hm]) h8) (fun M J' ⟨j2, g1, g2⟩ => ?_)
  subst j2
  rw [ekX12_keeps_0_7]
  refine RR_V ⟨rfl, fun q k z1 z2 z3 => by rw [g1 q k z1 z3, f1 q z2], ?_⟩
  rcases g2 with ⟨a1, a2, a3, a4⟩ | ⟨a1, a2, a3, a4⟩
  · exact Or.inl ⟨a1, a2, fun k hk => by rw [a3 k hk, f1 222 (by decide)], fun i hi => by rw [a4 i hi, f2 i hi]⟩
  · exact Or.inr ⟨a1, a2, fun k hk => by rw [a3 k hk, f1 222 (by decide)], fun i hi => by rw [a4 i hi, f2 i hi]⟩
theorem CK_c (h : CK I K S m o) (f : ∀ q k, 79 ≤ q → q < 89 → M q k = K q k) : CK I M S m o := by
  obtain ⟨h1, h2, h3, h4⟩ := h
  have hlt : (o + m) % 8 < 8 := Nat.mod_lt _ (by omega)
  refine ⟨fun z => ⟨?_, ?_⟩, fun z => ⟨?_, ?_⟩, fun i k z1 z2 => ?_, ?_, ?_, fun v hv => ?_⟩
  · rw [f 79 2 (by omega) (by omega)]; exact (h1 z).1
  · rw [f 79 1 (by omega) (by omega)]; exact (h1 z).2
  · rw [f 79 2 (by omega) (by omega)]; exact (h2 z).1
  · rw [f 79 1 (by omega) (by omega)]; exact (h2 z).2
  · rw [f _ k (by omega) (by omega)]; exact h3 i k z1 z2
  · rw [f _ _ (by omega) (by omega)]; exact h4.1
  · rw [f _ _ (by omega) (by omega)]; exact h4.2.1
  · rw [f _ _ (by omega) (by omega)]; exact h4.2.2 v hv
theorem CK_i (h : CK I K S m o) (f : ∀ q k, 81 ≤ q → q < 89 → I q k = M q k) : CK M K S m o := ⟨h.1, h.2.1, fun i k z1 z2 => by rw [h.2.2.1 i k z1 z2, f _ k (by omega) (by omega)], h.2.2.2⟩
/-- an act done on both sides, and kept -/
theorem act_done (h : Inv I J) (hm : HM (I 211) (nmN J) I m o) (hp : pre (I 211) S') (h224 : ∀ k, 224 ≤ k → I 211 k = S' k) (hNZ : NZ S' (nmN J)) (hC : CS S' (nmN J) K J') (fK : ∀ o k, ¬ (7 ≤ o ∧ o < 42) → o ≠ 6 → ¬ (46 ≤ o ∧ o < 71) → ¬ (78 ≤ o ∧ o < 89) → o ≠ 208 → K o k = I o k) (jK : jfr J' J) (ck : CK I K (I 211) m o) (hR : RS S' M) (fM : ∀ o k, o ≠ 211 → ¬ (217 ≤ o ∧ o < 225) → (o ≠ 209 ∨ ¬ (k = 0 ∨ (26 ≤ k ∧ k ≤ 34) ∨ k = 38 ∨ k = 44)) → M o k = K o k) (rk : RK I M (I 211) m) : Inv M J' :=
  Inv_act h h224 hp.2.1 hNZ hC fK jK hR fM (Hst_push hm h.1.1 h.2.2.1 hp (CK_c ck (fun q k z1 z2 => fM q k (by omega) (by omega) (Or.inl (by omega)))) rk)
theorem NZ_same (h : sB S ≤ sB S') (hN : NZ S N) : NZ S' N := fun b z1 z2 => hN b (by omega) z2
/-- keeping changes nothing that the reference works out -/
theorem RS_cf' (h : RS S M) (f : ∀ q k, q ≠ 222 → q ≠ 223 → (q ≠ 209 ∨ k ≠ 38) → K q k = M q k) : RS S K :=
  ⟨h.1, (funext fun k => f 211 k (by omega) (by omega) (by omega)).trans h.2.1, fun q => Rf_c (fun o k z1 z2 => f o k (by omega) (by omega) (by omega)) (fun k z1 z2 => f 209 k (by omega) (by omega) (by omega)) (h.2.2 (by rw [← f 209 34 (by omega) (by omega) (by omega)]; exact q))⟩
theorem s_votes (x y z : Int32) : stp 123 216 [.int x, .int y, .int z] := by
  intro d e L I J h
  obtain ⟨hC, hR, hNZ, ⟨m, o, hH⟩, _⟩ := id h
  have hw := hC.1.1
  have h20 := wf_B hw
  have h8 := wf_V8 hw
  have hS := hR.2.1
  have S0' := S0 (V := 0) hS
  generalize hSS : I 211 = S at *
  rcases inr_or x (sV S) (by omega) with ⟨v, hv, rfl⟩ | hx
  rotate_left
  · refine RR_eq ((aX11_votes _ e L I J _ _ _).trans (bX11_votes_0 _ e L I J _ _ _)) ?_
    simp (disch := omega) only [n32_ltE, n32_leE, n32_eqE, n32_eqm, m1_eqn, n32_ge0, n32_lt0, n32_nat, n32_succ, n32_add, xin_n32, xin_b1, xin_b2, cond_true, cond_false, if_true, if_false, xcI_some, xcV_some, xcJ_some, xcR_some, xu_ee, xu_rne, xu_kne, ite_self, not_true_eq_false, not_false_eq_true, ne_eq, true_and, and_true, false_and, and_false, m1_lt0, m1_eq0, eq_self, Bool.false_eq_true, reduceCtorEq, z_lt0, i1_eq0, i0_eq1, i1_eq1, xrZ0, xrZ1, xrZt, n32_eq0, n32_eq1, n32_gt0, n32_gt1, n32_lt1, n32_le1, n32_0le, tf0, tf1, xaI_of, c_hasVoter_n hC.2.1 hw hx, ekX11_votes_0_13, ekX11_votes_0_8, ekX11_votes_0_3, bX11_votes_0, bX11_votes_1, ekX11_votes_2_12, ekX11_votes_2_11, ekX11_votes_2_4, bX11_votes_2]
    refine RR_I ?_
    refine RR_eq ((aX12_votes _ e L I J _ _ _).trans (bX12_votes_0 _ e L I J _ _ _)) ?_
    simp (disch := omega) only [n32_ltE, n32_leE, n32_eqE, n32_eqm, m1_eqn, n32_ge0, n32_lt0, n32_nat, n32_succ, n32_add, xin_n32, xin_b1, xin_b2, cond_true, cond_false, if_true, if_false, xcI_some, xcV_some, xcJ_some, xcR_some, xu_ee, xu_rne, xu_kne, ite_self, not_true_eq_false, not_false_eq_true, ne_eq, true_and, and_true, false_and, and_false, m1_lt0, m1_eq0, eq_self, Bool.false_eq_true, reduceCtorEq, z_lt0, i1_eq0, i0_eq1, i1_eq1, xrZ0, xrZ1, xrZt, n32_eq0, n32_eq1, n32_gt0, n32_gt1, n32_lt1, n32_le1, n32_0le, tf0, tf1, xaI_of, r_isVoter_n S0' hw hx, ekX12_votes_0_13, ekX12_votes_0_9, ekX12_votes_0_5, bX12_votes_0, bX12_votes_1, ekX12_votes_2_4, bX12_votes_2, ekX12_votes_3_6, ekX12_votes_3_1, bX12_votes_3]
    exact RR_I ⟨rfl, Inv_0 h⟩
  rcases inr_or y (sB S) (by omega) with ⟨s, hs, rfl⟩ | hy
  rotate_left
  · refine RR_eq ((aX11_votes _ e L I J _ _ _).trans (bX11_votes_0 _ e L I J _ _ _)) ?_
    simp (disch := omega) only [n32_ltE, n32_leE, n32_eqE, n32_eqm, m1_eqn, n32_ge0, n32_lt0, n32_nat, n32_succ, n32_add, xin_n32, xin_b1, xin_b2, cond_true, cond_false, if_true, if_false, xcI_some, xcV_some, xcJ_some, xcR_some, xu_ee, xu_rne, xu_kne, ite_self, not_true_eq_false, not_false_eq_true, ne_eq, true_and, and_true, false_and, and_false, m1_lt0, m1_eq0, eq_self, Bool.false_eq_true, reduceCtorEq, z_lt0, i1_eq0, i0_eq1, i1_eq1, xrZ0, xrZ1, xrZt, n32_eq0, n32_eq1, n32_gt0, n32_gt1, n32_lt1, n32_le1, n32_0le, tf0, tf1, xaI_of, c_hasVoter_y hC.2.1 hw hv, c_hasBlock_n hC.2.1 hw hy, ekX11_votes_0_13, ekX11_votes_0_8, ekX11_votes_0_3, bX11_votes_0, bX11_votes_1, ekX11_votes_2_12, ekX11_votes_2_11, ekX11_votes_2_4, bX11_votes_2]
    refine RR_I ?_
    refine RR_eq ((aX12_votes _ e L I J _ _ _).trans (bX12_votes_0 _ e L I J _ _ _)) ?_
    simp (disch := omega) only [n32_ltE, n32_leE, n32_eqE, n32_eqm, m1_eqn, n32_ge0, n32_lt0, n32_nat, n32_succ, n32_add, xin_n32, xin_b1, xin_b2, cond_true, cond_false, if_true, if_false, xcI_some, xcV_some, xcJ_some, xcR_some, xu_ee, xu_rne, xu_kne, ite_self, not_true_eq_false, not_false_eq_true, ne_eq, true_and, and_true, false_and, and_false, m1_lt0, m1_eq0, eq_self, Bool.false_eq_true, reduceCtorEq, z_lt0, i1_eq0, i0_eq1, i1_eq1, xrZ0, xrZ1, xrZt, n32_eq0, n32_eq1, n32_gt0, n32_gt1, n32_lt1, n32_le1, n32_0le, tf0, tf1, xaI_of, r_isVoter_y S0' hw hv, r_isBlock_n S0' hw hy, ekX12_votes_0_13, ekX12_votes_0_9, ekX12_votes_0_5, bX12_votes_0, bX12_votes_1, ekX12_votes_2_4, bX12_votes_2, ekX12_votes_3_6, ekX12_votes_3_1, bX12_votes_3]
    exact RR_I ⟨rfl, Inv_0 h⟩
  rcases inr_or z (sB S) (by omega) with ⟨t, ht, rfl⟩ | hz
  rotate_left
  · refine RR_eq ((aX11_votes _ e L I J _ _ _).trans (bX11_votes_0 _ e L I J _ _ _)) ?_
    simp (disch := omega) only [n32_ltE, n32_leE, n32_eqE, n32_eqm, m1_eqn, n32_ge0, n32_lt0, n32_nat, n32_succ, n32_add, xin_n32, xin_b1, xin_b2, cond_true, cond_false, if_true, if_false, xcI_some, xcV_some, xcJ_some, xcR_some, xu_ee, xu_rne, xu_kne, ite_self, not_true_eq_false, not_false_eq_true, ne_eq, true_and, and_true, false_and, and_false, m1_lt0, m1_eq0, eq_self, Bool.false_eq_true, reduceCtorEq, z_lt0, i1_eq0, i0_eq1, i1_eq1, xrZ0, xrZ1, xrZt, n32_eq0, n32_eq1, n32_gt0, n32_gt1, n32_lt1, n32_le1, n32_0le, tf0, tf1, xaI_of, c_hasVoter_y hC.2.1 hw hv, c_hasBlock_y hC.2.1 hw hs, c_hasBlock_n hC.2.1 hw hz, ekX11_votes_0_13, ekX11_votes_0_8, ekX11_votes_0_3, bX11_votes_0, bX11_votes_1, ekX11_votes_2_12, ekX11_votes_2_11, ekX11_votes_2_4, bX11_votes_2]
    refine RR_I ?_
    refine RR_eq ((aX12_votes _ e L I J _ _ _).trans (bX12_votes_0 _ e L I J _ _ _)) ?_
    simp (disch := omega) only [n32_ltE, n32_leE, n32_eqE, n32_eqm, m1_eqn, n32_ge0, n32_lt0, n32_nat, n32_succ, n32_add, xin_n32, xin_b1, xin_b2, cond_true, cond_false, if_true, if_false, xcI_some, xcV_some, xcJ_some, xcR_some, xu_ee, xu_rne, xu_kne, ite_self, not_true_eq_false, not_false_eq_true, ne_eq, true_and, and_true, false_and, and_false, m1_lt0, m1_eq0, eq_self, Bool.false_eq_true, reduceCtorEq, z_lt0, i1_eq0, i0_eq1, i1_eq1, xrZ0, xrZ1, xrZt, n32_eq0, n32_eq1, n32_gt0, n32_gt1, n32_lt1, n32_le1, n32_0le, tf0, tf1, xaI_of, r_isVoter_y S0' hw hv, r_isBlock_y S0' hw hs, r_isBlock_n S0' hw hz, ekX12_votes_0_13, ekX12_votes_0_9, ekX12_votes_0_5, bX12_votes_0, bX12_votes_1, ekX12_votes_2_4, bX12_votes_2, ekX12_votes_3_6, ekX12_votes_3_1, bX12_votes_3]
    exact RR_I ⟨rfl, Inv_0 h⟩
  have hwl := why_le (S := S) (v := v) (s := s) (t := t)
  refine RR_eq ((aX11_votes _ e L I J _ _ _).trans (bX11_votes_0 _ e L I J _ _ _)) ?_
  simp (disch := omega) only [n32_ltE, n32_leE, n32_eqE, n32_eqm, m1_eqn, n32_ge0, n32_lt0, n32_nat, n32_succ, n32_add, xin_n32, xin_b1, xin_b2, cond_true, cond_false, if_true, if_false, xcI_some, xcV_some, xcJ_some, xcR_some, xu_ee, xu_rne, xu_kne, ite_self, not_true_eq_false, not_false_eq_true, ne_eq, true_and, and_true, false_and, and_false, m1_lt0, m1_eq0, eq_self, Bool.false_eq_true, reduceCtorEq, z_lt0, i1_eq0, i0_eq1, i1_eq1, xrZ0, xrZ1, xrZt, n32_eq0, n32_eq1, n32_gt0, n32_gt1, n32_lt1, n32_le1, n32_0le, tf0, tf1, xaI_of, c_hasVoter_y hC.2.1 hw hv, c_hasBlock_y hC.2.1 hw hs, c_hasBlock_y hC.2.1 hw ht, ekX11_votes_0_13, ekX11_votes_0_8, ekX11_votes_0_3, bX11_votes_0, bX11_votes_1, ekX11_votes_2_12, ekX11_votes_2_11, ekX11_votes_2_4, bX11_votes_2, c_mark]
  have hCm := CS_mrk hC
  have hMK := mrk_MK hC
  refine RR_cI (c_tryVote (d := d + 35) hCm hv hs ht) (fun x K J' ⟨j1, x1, hK⟩ => ?_)
  subst j1 x1
  rw [ekX11_votes_2_11]
  -- the reference up to its reason
  have rref : ∀ {K' : TI} {J'' : TJ} {Z : xOut → Prop}, RS S K' → (∀ M, lfr M (xu K' 209 0 0) → RS S M → RR (kX12_votes_2_4 (xcall xprog (d + 39)) 209 (n32 v) (n32 s) (n32 t) (n32 (why S v s t)) (xst e L M J'')) Z) → RR (xcall xprog (d + 40) 216 [.ref 209, .int (n32 v), .int (n32 s), .int (n32 t)] (xst e L K' J'')) Z := by
    intro K' J'' Z hRK hk
    refine RR_eq ((aX12_votes _ e L K' J'' _ _ _).trans (bX12_votes_0 _ e L K' J'' _ _ _)) ?_
    simp (disch := omega) only [n32_ltE, n32_leE, n32_eqE, n32_eqm, m1_eqn, n32_ge0, n32_lt0, n32_nat, n32_succ, n32_add, xin_n32, xin_b1, xin_b2, cond_true, cond_false, if_true, if_false, xcI_some, xcV_some, xcJ_some, xcR_some, xu_ee, xu_rne, xu_kne, ite_self, not_true_eq_false, not_false_eq_true, ne_eq, true_and, and_true, false_and, and_false, m1_lt0, m1_eq0, eq_self, Bool.false_eq_true, reduceCtorEq, z_lt0, i1_eq0, i0_eq1, i1_eq1, xrZ0, xrZ1, xrZt, n32_eq0, n32_eq1, n32_gt0, n32_gt1, n32_lt1, n32_le1, n32_0le, tf0, tf1, xaI_of, r_isVoter_y (S0 (V := 0) hRK.2.1) hw hv, r_isBlock_y (S0 (V := 0) hRK.2.1) hw hs, r_isBlock_y (S0 (V := 0) hRK.2.1) hw ht, ekX12_votes_0_13, ekX12_votes_0_9, ekX12_votes_0_5, bX12_votes_0, bX12_votes_1, ekX12_votes_2_4, bX12_votes_2, ekX12_votes_3_6, ekX12_votes_3_1, bX12_votes_3]
    refine RR_cI (r_whyVote (d := d + 31) (RS_0 hRK) (by omega) hs ht) (fun x M J3 ⟨x1, j1, f1, hF, hM⟩ => ?_)
    subst x1 j1
    exact hk M f1 hM
  rcases hK with ⟨q, hK, fK⟩ | ⟨q, hK⟩
  · -- done
    rw [q, show n32 0 = (0 : Int32) from rfl]
    have k208 : MK K S 208 := by
      refine ⟨?_, ?_, fun u hu => ?_⟩
      · rw [fK 208 _ (by omega) (Or.inl (by decide))]; exact hMK.1
      · rw [fK 208 _ (by omega) (Or.inl (by decide))]; exact hMK.2.1
      · rw [fK 208 _ (by omega) (Or.inl (by decide))]; exact hMK.2.2 u hu
    have k79 : ∀ k, K 79 k = I 79 k := fun k => by rw [fK 79 k (by omega) (Or.inl (by decide)), mrk_ne (by decide)]
    refine RR_cI (c_keepIf_0 (d := d + 37) (m := m) (o := o) (by rw [k79, hH.2.2.1]) (by rw [k79, hH.2.2.2.1]) hH.1 hH.2.1 k208 h8) (fun x P J' ⟨x1, j1, ck, fP⟩ => ?_)
    subst x1 j1
    rw [ekX11_votes_2_12]
    refine RR_I ?_
    have fI : ∀ o k, ¬ (7 ≤ o ∧ o < 42) → o ≠ 6 → ¬ (79 ≤ o ∧ o < 89) → o ≠ 208 → P o k = I o k := fun o k z1 z2 z3 z4 => by rw [fP o k z3, fK o k z1 (Or.inl z2), mrk_ne z4]
    have hRP : RS S P := RS_cf (fun q k z => fI q k (by omega) (by omega) (by omega) (by omega)) hR
    refine rref hRP (fun M f1 hM => ?_)
    rw [q, ekX12_votes_2_4]
    refine RR_eq (if_pos (by decide)) ?_
    refine RR_eq (bX12_votes_3 _ e L M J' _ _ _) ?_
    have m38 : M 209 38 = n32 m := by rw [f1 209 38 (by omega) (Or.inr (by omega)), xu_kne (by decide), fI 209 38 (by omega) (by omega) (by omega) (by omega), hH.2.2.2.2.1]
    refine RR_cV (r_keeps (d := d + 37) (m := m) m38 hH.1) (fun Q J2 ⟨j2, fQ, rk⟩ => ?_)
    subst j2
    rw [ekX12_votes_3_1]
    rw [hM.2.1] at rk
    have hRQ : RS S Q := RS_cf' hM fQ
    refine RR_cV (r_doesVote (d := d + 38) hRQ hv hs ht q) (fun R J2 ⟨j2, hRR, fR⟩ => ?_)
    subst j2
    rw [ekX12_votes_3_6]
    refine RR_I ⟨rfl, ?_⟩
    obtain ⟨q1, q2, q3, q4, q5⟩ := why_0 q
    have hp := pre_sv (v := v) (s := s) (t := t) hw q5
    have hCP := CS_o (K := P) (fun q k z1 z2 => fP q k (by omega)) (fP 6 3 (by omega)) hK
    have fM : ∀ o k, o ≠ 211 → ¬ (217 ≤ o ∧ o < 225) → (o ≠ 209 ∨ ¬ (k = 0 ∨ (26 ≤ k ∧ k ≤ 34) ∨ k = 38 ∨ k = 44)) → R o k = P o k := fun o k z1 z2 z3 => by
      rw [fR o k z1 (by omega), fQ o k (by omega) (by omega) (by omega), f1 o k (by omega) (by omega)]
      by_cases z : o = 209
      · subst z
        rw [xu_kne (by omega)]
      · rw [xu_rne z]
    have rk2 : RK I R S m := by
      have e38 : R 209 38 = Q 209 38 := fR 209 38 (by decide) (Or.inr (by decide))
      have e222 : R 222 = Q 222 := funext fun k => fR 222 k (by decide) (Or.inl (by decide))
      have eM : M 222 = I 222 := funext fun k => by rw [f1 222 k (by omega) (by omega), xu_rne (by decide), fI 222 k (by omega) (by omega) (by omega) (by omega)]
      unfold RK at rk ⊢
      rw [e38, e222, ← eM]
      exact rk
    refine act_done (S' := svote S v s t) (m := m) (o := o) h ?_ ?_ ?_ ?_ hCP (fun o k z1 z2 z3 z4 z5 => fI o k z1 z2 (by omega) z5) jfr_r ?_ hRR fM ?_
    · rw [hSS]; exact hH
    · rw [hSS]; exact hp
    · intro k hk
      rw [hSS]
      exact (sv_ne (by omega) (by omega) (by omega) (by omega)).symm
    · exact NZ_same (by rw [sv_B]; exact Nat.le_refl _) hNZ
    · rw [hSS]
      exact CK_i ck (fun q k z1 z2 => by rw [fK q k (by omega) (Or.inl (by omega)), mrk_ne (by omega)])
    · rw [hSS]; exact rk2
  · subst hK
    have qz : ¬ n32 (why S v s t) = 0 := fun h => q ((n32_inj (b := 0) (by omega) (by omega)).mp h)
    rw [c_keepIf_n qz, xcI_some, ekX11_votes_2_12]
    refine RR_I ?_
    have him := Inv_mrk h
    have hRm : RS S (mrk I) := RS_cf (fun q k z => by rw [mrk_ne (by omega)]) hR
    refine rref hRm (fun M f1 hM => ?_)
    rw [ekX12_votes_2_4]
    have qz2 : ¬ n32 (why S v s t) ≤ 0 := by
      rw [n32_ge0 (by omega)]
      exact q
    rw [if_neg qz2]
    refine RR_I ⟨rfl, ?_⟩
    have e211 : mrk I 211 = S := by rw [mrk_ne (by decide), hSS]
    exact Inv_q him cfr_r (by rw [e211]; exact hCm) (rfr_t (lfr_rfr f1) rfr_0) (by rw [e211]; exact hM)
theorem s_looks (x y : Int32) : stp 124 217 [.int x, .int y] := by
  intro d e L I J h
  obtain ⟨hC, hR, hNZ, ⟨m, o, hH⟩, _⟩ := id h
  have hw := hC.1.1
  have h20 := wf_B hw
  have h8 := wf_V8 hw
  have hS := hR.2.1
  have S0' := S0 (V := 0) hS
  generalize hSS : I 211 = S at *
  rcases inr_or x (sV S) (by omega) with ⟨v, hv, rfl⟩ | hx
  rotate_left
  · refine RR_eq ((aX11_looks _ e L I J _ _).trans (bX11_looks_0 _ e L I J _ _)) ?_
    simp (disch := omega) only [n32_ltE, n32_leE, n32_eqE, n32_eqm, m1_eqn, n32_ge0, n32_lt0, n32_nat, n32_succ, n32_add, xin_n32, xin_b1, xin_b2, cond_true, cond_false, if_true, if_false, xcI_some, xcV_some, xcJ_some, xcR_some, xu_ee, xu_rne, xu_kne, ite_self, not_true_eq_false, not_false_eq_true, ne_eq, true_and, and_true, false_and, and_false, m1_lt0, m1_eq0, eq_self, Bool.false_eq_true, reduceCtorEq, z_lt0, i1_eq0, i0_eq1, i1_eq1, xrZ0, xrZ1, xrZt, n32_eq0, n32_eq1, n32_gt0, n32_gt1, n32_lt1, n32_le1, n32_0le, tf0, tf1, xaI_of, c_hasVoter_n hC.2.1 hw hx, ekX11_looks_0_8, ekX11_looks_0_3, bX11_looks_0, bX11_looks_1, ekX11_looks_2_11, ekX11_looks_2_10, ekX11_looks_2_4, bX11_looks_2]
    refine RR_I ?_
    refine RR_eq ((aX12_looks _ e L I J _ _).trans (bX12_looks_0 _ e L I J _ _)) ?_
    simp (disch := omega) only [n32_ltE, n32_leE, n32_eqE, n32_eqm, m1_eqn, n32_ge0, n32_lt0, n32_nat, n32_succ, n32_add, xin_n32, xin_b1, xin_b2, cond_true, cond_false, if_true, if_false, xcI_some, xcV_some, xcJ_some, xcR_some, xu_ee, xu_rne, xu_kne, ite_self, not_true_eq_false, not_false_eq_true, ne_eq, true_and, and_true, false_and, and_false, m1_lt0, m1_eq0, eq_self, Bool.false_eq_true, reduceCtorEq, z_lt0, i1_eq0, i0_eq1, i1_eq1, xrZ0, xrZ1, xrZt, n32_eq0, n32_eq1, n32_gt0, n32_gt1, n32_lt1, n32_le1, n32_0le, tf0, tf1, xaI_of, q216a, q216b, q216m, q216l, q216g, q216r, q216s, q216e, r_isVoter_n S0' hw hx, ekX12_looks_0_9, ekX12_looks_0_5, bX12_looks_0, bX12_looks_1, bX12_looks_2, ekX12_looks_3_5, ekX12_looks_3_1, bX12_looks_3]
    exact RR_I ⟨rfl, Inv_0 h⟩
  rcases inr_or y (sB S) (by omega) with ⟨b, hb, rfl⟩ | hy
  rotate_left
  · refine RR_eq ((aX11_looks _ e L I J _ _).trans (bX11_looks_0 _ e L I J _ _)) ?_
    simp (disch := omega) only [n32_ltE, n32_leE, n32_eqE, n32_eqm, m1_eqn, n32_ge0, n32_lt0, n32_nat, n32_succ, n32_add, xin_n32, xin_b1, xin_b2, cond_true, cond_false, if_true, if_false, xcI_some, xcV_some, xcJ_some, xcR_some, xu_ee, xu_rne, xu_kne, ite_self, not_true_eq_false, not_false_eq_true, ne_eq, true_and, and_true, false_and, and_false, m1_lt0, m1_eq0, eq_self, Bool.false_eq_true, reduceCtorEq, z_lt0, i1_eq0, i0_eq1, i1_eq1, xrZ0, xrZ1, xrZt, n32_eq0, n32_eq1, n32_gt0, n32_gt1, n32_lt1, n32_le1, n32_0le, tf0, tf1, xaI_of, c_hasVoter_y hC.2.1 hw hv, c_hasBlock_n hC.2.1 hw hy, ekX11_looks_0_8, ekX11_looks_0_3, bX11_looks_0, bX11_looks_1, ekX11_looks_2_11, ekX11_looks_2_10, ekX11_looks_2_4, bX11_looks_2]
    refine RR_I ?_
    refine RR_eq ((aX12_looks _ e L I J _ _).trans (bX12_looks_0 _ e L I J _ _)) ?_
    simp (disch := omega) only [n32_ltE, n32_leE, n32_eqE, n32_eqm, m1_eqn, n32_ge0, n32_lt0, n32_nat, n32_succ, n32_add, xin_n32, xin_b1, xin_b2, cond_true, cond_false, if_true, if_false, xcI_some, xcV_some, xcJ_some, xcR_some, xu_ee, xu_rne, xu_kne, ite_self, not_true_eq_false, not_false_eq_true, ne_eq, true_and, and_true, false_and, and_false, m1_lt0, m1_eq0, eq_self, Bool.false_eq_true, reduceCtorEq, z_lt0, i1_eq0, i0_eq1, i1_eq1, xrZ0, xrZ1, xrZt, n32_eq0, n32_eq1, n32_gt0, n32_gt1, n32_lt1, n32_le1, n32_0le, tf0, tf1, xaI_of, q216a, q216b, q216m, q216l, q216g, q216r, q216s, q216e, r_isVoter_y S0' hw hv, r_isBlock_n S0' hw hy, ekX12_looks_0_9, ekX12_looks_0_5, bX12_looks_0, bX12_looks_1, bX12_looks_2, ekX12_looks_3_5, ekX12_looks_3_1, bX12_looks_3]
    exact RR_I ⟨rfl, Inv_0 h⟩
  refine RR_eq ((aX11_looks _ e L I J _ _).trans (bX11_looks_0 _ e L I J _ _)) ?_
  simp (disch := omega) only [n32_ltE, n32_leE, n32_eqE, n32_eqm, m1_eqn, n32_ge0, n32_lt0, n32_nat, n32_succ, n32_add, xin_n32, xin_b1, xin_b2, cond_true, cond_false, if_true, if_false, xcI_some, xcV_some, xcJ_some, xcR_some, xu_ee, xu_rne, xu_kne, ite_self, not_true_eq_false, not_false_eq_true, ne_eq, true_and, and_true, false_and, and_false, m1_lt0, m1_eq0, eq_self, Bool.false_eq_true, reduceCtorEq, z_lt0, i1_eq0, i0_eq1, i1_eq1, xrZ0, xrZ1, xrZt, n32_eq0, n32_eq1, n32_gt0, n32_gt1, n32_lt1, n32_le1, n32_0le, tf0, tf1, xaI_of, c_hasVoter_y hC.2.1 hw hv, c_hasBlock_y hC.2.1 hw hb, ekX11_looks_0_8, ekX11_looks_0_3, bX11_looks_0, bX11_looks_1, ekX11_looks_2_11, ekX11_looks_2_10, ekX11_looks_2_4, bX11_looks_2, c_mark]
  have hCm := CS_mrk hC
  have hMK := mrk_MK hC
  refine RR_cI (c_tryLook (d := d + 38) hCm hv hb) (fun x K J' ⟨j1, hK⟩ => ?_)
  subst j1
  rw [ekX11_looks_2_10]
  rcases hK with ⟨q, x1, hK, fK⟩ | ⟨q, x1, hK⟩
  · subst x1
    have k208 : MK K S 208 := by
      refine ⟨?_, ?_, fun u hu => ?_⟩
      · rw [fK 208 _ (by omega) (Or.inl (by decide))]; exact hMK.1
      · rw [fK 208 _ (by omega) (Or.inl (by decide))]; exact hMK.2.1
      · rw [fK 208 _ (by omega) (Or.inl (by decide))]; exact hMK.2.2 u hu
    have k79 : ∀ k, K 79 k = I 79 k := fun k => by rw [fK 79 k (by omega) (Or.inl (by decide)), mrk_ne (by decide)]
    refine RR_cI (c_keepIf_0 (d := d + 37) (m := m) (o := o) (by rw [k79, hH.2.2.1]) (by rw [k79, hH.2.2.2.1]) hH.1 hH.2.1 k208 h8) (fun x P J' ⟨x1, j1, ck, fP⟩ => ?_)
    subst x1 j1
    rw [ekX11_looks_2_11]
    refine RR_I ?_
    have fI : ∀ o k, ¬ (7 ≤ o ∧ o < 42) → o ≠ 6 → ¬ (79 ≤ o ∧ o < 89) → o ≠ 208 → P o k = I o k := fun o k z1 z2 z3 z4 => by rw [fP o k z3, fK o k z1 (Or.inl z2), mrk_ne z4]
    have hRP : RS S P := RS_cf (fun q k z => fI q k (by omega) (by omega) (by omega) (by omega)) hR
    have hRP0 := RS_0 (x := 0) hRP
    refine RR_eq ((aX12_looks _ e L P J' _ _).trans (bX12_looks_0 _ e L P J' _ _)) ?_
    simp (disch := omega) only [n32_ltE, n32_leE, n32_eqE, n32_eqm, m1_eqn, n32_ge0, n32_lt0, n32_nat, n32_succ, n32_add, xin_n32, xin_b1, xin_b2, cond_true, cond_false, if_true, if_false, xcI_some, xcV_some, xcJ_some, xcR_some, xu_ee, xu_rne, xu_kne, ite_self, not_true_eq_false, not_false_eq_true, ne_eq, true_and, and_true, false_and, and_false, m1_lt0, m1_eq0, eq_self, Bool.false_eq_true, reduceCtorEq, z_lt0, i1_eq0, i0_eq1, i1_eq1, xrZ0, xrZ1, xrZt, n32_eq0, n32_eq1, n32_gt0, n32_gt1, n32_lt1, n32_le1, n32_0le, tf0, tf1, xaI_of, r_isVoter_y (S0 (V := 0) hRP.2.1) hw hv, r_isBlock_y (S0 (V := 0) hRP.2.1) hw hb, ekX12_looks_0_5, ekX12_looks_0_9]
    refine RR_eq (bX12_looks_2 _ e L _ J' _ _) ?_
    rw [hRP0.2.1]
    simp (disch := omega) only [n32_ltE, n32_leE, n32_eqE, n32_eqm, m1_eqn, n32_ge0, n32_lt0, n32_nat, n32_succ, n32_add, xin_n32, xin_b1, xin_b2, cond_true, cond_false, if_true, if_false, xcI_some, xcV_some, xcJ_some, xcR_some, xu_ee, xu_rne, xu_kne, ite_self, not_true_eq_false, not_false_eq_true, ne_eq, true_and, and_true, false_and, and_false, m1_lt0, m1_eq0, eq_self, Bool.false_eq_true, reduceCtorEq, z_lt0, i1_eq0, i0_eq1, i1_eq1, xrZ0, xrZ1, xrZt, n32_eq0, n32_eq1, n32_gt0, n32_gt1, n32_lt1, n32_le1, n32_0le, tf0, tf1, xaI_of, q216a, q216b, q216m, q216l, q216g, q216r, q216s, q216e, q]
    refine RR_eq (bX12_looks_3 _ e L _ J' _ _) ?_
    have m38 : (xu P 209 0 0) 209 38 = n32 m := by rw [xu_kne (by decide), fI 209 38 (by omega) (by omega) (by omega) (by omega), hH.2.2.2.2.1]
    refine RR_cV (r_keeps (d := d + 37) (m := m) m38 hH.1) (fun Q J2 ⟨j2, fQ, rk⟩ => ?_)
    subst j2
    rw [ekX12_looks_3_1]
    rw [hRP0.2.1] at rk
    have hRQ : RS S Q := RS_cf' hRP0 fQ
    refine RR_cV (r_doesLook (d := d + 38) hRQ hv hb) (fun R J2 ⟨j2, hRR, fR⟩ => ?_)
    subst j2
    rw [ekX12_looks_3_5]
    refine RR_I ⟨rfl, ?_⟩
    have hp := pre_sl (v := v) (b := b) hw hC.1.2.1.1
    have hCP := CS_o (K := P) (fun q k z1 z2 => fP q k (by omega)) (fP 6 3 (by omega)) hK
    have fM : ∀ o k, o ≠ 211 → ¬ (217 ≤ o ∧ o < 225) → (o ≠ 209 ∨ ¬ (k = 0 ∨ (26 ≤ k ∧ k ≤ 34) ∨ k = 38 ∨ k = 44)) → R o k = P o k := fun o k z1 z2 z3 => by
      rw [fR o k z1 (by omega), fQ o k (by omega) (by omega) (by omega)]
      by_cases z : o = 209
      · subst z
        rw [xu_kne (by omega)]
      · rw [xu_rne z]
    have rk2 : RK I R S m := by
      have e38 : R 209 38 = Q 209 38 := fR 209 38 (by decide) (Or.inr (by decide))
      have e222 : R 222 = Q 222 := funext fun k => fR 222 k (by decide) (Or.inl (by decide))
      have eM : (xu P 209 0 0) 222 = I 222 := funext fun k => by rw [xu_rne (by decide), fI 222 k (by omega) (by omega) (by omega) (by omega)]
      unfold RK at rk ⊢
      rw [e38, e222, ← eM]
      exact rk
    refine act_done (S' := slook S v b) (m := m) (o := o) h ?_ ?_ ?_ ?_ hCP (fun o k z1 z2 z3 z4 z5 => fI o k z1 z2 (by omega) z5) jfr_r ?_ hRR fM ?_
    · rw [hSS]; exact hH
    · rw [hSS]; exact hp
    · intro k hk
      rw [hSS]
      exact (sl_ne (by omega)).symm
    · exact NZ_same (by rw [sl_B]; exact Nat.le_refl _) hNZ
    · rw [hSS]
      exact CK_i ck (fun q k z1 z2 => by rw [fK q k (by omega) (Or.inl (by omega)), mrk_ne (by omega)])
    · rw [hSS]; exact rk2
  · subst hK x1
    rw [c_keepIf_n (by decide), xcI_some, ekX11_looks_2_11]
    refine RR_I ?_
    have him := Inv_mrk h
    have hRm : RS S (mrk I) := RS_cf (fun q k z => by rw [mrk_ne (by omega)]) hR
    refine RR_eq ((aX12_looks _ e L (mrk I) _ _ _).trans (bX12_looks_0 _ e L (mrk I) _ _ _)) ?_
    simp (disch := omega) only [n32_ltE, n32_leE, n32_eqE, n32_eqm, m1_eqn, n32_ge0, n32_lt0, n32_nat, n32_succ, n32_add, xin_n32, xin_b1, xin_b2, cond_true, cond_false, if_true, if_false, xcI_some, xcV_some, xcJ_some, xcR_some, xu_ee, xu_rne, xu_kne, ite_self, not_true_eq_false, not_false_eq_true, ne_eq, true_and, and_true, false_and, and_false, m1_lt0, m1_eq0, eq_self, Bool.false_eq_true, reduceCtorEq, z_lt0, i1_eq0, i0_eq1, i1_eq1, xrZ0, xrZ1, xrZt, n32_eq0, n32_eq1, n32_gt0, n32_gt1, n32_lt1, n32_le1, n32_0le, tf0, tf1, xaI_of, r_isVoter_y (S0 (V := 0) hRm.2.1) hw hv, r_isBlock_y (S0 (V := 0) hRm.2.1) hw hb, ekX12_looks_0_5, ekX12_looks_0_9]
    refine RR_eq (bX12_looks_2 _ e L _ _ _ _) ?_
    rw [S0 (V := 0) hRm.2.1]
    simp (disch := omega) only [n32_ltE, n32_leE, n32_eqE, n32_eqm, m1_eqn, n32_ge0, n32_lt0, n32_nat, n32_succ, n32_add, xin_n32, xin_b1, xin_b2, cond_true, cond_false, if_true, if_false, xcI_some, xcV_some, xcJ_some, xcR_some, xu_ee, xu_rne, xu_kne, ite_self, not_true_eq_false, not_false_eq_true, ne_eq, true_and, and_true, false_and, and_false, m1_lt0, m1_eq0, eq_self, Bool.false_eq_true, reduceCtorEq, z_lt0, i1_eq0, i0_eq1, i1_eq1, xrZ0, xrZ1, xrZt, n32_eq0, n32_eq1, n32_gt0, n32_gt1, n32_lt1, n32_le1, n32_0le, tf0, tf1, xaI_of, q216a, q216b, q216m, q216l, q216g, q216r, q216s, q216e, q]
    exact RR_I ⟨rfl, Inv_0 him⟩
theorem s_grows (x : Int32) : stp 125 218 [.int x] := by
  intro d e L I J h
  obtain ⟨hC, hR, hNZ, ⟨m, o, hH⟩, _⟩ := id h
  have hw := hC.1.1
  have h20 := wf_B hw
  have h8 := wf_V8 hw
  have hS := hR.2.1
  have S0' := S0 (V := 0) hS
  generalize hSS : I 211 = S at *
  rcases inr_or x (sB S) (by omega) with ⟨b, hb, rfl⟩ | hx
  rotate_left
  · refine RR_eq ((aX11_grows _ e L I J _).trans (bX11_grows_0 _ e L I J _)) ?_
    simp (disch := omega) only [n32_ltE, n32_leE, n32_eqE, n32_eqm, m1_eqn, n32_ge0, n32_lt0, n32_nat, n32_succ, n32_add, xin_n32, xin_b1, xin_b2, cond_true, cond_false, if_true, if_false, xcI_some, xcV_some, xcJ_some, xcR_some, xu_ee, xu_rne, xu_kne, ite_self, not_true_eq_false, not_false_eq_true, ne_eq, true_and, and_true, false_and, and_false, m1_lt0, m1_eq0, eq_self, Bool.false_eq_true, reduceCtorEq, z_lt0, i1_eq0, i0_eq1, i1_eq1, xrZ0, xrZ1, xrZt, n32_eq0, n32_eq1, n32_gt0, n32_gt1, n32_lt1, n32_le1, n32_0le, tf0, tf1, xaI_of, c_hasBlock_n hC.2.1 hw hx, ekX11_grows_0_3, bX11_grows_0, ekX11_grows_1_10, ekX11_grows_1_9, ekX11_grows_1_4, bX11_grows_1]
    refine RR_I ?_
    refine RR_eq ((aX12_grows _ e L I J _).trans (bX12_grows_0 _ e L I J _)) ?_
    simp (disch := omega) only [n32_ltE, n32_leE, n32_eqE, n32_eqm, m1_eqn, n32_ge0, n32_lt0, n32_nat, n32_succ, n32_add, xin_n32, xin_b1, xin_b2, cond_true, cond_false, if_true, if_false, xcI_some, xcV_some, xcJ_some, xcR_some, xu_ee, xu_rne, xu_kne, ite_self, not_true_eq_false, not_false_eq_true, ne_eq, true_and, and_true, false_and, and_false, m1_lt0, m1_eq0, eq_self, Bool.false_eq_true, reduceCtorEq, z_lt0, i1_eq0, i0_eq1, i1_eq1, xrZ0, xrZ1, xrZt, n32_eq0, n32_eq1, n32_gt0, n32_gt1, n32_lt1, n32_le1, n32_0le, tf0, tf1, xaI_of, q20a, q20b, q20m, q20l, q20g, q20r, q20s, q20e, r_isBlock_n S0' hw hx, ekX12_grows_0_5, bX12_grows_0, bX12_grows_1, ekX12_grows_2_4, ekX12_grows_2_1, bX12_grows_2]
    exact RR_I ⟨rfl, Inv_0 h⟩
  refine RR_eq ((aX11_grows _ e L I J _).trans (bX11_grows_0 _ e L I J _)) ?_
  simp (disch := omega) only [n32_ltE, n32_leE, n32_eqE, n32_eqm, m1_eqn, n32_ge0, n32_lt0, n32_nat, n32_succ, n32_add, xin_n32, xin_b1, xin_b2, cond_true, cond_false, if_true, if_false, xcI_some, xcV_some, xcJ_some, xcR_some, xu_ee, xu_rne, xu_kne, ite_self, not_true_eq_false, not_false_eq_true, ne_eq, true_and, and_true, false_and, and_false, m1_lt0, m1_eq0, eq_self, Bool.false_eq_true, reduceCtorEq, z_lt0, i1_eq0, i0_eq1, i1_eq1, xrZ0, xrZ1, xrZt, n32_eq0, n32_eq1, n32_gt0, n32_gt1, n32_lt1, n32_le1, n32_0le, tf0, tf1, xaI_of, c_hasBlock_y hC.2.1 hw hb, ekX11_grows_0_3, bX11_grows_0, ekX11_grows_1_10, ekX11_grows_1_9, ekX11_grows_1_4, bX11_grows_1, c_mark]
  have hCm := CS_mrk hC
  have hMK := mrk_MK hC
  refine RR_cI (c_tryGrow (d := d + 37) hCm hNZ hb) (fun x K J' ⟨j1, hK⟩ => ?_)
  rw [ekX11_grows_1_9]
  rcases hK with ⟨q, x1, hK, fK⟩ | ⟨q, x1, hK, j2⟩
  · subst x1
    have k208 : MK K S 208 := by
      refine ⟨?_, ?_, fun u hu => ?_⟩
      · rw [fK 208 _ (by omega) (Or.inl (by decide))]; exact hMK.1
      · rw [fK 208 _ (by omega) (Or.inl (by decide))]; exact hMK.2.1
      · rw [fK 208 _ (by omega) (Or.inl (by decide))]; exact hMK.2.2 u hu
    have k79 : ∀ k, K 79 k = I 79 k := fun k => by rw [fK 79 k (by omega) (Or.inl (by decide)), mrk_ne (by decide)]
    refine RR_cI (c_keepIf_0 (d := d + 37) (m := m) (o := o) (by rw [k79, hH.2.2.1]) (by rw [k79, hH.2.2.2.1]) hH.1 hH.2.1 k208 h8) (fun x P J3 ⟨x1, j3, ck, fP⟩ => ?_)
    subst x1 j3
    rw [ekX11_grows_1_10]
    refine RR_I ?_
    have fI : ∀ o k, ¬ (7 ≤ o ∧ o < 42) → o ≠ 6 → ¬ (79 ≤ o ∧ o < 89) → o ≠ 208 → P o k = I o k := fun o k z1 z2 z3 z4 => by rw [fP o k z3, fK o k z1 (Or.inl z2), mrk_ne z4]
    have hRP : RS S P := RS_cf (fun q k z => fI q k (by omega) (by omega) (by omega) (by omega)) hR
    have hRP0 := RS_0 (x := 0) hRP
    have q20 : ¬ sB S = 20 := by omega
    refine RR_eq ((aX12_grows _ e L P _ _).trans (bX12_grows_0 _ e L P _ _)) ?_
    simp (disch := omega) only [n32_ltE, n32_leE, n32_eqE, n32_eqm, m1_eqn, n32_ge0, n32_lt0, n32_nat, n32_succ, n32_add, xin_n32, xin_b1, xin_b2, cond_true, cond_false, if_true, if_false, xcI_some, xcV_some, xcJ_some, xcR_some, xu_ee, xu_rne, xu_kne, ite_self, not_true_eq_false, not_false_eq_true, ne_eq, true_and, and_true, false_and, and_false, m1_lt0, m1_eq0, eq_self, Bool.false_eq_true, reduceCtorEq, z_lt0, i1_eq0, i0_eq1, i1_eq1, xrZ0, xrZ1, xrZt, n32_eq0, n32_eq1, n32_gt0, n32_gt1, n32_lt1, n32_le1, n32_0le, tf0, tf1, xaI_of, r_isBlock_y (S0 (V := 0) hRP.2.1) hw hb, ekX12_grows_0_5]
    refine RR_eq (bX12_grows_1 _ e L _ _ _) ?_
    rw [hRP0.2.1, wf_2 hw]
    simp (disch := omega) only [n32_ltE, n32_leE, n32_eqE, n32_eqm, m1_eqn, n32_ge0, n32_lt0, n32_nat, n32_succ, n32_add, xin_n32, xin_b1, xin_b2, cond_true, cond_false, if_true, if_false, xcI_some, xcV_some, xcJ_some, xcR_some, xu_ee, xu_rne, xu_kne, ite_self, not_true_eq_false, not_false_eq_true, ne_eq, true_and, and_true, false_and, and_false, m1_lt0, m1_eq0, eq_self, Bool.false_eq_true, reduceCtorEq, z_lt0, i1_eq0, i0_eq1, i1_eq1, xrZ0, xrZ1, xrZt, n32_eq0, n32_eq1, n32_gt0, n32_gt1, n32_lt1, n32_le1, n32_0le, tf0, tf1, xaI_of, q20a, q20b, q20m, q20l, q20g, q20r, q20s, q20e, q20]
    refine RR_eq (bX12_grows_2 _ e L _ _ _) ?_
    have m38 : (xu P 209 0 0) 209 38 = n32 m := by rw [xu_kne (by decide), fI 209 38 (by omega) (by omega) (by omega) (by omega), hH.2.2.2.2.1]
    refine RR_cV (r_keeps (d := d + 37) (m := m) m38 hH.1) (fun Q J2 ⟨j2, fQ, rk⟩ => ?_)
    subst j2
    rw [ekX12_grows_2_1]
    rw [hRP0.2.1] at rk
    have hRQ : RS S Q := RS_cf' hRP0 fQ
    refine RR_cV (r_doesGrow (d := d + 38) hRQ q hb) (fun R J2 ⟨j2, hRR, fR⟩ => ?_)
    subst j2
    rw [ekX12_grows_2_4]
    refine RR_I ⟨rfl, ?_⟩
    have hp := pre_sg (b := b) hw q
    have hCP := CS_o (K := P) (fun q k z1 z2 => fP q k (by omega)) (fP 6 3 (by omega)) hK
    have fM : ∀ o k, o ≠ 211 → ¬ (217 ≤ o ∧ o < 225) → (o ≠ 209 ∨ ¬ (k = 0 ∨ (26 ≤ k ∧ k ≤ 34) ∨ k = 38 ∨ k = 44)) → R o k = P o k := fun o k z1 z2 z3 => by
      rw [fR o k z1 (by omega), fQ o k (by omega) (by omega) (by omega)]
      by_cases z : o = 209
      · subst z
        rw [xu_kne (by omega)]
      · rw [xu_rne z]
    have rk2 : RK I R S m := by
      have e38 : R 209 38 = Q 209 38 := fR 209 38 (by decide) (Or.inr (by decide))
      have e222 : R 222 = Q 222 := funext fun k => fR 222 k (by decide) (Or.inl (by decide))
      have eM : (xu P 209 0 0) 222 = I 222 := funext fun k => by rw [xu_rne (by decide), fI 222 k (by omega) (by omega) (by omega) (by omega)]
      unfold RK at rk ⊢
      rw [e38, e222, ← eM]
      exact rk
    refine act_done (S' := sgrow S b) (m := m) (o := o) h ?_ ?_ ?_ ?_ hCP (fun o k z1 z2 z3 z4 z5 => fI o k z1 z2 (by omega) z5) j1 ?_ hRR fM ?_
    · rw [hSS]; exact hH
    · rw [hSS]; exact hp
    · intro k hk
      rw [hSS]
      exact (sg_ne (by omega) (by omega) (by omega) (by omega)).symm
    · exact NZ_same (by rw [sg_B q]; omega) hNZ
    · rw [hSS]
      exact CK_i ck (fun q k z1 z2 => by rw [fK q k (by omega) (Or.inl (by omega)), mrk_ne (by omega)])
    · rw [hSS]; exact rk2
  · subst hK x1 j2
    rw [c_keepIf_n (by decide), xcI_some, ekX11_grows_1_10]
    refine RR_I ?_
    have him := Inv_mrk h
    have hRm : RS S (mrk I) := RS_cf (fun q k z => by rw [mrk_ne (by omega)]) hR
    refine RR_eq ((aX12_grows _ e L (mrk I) _ _).trans (bX12_grows_0 _ e L (mrk I) _ _)) ?_
    simp (disch := omega) only [n32_ltE, n32_leE, n32_eqE, n32_eqm, m1_eqn, n32_ge0, n32_lt0, n32_nat, n32_succ, n32_add, xin_n32, xin_b1, xin_b2, cond_true, cond_false, if_true, if_false, xcI_some, xcV_some, xcJ_some, xcR_some, xu_ee, xu_rne, xu_kne, ite_self, not_true_eq_false, not_false_eq_true, ne_eq, true_and, and_true, false_and, and_false, m1_lt0, m1_eq0, eq_self, Bool.false_eq_true, reduceCtorEq, z_lt0, i1_eq0, i0_eq1, i1_eq1, xrZ0, xrZ1, xrZt, n32_eq0, n32_eq1, n32_gt0, n32_gt1, n32_lt1, n32_le1, n32_0le, tf0, tf1, xaI_of, r_isBlock_y (S0 (V := 0) hRm.2.1) hw hb, ekX12_grows_0_5]
    refine RR_eq (bX12_grows_1 _ e L _ _ _) ?_
    rw [S0 (V := 0) hRm.2.1, wf_2 hw]
    simp (disch := omega) only [n32_ltE, n32_leE, n32_eqE, n32_eqm, m1_eqn, n32_ge0, n32_lt0, n32_nat, n32_succ, n32_add, xin_n32, xin_b1, xin_b2, cond_true, cond_false, if_true, if_false, xcI_some, xcV_some, xcJ_some, xcR_some, xu_ee, xu_rne, xu_kne, ite_self, not_true_eq_false, not_false_eq_true, ne_eq, true_and, and_true, false_and, and_false, m1_lt0, m1_eq0, eq_self, Bool.false_eq_true, reduceCtorEq, z_lt0, i1_eq0, i0_eq1, i1_eq1, xrZ0, xrZ1, xrZt, n32_eq0, n32_eq1, n32_gt0, n32_gt1, n32_lt1, n32_le1, n32_0le, tf0, tf1, xaI_of, q20a, q20b, q20m, q20l, q20g, q20r, q20s, q20e, q]
    exact RR_I ⟨rfl, Inv_0 him⟩
theorem s_undo : stp 126 223 [] := by
  intro d e L I J h
  obtain ⟨hC, hR, hNZ, ⟨m, o, hH⟩, h5⟩ := id h
  refine RR_eq ((aX11_undo _ e L I J).trans (bX11_undo_0 _ e L I J)) ?_
  refine RR_cI (c_takeBack (d := d + 37) hC hH) (fun x K J' ⟨j1, hx⟩ => ?_)
  subst j1
  rw [ekX11_undo_0_4]
  refine RR_I ?_
  rcases hx with ⟨m0, x1, k1⟩ | ⟨m0, x1, k1, hK, k6, fK⟩
  · subst m0 x1 k1
    refine RR_wI (r_undo (d := d + 38) (m := 0) hR hH.2.2.2.2.1 (by omega) (fun z => absurd z (by omega))) (fun y M J2 ⟨j2, hy⟩ => ?_)
    subst j2
    rcases hy with ⟨_, y1, y2⟩ | ⟨z, _⟩
    · subst y1 y2
      exact ⟨rfl, Inv_0 h⟩
    · omega
  · have g9 : ∀ q k, 209 ≤ q → K q k = I q k := fun q k z => fK q k (by omega) (Or.inl (by omega)) (Or.inl (by omega))
    have eh : ∀ j, hS K (I 211) j = hS I (I 211) j := fun j => hS_0 rfl rfl (funext fun k => g9 222 k (by omega))
    refine RR_wI (r_undo (d := d + 38) (m := m) (RS_cf g9 hR) (by rw [g9 209 38 (by omega)]; exact hH.2.2.2.2.1) hH.1 (fun z => by rw [eh]; exact (hH.2.2.2.2.2.1 (m - 1) (by omega)).1)) (fun y M J2 ⟨j2, hy⟩ => ?_)
    subst j2
    rcases hy with ⟨z, _⟩ | ⟨_, y1, y2, hM, hrow, h224, fM⟩
    · omega
    · refine ⟨x1.trans y1.symm, ?_⟩
      rw [eh] at hrow
      have ck : ∀ q k, q < 209 → M q k = K q k := fun q k z => fM q k (by omega) (Or.inl (by omega))
      have s0 : M 211 0 = I 211 0 := (hrow 0 (by omega)).symm
      have s1 : M 211 1 = I 211 1 := (hrow 1 (by omega)).symm
      have hCM : CS (M 211) (nmN J2) M J2 := by
        have q1 : CS (hS I (I 211) (m - 1)) (nmN J2) M J2 := CS_o (fun q k z1 z2 => ck q k (by omega)) (ck 6 3 (by omega)) hK
        exact CS_224 hrow (by rw [ck 6 3 (by omega)]; exact k6) q1
      have hvis : ∀ q k, ¬ (7 ≤ q ∧ q < 42) → q ≠ 6 → (q ≠ 79 ∨ k ≠ 2) → q ≠ 211 → (q ≠ 209 ∨ ¬ (k = 0 ∨ k = 34 ∨ k = 38)) → M q k = I q k := fun q k z1 z2 z3 z4 z5 => by rw [fM q k z4 z5, fK q k z1 (Or.inl z2) z3]
      refine ⟨hCM, hM, NZ_224 hrow (hH.2.2.2.2.2.1 (m - 1) (by omega)).2.1, Hst_pop hH m0 s0 s1 hrow ?_ ?_ y2 ?_ ?_, Rest_c (fun q k z => hvis q k (by unfold vI at z; omega) (by unfold vI at z; omega) (by unfold vI at z; omega) (by unfold vI at z; omega) (by unfold vI at z; omega)) (fun _ _ _ => rfl) (fun k hk => (h224 k hk).symm) s1.symm (fun _ _ => rfl) (wf_V8 hC.1.1) h5⟩
      · rw [ck 79 2 (by omega), k1]
      · exact hvis 79 1 (by omega) (by omega) (by omega) (by omega) (by omega)
      · exact funext fun k => hvis 222 k (by omega) (by omega) (by omega) (by omega) (by omega)
      · exact fun i k hi => hvis _ k (by omega) (by omega) (by omega) (by omega) (by omega)
end ACV
