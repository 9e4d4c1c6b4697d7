/-! The reference's way. -/
section RWY
variable {d e L : Nat} {S : TS} {N : Nat → Int64} {I K M : TI} {J : TJ} {a b s t v k i n w m x : Nat}
theorem vfr_0 {y : Int32} : vfr (xu I 209 0 y) I := fun o k z1 z2 => by
  by_cases z : o = 209
  · subst z
    rw [xu_kne (by omega)]
  · rw [xu_rne z]
theorem Rf_m (h : mfr M K) (hF : Rf S K) : Rf S M := by
  have : M = xu K 209 39 (M 209 39) := by
    funext o k
    by_cases z : o = 209 ∧ k = 39
    · rw [z.1, z.2, xu_ee]
    · rw [h o k (by omega)]
      exact (if_neg z).symm
  rw [this]
  exact Rf_k (Or.inr (by omega)) hF
theorem RS_m (h : mfr M K) (hF : Rf S K) (hC : RS S K) : RS S M := ⟨hC.1, (funext fun k => h 211 k (Or.inl (by decide))).trans hC.2.1, fun _ => Rf_m h hF⟩
theorem r_way (hC : RS S I) (y : Int32) : RR (xcall xprog (d + 9) 233 [.ref 209, .int y] (xst e L I J)) (zI e L fun V K J' => J' = J ∧ RS S K ∧ vfr K I ∧ K 209 40 = I 209 40 ∧ V = wayV S y ∧ K 209 41 = (wayU S y).getD (I 209 41)) := by
  have hw := hC.1.1
  have hk := hC.1.2.1
  have h20 := wf_B hw
  refine RR_eq ((aX12_way _ e L I J _).trans (bX12_way_0 _ e L I J _)) ?_
  rcases inr_or y (sB S) (by omega) with ⟨t, ht, rfl⟩ | hy
  rotate_left
  · rw [r_isBlock_n (S0 hC.2.1) hw hy]
    simp (disch := omega) only [n32_ltE, n32_leE, n32_eqE, n32_eqm, m1_eqn, n32_ge0, n32_lt0, n32_nat, n32_succ, n32_add, xin_n32, xin_b1, xin_b2, cond_true, cond_false, if_true, if_false, xcI_some, xcV_some, xcJ_some, xcR_some, xu_ee, xu_rne, xu_kne, ite_self, not_true_eq_false, not_false_eq_true, ne_eq, true_and, and_true, false_and, and_false, m1_lt0, m1_eq0, eq_self, Bool.false_eq_true, reduceCtorEq, z_lt0, i1_eq0, i0_eq1, i1_eq1, xrZ0, xrZ1, xrZt, n32_eq0, n32_eq1, n32_gt0, n32_gt1, n32_lt1, n32_le1, n32_0le, tf0, tf1, xaI_of, ekX12_way_0_5, bX12_way_0, ekX12_way_1_4, ekX12_way_1_1, bX12_way_1, ekX12_way_2_3, bX12_way_2, bX12_way_3, bX12_way_4, ekX12_way_5_16, ekX12_way_5_11, ekX12_way_6_3, bX12_way_6, bX12_way_7, bX12_way_8, bX12_way_9, bX12_way_10]
    obtain ⟨w1, w2⟩ := wayV_n (S := S) (y := y) (Or.inl hy)
    exact RR_I ⟨rfl, RS_0 hC, vfr_0, by rw [xu_kne (by decide)], w1.symm, by rw [w2, xu_kne (by decide)]; rfl⟩
  rw [r_isBlock_y (S0 hC.2.1) hw ht]
  simp (disch := omega) only [n32_ltE, n32_leE, n32_eqE, n32_eqm, m1_eqn, n32_ge0, n32_lt0, n32_nat, n32_succ, n32_add, xin_n32, xin_b1, xin_b2, cond_true, cond_false, if_true, if_false, xcI_some, xcV_some, xcJ_some, xcR_some, xu_ee, xu_rne, xu_kne, ite_self, not_true_eq_false, not_false_eq_true, ne_eq, true_and, and_true, false_and, and_false, m1_lt0, m1_eq0, eq_self, Bool.false_eq_true, reduceCtorEq, z_lt0, i1_eq0, i0_eq1, i1_eq1, xrZ0, xrZ1, xrZt, n32_eq0, n32_eq1, n32_gt0, n32_gt1, n32_lt1, n32_le1, n32_0le, tf0, tf1, xaI_of, ekX12_way_0_5, bX12_way_1]
  refine RR_cV (r_lays (d := d + 1) (RS_0 (x := 0) hC)) (fun K J' ⟨j1, f1, hF, hC2⟩ => ?_)
  subst j1
  have hS2 := hC2.2.1
  have vK : vfr K I := fun o k z1 z2 => by rw [f1 o k z1 (by omega), vfr_0 o k z1 z2]
  have c40 : K 209 40 = I 209 40 := by rw [f1 209 40 (by decide) (Or.inr (by decide)), xu_kne (by decide)]
  have c41 : K 209 41 = I 209 41 := by rw [f1 209 41 (by decide) (Or.inr (by decide)), xu_kne (by decide)]
  rw [ekX12_way_1_1, r_isPoint hS2 hw hF.1 ht]
  by_cases hp : pt S t = true
  rotate_left
  · simp (disch := omega) only [n32_ltE, n32_leE, n32_eqE, n32_eqm, m1_eqn, n32_ge0, n32_lt0, n32_nat, n32_succ, n32_add, xin_n32, xin_b1, xin_b2, cond_true, cond_false, if_true, if_false, xcI_some, xcV_some, xcJ_some, xcR_some, xu_ee, xu_rne, xu_kne, ite_self, not_true_eq_false, not_false_eq_true, ne_eq, true_and, and_true, false_and, and_false, m1_lt0, m1_eq0, eq_self, Bool.false_eq_true, reduceCtorEq, z_lt0, i1_eq0, i0_eq1, i1_eq1, xrZ0, xrZ1, xrZt, n32_eq0, n32_eq1, n32_gt0, n32_gt1, n32_lt1, n32_le1, n32_0le, tf0, tf1, xaI_of, ekX12_way_0_5, bX12_way_0, ekX12_way_1_4, ekX12_way_1_1, bX12_way_1, ekX12_way_2_3, bX12_way_2, bX12_way_3, bX12_way_4, ekX12_way_5_16, ekX12_way_5_11, ekX12_way_6_3, bX12_way_6, bX12_way_7, bX12_way_8, bX12_way_9, bX12_way_10, hp]
    obtain ⟨w1, w2⟩ := wayV_n (S := S) (y := n32 t) (Or.inr (by rw [n32_nat (by omega)]; simpa using hp))
    exact RR_I ⟨rfl, hC2, vK, c40, w1.symm, by rw [w2, c41]; rfl⟩
  simp (disch := omega) only [n32_ltE, n32_leE, n32_eqE, n32_eqm, m1_eqn, n32_ge0, n32_lt0, n32_nat, n32_succ, n32_add, xin_n32, xin_b1, xin_b2, cond_true, cond_false, if_true, if_false, xcI_some, xcV_some, xcJ_some, xcR_some, xu_ee, xu_rne, xu_kne, ite_self, not_true_eq_false, not_false_eq_true, ne_eq, true_and, and_true, false_and, and_false, m1_lt0, m1_eq0, eq_self, Bool.false_eq_true, reduceCtorEq, z_lt0, i1_eq0, i0_eq1, i1_eq1, xrZ0, xrZ1, xrZt, n32_eq0, n32_eq1, n32_gt0, n32_gt1, n32_lt1, n32_le1, n32_0le, tf0, tf1, xaI_of, ekX12_way_1_4, hp, bX12_way_2, sX12_bitOf, hF.2.1, bt_t1, jS_b hw ht]
  have upd : ∀ (M : TI) (y : Int32), vfr M I → vfr (xu M 209 41 y) I := fun M y h o k z1 z2 => by
    rw [← h o k z1 z2]
    by_cases z : o = 209
    · subst z
      rw [xu_kne (by omega)]
    · rw [xu_rne z]
  by_cases hj : jst S t = true
  · obtain ⟨w1, w2⟩ := wayV_j hw ht hp hj
    rw [w1, w2]
    simp (disch := omega) only [n32_ltE, n32_leE, n32_eqE, n32_eqm, m1_eqn, n32_ge0, n32_lt0, n32_nat, n32_succ, n32_add, xin_n32, xin_b1, xin_b2, cond_true, cond_false, if_true, if_false, xcI_some, xcV_some, xcJ_some, xcR_some, xu_ee, xu_rne, xu_kne, ite_self, not_true_eq_false, not_false_eq_true, ne_eq, true_and, and_true, false_and, and_false, m1_lt0, m1_eq0, eq_self, Bool.false_eq_true, reduceCtorEq, z_lt0, i1_eq0, i0_eq1, i1_eq1, xrZ0, xrZ1, xrZt, n32_eq0, n32_eq1, n32_gt0, n32_gt1, n32_lt1, n32_le1, n32_0le, tf0, tf1, xaI_of, hj, ekX12_way_2_3, bX12_way_4]
    refine RR_eq (bX12_way_5 _ e L K J' _ _ _ _) ?_
    have h0 : 0 < sB S := by omega
    have z0 : (0 : Int32) < n32 (sB S) := by rw [n32_gt0 (by omega)]; exact h0
    simp (disch := omega) only [n32_ltE, n32_leE, n32_eqE, n32_eqm, m1_eqn, n32_ge0, n32_lt0, n32_nat, n32_succ, n32_add, xin_n32, xin_b1, xin_b2, cond_true, cond_false, if_true, if_false, xcI_some, xcV_some, xcJ_some, xcR_some, xu_ee, xu_rne, xu_kne, ite_self, not_true_eq_false, not_false_eq_true, ne_eq, true_and, and_true, false_and, and_false, m1_lt0, m1_eq0, eq_self, Bool.false_eq_true, reduceCtorEq, z_lt0, i1_eq0, i0_eq1, i1_eq1, xrZ0, xrZ1, xrZt, n32_eq0, n32_eq1, n32_gt0, n32_gt1, n32_lt1, n32_le1, n32_0le, tf0, tf1, xaI_of, hS2, wf_2 hw, z0, bX12_way_9, bX12_way_10]
    exact RR_I ⟨rfl, RS_k (Or.inr (by omega)) hC2, upd K _ vK, by rw [xu_kne (by decide), c40], rfl, by rw [xu_ee]; rfl⟩
  obtain ⟨w1, w2⟩ := wayV_f hw ht hp hj
  rw [w1, w2]
  simp (disch := omega) only [n32_ltE, n32_leE, n32_eqE, n32_eqm, m1_eqn, n32_ge0, n32_lt0, n32_nat, n32_succ, n32_add, xin_n32, xin_b1, xin_b2, cond_true, cond_false, if_true, if_false, xcI_some, xcV_some, xcJ_some, xcR_some, xu_ee, xu_rne, xu_kne, ite_self, not_true_eq_false, not_false_eq_true, ne_eq, true_and, and_true, false_and, and_false, m1_lt0, m1_eq0, eq_self, Bool.false_eq_true, reduceCtorEq, z_lt0, i1_eq0, i0_eq1, i1_eq1, xrZ0, xrZ1, xrZt, n32_eq0, n32_eq1, n32_gt0, n32_gt1, n32_lt1, n32_le1, n32_0le, tf0, tf1, xaI_of, hj, ekX12_way_2_3, bX12_way_3, bX12_way_4]
  -- the end, from any state of the loop
  have fin9 : ∀ (M : TI) n, mfr M K → wayF S t n = wayF S t t → RR (xlim (xcall xprog (d + 8)) mX12_way 9 [.ref 209, xD, .int (wayF S t n).1, .int (wayF S t n).2, xD, xD] [] (xst e L M J')) (zI e L fun V K J'' => J'' = J' ∧ RS S K ∧ vfr K I ∧ K 209 40 = I 209 40 ∧ V = (wayF S t t).1 ∧ K 209 41 = (if (wayF S t t).1 = -1 then none else some (wayF S t t).2).getD (I 209 41)) := by
    intro M n hM hn
    have vM : vfr M I := fun o k z1 z2 => by rw [hM o k (by omega), vK o k z1 z2]
    have hRM := RS_m hM hF hC2
    have m40 : M 209 40 = I 209 40 := (hM 209 40 (Or.inr (by decide))).trans c40
    have m41 : M 209 41 = I 209 41 := (hM 209 41 (Or.inr (by decide))).trans c41
    rw [hn]
    refine RR_eq (bX12_way_9 _ e L M J' _ _) ?_
    rcases wayF_or (S := S) t t with q | ⟨k, k1, k2⟩
    · simp (disch := omega) only [n32_ltE, n32_leE, n32_eqE, n32_eqm, m1_eqn, n32_ge0, n32_lt0, n32_nat, n32_succ, n32_add, xin_n32, xin_b1, xin_b2, cond_true, cond_false, if_true, if_false, xcI_some, xcV_some, xcJ_some, xcR_some, xu_ee, xu_rne, xu_kne, ite_self, not_true_eq_false, not_false_eq_true, ne_eq, true_and, and_true, false_and, and_false, m1_lt0, m1_eq0, eq_self, Bool.false_eq_true, reduceCtorEq, z_lt0, i1_eq0, i0_eq1, i1_eq1, xrZ0, xrZ1, xrZt, n32_eq0, n32_eq1, n32_gt0, n32_gt1, n32_lt1, n32_le1, n32_0le, tf0, tf1, xaI_of, q, bX12_way_10]
      exact RR_I ⟨rfl, hRM, vM, m40, rfl, by rw [m41]; rfl⟩
    · rw [k2]
      simp (disch := omega) only [n32_ltE, n32_leE, n32_eqE, n32_eqm, m1_eqn, n32_ge0, n32_lt0, n32_nat, n32_succ, n32_add, xin_n32, xin_b1, xin_b2, cond_true, cond_false, if_true, if_false, xcI_some, xcV_some, xcJ_some, xcR_some, xu_ee, xu_rne, xu_kne, ite_self, not_true_eq_false, not_false_eq_true, ne_eq, true_and, and_true, false_and, and_false, m1_lt0, m1_eq0, eq_self, Bool.false_eq_true, reduceCtorEq, z_lt0, i1_eq0, i0_eq1, i1_eq1, xrZ0, xrZ1, xrZt, n32_eq0, n32_eq1, n32_gt0, n32_gt1, n32_lt1, n32_le1, n32_0le, tf0, tf1, xaI_of, bX12_way_10]
      exact RR_I ⟨rfl, RS_k (Or.inr (by omega)) hRM, upd M _ vM, by rw [xu_kne (by decide), m40], rfl, by rw [xu_ee]; rfl⟩
  have key := xforx (fun i M => xlim (xcall xprog (d + 8)) mX12_way 5 [.ref 209, .int (n32 t), .int (wayF S t i).1, .int (wayF S t i).2, .int (n32 i), xD] [] (xst e L M J')) (fun i M => mfr M K) (fun r => RR r (zI e L fun V K J'' => J'' = J' ∧ RS S K ∧ vfr K I ∧ K 209 40 = I 209 40 ∧ V = (wayF S t t).1 ∧ K 209 41 = (if (wayF S t t).1 = -1 then none else some (wayF S t t).2).getD (I 209 41))) (n := sB S) (fun i M hi hM => by
    have hRM := RS_m hM hF hC2
    have hFM := Rf_m hM hF
    have hSM := hRM.2.1
    have e0 := bX12_way_5 (xcall xprog (d + 8)) e L M J' (n32 t) (wayF S t i).1 (wayF S t i).2 (n32 i)
    by_cases q0 : (wayF S t i).1 = 0
    · right
      refine RR_eq e0 ?_
      rw [hSM, wf_2 hw, if_pos ((n32_lt (by omega) (by omega)).mpr hi), if_pos q0]
      refine fin9 M i hM ?_
      by_cases z : i ≤ t
      · exact (wayF_zero q0 t z).symm
      · exact wayF_tail (by omega)
    · left
      by_cases qj : jst S i = true
      · by_cases qa : anc (par S) i t = true
        · obtain ⟨o, o1, V, P, J2, o2, j2, p1, p2⟩ := r_needOf (d := d + 2) (e := e) (L := L) (J := J') hRM hFM hi ht
          subst j2
          have hnd : V = ndV S i t := by
            rcases p2 with ⟨m, m1, m2, m3⟩ | ⟨m1, m2⟩
            · rw [m2, ndV_y m1]
            · rw [m2, ndV_n m1]
          have hP : mfr P K := fun o k z => (p1 o k z).trans (hM o k z)
          have e1 : xlim (xcall xprog (d + 8)) mX12_way 5 [.ref 209, .int (n32 t), .int (wayF S t i).1, .int (wayF S t i).2, .int (n32 i), xD] [] (xst e L M J2) = kX12_way_6_3 (xcall xprog (d + 8)) 209 (n32 t) (wayF S t i).1 (wayF S t i).2 (n32 i) V (xst e L P J2) := by
            refine e0.trans ?_
            simp (disch := omega) only [n32_ltE, n32_leE, n32_eqE, n32_eqm, m1_eqn, n32_ge0, n32_lt0, n32_nat, n32_succ, n32_add, xin_n32, xin_b1, xin_b2, cond_true, cond_false, if_true, if_false, xcI_some, xcV_some, xcJ_some, xcR_some, xu_ee, xu_rne, xu_kne, ite_self, not_true_eq_false, not_false_eq_true, ne_eq, true_and, and_true, false_and, and_false, m1_lt0, m1_eq0, eq_self, Bool.false_eq_true, reduceCtorEq, z_lt0, i1_eq0, i0_eq1, i1_eq1, xrZ0, xrZ1, xrZt, n32_eq0, n32_eq1, n32_gt0, n32_gt1, n32_lt1, n32_le1, n32_0le, tf0, tf1, xaI_of, hSM, wf_2 hw, hi, q0, sX12_bitOf, hFM.2.1, bt_t1, jS_b hw hi, qj, ekX12_way_5_11, r_isAhead hw hFM.1 (show i < 32 by omega) ht, qa, ekX12_way_5_16, bX12_way_6]
            rw [o1, o2]
            rfl
          rw [ekX12_way_6_3, hnd] at e1
          rcases ndV_or (S := S) i t with z | ⟨k, k1, k2⟩
          · have ef : wayF S t (i + 1) = wayF S t i := (wayF_s S t i).trans (if_neg (fun h => h.2.1 z))
            refine ⟨P, e1.trans ?_, hP⟩
            rw [ef]
            simp (disch := omega) only [n32_ltE, n32_leE, n32_eqE, n32_eqm, m1_eqn, n32_ge0, n32_lt0, n32_nat, n32_succ, n32_add, xin_n32, xin_b1, xin_b2, cond_true, cond_false, if_true, if_false, xcI_some, xcV_some, xcJ_some, xcR_some, xu_ee, xu_rne, xu_kne, ite_self, not_true_eq_false, not_false_eq_true, ne_eq, true_and, and_true, false_and, and_false, m1_lt0, m1_eq0, eq_self, Bool.false_eq_true, reduceCtorEq, z_lt0, i1_eq0, i0_eq1, i1_eq1, xrZ0, xrZ1, xrZt, n32_eq0, n32_eq1, n32_gt0, n32_gt1, n32_lt1, n32_le1, n32_0le, tf0, tf1, xaI_of, z, bX12_way_8]
          · rw [k2] at e1
            have kne : ndV S i t ≠ -1 := by rw [k2]; exact n32_ne1 (by omega)
            rcases wayF_or (S := S) t i with w | ⟨k', w1, w2⟩
            · have ef : wayF S t (i + 1) = (ndV S i t, n32 i) := (wayF_s S t i).trans (if_pos ⟨⟨qj, qa⟩, kne, Or.inl w⟩)
              refine ⟨P, e1.trans ?_, hP⟩
              rw [ef, k2]
              simp (disch := omega) only [n32_ltE, n32_leE, n32_eqE, n32_eqm, m1_eqn, n32_ge0, n32_lt0, n32_nat, n32_succ, n32_add, xin_n32, xin_b1, xin_b2, cond_true, cond_false, if_true, if_false, xcI_some, xcV_some, xcJ_some, xcR_some, xu_ee, xu_rne, xu_kne, ite_self, not_true_eq_false, not_false_eq_true, ne_eq, true_and, and_true, false_and, and_false, m1_lt0, m1_eq0, eq_self, Bool.false_eq_true, reduceCtorEq, z_lt0, i1_eq0, i0_eq1, i1_eq1, xrZ0, xrZ1, xrZt, n32_eq0, n32_eq1, n32_gt0, n32_gt1, n32_lt1, n32_le1, n32_0le, tf0, tf1, xaI_of, w, bX12_way_7, bX12_way_8]
            · by_cases c : k < k'
              · have ef : wayF S t (i + 1) = (ndV S i t, n32 i) := (wayF_s S t i).trans (if_pos ⟨⟨qj, qa⟩, kne, Or.inr (by rw [k2, w2]; exact (n32_lt (by omega) (by omega)).mpr c)⟩)
                refine ⟨P, e1.trans ?_, hP⟩
                rw [ef, k2]
                simp (disch := omega) only [n32_ltE, n32_leE, n32_eqE, n32_eqm, m1_eqn, n32_ge0, n32_lt0, n32_nat, n32_succ, n32_add, xin_n32, xin_b1, xin_b2, cond_true, cond_false, if_true, if_false, xcI_some, xcV_some, xcJ_some, xcR_some, xu_ee, xu_rne, xu_kne, ite_self, not_true_eq_false, not_false_eq_true, ne_eq, true_and, and_true, false_and, and_false, m1_lt0, m1_eq0, eq_self, Bool.false_eq_true, reduceCtorEq, z_lt0, i1_eq0, i0_eq1, i1_eq1, xrZ0, xrZ1, xrZt, n32_eq0, n32_eq1, n32_gt0, n32_gt1, n32_lt1, n32_le1, n32_0le, tf0, tf1, xaI_of, w2, c, bX12_way_7, bX12_way_8]
              · have ef : wayF S t (i + 1) = wayF S t i := (wayF_s S t i).trans (if_neg (fun h => by
                  rcases h.2.2 with h | h
                  · rw [w2] at h
                    exact n32_ne1 (by omega) h
                  · rw [k2, w2] at h
                    exact c ((n32_lt (by omega) (by omega)).mp h)))
                refine ⟨P, e1.trans ?_, hP⟩
                rw [ef]
                simp (disch := omega) only [n32_ltE, n32_leE, n32_eqE, n32_eqm, m1_eqn, n32_ge0, n32_lt0, n32_nat, n32_succ, n32_add, xin_n32, xin_b1, xin_b2, cond_true, cond_false, if_true, if_false, xcI_some, xcV_some, xcJ_some, xcR_some, xu_ee, xu_rne, xu_kne, ite_self, not_true_eq_false, not_false_eq_true, ne_eq, true_and, and_true, false_and, and_false, m1_lt0, m1_eq0, eq_self, Bool.false_eq_true, reduceCtorEq, z_lt0, i1_eq0, i0_eq1, i1_eq1, xrZ0, xrZ1, xrZt, n32_eq0, n32_eq1, n32_gt0, n32_gt1, n32_lt1, n32_le1, n32_0le, tf0, tf1, xaI_of, w2, c, bX12_way_8]
        · have ef : wayF S t (i + 1) = wayF S t i := (wayF_s S t i).trans (if_neg (fun h => qa h.1.2))
          refine ⟨M, e0.trans ?_, hM⟩
          rw [ef]
          simp (disch := omega) only [n32_ltE, n32_leE, n32_eqE, n32_eqm, m1_eqn, n32_ge0, n32_lt0, n32_nat, n32_succ, n32_add, xin_n32, xin_b1, xin_b2, cond_true, cond_false, if_true, if_false, xcI_some, xcV_some, xcJ_some, xcR_some, xu_ee, xu_rne, xu_kne, ite_self, not_true_eq_false, not_false_eq_true, ne_eq, true_and, and_true, false_and, and_false, m1_lt0, m1_eq0, eq_self, Bool.false_eq_true, reduceCtorEq, z_lt0, i1_eq0, i0_eq1, i1_eq1, xrZ0, xrZ1, xrZt, n32_eq0, n32_eq1, n32_gt0, n32_gt1, n32_lt1, n32_le1, n32_0le, tf0, tf1, xaI_of, hSM, wf_2 hw, hi, q0, sX12_bitOf, hFM.2.1, bt_t1, jS_b hw hi, qj, ekX12_way_5_11, r_isAhead hw hFM.1 (show i < 32 by omega) ht, qa, ekX12_way_5_16, bX12_way_8]
      · have ef : wayF S t (i + 1) = wayF S t i := (wayF_s S t i).trans (if_neg (fun h => qj h.1.1))
        refine ⟨M, e0.trans ?_, hM⟩
        rw [ef]
        simp (disch := omega) only [n32_ltE, n32_leE, n32_eqE, n32_eqm, m1_eqn, n32_ge0, n32_lt0, n32_nat, n32_succ, n32_add, xin_n32, xin_b1, xin_b2, cond_true, cond_false, if_true, if_false, xcI_some, xcV_some, xcJ_some, xcR_some, xu_ee, xu_rne, xu_kne, ite_self, not_true_eq_false, not_false_eq_true, ne_eq, true_and, and_true, false_and, and_false, m1_lt0, m1_eq0, eq_self, Bool.false_eq_true, reduceCtorEq, z_lt0, i1_eq0, i0_eq1, i1_eq1, xrZ0, xrZ1, xrZt, n32_eq0, n32_eq1, n32_gt0, n32_gt1, n32_lt1, n32_le1, n32_0le, tf0, tf1, xaI_of, hSM, wf_2 hw, hi, q0, sX12_bitOf, hFM.2.1, bt_t1, jS_b hw hi, qj, ekX12_way_5_11, bX12_way_8]) K (fun _ _ _ => rfl)
  rcases key with ⟨M, k1, k2⟩ | key
  · refine RR_eq (k1.trans (bX12_way_5 _ e L M J' _ _ _ _)) ?_
    have hSM := (RS_m k2 hF hC2).2.1
    simp (disch := omega) only [n32_ltE, n32_leE, n32_eqE, n32_eqm, m1_eqn, n32_ge0, n32_lt0, n32_nat, n32_succ, n32_add, xin_n32, xin_b1, xin_b2, cond_true, cond_false, if_true, if_false, xcI_some, xcV_some, xcJ_some, xcR_some, xu_ee, xu_rne, xu_kne, ite_self, not_true_eq_false, not_false_eq_true, ne_eq, true_and, and_true, false_and, and_false, m1_lt0, m1_eq0, eq_self, Bool.false_eq_true, reduceCtorEq, z_lt0, i1_eq0, i0_eq1, i1_eq1, xrZ0, xrZ1, xrZt, n32_eq0, n32_eq1, n32_gt0, n32_gt1, n32_lt1, n32_le1, n32_0le, tf0, tf1, xaI_of, hSM, wf_2 hw, Nat.lt_irrefl]
    exact fin9 M (sB S) k2 (wayF_tail (by omega))
  · exact key
end RWY
