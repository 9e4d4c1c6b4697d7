/-! The calls feed, need, way; votes, looks, grows, undo. -/
section ACS
variable {d e L : Nat} {S S' : TS} {N N' : Nat → Int64} {I K M : TI} {J J' : TJ} {a b s t v k i n r m o q : Nat}
theorem s_feed (a b c x y : Int32) : stp 112 157 [.int a, .int b, .int c, .int x, .int y] := by
  intro d e L I J h
  obtain ⟨_, _, _, _, _, ⟨n, t1, t2, t3, t4⟩, _, _, hg, ⟨c1, c2, c3⟩, hd, _⟩ := id h
  refine RR_eq (feedC (d := d + 37) t2 t1) ?_
  by_cases q : n + 20 ≤ 940
  · rw [if_pos q]
    refine RR_I ?_
    have fr1 : ∀ o, o ≠ 1 → o ≠ 2 → pl 1 1 2 n I (by4 a ++ by4 b ++ by4 c ++ by4 x ++ by4 y) o = I o := fun o z1 z2 => pl_fr z1 z2 _ _ _
    generalize hK : pl 1 1 2 n I (by4 a ++ by4 b ++ by4 c ++ by4 x ++ by4 y) = K at fr1
    have e2 : K 209 2 = n32 n := by rw [fr1 209 (by decide) (by decide), t3]
    refine RR_eq (feedR (d := d + 38) e2 t1) ?_
    rw [if_pos q]
    have l1 : (by4 a ++ by4 b ++ by4 c ++ by4 x ++ by4 y).length = 20 := rfl
    have l2 : (rb4 a ++ rb4 b ++ rb4 c ++ rb4 x ++ rb4 y).length = 20 := rfl
    have em : by4 a ++ by4 b ++ by4 c ++ by4 x ++ by4 y = (rb4 a ++ rb4 b ++ rb4 c ++ rb4 x ++ rb4 y).map (fun z => z &&& 255) := by
      rw [by4_rb4, by4_rb4, by4_rb4, by4_rb4, by4_rb4]
      rfl
    have k11 : K 1 1 = n32 (n + 20) := by rw [← hK, pl_len (by decide) _ _ _ t2, l1]
    have k2 : ∀ i, K 2 i = if n ≤ i ∧ i < n + 20 then ((rb4 a ++ rb4 b ++ rb4 c ++ rb4 x ++ rb4 y).map (fun z => z &&& 255)).getD (i - n) 0 else I 2 i := fun i => by rw [← hK, pl_row (by decide), l1, em]
    have fr2 : ∀ o, o ≠ 209 → o ≠ 210 → pl 209 2 210 n (xu K 209 0 0) (rb4 a ++ rb4 b ++ rb4 c ++ rb4 x ++ rb4 y) o = K o := fun o z1 z2 => by rw [pl_fr z1 z2, xu_rne z1]
    have fr3 : ∀ k, k ≠ 0 → k ≠ 2 → pl 209 2 210 n (xu K 209 0 0) (rb4 a ++ rb4 b ++ rb4 c ++ rb4 x ++ rb4 y) 209 k = K 209 k := fun k z1 z2 => by rw [pl_of (by decide) z2, xu_kne z1]
    have m2 : pl 209 2 210 n (xu K 209 0 0) (rb4 a ++ rb4 b ++ rb4 c ++ rb4 x ++ rb4 y) 209 2 = n32 (n + 20) := by rw [pl_len (by decide) _ _ _ (by rw [xu_kne (by decide), e2]), l2]
    have mr : ∀ i, pl 209 2 210 n (xu K 209 0 0) (rb4 a ++ rb4 b ++ rb4 c ++ rb4 x ++ rb4 y) 210 i = if n ≤ i ∧ i < n + 20 then (rb4 a ++ rb4 b ++ rb4 c ++ rb4 x ++ rb4 y).getD (i - n) 0 else K 210 i := fun i => by rw [pl_row (by decide), l2, xu_rne (by decide)]
    generalize pl 209 2 210 n (xu K 209 0 0) (rb4 a ++ rb4 b ++ rb4 c ++ rb4 x ++ rb4 y) = M at fr2 fr3 m2 mr
    have fr : ∀ o k, o ≠ 1 → o ≠ 2 → o ≠ 210 → (o ≠ 209 ∨ (k ≠ 0 ∧ k ≠ 2)) → M o k = I o k := fun o k z1 z2 z3 z4 => by
      by_cases z : o = 209
      · subst z
        rw [fr3 k (by omega) (by omega), fr1 209 (by decide) (by decide)]
      · rw [fr2 o z z3, fr1 o z1 z2]
    refine RR_I ⟨rfl, Inv_g h (fun o k z => fr o k (by unfold gI at z; omega) (by unfold gI at z; omega) (by unfold gI at z; omega) (by unfold gI at z; omega)) (fun _ _ _ => rfl) rfl ⟨n + 20, q, by rw [fr2 1 (by decide) (by decide), k11], m2, fun i hi => ?_⟩ (Tag_c (fr _ _ (by decide) (by decide) (by decide) (by omega)) (fr _ _ (by decide) (by decide) (by decide) (by omega)) (funext fun k => fr _ _ (by decide) (by decide) (by decide) (by omega)) (funext fun k => fr _ _ (by decide) (by decide) (by decide) (by omega)) hg) ⟨?_, ?_, ?_⟩ (Told_c (fr _ _ (by decide) (by decide) (by decide) (by omega)) (funext fun k => fr _ _ (by decide) (by decide) (by decide) (by omega)) (funext fun k => fr _ _ (by decide) (by decide) (by decide) (by omega)) hd)⟩
    · rw [fr2 2 (by decide) (by decide), k2 i, mr i]
      by_cases z : n ≤ i ∧ i < n + 20
      · rw [if_pos z, if_pos z]
        have : ∀ (l : List Int32) j, j < l.length → (l.map (fun z => z &&& 255)).getD j 0 = l.getD j 0 &&& 255 := by
          intro l j hj
          rw [List.getD_eq_getElem?_getD, List.getD_eq_getElem?_getD, List.getElem?_map]
          rw [List.getElem?_eq_getElem hj]
          rfl
        exact this _ _ (by rw [l2]; omega)
      · rw [if_neg z, if_neg z, fr1 210 (by decide) (by decide)]
        exact t4 i (by omega)
    · rw [fr _ _ (by decide) (by decide) (by decide) (by omega), fr _ _ (by decide) (by decide) (by decide) (by omega), c1]
    · rw [fr _ _ (by decide) (by decide) (by decide) (by omega), fr _ _ (by decide) (by decide) (by decide) (by omega), c2]
    · rw [fr _ _ (by decide) (by decide) (by decide) (by omega), fr _ _ (by decide) (by decide) (by decide) (by omega), c3]
  · rw [if_neg q]
    refine RR_I ?_
    refine RR_eq (feedR (d := d + 38) t3 t1) ?_
    rw [if_neg q]
    exact RR_I ⟨rfl, Inv_0 h⟩
/-- what is needed of both after need or way -/
theorem Inv_u (h : Inv I J) (f1 : ufr K I) (hC : CS (I 211) (nmN J) K J) (f2 : vfr M K) (hR : RS (I 211) M) (hc : Cel M) : Inv M J := by
  obtain ⟨_, _, h3, ⟨m, o, h4⟩, h5⟩ := id h
  obtain ⟨_, ht, _, _, hg, ⟨_, _, c3⟩, hd, _⟩ := id h5
  have e211 : M 211 = I 211 := hR.2.1
  have ck : ∀ q k, q < 209 → M q k = K q k := fun q k z => f2 q k (by omega) (Or.inl (by omega))
  have fr : ∀ q k, ¬ (47 ≤ q ∧ q < 71) → q ≠ 6 → q ≠ 71 → ¬ (217 ≤ q ∧ q < 222) → (q ≠ 209 ∨ ¬ (k = 0 ∨ (26 ≤ k ∧ k ≤ 34) ∨ (39 ≤ k ∧ k ≤ 41))) → M q k = I q k := fun q k z1 z2 z3 z4 z5 => by rw [f2 q k z4 z5, f1 q k z1 (Or.inl z2) z3]
  unfold Inv
  rw [e211]
  refine ⟨CS_o (fun q k z1 z2 => ck q k (by omega)) (ck 6 3 (by omega)) hC, hR, h3, ⟨m, o, HM_c (fun k hk => fr _ _ (by omega) (by omega) (by omega) (by omega) (by omega)) (fr _ _ (by omega) (by omega) (by omega) (by omega) (by omega)) (funext fun k => fr _ _ (by omega) (by omega) (by omega) (by omega) (by omega)) (fun i k hi => fr _ _ (by omega) (by omega) (by omega) (by omega) (by omega)) h4⟩, Rest_m (fun q k z => fr _ _ (by unfold wI at z; omega) (by unfold wI at z; omega) (by unfold wI at z; omega) (by unfold wI at z; omega) (by unfold wI at z; omega)) (fun _ _ _ => rfl) (fun _ _ => rfl) rfl (fun _ _ => rfl) (wf_V8 hR.1.1) (Tape_c (fr _ _ (by omega) (by omega) (by omega) (by omega) (by omega)) (fr _ _ (by omega) (by omega) (by omega) (by omega) (by omega)) (funext fun k => fr _ _ (by omega) (by omega) (by omega) (by omega) (by omega)) (funext fun k => fr _ _ (by omega) (by omega) (by omega) (by omega) (by omega)) ht) (Tag_c (fr _ _ (by omega) (by omega) (by omega) (by omega) (by omega)) (fr _ _ (by omega) (by omega) (by omega) (by omega) (by omega)) (funext fun k => fr _ _ (by omega) (by omega) (by omega) (by omega) (by omega)) (funext fun k => fr _ _ (by omega) (by omega) (by omega) (by omega) (by omega)) hg) hc (Told_c (fr _ _ (by omega) (by omega) (by omega) (by omega) (by omega)) (funext fun k => fr _ _ (by omega) (by omega) (by omega) (by omega) (by omega)) (funext fun k => fr _ _ (by omega) (by omega) (by omega) (by omega) (by omega)) hd) h5⟩
theorem s_need (x y : Int32) : stp 131 231 [.int x, .int y] := by
  intro d e L I J h
  obtain ⟨hC, hR, _, _, _, _, _, _, _, ⟨c1, c2, c3⟩, _⟩ := id h
  refine RR_wI (c_need (d := d + 32) hC x y) (fun V K J' ⟨j1, hK, f1, k1, U, n1, k0⟩ => ?_)
  subst j1
  have g9 : ∀ q k, 209 ≤ q → K q k = I q k := fun q k z => f1 q k (by omega) (Or.inl (by omega)) (by omega)
  refine RR_wI (r_need (d := d + 31) (RS_cf g9 hR) x y) (fun V' M J'' ⟨j2, hM, f2, m1, U', n2, m0⟩ => ?_)
  subst j2
  obtain ⟨rfl, rfl⟩ := NR_u hC.1.1 n1 n2
  refine ⟨rfl, Inv_u h f1 hK f2 hM ⟨?_, ?_, ?_⟩⟩
  · rw [f2 71 0 (by omega) (Or.inl (by decide)), k0, m0, g9 209 40 (by omega), c1]
  · rw [f2 71 1 (by omega) (Or.inl (by decide)), k1, m1, g9 209 41 (by omega), c2]
  · rw [f2 0 16 (by omega) (Or.inl (by decide)), f1 0 16 (by omega) (Or.inl (by decide)) (by decide), f2 209 16 (by omega) (Or.inr (by omega)), g9 209 16 (by omega), c3]
theorem s_way (x : Int32) : stp 133 233 [.int x] := by
  intro d e L I J h
  obtain ⟨hC, hR, _, _, _, _, _, _, _, ⟨c1, c2, c3⟩, _⟩ := id h
  refine RR_wI (c_way (d := d + 31) hC x) (fun V K J' ⟨j1, hK, f1, k0, n1, k1⟩ => ?_)
  subst j1
  have g9 : ∀ q k, 209 ≤ q → K q k = I q k := fun q k z => f1 q k (by omega) (Or.inl (by omega)) (by omega)
  refine RR_wI (r_way (d := d + 31) (RS_cf g9 hR) x) (fun V' M J'' ⟨j2, hM, f2, m0, n2, m1⟩ => ?_)
  subst j2
  refine ⟨n1.trans n2.symm, Inv_u h f1 hK f2 hM ⟨?_, ?_, ?_⟩⟩
  · rw [f2 71 0 (by omega) (Or.inl (by decide)), k0, m0, g9 209 40 (by omega), c1]
  · rw [f2 71 1 (by omega) (Or.inl (by decide)), k1, m1, g9 209 41 (by omega), c2]
  · rw [f2 0 16 (by omega) (Or.inl (by decide)), f1 0 16 (by omega) (Or.inl (by decide)) (by decide), f2 209 16 (by omega) (Or.inr (by omega)), g9 209 16 (by omega), c3]
end ACS
