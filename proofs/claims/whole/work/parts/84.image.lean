/-! The calls image and restore on both sides. -/
section IMI
variable {d e L : Nat} {S S' X Y : TS} {N N' : Nat → Int64} {I K M : TI} {J J' J2 : TJ} {a b c s t u v k i n r m o q : Nat}
theorem RS_cq (h211 : K 211 = I 211) (f : ∀ o k, 217 ≤ o → o < 222 → K o k = I o k) (h9 : ∀ k, 26 ≤ k → k ≤ 34 → K 209 k = I 209 k) (h : RS S I) : RS S K := ⟨h.1, h211.trans h.2.1, fun q => Rf_c f (fun k z1 z2 => h9 k z1 (by omega)) (h.2.2 (by rw [← h9 34 (by omega) (by omega)]; exact q))⟩
theorem image_inv (h : Inv I J) (hk : k < 2) (hcp : CpS (126 + 41 * k) 7 K I J' J) (m1 : ∀ o, o ≠ 229 → o ≠ 231 → o ≠ 209 → M o = (xu K 207 k 1) o) (m2 : ∀ i, i ≠ 0 → M 209 i = (xu K 207 k 1) 209 i) (m3 : ∀ i, i < 360 → M 229 (360 * k + i) = (xu K 207 k 1) 211 i) (m4 : ∀ i, ¬ (360 * k ≤ i ∧ i < 360 * k + 360) → M 229 i = (xu K 207 k 1) 229 i) (m5 : M 231 k = 1) (m6 : ∀ i, i ≠ k → M 231 i = (xu K 207 k 1) 231 i) (j1 : ∀ o, o ≠ 230 → J2 o = J' o) (j2 : ∀ i, i < 28 → J2 230 (28 * k + i) = J' 215 i) (j3 : ∀ i, ¬ (28 * k ≤ i ∧ i < 28 * k + 28) → J2 230 i = J' 230 i) : Inv M J2 := by
  obtain ⟨hC, hR, hNZ, ⟨m, o, hH⟩, hNB, ht, hse, him, hg, ⟨c1, c2, c3⟩, hd, h216⟩ := id h
  obtain ⟨q1, q2, q3, q4, q5⟩ := hcp
  -- what has not changed
  have f1 : ∀ o i, o ≠ 229 → o ≠ 231 → (o ≠ 209 ∨ i ≠ 0) → o ≠ 207 → ¬ (125 ≤ o ∧ o < 206) → M o i = I o i := fun o i z1 z2 z3 z4 z5 => by
    have e1 : M o i = (xu K 207 k 1) o i := by
      by_cases z : o = 209
      · subst z
        exact m2 i (by omega)
      · rw [m1 o z1 z2 z]
    rw [e1, xu_rne z4, q4 o i (by omega) (by omega)]
  have f2 : ∀ o i, 126 + 41 * k ≤ o → o < 165 + 41 * k → M o i = K o i := fun o i z1 z2 => by rw [m1 o (by omega) (by omega) (by omega), xu_rne (by omega)]
  have g1 : ∀ o i, o ≠ 230 → ¬ (126 ≤ o ∧ o < 206) → J2 o i = J o i := fun o i z1 z2 => by rw [j1 o z1, q5 o (by omega)]
  have e211 : M 211 = I 211 := funext fun i => f1 211 i (by omega) (by omega) (by omega) (by omega) (by omega)
  have eN1 : nmN J2 = nmN J := funext fun i => by unfold nmN; rw [g1 215 i (by omega) (by omega)]
  have hw := hC.1
  unfold Inv
  rw [e211, eN1]
  refine ⟨CS_g (fun o i z1 z2 z3 => f1 o i (by omega) (by omega) (by omega) (by omega) (by omega)) (fun o i z1 z2 => g1 o i (by omega) (by omega)) hC, RS_cq e211 (fun o i z1 z2 => f1 o i (by omega) (by omega) (by omega) (by omega) (by omega)) (fun i z1 z2 => f1 209 i (by omega) (by omega) (by omega) (by omega) (by omega)) hR, hNZ, ⟨m, o, HM_c (I := I) (fun i hi => f1 79 i (by omega) (by omega) (by omega) (by omega) (by omega)) (f1 209 38 (by omega) (by omega) (by omega) (by omega) (by omega)) (funext fun i => f1 222 i (by omega) (by omega) (by omega) (by omega) (by omega)) (fun i j hi => f1 _ j (by omega) (by omega) (by omega) (by omega) (by omega)) hH⟩, hNB, Tape_c (f1 _ _ (by omega) (by omega) (by omega) (by omega) (by omega)) (f1 _ _ (by omega) (by omega) (by omega) (by omega) (by omega)) (funext fun i => f1 _ _ (by omega) (by omega) (by omega) (by omega) (by omega)) (funext fun i => f1 _ _ (by omega) (by omega) (by omega) (by omega) (by omega)) ht, Se_c (fun _ _ => rfl) (fun o i z1 z2 => f1 o i (by omega) (by omega) (by omega) (by omega) (by omega)) hse, fun r hr => ?_, Tag_c (f1 _ _ (by omega) (by omega) (by omega) (by omega) (by omega)) (f1 _ _ (by omega) (by omega) (by omega) (by omega) (by omega)) (funext fun i => f1 _ _ (by omega) (by omega) (by omega) (by omega) (by omega)) (funext fun i => f1 _ _ (by omega) (by omega) (by omega) (by omega) (by omega)) hg, ⟨?_, ?_, ?_⟩, Told_c (f1 _ _ (by omega) (by omega) (by omega) (by omega) (by omega)) (funext fun i => f1 _ _ (by omega) (by omega) (by omega) (by omega) (by omega)) (funext fun i => f1 _ _ (by omega) (by omega) (by omega) (by omega) (by omega)) hd, fun i hi => by rw [g1 216 i (by omega) (by omega), h216 i hi]⟩
  · by_cases z : r = k
    · subst z
      have k207 : M 207 r = 1 := by rw [m1 207 (by omega) (by omega) (by omega), xu_ee]
      refine ⟨k207.trans m5.symm, fun _ => Im_of hw hNZ hNB ?_ ?_ ?_ (fun i hi => ?_) (fun i hi => ?_)⟩
      · exact Tr_J (fun o i z1 z2 => f2 o i (by omega) (by omega)) (fun o i z1 z2 => by rw [j1 o (by omega)]) hw.1 (q1 _ _ hw hC.2.1)
      · have := q2 _ hw hC.2.2.1
        rw [show 126 + 41 * r + 30 = 156 + 41 * r by omega] at this
        exact Ac_c (fun o i z1 z2 => f2 o i (by omega) (by omega)) this
      · have := q3 _ hse
        rw [show 126 + 41 * r + 35 = 161 + 41 * r by omega] at this
        exact Se_c (fun _ _ => rfl) (fun o i z1 z2 => f2 o i (by omega) (by omega)) this
      · show I 211 i = M 229 (360 * r + i)
        rw [m3 i hi, xu_rne (by decide), q4 211 i (by omega) (by omega)]
      · show nmN J i = J2 230 (28 * r + i)
        rw [j2 i hi, q5 215 (by omega)]
        exact if_pos hi
    · have k207 : M 207 r = I 207 r := by rw [m1 207 (by omega) (by omega) (by omega), xu_kne z, q4 207 r (by omega) (by omega)]
      have k231 : M 231 r = I 231 r := by rw [m6 r z, xu_rne (by decide), q4 231 r (by omega) (by omega)]
      rw [k207, k231]
      refine ⟨(him r hr).1, fun y => Im_k (fun o i z1 => ?_) (fun o i z1 => ?_) (fun i hi => ?_) (fun i hi => ?_) ((him r hr).2 y)⟩
      · rw [m1 o (by omega) (by omega) (by omega), xu_rne (by omega), q4 o i (by omega) (by omega)]
      · rw [j1 o (by omega), q5 o (by omega)]
      · show I 229 (360 * r + i) = M 229 (360 * r + i)
        rw [m4 _ (by omega), xu_rne (by decide), q4 229 _ (by omega) (by omega)]
      · show J 230 (28 * r + i) = J2 230 (28 * r + i)
        rw [j3 _ (by omega), q5 230 (by omega)]
  · rw [f1 71 0 (by omega) (by omega) (by omega) (by omega) (by omega), f1 209 40 (by omega) (by omega) (by omega) (by omega) (by omega), c1]
  · rw [f1 71 1 (by omega) (by omega) (by omega) (by omega) (by omega), f1 209 41 (by omega) (by omega) (by omega) (by omega) (by omega), c2]
  · rw [f1 0 16 (by omega) (by omega) (by omega) (by omega) (by omega), f1 209 16 (by omega) (by omega) (by omega) (by omega) (by omega), c3]
theorem restore_inv (h : Inv I J) (hk : k < 2) (hz : I 207 k ≠ 0) (hcp : CpS 7 (126 + 41 * k) K I J' J) (h6 : K 6 3 = 1) (m1 : ∀ o, o ≠ 211 → o ≠ 209 → M o = (xu K 79 2 0) o) (m2 : ∀ i, i ≠ 0 → i ≠ 38 → i ≠ 34 → M 209 i = (xu K 79 2 0) 209 i) (m3 : ∀ i, i < 360 → M 211 i = (xu K 79 2 0) 229 (360 * k + i)) (m4 : M 209 38 = 0) (m5 : M 209 34 = 0) (j1 : ∀ o, o ≠ 215 → J2 o = J' o) (j2 : ∀ i, i < 28 → J2 215 i = J' 230 (28 * k + i)) : Inv M J2 := by
  obtain ⟨hC, hR, hNZ, ⟨m, o, hH⟩, hNB, ht, hse, him, hg, ⟨c1, c2, c3⟩, hd, h216⟩ := id h
  obtain ⟨q1, q2, q3, q4, q5⟩ := hcp
  obtain ⟨w, nz, nb, tr, ac, se⟩ := (him k hk).2 hz
  have f1 : ∀ o i, o ≠ 211 → (o ≠ 209 ∨ ¬ (i = 0 ∨ i = 38 ∨ i = 34)) → (o ≠ 79 ∨ i ≠ 2) → ¬ (6 ≤ o ∧ o < 46) → M o i = I o i := fun o i z1 z2 z3 z4 => by
    have e1 : M o i = (xu K 79 2 0) o i := by
      by_cases z : o = 209
      · subst z
        exact m2 i (by omega) (by omega) (by omega)
      · rw [m1 o z1 z]
    rw [e1]
    by_cases z : o = 79
    · subst z
      rw [xu_kne (by omega), q4 79 i (by omega) (by omega)]
    · rw [xu_rne z, q4 o i (by omega) (by omega)]
  have f2 : ∀ o i, 6 ≤ o → o < 46 → M o i = K o i := fun o i z1 z2 => by rw [m1 o (by omega) (by omega), xu_rne (by omega)]
  have g1 : ∀ o i, o ≠ 215 → ¬ (7 < o ∧ o ≤ 10) → J2 o i = J o i := fun o i z1 z2 => by rw [j1 o z1, q5 o (by omega)]
  have hS : eS (imS I k) (M 211) := fun i hi => by
    show I 229 (360 * k + i) = M 211 i
    rw [m3 i hi, xu_rne (by decide), q4 229 _ (by omega) (by omega)]
  have hN : eN (imN J k) (nmN J2) := fun i hi => by
    have : nmN J2 i = J2 215 i := if_pos hi
    show J 230 (28 * k + i) = nmN J2 i
    rw [this, j2 i hi, q5 230 (by omega)]
  have hW := WS_224 (eS_224 hS) w
  have hA : Ac 37 (imS I k) M := by
    have a1 : Ac (126 + 41 * k + 30) (imS I k) I := by
      rw [show 126 + 41 * k + 30 = 156 + 41 * k by omega]
      exact ac
    exact Ac_c (fun o i z1 z2 => f2 o i (by omega) (by omega)) (q2 _ w a1)
  have hE : Se 42 (imS I k) M := by
    have a1 : Se (126 + 41 * k + 35) (imS I k) I := by
      rw [show 126 + 41 * k + 35 = 161 + 41 * k by omega]
      exact se
    exact Se_c (fun _ _ => rfl) (fun o i z1 z2 => f2 o i (by omega) (by omega)) (q3 _ a1)
  refine ⟨⟨hW, Tr_e hS hN w (Tr_J (fun o i z1 z2 => f2 o i (by omega) (by omega)) (fun o i z1 z2 => by rw [j1 o (by omega)]) w.1 (q1 _ _ w tr)), Ac_e hS w hA, fun z => absurd z (by rw [f2 6 3 (by omega) (by omega), h6]; decide)⟩, RS_new hW rfl m5, NZ_e hS hN nz, ⟨0, o, by omega, hH.2.1, ?_, ?_, m4, fun j hj => absurd hj (Nat.not_lt_zero j), fun j hj => absurd hj (Nat.not_lt_zero _), fun z => absurd z (Nat.lt_irrefl 0)⟩, NB_e hS hN (wf_V8 w.1) nb, Tape_c (f1 _ _ (by omega) (by omega) (by omega) (by omega)) (f1 _ _ (by omega) (by omega) (by omega) (by omega)) (funext fun i => f1 _ _ (by omega) (by omega) (by omega) (by omega)) (funext fun i => f1 _ _ (by omega) (by omega) (by omega) (by omega)) ht, Se_e hS hE, fun r hr => ?_, Tag_c (f1 _ _ (by omega) (by omega) (by omega) (by omega)) (f1 _ _ (by omega) (by omega) (by omega) (by omega)) (funext fun i => f1 _ _ (by omega) (by omega) (by omega) (by omega)) (funext fun i => f1 _ _ (by omega) (by omega) (by omega) (by omega)) hg, ⟨?_, ?_, ?_⟩, Told_c (f1 _ _ (by omega) (by omega) (by omega) (by omega)) (funext fun i => f1 _ _ (by omega) (by omega) (by omega) (by omega)) (funext fun i => f1 _ _ (by omega) (by omega) (by omega) (by omega)) hd, fun i hi => by rw [g1 216 i (by omega) (by omega), h216 i hi]⟩
  · rw [m1 79 (by omega) (by omega), xu_ee]
    rfl
  · rw [f1 79 1 (by omega) (by omega) (by omega) (by omega)]
    exact hH.2.2.2.1
  · rw [f1 207 r (by omega) (by omega) (by omega) (by omega), f1 231 r (by omega) (by omega) (by omega) (by omega)]
    refine ⟨(him r hr).1, fun y => Im_k (fun o i z1 => f1 o i (by omega) (by omega) (by omega) (by omega)) (fun o i z1 => g1 o i (by omega) (by omega)) (fun i hi => ?_) (fun i hi => ?_) ((him r hr).2 y)⟩
    · exact (f1 229 _ (by omega) (by omega) (by omega) (by omega)).symm
    · exact (g1 230 _ (by omega) (by omega)).symm
  · rw [f1 71 0 (by omega) (by omega) (by omega) (by omega), f1 209 40 (by omega) (by omega) (by omega) (by omega), c1]
  · rw [f1 71 1 (by omega) (by omega) (by omega) (by omega), f1 209 41 (by omega) (by omega) (by omega) (by omega), c2]
  · rw [f1 0 16 (by omega) (by omega) (by omega) (by omega), f1 209 16 (by omega) (by omega) (by omega) (by omega), c3]
theorem xaR_124_0 {c : Nat → Option xOut} : xaR (xst e L I J) 124 (n32 0) c = c 125 := rfl
theorem xaR_124_1 {c : Nat → Option xOut} : xaR (xst e L I J) 124 (n32 1) c = c 166 := rfl
theorem xis_125 : xis (xst e L I J).1 8 125 = true := rfl
theorem xis_166 : xis (xst e L I J).1 8 166 = true := rfl
theorem isIn_n {x : Int32} (h : x < 0 ∨ ¬ x < n32 2) : xcall xprog (d + 1) 161 [.int x, .int 0, .int 1] (xst e L I J) = some (some (.int 0), xst e L I J) := by
  rw [sX12_isIn]
  rcases h with q | q
  · rw [if_pos q]
  · have : ¬ x ≤ 1 := fun z => q (by
      rw [Int32.le_iff_toInt_le] at z
      rw [Int32.lt_iff_toInt_lt]
      have h1 : (1 : Int32).toInt = 1 := by decide
      have h2 : (n32 2).toInt = 2 := by decide
      omega)
    rw [if_neg this, ite_self]
theorem s_image (x : Int32) : stp 147 266 [.int x] := by
  intro d e L I J h
  rcases inr_or x 2 (by omega) with ⟨k, hk, rfl⟩ | hx
  rotate_left
  · have a1 : xcall xprog (d + 40) 147 [.ref 0, .int x] (xst e L I J) = some (some (.int 0), xst e L I J) := by
      rw [aX11_image, bX11_image_0]
      by_cases q : x < 0
      · rw [if_pos q, bX11_image_1]
      · rw [if_neg q]
        refine (if_neg (fun z => ?_)).trans (bX11_image_1 _ _ _ _ _)
        rcases hx with w | w
        · exact q w
        · exact w z
    refine RR_eq a1 (RR_I ?_)
    refine RR_eq ((aX12_image _ e L I J _).trans (bX12_image_0 _ e L I J _)) ?_
    rw [isIn_n (d := d + 38) hx, xcI_some, ekX12_image_0_6, if_pos rfl]
    exact RR_I ⟨rfl, Inv_0 h⟩
  have z1 : ¬ n32 k < 0 := fun h => absurd ((n32_lt (b := 0) (by omega) (by omega)).mp h) (by omega)
  have z2 : n32 k < 2 := (n32_lt (b := 2) (by omega) (by omega)).mpr hk
  refine RR_eq ((aX11_image _ e L I J _).trans (bX11_image_0 _ e L I J _)) ?_
  rw [if_neg z1, if_pos z2, bX11_image_2]
  have fin : ∀ K J', CpS (126 + 41 * k) 7 K I J' J → RR (kX11_image_2_6 (xcall xprog (d + 39)) 0 (n32 k) (xst e L K J')) (zI e L fun x K J' => RR (xcall xprog (d + 40) 266 [.ref 209, .int (n32 k)] (xst e L K J')) (zI e L fun y M J'' => x = y ∧ Inv M J'')) := by
    intro K J' hcp
    rw [ekX11_image_2_6, xin_n32 (by omega) hk, Bool.and_true, cond_true, n32_nat (by omega)]
    refine RR_I ?_
    refine RR_wI (r_image (d := d + 38) hk) (fun y M J2 ⟨y1, ⟨m1, m2, m3, m4, m5, m6⟩, j1, j2, j3⟩ => ?_)
    exact ⟨y1.symm, image_inv h hk hcp m1 m2 m3 m4 m5 m6 j1 j2 j3⟩
  have : k = 0 ∨ k = 1 := by omega
  rcases this with rfl | rfl
  · rw [xaR_124_0, xis_125, cond_true]
    exact RR_cV (c_cpS_125_6 (d := d + 37)) (fun K J' ⟨h1, _⟩ => fin K J' h1)
  · rw [xaR_124_1, xis_166, cond_true]
    exact RR_cV (c_cpS_166_6 (d := d + 37)) (fun K J' ⟨h1, _⟩ => fin K J' h1)
theorem s_restore (x : Int32) : stp 148 267 [.int x] := by
  intro d e L I J h
  rcases inr_or x 2 (by omega) with ⟨k, hk, rfl⟩ | hx
  rotate_left
  · have a1 : xcall xprog (d + 40) 148 [.ref 0, .int x] (xst e L I J) = some (some (.int 0), xst e L I J) := by
      rw [aX11_restore, bX11_restore_0]
      by_cases q : x < 0
      · rw [if_pos q, bX11_restore_1]
      · rw [if_neg q]
        refine (if_neg (fun z => ?_)).trans (bX11_restore_1 _ _ _ _ _)
        rcases hx with w | w
        · exact q w
        · exact w z
    refine RR_eq a1 (RR_I ?_)
    refine RR_eq ((aX12_restore _ e L I J _).trans (bX12_restore_0 _ e L I J _)) ?_
    rw [isIn_n (d := d + 38) hx, xcI_some, ekX12_restore_0_6, if_pos rfl, bX12_restore_1]
    exact RR_I ⟨rfl, Inv_0 h⟩
  have z1 : ¬ n32 k < 0 := fun h => absurd ((n32_lt (b := 0) (by omega) (by omega)).mp h) (by omega)
  have z2 : n32 k < 2 := (n32_lt (b := 2) (by omega) (by omega)).mpr hk
  have z3 : n32 k ≤ 1 := (n32_le (b := 1) (by omega) (by omega)).mpr (by omega)
  have h231 : I 207 k = I 231 k := (h.2.2.2.2.2.2.2.1 k hk).1
  refine RR_eq ((aX11_restore _ e L I J _).trans (bX11_restore_0 _ e L I J _)) ?_
  rw [if_neg z1, if_pos z2, xin_n32 (n := 2) (by omega) hk, Bool.or_true, cond_true, n32_nat (by omega)]
  by_cases hz : I 207 k = 0
  · rw [if_pos hz, bX11_restore_1]
    refine RR_I ?_
    refine RR_eq ((aX12_restore _ e L I J _).trans (bX12_restore_0 _ e L I J _)) ?_
    have h0 : ∀ d K, xcall xprog (d + 1) 161 [.int (n32 k), .int 0, .int 1] (xst e L K J) = some (some (.int 1), xst e L K J) := fun d K => by rw [sX12_isIn, if_neg z1, if_pos z3]
    have hz' : (xu I 209 0 0) 231 k = 0 := by rw [xu_rne (by decide), ← h231]; exact hz
    rw [h0 (d + 38), xcI_some, ekX12_restore_0_6, if_neg (by decide : ¬ (1 : Int32) = 0), xin_n32 (n := 2) (by omega) hk, Bool.or_true, cond_true, n32_nat (by omega), if_pos hz', bX12_restore_1]
    exact RR_I ⟨rfl, Inv_0 h⟩
  rw [if_neg hz, bX11_restore_2]
  have fin : ∀ K J', CpS 7 (126 + 41 * k) K I J' J → K 6 3 = 1 → RR (kX11_restore_2_6 (xcall xprog (d + 39)) 0 (xst e L K J')) (zI e L fun x K J' => RR (xcall xprog (d + 40) 267 [.ref 209, .int (n32 k)] (xst e L K J')) (zI e L fun y M J'' => x = y ∧ Inv M J'')) := by
    intro K J' hcp h6
    rw [ekX11_restore_2_6]
    have ef : xcall xprog (d + 38 + 1) 58 [.ref 79] (xst e L K J') = some (none, xst e L (xu K 79 2 0) J') := (aX5_forget _ e L K J').trans (bX5_forget_0 _ e L K J')
    rw [ef, xcV_some, ekX11_restore_2_9]
    refine RR_I ?_
    have hz2 : (xu K 79 2 0) 231 k ≠ 0 := by rw [xu_rne (by decide), hcp.2.2.2.1 231 k (by omega) (by omega), ← h231]; exact hz
    refine RR_wI (r_restore (d := d + 38) hk hz2) (fun y M J2 ⟨y1, ⟨m1, m2, m3, m4, m5⟩, j1, j2⟩ => ?_)
    exact ⟨y1.symm, restore_inv h hk hz hcp h6 m1 m2 m3 m4 m5 j1 j2⟩
  have : k = 0 ∨ k = 1 := by omega
  rcases this with rfl | rfl
  · rw [xaR_124_0]
    exact RR_cV (c_cpS_6_125 (d := d + 37)) (fun K J' ⟨h1, h2⟩ => fin K J' h1 h2)
  · rw [xaR_124_1]
    exact RR_cV (c_cpS_6_166 (d := d + 37)) (fun K J' ⟨h1, h2⟩ => fin K J' h1 h2)
end IMI
