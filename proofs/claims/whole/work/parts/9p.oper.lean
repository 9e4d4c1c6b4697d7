/-! The beginning of an operand. -/
def SR (T : Nat → Int32) (n most V B : Nat) (P Q : List Cd) (X : List Nat) (on dp : Nat) (wh : Bool) (I : TI) (J : TJ) (M : TI) (N : TJ) : Prop := Par T n most I J M N ∧ Nm V B I J M N ∧ I 119 0 = n32 on ∧ M 209 50 = n32 on ∧ ClS P I ∧ RfS Q M ∧ Stk X M ∧ M 209 52 = n32 dp ∧ M 209 53 = bI wh
def senC (K I : TI) (J' J : TJ) : Prop := (∀ o, o ≠ 5 → ¬ (119 ≤ o ∧ o < 123) → K o = I o) ∧ ∀ o, o ≠ 5 → J' o = J o
def senR (M' M : TI) (N' N : TJ) : Prop := (∀ o, o ≠ 209 → o ≠ 213 → o ≠ 227 → M' o = M o) ∧ (∀ o, o ≠ 209 → N' o = N o) ∧ ∀ q, ¬ (q = 4 ∨ (12 ≤ q ∧ q ≤ 17) ∨ q = 19 ∨ (49 ≤ q ∧ q ≤ 53)) → M' 209 q = M 209 q
section OPR
variable {d d' f f' e L : Nat} {T : Nat → Int32} {I K K2 M M' M2 : TI} {J J' J2 N N' N2 : TJ} {P Q R : List Cd} {X Y : List Nat} {i j k m n a t dp on g most V B : Nat} {x y till : Int32} {w : Int64} {wh : Bool} {cf : xCF}
theorem senC_r : senC I I J J := ⟨fun _ _ _ => rfl, fun _ _ => rfl⟩
theorem senR_r : senR M M N N := ⟨fun _ _ _ _ => rfl, fun _ _ => rfl, fun _ _ => rfl⟩
theorem senC_t (h : senC K I J' J) (h' : senC K2 K J2 J') : senC K2 I J2 J := ⟨fun o z y => (h'.1 o z y).trans (h.1 o z y), fun o z => (h'.2 o z).trans (h.2 o z)⟩
theorem senR_t (h : senR M' M N' N) (h' : senR M2 M' N2 N') : senR M2 M N2 N := ⟨fun o z y w => (h'.1 o z y w).trans (h.1 o z y w), fun o z => (h'.2.1 o z).trans (h.2.1 o z), fun q z => (h'.2.2 q z).trans (h.2.2 q z)⟩
theorem fC_s (h : fC K I J' J) : senC K I J' J := ⟨fun o z _ => h.1 o z, h.2⟩
theorem fR_s (h : fR M' M N' N) : senR M' M N' N := ⟨fun o z _ _ => h.1 o z, h.2.1, fun q z => h.2.2 q (by omega)⟩
theorem pR_s (h : pR M' M) : senR M' M N N := ⟨h.1, fun _ _ => rfl, fun q z => h.2 q (by omega)⟩
theorem Nm_s (h : Nm V B I J M N) (hc : senC K I J' J) (hr : senR M' M N' N) : Nm V B K J' M' N' := by
  obtain ⟨h1, h2, h3, h4, h5, h6, h7, h8, h9⟩ := h
  unfold Nm
  rw [hc.1 7 (by omega) (by omega), hr.1 211 (by omega) (by omega) (by omega), hc.2 8 (by omega), hc.2 10 (by omega), hr.2.1 215 (by omega), hr.2.1 216 (by omega)]
  exact ⟨h1, h2, h3, h4, h5, h6, h7, h8, h9⟩
/-- tokens were taken, nothing else changed -/
theorem SR_f (h : SR T n most V B P Q X on dp wh I J M N) (hp : Par T n most K J' M' N') (hc : fC K I J' J) (hr : fR M' M N' N) : SR T n most V B P Q X on dp wh K J' M' N' := by
  obtain ⟨_, h2, h3, h4, h5, h6, h7, h8, h9⟩ := h
  refine ⟨hp, Nm_s h2 (fC_s hc) (fR_s hr), by rw [hc.1 119 (by omega), h3], by rw [hr.2.2 50 (by omega), h4], ClS_c (fun o z1 z2 => hc.1 o (by omega)) h5, RfS_c (hr.2.2 49 (by omega)) (hr.1 213 (by omega)) h6, Stk_c (hr.2.2 51 (by omega)) (hr.1 227 (by omega)) h7, by rw [hr.2.2 52 (by omega), h8], by rw [hr.2.2 53 (by omega), h9]⟩
theorem isW (hk : k < 21) (hx : w = xwd k) (h : Tok I J M N) : (if (M 209 12) = 1 then ((if (lg_cmp (N 209 18) w) = 0 then (1 : Int32) else 0) : Int32) else 0) = (if I 5 0 = n32 (64 + k) then 1 else 0) := by
  have := ((sX12_isWord 0 0 0 M N w).symm.trans (r_isWord (d := 0) (e := 0) (L := 0) hk hx h))
  have := (xst_i this).1
  injection this with this
  injection this with this
theorem r_leafOf (h : Tok I J M N) (hg : I 5 0 = n32 g) (h85 : g < 85) : xcall xprog (d + 2) 258 [.ref 209] (xst e L M N) = some (some (.int (if 75 ≤ g then n32 (g - 75) else -1)), xst e L M N) := by
  refine (sX12_leafOf d e L M N).trans ?_
  rw [isW (k := 11) (w := Int64.ofNat 1818583398) (by omega) (by decide) h, isW (k := 12) (w := Int64.ofNat 482905517684) (by omega) (by decide) h, isW (k := 13) (w := Int64.ofNat 1786082164) (by omega) (by decide) h, isW (k := 14) (w := Int64.ofNat 439855505772) (by omega) (by decide) h, isW (k := 15) (w := Int64.ofNat 109300197582190) (by omega) (by decide) h, isW (k := 16) (w := Int64.ofNat 504363246962) (by omega) (by decide) h, isW (k := 17) (w := Int64.ofNat 114784769370228) (by omega) (by decide) h, isW (k := 18) (w := Int64.ofNat 465558725996) (by omega) (by decide) h, isW (k := 19) (w := Int64.ofNat 1751475828) (by omega) (by decide) h, isW (k := 20) (w := Int64.ofNat 121450625394034) (by omega) (by decide) h, hg]
  by_cases z : 75 ≤ g
  · rw [if_pos z]
    have : g = 75 ∨ g = 76 ∨ g = 77 ∨ g = 78 ∨ g = 79 ∨ g = 80 ∨ g = 81 ∨ g = 82 ∨ g = 83 ∨ g = 84 := by omega
    rcases this with rfl | rfl | rfl | rfl | rfl | rfl | rfl | rfl | rfl | rfl <;> rfl
  · have nk : ∀ k, 11 ≤ k → k ≤ 20 → ¬ n32 g = n32 (64 + k) := fun k z1 z2 => lit_ne (by omega) (by omega) (by omega)
    rw [if_neg z, if_neg (nk 11 (by omega) (by omega)), if_pos i00, if_neg (nk 12 (by omega) (by omega)), if_pos i00, if_neg (nk 13 (by omega) (by omega)), if_pos i00, if_neg (nk 14 (by omega) (by omega)), if_pos i00, if_neg (nk 15 (by omega) (by omega)), if_pos i00, if_neg (nk 16 (by omega) (by omega)), if_pos i00, if_neg (nk 17 (by omega) (by omega)), if_pos i00, if_neg (nk 18 (by omega) (by omega)), if_pos i00, if_neg (nk 19 (by omega) (by omega)), if_pos i00, if_neg (nk 20 (by omega) (by omega)), if_pos i00]
theorem lk_op0 (h : SR T n most V B P P X on dp false I J M N) (hdp : dp ≤ 9) (hon : on ≤ 20) : (∃ K J' M' N' g, (g = 40 ∨ (74 ≤ g ∧ g ≤ 84)) ∧ xcall xprog (f + 4) 72 [.ref 119, .ref 5, .ref 7, .int (n32 dp)] (xst e L I J) = kX7_readOne_4_7 (xcall xprog (f + 3)) 119 5 7 (n32 dp) (n32 g) (xst e L K J') ∧ xcall xprog (f' + 4) 259 [.ref 209] (xst e L M N) = kX12_operand_3_7 (xcall xprog (f' + 3)) 209 (if g = 74 then 1 else 0) (if g = 40 then 1 else 0) (if 75 ≤ g then n32 (g - 75) else -1) (xst e L M' N') ∧ SR T n most V B P P X (on + 1) dp false K J' M' N' ∧ on < 20 ∧ dp ≤ 8 ∧ senC K I J' J ∧ senR M' M N' N) ∨ ∃ K J' M' N', xcall xprog (f + 4) 72 [.ref 119, .ref 5, .ref 7, .int (n32 dp)] (xst e L I J) = some (some (.int 0), xst e L K J') ∧ xcall xprog (f' + 4) 259 [.ref 209] (xst e L M N) = some (some (.int 0), xst e L M' N') ∧ Flt K M' ∧ senC K I J' J ∧ senR M' M N' N := by
  obtain ⟨h1, h2, h3, h4, h5, h6, h7, h8, h9⟩ := id h
  obtain ⟨g, hg, eg⟩ := tok_k h1.2.1
  have e40 : (n32 g = 40) = (g = 40) := n32_eqE (b := 40) (by omega) (by omega)
  have e74 : (n32 g < 74) = (g < 74) := n32_ltE (b := 74) (by omega) (by omega)
  have e84 : (n32 g ≤ 84) = (g ≤ 84) := n32_leE (b := 84) (by omega) (by omega)
  have w74 : (if n32 g = n32 (64 + 10) then (1 : Int32) else 0) = (if g = 74 then 1 else 0) := by
    by_cases z : g = 74
    · rw [if_pos z, if_pos (by rw [z])]
    · rw [if_neg z, if_neg (lit_ne (by omega) (by omega) (by omega))]
  have w40 : (if n32 g = n32 40 then (1 : Int32) else 0) = (if g = 40 then 1 else 0) := by
    by_cases z : g = 40
    · rw [if_pos z, if_pos (by rw [z])]
    · rw [if_neg z, if_neg (lit_ne (by omega) (by omega) (by omega))]
  have ro : xcall xprog (f' + 4) 259 [.ref 209] (xst e L M N) = kX12_operand_0_9 (xcall xprog (f' + 3)) 209 (if g = 74 then 1 else 0) (if g = 40 then 1 else 0) (if 75 ≤ g then n32 (g - 75) else -1) (xst e L M N) := by
    rw [aX12_operand, bX12_operand_0, r_isWord (k := 10) (by omega) (show Int64.ofNat 7237492 = xwd 10 by decide) h1.2.1, xcI_some, ekX12_operand_0_2, r_isSign (g := 40) (by omega) (show (40 : Int32) = n32 40 from rfl) h1.2.1, xcI_some, ekX12_operand_0_6, r_leafOf (d := f' + 1) h1.2.1 eg hg, xcI_some, eg, w74, w40]
  have co : xcall xprog (f + 4) 72 [.ref 119, .ref 5, .ref 7, .int (n32 dp)] (xst e L I J) = if g = 40 ∨ 74 ≤ g then xlim (xcall xprog (f + 3)) mX7_readOne 2 [.ref 119, .ref 5, .ref 7, .int (n32 dp), .int (n32 g), xD] [] (xst e L I J) else xlim (xcall xprog (f + 3)) mX7_readOne 1 [xD, .ref 5, xD, xD, xD, xD] [] (xst e L I J) := by
    rw [aX7_readOne, bX7_readOne_0, eg]
    simp only [e40, e74, e84]
    by_cases z : g = 40
    · rw [if_pos z, if_pos (Or.inl z)]
    · rw [if_neg z]
      by_cases y : g < 74
      · rw [if_pos y, if_neg (by omega)]
      · rw [if_neg y, if_pos (show g ≤ 84 by omega), if_pos (by omega)]
  rw [ro, co, ekX12_operand_0_9]
  by_cases st : g = 40 ∨ 74 ≤ g
  rotate_left
  · obtain ⟨K, M', r1, r2, r3, r4, r5⟩ := lk_ref (d := f + 2) (d' := f' + 2) (e := e) (L := L) 1 h1
    refine Or.inr ⟨K, J, M', N, ?_, ?_, r3, fC_s r4, fR_s r5⟩
    · rw [if_neg st, bX7_readOne_1, r1, xcI_some, ekX7_readOne_1_2, xrZ0]
    · rw [if_neg (show ¬ g = 74 by omega), if_neg (show ¬ g = 40 by omega), if_pos i00, if_pos i00, if_neg (show ¬ 75 ≤ g by omega), if_pos im10, r2, xcI_some, ekX12_operand_0_19, xrZ0]
  have go1 : ∀ A B : Option xOut, (if (if g = 74 then (1 : Int32) else 0) = 0 then (if (if g = 40 then (1 : Int32) else 0) = 0 then (if (if 75 ≤ g then n32 (g - 75) else -1) < 0 then A else B) else B) else B) = B := fun A B => by
    by_cases z : g = 74
    · rw [if_pos z, if_neg i10]
    · rw [if_neg z, if_pos i00]
      by_cases y : g = 40
      · rw [if_pos y, if_neg i10]
      · rw [if_neg y, if_pos i00, if_pos (show 75 ≤ g by omega), if_neg (n32_neg (by omega))]
  rw [go1, if_pos st, bX7_readOne_2, h3, bX12_operand_1, h4, h8]
  by_cases c1 : on < 20 ∧ dp ≤ 8
  rotate_left
  · obtain ⟨K, M', r1, r2, r3, r4, r5⟩ := lk_ref (d := f + 2) (d' := f' + 2) (e := e) (L := L) 4 h1
    refine Or.inr ⟨K, J, M', N, ?_, ?_, r3, fC_s r4, fR_s r5⟩
    · have t : xlim (xcall xprog (f + 3)) mX7_readOne 3 [xD, .ref 5, xD, xD, xD, xD] [] (xst e L I J) = some (some (.int 0), xst e L K J) := by rw [bX7_readOne_3, r1, xcI_some, ekX7_readOne_3_2, xrZ0]
      by_cases z : on < 20
      · rw [if_pos ((q20l (by omega)).mpr z), if_neg (fun y => c1 ⟨z, (q8r (by omega)).mp y⟩), t]
      · rw [if_neg (fun y => z ((q20l (by omega)).mp y)), t]
    · have t : xlim (xcall xprog (f' + 3)) mX12_operand 2 [.ref 209, xD, xD, xD, xD] [] (xst e L M N) = some (some (.int 0), xst e L M' N) := by rw [bX12_operand_2, r2, xcI_some, ekX12_operand_2_2, xrZ0]
      by_cases z : on = 20
      · rw [if_pos (show n32 on = 20 by rw [z]; rfl), t]
      · rw [if_neg (show ¬ n32 on = 20 from lit_ne (b := 20) (by omega) (by omega) z), if_neg (fun y => c1 ⟨by omega, (q8r (by omega)).mp y⟩), t]
  have hK : ∀ o, o ≠ 119 → (xu I 119 0 (n32 (on + 1))) o = I o := fun o z => xu_rne z
  have hM : ∀ o, o ≠ 209 → (xu M 209 50 (n32 (on + 1))) o = M o := fun o z => xu_rne z
  have hM9 : ∀ q, q ≠ 50 → (xu M 209 50 (n32 (on + 1))) 209 q = M 209 q := fun q z => xu_kne z
  have h1' : Par T n most (xu I 119 0 (n32 (on + 1))) J (xu M 209 50 (n32 (on + 1))) N := Par_c (fun o z => hK o (by omega)) rfl (fun q z => hM9 q (by omega)) (hM 210 (by omega)) rfl h1
  have s1 : senC (xu I 119 0 (n32 (on + 1))) I J J := ⟨fun o z1 z2 => hK o (by omega), fun _ _ => rfl⟩
  have s2 : senR (xu M 209 50 (n32 (on + 1))) M N N := ⟨fun o z1 z2 z3 => hM o z1, fun _ _ => rfl, fun q z => hM9 q (by omega)⟩
  have h' : SR T n most V B P P X (on + 1) dp false (xu I 119 0 (n32 (on + 1))) J (xu M 209 50 (n32 (on + 1))) N := ⟨h1', Nm_s h2 s1 s2, xu_ee, xu_ee, ⟨by rw [xu_kne (by decide)]; exact h5.1, by rw [hK 120 (by omega), hK 121 (by omega), hK 122 (by omega)]; exact h5.2⟩, RfS_c (hM9 49 (by omega)) (hM 213 (by omega)) h6, Stk_c (hM9 51 (by omega)) (hM 227 (by omega)) h7, by rw [hM9 52 (by omega), h8], by rw [hM9 53 (by omega), h9]⟩
  obtain ⟨K, J', M', N', a1, a2, a3, a4, a5, _⟩ := lk_adv (d := f + 1) (d' := f' + 1) (e := e) (L := L) h1'
  refine Or.inl ⟨K, J', M', N', g, by omega, ?_, ?_, SR_f h' a3 a4 a5, c1.1, c1.2, senC_t s1 (fC_s a4), senR_t s2 (fR_s a5)⟩
  · rw [if_pos ((q20l (by omega)).mpr c1.1), if_pos ((q8r (by omega)).mpr c1.2), bX7_readOne_4, h3, n32_succ, a1, xcV_some]
  · rw [if_neg (show ¬ n32 on = 20 from lit_ne (b := 20) (by omega) (by omega) (by omega)), if_pos ((q8r (by omega)).mpr c1.2), bX12_operand_3, h4, n32_succ, a2, xcV_some]
end OPR
