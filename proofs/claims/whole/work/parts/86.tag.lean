/-! The call tag on both sides. -/
def tgL (w s t : Nat) : List Nat := nmB w 7 ++ [32, 102, 114, 111, 109, 32] ++ dgs s ++ [32, 116, 111, 32] ++ dgs t
section TAB
variable {d e L : Nat} {S S' X Y : TS} {N N' : Nat → Int64} {I K M : TI} {J J' J2 : TJ} {a b c s t u v k i n r m o q w j : Nat} {l l' : List Nat}
theorem dgs_len : (dgs n).length ≤ 2 := by
  unfold dgs
  rw [List.length_append, List.length_singleton]
  split
  · rw [List.length_nil]; omega
  · rw [List.length_singleton]; omega
theorem tx_from : xcall xprog (d + 2) 10 [.ref 3, .ref 1000002] (xst e L I J) = xputs (xcall xprog (d + 1)) 7 3 ([32, 102, 114, 111, 109, 32].map n32) (xst e L I J) := rfl
theorem tx_to : xcall xprog (d + 2) 10 [.ref 3, .ref 1000003] (xst e L I J) = xputs (xcall xprog (d + 1)) 7 3 ([32, 116, 111, 32].map n32) (xst e L I J) := rfl
theorem c_tag (hC : CS S N I J) (hi : i < sK S) (hw : w < 72057594037927936) (hn : N (vo S i) = Int64.ofNat w) : ∃ K, xcall xprog (d + 4) 139 [.ref 0, .int (n32 i)] (xst e L I J) = some (some (.int (n32 (tgL w (so S i) (ta S i)).length)), xst e L K J) ∧ CT (tgL w (so S i) (ta S i)) K ∧ cgf K I := by
  have h8 := wf_V8 hC.1.1
  have h20 := wf_B hC.1.1
  have hk := hC.1.2.1
  have h48 := hk.1
  obtain ⟨a1, a2, a3, a4, a5, a6, _⟩ := hk.2.2 i hi
  have hA := hC.2.2.1
  have e38 : I 38 i = n32 (vo S i) := (hA.2.1 i hi).1.trans a1
  have e39 : I 39 i = n32 (so S i) := (hA.2.1 i hi).2.1.trans a3
  have e40 : I 40 i = n32 (ta S i) := (hA.2.1 i hi).2.2.trans a5
  have eJ : J 8 (vo S i) = Int64.ofNat w := (hC.2.1.2.2.2.1 _ a2).1.trans hn
  have h0 : CT [] (xu I 3 1 0) := ⟨by rw [xu_ee]; rfl, fun j hj => absurd hj (Nat.not_lt_zero j)⟩
  have hl1 := nmB_len (w := w) (j := 7)
  have hl2 := dgs_len (n := so S i)
  obtain ⟨K1, k1, c1, f1⟩ := c_putName (d := d + 1) (e := e) (L := L) (J := J) hw h0 (by decide)
  rw [List.nil_append] at c1
  obtain ⟨K2, k2, c2, f2⟩ := c_putsL (d := d + 1) (e := e) (L := L) (J := J) [32, 102, 114, 111, 109, 32] _ _ c1 (by decide) (by rw [show [32, 102, 114, 111, 109, 32].length = 6 from rfl]; omega)
  have l2 : (nmB w 7 ++ [32, 102, 114, 111, 109, 32]).length ≤ 13 := by rw [List.length_append, show [32, 102, 114, 111, 109, 32].length = 6 from rfl]; omega
  obtain ⟨K3, k3, c3, f3⟩ := c_putDigits (d := d + 1) (e := e) (L := L) (J := J) (n := so S i) (by omega) c2 (by omega)
  have l3 : (nmB w 7 ++ [32, 102, 114, 111, 109, 32] ++ dgs (so S i)).length ≤ 15 := by rw [List.length_append]; omega
  obtain ⟨K4, k4, c4, f4⟩ := c_putsL (d := d + 1) (e := e) (L := L) (J := J) [32, 116, 111, 32] _ _ c3 (by decide) (by rw [show [32, 116, 111, 32].length = 4 from rfl]; omega)
  have l4 : (nmB w 7 ++ [32, 102, 114, 111, 109, 32] ++ dgs (so S i) ++ [32, 116, 111, 32]).length ≤ 19 := by rw [List.length_append, show [32, 116, 111, 32].length = 4 from rfl]; omega
  obtain ⟨K5, k5, c5, f5⟩ := c_putDigits (d := d + 1) (e := e) (L := L) (J := J) (n := ta S i) (by omega) c4 (by omega)
  have g2 : cgf K2 (xu I 3 1 0) := cgf_t f2 f1
  have g4 : cgf K4 (xu I 3 1 0) := cgf_t f4 (cgf_t f3 g2)
  have g0 : cgf (xu I 3 1 0) I := fun o k z1 z2 => by
    by_cases z : o = 3
    · subst z
      rw [xu_kne (by omega)]
    · rw [xu_rne z]
  refine ⟨K5, ?_, c5, cgf_t f5 (cgf_t g4 g0)⟩
  have z1 : ¬ n32 i < 0 := fun h => absurd ((n32_lt (b := 0) (by omega) (by omega)).mp h) (by omega)
  have z2 : n32 i < n32 (sK S) := (n32_lt (by omega) (by omega)).mpr hi
  rw [aX11_tag, bX11_tag_0, sX10_hasVote, a_K hA hk, if_neg z1, if_pos z2, xcI_some, ekX11_tag_0_3, if_neg (by decide : ¬ (1 : Int32) = 0), bX11_tag_1, xin_n32 (by omega) (show i < 48 by omega), cond_true, n32_nat (by omega), e38, xin_n32 (by omega) (show vo S i < 8 by omega), cond_true, n32_nat (by omega), eJ, k1, xcV_some, ekX11_tag_1_15, tx_from, k2, xcV_some, ekX11_tag_1_19, xin_n32 (by omega) (show i < 48 by omega), cond_true, n32_nat (by omega), g2 39 i (by decide) (Or.inl (by decide)), xu_rne (by decide), e39, k3, xcV_some, ekX11_tag_1_27, tx_to, k4, xcV_some, ekX11_tag_1_31, xin_n32 (by omega) (show i < 48 by omega), cond_true, n32_nat (by omega), g4 40 i (by decide) (Or.inl (by decide)), xu_rne (by decide), e40, k5, xcV_some, ekX11_tag_1_39, c5.1]
  rfl
theorem r_tag (hC : RS S I) (hi : i < sK S) (hw : w < 72057594037927936) (hb : ∀ j, j < 8 → w / 256 ^ j % 256 < 128) (hn : J 215 (vo S i) = Int64.ofNat w) : ∃ K, xcall xprog (d + 4) 244 [.ref 209, .int (n32 i)] (xst e L I J) = some (some (.int (n32 (tgL w (so S i) (ta S i)).length)), xst e L K J) ∧ RT2 (tgL w (so S i) (ta S i)) K ∧ ∀ o k, o ≠ 225 → (o ≠ 209 ∨ ¬ (k = 0 ∨ k = 43)) → K o k = I o k := by
  have h8 := wf_V8 hC.1.1
  have h20 := wf_B hC.1.1
  have hk := hC.1.2.1
  have h48 := hk.1
  obtain ⟨a1, a2, a3, a4, a5, a6, _⟩ := hk.2.2 i hi
  have hS := hC.2.1
  have h0 : RT2 [] (xu (xu I 209 0 0) 209 43 0) := ⟨by rw [xu_ee]; rfl, fun j hj => absurd hj (Nat.not_lt_zero j)⟩
  have hl1 := nmB_len (w := w) (j := 7)
  have hl2 := dgs_len (n := so S i)
  have hf : nmB 35624378658080 7 = [32, 102, 114, 111, 109, 32] := by decide
  have ht : nmB 544501536 7 = [32, 116, 111, 32] := by decide
  obtain ⟨K1, k1, c1, f1⟩ := r_spells (d := d + 1) (e := e) (L := L) (J := J) hw hb h0 (by decide)
  rw [List.nil_append] at c1
  obtain ⟨K2, k2, c2, f2⟩ := r_spells (d := d + 1) (e := e) (L := L) (J := J) (w := 35624378658080) (by decide) (by decide) c1 (by omega)
  rw [hf] at c2
  have l2 : (nmB w 7 ++ [32, 102, 114, 111, 109, 32]).length ≤ 13 := by rw [List.length_append, show [32, 102, 114, 111, 109, 32].length = 6 from rfl]; omega
  obtain ⟨K3, k3, c3, f3⟩ := r_laysNumber (d := d + 1) (e := e) (L := L) (J := J) (n := so S i) (by omega) c2 (by omega)
  have l3 : (nmB w 7 ++ [32, 102, 114, 111, 109, 32] ++ dgs (so S i)).length ≤ 15 := by rw [List.length_append]; omega
  obtain ⟨K4, k4, c4, f4⟩ := r_spells (d := d + 1) (e := e) (L := L) (J := J) (w := 544501536) (by decide) (by decide) c3 (by omega)
  rw [ht] at c4
  have l4 : (nmB w 7 ++ [32, 102, 114, 111, 109, 32] ++ dgs (so S i) ++ [32, 116, 111, 32]).length ≤ 19 := by rw [List.length_append, show [32, 116, 111, 32].length = 4 from rfl]; omega
  obtain ⟨K5, k5, c5, f5⟩ := r_laysNumber (d := d + 1) (e := e) (L := L) (J := J) (n := ta S i) (by omega) c4 (by omega)
  have g2 : rgf K2 (xu (xu I 209 0 0) 209 43 0) := rgf_t f2 f1
  have g4 : rgf K4 (xu (xu I 209 0 0) 209 43 0) := rgf_t f4 (rgf_t f3 g2)
  have g0 : ∀ o k, (o ≠ 209 ∨ ¬ (k = 0 ∨ k = 43)) → (xu (xu I 209 0 0) 209 43 0) o k = I o k := fun o k z2 => by
    by_cases z : o = 209
    · subst z
      rw [xu_kne (by omega), xu_kne (by omega)]
    · rw [xu_rne z, xu_rne z]
  refine ⟨K5, ?_, c5, fun o k z1 z2 => by rw [rgf_t f5 g4 o k z1 (by omega), g0 o k z2]⟩
  have z1 : ¬ n32 i < 0 := fun h => absurd ((n32_lt (b := 0) (by omega) (by omega)).mp h) (by omega)
  have em : n32 (sK S) - 1 = n32 (sK S - 1) := n32_sub (b := 1) (by omega)
  have z2 : n32 i ≤ n32 (sK S - 1) := (n32_le (by omega) (by omega)).mpr (by omega)
  have e72 : (72 : Int32) + n32 i = n32 (72 + i) := n32_add
  have e120 : (120 : Int32) + n32 i = n32 (120 + i) := n32_add
  have e168 : (168 : Int32) + n32 i = n32 (168 + i) := n32_add
  have s2 : K2 211 (120 + i) = n32 (so S i) := by rw [g2 211 _ (by decide) (Or.inl (by decide)), g0 211 _ (Or.inl (by decide)), hS, a3]
  have s4 : K4 211 (168 + i) = n32 (ta S i) := by rw [g4 211 _ (by decide) (Or.inl (by decide)), g0 211 _ (Or.inl (by decide)), hS, a5]
  rw [aX12_tag, bX12_tag_0, sX12_isIn, hS, hk.2.1, em, if_neg z1, if_pos z2, xcI_some, ekX12_tag_0_11, if_neg (by decide : ¬ (1 : Int32) = 0), bX12_tag_1, e72, xin_n32 (by omega) (show 72 + i < 360 by omega), cond_true, n32_nat (by omega), xu_rne (by decide), hS, a1, xin_n32 (by omega) (show vo S i < 56 by omega), cond_true, n32_nat (by omega), hn, k1, xcV_some, ekX12_tag_1_13, k2, xcV_some, ekX12_tag_1_16, e120, xin_n32 (by omega) (show 120 + i < 360 by omega), cond_true, n32_nat (by omega), s2, k3, xcV_some, ekX12_tag_1_24, k4, xcV_some, ekX12_tag_1_27, e168, xin_n32 (by omega) (show 168 + i < 360 by omega), cond_true, n32_nat (by omega), s4, k5, xcV_some, ekX12_tag_1_35, c5.1]
  rfl
theorem s_tag (x : Int32) : stp 139 244 [.int x] := by
  intro d e L I J h
  obtain ⟨hC, hR, hNZ, ⟨m, o, hH⟩, hNB, ht, hse, him, hg, ⟨c1, c2, c3⟩, hd, h216⟩ := id h
  have hk := hC.1.2.1
  have h48 := hk.1
  rcases inr_or x (sK (I 211)) (by omega) with ⟨i, hi, rfl⟩ | hx
  rotate_left
  · have a1 : xcall xprog (d + 40) 139 [.ref 0, .int x] (xst e L I J) = some (some (.int (-1)), xst e L I J) := by
      rw [aX11_tag, bX11_tag_0, sX10_hasVote, a_K hC.2.2.1 hk]
      have : (if x < 0 then (0 : Int32) else if x < n32 (sK (I 211)) then 1 else 0) = 0 := by
        rcases hx with q | q
        · rw [if_pos q]
        · rw [if_neg q, ite_self]
      rw [this, xcI_some, ekX11_tag_0_3, if_pos rfl]
    refine RR_eq a1 (RR_I ?_)
    refine RR_eq ((aX12_tag _ e L I J _).trans (bX12_tag_0 _ e L I J _)) ?_
    rw [sX12_isIn, hk.2.1]
    have : (if x < 0 then (0 : Int32) else if x ≤ n32 (sK (I 211)) - 1 then 1 else 0) = 0 := by
      rcases hx with q | q
      · rw [if_pos q]
      · by_cases z : x < 0
        · rw [if_pos z]
        · rw [if_neg z]
          refine if_neg (fun w => q ?_)
          rw [le_pred (show sK (I 211) < 1000000 by omega)] at w
          exact w
    rw [this, xcI_some, ekX12_tag_0_11, if_pos rfl]
    exact RR_I ⟨rfl, Inv_0 h⟩
  obtain ⟨a1, a2, _⟩ := hk.2.2 i hi
  have h8 := wf_V8 hC.1.1
  obtain ⟨w, w1, w2, w3⟩ := hNB _ a2
  obtain ⟨K, k1, k2, k3⟩ := c_tag (d := d + 36) (e := e) (L := L) hC hi w1 w3
  refine RR_eq k1 (RR_I ?_)
  have hRK : RS (I 211) K := RS_cf (fun q k z => k3 q k (by omega) (by omega)) hR
  have w4 : J 215 (vo (I 211) i) = Int64.ofNat w := by
    have : nmN J (vo (I 211) i) = J 215 (vo (I 211) i) := if_pos (by omega)
    rw [← this, w3]
  obtain ⟨M, m1, m2, m3⟩ := r_tag (d := d + 36) (e := e) (L := L) hRK hi w1 (fun j _ => w2 j) w4
  refine RR_eq m1 (RR_I ⟨rfl, ?_⟩)
  have f : ∀ o k, o ≠ 225 → o ≠ 4 → (o ≠ 3 ∨ k ≠ 1) → (o ≠ 209 ∨ ¬ (k = 0 ∨ k = 43)) → M o k = I o k := fun o k z1 z2 z3 z4 => by rw [m3 o k z1 z4, k3 o k z2 z3]
  have hlen : (tgL w (so (I 211) i) (ta (I 211) i)).length ≤ 30 := by
    have l1 := nmB_len (w := w) (j := 7)
    have l2 := dgs_len (n := so (I 211) i)
    have l3 := dgs_len (n := ta (I 211) i)
    unfold tgL
    rw [List.length_append, List.length_append, List.length_append, List.length_append, show [32, 102, 114, 111, 109, 32].length = 6 from rfl, show [32, 116, 111, 32].length = 4 from rfl]
    omega
  refine Inv_g h (fun o k z => f o k (by unfold gI at z; omega) (by unfold gI at z; omega) (by unfold gI at z; omega) (by unfold gI at z; omega)) (fun _ _ _ => rfl) rfl (Tape_c (f _ _ (by omega) (by omega) (by omega) (by omega)) (f _ _ (by omega) (by omega) (by omega) (by omega)) (funext fun k => f _ _ (by omega) (by omega) (by omega) (by omega)) (funext fun k => f _ _ (by omega) (by omega) (by omega) (by omega)) ht) ⟨_, hlen, ?_, m2.1, fun j hj => ?_⟩ ⟨?_, ?_, ?_⟩ (Told_c (f _ _ (by omega) (by omega) (by omega) (by omega)) (funext fun k => f _ _ (by omega) (by omega) (by omega) (by omega)) (funext fun k => f _ _ (by omega) (by omega) (by omega) (by omega)) hd)
  · rw [m3 3 1 (by omega) (by omega), k2.1]
  · rw [m3 4 j (by omega) (by omega), k2.2 j hj, m2.2 j hj]
  · rw [f 71 0 (by omega) (by omega) (by omega) (by omega), f 209 40 (by omega) (by omega) (by omega) (by omega), c1]
  · rw [f 71 1 (by omega) (by omega) (by omega) (by omega), f 209 41 (by omega) (by omega) (by omega) (by omega), c2]
  · rw [f 0 16 (by omega) (by omega) (by omega) (by omega), f 209 16 (by omega) (by omega) (by omega) (by omega), c3]
end TAB
