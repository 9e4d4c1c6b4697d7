/-! The class's sets of blocks that a sentence says. -/
section SAZ
variable {d e L : Nat} {S S' X Y : TS} {N N' : Nat → Int64} {I K M : TI} {J J' J2 : TJ} {a b c s t u v k i n r m o q w j : Nat}
theorem c_blocksOfStep (hT : Tr 7 S N I J) (hw : wfT S) (hF : Fi S I) (hi : i < 40) (ho : okc S i) (hc : cw S i < 10) (e43 : I 43 i = n32 (kdm (cw S i))) (e44 : I 44 i = S (226 + 3 * i)) (e45 : I 45 i = S (227 + 3 * i)) : xcall xprog (d + 4) 76 [.ref 42, .int (n32 i), .ref 7, .ref 47] (xst e L I J) = some (some (.int (bs (fun b => decide (lfV S i b = 1)) (sB S))), xst e L I J) := by
  have h20 := wf_B hw
  refine (aX7_blocksOfStep _ e L I J _).trans ((bX7_blocksOfStep_0 _ e L I J _).trans ?_)
  obtain ⟨_, h1, _⟩ := xfor (fun m (_ : Unit) => xlim (xcall xprog (d + 3)) mX7_blocksOfStep 1 [.ref 42, .int (n32 i), .ref 7, .ref 47, .int (bs (fun b => decide (lfV S i b = 1)) m), .int (n32 m)] [] (xst e L I J)) (fun _ _ => True) (n := sB S) (fun m _ hm _ => by
    refine ⟨(), (bX7_blocksOfStep_1 _ e L I J _ _ _).trans ?_, trivial⟩
    rw [t7_B hT hw, if_pos ((n32_lt (by omega) (by omega)).mpr hm), c_isSo (d := d) hT hw hF hi hm ho hc e43 e44 e45, xcI_some, ekX7_blocksOfStep_1_9]
    rcases lfV_01 (S := S) (i := i) (b := m) with y | y
    · have eb : bs (fun b => decide (lfV S i b = 1)) (m + 1) = bs (fun b => decide (lfV S i b = 1)) m := by
        show (bif decide (lfV S i m = 1) then _ else _) = _
        rw [y]; rfl
      rw [eb, y, if_pos rfl, bX7_blocksOfStep_2, n32_succ]
    · have eb : bs (fun b => decide (lfV S i b = 1)) (m + 1) = bs (fun b => decide (lfV S i b = 1)) m ||| (1 <<< (n32 m &&& 31)) := by
        show (bif decide (lfV S i m = 1) then _ else _) = _
        rw [y]; rfl
      rw [eb, y, if_neg (by decide : ¬ (1 : Int32) = 0), bX7_blocksOfStep_2, n32_succ]) () trivial
  refine (show _ = _ from h1).trans ((bX7_blocksOfStep_1 _ e L I J _ _ _).trans ?_)
  rw [t7_B hT hw, if_neg (fun h => absurd ((n32_lt (by omega) (by omega)).mp h) (Nat.lt_irrefl _)), bX7_blocksOfStep_3]
theorem all_B (h : n ≤ 20) (hy : k < 32) : bt ((1 <<< (n32 n &&& 31)) - 1) k = decide (k < n) := by
  have : ∀ (n : Fin 21) (k : Fin 32), bt ((1 <<< (n32 n.val &&& 31)) - 1) k.val = decide (k.val < n.val) := by decide +kernel
  exact this ⟨n, by omega⟩ ⟨k, hy⟩
theorem m1 (h : 1 ≤ a) : n32 a + (-1) = n32 (a - 1) := by
  obtain ⟨c, rfl⟩ : ∃ c, a = c + 1 := ⟨a - 1, by omega⟩
  rw [show c + 1 - 1 = c by omega, ← n32_succ, Int32.add_assoc, show (1 : Int32) + (-1) = 0 by decide, Int32.add_zero]
theorem sb1 (h : 1 ≤ a) : n32 a - 1 = n32 (a - 1) := n32_sub (b := 1) h
theorem xaI_46 {c : Int32 → Option xOut} (h : a < 40) : xaI (xst e L I J) 46 (n32 a) c = c (I 46 a) := by
  show (bif xin (n32 a) 40 then c (I 46 (n32 a).toNatClampNeg) else none) = _
  rw [xin_n32 (by omega) h, cond_true, n32_nat (by omega)]
theorem xsI_46 {x : Int32} {c : xS → Option xOut} (h : a < 40) : xsI (xst e L I J) 46 (n32 a) x c = c (xst e L (xu I 46 a x) J) := by
  show (bif true && xin (n32 a) 40 then c ((G0, e, L), xu I 46 (n32 a).toNatClampNeg x, J) else none) = _
  rw [xin_n32 (by omega) h, n32_nat (by omega)]
  rfl
def SP (S : TS) (i : Nat) (I K : TI) : Prop := (∀ o, o ≠ 46 → K o = I o) ∧ ∀ j, j < dep S i → ∀ y, y < 32 → bt (K 46 j) y = (decide (y < sB S) && ev S i j y)
theorem c_blocksSaid (hT : Tr 7 S N I J) (hw : wfT S) (hF : Fi S I) (hc40 : c ≤ 40) (e42 : I 42 1 = n32 c) (hd : dep S c = 1) (hi : ∀ i, i < c → okc S i ∧ I 43 i = n32 (kdm (cw S i)) ∧ I 44 i = S (226 + 3 * i) ∧ I 45 i = S (227 + 3 * i)) : RR (xcall xprog (d + 5) 75 [.ref 42, .ref 7, .ref 47] (xst e L I J)) (zI e L fun x K J' => J' = J ∧ (∀ y, y < 32 → bt x y = (decide (y < sB S) && ev S c 0 y)) ∧ ∀ o, o ≠ 46 → K o = I o) := by
  have h20 := wf_B hw
  refine RR_eq ((aX7_blocksSaid _ e L I J).trans (bX7_blocksSaid_0 _ e L I J)) ?_
  rw [t7_B hT hw]
  generalize hall : ((1 : Int32) <<< (n32 (sB S) &&& 31)) - 1 = al
  have hal : ∀ y, y < 32 → bt al y = decide (y < sB S) := fun y hy => by rw [← hall]; exact all_B h20 hy
  obtain ⟨K, h1, h2⟩ := xfor (fun i K => xlim (xcall xprog (d + 4)) mX7_blocksSaid 1 [.ref 42, .ref 7, .ref 47, .int al, .int (n32 (dep S i)), .int (n32 i), xD] [] (xst e L K J)) (fun i K => SP S i I K) (n := c) (fun i K hic ⟨g1, g2⟩ => by
    obtain ⟨ho, e43, e44, e45⟩ := hi i hic
    have hdl := dep_le (S := S) (i := i)
    have k43 : K 43 i = n32 (kdm (cw S i)) := by rw [g1 43 (by decide)]; exact e43
    have step : ∀ P, xlim (xcall xprog (d + 4)) mX7_blocksSaid 5 [.ref 42, .ref 7, .ref 47, .int al, .int (n32 (dep S (i + 1))), .int (n32 i), xD] [] (xst e L P J) = xlim (xcall xprog (d + 4)) mX7_blocksSaid 1 [.ref 42, .ref 7, .ref 47, .int al, .int (n32 (dep S (i + 1))), .int (n32 (i + 1)), xD] [] (xst e L P J) := fun P => by rw [bX7_blocksSaid_5, n32_succ]
    have hkd : xlim (xcall xprog (d + 4)) mX7_blocksSaid 1 [.ref 42, .ref 7, .ref 47, .int al, .int (n32 (dep S i)), .int (n32 i), xD] [] (xst e L K J) = _ := bX7_blocksSaid_1 _ e L K J _ _ _
    rw [g1 42 (by decide), e42, if_pos ((n32_lt (by omega) (by omega)).mpr hic), xin_n32 (by omega) (show i < 40 by omega), cond_true, n32_nat (by omega), k43] at hkd
    rcases ho.2.1 with q | ⟨q, qd⟩ | ⟨q, qd⟩
    · -- a leaf
      have ekd : kdm (cw S i) = 75 + cw S i := by
        unfold kdm
        rw [if_neg (by omega), if_neg (by omega), if_neg (by omega)]
      have ne74 : ¬ n32 (75 + cw S i) = 74 := fun h => absurd ((n32_inj (b := 74) (by omega) (by omega)).mp h) (by omega)
      have ne73 : ¬ n32 (75 + cw S i) = 73 := fun h => absurd ((n32_inj (b := 73) (by omega) (by omega)).mp h) (by omega)
      have ne72 : ¬ n32 (75 + cw S i) = 72 := fun h => absurd ((n32_inj (b := 72) (by omega) (by omega)).mp h) (by omega)
      have z40 : n32 (dep S i) < 40 := (n32_lt (b := 40) (by omega) (by omega)).mpr (by omega)
      have hT2 : Tr 7 S N K J := Tr_c (fun o k z1 z2 => by rw [g1 o (by omega)]) hw hT
      have hF2 : Fi S K := Fi_c (fun o k z1 z2 => by rw [g1 o (by omega)]) hF
      refine ⟨xu K 46 (dep S i) (bs (fun b => decide (lfV S i b = 1)) (sB S)), ?_, fun o z => by rw [xu_rne z, g1 o z], fun j hj y hy => ?_⟩
      · refine hkd.trans ?_
        rw [ekd, if_neg ne74, bX7_blocksSaid_2, if_neg ne73, bX7_blocksSaid_3, if_neg ne72, bX7_blocksSaid_4, if_pos z40, c_blocksOfStep (d := d) hT2 hw hF2 (by omega) ho q k43 (by rw [g1 44 (by decide)]; exact e44) (by rw [g1 45 (by decide)]; exact e45), xcI_some, ekX7_blocksSaid_4_10, xin_n32 (by omega) (show dep S i < 40 by omega), cond_true, n32_nat (by omega), n32_succ, ← dep_l q]
        exact step _
      · rw [dep_l q] at hj
        rw [ev_l q]
        by_cases z : j = dep S i
        · subst z
          rw [xu_ee, if_pos rfl, bt_bs _ hy _ (by omega)]
        · rw [xu_kne z, if_neg z, g2 j (by omega) y hy]
    · -- not
      refine ⟨xu K 46 (dep S i - 1) (al &&& (K 46 (dep S i - 1) ^^^ (-1))), ?_, fun o z => by rw [xu_rne z, g1 o z], fun j hj y hy => ?_⟩
      · refine hkd.trans ?_
        have ek : n32 (kdm (cw S i)) = 74 := by rw [q]; rfl
        have zl : ¬ n32 (dep S i) < 1 := fun h => absurd ((n32_lt (b := 1) (by omega) (by omega)).mp h) (by omega)
        rw [ek, if_pos rfl, if_neg zl, sb1 qd, xin_n32 (by omega) (show dep S i - 1 < 40 by omega), cond_true, cond_true, n32_nat (by omega)]
        rw [← dep_20 q]
        exact step _
      · rw [dep_20 q] at hj
        rw [ev_20 q]
        by_cases z : j = dep S i - 1
        · subst z
          rw [xu_ee, if_pos (by omega), bt_and, bt_xor, bt_neg1 hy, hal y hy, g2 _ hj y hy]
          cases decide (y < sB S) <;> cases ev S i (dep S i - 1) y <;> rfl
        · rw [xu_kne z, if_neg (by omega), g2 j hj y hy]
    · -- and, or
      have ed : dep S (i + 1) = dep S i - 1 := dep_2x q
      have zl : ¬ n32 (dep S i) < 2 := fun h => absurd ((n32_lt (b := 2) (by omega) (by omega)).mp h) (by omega)
      rcases q with q | q
      · refine ⟨xu K 46 (dep S i - 2) (K 46 (dep S i - 2) &&& K 46 (dep S i - 1)), ?_, fun o z => by rw [xu_rne z, g1 o z], fun j hj y hy => ?_⟩
        · refine hkd.trans ?_
          have ek : n32 (kdm (cw S i)) = 73 := by rw [q]; rfl
          rw [ek, if_neg (by decide : ¬ (73 : Int32) = 74), bX7_blocksSaid_2, if_pos rfl, if_neg zl, m1 (by omega), sb1 (by omega), xaI_46 (by omega), xaI_46 (by omega), xsI_46 (by omega), show dep S i - 1 - 1 = dep S i - 2 by omega, ← ed]
          exact step _
        · rw [ev_21 q]
          by_cases z : j = dep S i - 2
          · subst z
            rw [xu_ee, if_pos (by omega), bt_and, g2 _ (by omega) y hy, g2 _ (by omega) y hy, show dep S i - 2 + 1 = dep S i - 1 by omega]
            cases decide (y < sB S) <;> cases ev S i (dep S i - 2) y <;> cases ev S i (dep S i - 1) y <;> rfl
          · rw [xu_kne z, if_neg (by omega), g2 j (by omega) y hy]
      · refine ⟨xu K 46 (dep S i - 2) (K 46 (dep S i - 2) ||| K 46 (dep S i - 1)), ?_, fun o z => by rw [xu_rne z, g1 o z], fun j hj y hy => ?_⟩
        · refine hkd.trans ?_
          have ek : n32 (kdm (cw S i)) = 72 := by rw [q]; rfl
          rw [ek, if_neg (by decide : ¬ (72 : Int32) = 74), bX7_blocksSaid_2, if_neg (by decide : ¬ (72 : Int32) = 73), bX7_blocksSaid_3, if_pos rfl, if_neg zl, m1 (by omega), sb1 (by omega), xaI_46 (by omega), xaI_46 (by omega), xsI_46 (by omega), show dep S i - 1 - 1 = dep S i - 2 by omega, ← ed]
          exact step _
        · rw [ev_22 q]
          by_cases z : j = dep S i - 2
          · subst z
            rw [xu_ee, if_pos (by omega), bt_or, g2 _ (by omega) y hy, g2 _ (by omega) y hy, show dep S i - 2 + 1 = dep S i - 1 by omega]
            cases decide (y < sB S) <;> cases ev S i (dep S i - 2) y <;> cases ev S i (dep S i - 1) y <;> rfl
          · rw [xu_kne z, if_neg (by omega), g2 j (by omega) y hy]) I ⟨fun _ _ => rfl, fun j hj => absurd hj (Nat.not_lt_zero j)⟩
  refine RR_eq ((show _ = _ from h1).trans (bX7_blocksSaid_1 _ e L K J _ _ _)) ?_
  rw [h2.1 42 (by decide), e42, if_neg (fun h => absurd ((n32_lt (by omega) (by omega)).mp h) (Nat.lt_irrefl _)), bX7_blocksSaid_6, hd]
  refine RR_eq (if_pos rfl) ?_
  rw [bX7_blocksSaid_8]
  exact RR_I ⟨rfl, fun y hy => h2.2 0 (by omega) y hy, h2.1⟩
end SAZ
