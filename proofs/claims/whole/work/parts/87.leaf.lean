/-! What a code says of a block. -/
def cmpV (g x v : Int32) : Int32 := if g = 60 then (if x < v then 1 else 0) else if g = 61 then (if x = v then 1 else 0) else if x ≤ v then 0 else 1
noncomputable def lfV (S : TS) (i b : Nat) : Int32 :=
  if cw S i = 0 then (if onS S b = 0 then 1 else 0) else if cw S i = 1 then (if pt S b = true then 1 else 0)
  else if cw S i = 2 then (if bt (jS S) b = true then 1 else 0) else if cw S i = 3 then (if bt (fS S) b = true then 1 else 0)
  else if cw S i = 4 then n32 (chN S b) else if cw S i = 5 then (if anc (par S) (S (227 + 3 * i)).toNatClampNeg b = true then 1 else 0)
  else if cw S i = 6 then cmpV (S (226 + 3 * i)) (n32 (hei S b)) (S (227 + 3 * i)) else if cw S i = 7 then (if pt S b = true then cmpV (S (226 + 3 * i)) (n32 (lv S b)) (S (227 + 3 * i)) else 0)
  else if cw S i = 8 then cmpV (S (226 + 3 * i)) (hft S b) (S (227 + 3 * i)) else cmpV (S (226 + 3 * i)) (n32 b) (S (227 + 3 * i))
section LEAF
variable {d e L : Nat} {S S' X Y : TS} {N N' : Nat → Int64} {I K M : TI} {J J' J2 : TJ} {a b c s t u v k i n r m o q w j : Nat}
theorem cmpV_01 (g x v : Int32) : cmpV g x v = 0 ∨ cmpV g x v = 1 := by
  unfold cmpV
  split
  · split
    · exact Or.inr rfl
    · exact Or.inl rfl
  · split
    · split
      · exact Or.inr rfl
      · exact Or.inl rfl
    · split
      · exact Or.inl rfl
      · exact Or.inr rfl
theorem if01 {p : Prop} [Decidable p] : (if p then (1 : Int32) else 0) = 0 ∨ (if p then (1 : Int32) else 0) = 1 := by
  split
  · exact Or.inr rfl
  · exact Or.inl rfl
theorem lfV_0 (q : cw S i = 0) : lfV S i b = if onS S b = 0 then 1 else 0 := by
  unfold lfV
  rw [q]
  rfl
theorem lfV_1 (q : cw S i = 1) : lfV S i b = if pt S b = true then 1 else 0 := by
  unfold lfV
  rw [q]
  rfl
theorem lfV_2 (q : cw S i = 2) : lfV S i b = if bt (jS S) b = true then 1 else 0 := by
  unfold lfV
  rw [q]
  rfl
theorem lfV_3 (q : cw S i = 3) : lfV S i b = if bt (fS S) b = true then 1 else 0 := by
  unfold lfV
  rw [q]
  rfl
theorem lfV_4 (q : cw S i = 4) : lfV S i b = n32 (chN S b) := by
  unfold lfV
  rw [q]
  rfl
theorem lfV_5 (q : cw S i = 5) : lfV S i b = if anc (par S) (S (227 + 3 * i)).toNatClampNeg b = true then 1 else 0 := by
  unfold lfV
  rw [q]
  rfl
theorem lfV_6 (q : cw S i = 6) : lfV S i b = cmpV (S (226 + 3 * i)) (n32 (hei S b)) (S (227 + 3 * i)) := by
  unfold lfV
  rw [q]
  rfl
theorem lfV_7 (q : cw S i = 7) : lfV S i b = if pt S b = true then cmpV (S (226 + 3 * i)) (n32 (lv S b)) (S (227 + 3 * i)) else 0 := by
  unfold lfV
  rw [q]
  rfl
theorem lfV_8 (q : cw S i = 8) : lfV S i b = cmpV (S (226 + 3 * i)) (hft S b) (S (227 + 3 * i)) := by
  unfold lfV
  rw [q]
  rfl
theorem lfV_9 (q : cw S i = 9) : lfV S i b = cmpV (S (226 + 3 * i)) (n32 b) (S (227 + 3 * i)) := by
  unfold lfV
  rw [q]
  rfl
theorem lfV_01 : lfV S i b = 0 ∨ lfV S i b = 1 := by
  unfold lfV
  by_cases q0 : cw S i = 0
  · rw [if_pos q0]; exact if01
  rw [if_neg q0]
  by_cases q1 : cw S i = 1
  · rw [if_pos q1]; exact if01
  rw [if_neg q1]
  by_cases q2 : cw S i = 2
  · rw [if_pos q2]; exact if01
  rw [if_neg q2]
  by_cases q3 : cw S i = 3
  · rw [if_pos q3]; exact if01
  rw [if_neg q3]
  by_cases q4 : cw S i = 4
  · rw [if_pos q4]
    have := chN_le (S := S) (b := b)
    have : chN S b = 0 ∨ chN S b = 1 := by omega
    rcases this with z | z
    · rw [z]; exact Or.inl rfl
    · rw [z]; exact Or.inr rfl
  rw [if_neg q4]
  by_cases q5 : cw S i = 5
  · rw [if_pos q5]; exact if01
  rw [if_neg q5]
  by_cases q6 : cw S i = 6
  · rw [if_pos q6]; exact cmpV_01 _ _ _
  rw [if_neg q6]
  by_cases q7 : cw S i = 7
  · rw [if_pos q7]
    split
    · exact cmpV_01 _ _ _
    · exact Or.inl rfl
  rw [if_neg q7]
  by_cases q8 : cw S i = 8
  · rw [if_pos q8]; exact cmpV_01 _ _ _
  rw [if_neg q8]
  exact cmpV_01 _ _ _
theorem xrZ_01 {x : Int32} {σ : xS} (h : x = 0 ∨ x = 1) : xrZ x σ = some (some (.int x), σ) := by
  rcases h with h | h <;> rw [h] <;> rfl
theorem c_cmp (hi : i < 40) {x g v : Int32} (hg : I 44 i = g) (hv : I 45 i = v) : xcall xprog (d + 1) 78 [.ref 42, .int x, .int (n32 i)] (xst e L I J) = some (some (.int (cmpV g x v)), xst e L I J) := by
  have hx : xin (n32 i) 40 = true := xin_n32 (by omega) hi
  rw [sX7_compares d e L I J x (n32 i) hx (fun _ => hx) (fun _ _ => hx) (fun _ _ => hx), n32_nat (by omega), hg, hv]
  rfl
theorem c_isSo (hT : Tr 7 S N I J) (hw : wfT S) (hF : Fi S I) (hi : i < 40) (hb : b < sB S) (ho : okc S i) (hc : cw S i < 10) (e43 : I 43 i = n32 (kdm (cw S i))) (e44 : I 44 i = S (226 + 3 * i)) (e45 : I 45 i = S (227 + 3 * i)) : xcall xprog (d + 3) 77 [.ref 42, .int (n32 i), .int (n32 b), .ref 7, .ref 47] (xst e L I J) = some (some (.int (lfV S i b)), xst e L I J) := by
  have h20 := wf_B hw
  have hx : xin (n32 i) 40 = true := xin_n32 (by omega) hi
  have hxb : xin (n32 b) 20 = true := xin_n32 (by omega) (by omega)
  rw [aX7_isSo, bX7_isSo_0, hx, cond_true, n32_nat (by omega), e43]
  have hcs : cw S i = 0 ∨ cw S i = 1 ∨ cw S i = 2 ∨ cw S i = 3 ∨ cw S i = 4 ∨ cw S i = 5 ∨ cw S i = 6 ∨ cw S i = 7 ∨ cw S i = 8 ∨ cw S i = 9 := by omega
  rcases hcs with q | q | q | q | q | q | q | q | q | q
  · rw [lfV_0 q, q]
    refine (if_pos (by decide)).trans ?_
    rw [bX7_isSo_1, c_blocksOn (d := d + 1) hT hw hb, onS_c hw, xcI_some, ekX7_isSo_1_2]
    by_cases z : onS S b = 0
    · rw [if_pos z, if_pos z, bX7_isSo_3]; rfl
    · rw [if_neg z, if_neg z, bX7_isSo_2, bX7_isSo_3]; rfl
  · rw [lfV_1 q, q]
    refine (if_neg (by decide)).trans ((if_pos (by decide)).trans ?_)
    rw [bX7_isSo_4, c_isPoint_y (d := d) hT hw hb, xcI_some, ekX7_isSo_4_2, xrZ_01 if01]
  · rw [lfV_2 q, q]
    refine (if_neg (by decide)).trans ((if_neg (by decide)).trans ((if_pos (by decide)).trans ?_))
    rw [bX7_isSo_5, hF.1, bt_test _ (by omega)]
    cases bt (jS S) b
    · exact (if_neg (by decide)).trans ((bX7_isSo_6 _ e L I J).trans (bX7_isSo_7 _ e L I J _))
    · exact (if_pos (by decide)).trans (bX7_isSo_7 _ e L I J _)
  · rw [lfV_3 q, q]
    refine (if_neg (by decide)).trans ((if_neg (by decide)).trans ((if_neg (by decide)).trans ((if_pos (by decide)).trans ?_)))
    rw [bX7_isSo_8, hF.2.1, bt_test _ (by omega)]
    cases bt (fS S) b
    · exact (if_neg (by decide)).trans ((bX7_isSo_9 _ e L I J).trans (bX7_isSo_10 _ e L I J _))
    · exact (if_pos (by decide)).trans (bX7_isSo_10 _ e L I J _)
  · rw [lfV_4 q, q]
    refine (if_neg (by decide)).trans ((if_neg (by decide)).trans ((if_neg (by decide)).trans ((if_neg (by decide)).trans ((if_pos (by decide)).trans ?_))))
    obtain ⟨n, n1, n2, n3, n4⟩ := hF.2.2.2.2.2.2.2.2.2
    rw [bX7_isSo_11, bt_test _ (by omega), n4 b (by omega), chN_of n1]
    cases exN (fun k => decide (wy S k = n32 b)) n
    · exact (if_neg (by decide)).trans ((bX7_isSo_12 _ e L I J).trans (bX7_isSo_13 _ e L I J _))
    · exact (if_pos (by decide)).trans (bX7_isSo_13 _ e L I J _)
  · rw [lfV_5 q, q]
    refine (if_neg (by decide)).trans ((if_neg (by decide)).trans ((if_neg (by decide)).trans ((if_neg (by decide)).trans ((if_neg (by decide)).trans ((if_pos (by decide)).trans ?_)))))
    obtain ⟨a, a1, a2⟩ := ho.2.2.1 q
    rw [bX7_isSo_14, hx, cond_true, n32_nat (by omega), e45, a2, n32_nat (by omega), c_isAhead (d := d + 1) hT hw (by omega) hb, xcI_some, ekX7_isSo_14_6, xrZ_01 if01]
  · rw [lfV_6 q, q]
    refine (if_neg (by decide)).trans ((if_neg (by decide)).trans ((if_neg (by decide)).trans ((if_neg (by decide)).trans ((if_neg (by decide)).trans ((if_neg (by decide)).trans ((if_pos (by decide)).trans ?_))))))
    rw [bX7_isSo_15, hxb, cond_true, n32_nat (by omega), t7_hi hT hb, c_cmp (d := d + 1) hi e44 e45, xcI_some, ekX7_isSo_15_6, xrZ_01 (cmpV_01 _ _ _)]
  · rw [lfV_7 q, q]
    refine (if_neg (by decide)).trans ((if_neg (by decide)).trans ((if_neg (by decide)).trans ((if_neg (by decide)).trans ((if_neg (by decide)).trans ((if_neg (by decide)).trans ((if_neg (by decide)).trans ((if_pos (by decide)).trans ?_)))))))
    rw [bX7_isSo_16, c_isPoint_y (d := d) hT hw hb, xcI_some, ekX7_isSo_16_2]
    by_cases z : pt S b = true
    · have elv : lvc S b = n32 (lv S b) := if_pos z
      rw [if_pos z, if_pos z, if_neg (by decide : ¬ (1 : Int32) = 0), hxb, cond_true, n32_nat (by omega), t7_lv hT hb, elv, c_cmp (d := d + 1) hi e44 e45, xcI_some, ekX7_isSo_16_10]
      rcases cmpV_01 (S (226 + 3 * i)) (n32 (lv S b)) (S (227 + 3 * i)) with y | y
      · rw [y, if_pos rfl, bX7_isSo_17, bX7_isSo_18]; rfl
      · rw [y, if_neg (by decide : ¬ (1 : Int32) = 0), bX7_isSo_18]; rfl
    · rw [if_neg z, if_neg z, if_pos rfl, bX7_isSo_17, bX7_isSo_18]; rfl
  · rw [lfV_8 q, q]
    refine (if_neg (by decide)).trans ((if_neg (by decide)).trans ((if_neg (by decide)).trans ((if_neg (by decide)).trans ((if_neg (by decide)).trans ((if_neg (by decide)).trans ((if_neg (by decide)).trans ((if_neg (by decide)).trans ((if_pos (by decide)).trans ?_))))))))
    rw [bX7_isSo_19, hxb, cond_true, n32_nat (by omega), hF.2.2.2.2.2.2.2.2.1 b hb, c_cmp (d := d + 1) hi e44 e45, xcI_some, ekX7_isSo_19_6, xrZ_01 (cmpV_01 _ _ _)]
  · rw [lfV_9 q, q]
    refine (if_neg (by decide)).trans ((if_neg (by decide)).trans ((if_neg (by decide)).trans ((if_neg (by decide)).trans ((if_neg (by decide)).trans ((if_neg (by decide)).trans ((if_neg (by decide)).trans ((if_neg (by decide)).trans ((if_neg (by decide)).trans ((if_pos (by decide)).trans ?_)))))))))
    rw [bX7_isSo_20, c_cmp (d := d + 1) hi e44 e45, xcI_some, ekX7_isSo_20_3, xrZ_01 (cmpV_01 _ _ _)]
theorem r_cmp {g x v : Int32} : xcall xprog (d + 1) 262 [.int g, .int x, .int v] (xst e L I J) = some (some (.int (cmpV g x v)), xst e L I J) := sX12_isSo d e L I J g x v
theorem r_bitOf {z : Int32} (hb : b < 32) : xcall xprog (d + 1) 162 [.int z, .int (n32 b)] (xst e L I J) = some (some (.int (if bt z b = true then 1 else 0)), xst e L I J) := by
  rw [sX12_bitOf, bt_test _ hb]
  cases bt z b <;> rfl
theorem r_isLeaf (hC : RS S I) (hF : Rf S I) (hi : i < 40) (hb : b < sB S) (ho : okc S i) (hc : cw S i < 10) : RR (xcall xprog (d + 9) 263 [.ref 209, .int (n32 b), .int (S (225 + 3 * i)), .int (S (226 + 3 * i)), .int (S (227 + 3 * i))] (xst e L I J)) (zI e L fun x K J' => J' = J ∧ x = lfV S i b ∧ lfr K I ∧ RS S K ∧ Rf S K) := by
  have hw := hC.1.1
  have hS := hC.2.1
  have h20 := wf_B hw
  have hxb : xin (n32 b) 20 = true := xin_n32 (by omega) (by omega)
  have hcs : cw S i = 0 ∨ cw S i = 1 ∨ cw S i = 2 ∨ cw S i = 3 ∨ cw S i = 4 ∨ cw S i = 5 ∨ cw S i = 6 ∨ cw S i = 7 ∨ cw S i = 8 ∨ cw S i = 9 := by omega
  have done : ∀ {x : Int32} {r : Option xOut}, r = some (some (.int x), xst e L I J) → x = lfV S i b → RR r (zI e L fun x K J' => J' = J ∧ x = lfV S i b ∧ lfr K I ∧ RS S K ∧ Rf S K) := fun {x r} h1 h2 => RR_eq h1 (RR_I ⟨rfl, h2, fun _ _ _ _ => rfl, hC, hF⟩)
  have l9 : ∀ b, b < 20 → True := fun _ _ => trivial
  refine RR_eq ((aX12_isLeaf _ e L I J _ _ _ _).trans (bX12_isLeaf_0 _ e L I J _ _ _ _)) ?_
  rw [ho.1]
  rcases hcs with q | q | q | q | q | q | q | q | q | q
  · rw [q]
    refine RR_eq (if_pos (by decide)) ?_
    refine done ?_ (lfV_0 q).symm
    rw [bX12_isLeaf_1, r_on (d := d + 7) hS hw hb, xcI_some, ekX12_isLeaf_1_2]
    by_cases z : onS S b = 0
    · rw [if_pos z, if_pos z, bX12_isLeaf_3]; rfl
    · rw [if_neg z, if_neg z, bX12_isLeaf_2, bX12_isLeaf_3]; rfl
  · rw [q]
    refine RR_eq ((if_neg (by decide)).trans (if_pos (by decide))) ?_
    refine done ?_ (lfV_1 q).symm
    rw [bX12_isLeaf_4, r_isPoint (d := d + 7) hS hw hF.1 hb, xcI_some, ekX12_isLeaf_4_2, xrZ_01 if01]
  · rw [q]
    refine RR_eq ((if_neg (by decide)).trans ((if_neg (by decide)).trans (if_pos (by decide)))) ?_
    refine done ?_ (lfV_2 q).symm
    rw [bX12_isLeaf_5, hF.2.1, r_bitOf (d := d + 7) (by omega), xcI_some, ekX12_isLeaf_5_3, xrZ_01 if01]
  · rw [q]
    refine RR_eq ((if_neg (by decide)).trans ((if_neg (by decide)).trans ((if_neg (by decide)).trans (if_pos (by decide))))) ?_
    refine done ?_ (lfV_3 q).symm
    rw [bX12_isLeaf_6, hF.2.2.1, r_bitOf (d := d + 7) (by omega), xcI_some, ekX12_isLeaf_6_3, xrZ_01 if01]
  · rw [q]
    refine RR_eq ((if_neg (by decide)).trans ((if_neg (by decide)).trans ((if_neg (by decide)).trans ((if_neg (by decide)).trans (if_pos (by decide)))))) ?_
    refine RR_eq (bX12_isLeaf_7 _ e L I J _) ?_
    refine RR_cI (r_isChosen (d := d) hC (by omega)) (fun x K J' ⟨j1, x1, f1, hK, hF2⟩ => ?_)
    subst j1 x1
    have h01 : n32 (chN S b) = 0 ∨ n32 (chN S b) = 1 := by
      have := chN_le (S := S) (b := b)
      have : chN S b = 0 ∨ chN S b = 1 := by omega
      rcases this with z | z
      · rw [z]; exact Or.inl rfl
      · rw [z]; exact Or.inr rfl
    rw [ekX12_isLeaf_7_2, xrZ_01 h01]
    exact RR_I ⟨rfl, (lfV_4 q).symm, f1, hK, hF2⟩
  · rw [q]
    refine RR_eq ((if_neg (by decide)).trans ((if_neg (by decide)).trans ((if_neg (by decide)).trans ((if_neg (by decide)).trans ((if_neg (by decide)).trans (if_pos (by decide))))))) ?_
    obtain ⟨a, a1, a2⟩ := ho.2.2.1 q
    refine done ?_ (lfV_5 q).symm
    rw [bX12_isLeaf_8, a2, n32_nat (by omega), r_isAhead (d := d + 6) hw hF.1 (by omega) hb, xcI_some, ekX12_isLeaf_8_3, xrZ_01 if01]
  · rw [q]
    refine RR_eq ((if_neg (by decide)).trans ((if_neg (by decide)).trans ((if_neg (by decide)).trans ((if_neg (by decide)).trans ((if_neg (by decide)).trans ((if_neg (by decide)).trans (if_pos (by decide)))))))) ?_
    refine done ?_ (lfV_6 q).symm
    rw [bX12_isLeaf_9, hxb, cond_true, n32_nat (by omega), (hF.1 b hb).1, r_cmp (d := d + 7), xcI_some, ekX12_isLeaf_9_6, xrZ_01 (cmpV_01 _ _ _)]
  · rw [q]
    refine RR_eq ((if_neg (by decide)).trans ((if_neg (by decide)).trans ((if_neg (by decide)).trans ((if_neg (by decide)).trans ((if_neg (by decide)).trans ((if_neg (by decide)).trans ((if_neg (by decide)).trans (if_pos (by decide))))))))) ?_
    refine done ?_ (lfV_7 q).symm
    rw [bX12_isLeaf_10, r_isPoint (d := d + 7) hS hw hF.1 hb, xcI_some, ekX12_isLeaf_10_2]
    by_cases z : pt S b = true
    · rw [if_pos z, if_pos z, if_neg (by decide : ¬ (1 : Int32) = 0), r_level (d := d + 7) hS hw hF.1 hb, xcI_some, ekX12_isLeaf_10_7, r_cmp (d := d + 7), xcI_some, ekX12_isLeaf_10_9]
      rcases cmpV_01 (S (226 + 3 * i)) (n32 (lv S b)) (S (227 + 3 * i)) with y | y
      · rw [y, if_pos rfl, bX12_isLeaf_11, bX12_isLeaf_12]; rfl
      · rw [y, if_neg (by decide : ¬ (1 : Int32) = 0), bX12_isLeaf_12]; rfl
    · rw [if_neg z, if_neg z, if_pos rfl, bX12_isLeaf_11, bX12_isLeaf_12]; rfl
  · rw [q]
    refine RR_eq ((if_neg (by decide)).trans ((if_neg (by decide)).trans ((if_neg (by decide)).trans ((if_neg (by decide)).trans ((if_neg (by decide)).trans ((if_neg (by decide)).trans ((if_neg (by decide)).trans ((if_neg (by decide)).trans (if_pos (by decide)))))))))) ?_
    refine done ?_ (lfV_8 q).symm
    rw [bX12_isLeaf_13, hxb, cond_true, n32_nat (by omega), hF.2.2.2.2.2.2.2.2.2.1 b hb, r_cmp (d := d + 7), xcI_some, ekX12_isLeaf_13_6, xrZ_01 (cmpV_01 _ _ _)]
  · rw [q]
    refine RR_eq ((if_neg (by decide)).trans ((if_neg (by decide)).trans ((if_neg (by decide)).trans ((if_neg (by decide)).trans ((if_neg (by decide)).trans ((if_neg (by decide)).trans ((if_neg (by decide)).trans ((if_neg (by decide)).trans (if_neg (by decide)))))))))) ?_
    refine done ?_ (lfV_9 q).symm
    rw [bX12_isLeaf_14, r_cmp (d := d + 7), xcI_some, ekX12_isLeaf_14_3, xrZ_01 (cmpV_01 _ _ _)]
end LEAF
