/-! The end of a book: what is told, and what stays. -/
def chc (S : TS) (n : Nat) : Int32 := if n = 0 then -1 else wy S (n - 1)
section BKE
variable {d d' e L : Nat} {S S' S2 : TS} {D D' : Nat → Int64} {T : Nat → Int32} {I K K2 M M' M2 : TI} {J J' J2 N N' N2 : TJ} {p q n k i m o a j b v r most g lo hi fr V B c C kk h l w : Nat} {x y v4 v5 v6 hw : Int32} {cf : xCF}
theorem CS_73 (f : ∀ o, o ≠ 73 → K o = I o) (hC : CS S D I J) : CS S D K J := CS_o (fun o k z1 z2 => by rw [f o (by omega)]) (by rw [f 6 (by omega)]) hC
/-- the class, behind the lines that were lived -/
theorem c_bookE (hh : h ≤ 1) (hC : CS S' D I J) (hW : WS S) (hp : pre S S') (hm : MK I S 208) (h79 : I 79 2 = n32 m) (h79' : I 79 1 = n32 o) (hm8 : m ≤ 8) (ho8 : o < 8) (hl : l ≤ C) (hC40 : C ≤ 40) (hl0 : l = 0 → S' = S) (hw : I 73 0 = n32 w) (hl1 : I 73 1 = n32 l) : ∃ K n, kX11_book_2_9 (xcall xprog (d + 39)) 0 (n32 h) (n32 C) (n32 l) (xst e L I J) = some (some (.int (if l < C then n32 l else -1)), xst e L K J) ∧ CS (if h = 0 then S else S') D K J ∧ WY S' n ∧ K 73 0 = n32 w ∧ K 73 1 = n32 l ∧ K 73 2 = fS S' ∧ K 73 3 = chc S' n ∧ (∀ o k, ¬ (o = 6 ∧ k = 3) → ¬ (7 ≤ o ∧ o < 42) → ¬ (47 ≤ o ∧ o < 71) → o ≠ 73 → ¬ (79 ≤ o ∧ o < 89) → K o k = I o k) ∧ ((h = 0 ∨ l = 0) ∧ (∀ o k, 79 ≤ o → o < 89 → K o k = I o k) ∨ (h ≠ 0 ∧ l ≠ 0 ∧ CK I K S m o)) := by
  have h8 := wf_V8 hW.1
  obtain ⟨_, a1, K1, J1, rfl, hj, a2, a3, a4⟩ := c_fresh (d := d + 33) (e := e) (L := L) hC
  subst J1
  obtain ⟨n, hn, _⟩ := id a3.2.2.2.2.2.2.2.2.2
  have x3 : xin 3 4 = true := by decide
  have c3 : Int32.toNatClampNeg 3 = 3 := by decide
  have hF2 : Fi S' (xu K1 73 2 (fS S')) := Fi_c (fun o k z1 z2 => by rw [xu_rne (by omega)]) a3
  generalize hKt : xu (xu K1 73 2 (fS S')) 73 3 (chc S' n) = Kt
  have et : xcall xprog (d + 39) 4 [.ref 72, .ref 47] (xst e L K1 J) = some (none, xst e L Kt J) := by
    rw [aX0_tell, bX0_tell_0, a3.2.1, c_choice (d := d + 37) hF2 hn, xcI_some, ekX0_tell_0_10, x3, cond_true, c3, ← hKt]
    rfl
  have kt : ∀ o, o ≠ 73 → Kt o = K1 o := fun o z => by rw [← hKt, xu_rne z, xu_rne z]
  have t0 : Kt 73 0 = n32 w := by rw [← hKt, xu_kne (by decide), xu_kne (by decide), a2 73 0 (by omega) (by omega), hw]
  have t1 : Kt 73 1 = n32 l := by rw [← hKt, xu_kne (by decide), xu_kne (by decide), a2 73 1 (by omega) (by omega), hl1]
  have t2 : Kt 73 2 = fS S' := by rw [← hKt, xu_kne (by decide), xu_ee]
  have t3 : Kt 73 3 = chc S' n := by rw [← hKt, xu_ee]
  have hCt : CS S' D Kt J := CS_73 kt a4
  have kI : ∀ o k, ¬ (o = 6 ∧ k = 3) → ¬ (47 ≤ o ∧ o < 71) → o ≠ 73 → Kt o k = I o k := fun o k z1 z2 z3 => by rw [kt o z3, a2 o k z2 (by omega)]
  have hmt : MK Kt S 208 := by
    refine ⟨?_, ?_, fun v hv => ?_⟩
    · rw [kI 208 0 (by omega) (by omega) (by omega)]; exact hm.1
    · rw [kI 208 1 (by omega) (by omega) (by omega)]; exact hm.2.1
    · rw [kI 208 _ (by omega) (by omega) (by omega)]; exact hm.2.2 v hv
  have fin : ∀ (K : TI), xlim (xcall xprog (d + 39)) mX11_book 4 [xD, xD, .int (n32 C), .int (n32 l)] [] (xst e L K J) = some (some (.int (if l < C then n32 l else -1)), xst e L K J) := fun K => by
    rw [bX11_book_4]
    by_cases z : l < C
    · rw [if_pos ((n32_lt (by omega) (by omega)).mpr z), if_pos z, bX11_book_6]
    · rw [if_neg (fun y => z ((n32_lt (by omega) (by omega)).mp y)), if_neg z, bX11_book_5, bX11_book_6]
  rw [ekX11_book_2_9, a1, xcV_some, ekX11_book_2_13, et, xcV_some, ekX11_book_2_18]
  by_cases h0 : h = 0
  · subst h0
    have z0 : n32 0 = 0 := rfl
    obtain ⟨b1, b2⟩ := rwd_CS (r := 208) hCt hW hp hmt (by omega)
    refine ⟨rwd Kt 208, n, ?_, by rw [if_pos rfl]; exact b1, hn, ?_, ?_, ?_, ?_, fun o k z1 z2 z3 z4 z5 => ?_, Or.inl ⟨Or.inl rfl, fun o k z1 z2 => ?_⟩⟩
    · rw [if_pos z0, c_rewind_208 (d := d + 38), xcV_some, ekX11_book_2_25, fin]
    · rw [b2 73 0 (by omega) (by omega), t0]
    · rw [b2 73 1 (by omega) (by omega), t1]
    · rw [b2 73 2 (by omega) (by omega), t2]
    · rw [b2 73 3 (by omega) (by omega), t3]
    · rw [b2 o k z2 (by omega), kI o k z1 z3 z4]
    · rw [b2 o k (by omega) (by omega), kI o k (by omega) (by omega) (by omega)]
  · have z0 : ¬ n32 h = 0 := fun y => h0 ((n32_eq0 (by omega)).mp y)
    rw [if_neg z0, bX11_book_3]
    by_cases l0 : l = 0
    · have z1 : n32 l ≤ 0 := by rw [l0]; decide
      refine ⟨Kt, n, ?_, by rw [if_neg h0]; exact hCt, hn, t0, t1, t2, t3, fun o k z1 z2 z3 z4 z5 => kI o k z1 z3 z4, Or.inl ⟨Or.inr l0, fun o k z1 z2 => kI o k (by omega) (by omega) (by omega)⟩⟩
      rw [if_pos z1, fin]
    · have z1 : ¬ n32 l ≤ 0 := fun y => l0 ((n32_ge0 (by omega)).mp y)
      obtain ⟨_, b1, K2, J2, rfl, hj, b2, b3⟩ := c_keep (d := d + 38) (e := e) (L := L) (J := J) (m := m) (o := o) (by rw [kI 79 2 (by omega) (by omega) (by omega), h79]) (by rw [kI 79 1 (by omega) (by omega) (by omega), h79']) hm8 ho8 hmt h8
      subst J2
      refine ⟨K2, n, ?_, ?_, hn, ?_, ?_, ?_, ?_, fun o k z1 z2 z3 z4 z5 => ?_, Or.inr ⟨h0, l0, CK_i b2 (fun q k z1 z2 => kI q k (by omega) (by omega) (by omega))⟩⟩
      · rw [if_neg z1, b1, xcV_some, ekX11_book_3_6, fin]
      · rw [if_neg h0]
        exact CS_o (fun o k z1 z2 => b3 o k (by omega)) (b3 6 3 (by omega)) hCt
      · rw [b3 73 0 (by omega), t0]
      · rw [b3 73 1 (by omega), t1]
      · rw [b3 73 2 (by omega), t2]
      · rw [b3 73 3 (by omega), t3]
      · rw [b3 o k z5, kI o k z1 z3 z4]
/-- the reference, behind the lines that were lived -/
theorem r_bookE (hh : h ≤ 1) (hR : RS S' M) (hWS : WS S) (hp : pre S S') (h224 : ∀ k, 224 ≤ k → S k = S' k) (h38 : M 209 38 = n32 m) (hm8 : m ≤ 8) (hl : l ≤ C) (hC40 : C ≤ 40) (hw0 : w = 0 → l = C) (h45 : M 209 45 = n32 C) (hfst : ∀ i, i < 222 → M 224 i = S (2 + i)) (hw : M 226 0 = n32 w) : ∃ K n, xlim (xcall xprog (d + 39)) mX12_book 8 [.ref 209, .int (n32 h), .int (if w = 0 then -1 else n32 l), xD] [] (xst e L M N) = some (some (.int (if w = 0 then -1 else n32 l)), xst e L K N) ∧ RS (if h = 0 then S else S') K ∧ WY S' n ∧ K 226 0 = n32 w ∧ K 226 1 = n32 l ∧ K 226 2 = fS S' ∧ K 226 3 = chc S' n ∧ K 209 47 = 1 ∧ (∀ o k, o ≠ 211 → ¬ (217 ≤ o ∧ o < 223) → o ≠ 226 → (o ≠ 209 ∨ ¬ ((26 ≤ k ∧ k ≤ 34) ∨ k = 38 ∨ k = 47)) → K o k = M o k) ∧ ((h = 0 ∨ l = 0) ∧ K 222 = M 222 ∧ K 209 38 = M 209 38 ∨ (h ≠ 0 ∧ l ≠ 0 ∧ RK M K S m)) := by
  obtain ⟨_, a1, M1, N1, rfl, hj, a2, a3, a4⟩ := r_lays (d := d + 32) (e := e) (L := L) (J := N) hR
  subst N1
  obtain ⟨n, hn, g30, g221⟩ := id a3.2.2.2.2.2.2.2.2.2.2
  have h20 := hn.1
  have x1 : xin 1 4 = true := by decide
  have c1 : Int32.toNatClampNeg 1 = 1 := by decide
  have x3 : xin 3 4 = true := by decide
  have c3 : Int32.toNatClampNeg 3 = 3 := by decide
  have m45 : M1 209 45 = n32 C := by rw [a2 209 45 (by omega) (by omega), h45]
  have ten : kX12_book_8_1 (xcall xprog (d + 39)) 209 (n32 h) (if w = 0 then -1 else n32 l) (xst e L M1 N) = xlim (xcall xprog (d + 39)) mX12_book 10 [.ref 209, .int (n32 h), .int (if w = 0 then -1 else n32 l), xD] [.int (n32 l), .int 1, .ref 226] (xst e L M1 N) := by
    rw [ekX12_book_8_1]
    by_cases z : w = 0
    · rw [if_pos z, if_pos im10, m45, hw0 z]
    · rw [if_neg z, if_neg (n32_neg (by omega)), bX12_book_9]
  generalize hMt : xu (xu (xu (xu M1 226 1 (n32 l)) 226 2 (fS S')) 226 3 (chc S' n)) 209 47 1 = Mt
  have ma : ∀ o, o ≠ 226 → (xu (xu M1 226 1 (n32 l)) 226 2 (fS S')) o = M1 o := fun o z => by rw [xu_rne z, xu_rne z]
  have twelve : xlim (xcall xprog (d + 39)) mX12_book 10 [.ref 209, .int (n32 h), .int (if w = 0 then -1 else n32 l), xD] [.int (n32 l), .int 1, .ref 226] (xst e L M1 N) = if n32 h = 0 then xcV (xcall xprog (d + 39) 221 [.ref 209, .ref 224, .int 0] (xst e L Mt N)) (kX12_book_12_10 (xcall xprog (d + 39)) (if w = 0 then -1 else n32 l)) else xlim (xcall xprog (d + 39)) mX12_book 13 [.ref 209, xD, .int (if w = 0 then -1 else n32 l), xD] [] (xst e L Mt N) := by
    rw [bX12_book_10, x1, cond_true, c1, g30, a3.2.2.1]
    by_cases z : n = 0
    · have z' : n32 n = 0 := by rw [z]; rfl
      have e3 : chc S' n = -1 := if_pos z
      rw [if_pos z', bX12_book_12, x3, cond_true, c3, ← hMt, e3]
    · have z' : ¬ n32 n = 0 := fun y => z ((n32_eq0 (by omega)).mp y)
      have e1 : n32 n - 1 = n32 (n - 1) := n32_sub (b := 1) (by omega)
      have e3 : wy S' (n - 1) = chc S' n := (if_neg z).symm
      rw [if_neg z', bX12_book_11, ma 209 (by decide), g30, e1, xin_n32 (by omega) (show n - 1 < 20 by omega), cond_true, n32_nat (by omega), ma 221 (by decide), g221 (n - 1) (by omega), e3, bX12_book_12, x3, cond_true, c3, ← hMt]
  have mt : ∀ o, o ≠ 226 → o ≠ 209 → Mt o = M1 o := fun o z1 z2 => by rw [← hMt, xu_rne z2, xu_rne z1, xu_rne z1, xu_rne z1]
  have mt9 : ∀ q, q ≠ 47 → Mt 209 q = M1 209 q := fun q z => by rw [← hMt, xu_kne z, xu_rne (by decide), xu_rne (by decide), xu_rne (by decide)]
  have t47 : Mt 209 47 = 1 := by rw [← hMt, xu_ee]
  have t0 : Mt 226 0 = n32 w := by rw [← hMt, xu_rne (by decide), xu_kne (by decide), xu_kne (by decide), xu_kne (by decide), a2 226 0 (by omega) (by omega), hw]
  have t1 : Mt 226 1 = n32 l := by rw [← hMt, xu_rne (by decide), xu_kne (by decide), xu_kne (by decide), xu_ee]
  have t2 : Mt 226 2 = fS S' := by rw [← hMt, xu_rne (by decide), xu_kne (by decide), xu_ee]
  have t3 : Mt 226 3 = chc S' n := by rw [← hMt, xu_rne (by decide), xu_ee]
  have hRt : RS S' Mt := ⟨a4.1, by rw [mt 211 (by omega) (by omega)]; exact a4.2.1, fun q => Rf_c (fun o k z1 z2 => by rw [mt o (by omega) (by omega)]) (fun k z1 z2 => mt9 k (by omega)) (a4.2.2 (by rw [← mt9 34 (by omega)]; exact q))⟩
  have kM : ∀ o k, ¬ (217 ≤ o ∧ o < 222) → o ≠ 226 → (o ≠ 209 ∨ ¬ ((26 ≤ k ∧ k ≤ 34) ∨ k = 47)) → Mt o k = M o k := fun o k z1 z2 z3 => by
    by_cases y : o = 209
    · subst y
      rw [mt9 k (by omega), a2 209 k (by omega) (by omega)]
    · rw [mt o z2 y, a2 o k z1 (by omega)]
  have m38 : Mt 209 38 = n32 m := by rw [kM 209 38 (by omega) (by omega) (by omega), h38]
  rw [bX12_book_8, a1, xcV_some, ten, twelve]
  by_cases h0 : h = 0
  · subst h0
    have z0 : n32 0 = 0 := rfl
    obtain ⟨_, b1, M2, N2, rfl, hj, b2, b3, b4, b5⟩ := r_brings_224 (d := d + 38) (e := e) (L := L) (I := Mt) (J := N)
    subst N2
    have e211 : M2 211 = S := by
      funext k
      by_cases z : k < 2 ∨ 224 ≤ k
      · rw [b5 k z, hRt.2.1]
        rcases z with z | z
        · have : k = 0 ∨ k = 1 := by omega
          rcases this with rfl | rfl
          · exact hp.1.symm
          · exact hp.2.1.symm
        · exact (h224 k z).symm
      · have := b4 (k - 2) (by omega)
        rw [show 2 + (k - 2) = k by omega] at this
        rw [this, kM 224 _ (by omega) (by omega) (by omega), hfst _ (by omega), show 2 + (k - 2) = k by omega]
    refine ⟨M2, n, ?_, by rw [if_pos rfl]; exact RS_new hWS e211 b3, hn, ?_, ?_, ?_, ?_, ?_, fun o k z1 z2 z3 z4 => ?_, Or.inl ⟨Or.inl rfl, ?_, ?_⟩⟩
    · rw [if_pos z0, b1, xcV_some, ekX12_book_12_10, bX12_book_14]
    · rw [b2 226 0 (by omega) (by omega), t0]
    · rw [b2 226 1 (by omega) (by omega), t1]
    · rw [b2 226 2 (by omega) (by omega), t2]
    · rw [b2 226 3 (by omega) (by omega), t3]
    · rw [b2 209 47 (by omega) (by omega), t47]
    · rw [b2 o k z1 (by omega), kM o k (by omega) z3 (by omega)]
    · funext k
      rw [b2 222 k (by omega) (by omega), kM 222 k (by omega) (by omega) (by omega)]
    · rw [b2 209 38 (by omega) (by omega), m38, h38]
  · have z0 : ¬ n32 h = 0 := fun y => h0 ((n32_eq0 (by omega)).mp y)
    rw [if_neg z0, bX12_book_13, t1]
    by_cases l0 : l = 0
    · have z1 : n32 l ≤ 0 := by rw [l0]; decide
      refine ⟨Mt, n, ?_, by rw [if_neg h0]; exact hRt, hn, t0, t1, t2, t3, t47, fun o k z1 z2 z3 z4 => kM o k (by omega) z3 (by omega), Or.inl ⟨Or.inr l0, ?_, by rw [m38, h38]⟩⟩
      · rw [if_pos z1, bX12_book_14]
      · funext k
        exact kM 222 k (by omega) (by omega) (by omega)
    · have z1 : ¬ n32 l ≤ 0 := fun y => l0 ((n32_ge0 (by omega)).mp y)
      obtain ⟨_, b1, M2, N2, rfl, hj, b2, b3⟩ := r_stores_224 (d := d + 38) (e := e) (L := L) (I := Mt) (J := N) m38 hm8
      subst N2
      have e224 : ∀ i, i < 222 → Mt 224 i = S (2 + i) := fun i hi => by rw [kM 224 i (by omega) (by omega) (by omega), hfst i hi]
      have e222 : ∀ i, Mt 222 i = M 222 i := fun i => kM 222 i (by omega) (by omega) (by omega)
      have b9 : ∀ k, k ≠ 38 → M2 209 k = Mt 209 k := fun k z => b2 209 k (by omega) (by omega)
      have rk : RK M M2 S m := by
        rcases b3 with ⟨c1, c2, c3, c4⟩ | ⟨c1, c2, c3, c4⟩
        · exact Or.inl ⟨c1, c2, fun k hk => by rw [c3 k hk, e222 k], fun i hi => by rw [c4 i hi, e224 i hi]⟩
        · exact Or.inr ⟨c1, c2, fun k hk => by rw [c3 k hk, e222 _], fun i hi => by rw [c4 i hi, e224 i hi]⟩
      have hR2 : RS S' M2 := ⟨hRt.1, by rw [show M2 211 = Mt 211 from funext fun k => b2 211 k (by omega) (by omega)]; exact hRt.2.1, fun q => Rf_c (fun o k z1 z2 => b2 o k (by omega) (by omega)) (fun k z1 z2 => b9 k (by omega)) (hRt.2.2 (by rw [← b9 34 (by omega)]; exact q))⟩
      refine ⟨M2, n, ?_, by rw [if_neg h0]; exact hR2, hn, ?_, ?_, ?_, ?_, ?_, fun o k z1 z2 z3 z4 => ?_, Or.inr ⟨h0, l0, rk⟩⟩
      · rw [if_neg z1, b1, xcV_some, ekX12_book_13_8, bX12_book_14]
      · rw [b2 226 0 (by omega) (by omega), t0]
      · rw [b2 226 1 (by omega) (by omega), t1]
      · rw [b2 226 2 (by omega) (by omega), t2]
      · rw [b2 226 3 (by omega) (by omega), t3]
      · rw [b2 209 47 (by omega) (by omega), t47]
      · rw [b2 o k (by omega) (by omega), kM o k (by omega) z3 (by omega)]
end BKE
