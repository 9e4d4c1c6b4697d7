/-! What the readers do with the token at hand. -/
def fC (K I : TI) (J' J : TJ) : Prop := (∀ o, o ≠ 5 → K o = I o) ∧ ∀ o, o ≠ 5 → J' o = J o
def fR (M' M : TI) (N' N : TJ) : Prop := (∀ o, o ≠ 209 → M' o = M o) ∧ (∀ o, o ≠ 209 → N' o = N o) ∧ ∀ q, ¬ (q = 4 ∨ (12 ≤ q ∧ q ≤ 17) ∨ q = 19) → M' 209 q = M 209 q
def Par (T : Nat → Int32) (n most : Nat) (I : TI) (J : TJ) (M : TI) (N : TJ) : Prop := Src T n most I M ∧ Tok I J M N ∧ I 5 2 = M 209 16
def Flt (K M : TI) : Prop := K 5 2 = M 209 16 ∧ K 5 3 = M 209 17
/-- two outcomes: both go on, or both have the same fault -/
def O2 (e L : Nat) (c r : Option xOut) (fv : Value) (F : TI → TJ → TI → TJ → Prop) (Z : Value → TI → TJ → TI → TJ → Prop) : Prop :=
  (∃ cv K J' M' N', c = some (some cv, xst e L K J') ∧ r = some (some (.int 1), xst e L M' N') ∧ Z cv K J' M' N') ∨
  (∃ K J' M' N', c = some (some fv, xst e L K J') ∧ r = some (some (.int 0), xst e L M' N') ∧ Flt K M' ∧ F K J' M' N')
/-- the first of n names that is w -/
def fw (f : Nat → Int64) (w : Int64) : Nat → Int32
  | 0 => -1
  | n + 1 => if fw f w n = -1 then (if f n = w then n32 n else -1) else fw f w n
def nfF (s : Bool) (w : Int64) : Nat → Bool
  | 0 => s
  | k + 1 => nfF s w k && !(decide (xwd k = w))
section PRM
variable {d d' e L : Nat} {T : Nat → Int32} {I K K2 M M' M2 : TI} {J J' J2 N N' N2 : TJ} {p q n k i m a j b most g lo hi fr : Nat} {s t : Bool} {x y : Int32} {w : Int64} {f f' : Nat → Int64}
theorem fC_r : fC I I J J := ⟨fun _ _ => rfl, fun _ _ => rfl⟩
theorem fR_r : fR M M N N := ⟨fun _ _ => rfl, fun _ _ => rfl, fun _ _ => rfl⟩
theorem fC_t (h : fC K I J' J) (h' : fC K2 K J2 J') : fC K2 I J2 J := ⟨fun o z => (h'.1 o z).trans (h.1 o z), fun o z => (h'.2 o z).trans (h.2 o z)⟩
theorem fR_t (h : fR M' M N' N) (h' : fR M2 M' N2 N') : fR M2 M N2 N := ⟨fun o z => (h'.1 o z).trans (h.1 o z), fun o z => (h'.2.1 o z).trans (h.2.1 o z), fun q z => (h'.2.2 q z).trans (h.2.2 q z)⟩
theorem ca_f (h : caF K I J' J) : fC K I J' J := ⟨fun o z => funext fun q => h.1 o q (Or.inl z), fun o z => funext fun q => h.2 o q (Or.inl z)⟩
theorem nx_f (h : nxF M' M N' N) : fR M' M N' N := ⟨fun o z => funext fun q => h.1 o q (Or.inl z), fun o z => funext fun q => h.2 o q (Or.inl z), fun q z => h.1 209 q (Or.inr (by omega))⟩
theorem Tok_c (h0 : K 5 0 = I 5 0) (h8 : K 5 8 = I 5 8) (h11 : K 5 11 = I 5 11) (hJ : J' 5 1 = J 5 1) (hM : ∀ q, 12 ≤ q → q ≤ 15 → M' 209 q = M 209 q) (hN : N' 209 18 = N 209 18) (h : Tok I J M N) : Tok K J' M' N' := by
  unfold Tok
  rw [h0, h8, h11, hJ, hN, hM 12 (by omega) (by omega), hM 13 (by omega) (by omega), hM 15 (by omega) (by omega)]
  exact h
theorem Par_c (hI : ∀ o, o ≤ 5 → K o = I o) (hJ : J' 5 = J 5) (hM : ∀ q, q ≤ 19 → M' 209 q = M 209 q) (hM2 : M' 210 = M 210) (hN : N' 209 = N 209) (h : Par T n most I J M N) : Par T n most K J' M' N' := by
  have e5 := hI 5 (by omega)
  refine ⟨?_, Tok_c (by rw [e5]) (by rw [e5]) (by rw [e5]) (by rw [hJ]) (fun q _ z => hM q (by omega)) (by rw [hN]) h.2.1, ?_⟩
  · have h1 := h.1
    unfold Src at h1 ⊢
    rw [e5, hI 1 (by omega), hI 2 (by omega), hM 3 (by omega), hM 4 (by omega), hM 5 (by omega), hM2]
    exact h1
  · rw [e5, hM 16 (by omega)]
    exact h.2.2
theorem lk_adv (h : Par T n most I J M N) : ∃ K J' M' N', xcall xprog (d + 2) 89 [.ref 5] (xst e L I J) = some (none, xst e L K J') ∧ xcall xprog (d' + 2) 167 [.ref 209] (xst e L M N) = some (none, xst e L M' N') ∧ Par T n most K J' M' N' ∧ fC K I J' J ∧ fR M' M N' N ∧ M' 209 19 = M 209 19 := by
  obtain ⟨K, J', M', N', h1, h2, h3, h4, h5, h6⟩ := lk_next (d := d) (d' := d') (e := e) (L := L) (J := J) (N := N) h.1
  exact ⟨K, J', M', N', h1, h2, ⟨h5, h6, by rw [h3.1 5 2 (by omega), h4.1 209 16 (by omega)]; exact h.2.2⟩, ca_f h3, nx_f h4, h4.1 209 19 (by omega)⟩
theorem lk_ref (v : Int32) (h : Par T n most I J M N) : ∃ K M', xcall xprog (d + 1) 94 [.ref 5, .int v] (xst e L I J) = some (some (.int 0), xst e L K J) ∧ xcall xprog (d' + 1) 168 [.ref 209, .int v] (xst e L M N) = some (some (.int 0), xst e L M' N) ∧ Flt K M' ∧ fC K I J J ∧ fR M' M N N := by
  refine ⟨_, _, (aX9_refuse _ e L I J v).trans (bX9_refuse_0 _ e L I J v), (aX12_bad _ e L M N v).trans (bX12_bad_0 _ e L M N v), ⟨?_, ?_⟩, ⟨fun o z => ?_, fun _ _ => rfl⟩, ⟨fun o z => ?_, fun _ _ => rfl, fun q z => ?_⟩⟩
  · rw [xu_kne (by decide), xu_ee, xu_kne (by decide), xu_ee]
  · rw [xu_ee, xu_ee]
    exact h.2.1.1
  · rw [xu_rne z, xu_rne z]
  · rw [xu_rne z, xu_rne z]
  · rw [xu_kne (by omega), xu_kne (by omega)]
-- words
theorem kw_i : ∀ m, m ≤ 21 → ∀ k, k < 21 → kwN w m = n32 (64 + k) → xwd k = w := by
  intro m
  induction m with
  | zero =>
    intro _ k hk h
    exact absurd ((n32_inj (a := 2) (by omega) (by omega)).mp h) (by omega)
  | succ m ih =>
    intro hm k hk h
    rw [kw_s] at h
    by_cases z : kwN w m = 2
    · rw [if_pos z] at h
      by_cases y : xwd m = w
      · rw [if_pos y] at h
        have := (n32_inj (by omega) (by omega)).mp h
        rw [show k = m by omega]
        exact y
      · rw [if_neg y] at h
        exact absurd ((n32_inj (a := 2) (by omega) (by omega)).mp h) (by omega)
    · rw [if_neg z] at h
      exact ih (by omega) k hk h
theorem kw_d : ∀ k, k < 21 → kwN (xwd k) 21 = n32 (64 + k) := by decide
theorem kw_iff (hk : k < 21) : (kwN w 21 = n32 (64 + k)) ↔ w = xwd k := ⟨fun h => (kw_i 21 (by omega) k hk h).symm, fun h => by rw [h, kw_d k hk]⟩
theorem kw_or : ∀ m, m ≤ 21 → (kwN w m = 2 ∧ ∀ k, k < m → xwd k ≠ w) ∨ ∃ k, k < m ∧ kwN w m = n32 (64 + k) ∧ xwd k = w := by
  intro m
  induction m with
  | zero => intro _; exact Or.inl ⟨rfl, fun k hk => absurd hk (Nat.not_lt_zero k)⟩
  | succ m ih =>
    intro hm
    rcases ih (by omega) with ⟨h1, h2⟩ | ⟨k, h1, h2, h3⟩
    · rw [kw_s, if_pos h1]
      by_cases y : xwd m = w
      · exact Or.inr ⟨m, by omega, if_pos y, y⟩
      · refine Or.inl ⟨if_neg y, fun k hk => ?_⟩
        by_cases z : k = m
        · rw [z]; exact y
        · exact h2 k (by omega)
    · refine Or.inr ⟨k, by omega, ?_, h3⟩
      rw [kw_s, if_neg (by rw [h2]; exact fun z => absurd ((n32_inj (b := 2) (by omega) (by omega)).mp z) (by omega)), h2]
theorem kw_r : ∃ g, (g = 2 ∨ (64 ≤ g ∧ g < 85)) ∧ kwN w 21 = n32 g := by
  rcases kw_or (w := w) 21 (by omega) with ⟨h1, _⟩ | ⟨k, h1, h2, _⟩
  · exact ⟨2, Or.inl rfl, h1⟩
  · exact ⟨64 + k, Or.inr (by omega), h2⟩
/-- the kind as a number -/
theorem tok_k (h : Tok I J M N) : ∃ g, g < 85 ∧ I 5 0 = n32 g := by
  rcases h.2 with h | h | h | ⟨g, h1, h2, _⟩ | h
  · exact ⟨0, by omega, h.1⟩
  · exact ⟨1, by omega, h.1⟩
  · exact ⟨3, by omega, h.1⟩
  · exact ⟨g, by omega, h2⟩
  · obtain ⟨g, g1, g2⟩ := kw_r (w := N 209 18)
    exact ⟨g, by omega, h.1.trans g2⟩
theorem lit_ne {a b : Nat} (ha : a < 1000) (hb : b < 1000) (h : a ≠ b) : ¬ n32 a = n32 b := fun z => h ((n32_inj (by omega) (by omega)).mp z)
theorem tok_sign (hg : g = 40 ∨ g = 41 ∨ (59 ≤ g ∧ g ≤ 62)) (h : Tok I J M N) : (I 5 0 = n32 g) ↔ (M 209 12 = 3 ∧ M 209 15 = n32 g) := by
  rcases h.2 with h | h | h | ⟨g', h1, h2, h3, h4⟩ | h
  · rw [h.1, h.2]
    exact ⟨fun z => absurd z (lit_ne (a := 0) (by omega) (by omega) (by omega)), fun z => absurd z.1 (by decide)⟩
  · rw [h.1, h.2]
    exact ⟨fun z => absurd z (lit_ne (a := 1) (by omega) (by omega) (by omega)), fun z => absurd z.1 (by decide)⟩
  · rw [h.1, h.2.1]
    exact ⟨fun z => absurd z (lit_ne (a := 3) (by omega) (by omega) (by omega)), fun z => absurd z.1 (by decide)⟩
  · rw [h2, h3, h4]
    exact ⟨fun z => ⟨rfl, z⟩, fun z => z.2⟩
  · obtain ⟨g2, g3, g4⟩ := kw_r (w := N 209 18)
    rw [h.1, h.2.1, g4]
    exact ⟨fun z => absurd z (lit_ne (by omega) (by omega) (by omega)), fun z => absurd z.1 (by decide)⟩
theorem tok_word (hk : k < 21) (h : Tok I J M N) : (I 5 0 = n32 (64 + k)) ↔ (M 209 12 = 1 ∧ N 209 18 = xwd k) := by
  rcases h.2 with h | h | h | ⟨g', h1, h2, h3, h4⟩ | h
  · rw [h.1, h.2]
    exact ⟨fun z => absurd z (lit_ne (a := 0) (by omega) (by omega) (by omega)), fun z => absurd z.1 (by decide)⟩
  · rw [h.1, h.2]
    exact ⟨fun z => absurd z (lit_ne (a := 1) (by omega) (by omega) (by omega)), fun z => absurd z.1 (by decide)⟩
  · rw [h.1, h.2.1]
    exact ⟨fun z => absurd z (lit_ne (a := 3) (by omega) (by omega) (by omega)), fun z => absurd z.1 (by decide)⟩
  · rw [h2, h3]
    exact ⟨fun z => absurd z (lit_ne (by omega) (by omega) (by omega)), fun z => absurd z.1 (by decide)⟩
  · rw [h.1, h.2.1, kw_iff hk]
    exact ⟨fun z => ⟨rfl, z⟩, fun z => z.2⟩
theorem tok_end (h : Tok I J M N) : (I 5 0 = 0) ↔ (M 209 12 = 0) := by
  rcases h.2 with h | h | h | ⟨g', h1, h2, h3, h4⟩ | h
  · rw [h.1, h.2]
  · rw [h.1, h.2]; decide
  · rw [h.1, h.2.1]; decide
  · rw [h2, h3]
    exact ⟨fun z => absurd z (lit_ne (b := 0) (by omega) (by omega) (by omega)), fun z => absurd z (by decide)⟩
  · obtain ⟨g2, g3, g4⟩ := kw_r (w := N 209 18)
    rw [h.1, h.2.1, g4]
    exact ⟨fun z => absurd z (lit_ne (b := 0) (by omega) (by omega) (by omega)), fun z => absurd z (by decide)⟩
theorem tok_dig (h : Tok I J M N) : (I 5 0 = 3 ∧ M 209 12 = 2 ∧ I 5 11 = M 209 15 ∧ ∃ m, m < 1000 ∧ M 209 15 = n32 m) ∨ (¬ I 5 0 = 3 ∧ ¬ M 209 12 = 2) := by
  rcases h.2 with h | h | h | ⟨g', h1, h2, h3, h4⟩ | h
  · rw [h.1, h.2]; exact Or.inr (by decide)
  · rw [h.1, h.2]; exact Or.inr (by decide)
  · exact Or.inl h
  · rw [h2, h3]
    exact Or.inr ⟨lit_ne (b := 3) (by omega) (by omega) (by omega), by decide⟩
  · obtain ⟨g2, g3, g4⟩ := kw_r (w := N 209 18)
    rw [h.1, h.2.1, g4]
    exact Or.inr ⟨lit_ne (b := 3) (by omega) (by omega) (by omega), by decide⟩
theorem tok_name (h : Tok I J M N) : (I 5 0 = 2 ∧ M 209 12 = 1 ∧ J 5 1 = N 209 18 ∧ Wd (N 209 18) ∧ ∀ k, k < 21 → xwd k ≠ N 209 18) ∨ (¬ I 5 0 = 2 ∧ (¬ M 209 12 = 1 ∨ (M 209 12 = 1 ∧ ∃ k, k < 21 ∧ xwd k = N 209 18))) := by
  rcases h.2 with h | h | h | ⟨g', h1, h2, h3, h4⟩ | h
  · rw [h.1, h.2]; exact Or.inr ⟨by decide, Or.inl (by decide)⟩
  · rw [h.1, h.2]; exact Or.inr ⟨by decide, Or.inl (by decide)⟩
  · rw [h.1, h.2.1]; exact Or.inr ⟨by decide, Or.inl (by decide)⟩
  · rw [h2, h3]
    exact Or.inr ⟨lit_ne (b := 2) (by omega) (by omega) (by omega), Or.inl (by decide)⟩
  · rcases kw_or (w := N 209 18) 21 (by omega) with ⟨h1, h2⟩ | ⟨k, h1, h2, h3⟩
    · exact Or.inl ⟨h.1.trans h1, h.2.1, h.2.2.1, h.2.2.2, h2⟩
    · refine Or.inr ⟨?_, Or.inr ⟨h.2.1, k, h1, h3⟩⟩
      rw [h.1, h2]
      exact lit_ne (b := 2) (by omega) (by omega) (by omega)
theorem r_isSign (hg : g = 40 ∨ g = 41 ∨ (59 ≤ g ∧ g ≤ 62)) (hx : x = n32 g) (h : Tok I J M N) : xcall xprog (d + 1) 170 [.ref 209, .int x] (xst e L M N) = some (some (.int (if I 5 0 = n32 g then 1 else 0)), xst e L M N) := by
  rw [sX12_isSign, hx]
  by_cases z : I 5 0 = n32 g
  · obtain ⟨z1, z2⟩ := (tok_sign hg h).mp z
    rw [if_pos z, if_pos z1, if_pos z2]
  · rw [if_neg z]
    by_cases y : M 209 12 = 3
    · rw [if_pos y, if_neg (fun v => z ((tok_sign hg h).mpr ⟨y, v⟩))]
    · rw [if_neg y]
theorem r_isWord (hk : k < 21) (hx : w = xwd k) (h : Tok I J M N) : xcall xprog (d + 1) 169 [.ref 209, .long w] (xst e L M N) = some (some (.int (if I 5 0 = n32 (64 + k) then 1 else 0)), xst e L M N) := by
  rw [sX12_isWord, hx]
  by_cases z : I 5 0 = n32 (64 + k)
  · obtain ⟨z1, z2⟩ := (tok_word hk h).mp z
    rw [if_pos z, if_pos z1, if_pos ((lg_cmp_eq _ _).mpr z2)]
  · rw [if_neg z]
    by_cases y : M 209 12 = 1
    · rw [if_pos y, if_neg (fun v => z ((tok_word hk h).mpr ⟨y, (lg_cmp_eq _ _).mp v⟩))]
    · rw [if_neg y]
theorem nf_f : ∀ k, nfF false w k = false := by
  intro k
  induction k with
  | zero => rfl
  | succ k ih => show (nfF false w k && !(decide (xwd k = w))) = false; rw [ih, Bool.false_and]
theorem nf_t : ∀ k, (nfF true w k = true) ↔ ∀ i, i < k → xwd i ≠ w := by
  intro k
  induction k with
  | zero => exact ⟨fun _ i hi => absurd hi (Nat.not_lt_zero i), fun _ => rfl⟩
  | succ k ih =>
    show ((nfF true w k && !(decide (xwd k = w))) = true) ↔ _
    rw [Bool.and_eq_true, ih, Bool.not_eq_true', decide_eq_false_iff_not]
    constructor
    · intro h i hi
      by_cases z : i = k
      · rw [z]; exact h.2
      · exact h.1 i (by omega)
    · intro h
      exact ⟨fun i hi => h i (by omega), h k (by omega)⟩
theorem r_isName (h : Tok I J M N) (hr : ∀ k, k < 21 → N 216 k = xwd k) : xcall xprog (d + 1) 172 [.ref 209] (xst e L M N) = some (some (.int (if I 5 0 = 2 then 1 else 0)), xst e L M N) := by
  rw [aX12_isName, bX12_isName_0]
  have e3 : (if M 209 12 = 1 then xlim (xcall xprog d) mX12_isName 2 [.ref 209, xD, xD] [.int 1] (xst e L M N) else xlim (xcall xprog d) mX12_isName 1 [.ref 209, xD, xD] [] (xst e L M N)) = xlim (xcall xprog d) mX12_isName 3 [.ref 209, .int (bI (nfF (decide (M 209 12 = 1)) (N 209 18) 0)), .int (n32 0)] [] (xst e L M N) := by
    by_cases z : M 209 12 = 1
    · rw [if_pos z, bX12_isName_2, decide_eq_true z]; rfl
    · rw [if_neg z, bX12_isName_1, bX12_isName_2, decide_eq_false z]; rfl
  rw [e3]
  have main : ∀ s m k, k + m = 21 → xlim (xcall xprog d) mX12_isName 3 [.ref 209, .int (bI (nfF s (N 209 18) k)), .int (n32 k)] [] (xst e L M N) = some (some (.int (bI (nfF s (N 209 18) 21))), xst e L M N) := by
    intro s m
    induction m with
    | zero =>
      intro k hk
      have : k = 21 := by omega
      subst this
      rw [bX12_isName_3, if_neg (by decide), bX12_isName_6, xrZ_b]
    | succ m ih =>
      intro k hk
      rw [← ih (k + 1) (by omega), bX12_isName_3, if_pos ((q21l (by omega)).mpr (by omega)), xin_n32 (by omega) (show k < 21 by omega), cond_true, n32_nat (by omega), hr k (by omega)]
      show _ = xlim (xcall xprog d) mX12_isName 3 [.ref 209, .int (bI (nfF s (N 209 18) k && !(decide (xwd k = N 209 18)))), .int (n32 (k + 1))] [] (xst e L M N)
      cases z : nfF s (N 209 18) k with
      | true =>
        rw [if_neg bI_t0]
        by_cases y : N 209 18 = xwd k
        · rw [if_pos ((lg_cmp_eq _ _).mpr y), bX12_isName_4, bX12_isName_5, n32_succ, decide_eq_true y.symm]; rfl
        · rw [if_neg (fun q => y ((lg_cmp_eq _ _).mp q)), bX12_isName_5, n32_succ, decide_eq_false (fun q => y q.symm)]; rfl
      | false => rw [if_pos bI_f0, bX12_isName_4, bX12_isName_5, n32_succ, Bool.false_and]; rfl
  rw [main _ 21 0 (by omega)]
  rcases tok_name h with ⟨h1, h2, _, _, h5⟩ | ⟨h1, h2⟩
  · rw [if_pos h1, decide_eq_true h2, (nf_t 21).mpr h5]; rfl
  · rw [if_neg h1]
    rcases h2 with y | ⟨y0, k, y1, y2⟩
    · rw [decide_eq_false y, nf_f]; rfl
    · rw [decide_eq_true y0]
      cases z : nfF true (N 209 18) 21 with
      | true => exact absurd y2 ((nf_t 21).mp z k y1)
      | false => rfl
end PRM
