/-! Tokens are taken. -/
theorem i10 : ¬ (1 : Int32) = 0 := by decide
theorem i00 : (0 : Int32) = 0 := rfl
theorem im10 : (-1 : Int32) < 0 := by decide
theorem im1 : (-1 : Int32) = -1 := rfl
section TAK
variable {d d' e L : Nat} {T : Nat → Int32} {I K K2 M M' M2 : TI} {J J' J2 N N' N2 : TJ} {p q n k i m a j b most g lo hi fr : Nat} {s t : Bool} {x y : Int32} {w : Int64} {f f' : Nat → Int64}
theorem fw_s : fw f w (n + 1) = if fw f w n = -1 then (if f n = w then n32 n else -1) else fw f w n := rfl
theorem fw_or (hn : n < 1000) : (fw f w n = -1 ∧ ∀ k, k < n → f k ≠ w) ∨ ∃ k, k < n ∧ fw f w n = n32 k ∧ f k = w := by
  induction n with
  | zero => exact Or.inl ⟨rfl, fun k hk => absurd hk (Nat.not_lt_zero k)⟩
  | succ n ih =>
    rcases ih (by omega) with ⟨h1, h2⟩ | ⟨k, h1, h2, h3⟩
    · rw [fw_s, if_pos h1]
      by_cases y : f n = w
      · exact Or.inr ⟨n, by omega, if_pos y, y⟩
      · refine Or.inl ⟨if_neg y, fun k hk => ?_⟩
        by_cases z : k = n
        · rw [z]; exact y
        · exact h2 k (by omega)
    · refine Or.inr ⟨k, by omega, ?_, h3⟩
      rw [fw_s, if_neg (by rw [h2]; exact n32_ne1 (by omega)), h2]
theorem fw_c (h : ∀ k, k < n → f k = f' k) : fw f w n = fw f' w n := by
  induction n with
  | zero => rfl
  | succ n ih => rw [fw_s, fw_s, ih (fun k hk => h k (by omega)), h n (by omega)]
theorem fw_hit (hk : k < 1000) (h0 : fw f w k = -1) (h1 : f k = w) : ∀ m, fw f w (k + 1 + m) = n32 k := by
  intro m
  induction m with
  | zero => rw [Nat.add_zero, fw_s, if_pos h0, if_pos h1]
  | succ m ih =>
    show fw f w (k + 1 + m + 1) = _
    rw [fw_s, ih, if_neg (n32_ne1 (by omega))]
theorem c_voterNamed_7 (hn : I 7 1 = n32 n) (h8 : n ≤ 8) : xcall xprog (d + 1) 31 [.ref 7, .long w] (xst e L I J) = some (some (.int (fw (J 8) w n)), xst e L I J) := by
  rw [aX2_voterNamed_7, bX2_voterNamed_7_0]
  have main : ∀ m k, k + m = n → fw (J 8) w k = -1 → xlim (xcall xprog d) mX2_voterNamed 1 [.ref 7, .long w, xD, .int (n32 k)] [] (xst e L I J) = some (some (.int (fw (J 8) w n)), xst e L I J) := by
    intro m
    induction m with
    | zero =>
      intro k hk h0
      have : k = n := by omega
      subst this
      rw [bX2_voterNamed_7_1, hn, if_neg (fun z => absurd ((n32_lt (by omega) (by omega)).mp z) (by omega)), bX2_voterNamed_7_3, h0]
    | succ m ih =>
      intro k hk h0
      rw [bX2_voterNamed_7_1, hn, if_pos ((n32_lt (by omega) (by omega)).mpr (by omega)), xin_n32 (by omega) (show k < 8 by omega), cond_true, n32_nat (by omega)]
      by_cases y : J 8 k = w
      · have := fw_hit (by omega) h0 y m
        rw [show k + 1 + m = n by omega] at this
        rw [if_pos ((lg_cmp_eq _ _).mpr y), this]
      · rw [if_neg (fun z => y ((lg_cmp_eq _ _).mp z)), bX2_voterNamed_7_2, n32_succ]
        exact ih (k + 1) (by omega) (by rw [fw_s, if_pos h0, if_neg y])
  exact main n 0 (by omega) rfl
theorem c_voterNamed_89 (hn : I 89 1 = n32 n) (h8 : n ≤ 8) : xcall xprog (d + 1) 31 [.ref 89, .long w] (xst e L I J) = some (some (.int (fw (J 90) w n)), xst e L I J) := by
  rw [aX2_voterNamed_89, bX2_voterNamed_89_0]
  have main : ∀ m k, k + m = n → fw (J 90) w k = -1 → xlim (xcall xprog d) mX2_voterNamed 1 [.ref 89, .long w, xD, .int (n32 k)] [] (xst e L I J) = some (some (.int (fw (J 90) w n)), xst e L I J) := by
    intro m
    induction m with
    | zero =>
      intro k hk h0
      have : k = n := by omega
      subst this
      rw [bX2_voterNamed_89_1, hn, if_neg (fun z => absurd ((n32_lt (by omega) (by omega)).mp z) (by omega)), bX2_voterNamed_89_3, h0]
    | succ m ih =>
      intro k hk h0
      rw [bX2_voterNamed_89_1, hn, if_pos ((n32_lt (by omega) (by omega)).mpr (by omega)), xin_n32 (by omega) (show k < 8 by omega), cond_true, n32_nat (by omega)]
      by_cases y : J 90 k = w
      · have := fw_hit (by omega) h0 y m
        rw [show k + 1 + m = n by omega] at this
        rw [if_pos ((lg_cmp_eq _ _).mpr y), this]
      · rw [if_neg (fun z => y ((lg_cmp_eq _ _).mp z)), bX2_voterNamed_89_2, n32_succ]
        exact ih (k + 1) (by omega) (by rw [fw_s, if_pos h0, if_neg y])
  exact main n 0 (by omega) rfl
theorem c_blockNamed_7 (hn : I 7 2 = n32 n) (h8 : n ≤ 20) : xcall xprog (d + 1) 32 [.ref 7, .long w] (xst e L I J) = some (some (.int (fw (J 10) w n)), xst e L I J) := by
  rw [aX2_blockNamed_7, bX2_blockNamed_7_0]
  have main : ∀ m k, k + m = n → fw (J 10) w k = -1 → xlim (xcall xprog d) mX2_blockNamed 1 [.ref 7, .long w, xD, .int (n32 k)] [] (xst e L I J) = some (some (.int (fw (J 10) w n)), xst e L I J) := by
    intro m
    induction m with
    | zero =>
      intro k hk h0
      have : k = n := by omega
      subst this
      rw [bX2_blockNamed_7_1, hn, if_neg (fun z => absurd ((n32_lt (by omega) (by omega)).mp z) (by omega)), bX2_blockNamed_7_3, h0]
    | succ m ih =>
      intro k hk h0
      rw [bX2_blockNamed_7_1, hn, if_pos ((n32_lt (by omega) (by omega)).mpr (by omega)), xin_n32 (by omega) (show k < 20 by omega), cond_true, n32_nat (by omega)]
      by_cases y : J 10 k = w
      · have := fw_hit (by omega) h0 y m
        rw [show k + 1 + m = n by omega] at this
        rw [if_pos ((lg_cmp_eq _ _).mpr y), this]
      · rw [if_neg (fun z => y ((lg_cmp_eq _ _).mp z)), bX2_blockNamed_7_2, n32_succ]
        exact ih (k + 1) (by omega) (by rw [fw_s, if_pos h0, if_neg y])
  exact main n 0 (by omega) rfl
theorem c_blockNamed_89 (hn : I 89 2 = n32 n) (h8 : n ≤ 20) : xcall xprog (d + 1) 32 [.ref 89, .long w] (xst e L I J) = some (some (.int (fw (J 92) w n)), xst e L I J) := by
  rw [aX2_blockNamed_89, bX2_blockNamed_89_0]
  have main : ∀ m k, k + m = n → fw (J 92) w k = -1 → xlim (xcall xprog d) mX2_blockNamed 1 [.ref 89, .long w, xD, .int (n32 k)] [] (xst e L I J) = some (some (.int (fw (J 92) w n)), xst e L I J) := by
    intro m
    induction m with
    | zero =>
      intro k hk h0
      have : k = n := by omega
      subst this
      rw [bX2_blockNamed_89_1, hn, if_neg (fun z => absurd ((n32_lt (by omega) (by omega)).mp z) (by omega)), bX2_blockNamed_89_3, h0]
    | succ m ih =>
      intro k hk h0
      rw [bX2_blockNamed_89_1, hn, if_pos ((n32_lt (by omega) (by omega)).mpr (by omega)), xin_n32 (by omega) (show k < 20 by omega), cond_true, n32_nat (by omega)]
      by_cases y : J 92 k = w
      · have := fw_hit (by omega) h0 y m
        rw [show k + 1 + m = n by omega] at this
        rw [if_pos ((lg_cmp_eq _ _).mpr y), this]
      · rw [if_neg (fun z => y ((lg_cmp_eq _ _).mp z)), bX2_blockNamed_89_2, n32_succ]
        exact ih (k + 1) (by omega) (by rw [fw_s, if_pos h0, if_neg y])
  exact main n 0 (by omega) rfl
theorem r_seek (h8 : fr + n ≤ 56) (hx : x = n32 fr) (hy : y = n32 n) : xcall xprog (d + 1) 174 [.ref 209, .int x, .int y] (xst e L M N) = some (some (.int (fw (fun k => N 215 (fr + k)) (N 209 18) n)), xst e L M N) := by
  subst hx hy
  rw [aX12_seek, bX12_seek_0]
  have main : ∀ m k, k + m = n → fw (fun k => N 215 (fr + k)) (N 209 18) k = -1 → xlim (xcall xprog d) mX12_seek 1 [.ref 209, .int (n32 fr), .int (n32 n), .int (n32 k)] [] (xst e L M N) = some (some (.int (fw (fun k => N 215 (fr + k)) (N 209 18) n)), xst e L M N) := by
    intro m
    induction m with
    | zero =>
      intro k hk h0
      have : k = n := by omega
      subst this
      rw [bX12_seek_1, if_neg (fun z => absurd ((n32_lt (by omega) (by omega)).mp z) (by omega)), bX12_seek_3, h0]
    | succ m ih =>
      intro k hk h0
      rw [bX12_seek_1, if_pos ((n32_lt (by omega) (by omega)).mpr (by omega)), n32_add, xin_n32 (by omega) (show fr + k < 56 by omega), cond_true, n32_nat (by omega)]
      by_cases y : N 215 (fr + k) = N 209 18
      · have := fw_hit (f := fun k => N 215 (fr + k)) (by omega) h0 y m
        rw [show k + 1 + m = n by omega] at this
        rw [if_pos ((lg_cmp_eq _ _).mpr y), this]
      · rw [if_neg (fun z => y ((lg_cmp_eq _ _).mp z)), bX12_seek_2, n32_succ]
        exact ih (k + 1) (by omega) (by rw [fw_s, if_pos h0, if_neg y])
  exact main n 0 (by omega) rfl
-- a sign
theorem lk_take (hg : g = 40 ∨ g = 41 ∨ (59 ≤ g ∧ g ≤ 62)) (hx : x = n32 g) (h : Par T n most I J M N) : O2 e L (xcall xprog (d + 3) 95 [.ref 5, .int x] (xst e L I J)) (xcall xprog (d' + 3) 171 [.ref 209, .int x] (xst e L M N)) (.int 0) (fun K J' M' N' => fC K I J' J ∧ fR M' M N' N) (fun cv K J' M' N' => cv = .int 1 ∧ Par T n most K J' M' N' ∧ fC K I J' J ∧ fR M' M N' N) := by
  subst hx
  rw [aX9_take, bX9_take_0, aX12_sign, bX12_sign_0, r_isSign hg rfl h.2.1, xcI_some, ekX12_sign_0_2]
  by_cases z : I 5 0 = n32 g
  · obtain ⟨K, J', M', N', h1, h2, h3, h4, h5, _⟩ := lk_adv (d := d) (d' := d') (e := e) (L := L) h
    rw [if_pos z, if_pos z, if_neg i10, bX9_take_1, h1, xcV_some, ekX9_take_1_1, bX12_sign_1, h2, xcV_some, ekX12_sign_1_1]
    exact Or.inl ⟨_, K, J', M', N', rfl, rfl, rfl, h3, h4, h5⟩
  · obtain ⟨K, M', h1, h2, h3, h4, h5⟩ := lk_ref (d := d + 1) (d' := d' + 1) (e := e) (L := L) 1 h
    rw [if_neg z, if_neg z, if_pos i00, h1, xcI_some, ekX9_take_0_6, h2, xcI_some, ekX12_sign_0_6]
    exact Or.inr ⟨K, J, M', N, rfl, rfl, h3, h4, h5⟩
-- the end
theorem lk_takeEnd (h : Par T n most I J M N) (z : I 5 0 = 0) : ∃ K J', xcall xprog (d + 3) 95 [.ref 5, .int 0] (xst e L I J) = some (some (.int 1), xst e L K J') ∧ fC K I J' J ∧ K 5 2 = I 5 2 := by
  obtain ⟨K, J', M', N', h1, h2, h3, h4, h5, h6⟩ := lk_next (d := d) (d' := d) (e := e) (L := L) (J := J) (N := N) h.1
  refine ⟨K, J', ?_, ca_f h3, h3.1 5 2 (by omega)⟩
  rw [aX9_take, bX9_take_0, if_pos z, bX9_take_1, h1, xcV_some, ekX9_take_1_1]
-- a number
theorem lk_num (h9 : hi < 1000) (hx : x = n32 lo) (hy : y = n32 hi) (hl : lo < 1000) (h : Par T n most I J M N) : O2 e L (xcall xprog (d + 3) 96 [.ref 5, .int x, .int y] (xst e L I J)) (xcall xprog (d' + 3) 173 [.ref 209, .int x, .int y] (xst e L M N)) (.int (-1)) (fun K J' M' N' => fC K I J' J ∧ fR M' M N' N) (fun cv K J' M' N' => ∃ m, lo ≤ m ∧ m ≤ hi ∧ cv = .int (n32 m) ∧ M' 209 19 = n32 m ∧ Par T n most K J' M' N' ∧ fC K I J' J ∧ fR M' M N' N) := by
  subst hx hy
  rw [aX9_takeNumber, bX9_takeNumber_0, aX12_takes, bX12_takes_0]
  rcases tok_dig h.2.1 with ⟨h1, h2, h3, m, h4, h5⟩ | ⟨h1, h2⟩
  · have e1 : (n32 m < n32 lo) = (m < lo) := n32_ltE (by omega) (by omega)
    have e2 : (n32 m ≤ n32 hi) = (m ≤ hi) := n32_leE (by omega) (by omega)
    rw [if_pos h1, if_pos h2, bX9_takeNumber_1, bX12_takes_1, sX12_isIn, xcI_some, ekX12_takes_1_4, h3, h5]
    simp only [e1, e2]
    by_cases z : m < lo ∨ ¬ m ≤ hi
    · obtain ⟨K, M', r1, r2, r3, r4, r5⟩ := lk_ref (d := d + 1) (d' := d' + 1) (e := e) (L := L) 2 h
      have q1 : ∀ A B : Option xOut, (if m < lo then A else if m ≤ hi then B else A) = A := fun A B => by
        by_cases y : m < lo
        · rw [if_pos y]
        · rw [if_neg y, if_neg (by omega)]
      have q2 : (if m < lo then (0 : Int32) else if m ≤ hi then (1 : Int32) else 0) = 0 := by
        by_cases y : m < lo
        · rw [if_pos y]
        · rw [if_neg y, if_neg (by omega)]
      rw [q1, q2, if_pos i00, bX9_takeNumber_2, r1, xcI_some, ekX9_takeNumber_2_2, r2, xcI_some, ekX12_takes_1_8]
      exact Or.inr ⟨K, J, M', N, rfl, rfl, r3, r4, r5⟩
    · have z1 : ¬ m < lo := by omega
      have z2 : m ≤ hi := by omega
      have h' : Par T n most I J (xu M 209 19 (n32 m)) N := ⟨by
        have h1 := h.1
        unfold Src at h1 ⊢
        rw [xu_kne (by decide), xu_kne (by decide), xu_kne (by decide), xu_rne (by decide)]
        exact h1, Tok_c rfl rfl rfl rfl (fun q z1 z2 => xu_kne (by omega)) rfl h.2.1, by rw [xu_kne (by decide)]; exact h.2.2⟩
      obtain ⟨K, J', M', N', r1, r2, r3, r4, r5, r6⟩ := lk_adv (d := d) (d' := d') (e := e) (L := L) h'
      rw [if_neg z1, if_neg z1, if_pos z2, if_pos z2, if_neg i10, bX9_takeNumber_3, r1, xcV_some, ekX9_takeNumber_3_4, bX12_takes_2, h5, r2, xcV_some, ekX12_takes_2_5, h3, h5]
      refine Or.inl ⟨_, K, J', M', N', rfl, rfl, m, by omega, z2, rfl, by rw [r6, xu_ee], r3, r4, fun o z => ?_, r5.2.1, fun q z => ?_⟩
      · rw [r5.1 o z, xu_rne z]
      · rw [r5.2.2 q z, xu_kne (by omega)]
  · obtain ⟨K, M', r1, r2, r3, r4, r5⟩ := lk_ref (d := d + 1) (d' := d' + 1) (e := e) (L := L) 1 h
    rw [if_neg h1, if_neg h2, r1, xcI_some, ekX9_takeNumber_0_6, r2, xcI_some, ekX12_takes_0_6]
    exact Or.inr ⟨K, J, M', N, rfl, rfl, r3, r4, r5⟩
-- a name
theorem lk_named (h8 : fr + m ≤ 56) (hf : fw f (J 5 1) m = fw (fun k => N 215 (fr + k)) (J 5 1) m) (hx : x = n32 fr) (hy : y = n32 m) (hr : ∀ k, k < 21 → N 216 k = xwd k) (h : Par T n most I J M N) : O2 e L (xcall xprog (d + 3) 98 [.ref 5, .int (fw f (J 5 1) m)] (xst e L I J)) (xcall xprog (d' + 3) 175 [.ref 209, .int x, .int y] (xst e L M N)) (.int (-1)) (fun K J' M' N' => fC K I J' J ∧ fR M' M N' N) (fun cv K J' M' N' => ∃ k, k < m ∧ cv = .int (n32 k) ∧ M' 209 19 = n32 k ∧ Par T n most K J' M' N' ∧ fC K I J' J ∧ fR M' M N' N) := by
  rw [aX9_takeNamed, bX9_takeNamed_0, aX12_takesName, bX12_takesName_0, r_isName h.2.1 hr, xcI_some, ekX12_takesName_0_1]
  rcases tok_name h.2.1 with ⟨h1, h2, h3, h4, h5⟩ | ⟨h1, h2⟩
  · rw [if_pos h1, if_pos h1, if_neg i10, bX12_takesName_1, r_seek h8 hx hy, xcI_some, ekX12_takesName_1_4, ← h3, ← hf]
    rcases fw_or (f := f) (w := J 5 1) (n := m) (by omega) with ⟨q1, q2⟩ | ⟨k, q1, q2, q3⟩
    · have h' : Par T n most I J (xu M 209 19 (-1)) N := ⟨by
        have h1 := h.1
        unfold Src at h1 ⊢
        rw [xu_kne (by decide), xu_kne (by decide), xu_kne (by decide), xu_rne (by decide)]
        exact h1, Tok_c rfl rfl rfl rfl (fun q z1 z2 => xu_kne (by omega)) rfl h.2.1, by rw [xu_kne (by decide)]; exact h.2.2⟩
      obtain ⟨K, M', r1, r2, r3, r4, r5⟩ := lk_ref (d := d + 1) (d' := d' + 1) (e := e) (L := L) 3 h'
      rw [q1, if_pos im1, if_pos im10, bX9_takeNamed_1, if_pos h1, bX9_takeNamed_3, r1, xcI_some, ekX9_takeNamed_3_0, r2, xcI_some, ekX12_takesName_1_11]
      refine Or.inr ⟨K, J, M', N, rfl, rfl, r3, r4, fun o z => ?_, r5.2.1, fun q z => ?_⟩
      · rw [r5.1 o z, xu_rne z]
      · rw [r5.2.2 q z, xu_kne (by omega)]
    · have h' : Par T n most I J (xu M 209 19 (n32 k)) N := ⟨by
        have h1 := h.1
        unfold Src at h1 ⊢
        rw [xu_kne (by decide), xu_kne (by decide), xu_kne (by decide), xu_rne (by decide)]
        exact h1, Tok_c rfl rfl rfl rfl (fun q z1 z2 => xu_kne (by omega)) rfl h.2.1, by rw [xu_kne (by decide)]; exact h.2.2⟩
      obtain ⟨K, J', M', N', r1, r2, r3, r4, r5, r6⟩ := lk_adv (d := d) (d' := d') (e := e) (L := L) h'
      rw [q2, if_neg (n32_ne1 (by omega)), if_neg (n32_neg (by omega)), bX9_takeNamed_4, r1, xcV_some, ekX9_takeNamed_4_1, bX12_takesName_2, r2, xcV_some, ekX12_takesName_2_1]
      refine Or.inl ⟨_, K, J', M', N', rfl, rfl, k, q1, rfl, by rw [r6, xu_ee], r3, r4, fun o z => ?_, r5.2.1, fun q z => ?_⟩
      · rw [r5.1 o z, xu_rne z]
      · rw [r5.2.2 q z, xu_kne (by omega)]
  · obtain ⟨K, M', r1, r2, r3, r4, r5⟩ := lk_ref (d := d + 1) (d' := d' + 1) (e := e) (L := L) 1 h
    rw [if_neg h1, if_neg h1, if_pos i00, bX9_takeNamed_1, if_neg h1, bX9_takeNamed_2, bX9_takeNamed_3, r1, xcI_some, ekX9_takeNamed_3_0, r2, xcI_some, ekX12_takesName_0_5]
    exact Or.inr ⟨K, J, M', N, rfl, rfl, r3, r4, r5⟩
-- a new name
theorem c_newName (h1 : I 5 0 = 2) (h : xcall xprog (d + 2) 89 [.ref 5] (xst e L I J) = some (none, xst e L K J')) : xcall xprog (d + 3) 97 [.ref 5, .int 0] (xst e L I J) = some (some (.long (J 5 1)), xst e L K J') := by
  rw [aX9_takeNewName, bX9_takeNewName_0, if_pos h1, if_pos i00, bX9_takeNewName_4, h, xcV_some, ekX9_takeNewName_4_4]
/-- is the name at hand new? -/
theorem lk_new {V B : Nat} (h1 : V ≤ 8) (h2 : B ≤ 20) (hV : M 212 1 = n32 V) (hB : M 212 2 = n32 B) (ht : t = !(decide (fw (fun k => N 215 (28 + k)) (J 5 1) V = -1) && decide (fw (fun k => N 215 (36 + k)) (J 5 1) B = -1))) (hr : ∀ k, k < 21 → N 216 k = xwd k) (h : Par T n most I J M N) : (I 5 0 = 2 ∧ t = false ∧ J 5 1 = N 209 18 ∧ Wd (N 209 18) ∧ xcall xprog (d' + 3) 176 [.ref 209] (xst e L M N) = some (some (.int 1), xst e L M N)) ∨ ∃ K M', xcall xprog (d + 3) 97 [.ref 5, .int (bI t)] (xst e L I J) = some (some (.long (Int64.ofNat 0)), xst e L K J) ∧ xcall xprog (d' + 3) 176 [.ref 209] (xst e L M N) = some (some (.int 0), xst e L M' N) ∧ Flt K M' ∧ fC K I J J ∧ fR M' M N N := by
  rw [aX9_takeNewName, bX9_takeNewName_0, aX12_isNew, bX12_isNew_0, r_isName h.2.1 hr, xcI_some, ekX12_isNew_0_1]
  rcases tok_name h.2.1 with ⟨q1, q2, q3, q4, q5⟩ | ⟨q1, q2⟩
  · have bad : ∀ r : Option xOut, t = true → r = xlim (xcall xprog (d' + 2)) mX12_isNew 2 [.ref 209] [] (xst e L M N) → ∃ K M', xlim (xcall xprog (d + 2)) mX9_takeNewName 1 [.ref 5, xD, xD, xD] [] (xst e L I J) = some (some (.long (Int64.ofNat 0)), xst e L K J) ∧ r = some (some (.int 0), xst e L M' N) ∧ Flt K M' ∧ fC K I J J ∧ fR M' M N N := fun r _ hr2 => by
      obtain ⟨K, M', r1, r2, r3, r4, r5⟩ := lk_ref (d := d + 1) (d' := d' + 1) (e := e) (L := L) 3 h
      refine ⟨K, M', ?_, ?_, r3, r4, r5⟩
      · rw [bX9_takeNewName_1, if_pos q1, bX9_takeNewName_3, r1, xcI_some, ekX9_takeNewName_3_0]
      · rw [hr2, bX12_isNew_2, r2, xcI_some, ekX12_isNew_2_2, if_pos i00, bX12_isNew_4, bX12_isNew_5]
        rfl
    rw [if_pos q1, if_pos q1, if_neg i10, bX12_isNew_1, hV, r_seek (fr := 28) (n := V) (x := 28) (by omega) rfl rfl, xcI_some, ekX12_isNew_1_6, hB, ← q3]
    rcases fw_or (f := fun k => N 215 (28 + k)) (w := J 5 1) (n := V) (by omega) with ⟨a1, a2⟩ | ⟨k, a1, a2, a3⟩
    · rw [a1, if_pos im10, r_seek (fr := 36) (n := B) (x := 36) (by omega) rfl rfl, xcI_some, ekX12_isNew_1_14, ← q3]
      rcases fw_or (f := fun k => N 215 (36 + k)) (w := J 5 1) (n := B) (by omega) with ⟨b1, b2⟩ | ⟨k, b1, b2, b3⟩
      · refine Or.inl ⟨q1, ?_, rfl, by rw [q3]; exact q4, ?_⟩
        · rw [ht, a1, b1]; rfl
        · rw [b1, if_pos im10, bX12_isNew_3, bX12_isNew_5]
          rfl
      · have tt : t = true := by
          rw [ht, b2, decide_eq_false (n32_ne1 (by omega)), Bool.and_false]; rfl
        refine Or.inr ?_
        rw [b2, if_neg (n32_neg (by omega)), if_neg (by rw [tt]; exact bI_t0)]
        exact bad _ tt rfl
    · have tt : t = true := by
        rw [ht, a2, decide_eq_false (n32_ne1 (by omega)), Bool.false_and]; rfl
      refine Or.inr ?_
      rw [a2, if_neg (n32_neg (by omega)), if_neg (by rw [tt]; exact bI_t0)]
      exact bad _ tt rfl
  · obtain ⟨K, M', r1, r2, r3, r4, r5⟩ := lk_ref (d := d + 1) (d' := d' + 1) (e := e) (L := L) 1 h
    refine Or.inr ⟨K, M', ?_, ?_, r3, r4, r5⟩
    · rw [if_neg q1, bX9_takeNewName_1, if_neg q1, bX9_takeNewName_2, bX9_takeNewName_3, r1, xcI_some, ekX9_takeNewName_3_0]
    · rw [if_neg q1, if_pos i00, r2, xcI_some, ekX12_isNew_0_5]
      rfl
end TAK
