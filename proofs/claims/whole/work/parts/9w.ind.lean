/-! readOne and readCond by induction. -/
section SIN
variable {h e L : Nat} {T : Nat → Int32} {n most V B m : Nat}
theorem cnd_of (hone : ∀ m', m' ≤ m → One h e L T n most V B m') : Cnd h e L T n most V B m := by
  intro f dp on P X I J M N hm hf hdp hS hgd hPl hXl hb h20 h21 h22
  obtain ⟨f1, rfl⟩ : ∃ f1, f = f1 + 1 := ⟨f - 1, by omega⟩
  rw [aX7_readCond, bX7_readCond_0]
  rcases hone m (Nat.le_refl _) f1 dp on P X I J M N hm (by omega) hdp hS hgd hPl hXl hb with ⟨K, J', M', N', Q, k, on', c1, c2, c3, c4, c5, c6, c7, c8, c9, c10, c11⟩ | ⟨K, J', M', N', c1, c2, c3, c4, c5⟩
  rotate_left
  · refine Or.inr ⟨K, J', M', N', ?_, c2, c3, c4, c5⟩
    rw [c1, xcI_some, ekX7_readCond_0_4, cls1]
  have ef : fl2 false false = [] := rfl
  have ew : wt2 false false = [] := rfl
  have e1 : (bif false then 1 else 0) = 0 := rfl
  have lp := cnd_loop (h := h) (e := e) (L := L) (T := T) (n := n) (most := most) (V := V) (B := B) (f := f1) (dp := dp) (X := X) (on0 := on) (D0 := dpt P) (L0 := P.length) (by omega) hdp hPl h20 h21 h22 hb (20 - on') (fun m' hm' => hone m' (by omega)) on' 0 k false false Q K J' M' N' (by omega) (by omega)
  have l0 : ([] : List Nat).length = 0 := rfl
  rw [ef, ew, ap_nil, ap_nil, nt_len, e1, l0] at lp
  rw [c1, xcI_some, ekX7_readCond_0_4]
  rcases lp c3 c4 (by omega) (by omega) (by omega) (by omega) with ⟨K4, J4, M4, N4, Q4, k4, ow4, aw4, on4, g1, g2, g3, g4, g5, g6, g7, g8, g9, g10, g11, g12, g13⟩ | g
  · exact Or.inl ⟨K4, J4, M4, N4, Q4, k4, ow4, aw4, on4, g1, c2.trans g2, g3, g4, g5, g6, g7, g8, g9, g10, g11, senC_t c10 g12, senR_t c11 g13⟩
  · exact Or.inr (SFl_t c10 c11 c2 g)
theorem sen_ind (hB : B ≤ 20) : ∀ m, Cnd h e L T n most V B m ∧ One h e L T n most V B m := by
  intro m
  induction m using Nat.strongRecOn with
  | _ m ih =>
    have h1 := one_of hB ih
    refine ⟨cnd_of (fun m' hm => ?_), h1⟩
    by_cases z : m' = m
    · rw [z]; exact h1
    · exact (ih m' (by omega)).2
end SIN
