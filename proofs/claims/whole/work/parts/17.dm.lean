/-! The law, held against its code. -/
set_option maxRecDepth 100000 in
theorem xmo_269 : xMo 269 = true := by
  have h : xMl false xi_269 0 mL_law = true := xMl_of mL_law 0 (fun j B hB => by
    rw [Nat.zero_add]
    have hj : j < 50 := by
      rw [xn_eq] at hB
      have := (List.getElem?_eq_some_iff.mp hB).1
      rw [xbl_len] at this
      exact this
    have := xbl j hj
    unfold xbk at this
    rw [hB] at this
    exact this)
  have e1 : xn xinfo 269 = some xi_269 := rfl
  have e2 : xn xprog 269 = some (0, 7, mL_law) := rfl
  unfold xMo
  rw [e1, e2]
  simp only [Bool.and_eq_true, decide_eq_true_eq]
  exact ⟨⟨⟨trivial, rfl⟩, rfl⟩, h⟩
