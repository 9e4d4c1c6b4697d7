/-! The law, held against its code: block by block. -/
def xbk (thr : Bool) (mi : xN) (BM : List xB) (j : Nat) : Bool := match xn BM j with
  | some B => (match xn mi.2.2.2.2.1 j with | some pc => xCk thr mi.1 mi.2.1 mi.2.2.2.1 mi.2.2.2.2.1 B.2.1 pc B.2.2 | none => false)
  | none => true
theorem xMl_of {thr : Bool} {mi : xN} : ∀ (BM : List xB) (b : Nat), (∀ j B, xn BM j = some B → (match xn mi.2.2.2.2.1 (b + j) with | some pc => xCk thr mi.1 mi.2.1 mi.2.2.2.1 mi.2.2.2.2.1 B.2.1 pc B.2.2 | none => false) = true) → xMl thr mi b BM = true
  | [], b, h => rfl
  | B :: BM, b, h => by
    have h0 := h 0 B rfl
    rw [Nat.add_zero] at h0
    have h1 := xMl_of BM (b + 1) (fun j B' hj => by
      have := h (j + 1) B' hj
      rw [show b + (j + 1) = b + 1 + j by omega] at this
      exact this)
    show ((match xn mi.2.2.2.2.1 b with | some pc => xCk thr mi.1 mi.2.1 mi.2.2.2.1 mi.2.2.2.2.1 B.2.1 pc B.2.2 | none => false) && xMl thr mi (b + 1) BM) = true
    rw [h0, h1]
    rfl
theorem xbl_0 : xbk false xi_269 mL_law 0 = true := by decide +kernel
theorem xbl_1 : xbk false xi_269 mL_law 1 = true := by decide +kernel
theorem xbl_2 : xbk false xi_269 mL_law 2 = true := by decide +kernel
theorem xbl_3 : xbk false xi_269 mL_law 3 = true := by decide +kernel
theorem xbl_4 : xbk false xi_269 mL_law 4 = true := by decide +kernel
theorem xbl_5 : xbk false xi_269 mL_law 5 = true := by decide +kernel
theorem xbl_6 : xbk false xi_269 mL_law 6 = true := by decide +kernel
theorem xbl_7 : xbk false xi_269 mL_law 7 = true := by decide +kernel
theorem xbl_8 : xbk false xi_269 mL_law 8 = true := by decide +kernel
theorem xbl_9 : xbk false xi_269 mL_law 9 = true := by decide +kernel
theorem xbl_10 : xbk false xi_269 mL_law 10 = true := by decide +kernel
theorem xbl_11 : xbk false xi_269 mL_law 11 = true := by decide +kernel
theorem xbl_12 : xbk false xi_269 mL_law 12 = true := by decide +kernel
theorem xbl_13 : xbk false xi_269 mL_law 13 = true := by decide +kernel
theorem xbl_14 : xbk false xi_269 mL_law 14 = true := by decide +kernel
theorem xbl_15 : xbk false xi_269 mL_law 15 = true := by decide +kernel
theorem xbl_16 : xbk false xi_269 mL_law 16 = true := by decide +kernel
theorem xbl_17 : xbk false xi_269 mL_law 17 = true := by decide +kernel
theorem xbl_18 : xbk false xi_269 mL_law 18 = true := by decide +kernel
theorem xbl_19 : xbk false xi_269 mL_law 19 = true := by decide +kernel
theorem xbl_20 : xbk false xi_269 mL_law 20 = true := by decide +kernel
theorem xbl_21 : xbk false xi_269 mL_law 21 = true := by decide +kernel
theorem xbl_22 : xbk false xi_269 mL_law 22 = true := by decide +kernel
theorem xbl_23 : xbk false xi_269 mL_law 23 = true := by decide +kernel
theorem xbl_24 : xbk false xi_269 mL_law 24 = true := by decide +kernel
theorem xbl_25 : xbk false xi_269 mL_law 25 = true := by decide +kernel
theorem xbl_26 : xbk false xi_269 mL_law 26 = true := by decide +kernel
theorem xbl_27 : xbk false xi_269 mL_law 27 = true := by decide +kernel
theorem xbl_28 : xbk false xi_269 mL_law 28 = true := by decide +kernel
theorem xbl_29 : xbk false xi_269 mL_law 29 = true := by decide +kernel
theorem xbl_30 : xbk false xi_269 mL_law 30 = true := by decide +kernel
theorem xbl_31 : xbk false xi_269 mL_law 31 = true := by decide +kernel
theorem xbl_32 : xbk false xi_269 mL_law 32 = true := by decide +kernel
theorem xbl_33 : xbk false xi_269 mL_law 33 = true := by decide +kernel
theorem xbl_34 : xbk false xi_269 mL_law 34 = true := by decide +kernel
theorem xbl_35 : xbk false xi_269 mL_law 35 = true := by decide +kernel
theorem xbl_36 : xbk false xi_269 mL_law 36 = true := by decide +kernel
theorem xbl_37 : xbk false xi_269 mL_law 37 = true := by decide +kernel
theorem xbl_38 : xbk false xi_269 mL_law 38 = true := by decide +kernel
theorem xbl_39 : xbk false xi_269 mL_law 39 = true := by decide +kernel
theorem xbl_40 : xbk false xi_269 mL_law 40 = true := by decide +kernel
theorem xbl_41 : xbk false xi_269 mL_law 41 = true := by decide +kernel
theorem xbl_42 : xbk false xi_269 mL_law 42 = true := by decide +kernel
theorem xbl_43 : xbk false xi_269 mL_law 43 = true := by decide +kernel
theorem xbl_44 : xbk false xi_269 mL_law 44 = true := by decide +kernel
theorem xbl_45 : xbk false xi_269 mL_law 45 = true := by decide +kernel
theorem xbl_46 : xbk false xi_269 mL_law 46 = true := by decide +kernel
theorem xbl_47 : xbk false xi_269 mL_law 47 = true := by decide +kernel
theorem xbl_48 : xbk false xi_269 mL_law 48 = true := by decide +kernel
theorem xbl_49 : xbk false xi_269 mL_law 49 = true := by decide +kernel
theorem xbl_len : mL_law.length = 50 := by decide +kernel
theorem xbl (j : Nat) (hj : j < 50) : xbk false xi_269 mL_law j = true := by
  match j, hj with
  | 0, _ => exact xbl_0
  | 1, _ => exact xbl_1
  | 2, _ => exact xbl_2
  | 3, _ => exact xbl_3
  | 4, _ => exact xbl_4
  | 5, _ => exact xbl_5
  | 6, _ => exact xbl_6
  | 7, _ => exact xbl_7
  | 8, _ => exact xbl_8
  | 9, _ => exact xbl_9
  | 10, _ => exact xbl_10
  | 11, _ => exact xbl_11
  | 12, _ => exact xbl_12
  | 13, _ => exact xbl_13
  | 14, _ => exact xbl_14
  | 15, _ => exact xbl_15
  | 16, _ => exact xbl_16
  | 17, _ => exact xbl_17
  | 18, _ => exact xbl_18
  | 19, _ => exact xbl_19
  | 20, _ => exact xbl_20
  | 21, _ => exact xbl_21
  | 22, _ => exact xbl_22
  | 23, _ => exact xbl_23
  | 24, _ => exact xbl_24
  | 25, _ => exact xbl_25
  | 26, _ => exact xbl_26
  | 27, _ => exact xbl_27
  | 28, _ => exact xbl_28
  | 29, _ => exact xbl_29
  | 30, _ => exact xbl_30
  | 31, _ => exact xbl_31
  | 32, _ => exact xbl_32
  | 33, _ => exact xbl_33
  | 34, _ => exact xbl_34
  | 35, _ => exact xbl_35
  | 36, _ => exact xbl_36
  | 37, _ => exact xbl_37
  | 38, _ => exact xbl_38
  | 39, _ => exact xbl_39
  | 40, _ => exact xbl_40
  | 41, _ => exact xbl_41
  | 42, _ => exact xbl_42
  | 43, _ => exact xbl_43
  | 44, _ => exact xbl_44
  | 45, _ => exact xbl_45
  | 46, _ => exact xbl_46
  | 47, _ => exact xbl_47
  | 48, _ => exact xbl_48
  | 49, _ => exact xbl_49
  | k + 50, h => omega
