/-! Every call meets its contract. -/
theorem xmoA : ∀ m, m < 276 → ((xwh m = none ∧ (m ∈ [0, 1, 2, 3, 4, 5, 6, 7, 8, 9, 11, 12, 13, 14, 15, 16, 17, 18, 19, 20, 21, 22, 23, 24, 25, 26, 27, 28, 29, 30, 31, 32, 33, 34, 35, 36, 37, 38, 39, 40, 41, 42, 43, 44, 45, 46, 47, 48, 49, 50, 51, 52, 53, 54, 55, 56, 57, 58, 59, 60, 61, 62, 63, 64, 65, 66] ∨ m ∈ [67, 68, 69, 70, 71, 72, 73, 74, 75, 76, 77, 78, 79, 80, 81, 82, 83, 84, 85, 86, 87, 88, 89, 90, 91, 92, 93, 94, 95, 96, 97, 98, 99, 100, 101, 102, 103, 104, 105, 106, 107, 108, 109, 110, 111, 112, 113, 114, 115, 116, 117, 118, 119, 120, 121, 122, 123, 124, 125, 126, 127, 128, 129, 130, 131] ∨ m ∈ [132, 133, 134, 135, 136, 137, 138, 139, 140, 141, 142, 143, 144, 145, 146, 147, 148, 149, 150, 151, 152, 153, 154, 155, 156, 157, 158, 159, 160, 161, 162, 163, 164, 165, 166, 167, 168, 169, 170, 171, 172, 173, 174, 175, 176, 177, 178, 179, 180, 181, 182, 183, 184, 185, 186, 187, 188, 189, 190, 191, 192, 193, 194, 195, 196, 197] ∨ m ∈ [198, 199, 200, 201, 202, 203, 204, 205, 206, 207, 208, 209, 210, 211, 212, 213, 214, 215, 216, 217, 218, 219, 220, 221, 222, 223, 224, 225, 226, 227, 228, 229, 230, 231, 232, 233, 234, 235, 236, 237, 238, 239, 240, 241, 242, 243, 244, 245, 246, 247, 248, 249, 250, 251] ∨ m ∈ [252, 253, 254, 255, 256, 257, 258, 259, 260, 261, 262, 263, 264, 265, 266, 267, 268, 269, 274, 275])) ∨ m = 10 ∨ m = 270 ∨ m = 271 ∨ m = 272 ∨ m = 273) := by decide +kernel
theorem xmoB : ∀ m, (m ∈ [0, 1, 2, 3, 4, 5, 6, 7, 8, 9, 11, 12, 13, 14, 15, 16, 17, 18, 19, 20, 21, 22, 23, 24, 25, 26, 27, 28, 29, 30, 31, 32, 33, 34, 35, 36, 37, 38, 39, 40, 41, 42, 43, 44, 45, 46, 47, 48, 49, 50, 51, 52, 53, 54, 55, 56, 57, 58, 59, 60, 61, 62, 63, 64, 65, 66] ∨ m ∈ [67, 68, 69, 70, 71, 72, 73, 74, 75, 76, 77, 78, 79, 80, 81, 82, 83, 84, 85, 86, 87, 88, 89, 90, 91, 92, 93, 94, 95, 96, 97, 98, 99, 100, 101, 102, 103, 104, 105, 106, 107, 108, 109, 110, 111, 112, 113, 114, 115, 116, 117, 118, 119, 120, 121, 122, 123, 124, 125, 126, 127, 128, 129, 130, 131] ∨ m ∈ [132, 133, 134, 135, 136, 137, 138, 139, 140, 141, 142, 143, 144, 145, 146, 147, 148, 149, 150, 151, 152, 153, 154, 155, 156, 157, 158, 159, 160, 161, 162, 163, 164, 165, 166, 167, 168, 169, 170, 171, 172, 173, 174, 175, 176, 177, 178, 179, 180, 181, 182, 183, 184, 185, 186, 187, 188, 189, 190, 191, 192, 193, 194, 195, 196, 197] ∨ m ∈ [198, 199, 200, 201, 202, 203, 204, 205, 206, 207, 208, 209, 210, 211, 212, 213, 214, 215, 216, 217, 218, 219, 220, 221, 222, 223, 224, 225, 226, 227, 228, 229, 230, 231, 232, 233, 234, 235, 236, 237, 238, 239, 240, 241, 242, 243, 244, 245, 246, 247, 248, 249, 250, 251] ∨ m ∈ [252, 253, 254, 255, 256, 257, 258, 259, 260, 261, 262, 263, 264, 265, 266, 267, 268, 269, 274, 275]) → xMo m = true := by
  rintro m (h | h | h | h | h)
  · exact xmos_0 m h
  · exact xmos_1 m h
  · exact xmos_2 m h
  · exact xmos_3 m h
  · exact xmos_4 m h
theorem xplA : xinfo.all (fun mi => decide (plainName mi.1.cls = true)) = true := by decide +kernel
theorem xpl {mid : Nat} {mi : xN} (h : xn xinfo mid = some mi) : plainName mi.1.cls = true := by
  rw [xn_eq] at h
  have := List.all_eq_true.mp xplA mi (List.mem_of_getElem? h)
  simpa using this
theorem xilen : xinfo.length = 276 := by decide +kernel
theorem xlt276 {mid : Nat} {mi : xN} (h : xn xinfo mid = some mi) : mid < 276 := by
  rw [xn_eq] at h
  have := (List.getElem?_eq_some_iff.mp h).1
  rw [xilen] at this
  exact this
theorem xwrap1_mo {cf : xCF} {mid q : Nat} {as : List Value} {σ : xS} {o : xOut} (hcm : ∀ mid as σ v σ', cf mid as σ = some (v, σ') → xle σ σ') (h : xwrap1 cf mid as q σ = some o) : xle σ o.2 := by
  obtain ⟨v, σ'⟩ := o
  obtain ⟨v1, σ1, e, hc⟩ := xwrap1_inv h
  have hle := hcm _ _ _ _ _ e
  rcases hc with ⟨r, -, -, -, rfl⟩ | ⟨-, -, rfl⟩
  · exact ⟨hle.1, hle.2⟩
  · exact hle
theorem xwrap_mo {cf : xCF} {mid : Nat} {as : List Value} {σ : xS} {o : xOut} (hcm : ∀ mid as σ v σ', cf mid as σ = some (v, σ') → xle σ σ') (h : xwrap cf mid as σ = some o) : xle σ o.2 := by
  have key : ∀ {as : List Value} {q : Nat} {b : Bool}, (bif b then xwrap1 cf mid as q σ else none) = some o → xle σ o.2 := by
    intro as q b h
    cases b with
    | false => cases h
    | true => exact xwrap1_mo hcm h
  unfold xwrap at h
  split at h
  · exact key h
  · exact key h
  · exact key h
  · cases h
theorem xtext_mo {cf : xCF} {mid : Nat} {as : List Value} {σ : xS} {o : xOut} (hcm : ∀ mid as σ v σ', cf mid as σ = some (v, σ') → xle σ σ') (h : xtext cf mid as σ = some o) : xle σ o.2 := by
  unfold xtext at h
  split at h
  · next q r =>
    cases e1 : Nat.beq r 1000002 with
    | true => rw [e1] at h; exact xputs_mo hcm _ _ _ h
    | false =>
      rw [e1] at h
      cases e2 : Nat.beq r 1000003 with
      | true => rw [e2] at h; exact xputs_mo hcm _ _ _ h
      | false => rw [e2] at h; cases h
  · cases h
theorem xlim_mo {cf : xCF} {M : List xB} {b : Nat} {ls st : List Value} {σ : xS} {o : xOut} (hcm : ∀ mid as σ v σ', cf mid as σ = some (v, σ') → xle σ σ') (h : xlim cf M b ls st σ = some o) : xle σ o.2 := by
  obtain ⟨n, hn⟩ := xlim_some h
  exact xloop_mo hcm n _ _ _ _ hn
theorem xact_mo {P : List xP} {cf : xCF} (hcm : ∀ mid as σ v σ', cf mid as σ = some (v, σ') → xle σ σ') (mid : Nat) (as : List Value) (σ : xS) (v : Option Value) (σ' : xS) (h : xact P cf xlim mid as σ = some (v, σ')) : xle σ σ' := by
  unfold xact at h
  split at h
  · next mL M _ =>
    cases hb : Nat.ble (xargs as).length mL with
    | false => rw [hb] at h; cases h
    | true => rw [hb] at h; exact xlim_mo hcm h
  · exact xtext_mo hcm h
  · exact xwrap_mo hcm h
  · cases h
theorem xcall_mo (P : List xP) : ∀ (d mid : Nat) (as : List Value) (σ : xS) (v : Option Value) (σ' : xS), xcall P d mid as σ = some (v, σ') → xle σ σ'
  | 0, _, _, _, _, _, h => by cases h
  | d + 1, mid, as, σ, v, σ', h => xact_mo (xcall_mo P d) mid as σ v σ' h
theorem xcode_of {mid : Nat} {mi : xN} (hmi : xn xinfo mid = some mi) (hmo : xMo mid = true) : ∃ BM, xn xprog mid = some (0, mi.2.2.1, BM) ∧ xn mi.2.2.2.2.1 0 = some 0 ∧ xMl (xthr mid) mi 0 BM = true := by
  unfold xMo at hmo
  rw [hmi] at hmo
  cases hP : xn xprog mid with
  | none => rw [hP] at hmo; cases hmo
  | some P =>
    rw [hP] at hmo
    obtain ⟨a, b, M⟩ := P
    simp only [Bool.and_eq_true, decide_eq_true_eq] at hmo
    obtain ⟨⟨⟨h1, h2⟩, h3⟩, h4⟩ := hmo
    subst h1
    subst h2
    exact ⟨M, rfl, h3, h4⟩
theorem xact_code {P : List xP} {cf : xCF} {mid mL : Nat} {BM : List xB} {as : List Value} {σ : xS} {o : xOut} (hP : xn P mid = some (0, mL, BM)) (h : xact P cf xlim mid as σ = some o) : (xargs as).length ≤ mL ∧ xlim cf BM 0 (xent mL as) [] σ = some o := by
  unfold xact at h
  rw [hP] at h
  replace h : (bif Nat.ble (xargs as).length mL then xlim cf BM 0 (xent mL as) [] σ else none) = some o := h
  cases hb : Nat.ble (xargs as).length mL with
  | false => rw [hb] at h; cases h
  | true => rw [hb] at h; exact ⟨Nat.le_of_ble_eq_true hb, h⟩
theorem xbif {α : Type} {b : Bool} {x : Option α} {o : α} (h : (bif b then x else none) = some o) : b = true ∧ x = some o := by
  cases b with
  | false => cases h
  | true => exact ⟨rfl, h⟩
theorem xwrap_2 {cf : xCF} {mid : Nat} {as : List Value} {σ : xS} {o : xOut} (hm : mid = 116) (h : xwrap cf mid as σ = some o) : ∃ x a b q, as = [.ref x, .int a, .int b, .ref q] ∧ xis σ.1 11 x = true ∧ xwrap1 cf mid [.ref x, .int a, .int b] q σ = some o := by
  unfold xwrap at h
  split at h
  · have := (xbif h).1; subst hm; simp at this
  · next x a b q => have h1 := xbif h; simp only [Bool.and_eq_true] at h1; exact ⟨x, a, b, q, rfl, h1.1.2, h1.2⟩
  · have := (xbif h).1; subst hm; simp at this
  · cases h
theorem xwrap_3 {cf : xCF} {mid : Nat} {as : List Value} {σ : xS} {o : xOut} (hm : mid = 122) (h : xwrap cf mid as σ = some o) : ∃ x a b c q, as = [.ref x, .int a, .int b, .int c, .ref q] ∧ xis σ.1 11 x = true ∧ xwrap1 cf mid [.ref x, .int a, .int b, .int c] q σ = some o := by
  unfold xwrap at h
  split at h
  · have := (xbif h).1; subst hm; simp at this
  · have := (xbif h).1; subst hm; simp at this
  · next x a b c q => have h1 := xbif h; simp only [Bool.and_eq_true] at h1; exact ⟨x, a, b, c, q, rfl, h1.1.2, h1.2⟩
  · cases h
theorem xwrap_1 {cf : xCF} {mid : Nat} {as : List Value} {σ : xS} {o : xOut} (hm : mid = 137 ∨ mid = 138) (h : xwrap cf mid as σ = some o) : ∃ x a q, as = [.ref x, .int a, .ref q] ∧ xis σ.1 11 x = true ∧ xwrap1 cf mid [.ref x, .int a] q σ = some o := by
  unfold xwrap at h
  split at h
  · next x a q => have h1 := xbif h; simp only [Bool.and_eq_true] at h1; exact ⟨x, a, q, rfl, h1.1.2, h1.2⟩
  · have := (xbif h).1; rcases hm with rfl | rfl <;> simp at this
  · have := (xbif h).1; rcases hm with rfl | rfl <;> simp at this
  · cases h
theorem xi_inj {mid : Nat} {mi mj : xN} (h : xn xinfo mid = some mi) (h' : xn xinfo mid = some mj) : mi = mj := Option.some.inj (h.symm.trans h')
theorem xsound {l : Launch} {X : xX} {L : Nat} {xs : Nat → Int32} (hl : l.stackTraces = false) : ∀ d, xCs X L xs l (xcall xprog d) d ∧ xCt' X L xs l (xcall xprog d) d
  | 0 => ⟨fun mid mi as σ v σ' φ h => (by cases h), fun mid mi as σ v σ' φ h => (by cases h)⟩
  | d + 1 => by
    obtain ⟨ih1, ih2⟩ := xsound (X := X) (L := L) (xs := xs) hl d
    have hcm := xcall_mo xprog d
    constructor
    · intro mid mi as σ v σ' φ h hmi ht h269 hwf hL hxs hok
      replace h : xact xprog (xcall xprog d) xlim mid as σ = some (v, σ') := h
      rcases xmoA mid (xlt276 hmi) with ⟨hwh, hm⟩ | rfl | rfl | rfl | rfl | rfl
      · obtain ⟨BM, hP, hst, hMl⟩ := xcode_of hmi (xmoB mid hm)
        obtain ⟨hlen, h⟩ := xact_code hP h
        rw [ht] at hMl
        exact xmet_code hMl hst (xpl hmi) hwh ih1 hcm hwf hL hxs hok hlen h
      · obtain rfl := xi_inj hmi (show xn xinfo 10 = some xi_10 from rfl)
        exact xmet_put ih1 hcm hwf hL hxs hok h
      · obtain rfl := xi_inj hmi (show xn xinfo 270 = some xi_270 from rfl)
        obtain ⟨x, a, b, q, rfl, hrc, h⟩ := xwrap_2 (cf := xcall xprog d) (mid := 116) rfl h
        exact xmet_block ih2 hcm hwf hL hxs hok hrc h
      · obtain rfl := xi_inj hmi (show xn xinfo 271 = some xi_271 from rfl)
        obtain ⟨x, a, b, c, q, rfl, hrc, h⟩ := xwrap_3 (cf := xcall xprog d) (mid := 122) rfl h
        exact xmet_link ih2 hcm hwf hL hxs hok hrc h
      · obtain rfl := xi_inj hmi (show xn xinfo 272 = some xi_272 from rfl)
        obtain ⟨x, a, q, rfl, hrc, h⟩ := xwrap_1 (cf := xcall xprog d) (mid := 137) (Or.inl rfl) h
        exact xmet_guilt ih2 hcm hwf hL hxs hok hrc h
      · obtain rfl := xi_inj hmi (show xn xinfo 273 = some xi_273 from rfl)
        obtain ⟨x, a, q, rfl, hrc, h⟩ := xwrap_1 (cf := xcall xprog d) (mid := 138) (Or.inr rfl) h
        exact xmet_mean ih2 hcm hwf hL hxs hok hrc h
    · intro mid mi as σ v σ' φ h hmi ht hwf hL hxs hok
      replace h : xact xprog (xcall xprog d) xlim mid as σ = some (v, σ') := h
      rcases xmoA mid (xlt276 hmi) with ⟨hwh, hm⟩ | rfl | rfl | rfl | rfl | rfl
      · obtain ⟨BM, hP, hst, hMl⟩ := xcode_of hmi (xmoB mid hm)
        obtain ⟨hlen, h⟩ := xact_code hP h
        rw [ht] at hMl
        have hcls : mi.1.cls = RX11 := by
          unfold xthr at ht
          simp only [Bool.or_eq_true, beq_iff_eq] at ht
          rcases ht with ((rfl | rfl) | rfl) | rfl
          · obtain rfl := xi_inj hmi (show xn xinfo 116 = some xi_116 from rfl); rfl
          · obtain rfl := xi_inj hmi (show xn xinfo 122 = some xi_122 from rfl); rfl
          · obtain rfl := xi_inj hmi (show xn xinfo 137 = some xi_137 from rfl); rfl
          · obtain rfl := xi_inj hmi (show xn xinfo 138 = some xi_138 from rfl); rfl
        exact xmet_thr hl hcls hMl hst hwh ih1 hcm hwf hL hxs hok hlen h
      all_goals exact absurd ht (by decide)
