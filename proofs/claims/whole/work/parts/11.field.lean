/-! Instructions over the heap. -/
def xuw : List Cond → List Nat → Bool
  | [], _ => true
  | w :: ws, h :: hs => xTb w h && xuw ws hs
  | _, _ => false
theorem xuw_in : ∀ (ws : List Cond) (hs : List Nat), xuw ws hs = true → ∀ w ∈ ws, w ∈ xTl
  | [], _, _ => fun w h => by cases h
  | a :: ws, [], h => by cases h
  | a :: ws, b :: hs, h => by
    simp only [xuw, Bool.and_eq_true] at h
    intro w hw
    rcases List.mem_cons.mp hw with rfl | hw
    · exact xTb_in h.1
    · exact xuw_in ws hs h.2 w hw
def xtyk (t : Nat) (ty : FieldType) : Bool := match t with
  | 0 => decide (ty = .int)
  | 1 => decide (ty = .boolean)
  | 2 => decide (ty = .long)
  | 3 => match ty with
    | .object _ => true
    | .array _ => true
    | _ => false
  | _ => false
def xCl (ci : Nat) (q : vw_C) : Prop := (∀ w ∈ u_ws q.1 q.2.1 q.2.2, w ∈ xTl) ∧ (∀ a, a < q.2.2 → ∀ b, b < q.2.2 → a ≠ b → (q.2.1 a).2.1 ≠ (q.2.1 b).2.1) ∧ (∃ ty : Nat → FieldType, (∀ k, k < q.2.2 → parseFieldDescriptor (q.2.1 k).2.2.1 = some (ty k)) ∧ ∀ k, k < q.2.2 → xtyk (xtf ci k) (ty k) = true) ∧ xnf ci = q.2.2 ∧ ci < 13
theorem xcl_0 : xCl 0 (RX0, TX0, 6) := ⟨xuw_in _ [2187, 2189, 2191, 2193, 2195, 2197] (by decide +kernel), nmX0, ⟨tyX0, tyX0_ok, by decide +kernel⟩, rfl, by decide⟩
theorem xcl_1 : xCl 1 (RX1, TX1, 2) := ⟨xuw_in _ [1072, 1074] (by decide +kernel), nmX1, ⟨tyX1, tyX1_ok, by decide +kernel⟩, rfl, by decide⟩
theorem xcl_2 : xCl 2 (RX2, TX2, 12) := ⟨xuw_in _ [1178, 1180, 1182, 1184, 1186, 1188, 1190, 1192, 1194, 1196, 1198, 1200] (by decide +kernel), nmX2, ⟨tyX2, tyX2_ok, by decide +kernel⟩, rfl, by decide⟩
theorem xcl_3 : xCl 3 (RX3, TX3, 1) := ⟨xuw_in _ [2207] (by decide +kernel), nmX3, ⟨tyX3, tyX3_ok, by decide +kernel⟩, rfl, by decide⟩
theorem xcl_4 : xCl 4 (RX4, TX4, 15) := ⟨xuw_in _ [2119, 2121, 2123, 2125, 2127, 2129, 2131, 2133, 2135, 2137, 2139, 2141, 2143, 2145, 2147] (by decide +kernel), nmX4, ⟨tyX4, tyX4_ok, by decide +kernel⟩, rfl, by decide⟩
theorem xcl_5 : xCl 5 (RX5, TX5, 3) := ⟨xuw_in _ [2220, 2222, 2224] (by decide +kernel), nmX5, ⟨tyX5, tyX5_ok, by decide +kernel⟩, rfl, by decide⟩
theorem xcl_6 : xCl 6 (RX6, TX6, 5) := ⟨xuw_in _ [2163, 2165, 2167, 2169, 2171] (by decide +kernel), nmX6, ⟨tyX6, tyX6_ok, by decide +kernel⟩, rfl, by decide⟩
theorem xcl_7 : xCl 7 (RX7, TX7, 6) := ⟨xuw_in _ [1258, 1260, 1262, 2048, 2050, 2052] (by decide +kernel), nmX7, ⟨tyX7, tyX7_ok, by decide +kernel⟩, rfl, by decide⟩
theorem xcl_8 : xCl 8 (RX8, TX8, 4) := ⟨xuw_in _ [2068, 2070, 2072, 2074] (by decide +kernel), nmX8, ⟨tyX8, tyX8_ok, by decide +kernel⟩, rfl, by decide⟩
theorem xcl_9 : xCl 9 (RX9, TX9, 12) := ⟨xuw_in _ [1104, 1106, 1108, 1110, 1112, 1114, 1116, 1118, 1120, 1122, 1124, 1126] (by decide +kernel), nmX9, ⟨tyX9, tyX9_ok, by decide +kernel⟩, rfl, by decide⟩
theorem xcl_10 : xCl 10 (RX10, TX10, 6) := ⟨xuw_in _ [1228, 1230, 1232, 1234, 1236, 1238] (by decide +kernel), nmX10, ⟨tyX10, tyX10_ok, by decide +kernel⟩, rfl, by decide⟩
theorem xcl_11 : xCl 11 (RX11, TX11, 17) := ⟨xuw_in _ [2249, 2251, 2253, 2255, 2257, 2259, 2261, 2263, 2265, 2267, 2269, 2271, 2273, 2275, 2277, 2279, 2281] (by decide +kernel), nmX11, ⟨tyX11, tyX11_ok, by decide +kernel⟩, rfl, by decide⟩
theorem xcl_12 : xCl 12 (RX12, TX12, 58) := ⟨xuw_in _ [6279, 6281, 6283, 6285, 6287, 6289, 6291, 6293, 6295, 6297, 6299, 6301, 6303, 6305, 6307, 6309, 6311, 6313, 6315, 6317, 6319, 6321, 6323, 6325, 6327, 6329, 6331, 6333, 6335, 6337, 6339, 6341, 6343, 6345, 6347, 6349, 6351, 6353, 6355, 6357, 6359, 6361, 6363, 6365, 6367, 6369, 6371, 6373, 6375, 6377, 6379, 6381, 6383, 7169, 7171, 7173, 7175, 7177] (by decide +kernel), nmX12, ⟨tyX12, tyX12_ok, by decide +kernel⟩, rfl, by decide⟩
theorem xcl (ci : Nat) (q : vw_C) (h : vwCl[ci]? = some q) : xCl ci q := by
  match ci, h with
  | 0, h => cases h; exact xcl_0
  | 1, h => cases h; exact xcl_1
  | 2, h => cases h; exact xcl_2
  | 3, h => cases h; exact xcl_3
  | 4, h => cases h; exact xcl_4
  | 5, h => cases h; exact xcl_5
  | 6, h => cases h; exact xcl_6
  | 7, h => cases h; exact xcl_7
  | 8, h => cases h; exact xcl_8
  | 9, h => cases h; exact xcl_9
  | 10, h => cases h; exact xcl_10
  | 11, h => cases h; exact xcl_11
  | 12, h => cases h; exact xcl_12
  | n + 13, h => simp [vwCl] at h
theorem xscr {f : Nat → Nat → Int32} {o k : Nat} {v : Int32} (h : o < 1000000) : xu f o k v 1000000 = f 1000000 := xu_ne (by omega)
theorem xwf_lt {σ : xS} {i : Nat} {a : xO} (hw : xwf σ) (h : σ.1.1[i]? = some a) : i < 1000000 := by
  have h1 := (List.getElem?_eq_some_iff.mp h).1
  have h2 := hw.1
  omega
theorem xget_inv {t ci f : Nat} {ls st : List Value} {σ : xS} {k : xK} {o : xOut} (h : xget [t, ci, f] ls st σ k = some o) : ∃ r rest, st = .ref r :: rest ∧ (((t = 0 ∨ t = 1) ∧ xgI σ ci r f (fun x => k ls (.int x :: rest) σ) = some o) ∨ (t = 2 ∧ xgJ σ ci r f (fun x => k ls (.long x :: rest) σ) = some o) ∨ (t = 3 ∧ xgR σ ci r f (fun x => k ls (.ref x :: rest) σ) = some o)) := by
  unfold xget at h
  split at h
  · rename_i ci' f' tl r rest heq
    cases heq
    exact ⟨r, rest, rfl, Or.inl ⟨Or.inl rfl, h⟩⟩
  · rename_i ci' f' tl r rest heq
    cases heq
    exact ⟨r, rest, rfl, Or.inl ⟨Or.inr rfl, h⟩⟩
  · rename_i ci' f' tl r rest heq
    cases heq
    exact ⟨r, rest, rfl, Or.inr (Or.inl ⟨rfl, h⟩)⟩
  · rename_i ci' f' tl r rest heq
    cases heq
    exact ⟨r, rest, rfl, Or.inr (Or.inr ⟨rfl, h⟩)⟩
  · cases h
theorem xput_inv {t ci f : Nat} {ls st : List Value} {σ : xS} {k : xK} {o : xOut} (h : xput [t, ci, f] ls st σ k = some o) : ∃ r rest, (∃ v, st = .int v :: .ref r :: rest ∧ ((t = 0 ∧ xpI σ ci r f v (fun σ => k ls rest σ) = some o) ∨ (t = 1 ∧ xpZ σ ci r f v (fun σ => k ls rest σ) = some o))) ∨ (∃ v, st = .long v :: .ref r :: rest ∧ t = 2 ∧ xpJ σ ci r f v (fun σ => k ls rest σ) = some o) ∨ (∃ v, st = .ref v :: .ref r :: rest ∧ t = 3 ∧ xpR σ ci r f v (fun σ => k ls rest σ) = some o) := by
  unfold xput at h
  split at h
  · rename_i ci' f' tl v r rest heq
    cases heq
    exact ⟨r, rest, Or.inl ⟨v, rfl, Or.inl ⟨rfl, h⟩⟩⟩
  · rename_i ci' f' tl v r rest heq
    cases heq
    exact ⟨r, rest, Or.inl ⟨v, rfl, Or.inr ⟨rfl, h⟩⟩⟩
  · rename_i ci' f' tl v r rest heq
    cases heq
    exact ⟨r, rest, Or.inr (Or.inl ⟨v, rfl, rfl, h⟩)⟩
  · rename_i ci' f' tl v r rest heq
    cases heq
    exact ⟨r, rest, Or.inr (Or.inr ⟨v, rfl, rfl, h⟩)⟩
  · cases h
section XS2
variable {X : xX} {φ0 : Nat → Nat} {L : Nat} {xs : Nat → Int32} {σ0 : xS} {n : Nat} {p : Program} {l : Launch} {e : Env} {R : Room} {s : State} {m : MethodId} {args : Array Value} {below : List Frame} {meth : Method} {c : Code} {Q : State → Prop} {o : xOut} {pc : Nat} {k : xK} {kb : xKB} {y : MethodName} {cc : ByteArray} {ret : Option FieldType}

theorem xs_get (C : xCt X φ0 L xs y cc n ret p R s m args meth c) {t ci f idx : Nat} {q : vw_C} (hq : vwCl[ci]? = some q) (hf : f < q.2.2) (ht : xtf ci f = t) (h1 : (q.2.1 f).1 = q.1) (hw : Cond.fieldLink y.cls idx q.1 (q.2.1 f).2.1 (q.2.1 f).2.2.1 ∈ xTl) (hd : decode cc pc = .ok (.getfield idx, 3)) (hk : xGo X φ0 L xs σ0 n p l e R s m args below meth c Q o (pc + 3) k) : xGo X φ0 L xs σ0 n p l e R s m args below meth c Q o pc (fun ls st σ => xget [t, ci, f] ls st σ k) := by
  intro φ ls st σ M H locs hI h
  obtain ⟨c1, -, -, c4, c5⟩ := xcl ci q hq
  have core : ∀ (r : Nat) (rest : List Value) (a : xO), σ.1.1[r]? = some a → a.1 = ci → W p l e R s m args below meth c H locs (xcnt σ - xcnt σ0) (xslt σ - xslt σ0) Q (F0 m (pc + 3) M (xfv φ (σ.2.1 r) (σ.2.2 r) a.2.2 t f :: rest.map (xv φ))) → W p l e R s m args below meth c H locs (xcnt σ - xcnt σ0) (xslt σ - xslt σ0) Q (F0 m pc M (.ref (φ r) :: rest.map (xv φ))) := by
    intro r rest a ha hc kk
    have hfl : f < a.2.1 := by
      rcases (hI.2.1.1.2 r a ha).1 with g | g
      · rw [g.2.1, hc, c4]; exact hf
      · omega
    refine va_get (fs := xfs φ (σ.2.1 r) (σ.2.2 r) a) (ci := ci) (C := q.1) (T := q.2.1) (N := q.2.2) C.1.1 C.1.2.1 C.2.1 c1 C.1.2.2.2 C.2.2.1 hI.1.1 r ?_ hq f hf (C.2.1 _ hw) (fun x hx => by rw [h1] at hx; exact hx) (v := xfv φ (σ.2.1 r) (σ.2.2 r) a.2.2 t f) ?_ hd kk
    · rw [xw_at ha, xE_o (by omega), hc]
    · rw [xfs_at hfl, hc, ht]
  have h0 := xget_inv h
  clear h
  obtain ⟨r, rest, rfl, ⟨ht2, h⟩ | ⟨rfl, h⟩ | ⟨rfl, h⟩⟩ := h0
  · unfold xgI at h
    cases hi : xis σ.1 ci r with
    | false => simp [hi] at h
    | true =>
      simp only [hi, cond_true] at h
      obtain ⟨a, ha, hc⟩ := xis_at hi
      have hkk := hk φ _ _ _ M H locs (hI.st (xok_cons.mpr ⟨xvd_i, (xok_cons.mp hI.2.2.2.2.2).2⟩)) h
      refine core r rest a ha hc ?_
      rcases ht2 with rfl | rfl <;> exact hkk
  · unfold xgJ at h
    cases hi : xis σ.1 ci r with
    | false => simp [hi] at h
    | true =>
      simp only [hi, cond_true] at h
      obtain ⟨a, ha, hc⟩ := xis_at hi
      exact core r rest a ha hc (hk φ _ _ _ M H locs (hI.st (xok_cons.mpr ⟨xvd_j, (xok_cons.mp hI.2.2.2.2.2).2⟩)) h)
  · unfold xgR at h
    cases hi : xis σ.1 ci r with
    | false => simp [hi] at h
    | true =>
      simp only [hi, cond_true] at h
      obtain ⟨a, ha, hc⟩ := xis_at hi
      rw [xrf_eq, xn_eq, ha] at h
      dsimp only at h
      cases hr : xo a.2.2 f with
      | none => rw [hr] at h; cases h
      | some v =>
        rw [hr] at h
        have hkk := hk φ _ _ _ M H locs (hI.st (xok_cons.mpr ⟨xvd_r ((hI.2.1.1.2 r a ha).2 f v hr), (xok_cons.mp hI.2.2.2.2.2).2⟩)) h
        refine core r rest a ha hc ?_
        unfold xfv
        rw [hr]
        exact hkk

theorem xs_put (C : xCt X φ0 L xs y cc n ret p R s m args meth c) {t ci f idx : Nat} {q : vw_C} (hq : vwCl[ci]? = some q) (hf : f < q.2.2) (ht : xtf ci f = t) (h1 : (q.2.1 f).1 = q.1) (hfin : (q.2.1 f).2.2.2 = false ∨ (y.name = "<init>" ∧ q.1 = y.cls)) (hw : Cond.fieldLink y.cls idx q.1 (q.2.1 f).2.1 (q.2.1 f).2.2.1 ∈ xTl) (hd : decode cc pc = .ok (.putfield idx, 3)) (hk : xGo X φ0 L xs σ0 n p l e R s m args below meth c Q o (pc + 3) k) : xGo X φ0 L xs σ0 n p l e R s m args below meth c Q o pc (fun ls st σ => xput [t, ci, f] ls st σ k) := by
  intro φ ls st σ M H locs hI h
  obtain ⟨c1, c2, ⟨ty, c3, c3'⟩, c4, c5⟩ := xcl ci q hq
  have hty := c3' f hf
  rw [ht] at hty
  have core : ∀ (r : Nat) (rest : List Value) (a : xO) (v : Value) (σ' : xS), σ.1.1[r]? = some a → a.1 = ci → narrow (ty f) (xv φ v) = xv φ v → fits (ty f) (xv φ v) = true → xw φ X.2.1 σ' = (xw φ X.2.1 σ).set r (φ r, .inr (ci, (xfs φ (σ.2.1 r) (σ.2.2 r) a).set f (xv φ v))) → xwf σ' → σ'.1.2 = σ.1.2 → σ'.2.1 1000000 = σ.2.1 1000000 → σ'.1.1.length = σ.1.1.length → xsum σ'.1.1 = xsum σ.1.1 → xok' σ.1.1.length rest → k ls rest σ' = some o → W p l e R s m args below meth c H locs (xcnt σ - xcnt σ0) (xslt σ - xslt σ0) Q (F0 m pc M (xv φ v :: .ref (φ r) :: rest.map (xv φ))) := by
    intro r rest a v σ' ha hc hn hfit hw' g1 g2 g3 g4 g5 hrest hk'
    have hfl : f < a.2.1 := by
      rcases (hI.2.1.1.2 r a ha).1 with g | g
      · rw [g.2.1, hc, c4]; exact hf
      · omega
    have he : (xw φ X.2.1 σ)[r]? = some (φ r, .inr (ci, xfs φ (σ.2.1 r) (σ.2.2 r) a)) := by rw [xw_at ha, xE_o (by omega), hc]
    have hl : f < (xfs φ (σ.2.1 r) (σ.2.2 r) a).length := by rw [xfs_len]; exact hfl
    have ec : xcnt σ' = xcnt σ := by unfold xcnt; rw [g4, g2]
    have es : xslt σ' = xslt σ := by unfold xslt; rw [g5, g2]
    have fin : ∀ (H1 : Heap) (locs1 : List Loc), va_P X.1 vwCl ((xw φ X.2.1 σ).set r (φ r, .inr (ci, (xfs φ (σ.2.1 r) (σ.2.2 r) a).set f (xv φ v)))) H1 → va_D (xA X) ((xw φ X.2.1 σ).set r (φ r, .inr (ci, (xfs φ (σ.2.1 r) (σ.2.2 r) a).set f (xv φ v)))) → va_S (xA X) s.heap H1 locs1 → W p l e R s m args below meth c H1 locs1 (xcnt σ - xcnt σ0) (xslt σ - xslt σ0) Q (F0 m (pc + 3) M (rest.map (xv φ))) := by
      intro H1 locs1 e1 e2 e3
      rw [← hw'] at e1 e2
      have hx := hk φ ls rest σ' M H1 locs1 ⟨⟨e1, e2, e3⟩, ⟨g1, by rw [g2]; exact hI.2.1.2.1, by rw [g3]; exact hI.2.1.2.2⟩, ⟨hI.2.2.1.1, by rw [g4]; exact hI.2.2.1.2.1, by rw [xle, ec, es]; exact hI.2.2.1.2.2⟩, hI.2.2.2.1, by rw [g4]; exact hI.2.2.2.2.1, by rw [g4]; exact hrest⟩ hk'
      rw [ec, es] at hx
      exact hx
    rcases hfin with hfin | ⟨hi1, hi2⟩
    · exact va_put (C := q.1) (T := q.2.1) (N := q.2.2) C.1.1 C.1.2.1 C.2.1 c1 ty c3 c2 C.1.2.2.2 C.2.2.1 hI.1.1 hI.1.2.1 hI.1.2.2 r he hq f hf (C.2.1 _ hw) (fun x hx => by rw [h1] at hx; exact hx) hfin (c3 f hf) hn hfit hl hd fin
    · cases hfn : (q.2.1 f).2.2.2 with
      | false => exact va_put (C := q.1) (T := q.2.1) (N := q.2.2) C.1.1 C.1.2.1 C.2.1 c1 ty c3 c2 C.1.2.2.2 C.2.2.1 hI.1.1 hI.1.2.1 hI.1.2.2 r he hq f hf (C.2.1 _ hw) (fun x hx => by rw [h1] at hx; exact hx) hfn (c3 f hf) hn hfit hl hd fin
      | true => exact va_putF (C := q.1) (T := q.2.1) (N := q.2.2) C.1.1 C.1.2.1 C.2.1 c1 ty c3 c2 C.1.2.2.2 C.2.2.1 hI.1.1 hI.1.2.1 hI.1.2.2 r he hq f hf (C.2.1 _ hw) (fun x hx => by rw [h1] at hx; exact hx) hfn (by rw [C.2.2.2.2.2.1.2.2 hi1]; exact hi1) (by rw [h1]; exact hi2) (c3 f hf) hn hfit hl hd fin
  have hcat : ∀ (r : Nat) (a : xO), σ.1.1[r]? = some a → a.1 = ci → f < a.2.1 := by
    intro r a ha hc
    rcases (hI.2.1.1.2 r a ha).1 with g | g
    · rw [g.2.1, hc, c4]; exact hf
    · omega
  have h0 := xput_inv h
  clear h
  obtain ⟨r, rest, ⟨v, rfl, ⟨rfl, h⟩ | ⟨rfl, h⟩⟩ | ⟨v, rfl, rfl, h⟩ | ⟨v, rfl, rfl, h⟩⟩ := h0
  · unfold xpI at h
    cases hi : xis σ.1 ci r with
    | false => simp [hi] at h
    | true =>
      simp only [hi, cond_true] at h
      obtain ⟨a, ha, hc⟩ := xis_at hi
      have e0 : ty f = .int := of_decide_eq_true hty
      refine core r rest a (.int v) ((σ.1.1, σ.1.2), xu σ.2.1 r f v, σ.2.2) ha hc (by rw [e0]; rfl) (by rw [e0]; rfl) ?_ (xwf_m hI.2.1.1) rfl (xscr (xwf_lt hI.2.1.1 ha)) rfl rfl (xok_cons.mp (xok_cons.mp hI.2.2.2.2.2).2).2 h
      rw [xw_set (a := a) (b := a) ha (xself ha) (fun j hj => xu_ne hj) (fun j hj => rfl), xE_o (by omega), hc]
      congr 4
      refine xfs_set rfl rfl (hcat r a ha hc) ?_ (fun j hj => ?_)
      · rw [hc, ht]; simp [xfv, xu, xv]
      · rw [xu_eq]; unfold xfv; split <;> first | rfl | (simp [hj])
  · unfold xpZ at h
    cases hi : (xis σ.1 ci r && (decide (v = 0) || decide (v = 1))) with
    | false => simp [hi] at h
    | true =>
      simp only [hi, cond_true] at h
      simp only [Bool.and_eq_true, Bool.or_eq_true, decide_eq_true_eq] at hi
      obtain ⟨a, ha, hc⟩ := xis_at hi.1
      have e0 : ty f = .boolean := of_decide_eq_true hty
      refine core r rest a (.int v) ((σ.1.1, σ.1.2), xu σ.2.1 r f v, σ.2.2) ha hc (by rw [e0]; rcases hi.2 with rfl | rfl <;> rfl) (by rw [e0]; rcases hi.2 with rfl | rfl <;> rfl) ?_ (xwf_m hI.2.1.1) rfl (xscr (xwf_lt hI.2.1.1 ha)) rfl rfl (xok_cons.mp (xok_cons.mp hI.2.2.2.2.2).2).2 h
      rw [xw_set (a := a) (b := a) ha (xself ha) (fun j hj => xu_ne hj) (fun j hj => rfl), xE_o (by omega), hc]
      congr 4
      refine xfs_set rfl rfl (hcat r a ha hc) ?_ (fun j hj => ?_)
      · rw [hc, ht]; simp [xfv, xu, xv]
      · rw [xu_eq]; unfold xfv; split <;> first | rfl | (simp [hj])
  · unfold xpJ at h
    cases hi : xis σ.1 ci r with
    | false => simp [hi] at h
    | true =>
      simp only [hi, cond_true] at h
      obtain ⟨a, ha, hc⟩ := xis_at hi
      have e0 : ty f = .long := of_decide_eq_true hty
      refine core r rest a (.long v) ((σ.1.1, σ.1.2), σ.2.1, xu σ.2.2 r f v) ha hc (by rw [e0]; rfl) (by rw [e0]; rfl) ?_ (xwf_m hI.2.1.1) rfl rfl rfl rfl (xok_cons.mp (xok_cons.mp hI.2.2.2.2.2).2).2 h
      rw [xw_set (a := a) (b := a) ha (xself ha) (fun j hj => rfl) (fun j hj => xu_ne hj), xE_o (by omega), hc]
      congr 4
      refine xfs_set rfl rfl (hcat r a ha hc) ?_ (fun j hj => ?_)
      · rw [hc, ht]; simp [xfv, xu, xv]
      · rw [xu_eq]; unfold xfv; split <;> first | rfl | (simp [hj])
  · unfold xpR at h
    cases hi : xis σ.1 ci r with
    | false => simp [hi] at h
    | true =>
      simp only [hi, cond_true] at h
      obtain ⟨a, ha, hc⟩ := xis_at hi
      have hv := xok_cons.mp hI.2.2.2.2.2
      have hqv : xld σ.1.1.length v := hv.1 v rfl
      have hrl : f < a.2.2.length := by
        rcases (hI.2.1.1.2 r a ha).1 with g | g
        · rw [g.2.2]; exact hcat r a ha hc
        · omega
      refine core r rest a (.ref v) ((xsr σ.1.1 r f v, σ.1.2), σ.2.1, σ.2.2) ha hc (by revert hty; cases ty f <;> simp [xtyk, xv, narrow]) (by revert hty; cases ty f <;> simp [xtyk, xv, fits]) ?_ (xwf_sr hI.2.1.1 hqv) rfl rfl (xsr_len _ _ _ _) (xsr_sum _ _ _ _) (xok_cons.mp hv.2).2 h
      rw [xw_set (σ := σ) (a := a) (b := (a.1, a.2.1, a.2.2.set f (some v))) ha (xsr_eq ha) (fun j hj => rfl) (fun j hj => rfl), xE_o (by show a.1 < 13; omega)]
      dsimp only
      rw [hc]
      congr 4
      refine xfs_set (a := a) (b := (ci, a.2.1, a.2.2.set f (some v))) hc.symm rfl (hcat r a ha hc) ?_ (fun j hj => ?_)
      · rw [hc, ht]; simp [xfv, xo_set, hrl, xv, va_rf]
      · unfold xfv; split <;> first | rfl | (simp [xo_set, hj])

end XS2
