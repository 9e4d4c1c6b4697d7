/-! A block, a method: what the interpreter does, the machine does. -/
def xRk (cc : ByteArray) (pc : Nat) (ret : Option FieldType) (v : Option Value) : Prop := (decode cc pc = .ok (.ireturn, 1) ∧ ∃ x, v = some (.int x) ∧ (ret = some .int ∨ (ret = some .boolean ∧ (x = 0 ∨ x = 1)))) ∨ (decode cc pc = .ok (.lreturn, 1) ∧ (∃ x, v = some (.long x)) ∧ ret = some .long) ∨ (decode cc pc = .ok (.areturn, 1) ∧ (∃ q, v = some (.ref q)) ∧ ((∃ n, ret = some (.object n)) ∨ ∃ t, ret = some (.array t))) ∨ (decode cc pc = .ok (.return_, 1) ∧ v = none ∧ ret = none)
def xRt (X : xX) (φ0 : Nat → Nat) (L : Nat) (xs : Nat → Int32) (σ0 : xS) (n : Nat) (p : Program) (l : Launch) (e : Env) (R : Room) (s : State) (m : MethodId) (args : Array Value) (below : List Frame) (meth : Method) (c : Code) (Q : State → Prop) (o : xOut) (cc : ByteArray) (ret : Option FieldType) : Prop :=
  ∀ φ ls v σ M H locs pc, xIv X φ0 L xs σ0 n s φ ls [] σ M H locs → (∀ w, v = some w → xvd σ.1.1.length w) → o = (v, σ) → xRk cc pc ret v → W p l e R s m args below meth c H locs (xcnt σ - xcnt σ0) (xslt σ - xslt σ0) Q (F0 m pc M (v.toList.map (xv φ)))
def xTh (X : xX) (φ0 : Nat → Nat) (L : Nat) (xs : Nat → Int32) (σ0 : xS) (n : Nat) (p : Program) (l : Launch) (e : Env) (R : Room) (s : State) (m : MethodId) (args : Array Value) (below : List Frame) (meth : Method) (c : Code) (Q : State → Prop) (o : xOut) (cc : ByteArray) : Prop :=
  ∀ φ ls st σ M H locs pc, xIv X φ0 L xs σ0 n s φ ls st σ M H locs → o = (some xT, ((σ.1.1, σ.1.2.1 + 1, σ.1.2.2), σ.2)) → decode cc pc = .ok (.new 145, 3) → xtw cc pc 145 = true → xcat st ≤ 8 → W p l e R s m args below meth c H locs (xcnt σ - xcnt σ0) (xslt σ - xslt σ0) Q (F0 m pc M (st.map (xv φ)))
theorem xcw_inv {own : String} {idx h fl : Nat} {ops : List Nat} (hw : xcw own idx h ops fl = true) : ∃ mid nn rt ci mi, ops = [0, mid, nn, rt, ci] ∧ xn xinfo mid = some mi := by
  unfold xcw at hw
  split at hw
  · next mid nn rt ci =>
    unfold xcwB at hw
    split at hw
    · next mi e => exact ⟨mid, nn, rt, ci, mi, rfl, e⟩
    · cases hw
  · cases hw
theorem xWi_inv {own : String} {idx h k : Nat} {ops : List Nat} {nm : MethodName} (hw : xWi own idx h ops nm k = true) : ops = [k] ∧ Cond.methodLink own idx nm ∈ xTl := by
  simp only [xWi, Bool.and_eq_true, decide_eq_true_eq] at hw
  exact ⟨hw.1, xTb_in hw.2⟩
theorem xfw_inv {own mn : String} {idx h : Nat} {ops : List Nat} {put : Bool} (hw : xfw own mn idx h ops put = true) : ∃ t ci f q, ops = [t, ci, f] ∧ vwCl[ci]? = some q ∧ f < q.2.2 ∧ xtf ci f = t ∧ (q.2.1 f).1 = q.1 ∧ Cond.fieldLink own idx q.1 (q.2.1 f).2.1 (q.2.1 f).2.2.1 ∈ xTl ∧ (put = true → (q.2.1 f).2.2.2 = false ∨ (mn = "<init>" ∧ q.1 = own)) := by
  unfold xfw at hw
  split at hw
  · next t ci f =>
    split at hw
    · next q e =>
      simp only [Bool.and_eq_true, Bool.or_eq_true, Bool.not_eq_true', decide_eq_true_eq] at hw
      obtain ⟨⟨⟨⟨⟨a1, a2⟩, a3⟩, a4⟩, a5⟩, a6⟩ := hw
      refine ⟨t, ci, f, q, rfl, by rw [← xn_eq]; exact e, a1, a2, a4, xTb_in a5, fun hp => ?_⟩
      rcases a6 with (h | h) | h
      · rw [hp] at h; cases h
      · exact Or.inl h
      · exact Or.inr h
    · cases hw
  · cases hw
def xRn : List xN → List Nat → Bool
  | a :: l, f :: fs => (decide (¬ f = 1) || decide (a.2.2.2.1 = none)) && xRn l fs
  | _, _ => true
theorem xcons_none : xMwL 0 xinfo xflag = true → ∀ mid mi, xn xinfo mid = some mi → xn xflag mid = some 1 → mi.2.2.2.1 = none := by
  intro _ mid mi h1 h2
  have key : ∀ (l : List xN) (fs : List Nat), (xRn l fs = true) → ∀ j mi, xn l j = some mi → xn fs j = some 1 → mi.2.2.2.1 = none := by
    intro l
    induction l with
    | nil => intro fs _ j mi h; cases h
    | cons a l ih =>
      intro fs hb j mi h3 h4
      cases fs with
      | nil => cases h4
      | cons f fs =>
        simp only [xRn, Bool.and_eq_true, Bool.or_eq_true, decide_eq_true_eq] at hb
        cases j with
        | zero =>
          cases h3
          cases h4
          rcases hb.1 with q | q
          · exact absurd rfl q
          · exact q
        | succ j => exact ih fs hb.2 j mi h3 h4
  exact key xinfo xflag (by decide +kernel) mid mi h1 h2
section XS7
variable {X : xX} {φ0 : Nat → Nat} {L : Nat} {xs : Nat → Int32} {σ0 : xS} {n : Nat} {p : Program} {l : Launch} {e : Env} {R : Room} {s : State} {m : MethodId} {args : Array Value} {below : List Frame} {meth : Method} {c : Code} {Q : State → Prop} {o : xOut} {pc : Nat} {k : xK} {kb : xKB} {y : MethodName} {cc : ByteArray} {ret : Option FieldType}
variable {cf : xCF} {d : Nat}
set_option maxHeartbeats 1000000 in
theorem xone_go {thr : Bool} {starts : List Nat} (C : xCt X φ0 L xs y cc n ret p R s m args meth c) (hcf : xCs X L xs l cf d) (hcm : ∀ mid as σ v σ', cf mid as σ = some (v, σ') → xle σ σ') (hRf : d + 13 ≤ R.frames ∧ 64 * (d + 1) + 400 ≤ R.locals) (hmo : ∀ ls st σ, k ls st σ = some o → xle σ o.2) (hRb : xcnt o.2 - xcnt σ0 ≤ R.cells ∧ xslt o.2 - xslt σ0 ≤ R.slots)
    (i : xI) (hdec : decode cc pc = .ok (i.1, i.2.1)) (hlen : i.2.1 = xln i) (hW : xW thr y cc ret starts pc i = true) (hk : xend i = false → xGo X φ0 L xs σ0 n p l e R s m args below meth c Q o (pc + i.2.1) k) (hT : ∀ t tg, xn starts t = some tg → xGo X φ0 L xs σ0 n p l e R s m args below meth c Q o tg (kb t)) (hRet : xRt X φ0 L xs σ0 n p l e R s m args below meth c Q o cc ret) (hThr : thr = true → xTh X φ0 L xs σ0 n p l e R s m args below meth c Q o cc) : xGo X φ0 L xs σ0 n p l e R s m args below meth c Q o pc (fun ls st σ => xone cf kb i ls st σ k) := by
  obtain ⟨ins, len, a, ops, tab⟩ := i
  replace hlen : len = xln (ins, len, a, ops, tab) := hlen
  have hnone := xcons_none xMw_all
  cases ins
  case iadd =>
    replace hlen : len = 1 := hlen
    subst hlen
    exact xs_iadd C hdec (hk rfl)
  case isub =>
    replace hlen : len = 1 := hlen
    subst hlen
    exact xs_isub C hdec (hk rfl)
  case imul =>
    replace hlen : len = 1 := hlen
    subst hlen
    exact xs_imul C hdec (hk rfl)
  case iand =>
    replace hlen : len = 1 := hlen
    subst hlen
    exact xs_iand C hdec (hk rfl)
  case ior =>
    replace hlen : len = 1 := hlen
    subst hlen
    exact xs_ior C hdec (hk rfl)
  case ixor =>
    replace hlen : len = 1 := hlen
    subst hlen
    exact xs_ixor C hdec (hk rfl)
  case ishl =>
    replace hlen : len = 1 := hlen
    subst hlen
    exact xs_ishl C hdec (hk rfl)
  case ishr =>
    replace hlen : len = 1 := hlen
    subst hlen
    exact xs_ishr C hdec (hk rfl)
  case iushr =>
    replace hlen : len = 1 := hlen
    subst hlen
    exact xs_iushr C hdec (hk rfl)
  case idiv =>
    replace hlen : len = 1 := hlen
    subst hlen
    exact xs_idiv C hdec (hk rfl)
  case irem =>
    replace hlen : len = 1 := hlen
    subst hlen
    exact xs_irem C hdec (hk rfl)
  case land =>
    replace hlen : len = 1 := hlen
    subst hlen
    exact xs_land C hdec (hk rfl)
  case lor =>
    replace hlen : len = 1 := hlen
    subst hlen
    exact xs_lor C hdec (hk rfl)
  case lshl =>
    replace hlen : len = 1 := hlen
    subst hlen
    exact xs_lshl C hdec (hk rfl)
  case lshr =>
    replace hlen : len = 1 := hlen
    subst hlen
    exact xs_lshr C hdec (hk rfl)
  case lushr =>
    replace hlen : len = 1 := hlen
    subst hlen
    exact xs_lushr C hdec (hk rfl)
  case lcmp =>
    replace hlen : len = 1 := hlen
    subst hlen
    exact xs_lcmp C hdec (hk rfl)
  case i2l =>
    replace hlen : len = 1 := hlen
    subst hlen
    exact xs_i2l C hdec (hk rfl)
  case l2i =>
    replace hlen : len = 1 := hlen
    subst hlen
    exact xs_l2i C hdec (hk rfl)
  case i2b =>
    replace hlen : len = 1 := hlen
    subst hlen
    exact xs_i2b C hdec (hk rfl)
  case dup =>
    replace hlen : len = 1 := hlen
    subst hlen
    exact xs_dup C hdec (hk rfl)
  case pop =>
    replace hlen : len = 1 := hlen
    subst hlen
    exact xs_pop C hdec (hk rfl)
  case dup2 =>
    replace hlen : len = 1 := hlen
    subst hlen
    exact xs_dup2 C hdec (hk rfl)
  case iaload =>
    replace hlen : len = 1 := hlen
    subst hlen
    exact xs_iaload C hdec (hk rfl)
  case baload =>
    replace hlen : len = 1 := hlen
    subst hlen
    exact xs_baload C hdec (hk rfl)
  case laload =>
    replace hlen : len = 1 := hlen
    subst hlen
    exact xs_laload C hdec (hk rfl)
  case aaload =>
    replace hlen : len = 1 := hlen
    subst hlen
    exact xs_aaload C hdec (hk rfl)
  case iastore =>
    replace hlen : len = 1 := hlen
    subst hlen
    exact xs_iastore C hdec (hk rfl)
  case bastore =>
    replace hlen : len = 1 := hlen
    subst hlen
    exact xs_bastore C hdec (hk rfl)
  case lastore =>
    replace hlen : len = 1 := hlen
    subst hlen
    exact xs_lastore C hdec (hk rfl)
  case aastore =>
    replace hlen : len = 1 := hlen
    subst hlen
    exact xs_aastore C hdec (hk rfl)
  case arraylength =>
    replace hlen : len = 1 := hlen
    subst hlen
    exact xs_alen C hdec (hk rfl)
  case iconst v =>
    replace hlen : len = 1 := hlen
    subst hlen
    exact xs_iconst C hdec (of_decide_eq_true hW) (hk rfl)
  case bipush v =>
    replace hlen : len = 2 := hlen
    subst hlen
    exact xs_bipush C hdec (of_decide_eq_true hW) (hk rfl)
  case sipush v =>
    replace hlen : len = 3 := hlen
    subst hlen
    exact xs_sipush C hdec (of_decide_eq_true hW) (hk rfl)
  case ldc v =>
    replace hlen : len = 2 := hlen
    subst hlen
    cases ops with
    | nil => exact xs_ldc C hdec (xTb_in hW) (hk rfl)
    | cons q r => cases r with
      | nil =>
        have hW : (decide (y.cls = RX11) && ((decide (v = 328) && decide (q = 1000002)) || (decide (v = 337) && decide (q = 1000003)))) = true := hW
        simp only [Bool.and_eq_true, Bool.or_eq_true, decide_eq_true_eq] at hW
        exact xs_ldcS C hW.1 hW.2 hdec (hk rfl)
      | cons r1 r2 => cases hW
  case ldc_w v =>
    replace hlen : len = 3 := hlen
    subst hlen
    cases ops with
    | nil => exact xs_ldcw C hdec (xTb_in hW) (hk rfl)
    | cons q r => cases r with
      | nil =>
        have hW : (decide (y.cls = RX11) && ((decide (v = 328) && decide (q = 1000002)) || (decide (v = 337) && decide (q = 1000003)))) = true := hW
        simp only [Bool.and_eq_true, Bool.or_eq_true, decide_eq_true_eq] at hW
        exact xs_ldcSW C hW.1 hW.2 hdec (hk rfl)
      | cons r1 r2 => cases hW
  case lconst v =>
    replace hlen : len = 1 := hlen
    subst hlen
    cases ops with
    | nil => cases hW
    | cons q r => cases r with
      | nil => exact xs_lconst C hdec (of_decide_eq_true hW) (hk rfl)
      | cons r1 r2 => cases hW
  case ldc2_w v =>
    replace hlen : len = 3 := hlen
    subst hlen
    cases ops with
    | nil => cases hW
    | cons q r => cases r with
      | nil => exact xs_ldc2 C hdec (xTb_in hW) (hk rfl)
      | cons r1 r2 => cases hW
  case iload i =>
    replace hlen : len = 2 := hlen
    subst hlen
    exact xs_iload C hdec (hk rfl)
  case iload_n i =>
    replace hlen : len = 1 := hlen
    subst hlen
    exact xs_iload_n C hdec (hk rfl)
  case istore i =>
    replace hlen : len = 2 := hlen
    subst hlen
    exact xs_istore C hdec (hk rfl)
  case istore_n i =>
    replace hlen : len = 1 := hlen
    subst hlen
    exact xs_istore_n C hdec (hk rfl)
  case lload i =>
    replace hlen : len = 2 := hlen
    subst hlen
    exact xs_lload C hdec (hk rfl)
  case lload_n i =>
    replace hlen : len = 1 := hlen
    subst hlen
    exact xs_lload_n C hdec (hk rfl)
  case lstore i =>
    replace hlen : len = 2 := hlen
    subst hlen
    exact xs_lstore C hdec (hk rfl)
  case lstore_n i =>
    replace hlen : len = 1 := hlen
    subst hlen
    exact xs_lstore_n C hdec (hk rfl)
  case aload i =>
    replace hlen : len = 2 := hlen
    subst hlen
    exact xs_aload C hdec (hk rfl)
  case aload_n i =>
    replace hlen : len = 1 := hlen
    subst hlen
    exact xs_aload_n C hdec (hk rfl)
  case astore i =>
    replace hlen : len = 2 := hlen
    subst hlen
    exact xs_astore C hdec (hk rfl)
  case astore_n i =>
    replace hlen : len = 1 := hlen
    subst hlen
    exact xs_astore_n C hdec (hk rfl)
  case iinc i v =>
    replace hlen : len = 3 := hlen
    subst hlen
    exact xs_iinc C hdec (of_decide_eq_true hW) (hk rfl)
  case getfield v =>
    replace hlen : len = 3 := hlen
    subst hlen
    obtain ⟨t, ci, f, q, rfl, h1, h2, h3, h4, h5, -⟩ := xfw_inv hW
    exact xs_get C h1 h2 h3 h4 h5 hdec (hk rfl)
  case putfield v =>
    replace hlen : len = 3 := hlen
    subst hlen
    obtain ⟨t, ci, f, q, rfl, h1, h2, h3, h4, h5, h6⟩ := xfw_inv hW
    exact xs_put C h1 h2 h3 h4 (h6 rfl) h5 hdec (hk rfl)
  case getstatic v =>
    replace hlen : len = 3 := hlen
    subst hlen
    exact xs_gets C (xTb_in hW) hdec (hk rfl)
  case new v =>
    replace hlen : len = 3 := hlen
    subst hlen
    match ops, hW, hk with
    | [0, ci, N], hW, hk =>
      have hW : (match xn vwCl ci with | some q => decide (ci < 13) && decide (N = q.2.2) && xTb (.classLink y.cls v q.1) (xh (.new v, 3, a, [0, ci, N], tab) 0) && xTb (.instantiable q.1 N) (xh (.new v, 3, a, [0, ci, N], tab) 1) && xTb (.initialized q.1) (xh (.new v, 3, a, [0, ci, N], tab) 2) | none => false) = true := hW
      split at hW
      · next q e =>
        simp only [Bool.and_eq_true, decide_eq_true_eq] at hW
        obtain ⟨⟨⟨⟨w1, w2⟩, w3⟩, w4⟩, w5⟩ := hW
        exact xs_new C (by rw [← xn_eq]; exact e) w2 (xTb_in w3) (xTb_in w4) (xTb_in w5) hdec hmo hRb (hk rfl)
      · cases hW
    | [1], hW, hk =>
      have hW : (thr && xtw cc pc v) = true := hW
      simp only [Bool.and_eq_true] at hW
      have hv : v = 145 := by
        have h2 := hW.2
        simp only [xtw, Bool.and_eq_true, decide_eq_true_eq] at h2
        exact h2.1.1.1
      subst hv
      intro φ ls st σ M H locs hI h
      replace h : (bif Nat.ble (xcat st) 8 then some (some xT, ((σ.1.1, σ.1.2.1 + 1, σ.1.2.2), σ.2)) else none) = some o := h
      cases hb : Nat.ble (xcat st) 8 with
      | false => simp [hb] at h
      | true =>
        simp only [hb, cond_true] at h
        rw [Nat.ble_eq] at hb
        exact hThr hW.1 φ ls st σ M H locs pc hI (Option.some.inj h).symm hdec hW.2 hb
    | [], hW, _ => cases hW
    | [0], hW, _ => cases hW
    | [0, _], hW, _ => cases hW
    | 0 :: _ :: _ :: _ :: _, hW, _ => cases hW
    | 1 :: _ :: _, hW, _ => cases hW
    | (b + 2) :: r, hW, _ =>
      exfalso
      revert hW
      cases r with
      | nil => intro hW; cases hW
      | cons r1 r2 => cases r2 with
        | nil => intro hW; cases hW
        | cons r3 r4 => cases r4 <;> (intro hW; cases hW)
  case newarray v =>
    replace hlen : len = 2 := hlen
    subst hlen
    exact xs_newa C (xTb_in hW) hdec hmo hRb (hk rfl)
  case anewarray v =>
    replace hlen : len = 3 := hlen
    subst hlen
    exact xs_newq C (xTb_in hW) hdec hmo hRb (hk rfl)
  case multianewarray v w =>
    replace hlen : len = 4 := hlen
    subst hlen
    have hW : (decide (w = 2) && xTb (.classLink y.cls v ("[" ++ (FieldType.array .int).toString)) (xh (.multianewarray v w, 4, a, ops, tab) 0) && xTb (.arrayClass .int) (xh (.multianewarray v w, 4, a, ops, tab) 1)) = true := hW
    simp only [Bool.and_eq_true, decide_eq_true_eq] at hW
    obtain ⟨⟨rfl, w1⟩, w2⟩ := hW
    exact xs_mna C (xTb_in w1) (xTb_in w2) hdec hmo hRb (hk rfl)
  case invokestatic v =>
    replace hlen : len = 3 := hlen
    subst hlen
    have hW : (xcw y.cls v (xh (.invokestatic v, 3, a, ops, tab) 0) ops 0 || xcw y.cls v (xh (.invokestatic v, 3, a, ops, tab) 0) ops 4 || xWi y.cls v (xh (.invokestatic v, 3, a, ops, tab) 0) ops Lib.Math.max.name 2 || xWi y.cls v (xh (.invokestatic v, 3, a, ops, tab) 0) ops Lib.Math.min.name 3 || xWi y.cls v (xh (.invokestatic v, 3, a, ops, tab) 0) ops arraycopyName 4) = true := hW
    generalize xh (.invokestatic v, 3, a, ops, tab) 0 = h0 at hW
    simp only [Bool.or_eq_true] at hW
    rcases hW with (((hW | hW) | hW) | hW) | hW
    · obtain ⟨mid, nn, rt, ci, mi, rfl, hmi⟩ := xcw_inv hW
      exact xs_callS C hmi hW hdec hcf hcm hRf hmo hRb (hk rfl)
    · obtain ⟨mid, nn, rt, ci, mi, rfl, hmi⟩ := xcw_inv hW
      exact xs_callW C hmi hW hdec hcf hcm hRf hmo hRb (hk rfl)
    · obtain ⟨rfl, w1⟩ := xWi_inv hW
      exact xs_mmax C w1 hdec hmo hRb (hk rfl)
    · obtain ⟨rfl, w1⟩ := xWi_inv hW
      exact xs_mmin C w1 hdec hmo hRb (hk rfl)
    · obtain ⟨rfl, w1⟩ := xWi_inv hW
      exact xs_copy C w1 hdec (hk rfl)
  case invokespecial v =>
    replace hlen : len = 3 := hlen
    subst hlen
    have hW : (xcw y.cls v (xh (.invokespecial v, 3, a, ops, tab) 0) ops 1 || xWi y.cls v (xh (.invokespecial v, 3, a, ops, tab) 0) ops Lib.objectInit 1) = true := hW
    generalize xh (.invokespecial v, 3, a, ops, tab) 0 = h0 at hW
    simp only [Bool.or_eq_true] at hW
    rcases hW with hW | hW
    · obtain ⟨mid, nn, rt, ci, mi, rfl, hmi⟩ := xcw_inv hW
      exact xs_callI C hmi hW hdec hnone hcf hcm hRf hmo hRb (hk rfl)
    · obtain ⟨rfl, w1⟩ := xWi_inv hW
      exact xs_ob C w1 hdec (hk rfl)
  case invokevirtual v =>
    replace hlen : len = 3 := hlen
    subst hlen
    have hW : xcw y.cls v (xh (.invokevirtual v, 3, a, ops, tab) 0) ops 2 = true := hW
    generalize xh (.invokevirtual v, 3, a, ops, tab) 0 = h0 at hW
    obtain ⟨mid, nn, rt, ci, mi, rfl, hmi⟩ := xcw_inv hW
    exact xs_callV C hmi hW hdec hcf hcm hRf hmo hRb (hk rfl)
  case goto v =>
    replace hlen : len = 3 := hlen
    subst hlen
    obtain ⟨tg, g1, g2⟩ := xtg_at (show xtg starts pc v (xto ops) = true from hW)
    exact xs_goto C hdec g2 (hT _ tg g1)
  case ifCond cd v =>
    replace hlen : len = 3 := hlen
    subst hlen
    obtain ⟨tg, g1, g2⟩ := xtg_at (show xtg starts pc v (xto ops) = true from hW)
    exact xs_if C hdec g2 (hT _ tg g1) (hk rfl)
  case if_icmp cd v =>
    replace hlen : len = 3 := hlen
    subst hlen
    obtain ⟨tg, g1, g2⟩ := xtg_at (show xtg starts pc v (xto ops) = true from hW)
    exact xs_icmp C hdec g2 (hT _ tg g1) (hk rfl)
  case tableswitch df lo hi offs =>
    have hW : (xtg starts pc df (xto ops) && xswc starts pc lo offs.toList tab && decide (hi = lo + offs.size - 1)) = true := hW
    simp only [Bool.and_eq_true, decide_eq_true_eq] at hW
    exact xs_tsw C hdec hW.1.1 hW.1.2 hW.2 hT
  case lookupswitch df ps =>
    have hW : (xtg starts pc df (xto ops) && xlkc starts pc ps.toList tab && (ps.toList.zip (ps.toList.drop 1)).all (fun (a, next) => a.1 < next.1)) = true := hW
    simp only [Bool.and_eq_true] at hW
    exact xs_lsw C hdec hW.1.1 hW.1.2 hW.2 hT
  case ireturn =>
    replace hlen : len = 1 := hlen
    subst hlen
    intro φ ls st σ M H locs hI h
    replace h : xreI ops st σ = some o := h
    unfold xreI at h
    split at h
    · next x =>
      cases ops with
      | nil => exact hRet φ ls (some (.int x)) σ M H locs pc (hI.st (fun _ h => by cases h)) (fun w hw => by cases hw; exact xvd_i) (Option.some.inj h).symm (Or.inl ⟨hdec, x, rfl, Or.inl (of_decide_eq_true hW)⟩)
      | cons b r =>
        replace h : xrZ x σ = some o := h
        unfold xrZ at h
        cases hz : (decide (x = 0) || decide (x = 1)) with
        | false => simp [hz] at h
        | true =>
          simp only [hz, cond_true] at h
          simp only [Bool.or_eq_true, decide_eq_true_eq] at hz
          exact hRet φ ls (some (.int x)) σ M H locs pc (hI.st (fun _ h => by cases h)) (fun w hw => by cases hw; exact xvd_i) (Option.some.inj h).symm (Or.inl ⟨hdec, x, rfl, Or.inr ⟨of_decide_eq_true hW, hz⟩⟩)
    · cases h
  case lreturn =>
    replace hlen : len = 1 := hlen
    subst hlen
    intro φ ls st σ M H locs hI h
    replace h : xreJ st σ = some o := h
    unfold xreJ at h
    split at h
    · next x => exact hRet φ ls (some (.long x)) σ M H locs pc (hI.st (fun _ h => by cases h)) (fun w hw => by cases hw; exact xvd_j) (Option.some.inj h).symm (Or.inr (Or.inl ⟨hdec, ⟨x, rfl⟩, of_decide_eq_true hW⟩))
    · cases h
  case areturn =>
    replace hlen : len = 1 := hlen
    subst hlen
    intro φ ls st σ M H locs hI h
    replace h : xreR st σ = some o := h
    unfold xreR at h
    split at h
    · next x =>
      refine hRet φ ls (some (.ref x)) σ M H locs pc (hI.st (fun _ h => by cases h)) (fun w hw => by cases hw; exact (xok_cons.mp hI.2.2.2.2.2).1) (Option.some.inj h).symm (Or.inr (Or.inr (Or.inl ⟨hdec, ⟨x, rfl⟩, ?_⟩)))
      rcases ret with _ | t
      · cases hW
      · cases t <;> first | exact Or.inl ⟨_, rfl⟩ | exact Or.inr ⟨_, rfl⟩ | cases hW
    · cases h
  case return_ =>
    replace hlen : len = 1 := hlen
    subst hlen
    intro φ ls st σ M H locs hI h
    replace h : xreV st σ = some o := h
    unfold xreV at h
    split at h
    · exact hRet φ ls none σ M H locs pc hI (fun w hw => by cases hw) (Option.some.inj h).symm (Or.inr (Or.inr (Or.inr ⟨hdec, rfl, of_decide_eq_true hW⟩)))
    · cases h
  all_goals
    intro φ ls st σ M H locs hI h
    cases h
theorem xexec_mo {nx : Nat} (hcm : ∀ mid as σ v σ', cf mid as σ = some (v, σ') → xle σ σ') (hkb : ∀ b ls st σ, kb b ls st σ = some o → xle σ o.2) : ∀ (is : List xI) (ls st : List Value) (σ : xS), xexec cf kb nx is ls st σ = some o → xle σ o.2
  | [], ls, st, σ, h => hkb _ _ _ _ h
  | i :: is, ls, st, σ, h => by
    have h : xone cf kb i ls st σ (xexec cf kb nx is) = some o := h
    rcases xU_one ls st σ i with g | ⟨v, σ1, hl, g⟩ | ⟨ls1, st1, σ1, hl, g⟩ | ⟨b, ls1, st1, σ1, hl, g⟩ | ⟨mid, as, ls1, rest, rt, g⟩
    · dsimp only at g; rw [g] at h; cases h
    · dsimp only at g; rw [g] at h; cases h; exact hl
    · dsimp only at g; rw [g] at h; exact xle_t hl (xexec_mo hcm hkb is _ _ _ h)
    · dsimp only at g; rw [g] at h; exact xle_t hl (hkb _ _ _ _ h)
    · dsimp only at g; rw [g] at h
      rcases xret_cases rt (cf mid as σ) with h0 | ⟨v, σ1, e, h1⟩
      · rw [h0] at h; cases h
      · rw [h1] at h
        exact xle_t (hcm _ _ _ _ _ e) (xexec_mo hcm hkb is _ _ _ h)
theorem xloop_mo {M : List xB} (hcm : ∀ mid as σ v σ', cf mid as σ = some (v, σ') → xle σ σ') : ∀ (k b : Nat) (ls st : List Value) (σ : xS), xloop cf M k b ls st σ = some o → xle σ o.2
  | 0, _, _, _, _, h => by cases h
  | k + 1, b, ls, st, σ, h => by
    have h : xbody cf M (xloop cf M k) b ls st σ = some o := h
    unfold xbody at h
    split at h
    · exact xexec_mo hcm (fun b ls st σ hh => xloop_mo hcm k _ _ _ _ hh) _ _ _ _ h
    · cases h
theorem xmask_len : ∀ (b : List Bool) (l : List Value), (xmask b l).length = l.length
  | [], [] => rfl
  | [], v :: l => rfl
  | b :: bs, [] => rfl
  | b :: bs, v :: l => by simp [xmask, xmask_len bs l]
theorem xmask_at : ∀ (b : List Bool) (l : List Value) (i : Nat) (w : Value), (xmask b l)[i]? = some w → l[i]? = some w ∨ w = xD
  | [], l, i, w, h => by
    have e : xmask [] l = l := by cases l <;> rfl
    rw [e] at h
    exact Or.inl h
  | b :: bs, [], i, w, h => by cases h
  | b :: bs, v :: l, 0, w, h => by
    have h : some (bif b then v else xD) = some w := h
    cases b
    · exact Or.inr (Option.some.inj h).symm
    · exact Or.inl h
  | b :: bs, v :: l, i + 1, w, h => by
    have := xmask_at bs l i w (by simpa [xmask] using h)
    simpa using this
theorem xGo.mask {pc : Nat} {k : xK} (h : xGo X φ0 L xs σ0 n p l e R s m args below meth c Q o pc k) (b : List Bool) : xGo X φ0 L xs σ0 n p l e R s m args below meth c Q o pc (fun ls st σ => k (xmask b ls) st σ) := by
  intro φ ls st σ M H locs hI hk
  refine h φ _ st σ M H locs ⟨hI.1, hI.2.1, hI.2.2.1, ⟨hI.2.2.2.1.1, hI.2.2.2.1.2.1, by rw [xmask_len]; exact hI.2.2.2.1.2.2.1, fun i w hw hf => ?_⟩, fun w hw => ?_, hI.2.2.2.2.2⟩ hk
  · rcases xmask_at _ _ _ _ hw with g | g
    · exact hI.2.2.2.1.2.2.2 i w g hf
    · exact absurd g (hf _)
  · obtain ⟨i, hi⟩ := List.getElem?_of_mem hw
    rcases xmask_at _ _ _ _ hi with g | g
    · exact hI.2.2.2.2.1 w (List.mem_of_getElem? g)
    · rw [g]; exact xvd_f
theorem xexec_go {thr : Bool} {starts : List Nat} {nx : Nat} (C : xCt X φ0 L xs y cc n ret p R s m args meth c) (hcf : xCs X L xs l cf d) (hcm : ∀ mid as σ v σ', cf mid as σ = some (v, σ') → xle σ σ') (hRf : d + 13 ≤ R.frames ∧ 64 * (d + 1) + 400 ≤ R.locals) (hkb : ∀ b ls st σ, kb b ls st σ = some o → xle σ o.2) (hRb : xcnt o.2 - xcnt σ0 ≤ R.cells ∧ xslt o.2 - xslt σ0 ≤ R.slots)
    (hT : ∀ t tg, xn starts t = some tg → xGo X φ0 L xs σ0 n p l e R s m args below meth c Q o tg (kb t)) (hRet : xRt X φ0 L xs σ0 n p l e R s m args below meth c Q o cc ret) (hThr : thr = true → xTh X φ0 L xs σ0 n p l e R s m args below meth c Q o cc) : ∀ (is : List xI) (pc : Nat), xCk thr y cc ret starts nx pc is = true → xGo X φ0 L xs σ0 n p l e R s m args below meth c Q o pc (xexec cf kb nx is)
  | [], pc, h => hT nx pc (of_decide_eq_true h)
  | i :: is, pc, h => by
    simp only [xCk, Bool.and_eq_true, Bool.or_eq_true, decide_eq_true_eq] at h
    obtain ⟨⟨⟨h1, h2⟩, h3⟩, h4⟩ := h
    refine xone_go C hcf hcm hRf (xexec_mo hcm hkb is) hRb i h1 h2 h3 (fun he => ?_) hT hRet hThr
    rcases h4 with h4 | h4
    · rw [he] at h4; cases h4
    · exact xexec_go C hcf hcm hRf hkb hRb hT hRet hThr is _ h4
theorem xMl_at {thr : Bool} {mi : xN} : ∀ (b : Nat) (M : List xB), xMl thr mi b M = true → ∀ (j : Nat) (B : xB), xn M j = some B → ∃ pc, xn mi.2.2.2.2.1 (b + j) = some pc ∧ xCk thr mi.1 mi.2.1 mi.2.2.2.1 mi.2.2.2.2.1 B.2.1 pc B.2.2 = true
  | b, [], _, j, B, h => by cases h
  | b, A :: M, h, 0, B, h1 => by
    simp only [xMl, Bool.and_eq_true] at h
    cases h1
    have h2 := h.1
    split at h2
    · next pc e => exact ⟨pc, e, h2⟩
    · cases h2
  | b, A :: M, h, j + 1, B, h1 => by
    simp only [xMl, Bool.and_eq_true] at h
    obtain ⟨pc, e1, e2⟩ := xMl_at (b + 1) M h.2 j B h1
    exact ⟨pc, by rw [show b + (j + 1) = b + 1 + j by omega]; exact e1, e2⟩
theorem xloop_go {thr : Bool} {mi : xN} {BM : List xB} (hM : xMl thr mi 0 BM = true) (C : xCt X φ0 L xs mi.1 mi.2.1 n mi.2.2.2.1 p R s m args meth c) (hcf : xCs X L xs l cf d) (hcm : ∀ mid as σ v σ', cf mid as σ = some (v, σ') → xle σ σ') (hRf : d + 13 ≤ R.frames ∧ 64 * (d + 1) + 400 ≤ R.locals) (hRb : xcnt o.2 - xcnt σ0 ≤ R.cells ∧ xslt o.2 - xslt σ0 ≤ R.slots)
    (hRet : xRt X φ0 L xs σ0 n p l e R s m args below meth c Q o mi.2.1 mi.2.2.2.1) (hThr : thr = true → xTh X φ0 L xs σ0 n p l e R s m args below meth c Q o mi.2.1) : ∀ (k b tg : Nat), xn mi.2.2.2.2.1 b = some tg → xGo X φ0 L xs σ0 n p l e R s m args below meth c Q o tg (xloop cf BM k b)
  | 0, b, tg, _ => by
    intro φ ls st σ M H locs hI h
    cases h
  | k + 1, b, tg, hb => by
    show xGo X φ0 L xs σ0 n p l e R s m args below meth c Q o tg (xbody cf BM (xloop cf BM k) b)
    unfold xbody
    cases e : xn BM b with
    | none =>
      intro φ ls st σ M H locs hI h
      cases h
    | some B =>
      obtain ⟨pc, e1, e2⟩ := xMl_at 0 BM hM b B e
      rw [Nat.zero_add] at e1
      cases hb.symm.trans e1
      exact xexec_go C hcf hcm hRf (fun b ls st σ hh => xloop_mo hcm k _ _ _ _ hh) hRb (fun t tg ht => (xloop_go hM C hcf hcm hRf hRb hRet hThr k t tg ht).mask _) hRet hThr _ _ e2
end XS7
