/-! Copies, small methods of the library, jumps. -/
section XS5
variable {X : xX} {φ0 : Nat → Nat} {L : Nat} {xs : Nat → Int32} {σ0 : xS} {n : Nat} {p : Program} {l : Launch} {e : Env} {R : Room} {s : State} {m : MethodId} {args : Array Value} {below : List Frame} {meth : Method} {c : Code} {Q : State → Prop} {o : xOut} {pc : Nat} {k : xK} {kb : xKB} {y : MethodName} {cc : ByteArray} {ret : Option FieldType}

theorem xs_ob (C : xCt X φ0 L xs y cc n ret p R s m args meth c) {idx : Nat} (w1 : Cond.methodLink y.cls idx Lib.objectInit ∈ xTl) (hd : decode cc pc = .ok (.invokespecial idx, 3)) (hk : xGo X φ0 L xs σ0 n p l e R s m args below meth c Q o (pc + 3) k) : xGo X φ0 L xs σ0 n p l e R s m args below meth c Q o pc (fun ls st σ => xob ls st σ k) := by
  intro φ ls st σ M H locs hI h
  unfold xob at h
  dsimp only at h
  split at h
  · next r rest =>
    cases hb : Nat.ble (xcat rest) 8 with
    | false => simp [hb] at h
    | true =>
      simp only [hb, cond_true] at h
      rw [Nat.ble_eq] at hb
      have hR := C.2.2.2.2.2.2
      refine W.objInit (rest := rest.map (xv φ)) C.1.1 C.1.2.1 C.1.2.2.2 (C.2.1 _ w1) (C.2.1 _ xw_obi) (C.2.1 _ xw_obc) rfl (hI.2.2.2.1.1.trans C.1.2.2.1.symm) rfl hd (by omega) ?_ (hk φ _ _ _ M H locs (hI.st (xok_cons.mp hI.2.2.2.2.2).2) h)
      rw [xcat_map]
      show 2 * 0 + _ + 12 ≤ _
      omega
  · cases h

theorem xs_mmax (C : xCt X φ0 L xs y cc n ret p R s m args meth c) {idx : Nat} (w1 : Cond.methodLink y.cls idx Lib.Math.max.name ∈ xTl) (hd : decode cc pc = .ok (.invokestatic idx, 3)) (hmo : ∀ ls st σ, k ls st σ = some o → xle σ o.2) (hRb : xcnt o.2 - xcnt σ0 ≤ R.cells ∧ xslt o.2 - xslt σ0 ≤ R.slots) (hk : xGo X φ0 L xs σ0 n p l e R s m args below meth c Q o (pc + 3) k) : xGo X φ0 L xs σ0 n p l e R s m args below meth c Q o pc (fun ls st σ => xmm true ls st σ k) := by
  intro φ ls st σ M H locs hI h
  unfold xmm at h
  dsimp only at h
  split at h
  · next b a rest =>
    cases hb : Nat.ble (xcat rest) 8 with
    | false => simp [hb] at h
    | true =>
      simp only [hb, cond_true, cond_false] at h
      rw [Nat.ble_eq] at hb
      have hR := C.2.2.2.2.2.2
      have hm := hmo _ _ _ h
      have h0 := hI.2.2.1.2.2
      unfold xle at hm h0
      refine va_mmax C.1.1 C.1.2.1 (C.1.2.2.1.trans hI.2.2.2.1.1.symm) C.1.2.2.2 (C.2.1 _ w1) (C.2.1 _ xw_mxs) (C.2.1 _ xw_mth) (C.2.1 _ xw_mxc) (by omega) ?_ (by omega) (by omega) hd (hk φ _ _ _ M H locs (hI.st (xok_cons.mpr ⟨xvd_i, (xok_cons.mp (xok_cons.mp hI.2.2.2.2.2).2).2⟩)) h)
      rw [xcat_map]
      omega
  · cases h

theorem xs_mmin (C : xCt X φ0 L xs y cc n ret p R s m args meth c) {idx : Nat} (w1 : Cond.methodLink y.cls idx Lib.Math.min.name ∈ xTl) (hd : decode cc pc = .ok (.invokestatic idx, 3)) (hmo : ∀ ls st σ, k ls st σ = some o → xle σ o.2) (hRb : xcnt o.2 - xcnt σ0 ≤ R.cells ∧ xslt o.2 - xslt σ0 ≤ R.slots) (hk : xGo X φ0 L xs σ0 n p l e R s m args below meth c Q o (pc + 3) k) : xGo X φ0 L xs σ0 n p l e R s m args below meth c Q o pc (fun ls st σ => xmm false ls st σ k) := by
  intro φ ls st σ M H locs hI h
  unfold xmm at h
  dsimp only at h
  split at h
  · next b a rest =>
    cases hb : Nat.ble (xcat rest) 8 with
    | false => simp [hb] at h
    | true =>
      simp only [hb, cond_true, cond_false] at h
      rw [Nat.ble_eq] at hb
      have hR := C.2.2.2.2.2.2
      have hm := hmo _ _ _ h
      have h0 := hI.2.2.1.2.2
      unfold xle at hm h0
      refine va_mmin C.1.1 C.1.2.1 (C.1.2.2.1.trans hI.2.2.2.1.1.symm) C.1.2.2.2 (C.2.1 _ w1) (C.2.1 _ xw_mns) (C.2.1 _ xw_mth) (C.2.1 _ xw_mnc) (by omega) ?_ (by omega) (by omega) hd (hk φ _ _ _ M H locs (hI.st (xok_cons.mpr ⟨xvd_i, (xok_cons.mp (xok_cons.mp hI.2.2.2.2.2).2).2⟩)) h)
      rw [xcat_map]
      omega
  · cases h

theorem xcp_ne {α : Type} {f : Nat → Nat → α} {a b sp dp n j : Nat} (h : j ≠ b) : xcp f a b sp dp n j = f j := by
  funext t
  simp [xcp, h]
theorem xcp_eq {α : Type} {f : Nat → Nat → α} {a b sp dp n : Nat} : xcp f a b sp dp n b = va_cpy (f a) (f b) sp dp n := by
  funext t
  simp [xcp, va_cpy]
theorem xs_copy (C : xCt X φ0 L xs y cc n ret p R s m args meth c) {idx : Nat} (w1 : Cond.methodLink y.cls idx arraycopyName ∈ xTl) (hd : decode cc pc = .ok (.invokestatic idx, 3)) (hk : xGo X φ0 L xs σ0 n p l e R s m args below meth c Q o (pc + 3) k) : xGo X φ0 L xs σ0 n p l e R s m args below meth c Q o pc (fun ls st σ => xcy ls st σ k) := by
  intro φ ls st σ M H locs hI h
  unfold xcy at h
  dsimp only at h
  split at h
  · next nn dp b sp a rest =>
    cases hb : Nat.ble (xcat rest) 8 with
    | false => simp [hb] at h
    | true =>
      simp only [hb, cond_true] at h
      rw [Nat.ble_eq] at hb
      unfold xcq at h
      cases hz : (!(decide (sp < 0)) && !(decide (dp < 0)) && !(decide (nn < 0))) with
      | false => simp [hz] at h
      | true =>
        simp only [hz, cond_true] at h
        simp only [Bool.and_eq_true, Bool.not_eq_true', decide_eq_false_iff_not] at hz
        obtain ⟨⟨z1, z2⟩, z3⟩ := hz
        have hR := C.2.2.2.2.2.2
        have hrest := (xok_cons.mp (xok_cons.mp (xok_cons.mp (xok_cons.mp (xok_cons.mp hI.2.2.2.2.2).2).2).2).2).2
        have hlo : ((rest.map (xv φ)).map fun v => v.category).sum + (nativeFrameWords "java/lang/System" "arraycopy" 5 + 11) ≤ R.locals := by
          rw [xcat_map, show nativeFrameWords "java/lang/System" "arraycopy" 5 = 7 by decide]
          omega
        cases hg : (xis σ.1 14 a && xis σ.1 14 b && Nat.ble (sp.toNatClampNeg + nn.toNatClampNeg) (xlen σ.1 14 a) && Nat.ble (dp.toNatClampNeg + nn.toNatClampNeg) (xlen σ.1 14 b)) with
        | true =>
          simp only [hg, cond_true] at h
          simp only [Bool.and_eq_true, Nat.ble_eq] at hg
          obtain ⟨⟨⟨g1, g2⟩, g3⟩, g4⟩ := hg
          obtain ⟨oa, ha, hca⟩ := xis_at g1
          obtain ⟨ob, hob, hcb⟩ := xis_at g2
          rw [xlen_is (n := 0) ha hca] at g3
          rw [xlen_is (n := 0) hob hcb] at g4
          refine va_copyi (ws := xw φ X.2.1 σ) (n0 := oa.2.1) (n1 := ob.2.1) (f := σ.2.1 a) (g := σ.2.1 b) (ty := .int) C.1.1 C.1.2.1 (C.1.2.2.1.trans hI.2.2.2.1.1.symm) C.1.2.2.2 (C.2.1 _ w1) (C.2.1 _ xw_nat) (C.2.1 _ xw_stat) (C.2.1 _ xw_sys) C.2.2.1 hI.1.1 hI.1.2.1 hI.1.2.2 a b 1 1 (by rw [xw_at ha, xE_i (by omega), hca]) (by rw [xw_at hob, xE_i (by omega), hcb]) rfl rfl rfl z1 z2 z3 g3 g4 (fun _ _ => rfl) (by omega) hlo hd (fun H1 locs1 e1 e2 e3 => ?_)
          obtain ⟨hI2, ec, es⟩ := hI.wr (σ' := ((σ.1.1, σ.1.2), xcp σ.2.1 a b sp.toNatClampNeg dp.toNatClampNeg nn.toNatClampNeg, σ.2.2)) (by rw [xw_set (a := ob) (b := ob) hob (xself hob) (fun j hj => xcp_ne hj) (fun j hj => rfl), xE_i (by omega), hcb, xcp_eq]) (xwf_m hI.2.1.1) rfl (xcp_ne (by have := xwf_lt hI.2.1.1 hob; omega)) rfl rfl e1 e2 e3 hrest
          have hx := hk φ _ _ _ M H1 locs1 hI2 h
          rw [ec, es] at hx
          exact hx
        | false =>
          simp only [hg, cond_false] at h
          cases hg2 : (xis σ.1 15 a && xis σ.1 15 b && Nat.ble (sp.toNatClampNeg + nn.toNatClampNeg) (xlen σ.1 15 a) && Nat.ble (dp.toNatClampNeg + nn.toNatClampNeg) (xlen σ.1 15 b)) with
          | false => simp [hg2] at h
          | true =>
            simp only [hg2, cond_true] at h
            simp only [Bool.and_eq_true, Nat.ble_eq] at hg2
            obtain ⟨⟨⟨g1, g2⟩, g3⟩, g4⟩ := hg2
            obtain ⟨oa, ha, hca⟩ := xis_at g1
            obtain ⟨ob, hob, hcb⟩ := xis_at g2
            rw [xlen_is (n := 0) ha hca] at g3
            rw [xlen_is (n := 0) hob hcb] at g4
            refine va_copyl (ws := xw φ X.2.1 σ) (n0 := oa.2.1) (n1 := ob.2.1) (f := σ.2.2 a) (g := σ.2.2 b) (ty := .long) C.1.1 C.1.2.1 (C.1.2.2.1.trans hI.2.2.2.1.1.symm) C.1.2.2.2 (C.2.1 _ w1) (C.2.1 _ xw_nat) (C.2.1 _ xw_stat) (C.2.1 _ xw_sys) C.2.2.1 hI.1.1 hI.1.2.1 hI.1.2.2 a b 2 2 (by rw [xw_at ha, xE_j hca, hca]) (by rw [xw_at hob, xE_j hcb, hcb]) rfl rfl rfl z1 z2 z3 g3 g4 (fun _ _ => rfl) (by omega) hlo hd (fun H1 locs1 e1 e2 e3 => ?_)
            obtain ⟨hI2, ec, es⟩ := hI.wr (σ' := ((σ.1.1, σ.1.2), σ.2.1, xcp σ.2.2 a b sp.toNatClampNeg dp.toNatClampNeg nn.toNatClampNeg)) (by rw [xw_set (a := ob) (b := ob) hob (xself hob) (fun j hj => rfl) (fun j hj => xcp_ne hj), xE_j hcb, hcb, xcp_eq]) (xwf_m hI.2.1.1) rfl rfl rfl rfl e1 e2 e3 hrest
            have hx := hk φ _ _ _ M H1 locs1 hI2 h
            rw [ec, es] at hx
            exact hx
  · cases h

theorem xs_goto (C : xCt X φ0 L xs y cc n ret p R s m args meth c) {off : Int} {t tg : Nat} (hd : decode cc pc = .ok (.goto off, 3)) (ht : (pc : Int) + off = (tg : Int)) (hT : xGo X φ0 L xs σ0 n p l e R s m args below meth c Q o tg (kb t))  : xGo X φ0 L xs σ0 n p l e R s m args below meth c Q o pc (fun ls st σ => kb t ls st σ) := by
  intro φ ls st σ M H locs hI h
  exact lv_goto C.1.1 C.1.2.1 hd ht (hT φ _ _ _ M H locs hI h)

theorem xs_if (C : xCt X φ0 L xs y cc n ret p R s m args meth c) {cd : Jvm.ClassFile.Cond} {off : Int} {t tg : Nat} (hd : decode cc pc = .ok (.ifCond cd off, 3)) (ht : (pc : Int) + off = (tg : Int)) (hT : xGo X φ0 L xs σ0 n p l e R s m args below meth c Q o tg (kb t)) (hk : xGo X φ0 L xs σ0 n p l e R s m args below meth c Q o (pc + 3) k) : xGo X φ0 L xs σ0 n p l e R s m args below meth c Q o pc (fun ls st σ => xif cd t kb ls st σ k) := by
  intro φ ls st σ M H locs hI h
  unfold xif at h
  dsimp only at h
  split at h
  · next a rest =>
    have hrest := (xok_cons.mp hI.2.2.2.2.2).2
    cases cd
    case eq =>
      dsimp only at h
      exact lv_if_eq C.1.1 C.1.2.1 hd ht (fun q => (hT φ _ _ _ M H locs (hI.st hrest) (by rw [if_pos q] at h; exact h))) (fun q => (hk φ _ _ _ M H locs (hI.st hrest) (by rw [if_neg q] at h; exact h)))
    case ne =>
      dsimp only at h
      exact lv_if_ne C.1.1 C.1.2.1 hd ht (fun q => (hT φ _ _ _ M H locs (hI.st hrest) (by rw [if_neg q] at h; exact h))) (fun q => (hk φ _ _ _ M H locs (hI.st hrest) (by rw [if_pos q] at h; exact h)))
    case lt =>
      dsimp only at h
      exact lv_if_lt C.1.1 C.1.2.1 hd ht (fun q => (hT φ _ _ _ M H locs (hI.st hrest) (by rw [if_pos q] at h; exact h))) (fun q => (hk φ _ _ _ M H locs (hI.st hrest) (by rw [if_neg q] at h; exact h)))
    case ge =>
      dsimp only at h
      exact lv_if_ge C.1.1 C.1.2.1 hd ht (fun q => (hT φ _ _ _ M H locs (hI.st hrest) (by rw [if_neg (Int32.not_lt.mpr q)] at h; exact h))) (fun q => (hk φ _ _ _ M H locs (hI.st hrest) (by rw [if_pos (Int32.not_le.mp q)] at h; exact h)))
    case gt =>
      dsimp only at h
      exact lv_if_gt C.1.1 C.1.2.1 hd ht (fun q => (hT φ _ _ _ M H locs (hI.st hrest) (by rw [if_neg (Int32.not_le.mpr q)] at h; exact h))) (fun q => (hk φ _ _ _ M H locs (hI.st hrest) (by rw [if_pos (Int32.not_lt.mp q)] at h; exact h)))
    case le =>
      dsimp only at h
      exact lv_if_le C.1.1 C.1.2.1 hd ht (fun q => (hT φ _ _ _ M H locs (hI.st hrest) (by rw [if_pos q] at h; exact h))) (fun q => (hk φ _ _ _ M H locs (hI.st hrest) (by rw [if_neg q] at h; exact h)))
  · cases h

theorem xs_icmp (C : xCt X φ0 L xs y cc n ret p R s m args meth c) {cd : Jvm.ClassFile.Cond} {off : Int} {t tg : Nat} (hd : decode cc pc = .ok (.if_icmp cd off, 3)) (ht : (pc : Int) + off = (tg : Int)) (hT : xGo X φ0 L xs σ0 n p l e R s m args below meth c Q o tg (kb t)) (hk : xGo X φ0 L xs σ0 n p l e R s m args below meth c Q o (pc + 3) k) : xGo X φ0 L xs σ0 n p l e R s m args below meth c Q o pc (fun ls st σ => xic cd t kb ls st σ k) := by
  intro φ ls st σ M H locs hI h
  unfold xic at h
  dsimp only at h
  split at h
  · next b a rest =>
    have hrest := (xok_cons.mp (xok_cons.mp hI.2.2.2.2.2).2).2
    cases cd
    case eq =>
      dsimp only at h
      exact lv_icmp_eq C.1.1 C.1.2.1 hd ht (fun q => (hT φ _ _ _ M H locs (hI.st hrest) (by rw [if_pos q] at h; exact h))) (fun q => (hk φ _ _ _ M H locs (hI.st hrest) (by rw [if_neg q] at h; exact h)))
    case ne =>
      dsimp only at h
      exact lv_icmp_ne C.1.1 C.1.2.1 hd ht (fun q => (hT φ _ _ _ M H locs (hI.st hrest) (by rw [if_neg q] at h; exact h))) (fun q => (hk φ _ _ _ M H locs (hI.st hrest) (by rw [if_pos q] at h; exact h)))
    case lt =>
      dsimp only at h
      exact lv_icmp_lt C.1.1 C.1.2.1 hd ht (fun q => (hT φ _ _ _ M H locs (hI.st hrest) (by rw [if_pos q] at h; exact h))) (fun q => (hk φ _ _ _ M H locs (hI.st hrest) (by rw [if_neg q] at h; exact h)))
    case ge =>
      dsimp only at h
      exact lv_icmp_ge C.1.1 C.1.2.1 hd ht (fun q => (hT φ _ _ _ M H locs (hI.st hrest) (by rw [if_neg (Int32.not_lt.mpr q)] at h; exact h))) (fun q => (hk φ _ _ _ M H locs (hI.st hrest) (by rw [if_pos (Int32.not_le.mp q)] at h; exact h)))
    case gt =>
      dsimp only at h
      exact lv_icmp_gt C.1.1 C.1.2.1 hd ht (fun q => (hT φ _ _ _ M H locs (hI.st hrest) (by rw [if_neg (Int32.not_le.mpr q)] at h; exact h))) (fun q => (hk φ _ _ _ M H locs (hI.st hrest) (by rw [if_pos (Int32.not_lt.mp q)] at h; exact h)))
    case le =>
      dsimp only at h
      exact lv_icmp_le C.1.1 C.1.2.1 hd ht (fun q => (hT φ _ _ _ M H locs (hI.st hrest) (by rw [if_pos q] at h; exact h))) (fun q => (hk φ _ _ _ M H locs (hI.st hrest) (by rw [if_neg q] at h; exact h)))
  · cases h

theorem xtg_at {starts : List Nat} {pc : Nat} {off : Int} {t : Nat} (h : xtg starts pc off t = true) : ∃ tg, xn starts t = some tg ∧ (pc : Int) + off = (tg : Int) := by
  unfold xtg at h
  split at h
  · next tg e => exact ⟨tg, e, of_decide_eq_true h⟩
  · cases h
theorem xsw_d {x : Int32} {d : Nat} {kb : xKB} {ls st : List Value} {σ : xS} : ∀ (tab : List (Int32 × Nat)), (∀ a ∈ tab, ¬ x = a.1) → xsw x tab d kb ls st σ = kb d ls st σ
  | [], _ => rfl
  | a :: tab, h => by
    show (if x = a.1 then _ else _) = _
    rw [if_neg (h a List.mem_cons_self)]
    exact xsw_d tab (fun b hb => h b (List.mem_cons_of_mem _ hb))
theorem xsw_at {x : Int32} {d : Nat} {kb : xKB} {ls st : List Value} {σ : xS} : ∀ (tab : List (Int32 × Nat)) (j : Nat) (a : Int32 × Nat), tab[j]? = some a → x = a.1 → (∀ i b, i < j → tab[i]? = some b → ¬ x = b.1) → xsw x tab d kb ls st σ = kb a.2 ls st σ
  | [], j, a, h, _, _ => by simp at h
  | b :: tab, 0, a, h, hx, _ => by
    simp at h
    subst h
    show (if x = b.1 then _ else _) = _
    rw [if_pos hx]
  | b :: tab, j + 1, a, h, hx, hb => by
    show (if x = b.1 then _ else _) = _
    rw [if_neg (hb 0 b (by omega) rfl)]
    exact xsw_at tab j a (by simpa using h) hx (fun i c hi hc => hb (i + 1) c (by omega) (by simpa using hc))
theorem xswc_at {starts : List Nat} {pc : Nat} : ∀ (lo : Int) (offs : List Int) (tab : List (Int32 × Nat)), xswc starts pc lo offs tab = true → offs.length = tab.length ∧ ∀ (j : Nat) (a : Int32 × Nat), tab[j]? = some a → a.1.toInt = lo + j ∧ ∃ o, offs[j]? = some o ∧ xtg starts pc o a.2 = true
  | lo, [], [], _ => ⟨rfl, fun j a h => by simp at h⟩
  | lo, [], a :: t, h => by cases h
  | lo, o :: os, [], h => by cases h
  | lo, o :: os, b :: tab, h => by
    simp only [xswc, Bool.and_eq_true, decide_eq_true_eq] at h
    obtain ⟨g1, g2⟩ := xswc_at (lo + 1) os tab h.2
    refine ⟨by simp [g1], fun j a hj => ?_⟩
    cases j with
    | zero =>
      simp at hj
      subst hj
      exact ⟨by rw [h.1.1]; simp, o, rfl, h.1.2⟩
    | succ j =>
      obtain ⟨q1, o', q2, q3⟩ := g2 j a (by simpa using hj)
      exact ⟨by rw [q1]; omega, o', by simpa using q2, q3⟩
theorem xlkc_at {starts : List Nat} {pc : Nat} {x : Int32} {df : Int} {d : Nat} {kb : xKB} {ls st : List Value} {σ : xS} (hdf : xtg starts pc df d = true) : ∀ (ps : List (Int × Int)) (tab : List (Int32 × Nat)), xlkc starts pc ps tab = true → ∃ t, xsw x tab d kb ls st σ = kb t ls st σ ∧ xtg starts pc (Op.lookupswitch.offset ps df x.toInt) t = true
  | [], [], _ => ⟨d, rfl, by simpa [Op.lookupswitch.offset] using hdf⟩
  | [], a :: t, h => by cases h
  | o :: os, [], h => by cases h
  | o :: os, b :: tab, h => by
    simp only [xlkc, Bool.and_eq_true, decide_eq_true_eq] at h
    obtain ⟨t, g1, g2⟩ := xlkc_at hdf os tab h.2
    by_cases hx : x = b.1
    · refine ⟨b.2, ?_, ?_⟩
      · show (if x = b.1 then _ else _) = _
        rw [if_pos hx]
      · obtain ⟨o1, o2⟩ := o
        rw [Op.lookupswitch.offset_cons, if_pos (by rw [hx]; exact h.1.1.symm)]
        exact h.1.2
    · refine ⟨t, ?_, ?_⟩
      · show (if x = b.1 then _ else _) = _
        rw [if_neg hx]
        exact g1
      · obtain ⟨o1, o2⟩ := o
        rw [lv_osw hx h.1.1]
        exact g2
theorem xs_tsw (C : xCt X φ0 L xs y cc n ret p R s m args meth c) {df lo hi : Int} {offs : Array Int} {len d : Nat} {tab : List (Int32 × Nat)} {starts : List Nat} (hd : decode cc pc = .ok (.tableswitch df lo hi offs, len)) (h1 : xtg starts pc df d = true) (h2 : xswc starts pc lo offs.toList tab = true) (h3 : hi = lo + offs.size - 1) (hT : ∀ t tg, xn starts t = some tg → xGo X φ0 L xs σ0 n p l e R s m args below meth c Q o tg (kb t))  : xGo X φ0 L xs σ0 n p l e R s m args below meth c Q o pc (fun ls st σ => xswt tab d kb ls st σ) := by
  intro φ ls st σ M H locs hI h
  unfold xswt at h
  dsimp only at h
  split at h
  · next x rest =>
    have hrest := (xok_cons.mp hI.2.2.2.2.2).2
    obtain ⟨q1, q2⟩ := xswc_at lo _ _ h2
    by_cases hx : x.toInt < lo ∨ hi < x.toInt
    · rw [xsw_d tab (fun a ha hxa => by
        obtain ⟨j, hj⟩ := List.getElem?_of_mem ha
        obtain ⟨e1, -⟩ := q2 j a hj
        have hl := (List.getElem?_eq_some_iff.mp hj).1
        rw [← q1, Array.length_toList] at hl
        rw [← hxa] at e1
        omega)] at h
      obtain ⟨tg, g1, g2⟩ := xtg_at h1
      exact lv_tableOut C.1.1 C.1.2.1 hd hx g2 (hT _ tg g1 φ _ _ _ M H locs (hI.st hrest) h)
    · have hx1 : ¬ x.toInt < lo := fun q => hx (Or.inl q)
      have hx2 : ¬ hi < x.toInt := fun q => hx (Or.inr q)
      have hjl : (x.toInt - lo).toNat < tab.length := by rw [← q1, Array.length_toList]; omega
      obtain ⟨a, ha⟩ : ∃ a, tab[(x.toInt - lo).toNat]? = some a := ⟨_, List.getElem?_eq_getElem hjl⟩
      obtain ⟨e1, o9, e2, e3⟩ := q2 _ a ha
      have hxa : x = a.1 := Int32.toInt_inj.mp (by rw [e1]; omega)
      rw [xsw_at tab _ a ha hxa (fun i b hi' hb hxb => by
        obtain ⟨e4, -⟩ := q2 i b hb
        rw [← hxb] at e4
        omega)] at h
      obtain ⟨tg, g1, g2⟩ := xtg_at e3
      exact lv_tableIn C.1.1 C.1.2.1 hd hx1 hx2 (by rw [← Array.getElem?_toList]; exact e2) g2 (hT _ tg g1 φ _ _ _ M H locs (hI.st hrest) h)
  · cases h

theorem xs_lsw (C : xCt X φ0 L xs y cc n ret p R s m args meth c) {df : Int} {ps : Array (Int × Int)} {len d : Nat} {tab : List (Int32 × Nat)} {starts : List Nat} (hd : decode cc pc = .ok (.lookupswitch df ps, len)) (h1 : xtg starts pc df d = true) (h2 : xlkc starts pc ps.toList tab = true) (h3 : (ps.toList.zip (ps.toList.drop 1)).all (fun (a, next) => a.1 < next.1) = true) (hT : ∀ t tg, xn starts t = some tg → xGo X φ0 L xs σ0 n p l e R s m args below meth c Q o tg (kb t))  : xGo X φ0 L xs σ0 n p l e R s m args below meth c Q o pc (fun ls st σ => xswt tab d kb ls st σ) := by
  intro φ ls st σ M H locs hI h
  unfold xswt at h
  dsimp only at h
  split at h
  · next x rest =>
    have hrest := (xok_cons.mp hI.2.2.2.2.2).2
    obtain ⟨t, g1, g2⟩ := xlkc_at (x := x) (kb := kb) (ls := ls) (st := rest) (σ := σ) h1 _ _ h2
    rw [g1] at h
    obtain ⟨tg, g3, g4⟩ := xtg_at g2
    exact lv_lookup C.1.1 C.1.2.1 hd h3 rfl g4 (hT _ tg g3 φ _ _ _ M H locs (hI.st hrest) h)
  · cases h

end XS5
