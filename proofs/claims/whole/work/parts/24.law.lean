/-! THE CLAIM OUT OF ONE WALK OF THE LAW'S BODY. Your part is whole_start (and what it stands on); all else here is the same for every law, but numbers. -/
def R_law : String := "FinalLinksLaw"
def lw_P (b : Addr) (xs : List Int32) (args : Array Value) (s : State) : Prop := args = #[.ref b] ∧ s.IntsAt b xs ∧ xs.length ≤ 3072 ∧ (Jvm.Cond.and given_1 narrow_1).before args s = true
def lw_Q (_ : Array Value) (s : State) (o : Outcome) (t : State) : Prop := o = .returned (some (.int 1)) ∧ Framed s o t [] 601024 7293034
def lw_Z (below : List Frame) (a : Array Value) (s : State) : State → Prop := fun t => ∃ o, t.status = .running ∧ Ended t below o ∧ lw_Q a s o t
/-- the law's own end, with 1 on the stack, nothing written that was there before, its room as the claim has it -/
theorem lw_ret {p : Program} {l : Launch} {e : Env} {s : State} {m : MethodId} {below : List Frame} {meth : Method} {c : Code} {b : Nat} (hx : p.tables.exec = Jvm.exec) (hb : c.code = code) (hr : meth.sig.returnType = ret) (hlocks : meth.locks = false) {pc : Nat} {H : Heap} {ls : Array Slot} (hdg : decode code pc = .ok (.ireturn, 1)) : W p l e room_1 s m #[Value.ref b] below meth c H [] 601024 7293034 (lw_Z below #[Value.ref b] s) (F0 m pc ls [.int 1]) := by
  intro T hT X
  obtain ⟨fs, hret, hrun, hended, hW, hframe⟩ := X.leave (v := some (.int 1)) (hlocks := hlocks) (fun h => by rw [hr] at h; cases h)
  have hmeth' : T.vm.method? m = some meth := X.method'
  refine ⟨T.setFrames fs, ?_, .returned (some (.int 1)), hrun, hended, rfl, ⟨_, rfl⟩, hW, hframe⟩
  jvm_step X.here [X.here.top, hx, hb, hdg, hmeth', hr, ret, narrow_b1]
  (try refine ⟨rfl, ?_⟩); (try refine ⟨rfl, ?_⟩)
  first | (intro acts; rw [hret _ acts rfl rfl rfl]) | rw [hret _ _ rfl rfl rfl]
  exact Steps.refl _
/-- what holds at the law's entry: the machine, the code, the tables' words (any of lw_tbl by 'hts w (by decide +kernel)'), the script of L ints xs at the cell b, what the Statement gives of the start (any of its parts by flat_of_before) -/
def lw_At (p : Program) (s : State) (m : MethodId) (meth : Method) (c : Code) (b L : Nat) (xs : Nat → Int32) : Prop :=
  p.tables.exec = Jvm.exec ∧ c.code = code ∧ meth.sig.returnType = ret ∧ c.maxLocals = 7 ∧ s.vm.findClass R_law = some m.cls ∧ (∀ w ∈ lw_tbl, w.before #[Value.ref b] s = true) ∧ va_X b L xs s s.heap ∧ b < s.heap.size ∧ meth.locks = false ∧ (Jvm.Cond.and given_1 narrow_1).before #[Value.ref b] s = true
/-! The law, out of the interpreter's answer. -/
theorem xtb_in {w : Cond} {k : Nat} (h : decide (xn (xch (k / 1024)) (k % 1024) = some w) = true) : w ∈ lw_tbl := by
  simp only [decide_eq_true_eq] at h
  rw [xn_eq] at h
  exact xch_in _ _ (List.mem_of_getElem? h)
def xσ0 (L : Nat) (xs : Nat → Int32) : xS := (([], 0, L), (fun o k => if o = 1000000 then xs k else 0), fun _ _ => 0)
theorem xtl_in {w : Cond} (h : w ∈ xTl) : w ∈ lw_tbl := (List.mem_filter.mp h).1
theorem xinst (ci : Nat) (q : vw_C) (h : vwCl[ci]? = some q) : Cond.instantiable q.1 q.2.2 ∈ lw_tbl := by
  match ci, h with
  | 0, h => cases h; exact xtb_in (k := 2175) (by decide +kernel)
  | 1, h => cases h; exact xtb_in (k := 1058) (by decide +kernel)
  | 2, h => cases h; exact xtb_in (k := 1136) (by decide +kernel)
  | 3, h => cases h; exact xtb_in (k := 2201) (by decide +kernel)
  | 4, h => cases h; exact xtb_in (k := 2078) (by decide +kernel)
  | 5, h => cases h; exact xtb_in (k := 2211) (by decide +kernel)
  | 6, h => cases h; exact xtb_in (k := 2151) (by decide +kernel)
  | 7, h => cases h; exact xtb_in (k := 1246) (by decide +kernel)
  | 8, h => cases h; exact xtb_in (k := 1130) (by decide +kernel)
  | 9, h => cases h; exact xtb_in (k := 1079) (by decide +kernel)
  | 10, h => cases h; exact xtb_in (k := 1205) (by decide +kernel)
  | 11, h => cases h; exact xtb_in (k := 1050) (by decide +kernel)
  | 12, h => cases h; exact xtb_in (k := 6189) (by decide +kernel)
  | n + 13, h => simp [vwCl] at h
theorem xK_of {s : State} {args : Array Value} (hts : ∀ w ∈ lw_tbl, w.before args s = true) : ∃ (G : va_G) (ca : Nat → ClassId), va_K G vwCl (xtys ca) s := by
  have h0 : ∀ ci : Nat, ∃ p : ClassId × (Nat → Nat), ∀ q, vwCl[ci]? = some q → u_Kn s q.1 q.2.1 q.2.2 p.1 p.2 := by
    intro ci
    cases e : vwCl[ci]? with
    | none => exact ⟨((0 : Nat), fun _ => 0), fun q h => by cases h⟩
    | some q0 =>
      obtain ⟨cC, iS, hk⟩ := u_known (ws := lw_tbl) hts (fun w hw => xtl_in ((xcl ci q0 e).1 w hw)) (hts _ (xinst ci q0 e))
      exact ⟨(cC, iS), fun q h => by cases h; exact hk⟩
  obtain ⟨f, hf⟩ := Classical.axiomOfChoice h0
  obtain ⟨c13, k13, m13, a13, b13, d13⟩ := Cond.arrayClass_spec (type := .byte) (hts _ (xtb_in (k := 5128) (by decide +kernel)))
  obtain ⟨c14, k14, m14, a14, b14, d14⟩ := Cond.arrayClass_spec (type := .int) (hts _ (xtb_in (k := 1077) (by decide +kernel)))
  obtain ⟨c15, k15, m15, a15, b15, d15⟩ := Cond.arrayClass_spec (type := .long) (hts _ (xtb_in (k := 1203) (by decide +kernel)))
  obtain ⟨c16, k16, m16, a16, b16, d16⟩ := Cond.arrayClass_spec (type := .boolean) (hts _ (xtb_in (k := 2284) (by decide +kernel)))
  obtain ⟨m17, c17, k17, a17, -, b17, d17, e17⟩ := Cond.arrayOver_spec (n := RX8) (hts _ (xtb_in (k := 2231) (by decide +kernel)))
  obtain ⟨m18, c18, k18, a18, b18, d18, e18⟩ := Cond.arrayOver_specA (t := .int) (hts _ (xtb_in (k := 1142) (by decide +kernel)))
  refine ⟨(fun c => (f c).1, fun c => (f c).2), fun n => if n = 13 then c13 else if n = 14 then c14 else if n = 15 then c15 else if n = 16 then c16 else if n = 17 then c17 else c18, fun c q h => hf c q h, ?_⟩
  intro k q hk
  match k, hk with
  | 0, hk => cases hk; exact ⟨fun N z => ⟨(fun k h => by cases h), k13, b13, m13, d13⟩, a13⟩
  | 1, hk => cases hk; exact ⟨fun N z => ⟨(fun k h => by cases h), k14, b14, m14, d14⟩, a14⟩
  | 2, hk => cases hk; exact ⟨fun N z => ⟨(fun k h => by cases h), k15, b15, m15, d15⟩, a15⟩
  | 3, hk => cases hk; exact ⟨fun N z => ⟨(fun k h => by cases h), k16, b16, m16, d16⟩, a16⟩
  | 4, hk => cases hk; exact ⟨fun N z => ⟨(fun k h => by cases h), k17, b17, m17, d17⟩, k17, m17, b17, d17, a17, e17⟩
  | 5, hk => cases hk; exact ⟨fun N z => ⟨(fun k h => by cases h), k18, b18, m18, d18⟩, e18⟩
  | n + 6, hk => simp [xtys] at hk
theorem xZ_of {s : State} {b L : Nat} {xs : Nat → Int32} {G : va_G} {ca : Nat → ClassId} (hts : ∀ w ∈ lw_tbl, w.before #[Value.ref b] s = true) (hX : va_X b L xs s s.heap) (hb : b < s.heap.size) (hL : L ≤ 3072) (hgv : (Jvm.Cond.and given_1 narrow_1).before #[Value.ref b] s = true) : ∃ φ : Nat → Nat, φ 1000000 = b ∧ xZ (G, ca, s.heap.size) φ L xs s s.heap := by
  have hs := flat_of_before _ hgv
  have hA : ∀ a : Nat, a < s.heap.size → ¬ xA (G, ca, s.heap.size) a := fun a h q => absurd h (Nat.not_lt.mpr q)
  have hw : ∀ j : Nat, j < 21 → (Term.elem (.static "FinalLinks$Tokens" "WORDS" "[J") (.int (Int32.ofNat j))).eval #[Value.ref b] s none [] s = some (.long (xwd j)) := by
    intro j hj
    match j, hj with
    | 0, _ => exact va_eqtl (z := 435678045032) (hs (.eq (.elem (.static "FinalLinks$Tokens" "WORDS" "[J") (.int 0)) (.long 435678045032)) (by decide +kernel))
    | 1, _ => exact va_eqtl (z := 508676040050) (hs (.eq (.elem (.static "FinalLinks$Tokens" "WORDS" "[J") (.int 1)) (.long 508676040050)) (by decide +kernel))
    | 2, _ => exact va_eqtl (z := 422726034283) (hs (.eq (.elem (.static "FinalLinks$Tokens" "WORDS" "[J") (.int 2)) (.long 422726034283)) (by decide +kernel))
    | 3, _ => exact va_eqtl (z := 28526) (hs (.eq (.elem (.static "FinalLinks$Tokens" "WORDS" "[J") (.int 3)) (.long 28526)) (by decide +kernel))
    | 4, _ => exact va_eqtl (z := 109299962373989) (hs (.eq (.elem (.static "FinalLinks$Tokens" "WORDS" "[J") (.int 4)) (.long 109299962373989)) (by decide +kernel))
    | 5, _ => exact va_eqtl (z := 1987015781) (hs (.eq (.elem (.static "FinalLinks$Tokens" "WORDS" "[J") (.int 5)) (.long 1987015781)) (by decide +kernel))
    | 6, _ => exact va_eqtl (z := 1819242347) (hs (.eq (.elem (.static "FinalLinks$Tokens" "WORDS" "[J") (.int 6)) (.long 1819242347)) (by decide +kernel))
    | 7, _ => exact va_eqtl (z := 1735552887) (hs (.eq (.elem (.static "FinalLinks$Tokens" "WORDS" "[J") (.int 7)) (.long 1735552887)) (by decide +kernel))
    | 8, _ => exact va_eqtl (z := 28530) (hs (.eq (.elem (.static "FinalLinks$Tokens" "WORDS" "[J") (.int 8)) (.long 28530)) (by decide +kernel))
    | 9, _ => exact va_eqtl (z := 6385252) (hs (.eq (.elem (.static "FinalLinks$Tokens" "WORDS" "[J") (.int 9)) (.long 6385252)) (by decide +kernel))
    | 10, _ => exact va_eqtl (z := 7237492) (hs (.eq (.elem (.static "FinalLinks$Tokens" "WORDS" "[J") (.int 10)) (.long 7237492)) (by decide +kernel))
    | 11, _ => exact va_eqtl (z := 1818583398) (hs (.eq (.elem (.static "FinalLinks$Tokens" "WORDS" "[J") (.int 11)) (.long 1818583398)) (by decide +kernel))
    | 12, _ => exact va_eqtl (z := 482905517684) (hs (.eq (.elem (.static "FinalLinks$Tokens" "WORDS" "[J") (.int 12)) (.long 482905517684)) (by decide +kernel))
    | 13, _ => exact va_eqtl (z := 1786082164) (hs (.eq (.elem (.static "FinalLinks$Tokens" "WORDS" "[J") (.int 13)) (.long 1786082164)) (by decide +kernel))
    | 14, _ => exact va_eqtl (z := 439855505772) (hs (.eq (.elem (.static "FinalLinks$Tokens" "WORDS" "[J") (.int 14)) (.long 439855505772)) (by decide +kernel))
    | 15, _ => exact va_eqtl (z := 109300197582190) (hs (.eq (.elem (.static "FinalLinks$Tokens" "WORDS" "[J") (.int 15)) (.long 109300197582190)) (by decide +kernel))
    | 16, _ => exact va_eqtl (z := 504363246962) (hs (.eq (.elem (.static "FinalLinks$Tokens" "WORDS" "[J") (.int 16)) (.long 504363246962)) (by decide +kernel))
    | 17, _ => exact va_eqtl (z := 114784769370228) (hs (.eq (.elem (.static "FinalLinks$Tokens" "WORDS" "[J") (.int 17)) (.long 114784769370228)) (by decide +kernel))
    | 18, _ => exact va_eqtl (z := 465558725996) (hs (.eq (.elem (.static "FinalLinks$Tokens" "WORDS" "[J") (.int 18)) (.long 465558725996)) (by decide +kernel))
    | 19, _ => exact va_eqtl (z := 1751475828) (hs (.eq (.elem (.static "FinalLinks$Tokens" "WORDS" "[J") (.int 19)) (.long 1751475828)) (by decide +kernel))
    | 20, _ => exact va_eqtl (z := 121450625394034) (hs (.eq (.elem (.static "FinalLinks$Tokens" "WORDS" "[J") (.int 20)) (.long 121450625394034)) (by decide +kernel))
    | n + 21, h => omega
  obtain ⟨tw, hw1, hw2⟩ := va_Tof (tm := .static "FinalLinks$Tokens" "WORDS" "[J") (ty := .long) (N := 21) (f := fun j => .long (xwd j)) (A := xA (G, ca, s.heap.size)) (by decide) (hs (.arrayOf (.static "FinalLinks$Tokens" "WORDS" "[J") .long) (by decide +kernel)) (va_eqt (z := Int32.ofNat 21) (hs (.eq (.length (.static "FinalLinks$Tokens" "WORDS" "[J")) (.int (Int32.ofNat 21))) (by decide +kernel))) hw hA
  obtain ⟨adK, adV, hS1, hS2⟩ := vk_Sof (args := #[Value.ref b]) (s := s) (N := 2) (tm := fun i => if i = 0 then .string "FinalLinks" 328 else .string "FinalLinks" 337) (len := [6, 4]) (byt := [[32, 102, 114, 111, 109, 32], [32, 116, 111, 32]]) (A := xA (G, ca, s.heap.size))
    (fun i hi => by rcases xlt2 hi with rfl | rfl <;> decide)
    (fun i hi => by
      rcases xlt2 hi with rfl | rfl
      · exact hs (.exactly (.string "FinalLinks" 328) "java/lang/String") (by decide +kernel)
      · exact hs (.exactly (.string "FinalLinks" 337) "java/lang/String") (by decide +kernel))
    (fun i hi => by
      rcases xlt2 hi with rfl | rfl
      · exact hs (.eq (.field (.string "FinalLinks" 328) "java/lang/String" "coder" "B") (.int 0)) (by decide +kernel)
      · exact hs (.eq (.field (.string "FinalLinks" 337) "java/lang/String" "coder" "B") (.int 0)) (by decide +kernel))
    (fun i hi => by
      rcases xlt2 hi with rfl | rfl
      · exact hs (.arrayOf (.field (.string "FinalLinks" 328) "java/lang/String" "value" "[B") .byte) (by decide +kernel)
      · exact hs (.arrayOf (.field (.string "FinalLinks" 337) "java/lang/String" "value" "[B") .byte) (by decide +kernel))
    (fun i hi => by
      rcases xlt2 hi with rfl | rfl
      · exact hs (.eq (.length (.field (.string "FinalLinks" 328) "java/lang/String" "value" "[B")) (.int (Int32.ofNat 6))) (by decide +kernel)
      · exact hs (.eq (.length (.field (.string "FinalLinks" 337) "java/lang/String" "value" "[B")) (.int (Int32.ofNat 4))) (by decide +kernel))
    (fun i hi j hj => by
      rcases xlt2 hi with rfl | rfl
      · have hj : j < 6 := hj
        match j, hj with
        | 0, _ => exact hs (.eq (.elem (.field (.string "FinalLinks" 328) "java/lang/String" "value" "[B") (.int 0)) (.int 32)) (by decide +kernel)
        | 1, _ => exact hs (.eq (.elem (.field (.string "FinalLinks" 328) "java/lang/String" "value" "[B") (.int 1)) (.int 102)) (by decide +kernel)
        | 2, _ => exact hs (.eq (.elem (.field (.string "FinalLinks" 328) "java/lang/String" "value" "[B") (.int 2)) (.int 114)) (by decide +kernel)
        | 3, _ => exact hs (.eq (.elem (.field (.string "FinalLinks" 328) "java/lang/String" "value" "[B") (.int 3)) (.int 111)) (by decide +kernel)
        | 4, _ => exact hs (.eq (.elem (.field (.string "FinalLinks" 328) "java/lang/String" "value" "[B") (.int 4)) (.int 109)) (by decide +kernel)
        | 5, _ => exact hs (.eq (.elem (.field (.string "FinalLinks" 328) "java/lang/String" "value" "[B") (.int 5)) (.int 32)) (by decide +kernel)
        | n + 6, h => omega
      · have hj : j < 4 := hj
        match j, hj with
        | 0, _ => exact hs (.eq (.elem (.field (.string "FinalLinks" 337) "java/lang/String" "value" "[B") (.int 0)) (.int 32)) (by decide +kernel)
        | 1, _ => exact hs (.eq (.elem (.field (.string "FinalLinks" 337) "java/lang/String" "value" "[B") (.int 1)) (.int 116)) (by decide +kernel)
        | 2, _ => exact hs (.eq (.elem (.field (.string "FinalLinks" 337) "java/lang/String" "value" "[B") (.int 2)) (.int 111)) (by decide +kernel)
        | 3, _ => exact hs (.eq (.elem (.field (.string "FinalLinks" 337) "java/lang/String" "value" "[B") (.int 3)) (.int 32)) (by decide +kernel)
        | n + 4, h => omega)
    (fun i j hi hj hne => by
      rcases xlt2 hi with rfl | rfl <;> rcases xlt2 hj with rfl | rfl
      · exact absurd rfl hne
      · exact Or.inl (hs (.not (.eq (.string "FinalLinks" 328) (.string "FinalLinks" 337))) (by decide +kernel))
      · exact Or.inr (hs (.not (.eq (.string "FinalLinks" 328) (.string "FinalLinks" 337))) (by decide +kernel))
      · exact absurd rfl hne) hA
  refine ⟨fun q => if q = 1000000 then b else if q = 1000001 then tw else adK (q - 1000002), if_pos rfl, ⟨?_, hb, by omega⟩, ⟨?_, ?_⟩, ⟨?_, ?_, adV, ?_⟩, ⟨?_, ?_⟩, ?_, ?_, ⟨?_, ?_, ?_, ?_⟩, ?_, ?_⟩
  · exact hX
  · exact hw2
  · exact va_Zref (hts _ (xtb_in (k := 3122) (by decide +kernel))) (hts _ (xtb_in (k := 1028) (by decide +kernel))) hw1 hA
  · exact vk_R.of (hts _ (xtb_in (k := 4286) (by decide +kernel))) (hS2 0 (by decide))
  · exact vk_R.of (hts _ (xtb_in (k := 5127) (by decide +kernel))) (hS2 1 (by decide))
  · have e : (fun i => (fun q => if q = 1000000 then b else if q = 1000001 then tw else adK (q - 1000002)) (1000002 + i)) = adK := by
      funext i
      dsimp only
      rw [if_neg (by omega), if_neg (by omega), Nat.add_sub_cancel_left]
    rw [e]
    exact hS1
  · exact vx_Zqof (hts _ (xtb_in (k := 5328) (by decide +kernel))) (hts _ (xtb_in (k := 1040) (by decide +kernel))) (hs (.isRef (.static "java/lang/Throwable" "UNASSIGNED_STACK" "[Ljava/lang/StackTraceElement;")) (by decide +kernel)) hA
  · exact vx_Zqof (hts _ (xtb_in (k := 5330) (by decide +kernel))) (hts _ (xtb_in (k := 1040) (by decide +kernel))) (hs (.isRef (.static "java/lang/Throwable" "SUPPRESSED_SENTINEL" "Ljava/util/List;")) (by decide +kernel)) hA
  · exact va_AO.of (hts _ (xtb_in (k := 2231) (by decide +kernel)))
  · exact (hts (.arrayOver (.array .int)) (xtb_in (k := 1142) (by decide +kernel)))
  · exact va_Nw.of rfl (hts _ (xtb_in (k := 5303) (by decide +kernel)))
  · exact va_Nw.of rfl (hts _ (xtb_in (k := 5304) (by decide +kernel)))
  · exact va_Nw.of rfl (hts _ (xtb_in (k := 5306) (by decide +kernel)))
  · exact va_Nw.of rfl (hts _ (xtb_in (k := 5308) (by decide +kernel)))
  · exact va_Zof (hts _ (xtb_in (k := 4300) (by decide +kernel))) (hts _ (xtb_in (k := 1045) (by decide +kernel))) (va_eqt (hs (.eq (.static "java/lang/String" "COMPACT_STRINGS" "Z") (.int 1)) (by decide +kernel))) hA
  · exact va_Zqof (hts _ (xtb_in (k := 4316) (by decide +kernel))) (hts _ (xtb_in (k := 1047) (by decide +kernel))) (hs (.isRef (.static "jdk/internal/util/Preconditions" "SIOOBE_FORMATTER" "Ljava/util/function/BiFunction;")) (by decide +kernel)) hA
set_option maxRecDepth 20000 in
theorem xlaw_W {p : Program} {e : Env} {s : State} {m : MethodId} {below : List Frame} {meth : Method} {c : Code} (l : Launch) (hflags : l.flags = flags0) {b L : Nat} {xs : Nat → Int32} (hL : L ≤ 3072) (C0 : lw_At p s m meth c b L xs) {D : Nat} (hD : D ≤ 1300) {σ' : xS}
    (h : xcall xprog (D + 1) 269 [.ref 1000000] (xσ0 L xs) = some (some (.int 1), σ')) (hb : xcnt σ' ≤ 601024 ∧ xslt σ' ≤ 7293034) : W p l e room_1 s m #[Value.ref b] below meth c s.heap [] 0 0 (lw_Z below #[Value.ref b] s) (entryFrame m ([Value.ref b] : List Value).toArray 7) := by
  obtain ⟨g1, g2, g3, g4, g5, hts, hX, hbl, g9, hgv⟩ := C0
  obtain ⟨G, ca, hK⟩ := xK_of hts
  obtain ⟨φ, hφ, hZ⟩ := xZ_of (G := G) (ca := ca) hts hX hbl hL hgv
  have hl : l.stackTraces = false := by
    unfold Launch.stackTraces
    rw [hflags]
    decide +kernel
  obtain ⟨BM, hP, hst, hMl⟩ := xcode_of (mid := 269) (mi := xi_269) rfl (xmoB 269 (by decide +kernel))
  obtain ⟨hlen, h⟩ := xact_code hP h
  have C : xCt (G, ca, s.heap.size) φ L xs xi_269.1 xi_269.2.1 xi_269.2.2.1 xi_269.2.2.2.1 p room_1 s m #[Value.ref b] meth c := ⟨⟨g1, g2, g4, g5⟩, fun w hw => hts w (xtl_in hw), hK, hZ, Nat.le_refl _, ⟨g3, g9, fun q => absurd q (by decide +kernel)⟩, by decide, by decide⟩
  have hw := xbody_W (e := e) (below := below) (Q := lw_Z below #[Value.ref b] s) (l := l) (d := D) (thr := xthr 269) (σ := xσ0 L xs) (o := (some (.int 1), σ')) (as := [.ref 1000000]) hMl hst C (xsound hl D).1 (xcall_mo xprog D) ⟨by show D + 13 ≤ 2048; omega, by show 64 * (D + 1) + 400 ≤ 84000; omega⟩ ⟨Nat.le_trans (Nat.sub_le _ _) hb.1, Nat.le_trans (Nat.sub_le _ _) hb.2⟩
    ⟨Nat.zero_le _, fun i a hi => (by cases hi)⟩ rfl (by funext k; show (if (1000000 : Nat) = 1000000 then xs k else 0) = xs k; exact if_pos rfl) (fun w hw => by rcases List.mem_cons.mp hw with rfl | hw; exact xvd_r (Or.inr (Nat.le_refl _)); cases hw) hlen (fun k q hq => (by cases hq)) ⟨fun i j p q hp => (by cases hp), fun k q hq => (by cases hq)⟩ h ?_ (fun q => by cases q)
  · have e1 : ([.ref 1000000] : List Value).map (xv φ) = [.ref b] := by simp [xv, hφ]
    rw [e1] at hw
    exact hw
  · intro φ' ls v σ1 M H locs pc hI hv ho hrk
    cases ho
    have hd : decode code pc = .ok (.ireturn, 1) := by
      rcases hrk with ⟨hd, -⟩ | ⟨-, ⟨x, hx⟩, -⟩ | ⟨-, ⟨x, hx⟩, -⟩ | ⟨-, hx, -⟩
      · exact hd
      · cases hx
      · cases hx
      · cases hx
    refine va_forget hI.1.2.2.2.2 ?_
    refine W.widen (k := 601024) (n := 7293034) (Nat.le_trans (Nat.sub_le _ _) hb.1) (Nat.le_trans (Nat.sub_le _ _) hb.2) ?_
    exact lw_ret g1 g2 g3 g9 hd
