/-! Texts: the two of them, and putText. -/
theorem xdj_coder_0 : decode cJ0_coder_7d493 0 = .ok (.getstatic 38, 3) := by decide +kernel
theorem xdj_coder_3 : decode cJ0_coder_7d493 3 = .ok (.ifCond .eq 10, 3) := by decide +kernel
theorem xdj_coder_6 : decode cJ0_coder_7d493 6 = .ok (.aload_n 0, 1) := by decide +kernel
theorem xdj_coder_7 : decode cJ0_coder_7d493 7 = .ok (.getfield 15, 3) := by decide +kernel
theorem xdj_coder_10 : decode cJ0_coder_7d493 10 = .ok (.goto 4, 3) := by decide +kernel
theorem xdj_coder_13 : decode cJ0_coder_7d493 13 = .ok (.iconst 1, 1) := by decide +kernel
theorem xdj_coder_14 : decode cJ0_coder_7d493 14 = .ok (.ireturn, 1) := by decide +kernel
theorem xdj_length_0 : decode cJ0_length_8abf5 0 = .ok (.aload_n 0, 1) := by decide +kernel
theorem xdj_length_1 : decode cJ0_length_8abf5 1 = .ok (.getfield 9, 3) := by decide +kernel
theorem xdj_length_4 : decode cJ0_length_8abf5 4 = .ok (.arraylength, 1) := by decide +kernel
theorem xdj_length_5 : decode cJ0_length_8abf5 5 = .ok (.aload_n 0, 1) := by decide +kernel
theorem xdj_length_6 : decode cJ0_length_8abf5 6 = .ok (.invokevirtual 335, 3) := by decide +kernel
theorem xdj_length_9 : decode cJ0_length_8abf5 9 = .ok (.ishr, 1) := by decide +kernel
theorem xdj_length_10 : decode cJ0_length_8abf5 10 = .ok (.ireturn, 1) := by decide +kernel
theorem xdj_isLatin1_0 : decode cJ0_isLatin1_aae02 0 = .ok (.getstatic 38, 3) := by decide +kernel
theorem xdj_isLatin1_3 : decode cJ0_isLatin1_aae02 3 = .ok (.ifCond .eq 14, 3) := by decide +kernel
theorem xdj_isLatin1_6 : decode cJ0_isLatin1_aae02 6 = .ok (.aload_n 0, 1) := by decide +kernel
theorem xdj_isLatin1_7 : decode cJ0_isLatin1_aae02 7 = .ok (.getfield 15, 3) := by decide +kernel
theorem xdj_isLatin1_10 : decode cJ0_isLatin1_aae02 10 = .ok (.ifCond .ne 7, 3) := by decide +kernel
theorem xdj_isLatin1_13 : decode cJ0_isLatin1_aae02 13 = .ok (.iconst 1, 1) := by decide +kernel
theorem xdj_isLatin1_14 : decode cJ0_isLatin1_aae02 14 = .ok (.goto 4, 3) := by decide +kernel
theorem xdj_isLatin1_17 : decode cJ0_isLatin1_aae02 17 = .ok (.iconst 0, 1) := by decide +kernel
theorem xdj_isLatin1_18 : decode cJ0_isLatin1_aae02 18 = .ok (.ireturn, 1) := by decide +kernel
theorem xdj_pre_0 : decode cJ3_checkIndex_8e157 0 = .ok (.iload_n 0, 1) := by decide +kernel
theorem xdj_pre_1 : decode cJ3_checkIndex_8e157 1 = .ok (.ifCond .lt 8, 3) := by decide +kernel
theorem xdj_pre_4 : decode cJ3_checkIndex_8e157 4 = .ok (.iload_n 0, 1) := by decide +kernel
theorem xdj_pre_5 : decode cJ3_checkIndex_8e157 5 = .ok (.iload_n 1, 1) := by decide +kernel
theorem xdj_pre_6 : decode cJ3_checkIndex_8e157 6 = .ok (.if_icmp .lt 10, 3) := by decide +kernel
theorem xdj_pre_9 : decode cJ3_checkIndex_8e157 9 = .ok (.aload_n 2, 1) := by decide +kernel
theorem xdj_pre_10 : decode cJ3_checkIndex_8e157 10 = .ok (.iload_n 0, 1) := by decide +kernel
theorem xdj_pre_11 : decode cJ3_checkIndex_8e157 11 = .ok (.iload_n 1, 1) := by decide +kernel
theorem xdj_pre_12 : decode cJ3_checkIndex_8e157 12 = .ok (.invokestatic 95, 3) := by decide +kernel
theorem xdj_pre_15 : decode cJ3_checkIndex_8e157 15 = .ok (.athrow, 1) := by decide +kernel
theorem xdj_pre_16 : decode cJ3_checkIndex_8e157 16 = .ok (.iload_n 0, 1) := by decide +kernel
theorem xdj_pre_17 : decode cJ3_checkIndex_8e157 17 = .ok (.ireturn, 1) := by decide +kernel
theorem xdj_check_0 : decode cJ0_checkIndex_df160 0 = .ok (.iload_n 0, 1) := by decide +kernel
theorem xdj_check_1 : decode cJ0_checkIndex_df160 1 = .ok (.iload_n 1, 1) := by decide +kernel
theorem xdj_check_2 : decode cJ0_checkIndex_df160 2 = .ok (.getstatic 1053, 3) := by decide +kernel
theorem xdj_check_5 : decode cJ0_checkIndex_df160 5 = .ok (.invokestatic 1059, 3) := by decide +kernel
theorem xdj_check_8 : decode cJ0_checkIndex_df160 8 = .ok (.pop, 1) := by decide +kernel
theorem xdj_check_9 : decode cJ0_checkIndex_df160 9 = .ok (.return_, 1) := by decide +kernel
theorem xdj_lat_0 : decode cJ1_charAt_3b067 0 = .ok (.iload_n 1, 1) := by decide +kernel
theorem xdj_lat_1 : decode cJ1_charAt_3b067 1 = .ok (.aload_n 0, 1) := by decide +kernel
theorem xdj_lat_2 : decode cJ1_charAt_3b067 2 = .ok (.arraylength, 1) := by decide +kernel
theorem xdj_lat_3 : decode cJ1_charAt_3b067 3 = .ok (.invokestatic 9, 3) := by decide +kernel
theorem xdj_lat_6 : decode cJ1_charAt_3b067 6 = .ok (.aload_n 0, 1) := by decide +kernel
theorem xdj_lat_7 : decode cJ1_charAt_3b067 7 = .ok (.iload_n 1, 1) := by decide +kernel
theorem xdj_lat_8 : decode cJ1_charAt_3b067 8 = .ok (.baload, 1) := by decide +kernel
theorem xdj_lat_9 : decode cJ1_charAt_3b067 9 = .ok (.sipush 255, 3) := by decide +kernel
theorem xdj_lat_12 : decode cJ1_charAt_3b067 12 = .ok (.iand, 1) := by decide +kernel
theorem xdj_lat_13 : decode cJ1_charAt_3b067 13 = .ok (.i2c, 1) := by decide +kernel
theorem xdj_lat_14 : decode cJ1_charAt_3b067 14 = .ok (.ireturn, 1) := by decide +kernel
theorem xdj_charAt_0 : decode cJ0_charAt_5068e 0 = .ok (.aload_n 0, 1) := by decide +kernel
theorem xdj_charAt_1 : decode cJ0_charAt_5068e 1 = .ok (.invokevirtual 492, 3) := by decide +kernel
theorem xdj_charAt_4 : decode cJ0_charAt_5068e 4 = .ok (.ifCond .eq 12, 3) := by decide +kernel
theorem xdj_charAt_7 : decode cJ0_charAt_5068e 7 = .ok (.aload_n 0, 1) := by decide +kernel
theorem xdj_charAt_8 : decode cJ0_charAt_5068e 8 = .ok (.getfield 9, 3) := by decide +kernel
theorem xdj_charAt_11 : decode cJ0_charAt_5068e 11 = .ok (.iload_n 1, 1) := by decide +kernel
theorem xdj_charAt_12 : decode cJ0_charAt_5068e 12 = .ok (.invokestatic 495, 3) := by decide +kernel
theorem xdj_charAt_15 : decode cJ0_charAt_5068e 15 = .ok (.ireturn, 1) := by decide +kernel
theorem xdj_charAt_16 : decode cJ0_charAt_5068e 16 = .ok (.aload_n 0, 1) := by decide +kernel
theorem xdj_charAt_17 : decode cJ0_charAt_5068e 17 = .ok (.getfield 9, 3) := by decide +kernel
theorem xdj_charAt_20 : decode cJ0_charAt_5068e 20 = .ok (.iload_n 1, 1) := by decide +kernel
theorem xdj_charAt_21 : decode cJ0_charAt_5068e 21 = .ok (.invokestatic 498, 3) := by decide +kernel
theorem xdj_charAt_24 : decode cJ0_charAt_5068e 24 = .ok (.ireturn, 1) := by decide +kernel
theorem xdj_putText_0 : decode cX1_putText 0 = .ok (.iconst 0, 1) := by decide +kernel
theorem xdj_putText_1 : decode cX1_putText 1 = .ok (.istore_n 2, 1) := by decide +kernel
theorem xdj_putText_2 : decode cX1_putText 2 = .ok (.iload_n 2, 1) := by decide +kernel
theorem xdj_putText_3 : decode cX1_putText 3 = .ok (.aload_n 1, 1) := by decide +kernel
theorem xdj_putText_4 : decode cX1_putText 4 = .ok (.invokevirtual 27, 3) := by decide +kernel
theorem xdj_putText_7 : decode cX1_putText 7 = .ok (.if_icmp .ge 18, 3) := by decide +kernel
theorem xdj_putText_10 : decode cX1_putText 10 = .ok (.aload_n 0, 1) := by decide +kernel
theorem xdj_putText_11 : decode cX1_putText 11 = .ok (.aload_n 1, 1) := by decide +kernel
theorem xdj_putText_12 : decode cX1_putText 12 = .ok (.iload_n 2, 1) := by decide +kernel
theorem xdj_putText_13 : decode cX1_putText 13 = .ok (.invokevirtual 32, 3) := by decide +kernel
theorem xdj_putText_16 : decode cX1_putText 16 = .ok (.invokevirtual 23, 3) := by decide +kernel
theorem xdj_putText_19 : decode cX1_putText 19 = .ok (.iinc 2 1, 3) := by decide +kernel
theorem xdj_putText_22 : decode cX1_putText 22 = .ok (.goto (-20), 3) := by decide +kernel
theorem xdj_putText_25 : decode cX1_putText 25 = .ok (.return_, 1) := by decide +kernel
theorem xjg {y : MethodName} {cc : ByteArray} {n : Nat} {ret : Option FieldType} (c k : Nat) (h1 : xn (xch c) k = some (.code y cc n ret)) (h2 : goodWord (.code y cc n ret) = true) : GoodIn xTl (Cond.code y cc n ret :: xTl) := by
  intro w hw
  have hc : Cond.code y cc n ret ∈ xTl := xmem h1 h2
  rcases List.mem_cons.mp hw with rfl | hw
  · exact ⟨hc, xTl_good _ hc⟩
  · exact ⟨hw, xTl_good _ hw⟩
def xtn (i : Nat) : Nat := ([6, 4] : List Nat).getD i 0
def xtb (i : Nat) : List Int32 := ([[32, 102, 114, 111, 109, 32], [32, 116, 111, 32]] : List (List Int32)).getD i []
def xTx (A : Nat → Prop) (adK adV : Nat → Nat) (U : State) (H : Heap) : Prop := vk_S 2 [6, 4] [[32, 102, 114, 111, 109, 32], [32, 116, 111, 32]] adK adV A U H ∧ va_Z "java/lang/String" "COMPACT_STRINGS" "Z" (.int 1) A U H ∧ va_Zq "jdk/internal/util/Preconditions" "SIOOBE_FORMATTER" "Ljava/util/function/BiFunction;" A U H
theorem xTx.moved {A : Nat → Prop} {adK adV : Nat → Nat} {u U : State} {H : Heap} (hv : u.vm.Alike U.vm) (h : xTx A adK adV u H) : xTx A adK adV U H := ⟨h.1.moved hv, h.2.1.moved hv, h.2.2.moved hv⟩
theorem xTx.kept {A : Nat → Prop} {adK adV : Nat → Nat} {U : State} {H H1 : Heap} (h : xTx A adK adV U H) (hq : ∀ a : Nat, a < H.size → ¬ A a → H1[a]? = H[a]?) : xTx A adK adV U H1 := ⟨h.1.kept hq, h.2.1.kept hq, h.2.2.kept hq⟩
def xrs (k : Nat) : Room := { frames := k, cells := 0, slots := 0, locals := 40 * k }
def xPs (A : Nat → Prop) (adK adV : Nat → Nat) (as : List Value) : Array Value → State → Prop := va_Pc as (fun U => xTx A adK adV U U.heap)
def xQs (v : Option Value) : Array Value → State → Outcome → State → Prop := fun _ st oc t => oc = .returned v ∧ t.heap = st.heap
theorem xPs_blind {A : Nat → Prop} {adK adV : Nat → Nat} {as : List Value} : FrameBlind (xPs A adK adV as) := by
  intro a U g mk h
  exact ⟨h.1, xTx.moved (u := U) (U := U.calling g mk a) (Vm.Alike.refl U.vm) h.2⟩
theorem xPs_at {A : Nat → Prop} {adK adV : Nat → Nat} {as : List Value} {U : State} {H : Heap} (hU : U.heap = H) (hx : xTx A adK adV U H) : xPs A adK adV as as.toArray U := by
  subst hU
  exact ⟨rfl, hx⟩
theorem xlt2 {i : Nat} (h : i < 2) : i = 0 ∨ i = 1 := by omega
section XTX
variable {p : Program} {l : Launch} {e : Env} {R : Room} {s : State} {m : MethodId} {args : Array Value} {below : List Frame} {meth : Method} {c : Code} {H : Heap} {locs : List Loc} {cells slots : Nat} {Q : State → Prop}
variable {A : Nat → Prop} {adK adV : Nat → Nat} {i : Nat}
theorem xpure_go {pc : Nat} {ls : Array Slot} {st0 rest : List Value} {v : Option Value} {a : Array Value} (hS : va_S A s.heap H locs) (hr : va_Run p l e R s m args below meth c H locs cells slots 0 0 (F0 m pc ls st0) rest (xQs v a) A) (hk : ∀ locs', va_S A s.heap H locs' → W p l e R s m args below meth c H locs' cells slots Q (F0 m (pc + 3) ls (v.toList ++ rest))) : W p l e R s m args below meth c H locs cells slots Q (F0 m pc ls st0) := by
  intro T hT XS
  obtain ⟨v', st₀, t, T', Lc, e0, XS', hL, e1, e2, ⟨q1, q2⟩, go⟩ := hr T hT XS
  cases q1
  have hS' : va_S A s.heap H (locs ++ Lc) := ⟨hS.1, hS.2.1, fun x hx => by
    rcases List.mem_append.mp hx with hx | hx
    · exact hS.2.2 x hx
    · exact hL x hx⟩
  obtain ⟨t2, a1, b1⟩ := hk _ hS' T' (by rw [e1, q2, e0]) XS'
  exact ⟨t2, go t2 a1, b1⟩
theorem xm_coder (hi : i < 2) : Met l yJ0_coder_7d493 (.code yJ0_coder_7d493 cJ0_coder_7d493 1 (some .byte) :: xTl) (xrs 0) (xPs A adK adV [.ref (adK i)]) (xQs (some (.int 0))) 0 0 A := by
  refine Met.ofW (cc := cJ0_coder_7d493) (maxL := 1) (ret := (some .byte)) (by decide +kernel) rfl ?_
  intro p e s m args below meth c s₁ B hml hp
  obtain ⟨h1, hx⟩ := hp
  subst h1
  have hts := atoms_spec (ws := Cond.code yJ0_coder_7d493 cJ0_coder_7d493 1 (some .byte) :: xTl) B.pre
  have hT : ∀ w ∈ xTl, w.before ([.ref (adK i)] : List Value).toArray s = true := fun w hw => hts w (List.mem_cons_of_mem _ hw)
  have hown := findClass_of_methodNamed B.named
  have hl := lv_entry [.ref (adK i)] (n := 1) (Nat.le_of_ble_eq_true rfl)
  rw [lg_entry_eq]
  generalize (lg_sl ([.ref (adK i)] : List Value) ++ List.replicate (1 - (lg_sl ([.ref (adK i)] : List Value)).length) Slot.unset).toArray = ls at hl ⊢
  have hl : lv_has ls 1 [(0, .ref (adK i))] := hl
  have hS : va_S A s.heap s.heap [] := va_S.rf
  refine va_gets B.exec B.bytes hx.2.1 hS hown (hT _ (xTb_in (k := 4299) (by decide +kernel))) (fun x h => h) xdj_coder_0 ?_
  refine lv_if_eq (tgt := 13) B.exec B.bytes xdj_coder_3 (by decide) (fun h => absurd h (by decide)) (fun _ => ?_)
  refine lv_aload_n B.exec B.bytes xdj_coder_6 rfl (lv_at hl 0 rfl) ?_
  refine vk_getf B.exec B.bytes (hx.1.1 i hi).2.1 hS hown (hT _ (xTb_in (k := 8414) (by decide +kernel))) (fun x h => h) xdj_coder_7 ?_
  refine lv_goto (tgt := 14) B.exec B.bytes xdj_coder_10 (by decide) ?_
  exact W.zret (ty := .byte) B.exec B.bytes B.returns rfl (fun t ht _ => ⟨rfl, ht⟩) (fun q hq => by cases hq) xdj_coder_14 (hlocks := B.notSynchronized)
theorem xm_isLatin1 (hi : i < 2) : Met l yJ0_isLatin1_aae02 (.code yJ0_isLatin1_aae02 cJ0_isLatin1_aae02 1 (some .boolean) :: xTl) (xrs 0) (xPs A adK adV [.ref (adK i)]) (xQs (some (.int 1))) 0 0 A := by
  refine Met.ofW (cc := cJ0_isLatin1_aae02) (maxL := 1) (ret := (some .boolean)) (by decide +kernel) rfl ?_
  intro p e s m args below meth c s₁ B hml hp
  obtain ⟨h1, hx⟩ := hp
  subst h1
  have hts := atoms_spec (ws := Cond.code yJ0_isLatin1_aae02 cJ0_isLatin1_aae02 1 (some .boolean) :: xTl) B.pre
  have hT : ∀ w ∈ xTl, w.before ([.ref (adK i)] : List Value).toArray s = true := fun w hw => hts w (List.mem_cons_of_mem _ hw)
  have hown := findClass_of_methodNamed B.named
  have hl := lv_entry [.ref (adK i)] (n := 1) (Nat.le_of_ble_eq_true rfl)
  rw [lg_entry_eq]
  generalize (lg_sl ([.ref (adK i)] : List Value) ++ List.replicate (1 - (lg_sl ([.ref (adK i)] : List Value)).length) Slot.unset).toArray = ls at hl ⊢
  have hl : lv_has ls 1 [(0, .ref (adK i))] := hl
  have hS : va_S A s.heap s.heap [] := va_S.rf
  refine va_gets B.exec B.bytes hx.2.1 hS hown (hT _ (xTb_in (k := 4299) (by decide +kernel))) (fun x h => h) xdj_isLatin1_0 ?_
  refine lv_if_eq (tgt := 17) B.exec B.bytes xdj_isLatin1_3 (by decide) (fun h => absurd h (by decide)) (fun _ => ?_)
  refine lv_aload_n B.exec B.bytes xdj_isLatin1_6 rfl (lv_at hl 0 rfl) ?_
  refine vk_getf B.exec B.bytes (hx.1.1 i hi).2.1 hS hown (hT _ (xTb_in (k := 8414) (by decide +kernel))) (fun x h => h) xdj_isLatin1_7 ?_
  refine lv_if_ne (tgt := 17) B.exec B.bytes xdj_isLatin1_10 (by decide) (fun h => absurd rfl h) (fun _ => ?_)
  refine lv_iconst (v := 1) B.exec B.bytes xdj_isLatin1_13 (by decide) ?_
  refine lv_goto (tgt := 18) B.exec B.bytes xdj_isLatin1_14 (by decide) ?_
  exact W.zret (ty := .boolean) B.exec B.bytes B.returns rfl (fun t ht _ => ⟨rfl, ht⟩) (fun q hq => by cases hq) xdj_isLatin1_18 (hlocks := B.notSynchronized)
theorem xm_length (hi : i < 2) : Met l yJ0_length_8abf5 (.code yJ0_length_8abf5 cJ0_length_8abf5 1 (some .int) :: xTl) (xrs 1) (xPs A adK adV [.ref (adK i)]) (xQs (some (.int (Int32.ofNat (xtn i))))) 0 0 A := by
  refine Met.ofW (cc := cJ0_length_8abf5) (maxL := 1) (ret := (some .int)) (by decide +kernel) rfl ?_
  intro p e s m args below meth c s₁ B hml hp
  obtain ⟨h1, hx⟩ := hp
  subst h1
  have hts := atoms_spec (ws := Cond.code yJ0_length_8abf5 cJ0_length_8abf5 1 (some .int) :: xTl) B.pre
  have hT : ∀ w ∈ xTl, w.before ([.ref (adK i)] : List Value).toArray s = true := fun w hw => hts w (List.mem_cons_of_mem _ hw)
  have hown := findClass_of_methodNamed B.named
  have hl := lv_entry [.ref (adK i)] (n := 1) (Nat.le_of_ble_eq_true rfl)
  rw [lg_entry_eq]
  generalize (lg_sl ([.ref (adK i)] : List Value) ++ List.replicate (1 - (lg_sl ([.ref (adK i)] : List Value)).length) Slot.unset).toArray = ls at hl ⊢
  have hl : lv_has ls 1 [(0, .ref (adK i))] := hl
  have hS : va_S A s.heap s.heap [] := va_S.rf
  refine lv_aload_n B.exec B.bytes xdj_length_0 rfl (lv_at hl 0 rfl) ?_
  refine vk_getf B.exec B.bytes (hx.1.1 i hi).2.2.1 hS hown (hT _ (xTb_in (k := 8413) (by decide +kernel))) (fun x h => h) xdj_length_1 ?_
  refine va_tlen (v := Int32.ofNat (xtn i)) B.exec B.bytes (hx.1.1 i hi).2.2.2 hS rfl xdj_length_4 ?_
  refine lv_aload_n B.exec B.bytes xdj_length_5 rfl (lv_at hl 0 rfl) ?_
  generalize ([] : List Loc) = locs at hS ⊢
  refine xpure_go hS (va_runV (below := below) (meth := meth) (e := e) (locs := locs) (C := "java/lang/String") (As := []) (b := (adK i)) (rest := [.int (Int32.ofNat (xtn i))]) (g := F0 m 6 ls [.ref (adK i), .int (Int32.ofNat (xtn i))]) ⟨B.exec, B.bytes, hml, hown, hT⟩ (xm_coder (l := l) (adK := adK) (adV := adV) hi) ⟨callB_of (rm := xrs 0) 0 hT (xjg 4 202 rfl rfl) rfl rfl rfl (hT _ (xTb_in (k := 1045) (by decide +kernel))) (hT _ (xTb_in (k := 4295) (by decide +kernel))) (by decide +kernel) ⟨by decide, by decide⟩, (hT _ (xTb_in (k := 4296) (by decide +kernel))), (hT _ (xTb_in (k := 4297) (by decide +kernel)))⟩ ⟨xPs_blind, vk_recv hx.1 hi hS, fun U hU hW => xPs_at hU (hx.moved hW.alike)⟩ rfl rfl hl.1 rfl (Nat.le_of_ble_eq_true rfl) xdj_length_6 ⟨Nat.zero_le _, Nat.zero_le _⟩) (fun locs hS => ?_)
  refine lv_ishr B.exec B.bytes xdj_length_9 ?_
  have hz : (Int32.ofNat (xtn i)) >>> ((0 : Int32) &&& 31) = Int32.ofNat (xtn i) := by rcases xlt2 hi with rfl | rfl <;> decide
  rw [hz]
  exact W.iret B.exec B.bytes B.returns (fun t ht _ => ⟨rfl, ht⟩) hS.2.2 xdj_length_10 (hlocks := B.notSynchronized)
theorem xm_pre0 {x y : Int32} (h0 : ¬ x < 0) (h1 : x < y) : Met l yJ3_checkIndex_8e157 (.code yJ3_checkIndex_8e157 cJ3_checkIndex_8e157 3 (some .int) :: xTl) (xrs 0) (xPs A adK adV [.int x, .int y, .null]) (xQs (some (.int x))) 0 0 A := by
  refine Met.ofW (cc := cJ3_checkIndex_8e157) (maxL := 3) (ret := (some .int)) (by decide +kernel) rfl ?_
  intro p e s m args below meth c s₁ B hml hp
  obtain ⟨h1, hx⟩ := hp
  subst h1
  have hts := atoms_spec (ws := Cond.code yJ3_checkIndex_8e157 cJ3_checkIndex_8e157 3 (some .int) :: xTl) B.pre
  have hT : ∀ w ∈ xTl, w.before ([.int x, .int y, .null] : List Value).toArray s = true := fun w hw => hts w (List.mem_cons_of_mem _ hw)
  have hown := findClass_of_methodNamed B.named
  have hl := lv_entry [.int x, .int y, .null] (n := 3) (Nat.le_of_ble_eq_true rfl)
  rw [lg_entry_eq]
  generalize (lg_sl ([.int x, .int y, .null] : List Value) ++ List.replicate (3 - (lg_sl ([.int x, .int y, .null] : List Value)).length) Slot.unset).toArray = ls at hl ⊢
  have hl : lv_has ls 3 [(0, .int x), (1, .int y), (2, .null)] := hl
  have hS : va_S A s.heap s.heap [] := va_S.rf
  refine lv_iload_n B.exec B.bytes xdj_pre_0 rfl (lv_at hl 0 rfl) ?_
  refine lv_if_lt (tgt := 9) B.exec B.bytes xdj_pre_1 (by decide) (fun h => absurd h h0) (fun _ => ?_)
  refine lv_iload_n B.exec B.bytes xdj_pre_4 rfl (lv_at hl 0 rfl) ?_
  refine lv_iload_n B.exec B.bytes xdj_pre_5 rfl (lv_at hl 1 rfl) ?_
  refine lv_icmp_lt (tgt := 16) B.exec B.bytes xdj_pre_6 (by decide) (fun _ => ?_) (fun h => absurd h1 h)
  refine lv_iload_n B.exec B.bytes xdj_pre_16 rfl (lv_at hl 0 rfl) ?_
  exact W.iret B.exec B.bytes B.returns (fun t ht _ => ⟨rfl, ht⟩) hS.2.2 xdj_pre_17 (hlocks := B.notSynchronized)
theorem xm_pre1 {zt : Nat} {x y : Int32} (h0 : ¬ x < 0) (h1 : x < y) : Met l yJ3_checkIndex_8e157 (.code yJ3_checkIndex_8e157 cJ3_checkIndex_8e157 3 (some .int) :: xTl) (xrs 0) (xPs A adK adV [.int x, .int y, .ref zt]) (xQs (some (.int x))) 0 0 A := by
  refine Met.ofW (cc := cJ3_checkIndex_8e157) (maxL := 3) (ret := (some .int)) (by decide +kernel) rfl ?_
  intro p e s m args below meth c s₁ B hml hp
  obtain ⟨h1, hx⟩ := hp
  subst h1
  have hts := atoms_spec (ws := Cond.code yJ3_checkIndex_8e157 cJ3_checkIndex_8e157 3 (some .int) :: xTl) B.pre
  have hT : ∀ w ∈ xTl, w.before ([.int x, .int y, .ref zt] : List Value).toArray s = true := fun w hw => hts w (List.mem_cons_of_mem _ hw)
  have hown := findClass_of_methodNamed B.named
  have hl := lv_entry [.int x, .int y, .ref zt] (n := 3) (Nat.le_of_ble_eq_true rfl)
  rw [lg_entry_eq]
  generalize (lg_sl ([.int x, .int y, .ref zt] : List Value) ++ List.replicate (3 - (lg_sl ([.int x, .int y, .ref zt] : List Value)).length) Slot.unset).toArray = ls at hl ⊢
  have hl : lv_has ls 3 [(0, .int x), (1, .int y), (2, .ref zt)] := hl
  have hS : va_S A s.heap s.heap [] := va_S.rf
  refine lv_iload_n B.exec B.bytes xdj_pre_0 rfl (lv_at hl 0 rfl) ?_
  refine lv_if_lt (tgt := 9) B.exec B.bytes xdj_pre_1 (by decide) (fun h => absurd h h0) (fun _ => ?_)
  refine lv_iload_n B.exec B.bytes xdj_pre_4 rfl (lv_at hl 0 rfl) ?_
  refine lv_iload_n B.exec B.bytes xdj_pre_5 rfl (lv_at hl 1 rfl) ?_
  refine lv_icmp_lt (tgt := 16) B.exec B.bytes xdj_pre_6 (by decide) (fun _ => ?_) (fun h => absurd h1 h)
  refine lv_iload_n B.exec B.bytes xdj_pre_16 rfl (lv_at hl 0 rfl) ?_
  exact W.iret B.exec B.bytes B.returns (fun t ht _ => ⟨rfl, ht⟩) hS.2.2 xdj_pre_17 (hlocks := B.notSynchronized)
theorem xm_check {x y : Int32} (h0 : ¬ x < 0) (h1 : x < y) : Met l yJ0_checkIndex_df160 (.code yJ0_checkIndex_df160 cJ0_checkIndex_df160 2 none :: xTl) (xrs 1) (xPs A adK adV [.int x, .int y]) (xQs none) 0 0 A := by
  refine Met.ofW (cc := cJ0_checkIndex_df160) (maxL := 2) (ret := none) (by decide +kernel) rfl ?_
  intro p e s m args below meth c s₁ B hml hp
  obtain ⟨h1, hx⟩ := hp
  subst h1
  have hts := atoms_spec (ws := Cond.code yJ0_checkIndex_df160 cJ0_checkIndex_df160 2 none :: xTl) B.pre
  have hT : ∀ w ∈ xTl, w.before ([.int x, .int y] : List Value).toArray s = true := fun w hw => hts w (List.mem_cons_of_mem _ hw)
  have hown := findClass_of_methodNamed B.named
  have hl := lv_entry [.int x, .int y] (n := 2) (Nat.le_of_ble_eq_true rfl)
  rw [lg_entry_eq]
  generalize (lg_sl ([.int x, .int y] : List Value) ++ List.replicate (2 - (lg_sl ([.int x, .int y] : List Value)).length) Slot.unset).toArray = ls at hl ⊢
  have hl : lv_has ls 2 [(0, .int x), (1, .int y)] := hl
  have hS : va_S A s.heap s.heap [] := va_S.rf
  refine lv_iload_n B.exec B.bytes xdj_check_0 rfl (lv_at hl 0 rfl) ?_
  refine lv_iload_n B.exec B.bytes xdj_check_1 rfl (lv_at hl 1 rfl) ?_
  rcases hx.2.2 with hz | ⟨zt, hz⟩
  · refine va_gets B.exec B.bytes hz hS hown (hT _ (xTb_in (k := 4315) (by decide +kernel))) (fun x h => h) xdj_check_2 ?_
    generalize ([] : List Loc) = locs at hS ⊢
    refine xpure_go hS (va_runS (below := below) (meth := meth) (e := e) (locs := locs) (As := [.int x, .int y, .null]) (rest := []) (g := F0 m 5 ls [.null, .int y, .int x]) ⟨B.exec, B.bytes, hml, hown, hT⟩ (xm_pre0 (l := l) (adK := adK) (adV := adV) h0 h1) ⟨callB_of (rm := xrs 0) 3 hT (xjg 4 223 rfl rfl) rfl rfl rfl (hT _ (xTb_in (k := 1047) (by decide +kernel))) (hT _ (xTb_in (k := 4317) (by decide +kernel))) (by decide +kernel) ⟨by decide, by decide⟩, (hT _ (xTb_in (k := 4318) (by decide +kernel)))⟩ ⟨xPs_blind, fun U hU hW => xPs_at hU (hx.moved hW.alike)⟩ rfl rfl hl.1 rfl (Nat.le_of_ble_eq_true rfl) xdj_check_5 ⟨Nat.zero_le _, Nat.zero_le _⟩) (fun locs hS => ?_)
    refine lv_pop B.exec B.bytes xdj_check_8 rfl ?_
    exact W.vret B.exec B.bytes B.returns (fun t ht _ => ⟨rfl, ht⟩) hS.2.2 xdj_check_9 (hlocks := B.notSynchronized)
  · refine va_gets B.exec B.bytes hz hS hown (hT _ (xTb_in (k := 4315) (by decide +kernel))) (fun x h => h) xdj_check_2 ?_
    generalize ([] : List Loc) = locs at hS ⊢
    refine xpure_go hS (va_runS (below := below) (meth := meth) (e := e) (locs := locs) (As := [.int x, .int y, .ref zt]) (rest := []) (g := F0 m 5 ls [.ref zt, .int y, .int x]) ⟨B.exec, B.bytes, hml, hown, hT⟩ (xm_pre1 (l := l) (adK := adK) (adV := adV) h0 h1) ⟨callB_of (rm := xrs 0) 3 hT (xjg 4 223 rfl rfl) rfl rfl rfl (hT _ (xTb_in (k := 1047) (by decide +kernel))) (hT _ (xTb_in (k := 4317) (by decide +kernel))) (by decide +kernel) ⟨by decide, by decide⟩, (hT _ (xTb_in (k := 4318) (by decide +kernel)))⟩ ⟨xPs_blind, fun U hU hW => xPs_at hU (hx.moved hW.alike)⟩ rfl rfl hl.1 rfl (Nat.le_of_ble_eq_true rfl) xdj_check_5 ⟨Nat.zero_le _, Nat.zero_le _⟩) (fun locs hS => ?_)
    refine lv_pop B.exec B.bytes xdj_check_8 rfl ?_
    exact W.vret B.exec B.bytes B.returns (fun t ht _ => ⟨rfl, ht⟩) hS.2.2 xdj_check_9 (hlocks := B.notSynchronized)
theorem xm_lat (hi : i < 2) {x : Int32} (h0 : ¬ x < 0) (h1 : x < Int32.ofNat (xtn i)) (h2 : vp_in x (xtn i)) (h3 : ((((xtb i).getD x.toNatClampNeg 0 &&& 255).toUInt32 % 65536).toInt32) = (xtb i).getD x.toNatClampNeg 0 ∧ narrow .char (.int ((xtb i).getD x.toNatClampNeg 0)) = .int ((xtb i).getD x.toNatClampNeg 0)) : Met l yJ1_charAt_3b067 (.code yJ1_charAt_3b067 cJ1_charAt_3b067 2 (some .char) :: xTl) (xrs 2) (xPs A adK adV [.ref (adV i), .int x]) (xQs (some (.int ((xtb i).getD x.toNatClampNeg 0)))) 0 0 A := by
  refine Met.ofW (cc := cJ1_charAt_3b067) (maxL := 2) (ret := (some .char)) (by decide +kernel) rfl ?_
  intro p e s m args below meth c s₁ B hml hp
  obtain ⟨h1, hx⟩ := hp
  subst h1
  have hts := atoms_spec (ws := Cond.code yJ1_charAt_3b067 cJ1_charAt_3b067 2 (some .char) :: xTl) B.pre
  have hT : ∀ w ∈ xTl, w.before ([.ref (adV i), .int x] : List Value).toArray s = true := fun w hw => hts w (List.mem_cons_of_mem _ hw)
  have hown := findClass_of_methodNamed B.named
  have hl := lv_entry [.ref (adV i), .int x] (n := 2) (Nat.le_of_ble_eq_true rfl)
  rw [lg_entry_eq]
  generalize (lg_sl ([.ref (adV i), .int x] : List Value) ++ List.replicate (2 - (lg_sl ([.ref (adV i), .int x] : List Value)).length) Slot.unset).toArray = ls at hl ⊢
  have hl : lv_has ls 2 [(0, .ref (adV i)), (1, .int x)] := hl
  have hS : va_S A s.heap s.heap [] := va_S.rf
  refine lv_iload_n B.exec B.bytes xdj_lat_0 rfl (lv_at hl 1 rfl) ?_
  refine lv_aload_n B.exec B.bytes xdj_lat_1 rfl (lv_at hl 0 rfl) ?_
  refine va_tlen (v := Int32.ofNat (xtn i)) B.exec B.bytes (hx.1.1 i hi).2.2.2 hS rfl xdj_lat_2 ?_
  generalize ([] : List Loc) = locs at hS ⊢
  refine xpure_go hS (va_runS (below := below) (meth := meth) (e := e) (locs := locs) (As := [.int x, .int (Int32.ofNat (xtn i))]) (rest := []) (g := F0 m 3 ls [.int (Int32.ofNat (xtn i)), .int x]) ⟨B.exec, B.bytes, hml, hown, hT⟩ (xm_check (l := l) (adK := adK) (adV := adV) h0 h1) ⟨callB_of (rm := xrs 1) 2 hT (xjg 4 218 rfl rfl) rfl rfl rfl (hT _ (xTb_in (k := 1045) (by decide +kernel))) (hT _ (xTb_in (k := 4312) (by decide +kernel))) (by decide +kernel) ⟨by decide, by decide⟩, (hT _ (xTb_in (k := 4313) (by decide +kernel)))⟩ ⟨xPs_blind, fun U hU hW => xPs_at hU (hx.moved hW.alike)⟩ rfl rfl hl.1 rfl (Nat.le_of_ble_eq_true rfl) xdj_lat_3 ⟨Nat.zero_le _, Nat.zero_le _⟩) (fun locs hS => ?_)
  refine lv_aload_n B.exec B.bytes xdj_lat_6 rfl (lv_at hl 0 rfl) ?_
  refine lv_iload_n B.exec B.bytes xdj_lat_7 rfl (lv_at hl 1 rfl) ?_
  refine va_tb (v := .int ((xtb i).getD x.toNatClampNeg 0)) B.exec B.bytes (hx.1.1 i hi).2.2.2 hS h2 rfl xdj_lat_8 ?_
  refine lv_sipush (v := 255) B.exec B.bytes xdj_lat_9 (by decide) ?_
  refine lv_iand B.exec B.bytes xdj_lat_12 ?_
  refine lv_i2c (v := (xtb i).getD x.toNatClampNeg 0) B.exec B.bytes xdj_lat_13 h3.1 ?_
  exact W.zret (ty := .char) B.exec B.bytes B.returns h3.2 (fun t ht _ => ⟨rfl, ht⟩) hS.2.2 xdj_lat_14 (hlocks := B.notSynchronized)
theorem xm_charAt (hi : i < 2) {x : Int32} (h0 : ¬ x < 0) (h1 : x < Int32.ofNat (xtn i)) (h2 : vp_in x (xtn i)) (h3 : ((((xtb i).getD x.toNatClampNeg 0 &&& 255).toUInt32 % 65536).toInt32) = (xtb i).getD x.toNatClampNeg 0 ∧ narrow .char (.int ((xtb i).getD x.toNatClampNeg 0)) = .int ((xtb i).getD x.toNatClampNeg 0)) : Met l yJ0_charAt_5068e (.code yJ0_charAt_5068e cJ0_charAt_5068e 2 (some .char) :: xTl) (xrs 3) (xPs A adK adV [.ref (adK i), .int x]) (xQs (some (.int ((xtb i).getD x.toNatClampNeg 0)))) 0 0 A := by
  refine Met.ofW (cc := cJ0_charAt_5068e) (maxL := 2) (ret := (some .char)) (by decide +kernel) rfl ?_
  intro p e s m args below meth c s₁ B hml hp
  obtain ⟨h1, hx⟩ := hp
  subst h1
  have hts := atoms_spec (ws := Cond.code yJ0_charAt_5068e cJ0_charAt_5068e 2 (some .char) :: xTl) B.pre
  have hT : ∀ w ∈ xTl, w.before ([.ref (adK i), .int x] : List Value).toArray s = true := fun w hw => hts w (List.mem_cons_of_mem _ hw)
  have hown := findClass_of_methodNamed B.named
  have hl := lv_entry [.ref (adK i), .int x] (n := 2) (Nat.le_of_ble_eq_true rfl)
  rw [lg_entry_eq]
  generalize (lg_sl ([.ref (adK i), .int x] : List Value) ++ List.replicate (2 - (lg_sl ([.ref (adK i), .int x] : List Value)).length) Slot.unset).toArray = ls at hl ⊢
  have hl : lv_has ls 2 [(0, .ref (adK i)), (1, .int x)] := hl
  have hS : va_S A s.heap s.heap [] := va_S.rf
  refine lv_aload_n B.exec B.bytes xdj_charAt_0 rfl (lv_at hl 0 rfl) ?_
  generalize ([] : List Loc) = locs at hS ⊢
  refine xpure_go hS (va_runV (below := below) (meth := meth) (e := e) (locs := locs) (C := "java/lang/String") (As := []) (b := (adK i)) (rest := []) (g := F0 m 1 ls [.ref (adK i)]) ⟨B.exec, B.bytes, hml, hown, hT⟩ (xm_isLatin1 (l := l) (adK := adK) (adV := adV) hi) ⟨callB_of (rm := xrs 0) 0 hT (xjg 4 212 rfl rfl) rfl rfl rfl (hT _ (xTb_in (k := 1045) (by decide +kernel))) (hT _ (xTb_in (k := 4305) (by decide +kernel))) (by decide +kernel) ⟨by decide, by decide⟩, (hT _ (xTb_in (k := 4306) (by decide +kernel))), (hT _ (xTb_in (k := 4307) (by decide +kernel)))⟩ ⟨xPs_blind, vk_recv hx.1 hi hS, fun U hU hW => xPs_at hU (hx.moved hW.alike)⟩ rfl rfl hl.1 rfl (Nat.le_of_ble_eq_true rfl) xdj_charAt_1 ⟨Nat.zero_le _, Nat.zero_le _⟩) (fun locs hS => ?_)
  refine lv_if_eq (tgt := 16) B.exec B.bytes xdj_charAt_4 (by decide) (fun h => absurd h (by decide)) (fun _ => ?_)
  refine lv_aload_n B.exec B.bytes xdj_charAt_7 rfl (lv_at hl 0 rfl) ?_
  refine vk_getf B.exec B.bytes (hx.1.1 i hi).2.2.1 hS hown (hT _ (xTb_in (k := 8413) (by decide +kernel))) (fun x h => h) xdj_charAt_8 ?_
  refine lv_iload_n B.exec B.bytes xdj_charAt_11 rfl (lv_at hl 1 rfl) ?_
  refine xpure_go hS (va_runS (below := below) (meth := meth) (e := e) (locs := locs) (As := [.ref (adV i), .int x]) (rest := []) (g := F0 m 12 ls [.int x, .ref (adV i)]) ⟨B.exec, B.bytes, hml, hown, hT⟩ (xm_lat (l := l) (adK := adK) (adV := adV) hi h0 h1 h2 h3) ⟨callB_of (rm := xrs 2) 2 hT (xjg 4 215 rfl rfl) rfl rfl rfl (hT _ (xTb_in (k := 1046) (by decide +kernel))) (hT _ (xTb_in (k := 4309) (by decide +kernel))) (by decide +kernel) ⟨by decide, by decide⟩, (hT _ (xTb_in (k := 4310) (by decide +kernel)))⟩ ⟨xPs_blind, fun U hU hW => xPs_at hU (hx.moved hW.alike)⟩ rfl rfl hl.1 rfl (Nat.le_of_ble_eq_true rfl) xdj_charAt_12 ⟨Nat.zero_le _, Nat.zero_le _⟩) (fun locs hS => ?_)
  exact W.zret (ty := .char) B.exec B.bytes B.returns h3.2 (fun t ht _ => ⟨rfl, ht⟩) hS.2.2 xdj_charAt_15 (hlocks := B.notSynchronized)
end XTX
