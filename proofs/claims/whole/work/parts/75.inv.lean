/-! What holds between two calls. -/
/-- codes of the reference and kinds of the class -/
def kdm (x : Nat) : Nat := if x = 20 then 74 else if x = 21 then 73 else if x = 22 then 72 else 75 + x
def cw (S : TS) (i : Nat) : Nat := (S (225 + 3 * i)).toNatClampNeg
/-- how many truths lie ready behind i codes -/
def dep (S : TS) : Nat → Nat
  | 0 => 0
  | i + 1 => if cw S i = 20 then dep S i else if cw S i = 21 ∨ cw S i = 22 then dep S i - 1 else dep S i + 1
/-- code i is good where it stands -/
def okc (S : TS) (i : Nat) : Prop := S (225 + 3 * i) = n32 (cw S i) ∧ (cw S i < 10 ∨ (cw S i = 20 ∧ 1 ≤ dep S i) ∨ ((cw S i = 21 ∨ cw S i = 22) ∧ 2 ≤ dep S i)) ∧ (cw S i = 5 → ∃ b, b < 20 ∧ S (227 + 3 * i) = n32 b) ∧ (6 ≤ cw S i → cw S i < 10 → ∃ g n, 60 ≤ g ∧ g ≤ 62 ∧ n < 1000 ∧ S (226 + 3 * i) = n32 g ∧ S (227 + 3 * i) = n32 n)
def Se (q : Nat) (S : TS) (I : TI) : Prop := ∃ c, c ≤ 40 ∧ S 224 = n32 c ∧ I q 1 = n32 c ∧ (I q 0 = 0 ↔ c = 0) ∧ (0 < c → dep S c = 1) ∧ ∀ i, i < c → okc S i ∧ I (q + 1) i = n32 (kdm (cw S i)) ∧ I (q + 2) i = S (226 + 3 * i) ∧ I (q + 3) i = S (227 + 3 * i)
/-- voters' names have seven letters at most, none of them with its highest bit set -/
def NB (S : TS) (N : Nat → Int64) : Prop := ∀ v, v < sV S → ∃ w, w < 72057594037927936 ∧ (∀ j, w / 256 ^ j % 256 < 128) ∧ N v = Int64.ofNat w
def imS (I : TI) (k : Nat) : TS := fun i => I 229 (360 * k + i)
def imN (J : TJ) (k : Nat) : Nat → Int64 := fun i => J 230 (28 * k + i)
def Im (I : TI) (J : TJ) (k : Nat) : Prop := WS (imS I k) ∧ NZ (imS I k) (imN J k) ∧ NB (imS I k) (imN J k) ∧ Tr (126 + 41 * k) (imS I k) (imN J k) I J ∧ Ac (156 + 41 * k) (imS I k) I ∧ Se (161 + 41 * k) (imS I k) I
def Tape (I : TI) : Prop := ∃ n, n ≤ 940 ∧ I 1 1 = n32 n ∧ I 209 2 = n32 n ∧ ∀ i, i < n → I 2 i = I 210 i &&& 255
def Tag (I : TI) : Prop := ∃ n, n ≤ 30 ∧ I 3 1 = n32 n ∧ I 209 43 = n32 n ∧ ∀ i, i < n → I 4 i = I 225 i
def Told (I : TI) : Prop := (I 209 47 = 0 → ∀ k, k < 4 → I 73 k = -1) ∧ (I 209 47 ≠ 0 → ∀ k, k < 4 → I 73 k = I 226 k)
def Rest (S : TS) (N : Nat → Int64) (I : TI) (J : TJ) : Prop := NB S N ∧ Tape I ∧ Se 42 S I ∧ (∀ k, k < 2 → I 207 k = I 231 k ∧ (I 207 k ≠ 0 → Im I J k)) ∧ Tag I ∧ (I 71 0 = I 209 40 ∧ I 71 1 = I 209 41 ∧ I 0 16 = I 209 16) ∧ Told I ∧ ∀ k, k < 21 → J 216 k = xwd k
/-- cells that the rest looks at -/
def vI (o k : Nat) : Prop := o ≤ 4 ∨ (42 ≤ o ∧ o ≤ 45) ∨ (o = 71 ∧ k < 2) ∨ o = 73 ∨ (126 ≤ o ∧ o ≤ 164) ∨ (167 ≤ o ∧ o ≤ 205) ∨ o = 207 ∨ (o = 209 ∧ (k = 2 ∨ k = 16 ∨ k = 40 ∨ k = 41 ∨ k = 43 ∨ k = 47)) ∨ o = 210 ∨ o = 225 ∨ o = 226 ∨ o = 229 ∨ o = 231
def vJ (o : Nat) : Prop := (126 ≤ o ∧ o ≤ 206) ∨ o = 216 ∨ o = 230
/-- the names of voters and blocks -/
def nmN (J : TJ) : Nat → Int64 := fun k => if k < 28 then J 215 k else 0
def Inv (I : TI) (J : TJ) : Prop := CS (I 211) (nmN J) I J ∧ RS (I 211) I ∧ NZ (I 211) (nmN J) ∧ Hst (I 211) (nmN J) I ∧ Rest (I 211) (nmN J) I J
section INV
variable {d e L : Nat} {S S' : TS} {N N' : Nat → Int64} {I K M : TI} {J J' : TJ} {a b s t v k i n r m o q : Nat}
theorem cw_c (h : ∀ k, 224 ≤ k → S k = S' k) : cw S i = cw S' i := by unfold cw; rw [h _ (by omega)]
theorem dep_c (h : ∀ k, 224 ≤ k → S k = S' k) : dep S i = dep S' i := by
  induction i with
  | zero => rfl
  | succ i ih =>
    show (if _ then _ else if _ then _ else _) = (if _ then _ else if _ then _ else _)
    rw [cw_c h, ih]
theorem Se_c (h : ∀ k, 224 ≤ k → S k = S' k) (hI : ∀ o k, q ≤ o → o ≤ q + 3 → K o k = I o k) (hs : Se q S I) : Se q S' K := by
  obtain ⟨c, c1, c2, c3, c4, c5, c6⟩ := hs
  refine ⟨c, c1, (h 224 (by omega)).symm.trans c2, (hI q 1 (by omega) (by omega)).trans c3, by rw [hI q 0 (by omega) (by omega)]; exact c4, fun hc => by rw [← dep_c h]; exact c5 hc, fun i hi => ?_⟩
  obtain ⟨⟨o1, o2, o3, o4⟩, r1, r2, r3⟩ := c6 i hi
  rw [← cw_c h, hI _ _ (by omega) (by omega), hI _ _ (by omega) (by omega), hI _ _ (by omega) (by omega), ← h (226 + 3 * i) (by omega), ← h (227 + 3 * i) (by omega)]
  refine ⟨⟨?_, ?_, ?_, ?_⟩, r1, r2, r3⟩
  · rw [← h (225 + 3 * i) (by omega), ← cw_c h]; exact o1
  · rw [← cw_c h, ← dep_c h]; exact o2
  · rw [← cw_c h, ← h (227 + 3 * i) (by omega)]; exact o3
  · rw [← cw_c h, ← h (226 + 3 * i) (by omega), ← h (227 + 3 * i) (by omega)]; exact o4
theorem Tr_J {t : Nat} (h : ∀ o k, t ≤ o → o < t + 30 → K o k = I o k) (hj : ∀ o k, t < o → o ≤ t + 3 → J' o k = J o k) (hw : wfT S) (hT : Tr t S N I J) : Tr t S N K J' := by
  obtain ⟨h0, h1, h2, h3, h4⟩ := Tr_c h hw hT
  refine ⟨h0, h1, h2, fun v hv => ⟨(hj (t + 1) v (by omega) (by omega)).trans (h3 v hv).1, (h3 v hv).2⟩, fun b hb => ?_⟩
  obtain ⟨q1, q2⟩ := h4 b hb
  exact ⟨(hj (t + 3) b (by omega) (by omega)).trans q1, q2⟩
theorem Im_c (hI : ∀ o k, vI o k → K o k = I o k) (hJ : ∀ o k, vJ o → J' o k = J o k) (hk : k < 2) (h : Im I J k) : Im K J' k := by
  obtain ⟨h1, h2, h3, h4, h5, h6⟩ := h
  have es : imS K k = imS I k := funext fun i => hI 229 _ (by unfold vI; omega)
  have en : imN J' k = imN J k := funext fun i => hJ 230 _ (by unfold vJ; omega)
  unfold Im
  rw [es, en]
  refine ⟨h1, h2, h3, Tr_J (fun o k z1 z2 => hI o k (by unfold vI; omega)) (fun o k z1 z2 => hJ o k (by unfold vJ; omega)) h1.1 h4, Ac_c (fun o k z1 z2 => hI o k (by unfold vI; omega)) h5, Se_c (fun _ _ => rfl) (fun o k z1 z2 => hI o k (by unfold vI; omega)) h6⟩
theorem Rest_c (hI : ∀ o k, vI o k → K o k = I o k) (hJ : ∀ o k, vJ o → J' o k = J o k) (hS : ∀ k, 224 ≤ k → S k = S' k) (hV : S 1 = S' 1) (hN : ∀ k, k < 8 → N k = N' k) (hV8 : sV S ≤ 8) (h : Rest S N I J) : Rest S' N' K J' := by
  obtain ⟨h0, ⟨n, t1, t2, t3, t4⟩, h2, h3, ⟨n2, g1, g2, g3, g4⟩, ⟨c1, c2, c3⟩, ⟨d1, d2⟩, h7⟩ := h
  have e209 : ∀ k, (k = 2 ∨ k = 16 ∨ k = 40 ∨ k = 41 ∨ k = 43 ∨ k = 47) → K 209 k = I 209 k := fun k z => hI 209 k (by unfold vI; omega)
  refine ⟨fun v hv => ?_, ⟨n, t1, ?_, ?_, fun i hi => ?_⟩, Se_c hS (fun o k z1 z2 => hI o k (by unfold vI; omega)) h2, fun k hk => ⟨?_, fun q => ?_⟩, ⟨n2, g1, ?_, ?_, fun i hi => ?_⟩, ⟨?_, ?_, ?_⟩, ⟨fun q k hk => ?_, fun q k hk => ?_⟩, fun k hk => ?_⟩
  · have eV : sV S' = sV S := by unfold sV; rw [hV]
    rw [eV] at hv
    rw [← hN v (by omega)]
    exact h0 v hv
  · rw [hI 1 1 (by unfold vI; omega), t2]
  · rw [e209 2 (by omega), t3]
  · rw [hI 2 i (by unfold vI; omega), hI 210 i (by unfold vI; omega), t4 i hi]
  · rw [hI 207 k (by unfold vI; omega), hI 231 k (by unfold vI; omega)]
    exact (h3 k hk).1
  · rw [hI 207 k (by unfold vI; omega)] at q
    exact Im_c hI hJ hk ((h3 k hk).2 q)
  · rw [hI 3 1 (by unfold vI; omega), g2]
  · rw [e209 43 (by omega), g3]
  · rw [hI 4 i (by unfold vI; omega), hI 225 i (by unfold vI; omega), g4 i hi]
  · rw [hI 71 0 (by unfold vI; omega), e209 40 (by omega), c1]
  · rw [hI 71 1 (by unfold vI; omega), e209 41 (by omega), c2]
  · rw [hI 0 16 (by unfold vI; omega), e209 16 (by omega), c3]
  · rw [e209 47 (by omega)] at q
    rw [hI 73 k (by unfold vI; omega), d1 q k hk]
  · rw [e209 47 (by omega)] at q
    rw [hI 73 k (by unfold vI; omega), hI 226 k (by unfold vI; omega), d2 q k hk]
  · rw [hJ 216 k (by unfold vJ; omega), h7 k hk]
theorem HM_c (h1 : ∀ k, k = 1 ∨ k = 2 → K 79 k = I 79 k) (h2 : K 209 38 = I 209 38) (h3 : K 222 = I 222) (h4 : ∀ i k, i < 8 → K (81 + i) k = I (81 + i) k) (h : HM S N I m o) : HM S N K m o := by
  obtain ⟨h8, ho, e1, e2, e3, g1, g2, g3⟩ := h
  have es : ∀ j, hS K S j = hS I S j := fun j => hS_0 rfl rfl h3
  refine ⟨h8, ho, (h1 2 (Or.inr rfl)).trans e1, (h1 1 (Or.inl rfl)).trans e2, h2.trans e3, fun j hj => ?_, fun j hj => ?_, fun hp => ?_⟩
  · rw [es j]
    obtain ⟨q1, q2, q3⟩ := g1 j hj
    have hlt : (o + j) % 8 < 8 := Nat.mod_lt _ (by omega)
    exact ⟨q1, q2, (h4 _ _ hlt).trans q3.1, (h4 _ _ hlt).trans q3.2.1, fun v hv => (h4 _ _ hlt).trans (q3.2.2 v hv)⟩
  · rw [es j, es (j + 1)]
    exact g2 j hj
  · rw [es]
    exact g3 hp
/-- the class is asked, then the reference: nothing else changes -/
theorem Inv_q (h : Inv I J) (f1 : cfr K I) (hC : CS (I 211) (nmN J) K J) (f2 : rfr M K) (hR : RS (I 211) M) : Inv M J := by
  obtain ⟨_, _, h3, ⟨m, o, h4⟩, h5⟩ := h
  have e211 : M 211 = I 211 := hR.2.1
  have ck : ∀ q k, q < 209 → M q k = K q k := fun q k z => f2 q k (by omega) (Or.inl (by omega))
  unfold Inv
  rw [e211]
  refine ⟨?_, hR, h3, ⟨m, o, HM_c (fun k hk => ?_) ?_ ?_ (fun i k hi => ?_) h4⟩, Rest_c (fun q k hv => ?_) (fun _ _ _ => rfl) (fun _ _ => rfl) rfl (fun _ _ => rfl) (wf_V8 hR.1.1) h5⟩
  · exact CS_o (fun q k z1 z2 => ck q k (by omega)) (ck 6 3 (by omega)) hC
  · rw [ck 79 k (by omega), f1 79 k (by omega) (Or.inl (by decide))]
  · rw [f2 209 38 (by omega) (Or.inr (by omega)), f1 209 38 (by omega) (Or.inl (by decide))]
  · funext k
    rw [f2 222 k (by omega) (Or.inl (by decide)), f1 222 k (by omega) (Or.inl (by decide))]
  · rw [ck _ k (by omega), f1 _ k (by omega) (Or.inl (by omega))]
  · unfold vI at hv
    rw [f2 q k (by omega) (by omega), f1 q k (by omega) (by omega)]
theorem RS_cf (f : ∀ q k, 209 ≤ q → K q k = I q k) (h : RS S I) : RS S K := by
  refine ⟨h.1, (funext fun k => f 211 k (by omega)).trans h.2.1, fun q => ?_⟩
  obtain ⟨h1, h2, h3, h4, h5, h6, h7, h8, h9, h10, n, h11, h12, h13⟩ := h.2.2 (by rw [← f 209 34 (by omega)]; exact q)
  have e : ∀ k, K 209 k = I 209 k := fun k => f 209 k (by omega)
  exact ⟨RT_c (funext fun k => f 217 k (by omega)) (funext fun k => f 218 k (by omega)) h1, by rw [e, h2], by rw [e, h3], by rw [e, h4], by rw [e, h5], by rw [e, h6], by rw [e, h7], by rw [e, h8], fun s t z1 z2 => by rw [f 219 _ (by omega), h9 s t z1 z2], fun b hb => by rw [f 220 b (by omega), h10 b hb], n, h11, by rw [e, h12], fun k hk => by rw [f 221 k (by omega), h13 k hk]⟩
theorem cfr_r209 (f : cfr K I) : ∀ q k, 209 ≤ q → K q k = I q k := fun q k z => f q k (by omega) (Or.inl (by omega))
/-- one call on both sides -/
def stp (cm rm : Nat) (as : List Value) : Prop := ∀ d e L I J, Inv I J → RR (xcall xprog (d + 40) cm (.ref 0 :: as) (xst e L I J)) (zI e L fun x K J' => RR (xcall xprog (d + 40) rm (.ref 209 :: as) (xst e L K J')) (zI e L fun y M J'' => x = y ∧ Inv M J''))
theorem stp_same {cm rm : Nat} {as : List Value} (h : ∀ S N, WS S → same S N cm rm as) : stp cm rm as := by
  intro d e L I J hI
  obtain ⟨V, hc, hr⟩ := h (I 211) (nmN J) hI.1.1
  refine RR_wI (hc (d + 28) e L I J hI.1) (fun x K J' ⟨x1, j1, f1, hC⟩ => ?_)
  subst j1
  refine RR_wI (hr (d + 28) e L K J' (RS_cf (cfr_r209 f1) hI.2.1)) (fun y M J'' ⟨y1, j2, f2, hR⟩ => ?_)
  subst j2
  exact ⟨x1.trans y1.symm, Inv_q hI f1 hC f2 hR⟩
theorem s_ahead (x y : Int32) : stp 117 204 [.int x, .int y] := stp_same (fun S N hW => q_ahead hW x y)
theorem s_fork (x y : Int32) : stp 118 205 [.int x, .int y] := stp_same (fun S N hW => q_fork hW x y)
theorem s_weight (x y : Int32) : stp 119 206 [.int x, .int y] := stp_same (fun S N hW => q_weight hW x y)
theorem s_voter (x y : Int32) : stp 120 208 [.int x, .int y] := stp_same (fun S N hW => q_voter hW x y)
theorem s_vote (x y : Int32) : stp 121 209 [.int x, .int y] := stp_same (fun S N hW => q_vote hW x y)
theorem s_offends (x y z : Int32) : stp 127 225 [.int x, .int y, .int z] := stp_same (fun S N hW => q_offends hW x y z)
theorem s_evidence (x y : Int32) : stp 128 226 [.int x, .int y] := stp_same (fun S N hW => q_evidence hW x y)
theorem s_now (x : Int32) : stp 129 227 [.int x] := stp_same (fun S N hW => q_now hW x)
theorem s_chosen (x : Int32) : stp 130 228 [.int x] := stp_same (fun S N hW => q_chosen hW x)
theorem s_clash : stp 135 236 [] := stp_same (fun S N hW => q_clash hW)
theorem s_clashAt (x : Int32) : stp 136 237 [.int x] := stp_same (fun S N hW => q_clashAt hW x)
end INV
