/-! A sentence said of all blocks: stacks of sets, and stacks of truths. -/
/-- truth j of those that lie ready behind i codes, of block b -/
noncomputable def ev (S : TS) : Nat → Nat → Nat → Bool
  | 0, _, _ => false
  | i + 1, j, b => if cw S i = 20 then (if j + 1 = dep S i then !ev S i j b else ev S i j b) else if cw S i = 21 then (if j + 2 = dep S i then (ev S i j b && ev S i (j + 1) b) else ev S i j b) else if cw S i = 22 then (if j + 2 = dep S i then (ev S i j b || ev S i (j + 1) b) else ev S i j b) else (if j = dep S i then decide (lfV S i b = 1) else ev S i j b)
section SAY
variable {d e L : Nat} {S S' X Y : TS} {N N' : Nat → Int64} {I K M : TI} {J J' J2 : TJ} {a b c s t u v k i n r m o q w j : Nat}
theorem ev_20 (q : cw S i = 20) : ev S (i + 1) j b = if j + 1 = dep S i then !ev S i j b else ev S i j b := if_pos q
theorem ev_21 (q : cw S i = 21) : ev S (i + 1) j b = if j + 2 = dep S i then (ev S i j b && ev S i (j + 1) b) else ev S i j b := (if_neg (by omega)).trans (if_pos q)
theorem ev_22 (q : cw S i = 22) : ev S (i + 1) j b = if j + 2 = dep S i then (ev S i j b || ev S i (j + 1) b) else ev S i j b := (if_neg (by omega)).trans ((if_neg (by omega)).trans (if_pos q))
theorem ev_l (q : cw S i < 10) : ev S (i + 1) j b = if j = dep S i then decide (lfV S i b = 1) else ev S i j b := (if_neg (by omega)).trans ((if_neg (by omega)).trans (if_neg (by omega)))
theorem dep_20 (q : cw S i = 20) : dep S (i + 1) = dep S i := if_pos q
theorem dep_2x (q : cw S i = 21 ∨ cw S i = 22) : dep S (i + 1) = dep S i - 1 := (if_neg (by omega)).trans (if_pos q)
theorem dep_l (q : cw S i < 10) : dep S (i + 1) = dep S i + 1 := (if_neg (by omega)).trans (if_neg (by omega))
theorem dep_le : dep S i ≤ i := by
  induction i with
  | zero => exact Nat.le_refl _
  | succ i ih =>
    have h : dep S (i + 1) = if cw S i = 20 then dep S i else if cw S i = 21 ∨ cw S i = 22 then dep S i - 1 else dep S i + 1 := rfl
    rw [h]
    split
    · omega
    · split <;> omega
theorem gr46 {c : Nat → Option xOut} : xgR (xst e L I J) 7 42 5 c = c 46 := rfl
theorem gr228 {c : Nat → Option xOut} : xgR (xst e L I J) 12 209 54 c = c 228 := rfl
theorem gr211 {c : Nat → Option xOut} : xgR (xst e L I J) 12 209 6 c = c 211 := rfl
def rAnd : List xI := [(.aload_n 0, 1, 0, [], []), (.getfield 28, 3, 0, [3, 7, 5], [(0, 1257)]), (.iload 4, 2, 0, [], []), (.iconst 1, 1, 1, [], []), (.isub, 1, 0, [], []), (.dup2, 1, 0, [], []), (.iaload, 1, 0, [], []), (.aload_n 0, 1, 0, [], []), (.getfield 28, 3, 0, [3, 7, 5], [(0, 1257)]), (.iload 4, 2, 0, [], []), (.iaload, 1, 0, [], []), (.iand, 1, 0, [], []), (.iastore, 1, 0, [], []), (.goto 66, 3, 0, [5], [])]
def rOr : List xI := [(.aload_n 0, 1, 0, [], []), (.getfield 28, 3, 0, [3, 7, 5], [(0, 1257)]), (.iload 4, 2, 0, [], []), (.iconst 1, 1, 1, [], []), (.isub, 1, 0, [], []), (.dup2, 1, 0, [], []), (.iaload, 1, 0, [], []), (.aload_n 0, 1, 0, [], []), (.getfield 28, 3, 0, [3, 7, 5], [(0, 1257)]), (.iload 4, 2, 0, [], []), (.iaload, 1, 0, [], []), (.ior, 1, 0, [], []), (.iastore, 1, 0, [], []), (.goto 28, 3, 0, [5], [])]
def rSay : List xI := [(.aload_n 0, 1, 0, [], []), (.getfield 92, 3, 0, [3, 12, 54], [(0, 6275)]), (.iload_n 2, 1, 0, [], []), (.iconst 1, 1, 1, [], []), (.isub, 1, 0, [], []), (.aload_n 0, 1, 0, [], []), (.getfield 33, 3, 0, [3, 12, 6], [(0, 6227)]), (.iload 4, 2, 0, [], []), (.iaload, 1, 0, [], []), (.bipush 21, 2, 21, [], []), (.if_icmp .ne 31, 3, 0, [7], []), (.aload_n 0, 1, 0, [], []), (.getfield 92, 3, 0, [3, 12, 54], [(0, 6275)]), (.iload_n 2, 1, 0, [], []), (.iconst 1, 1, 1, [], []), (.isub, 1, 0, [], []), (.baload, 1, 0, [], []), (.ifCond .eq 16, 3, 0, [6], []), (.aload_n 0, 1, 0, [], []), (.getfield 92, 3, 0, [3, 12, 54], [(0, 6275)]), (.iload_n 2, 1, 0, [], []), (.baload, 1, 0, [], []), (.ifCond .eq 7, 3, 0, [6], []), (.iconst 1, 1, 1, [], []), (.goto 32, 3, 0, [10], [])]
theorem xexec_7 (cf : xCF) (kb : xKB) (nx : Nat) (a1 a2 a3 a4 a5 a6 a7 : xI) (R : List xI) (ls st : List Value) (σ : xS) : xexec cf kb nx (a1 :: a2 :: a3 :: a4 :: a5 :: a6 :: a7 :: R) ls st σ = xone cf kb a1 ls st σ (fun ls st σ => xone cf kb a2 ls st σ (fun ls st σ => xone cf kb a3 ls st σ (fun ls st σ => xone cf kb a4 ls st σ (fun ls st σ => xone cf kb a5 ls st σ (fun ls st σ => xone cf kb a6 ls st σ (fun ls st σ => xone cf kb a7 ls st σ (xexec cf kb nx R))))))) := rfl
theorem xexec_1 (cf : xCF) (kb : xKB) (nx : Nat) (a1 : xI) (R : List xI) (ls st : List Value) (σ : xS) : xexec cf kb nx (a1 :: R) ls st σ = xone cf kb a1 ls st σ (xexec cf kb nx R) := rfl
theorem hX7_blocksSaid_2 (cf : xCF) (v3 v5 v6 w : Int32) : xexec cf (fun b' ls' => xlim cf mX7_blocksSaid b' (xmask (xmk mX7_blocksSaid b') ls')) 0 rAnd [.ref 42, .ref 7, .ref 47, .int v3, .int w, .int v5, .int v6] [] (xst e L I J) = xaI (xst e L I J) 46 (w - 1) (fun x => xaI (xst e L I J) 46 w (fun y => xsI (xst e L I J) 46 (w - 1) (x &&& y) (fun σ => xlim cf mX7_blocksSaid 5 [.ref 42, .ref 7, .ref 47, .int v3, .int w, .int v5, xD] [] σ))) := rfl
theorem hX7_blocksSaid_3 (cf : xCF) (v3 v5 v6 w : Int32) : xexec cf (fun b' ls' => xlim cf mX7_blocksSaid b' (xmask (xmk mX7_blocksSaid b') ls')) 0 rOr [.ref 42, .ref 7, .ref 47, .int v3, .int w, .int v5, .int v6] [] (xst e L I J) = xaI (xst e L I J) 46 (w - 1) (fun x => xaI (xst e L I J) 46 w (fun y => xsI (xst e L I J) 46 (w - 1) (x ||| y) (fun σ => xlim cf mX7_blocksSaid 5 [.ref 42, .ref 7, .ref 47, .int v3, .int w, .int v5, xD] [] σ))) := rfl
theorem hX12_isSaid_5 (cf : xCF) (v1 v3 v4 w : Int32) : xexec cf (fun b' ls' => xlim cf mX12_isSaid b' (xmask (xmk mX12_isSaid b') ls')) 0 rSay [.ref 209, .int v1, .int w, .int v3, .int v4] [] (xst e L I J) = xaI (xst e L I J) 211 v4 (fun x => if x = 21 then xaB (xst e L I J) 228 (w - 1) (fun y => if y = 0 then xlim cf mX12_isSaid 6 [.ref 209, .int v1, .int w, .int v3, xD] [.int (w - 1), .ref 228] (xst e L I J) else xaB (xst e L I J) 228 w (fun z => if z = 0 then xlim cf mX12_isSaid 6 [.ref 209, .int v1, .int w, .int v3, xD] [.int (w - 1), .ref 228] (xst e L I J) else xlim cf mX12_isSaid 10 [.ref 209, .int v1, .int w, .int v3, xD] [.int 1, .int (w - 1), .ref 228] (xst e L I J))) else xlim cf mX12_isSaid 7 [.ref 209, .int v1, .int w, .int v3, xD] [.int (w - 1), .ref 228] (xst e L I J)) := rfl
theorem xlim_1 {cf : xCF} {M : List xB} {b nx : Nat} {mk : List Bool} {a1 : xI} {R : List xI} {ls st : List Value} {σ : xS} (h : xn M b = some (mk, nx, a1 :: R)) : xlim cf M b ls st σ = xone cf (fun b' ls' => xlim cf M b' (xmask (xmk M b') ls')) a1 ls st σ (xexec cf (fun b' ls' => xlim cf M b' (xmask (xmk M b') ls')) nx R) := by
  rw [xlim_eq]
  unfold xbody
  rw [h]
  rfl
theorem nSay : xn mX12_isSaid 5 = some ([true, true, true, true, true], 0, (.iinc 2 (-1), 3, (-1), [], []) :: rSay) := rfl
theorem inc_2 {a1 a2 a3 a4 a5 : Value} {x d : Int32} {st : List Value} {σ : xS} {K : xK} (h : a3 = .int x) (ho : xok [a1, a2, a3, a4, a5] 2 = true) : xinc 2 d [a1, a2, a3, a4, a5] st σ K = K [a1, a2, .int (x + d), a4, a5] st σ := by
  unfold xinc
  subst h
  show (bif true && xok _ _ then _ else none) = _
  rw [ho]
  rfl
theorem t1 : ((.iinc 2 (-1), 3, (-1), [], []) : xI).2.2.1 = (-1 : Int32) := rfl
theorem t2 {cf : xCF} {kb : xKB} {n : Nat} {d : Int32} {z : Int} {u : Nat} {ls st : List Value} {σ : xS} {K : xK} : xone cf kb (.iinc n z, u, d, [], []) ls st σ K = xinc n d ls st σ K := rfl
theorem t3 {v1 v2 v3 v4 : Int32} : xok [.ref 209, .int v1, .int v2, .int v3, .int v4] 2 = true := rfl
theorem iX12_isSaid_5 (cf : xCF) (v1 v2 v3 v4 : Int32) : xlim cf mX12_isSaid 5 [.ref 209, .int v1, .int v2, .int v3, .int v4] [] (xst e L I J) = xexec cf (fun b' ls' => xlim cf mX12_isSaid b' (xmask (xmk mX12_isSaid b') ls')) 0 rSay [.ref 209, .int v1, .int (v2 + (-1)), .int v3, .int v4] [] (xst e L I J) := by
  rw [xlim_1 nSay, t2, inc_2 rfl t3]
theorem bX12_isSaid_5 (cf : xCF) (v1 v2 v3 v4 : Int32) : xlim cf mX12_isSaid 5 [.ref 209, .int v1, .int v2, .int v3, .int v4] [] (xst e L I J) = xaI (xst e L I J) 211 v4 (fun x => if x = 21 then xaB (xst e L I J) 228 ((v2 + (-1)) - 1) (fun y => if y = 0 then xlim cf mX12_isSaid 6 [.ref 209, .int v1, .int (v2 + (-1)), .int v3, xD] [.int ((v2 + (-1)) - 1), .ref 228] (xst e L I J) else xaB (xst e L I J) 228 (v2 + (-1)) (fun z => if z = 0 then xlim cf mX12_isSaid 6 [.ref 209, .int v1, .int (v2 + (-1)), .int v3, xD] [.int ((v2 + (-1)) - 1), .ref 228] (xst e L I J) else xlim cf mX12_isSaid 10 [.ref 209, .int v1, .int (v2 + (-1)), .int v3, xD] [.int 1, .int ((v2 + (-1)) - 1), .ref 228] (xst e L I J))) else xlim cf mX12_isSaid 7 [.ref 209, .int v1, .int (v2 + (-1)), .int v3, xD] [.int ((v2 + (-1)) - 1), .ref 228] (xst e L I J)) := by rw [iX12_isSaid_5, hX12_isSaid_5]
theorem xlim_6 {cf : xCF} {M : List xB} {b nx : Nat} {mk : List Bool} {a1 a2 a3 a4 a5 a6 : xI} {R : List xI} {ls st : List Value} {σ : xS} (h : xn M b = some (mk, nx, a1 :: a2 :: a3 :: a4 :: a5 :: a6 :: R)) : xlim cf M b ls st σ = xone cf (fun b' ls' => xlim cf M b' (xmask (xmk M b') ls')) a1 ls st σ (fun ls st σ => xone cf (fun b' ls' => xlim cf M b' (xmask (xmk M b') ls')) a2 ls st σ (fun ls st σ => xone cf (fun b' ls' => xlim cf M b' (xmask (xmk M b') ls')) a3 ls st σ (fun ls st σ => xone cf (fun b' ls' => xlim cf M b' (xmask (xmk M b') ls')) a4 ls st σ (fun ls st σ => xone cf (fun b' ls' => xlim cf M b' (xmask (xmk M b') ls')) a5 ls st σ (fun ls st σ => xone cf (fun b' ls' => xlim cf M b' (xmask (xmk M b') ls')) a6 ls st σ (xexec cf (fun b' ls' => xlim cf M b' (xmask (xmk M b') ls')) nx R)))))) := by
  rw [xlim_1 h]
  rfl
theorem inc_4 {a1 a2 a3 a4 a5 a6 a7 : Value} {x d : Int32} {st : List Value} {σ : xS} {K : xK} (h : a5 = .int x) (ho : xok [a1, a2, a3, a4, a5, a6, a7] 4 = true) : xinc 4 d [a1, a2, a3, a4, a5, a6, a7] st σ K = K [a1, a2, a3, a4, .int (x + d), a6, a7] st σ := by
  unfold xinc
  subst h
  show (bif true && xok _ _ then _ else none) = _
  rw [ho]
  rfl
theorem t4 {v3 v4 v5 v6 : Int32} : xok [.ref 42, .ref 7, .ref 47, .int v3, .int v4, .int v5, .int v6] 4 = true := rfl
theorem nrAnd : xn mX7_blocksSaid 2 = some ([true, true, true, true, true, true, true], 0, (.iload 6, 2, 0, [], []) :: (.bipush 73, 2, 73, [], []) :: (.if_icmp .ne 34, 3, 0, [3], []) :: (.iload 4, 2, 0, [], []) :: (.iconst 2, 1, 2, [], []) :: (.if_icmp .lt 28, 3, 0, [3], []) :: (.iinc 4 (-1), 3, (-1), [], []) :: rAnd) := rfl
theorem iX7_blocksSaid_2 (cf : xCF) (v3 v4 v5 v6 : Int32) : xlim cf mX7_blocksSaid 2 [.ref 42, .ref 7, .ref 47, .int v3, .int v4, .int v5, .int v6] [] (xst e L I J) = (if v6 = 73 then (if v4 < 2 then xlim cf mX7_blocksSaid 3 [.ref 42, .ref 7, .ref 47, .int v3, .int v4, .int v5, .int v6] [] (xst e L I J) else xexec cf (fun b' ls' => xlim cf mX7_blocksSaid b' (xmask (xmk mX7_blocksSaid b') ls')) 0 ((.iinc 4 (-1), 3, (-1), [], []) :: rAnd) [.ref 42, .ref 7, .ref 47, .int v3, .int v4, .int v5, .int v6] [] (xst e L I J)) else xlim cf mX7_blocksSaid 3 [.ref 42, .ref 7, .ref 47, .int v3, .int v4, .int v5, .int v6] [] (xst e L I J)) := by
  rw [xlim_6 nrAnd]
  generalize xexec cf (fun b' ls' => xlim cf mX7_blocksSaid b' (xmask (xmk mX7_blocksSaid b') ls')) 0 ((.iinc 4 (-1), 3, (-1), [], []) :: rAnd) = K
  rfl
theorem bX7_blocksSaid_2 (cf : xCF) (v3 v4 v5 v6 : Int32) : xlim cf mX7_blocksSaid 2 [.ref 42, .ref 7, .ref 47, .int v3, .int v4, .int v5, .int v6] [] (xst e L I J) = (if v6 = 73 then (if v4 < 2 then xlim cf mX7_blocksSaid 3 [.ref 42, .ref 7, .ref 47, .int v3, .int v4, .int v5, .int v6] [] (xst e L I J) else xaI (xst e L I J) 46 ((v4 + (-1)) - 1) (fun x => xaI (xst e L I J) 46 (v4 + (-1)) (fun y => xsI (xst e L I J) 46 ((v4 + (-1)) - 1) (x &&& y) (fun σ => xlim cf mX7_blocksSaid 5 [.ref 42, .ref 7, .ref 47, .int v3, .int (v4 + (-1)), .int v5, xD] [] σ)))) else xlim cf mX7_blocksSaid 3 [.ref 42, .ref 7, .ref 47, .int v3, .int v4, .int v5, .int v6] [] (xst e L I J)) := by
  rw [iX7_blocksSaid_2, xexec_1, t2, inc_4 rfl t4, hX7_blocksSaid_2]
theorem nrOr : xn mX7_blocksSaid 3 = some ([true, true, true, true, true, true, true], 0, (.iload 6, 2, 0, [], []) :: (.bipush 72, 2, 72, [], []) :: (.if_icmp .ne 34, 3, 0, [4], []) :: (.iload 4, 2, 0, [], []) :: (.iconst 2, 1, 2, [], []) :: (.if_icmp .lt 28, 3, 0, [4], []) :: (.iinc 4 (-1), 3, (-1), [], []) :: rOr) := rfl
theorem iX7_blocksSaid_3 (cf : xCF) (v3 v4 v5 v6 : Int32) : xlim cf mX7_blocksSaid 3 [.ref 42, .ref 7, .ref 47, .int v3, .int v4, .int v5, .int v6] [] (xst e L I J) = (if v6 = 72 then (if v4 < 2 then xlim cf mX7_blocksSaid 4 [.ref 42, .ref 7, .ref 47, .int v3, .int v4, .int v5, xD] [] (xst e L I J) else xexec cf (fun b' ls' => xlim cf mX7_blocksSaid b' (xmask (xmk mX7_blocksSaid b') ls')) 0 ((.iinc 4 (-1), 3, (-1), [], []) :: rOr) [.ref 42, .ref 7, .ref 47, .int v3, .int v4, .int v5, .int v6] [] (xst e L I J)) else xlim cf mX7_blocksSaid 4 [.ref 42, .ref 7, .ref 47, .int v3, .int v4, .int v5, xD] [] (xst e L I J)) := by
  rw [xlim_6 nrOr]
  generalize xexec cf (fun b' ls' => xlim cf mX7_blocksSaid b' (xmask (xmk mX7_blocksSaid b') ls')) 0 ((.iinc 4 (-1), 3, (-1), [], []) :: rOr) = K
  rfl
theorem bX7_blocksSaid_3 (cf : xCF) (v3 v4 v5 v6 : Int32) : xlim cf mX7_blocksSaid 3 [.ref 42, .ref 7, .ref 47, .int v3, .int v4, .int v5, .int v6] [] (xst e L I J) = (if v6 = 72 then (if v4 < 2 then xlim cf mX7_blocksSaid 4 [.ref 42, .ref 7, .ref 47, .int v3, .int v4, .int v5, xD] [] (xst e L I J) else xaI (xst e L I J) 46 ((v4 + (-1)) - 1) (fun x => xaI (xst e L I J) 46 (v4 + (-1)) (fun y => xsI (xst e L I J) 46 ((v4 + (-1)) - 1) (x ||| y) (fun σ => xlim cf mX7_blocksSaid 5 [.ref 42, .ref 7, .ref 47, .int v3, .int (v4 + (-1)), .int v5, xD] [] σ)))) else xlim cf mX7_blocksSaid 4 [.ref 42, .ref 7, .ref 47, .int v3, .int v4, .int v5, xD] [] (xst e L I J)) := by
  rw [iX7_blocksSaid_3, xexec_1, t2, inc_4 rfl t4, hX7_blocksSaid_3]
end SAY
