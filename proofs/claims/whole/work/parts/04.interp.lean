/-! A small interpreter of the class files' own instructions over a store of numbered cells. What it answers, the machine answers (part 06). -/
abbrev xO : Type := Nat × Nat × List (Option Nat)
abbrev xG : Type := List xO × Nat × Nat
abbrev xS : Type := xG × (Nat → Nat → Int32) × (Nat → Nat → Int64)
abbrev xOut : Type := Option Value × xS
abbrev xK : Type := List Value → List Value → xS → Option xOut
abbrev xKB : Type := Nat → List Value → List Value → xS → Option xOut
abbrev xCF : Type := Nat → List Value → xS → Option xOut
abbrev xI : Type := Instr × Nat × Int32 × List Nat × List (Int32 × Nat)
abbrev xB : Type := List Bool × Nat × List xI
/-- a local that nobody reads -/
abbrev xD : Value := .float 0
/-- what a thrown exception is told by -/
abbrev xT : Value := .float 1
def xn {α : Type} : List α → Nat → Option α
  | [], _ => none
  | a :: _, 0 => some a
  | _ :: l, k + 1 => xn l k
def xu {α : Type} (f : Nat → Nat → α) (o k : Nat) (v : α) : Nat → Nat → α := fun a b => if a = o ∧ b = k then v else f a b
def xz {α : Type} (f : Nat → Nat → α) (o n : Nat) (v : α) : Nat → Nat → α := fun a b => if o ≤ a ∧ a < o + n then v else f a b
def xcp {α : Type} (f : Nat → Nat → α) (src dst sp dp n : Nat) : Nat → Nat → α := fun a b => if a = dst ∧ dp ≤ b ∧ b < dp + n then f src (sp + (b - dp)) else f a b
def xis (g : xG) (ci o : Nat) : Bool := match xn g.1 o with
  | some a => Nat.beq a.1 ci
  | none => false
def xlen (g : xG) (kd r : Nat) : Nat := match xn g.1 r with
  | some a => bif Nat.beq a.1 kd then a.2.1 else 0
  | none => bif Nat.beq kd 14 && Nat.beq r 1000000 then g.2.2 else 0
def xrf (g : xG) (o k : Nat) : Option Nat := match xn g.1 o with
  | some a => match xn a.2.2 k with
    | some r => r
    | none => none
  | none => none
def xsr (l : List xO) (o k q : Nat) : List xO := match xn l o with
  | some a => l.set o (a.1, a.2.1, a.2.2.set k (some q))
  | none => l
def xin (i : Int32) (n : Nat) : Bool := !(decide (i < 0)) && Nat.blt i.toNatClampNeg n
/-- the table of words that Tokens keeps -/
def xwl : List Nat := [0x65706F6368, 0x766F746572, 0x626C6F636B, 0x6F6E, 0x6368616E6765, 0x766F7465, 0x6C6F6F6B, 0x67726F77, 0x6F72, 0x616E64, 0x6E6F74, 0x6C656166, 0x706F696E74, 0x6A757374, 0x66696E616C, 0x63686F73656E, 0x756E646572, 0x686569676874, 0x6C6576656C, 0x68656674, 0x6E756D626572]
def xwd (j : Nat) : Int64 := match xn xwl j with
  | some w => Int64.ofNat w
  | none => 0
-- arrays
def xaI (σ : xS) (r : Nat) (i : Int32) (c : Int32 → Option xOut) : Option xOut := bif xin i (xlen σ.1 14 r) then c (σ.2.1 r i.toNatClampNeg) else none
def xaB (σ : xS) (r : Nat) (i : Int32) (c : Int32 → Option xOut) : Option xOut := bif xin i (xlen σ.1 13 r) || xin i (xlen σ.1 16 r) then c (σ.2.1 r i.toNatClampNeg) else none
def xaJ (σ : xS) (r : Nat) (i : Int32) (c : Int64 → Option xOut) : Option xOut := bif Nat.beq r 1000001 then (bif xin i 21 then c (xwd i.toNatClampNeg) else none) else bif xin i (xlen σ.1 15 r) then c (σ.2.2 r i.toNatClampNeg) else none
def xaR (σ : xS) (r : Nat) (i : Int32) (c : Nat → Option xOut) : Option xOut := bif xin i (xlen σ.1 17 r) || xin i (xlen σ.1 18 r) then (match xrf σ.1 r i.toNatClampNeg with | some q => c q | none => none) else none
def xsI (σ : xS) (r : Nat) (i v : Int32) (c : xS → Option xOut) : Option xOut := bif xis σ.1 14 r && xin i (xlen σ.1 14 r) then c (σ.1, xu σ.2.1 r i.toNatClampNeg v, σ.2.2) else none
def xsB (σ : xS) (r : Nat) (i v : Int32) (c : xS → Option xOut) : Option xOut := bif xis σ.1 13 r && xin i (xlen σ.1 13 r) then c (σ.1, xu σ.2.1 r i.toNatClampNeg v.toInt8.toInt32, σ.2.2) else bif xis σ.1 16 r && xin i (xlen σ.1 16 r) && (decide (v = 0) || decide (v = 1)) then c (σ.1, xu σ.2.1 r i.toNatClampNeg v, σ.2.2) else none
def xsJ (σ : xS) (r : Nat) (i : Int32) (v : Int64) (c : xS → Option xOut) : Option xOut := bif xis σ.1 15 r && xin i (xlen σ.1 15 r) then c (σ.1, σ.2.1, xu σ.2.2 r i.toNatClampNeg v) else none
def xsR (σ : xS) (r : Nat) (i : Int32) (q : Nat) (c : xS → Option xOut) : Option xOut := bif xis σ.1 17 r && xin i (xlen σ.1 17 r) && xis σ.1 8 q then c ((xsr σ.1.1 r i.toNatClampNeg q, σ.1.2), σ.2) else none
def xal (σ : xS) (r : Nat) (c : Int32 → Option xOut) : Option xOut := match xn σ.1.1 r with
  | some a => bif Nat.ble 13 a.1 then c (Int32.ofNat a.2.1) else none
  | none => bif Nat.beq r 1000000 then c (Int32.ofNat σ.1.2.2) else bif Nat.beq r 1000001 then c 21 else none
-- fields
def xgI (σ : xS) (ci o k : Nat) (c : Int32 → Option xOut) : Option xOut := bif xis σ.1 ci o then c (σ.2.1 o k) else none
def xgJ (σ : xS) (ci o k : Nat) (c : Int64 → Option xOut) : Option xOut := bif xis σ.1 ci o then c (σ.2.2 o k) else none
def xgR (σ : xS) (ci o k : Nat) (c : Nat → Option xOut) : Option xOut := bif xis σ.1 ci o then (match xrf σ.1 o k with | some q => c q | none => none) else none
def xpI (σ : xS) (ci o k : Nat) (v : Int32) (c : xS → Option xOut) : Option xOut := bif xis σ.1 ci o then c (σ.1, xu σ.2.1 o k v, σ.2.2) else none
def xpZ (σ : xS) (ci o k : Nat) (v : Int32) (c : xS → Option xOut) : Option xOut := bif xis σ.1 ci o && (decide (v = 0) || decide (v = 1)) then c (σ.1, xu σ.2.1 o k v, σ.2.2) else none
def xpJ (σ : xS) (ci o k : Nat) (v : Int64) (c : xS → Option xOut) : Option xOut := bif xis σ.1 ci o then c (σ.1, σ.2.1, xu σ.2.2 o k v) else none
def xpR (σ : xS) (ci o k q : Nat) (c : xS → Option xOut) : Option xOut := bif xis σ.1 ci o then c ((xsr σ.1.1 o k q, σ.1.2), σ.2) else none
-- makings
def xnw (σ : xS) (kd n : Nat) (rs : List (Option Nat)) (c : Nat → xS → Option xOut) : Option xOut := bif Nat.blt σ.1.1.length 900 then c σ.1.1.length ((σ.1.1 ++ [(kd, n, rs)], σ.1.2), xz σ.2.1 σ.1.1.length 1 0, xz σ.2.2 σ.1.1.length 1 0) else none
def xna (σ : xS) (kd : Nat) (i : Int32) (c : Nat → xS → Option xOut) : Option xOut := bif !(decide (i < 0)) && Nat.ble i.toNatClampNeg 65536 then xnw σ kd i.toNatClampNeg [] c else none
def xnq (σ : xS) (i : Int32) (c : Nat → xS → Option xOut) : Option xOut := bif !(decide (i < 0)) && Nat.ble i.toNatClampNeg 65536 then xnw σ 17 i.toNatClampNeg (List.replicate i.toNatClampNeg none) c else none
def xmn (σ : xS) (i j : Int32) (c : Nat → xS → Option xOut) : Option xOut := bif !(decide (i < 0)) && Nat.ble i.toNatClampNeg 64 && !(decide (j < 0)) && Nat.ble j.toNatClampNeg 64 && Nat.blt σ.1.1.length 900 then
    c σ.1.1.length ((σ.1.1 ++ (18, i.toNatClampNeg, (List.range i.toNatClampNeg).map (fun k => some (σ.1.1.length + 1 + k))) :: List.replicate i.toNatClampNeg (14, j.toNatClampNeg, []), σ.1.2), xz σ.2.1 σ.1.1.length (i.toNatClampNeg + 1) 0, xz σ.2.2 σ.1.1.length (i.toNatClampNeg + 1) 0) else none
def xkd : ArrayType → Nat
  | .boolean => 16
  | .byte => 13
  | .int => 14
  | .long => 15
  | _ => 99
-- calls
def xcV (r : Option xOut) (c : xS → Option xOut) : Option xOut := match r with
  | some (none, σ) => c σ
  | _ => none
def xcI (r : Option xOut) (c : Int32 → xS → Option xOut) : Option xOut := match r with
  | some (some (.int x), σ) => c x σ
  | _ => none
def xcJ (r : Option xOut) (c : Int64 → xS → Option xOut) : Option xOut := match r with
  | some (some (.long x), σ) => c x σ
  | _ => none
def xcR (r : Option xOut) (c : Nat → xS → Option xOut) : Option xOut := match r with
  | some (some (.ref x), σ) => c x σ
  | _ => none
def xcat : List Value → Nat
  | [] => 0
  | v :: l => v.category + xcat l
def xpop : Nat → List Value → List Value → (List Value → List Value → Option xOut) → Option xOut
  | 0, st, as, c => c as st
  | _ + 1, [], _, _ => none
  | n + 1, v :: st, as, c => xpop n st (v :: as) c
def xrcv (g : xG) (ci : Nat) (as : List Value) : Bool := match as with
  | .ref o :: _ => bif Nat.beq ci 100 then true else xis g ci o
  | _ => Nat.beq ci 100
def xret (rt : Nat) (r : Option xOut) (c : List Value → xS → Option xOut) : Option xOut := match rt with
  | 0 => xcV r (c [])
  | 1 => xcI r (fun x => c [.int x])
  | 2 => xcJ r (fun x => c [.long x])
  | _ => xcR r (fun x => c [.ref x])
def xcall1 (cf : xCF) (mid n rt ci : Nat) (ls st : List Value) (σ : xS) (k : xK) : Option xOut :=
  xpop n st [] (fun as rest => bif Nat.ble (xcat rest) 8 then (bif xrcv σ.1 ci as then xret rt (cf mid as σ) (fun vs => k ls (vs ++ rest)) else none) else none)
def xmm (mx : Bool) (ls st : List Value) (σ : xS) (k : xK) : Option xOut := match st with
  | .int y :: .int x :: rest => bif Nat.ble (xcat rest) 8 then k ls (.int (bif mx then (if x < y then y else x) else (if y < x then y else x)) :: rest) σ else none
  | _ => none
def xcq (σ : xS) (a : Nat) (sp : Int32) (b : Nat) (dp n : Int32) (c : xS → Option xOut) : Option xOut := bif !(decide (sp < 0)) && !(decide (dp < 0)) && !(decide (n < 0)) then
    (bif xis σ.1 14 a && xis σ.1 14 b && Nat.ble (sp.toNatClampNeg + n.toNatClampNeg) (xlen σ.1 14 a) && Nat.ble (dp.toNatClampNeg + n.toNatClampNeg) (xlen σ.1 14 b) then c (σ.1, xcp σ.2.1 a b sp.toNatClampNeg dp.toNatClampNeg n.toNatClampNeg, σ.2.2)
     else bif xis σ.1 15 a && xis σ.1 15 b && Nat.ble (sp.toNatClampNeg + n.toNatClampNeg) (xlen σ.1 15 a) && Nat.ble (dp.toNatClampNeg + n.toNatClampNeg) (xlen σ.1 15 b) then c (σ.1, σ.2.1, xcp σ.2.2 a b sp.toNatClampNeg dp.toNatClampNeg n.toNatClampNeg)
     else none) else none
def xcy (ls st : List Value) (σ : xS) (k : xK) : Option xOut := match st with
  | .int n :: .int dp :: .ref b :: .int sp :: .ref a :: rest => bif Nat.ble (xcat rest) 8 then xcq σ a sp b dp n (fun σ => k ls rest σ) else none
  | _ => none
def xob (ls st : List Value) (σ : xS) (k : xK) : Option xOut := match st with
  | .ref _ :: rest => bif Nat.ble (xcat rest) 8 then k ls rest σ else none
  | _ => none
def xinv (cf : xCF) (ops : List Nat) (ls st : List Value) (σ : xS) (k : xK) : Option xOut := match ops with
  | [0, mid, n, rt, ci] => xcall1 cf mid n rt ci ls st σ k
  | [1] => xob ls st σ k
  | [2] => xmm true ls st σ k
  | [3] => xmm false ls st σ k
  | [4] => xcy ls st σ k
  | _ => none
-- stack
def x2 (f : Int32 → Int32 → Int32) (ls st : List Value) (σ : xS) (k : xK) : Option xOut := match st with
  | .int b :: .int a :: r => k ls (.int (f a b) :: r) σ
  | _ => none
def x2d (f : Int32 → Int32 → Int32) (ls st : List Value) (σ : xS) (k : xK) : Option xOut := match st with
  | .int b :: .int a :: r => if b = 0 then none else k ls (.int (f a b) :: r) σ
  | _ => none
def x2l (f : Int64 → Int64 → Int64) (ls st : List Value) (σ : xS) (k : xK) : Option xOut := match st with
  | .long b :: .long a :: r => k ls (.long (f a b) :: r) σ
  | _ => none
def x2s (f : Int64 → Int32 → Int64) (ls st : List Value) (σ : xS) (k : xK) : Option xOut := match st with
  | .int b :: .long a :: r => k ls (.long (f a b) :: r) σ
  | _ => none
def xcm (ls st : List Value) (σ : xS) (k : xK) : Option xOut := match st with
  | .long b :: .long a :: r => k ls (.int (lg_cmp a b) :: r) σ
  | _ => none
def xil (ls st : List Value) (σ : xS) (k : xK) : Option xOut := match st with
  | .int a :: r => k ls (.long a.toInt64 :: r) σ
  | _ => none
def xli (ls st : List Value) (σ : xS) (k : xK) : Option xOut := match st with
  | .long a :: r => k ls (.int a.toInt32 :: r) σ
  | _ => none
def xib (ls st : List Value) (σ : xS) (k : xK) : Option xOut := match st with
  | .int a :: r => k ls (.int a.toInt8.toInt32 :: r) σ
  | _ => none
def xdp (ls st : List Value) (σ : xS) (k : xK) : Option xOut := match st with
  | v :: r => bif Nat.beq v.category 1 then k ls (v :: v :: r) σ else none
  | _ => none
def xpp (ls st : List Value) (σ : xS) (k : xK) : Option xOut := match st with
  | v :: r => bif Nat.beq v.category 1 then k ls r σ else none
  | _ => none
def xd2 (ls st : List Value) (σ : xS) (k : xK) : Option xOut := match st with
  | v :: w :: r => bif Nat.beq v.category 1 && Nat.beq w.category 1 then k ls (v :: w :: v :: w :: r) σ else none
  | _ => none
-- locals
def xldI (n : Nat) (ls st : List Value) (σ : xS) (k : xK) : Option xOut := match xn ls n with
  | some (.int x) => k ls (.int x :: st) σ
  | _ => none
def xldJ (n : Nat) (ls st : List Value) (σ : xS) (k : xK) : Option xOut := match xn ls n with
  | some (.long x) => k ls (.long x :: st) σ
  | _ => none
def xldR (n : Nat) (ls st : List Value) (σ : xS) (k : xK) : Option xOut := match xn ls n with
  | some (.ref x) => k ls (.ref x :: st) σ
  | _ => none
/-- a store at n breaks no long ahead of it -/
def xok (ls : List Value) (n : Nat) : Bool := match n with
  | 0 => true
  | m + 1 => match xn ls m with
    | some (.long _) => false
    | some (.double _) => false
    | _ => true
def xstI (n : Nat) (ls st : List Value) (σ : xS) (k : xK) : Option xOut := match st with
  | .int x :: r => bif Nat.blt n ls.length && xok ls n then k (ls.set n (.int x)) r σ else none
  | _ => none
def xstR (n : Nat) (ls st : List Value) (σ : xS) (k : xK) : Option xOut := match st with
  | .ref x :: r => bif Nat.blt n ls.length && xok ls n then k (ls.set n (.ref x)) r σ else none
  | _ => none
def xstJ (n : Nat) (ls st : List Value) (σ : xS) (k : xK) : Option xOut := match st with
  | .long x :: r => bif Nat.blt (n + 1) ls.length && xok ls n then k ((ls.set n (.long x)).set (n + 1) xD) r σ else none
  | _ => none
def xinc (n : Nat) (d : Int32) (ls st : List Value) (σ : xS) (k : xK) : Option xOut := match xn ls n with
  | some (.int x) => bif Nat.blt n ls.length && xok ls n then k (ls.set n (.int (x + d))) st σ else none
  | _ => none
-- heap instructions over the stack
def xldA (ls st : List Value) (σ : xS) (k : xK) : Option xOut := match st with
  | .int i :: .ref r :: q => xaI σ r i (fun x => k ls (.int x :: q) σ)
  | _ => none
def xldB (ls st : List Value) (σ : xS) (k : xK) : Option xOut := match st with
  | .int i :: .ref r :: q => xaB σ r i (fun x => k ls (.int x :: q) σ)
  | _ => none
def xldL (ls st : List Value) (σ : xS) (k : xK) : Option xOut := match st with
  | .int i :: .ref r :: q => xaJ σ r i (fun x => k ls (.long x :: q) σ)
  | _ => none
def xldQ (ls st : List Value) (σ : xS) (k : xK) : Option xOut := match st with
  | .int i :: .ref r :: q => xaR σ r i (fun x => k ls (.ref x :: q) σ)
  | _ => none
def xstA (ls st : List Value) (σ : xS) (k : xK) : Option xOut := match st with
  | .int v :: .int i :: .ref r :: q => xsI σ r i v (fun σ => k ls q σ)
  | _ => none
def xstB (ls st : List Value) (σ : xS) (k : xK) : Option xOut := match st with
  | .int v :: .int i :: .ref r :: q => xsB σ r i v (fun σ => k ls q σ)
  | _ => none
def xstL (ls st : List Value) (σ : xS) (k : xK) : Option xOut := match st with
  | .long v :: .int i :: .ref r :: q => xsJ σ r i v (fun σ => k ls q σ)
  | _ => none
def xstQ (ls st : List Value) (σ : xS) (k : xK) : Option xOut := match st with
  | .ref v :: .int i :: .ref r :: q => xsR σ r i v (fun σ => k ls q σ)
  | _ => none
def xalen (ls st : List Value) (σ : xS) (k : xK) : Option xOut := match st with
  | .ref r :: q => xal σ r (fun x => k ls (.int x :: q) σ)
  | _ => none
def xget (ops : List Nat) (ls st : List Value) (σ : xS) (k : xK) : Option xOut := match ops, st with
  | 0 :: ci :: f :: _, .ref o :: q => xgI σ ci o f (fun x => k ls (.int x :: q) σ)
  | 1 :: ci :: f :: _, .ref o :: q => xgI σ ci o f (fun x => k ls (.int x :: q) σ)
  | 2 :: ci :: f :: _, .ref o :: q => xgJ σ ci o f (fun x => k ls (.long x :: q) σ)
  | 3 :: ci :: f :: _, .ref o :: q => xgR σ ci o f (fun x => k ls (.ref x :: q) σ)
  | _, _ => none
def xput (ops : List Nat) (ls st : List Value) (σ : xS) (k : xK) : Option xOut := match ops, st with
  | 0 :: ci :: f :: _, .int v :: .ref o :: q => xpI σ ci o f v (fun σ => k ls q σ)
  | 1 :: ci :: f :: _, .int v :: .ref o :: q => xpZ σ ci o f v (fun σ => k ls q σ)
  | 2 :: ci :: f :: _, .long v :: .ref o :: q => xpJ σ ci o f v (fun σ => k ls q σ)
  | 3 :: ci :: f :: _, .ref v :: .ref o :: q => xpR σ ci o f v (fun σ => k ls q σ)
  | _, _ => none
def xnew (ops : List Nat) (ls st : List Value) (σ : xS) (k : xK) : Option xOut := match ops with
  | [0, ci, n] => xnw σ ci n (List.replicate n none) (fun q σ => k ls (.ref q :: st) σ)
  | [1] => bif Nat.ble (xcat st) 8 then some (some xT, ((σ.1.1, σ.1.2.1 + 1, σ.1.2.2), σ.2)) else none
  | _ => none
def xnewa (t : ArrayType) (ls st : List Value) (σ : xS) (k : xK) : Option xOut := match st with
  | .int i :: q => bif Nat.beq (xkd t) 99 then none else xna σ (xkd t) i (fun r σ => k ls (.ref r :: q) σ)
  | _ => none
def xnewq (ls st : List Value) (σ : xS) (k : xK) : Option xOut := match st with
  | .int i :: q => xnq σ i (fun r σ => k ls (.ref r :: q) σ)
  | _ => none
def xnewm (ls st : List Value) (σ : xS) (k : xK) : Option xOut := match st with
  | .int j :: .int i :: q => xmn σ i j (fun r σ => k ls (.ref r :: q) σ)
  | _ => none
def xldc (v : Int32) (ops : List Nat) (ls st : List Value) (σ : xS) (k : xK) : Option xOut := match ops with
  | [] => k ls (.int v :: st) σ
  | q :: _ => k ls (.ref q :: st) σ
def xld2 (ops : List Nat) (ls st : List Value) (σ : xS) (k : xK) : Option xOut := match ops with
  | w :: _ => k ls (.long (Int64.ofNat w) :: st) σ
  | _ => none
-- jumps
def xto (ops : List Nat) : Nat := match ops with
  | t :: _ => t
  | [] => 0
def xif (cd : Jvm.ClassFile.Cond) (t : Nat) (kb : xKB) (ls st : List Value) (σ : xS) (k : xK) : Option xOut := match st with
  | .int x :: r => match cd with
    | .eq => if x = 0 then kb t ls r σ else k ls r σ
    | .ne => if x = 0 then k ls r σ else kb t ls r σ
    | .lt => if x < 0 then kb t ls r σ else k ls r σ
    | .ge => if x < 0 then k ls r σ else kb t ls r σ
    | .gt => if x ≤ 0 then k ls r σ else kb t ls r σ
    | .le => if x ≤ 0 then kb t ls r σ else k ls r σ
  | _ => none
def xic (cd : Jvm.ClassFile.Cond) (t : Nat) (kb : xKB) (ls st : List Value) (σ : xS) (k : xK) : Option xOut := match st with
  | .int y :: .int x :: r => match cd with
    | .eq => if x = y then kb t ls r σ else k ls r σ
    | .ne => if x = y then k ls r σ else kb t ls r σ
    | .lt => if x < y then kb t ls r σ else k ls r σ
    | .ge => if x < y then k ls r σ else kb t ls r σ
    | .gt => if x ≤ y then k ls r σ else kb t ls r σ
    | .le => if x ≤ y then kb t ls r σ else k ls r σ
  | _ => none
def xsw (x : Int32) (tab : List (Int32 × Nat)) (d : Nat) (kb : xKB) (ls st : List Value) (σ : xS) : Option xOut := match tab with
  | [] => kb d ls st σ
  | a :: tab => if x = a.1 then kb a.2 ls st σ else xsw x tab d kb ls st σ
def xswt (tab : List (Int32 × Nat)) (d : Nat) (kb : xKB) (ls st : List Value) (σ : xS) : Option xOut := match st with
  | .int x :: r => xsw x tab d kb ls r σ
  | _ => none
-- returns
def xrZ (x : Int32) (σ : xS) : Option xOut := bif decide (x = 0) || decide (x = 1) then some (some (.int x), σ) else none
def xreI (z : List Nat) (st : List Value) (σ : xS) : Option xOut := match st with
  | [.int x] => match z with
    | [] => some (some (.int x), σ)
    | _ => xrZ x σ
  | _ => none
def xreJ (st : List Value) (σ : xS) : Option xOut := match st with
  | [.long x] => some (some (.long x), σ)
  | _ => none
def xreR (st : List Value) (σ : xS) : Option xOut := match st with
  | [.ref x] => some (some (.ref x), σ)
  | _ => none
def xreV (st : List Value) (σ : xS) : Option xOut := match st with
  | [] => some (none, σ)
  | _ => none
def xone (cf : xCF) (kb : xKB) (i : xI) (ls st : List Value) (σ : xS) (k : xK) : Option xOut := match i.1 with
  | .iconst _ => k ls (.int i.2.2.1 :: st) σ
  | .bipush _ => k ls (.int i.2.2.1 :: st) σ
  | .sipush _ => k ls (.int i.2.2.1 :: st) σ
  | .ldc _ => xldc i.2.2.1 i.2.2.2.1 ls st σ k
  | .ldc_w _ => xldc i.2.2.1 i.2.2.2.1 ls st σ k
  | .lconst _ => xld2 i.2.2.2.1 ls st σ k
  | .ldc2_w _ => xld2 i.2.2.2.1 ls st σ k
  | .iload n => xldI n ls st σ k
  | .iload_n n => xldI n.val ls st σ k
  | .lload n => xldJ n ls st σ k
  | .lload_n n => xldJ n.val ls st σ k
  | .aload n => xldR n ls st σ k
  | .aload_n n => xldR n.val ls st σ k
  | .istore n => xstI n ls st σ k
  | .istore_n n => xstI n.val ls st σ k
  | .lstore n => xstJ n ls st σ k
  | .lstore_n n => xstJ n.val ls st σ k
  | .astore n => xstR n ls st σ k
  | .astore_n n => xstR n.val ls st σ k
  | .iinc n _ => xinc n i.2.2.1 ls st σ k
  | .iadd => x2 (fun a b => a + b) ls st σ k
  | .isub => x2 (fun a b => a - b) ls st σ k
  | .imul => x2 (fun a b => a * b) ls st σ k
  | .iand => x2 (fun a b => a &&& b) ls st σ k
  | .ior => x2 (fun a b => a ||| b) ls st σ k
  | .ixor => x2 (fun a b => a ^^^ b) ls st σ k
  | .ishl => x2 (fun a b => a <<< (b &&& 31)) ls st σ k
  | .ishr => x2 (fun a b => a >>> (b &&& 31)) ls st σ k
  | .iushr => x2 (fun a b => (a.toUInt32 >>> (b.toUInt32 &&& Int32.toUInt32 31)).toInt32) ls st σ k
  | .idiv => x2d (fun a b => a / b) ls st σ k
  | .irem => x2d (fun a b => a - a / b * b) ls st σ k
  | .land => x2l (fun a b => a &&& b) ls st σ k
  | .lor => x2l (fun a b => a ||| b) ls st σ k
  | .lshl => x2s (fun a b => a <<< (b.toInt64 &&& 63)) ls st σ k
  | .lshr => x2s (fun a b => a >>> (b.toInt64 &&& 63)) ls st σ k
  | .lushr => x2s (fun a b => (a.toUInt64 >>> (b.toInt64.toUInt64 &&& Int64.toUInt64 63)).toInt64) ls st σ k
  | .lcmp => xcm ls st σ k
  | .i2l => xil ls st σ k
  | .l2i => xli ls st σ k
  | .i2b => xib ls st σ k
  | .dup => xdp ls st σ k
  | .pop => xpp ls st σ k
  | .dup2 => xd2 ls st σ k
  | .iaload => xldA ls st σ k
  | .baload => xldB ls st σ k
  | .laload => xldL ls st σ k
  | .aaload => xldQ ls st σ k
  | .iastore => xstA ls st σ k
  | .bastore => xstB ls st σ k
  | .lastore => xstL ls st σ k
  | .aastore => xstQ ls st σ k
  | .arraylength => xalen ls st σ k
  | .getfield _ => xget i.2.2.2.1 ls st σ k
  | .putfield _ => xput i.2.2.2.1 ls st σ k
  | .getstatic _ => k ls (.ref 1000001 :: st) σ
  | .new _ => xnew i.2.2.2.1 ls st σ k
  | .newarray t => xnewa t ls st σ k
  | .anewarray _ => xnewq ls st σ k
  | .multianewarray _ _ => xnewm ls st σ k
  | .invokestatic _ => xinv cf i.2.2.2.1 ls st σ k
  | .invokespecial _ => xinv cf i.2.2.2.1 ls st σ k
  | .invokevirtual _ => xinv cf i.2.2.2.1 ls st σ k
  | .goto _ => kb (xto i.2.2.2.1) ls st σ
  | .ifCond cd _ => xif cd (xto i.2.2.2.1) kb ls st σ k
  | .if_icmp cd _ => xic cd (xto i.2.2.2.1) kb ls st σ k
  | .tableswitch _ _ _ _ => xswt i.2.2.2.2 (xto i.2.2.2.1) kb ls st σ
  | .lookupswitch _ _ => xswt i.2.2.2.2 (xto i.2.2.2.1) kb ls st σ
  | .ireturn => xreI i.2.2.2.1 st σ
  | .lreturn => xreJ st σ
  | .areturn => xreR st σ
  | .return_ => xreV st σ
  | _ => none
def xexec (cf : xCF) (kb : xKB) (nx : Nat) : List xI → xK
  | [], ls, st, σ => kb nx ls st σ
  | i :: is, ls, st, σ => xone cf kb i ls st σ (xexec cf kb nx is)
def xmask : List Bool → List Value → List Value
  | b :: bs, v :: vs => (bif b then v else xD) :: xmask bs vs
  | _, vs => vs
def xmk (M : List xB) (b : Nat) : List Bool := match xn M b with
  | some B => B.1
  | none => []
def xbody (cf : xCF) (M : List xB) (R : xKB) (b : Nat) (ls st : List Value) (σ : xS) : Option xOut := match xn M b with
  | some B => xexec cf (fun b' ls' => R b' (xmask (xmk M b') ls')) B.2.1 B.2.2 ls st σ
  | none => none
def xloop (cf : xCF) (M : List xB) : Nat → xKB
  | 0 => fun _ _ _ _ => none
  | n + 1 => xbody cf M (xloop cf M n)
