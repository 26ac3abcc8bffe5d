/-! THE MODEL of one world: A j i k (0 registers, 1 cells, 2 a domain's numbers 4 place 5 state 6 fails 7 steps 8 ticks, 3 a channel's numbers 3 sent 4 lost 6 writes 7 written at, 4 what a board shows, 5 the clock 1 time 2 schedule 3 number 4 left 5 asked 6 given), B (0 inputs, 1 outputs), C (0 to take, 1 waiting) -/
abbrev mW : Type := (Nat → Nat → Nat → Int32) × (Nat → Nat → List Int32) × (Nat → Nat → List (List Int32))
/-- domains, channels, flows, links (0 from 1 to 2 board 3 size), programs, what a fail does, slots of a schedule (domain, ticks) -/
abbrev mP : Type := Nat × Nat × (Nat → Nat → Bool) × (Nat → Nat → Int32) × (Nat → List Int32) × (Nat → Int32) × (Nat → List (Nat × Nat))
def pfl (π : mP) : Nat → Nat → Bool := π.2.2.1
def plk (π : mP) : Nat → Nat → Int32 := π.2.2.2.1
def ppr (π : mP) : Nat → List Int32 := π.2.2.2.2.1
def pwy (π : mP) : Nat → Int32 := π.2.2.2.2.2.1
def psl (π : mP) : Nat → List (Nat × Nat) := π.2.2.2.2.2.2
def mA (W : mW) (j i k : Nat) (v : Int32) : mW := (fun j' i' k' => if j' = j ∧ i' = i ∧ k' = k then v else W.1 j' i' k', W.2)
def mAr (W : mW) (j i : Nat) (f : Nat → Int32) : mW := (fun j' i' k' => if j' = j ∧ i' = i then f k' else W.1 j' i' k', W.2)
def mB (W : mW) (j i : Nat) (l : List Int32) : mW := (W.1, fun j' i' => if j' = j ∧ i' = i then l else W.2.1 j' i', W.2.2)
def mC (W : mW) (j i : Nat) (l : List (List Int32)) : mW := (W.1, W.2.1, fun j' i' => if j' = j ∧ i' = i then l else W.2.2 j' i')
def xop (x : Int32) : Nat := x.toBitVec.toNat % 256
def xa (x : Int32) : Nat := x.toBitVec.toNat / 256 % 256
def xb (x : Int32) : Nat := x.toBitVec.toNat / 65536 % 256
def xc (x : Int32) : Nat := x.toBitVec.toNat / 16777216
/-- n cells from x on are cells -/
abbrev mcl (x : Int32) (n : Nat) : Prop := ¬ x < 0 ∧ x.toNatClampNeg + n ≤ 32
/-- channel a is there, a board or not, and d's by its end e -/
abbrev mch (π : mP) (a : Nat) (bd : Int32) (d e : Nat) : Prop := a < π.2.1 ∧ plk π a 2 = bd ∧ plk π a e = nI d
def mrow (W : mW) (d f n : Nat) : List Int32 := (List.range n).map (fun j => W.1 1 d (f + j))
def mput (W : mW) (d f : Nat) (l : List Int32) : mW := mAr W 1 d (fun k => if f ≤ k ∧ k < f + l.length then l.getD (k - f) 0 else W.1 1 d k)
abbrev mrg (π : mP) (d : Nat) : Prop := ∀ k, k < π.1 → pfl π d k = true
def mnx (W : mW) (d : Nat) : mW := mA W 2 d 4 (W.1 2 d 4 + 1)
def mset (W : mW) (d r : Nat) (v : Int32) : mW := mnx (mA W 0 d r v) d
def mage (W : mW) (c : Nat) : Int32 := if W.1 3 c 6 = 0 then -1 else W.1 5 0 1 - W.1 3 c 7
section MODEL
/-- instructions that name a channel -/
def mchan (π : mP) (W : mW) (d : Nat) (x y z : Int32) : Option mW :=
  if xop x = 14 then
    (if mch π (xa x) 0 d 0 then
      (if ¬ z < 1 ∧ ¬ 4 < z ∧ mcl y z.toNatClampNeg then
        (if W.1 3 (xa x) 3 = plk π (xa x) 3 then some (mset W d 7 0)
         else some (mset (mC (mA W 3 (xa x) 3 (W.1 3 (xa x) 3 + 1)) 1 (xa x) (W.2.2 1 (xa x) ++ [mrow W d y.toNatClampNeg z.toNatClampNeg])) d 7 1))
       else none)
     else none)
  else if xop x = 15 then
    (if mch π (xa x) 0 d 1 then
      (match W.2.2 0 (xa x) with
       | [] => some (mset W d 7 (-1))
       | m :: t => if mcl y m.length then some (mset (mC (mput W d y.toNatClampNeg m) 0 (xa x) t) d 7 (nI m.length)) else none)
     else none)
  else if xop x = 16 then
    (if mch π (xa x) 1 d 0 ∧ mcl y (plk π (xa x) 3).toNatClampNeg then
      some (mnx (mA (mA (mAr W 4 (xa x) (fun k => if k < (plk π (xa x) 3).toNatClampNeg then W.1 1 d (y.toNatClampNeg + k) else W.1 4 (xa x) k)) 3 (xa x) 6 (W.1 3 (xa x) 6 + 1)) 3 (xa x) 7 (W.1 5 0 1)) d)
     else none)
  else if xop x = 17 then
    (if mch π (xa x) 1 d 1 ∧ mcl y (plk π (xa x) 3).toNatClampNeg then
      some (mset (mput W d y.toNatClampNeg ((List.range (plk π (xa x) 3).toNatClampNeg).map (fun k => W.1 4 (xa x) k))) d 7 (mage W (xa x)))
     else none)
  else none
/-- an instruction; none: it fails -/
def mop (π : mP) (W : mW) (d : Nat) (x : Int32) : Option mW :=
  if xop x = 0 then some (mA W 2 d 5 1)
  else if xop x = 1 then some (mset W d (xa x % 8) (x >>> ((16 : Int32) &&& 31)))
  else if xop x = 2 then some (mset W d (xa x % 8) (W.1 0 d (xb x % 8)))
  else if xop x = 3 then some (mset W d (xa x % 8) (W.1 0 d (xb x % 8) + W.1 0 d (xc x % 8)))
  else if xop x = 4 then some (mset W d (xa x % 8) (W.1 0 d (xb x % 8) - W.1 0 d (xc x % 8)))
  else if xop x = 5 then some (mset W d (xa x % 8) (W.1 0 d (xb x % 8) * W.1 0 d (xc x % 8)))
  else if xop x = 6 then some (mset W d (xa x % 8) (W.1 0 d (xb x % 8) &&& W.1 0 d (xc x % 8)))
  else if xop x = 7 then some (mset W d (xa x % 8) (W.1 0 d (xb x % 8) ^^^ W.1 0 d (xc x % 8)))
  else if xop x = 8 then some (mset W d (xa x % 8) (if W.1 0 d (xb x % 8) < W.1 0 d (xc x % 8) then 1 else 0))
  else if xop x = 9 then some (mA W 2 d 4 (nI (xb x)))
  else if xop x = 10 then some (if W.1 0 d (xa x % 8) = 0 then mA W 2 d 4 (nI (xb x)) else mnx W d)
  else if xop x = 11 then some (if W.1 0 d (xa x % 8) = 0 then mnx W d else mA W 2 d 4 (nI (xb x)))
  else if xop x = 12 then (if mcl (W.1 0 d (xb x % 8)) 1 then some (mset W d (xa x % 8) (W.1 1 d (W.1 0 d (xb x % 8)).toNatClampNeg)) else none)
  else if xop x = 13 then (if mcl (W.1 0 d (xb x % 8)) 1 then some (mnx (mA W 1 d (W.1 0 d (xb x % 8)).toNatClampNeg (W.1 0 d (xa x % 8))) d) else none)
  else if xop x = 18 then (if (W.2.1 1 d).length = 200 then none else some (mnx (mB W 1 d (W.2.1 1 d ++ [W.1 0 d (xa x % 8)])) d))
  else if xop x = 19 then (match W.2.1 0 d with
    | [] => some (mset W d 7 0)
    | v :: t => some (mset (mB (mA W 0 d (xa x % 8) v) 0 d t) d 7 1))
  else if xop x = 20 then some (mset W d (xa x % 8) (W.1 5 0 1))
  else if xop x = 21 then some (mnx (mA W 5 0 6 1) d)
  else if xop x = 22 then (if xb x < π.1 ∧ pfl π (xb x) d = true ∧ mcl (W.1 0 d (xc x % 8)) 1 then some (mset W d (xa x % 8) (W.1 1 (xb x) (W.1 0 d (xc x % 8)).toNatClampNeg)) else none)
  else if xop x = 23 then (if xa x < 3 ∧ mrg π d then some (mnx (mA W 5 0 5 (nI (xa x))) d) else none)
  else if xop x = 24 then some (mset W d (xa x % 8) (W.1 5 0 4))
  else mchan π W d x (W.1 0 d (xb x % 8)) (W.1 0 d (xc x % 8))
def mfail (π : mP) (W : mW) (d : Nat) : mW :=
  let W1 := mA W 2 d 6 (W.1 2 d 6 + 1)
  if pwy π d = 1 then mAr (mAr (mA W1 2 d 4 0) 0 d (fun _ => 0)) 1 d (fun _ => 0)
  else if pwy π d = 2 then mnx W1 d
  else mA W1 2 d 5 2
/-- the instruction at a domain's place; 0 behind its program -/
def mins (π : mP) (W : mW) (d : Nat) : Int32 := (ppr π d).getD (W.1 2 d 4).toNatClampNeg 0
def mstep (π : mP) (W : mW) (d : Nat) : mW :=
  let W1 := mA W 2 d 7 (W.1 2 d 7 + 1)
  if (W.1 2 d 4).toNatClampNeg < (ppr π d).length then (match mop π W1 d (mins π W d) with | some W2 => W2 | none => mfail π W1 d) else mfail π W1 d
def msl (π : mP) (W : mW) : Nat × Nat := (psl π (W.1 5 0 2).toNatClampNeg).getD (W.1 5 0 3).toNatClampNeg (0, 0)
abbrev mbgn (π : mP) (W : mW) : Prop := W.1 5 0 4 = nI (msl π W).2
/-- a slot of d begins -/
def mbeg (π : mP) (W : mW) (d : Nat) : mW :=
  (fun j i k => if j = 3 ∧ k = 3 ∧ i < π.2.1 ∧ plk π i 0 = nI d then 0 else if j = 3 ∧ k = 4 ∧ i < π.2.1 ∧ plk π i 1 = nI d then W.1 3 i 4 + nI (W.2.2 0 i).length else if j = 5 ∧ i = 0 ∧ k = 6 then 0 else W.1 j i k, W.2.1,
   fun j i => if i < π.2.1 ∧ plk π i 1 = nI d then (if j = 0 then W.2.2 1 i else if j = 1 then [] else W.2.2 j i) else W.2.2 j i)
/-- the clock goes on -/
def madv (π : mP) (W : mW) : mW :=
  let W1 := mA (mA W 5 0 1 (W.1 5 0 1 + 1)) 5 0 4 (W.1 5 0 4 - 1)
  if W.1 5 0 4 - 1 ≤ 0 then
    (let W2 := mA W1 5 0 3 (W.1 5 0 3 + 1)
     let W3 := if (W.1 5 0 3).toNatClampNeg + 1 < (psl π (W.1 5 0 2).toNatClampNeg).length then W2 else mA (mA W2 5 0 2 (if (psl π (W.1 5 0 5).toNatClampNeg).length = 0 then 0 else W.1 5 0 5)) 5 0 3 0
     mA W3 5 0 4 (nI (msl π W3).2))
  else W1
def mbg (π : mP) (W : mW) : mW := if mbgn π W then mbeg π W (msl π W).1 else W
def mpass (π : mP) (W : mW) (made : Bool) : mW :=
  let d := (msl π W).1
  let W1 := mbg π W
  let W2 := if made = true then mstep π W1 d else W1
  madv π (mA W2 2 d 8 (W2.1 2 d 8 + 1))
abbrev mrdy (π : mP) (W : mW) : Prop := W.1 2 (msl π W).1 5 = 0 ∧ (mbgn π W ∨ W.1 5 0 6 = 0)
def minp (W : mW) (d : Nat) (v : Int32) : mW := mB W 0 d (W.2.1 0 d ++ [v])
def mres (π : mP) : mW := (fun j i k => if j = 5 ∧ i = 0 ∧ k = 4 then nI ((psl π 0).getD 0 (0, 0)).2 else 0, fun _ _ => [], fun _ _ => [])
/-- idle ticks -/
def mid (π : mP) : Nat → mW → mW
  | 0, W => W
  | n + 1, W => mid π n (mpass π W false)
/-- an action: its domain, is it an input, its time, its value -/
abbrev mAct : Type := Nat × Bool × Nat × Int32
/-- actions done to a world at time t, those with true, each at its time; then time passes to now -/
def mrep (π : mP) : List (mAct × Bool) → Nat → mW → Nat → mW
  | [], t, W, now => mid π (now - t) W
  | (_, false) :: l, t, W, now => mrep π l t W now
  | (a, true) :: l, t, W, now => if a.2.1 = true then mrep π l a.2.2.1 (minp (mid π (a.2.2.1 - t) W) a.1 a.2.2.2) now else mrep π l (a.2.2.1 + 1) (mpass π (mid π (a.2.2.1 - t) W) true) now
end MODEL
