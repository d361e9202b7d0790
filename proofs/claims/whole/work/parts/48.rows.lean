/-! LAYER 2: rows by lists; what a trial search keeps -/
/-- folds with an operation that is like + -/
def fo (op : Nat → Nat → Nat) (f : Nat → Nat) : Nat → Nat
  | 0 => 0
  | k + 1 => op (fo op f k) (f k)
def spN (c n d : Nat) : Nat := if c = 4 then (if d ≤ n - d then d else n - d) else d
def opC (c : Nat) : Nat → Nat → Nat := if c = 4 then (fun x y => x + y) else (fun x y => max x y)
def hC (c n : Nat) (w : Nat → Nat → Nat) (a b : Nat) : Nat := if c = 4 then w a b * spN 4 n (b - a) else if w a b = 0 then 0 else b - a
def spanCost (c n : Nat) (w : Nat → Nat → Nat) (k : Nat) : Nat := fo (opC c) (fun b => fo (opC c) (fun a => hC c n w a b) b) k
def mayN (pr : Nat → Nat → Bool) (n s p : Nat) : Bool := !s.testBit p && allAhead pr s p n
/-- all rows that begin with L, in their order: post by post below k -/
def cmK (rc : Nat → List Nat → List (List Nat)) (may : Nat → Nat → Bool) (s : Nat) (L : List Nat) : Nat → List (List Nat)
  | 0 => []
  | k + 1 => cmK rc may s L k ++ (if may s k then rc (s ||| 2 ^ k) (L ++ [k]) else [])
def cmL (may : Nat → Nat → Bool) (n : Nat) : Nat → Nat → List Nat → List (List Nat)
  | 0, _, L => [L]
  | d + 1, s, L => cmK (cmL may n d) may s L n
def atL (L : List Nat) (j : Nat) : Nat := (L[j]?).getD 0
def rowC (c n : Nat) (rN : Nat → Nat → Nat) (L : List Nat) : Nat := spanCost c n (fun a b => rN (atL L a) (atL L b)) L.length
/-- a row is met -/
def mtP (cst : List Nat → Nat) (st : Nat × List (List Nat)) (r : List Nat) : Nat × List (List Nat) := if cst r < st.1 then (cst r, [r]) else if cst r = st.1 then (st.1, st.2 ++ [r]) else st
def codeL (L : List Nat) : Nat := L.foldl (fun x p => 8 * x + p) 0
def trialSt (n : Nat) (rd : Nat → Nat → Int32) (pr : Nat → Nat → Bool) (c : Nat) : Nat × List (List Nat) := (cmL (mayN pr n) n n 0 []).foldl (mtP (rowC c n (fun x y => (rd x y).toNatClampNeg))) (1073741824, [])
def FoundOk (found : Nat → Int32) (Ls : List (List Nat)) : Prop := ∀ k, k < Ls.length → found k = nI (codeL ((Ls[k]?).getD []))
/-- what a trial search keeps -/
def TrialInv (n : Nat) (rd : Nat → Nat → Int32) (pr : Nat → Nat → Bool) (solvedFor lowest total : Int32) (found : Nat → Int32) : Prop :=
  solvedFor = (-1 : Int32) ∨ ∃ c, (c = 0 ∨ c = 4) ∧ solvedFor = nI c ∧ n ≤ 7 ∧ lowest = nI (trialSt n rd pr c).1 ∧ total = nI (trialSt n rd pr c).2.length ∧ FoundOk found (trialSt n rd pr c).2
