/-! LAYER 2: the relation between the class's contents and the reference's -/
/-- the set of those below k that q says -/
def mkB (q : Nat → Bool) : Nat → Nat
  | 0 => 0
  | k + 1 => mkB q k ||| (if q k then 2 ^ k else 0)
theorem mkB_tb (q : Nat → Bool) : ∀ (k i : Nat), (mkB q k).testBit i = (decide (i < k) && q i)
  | 0, i => by simp [mkB]
  | k + 1, i => by
    rw [mkB, Nat.testBit_or, mkB_tb q k i]
    by_cases h : i = k
    · subst h
      cases hq : q i with
      | false => simp [hq]
      | true => simp [Nat.testBit_two_pow_self]
    · have h1 : (if q k = true then 2 ^ k else 0).testBit i = false := by
        cases q k with
        | false => simp
        | true => simpa using Nat.testBit_two_pow_of_ne (fun e => h e.symm)
      rw [h1, Bool.or_false]
      by_cases h2 : i < k
      · rw [decide_eq_true h2, decide_eq_true (show i < k + 1 by omega)]
      · rw [decide_eq_false h2, decide_eq_false (show ¬ i < k + 1 by omega)]
theorem mkB_lt (q : Nat → Bool) (k : Nat) : mkB q k < 2 ^ k := by
  apply Nat.lt_pow_two_of_testBit
  intro i hi
  rw [mkB_tb, decide_eq_false (by omega), Bool.false_and]
/-- how many of the first k are 1 -/
def cntM (f : Nat → Int32) : Nat → Nat
  | 0 => 0
  | k + 1 => cntM f k + (if f k = 1 then 1 else 0)
def NetR (n : Nat) (posts pairs : Int32) (widths lengths told behind : Nat → Int32) (mposts mpairs : Int32) (wide places weights pair : Nat → Int32) : Prop :=
  n ≤ 11 ∧ posts = nI n ∧ mposts = nI n ∧ pairs = nI (cntM pair 121) ∧ mpairs = nI (cntM pair 121) ∧ cntM pair 121 ≤ 30 ∧
  (∀ a, a < n → widths a = wide a ∧ lengths a = places a ∧ (wide a = (-1 : Int32) ∨ wide a = 0 ∨ wide a = 1 ∨ wide a = 2) ∧ ∃ k, k ≤ 11 ∧ places a = nI k) ∧
  (∀ a, n ≤ a → a < 11 → widths a = (-1 : Int32) ∧ lengths a = 0) ∧
  (∀ a b, a < 11 → b < 11 → told (11 * a + b) = if a < n then tdM wide places weights a b else 0) ∧
  (∀ a b, a < n → b < 11 → ∃ w, w ≤ 1000 ∧ tdM wide places weights a b = nI w) ∧
  (∀ a, a < 11 → behind a = nI (mkB (fun b => prQ pair a b) 11)) ∧
  (∀ a b, a < 11 → b < 11 → pair (11 * a + b) = 0 ∨ (pair (11 * a + b) = 1 ∧ a < n ∧ b < n)) ∧
  ∃ rk : Nat → Nat, ∀ a b, a < 11 → b < 11 → prQ pair a b = true → rk a < rk b
/-- the roads, a < b, below k -/
def roadsRow (rd : Nat → Nat → Int32) (a : Nat) : Nat → Nat
  | 0 => 0
  | b + 1 => roadsRow rd a b + (if decide (a < b) && rdQ rd a b then 1 else 0)
def roadsM (rd : Nat → Nat → Int32) (n : Nat) : Nat → Nat
  | 0 => 0
  | a + 1 => roadsM rd n a + roadsRow rd a n
def weightM (rd : Nat → Nat → Int32) (n : Nat) : Int32 := sumI (fun a => sumI (fun b => if a < b then rd a b else 0) n) n
def ViewR (n : Nat) (rd : Nat → Nat → Int32) (pr : Nat → Nat → Bool) (posts roads weight : Int32) (weights near behind ahead : Nat → Int32) : Prop :=
  posts = nI n ∧ roads = nI (roadsM rd n n) ∧ weight = weightM rd n ∧
  (∀ a b, a < 11 → b < 11 → weights (11 * a + b) = if a < n ∧ b < n then rd a b else 0) ∧
  (∀ a, a < 11 → near a = nI (mkB (fun b => decide (a < n) && (decide (b < n) && rdQ rd a b)) 11)) ∧
  (∀ a, a < 11 → behind a = nI (mkB (fun b => pr a b) 11)) ∧
  ∀ b, b < 11 → ahead b = nI (mkB (fun a => pr a b) 11)
def HistR (oldest size : Int32) (kp kq : Nat → Int32) (kw kl kt kb : Nat → Nat → Int32) (keptEnd kept : Int32) (old : Nat → Int32) : Prop :=
  ∃ o k, o < 8 ∧ k ≤ 8 ∧ oldest = nI o ∧ size = nI k ∧ keptEnd = nI ((o + k) % 8) ∧ kept = nI k ∧
    ∀ i, i < k → ∃ n, NetR n (kp ((o + i) % 8)) (kq ((o + i) % 8)) (kw ((o + i) % 8)) (kl ((o + i) % 8)) (kt ((o + i) % 8)) (kb ((o + i) % 8)) (old (266 * ((o + i) % 8))) (old (266 * ((o + i) % 8) + 1)) (fun j => old (266 * ((o + i) % 8) + 2 + j)) (fun j => old (266 * ((o + i) % 8) + 13 + j)) (fun j => old (266 * ((o + i) % 8) + 24 + j)) (fun j => old (266 * ((o + i) % 8) + 145 + j))
def RowR (size many : Int32) (posts row : Nat → Int32) : Prop :=
  ∃ k, k ≤ 11 ∧ size = nI k ∧ many = nI k ∧ (∀ j, j < k → posts j = row j ∧ ∃ p, p < 11 ∧ row j = nI p) ∧ ∀ i j, i < k → j < k → row i = row j → i = j
def BagsR (size bags : Int32) (sets bag : Nat → Int32) : Prop := ∃ k, k ≤ 20 ∧ size = nI k ∧ bags = nI k ∧ ∀ j, j < k → sets j = bag j ∧ ∃ s, s < 2048 ∧ bag j = nI s
def HuntR (size moves : Int32) (cm hunt : Nat → Int32) : Prop := ∃ k, k ≤ 60 ∧ size = nI k ∧ moves = nI k ∧ ∀ j, j < k → cm j = hunt j ∧ ∃ v, (v < 11 ∨ (100 ≤ v ∧ v < 111)) ∧ hunt j = nI v
/-- the price of a set, by the cost 1 (2, 5) -/
def priceM (n : Nat) (rd : Nat → Nat → Int32) (pr : Nat → Nat → Bool) (c s : Nat) : Int32 := if c = 2 then nI (pcN (outM (rdQ rd) n s n) 11) else if c = 5 then nI (pcN (outM pr n s n) 11) else cutM rd n s n
def joinM (c : Nat) (x y : Int32) : Int32 := if c = 3 then x + y else if x < y then y else x
/-- the least that can come behind a set, if post by post below k -/
def leastF (far : Int32) (c : Nat) (price rest : Nat → Int32) (pr : Nat → Nat → Bool) (n s : Nat) : Nat → Int32
  | 0 => far
  | p + 1 => if !s.testBit p && allAhead pr s p n then (if joinM c (price (s ||| 2 ^ p)) (rest (s ||| 2 ^ p)) < leastF far c price rest pr n s p then joinM c (price (s ||| 2 ^ p)) (rest (s ||| 2 ^ p)) else leastF far c price rest pr n s p) else leastF far c price rest pr n s p
def stepM (c : Nat) (price rest : Nat → Int32) (pr : Nat → Nat → Bool) (n s p : Nat) : Bool := !s.testBit p && allAhead pr s p n && decide (joinM c (price (s ||| 2 ^ p)) (rest (s ||| 2 ^ p)) ≤ (if c = 3 then rest s else rest 0))
def SetInv (n : Nat) (rd : Nat → Nat → Int32) (pr : Nat → Nat → Bool) (solvedFor lowest total pricedFor : Int32) (prices rests ways : Nat → Int32) : Prop :=
  (pricedFor = (-1 : Int32) ∨ ∃ c, (c = 1 ∨ c = 2 ∨ c = 5) ∧ pricedFor = nI c ∧ ∀ s, s < 2 ^ n → prices s = priceM n rd pr c s) ∧
  (solvedFor = (-1 : Int32) ∨ ∃ c, (c = 1 ∨ c = 2 ∨ c = 3 ∨ c = 5) ∧ solvedFor = nI c ∧ pricedFor = nI (if c = 3 then 1 else c) ∧
    rests (2 ^ n - 1) = 0 ∧ (∀ s, s < 2 ^ n - 1 → rests s = leastF (1073741824 : Int32) c prices rests pr n s n) ∧
    ways (2 ^ n - 1) = 1 ∧ (∀ s, s < 2 ^ n - 1 → ways s = sumI (fun p => if stepM c prices rests pr n s p then ways (s ||| 2 ^ p) else 0) n) ∧
    lowest = (if c = 5 ∧ 0 < n then rests 0 + 1 else rests 0) ∧ total = ways 0)
