/-! LAYER 2: what the reference's small methods answer -/
theorem ix11 (a b : Nat) : (11 : Int32) * nI a + nI b = nI (11 * a + b) := by
  show nI 11 * nI a + nI b = _
  rw [pk_mul, nI_add]
theorem ix11' (a b : Nat) : nI a * (11 : Int32) + nI b = nI (11 * a + b) := by
  show nI a * nI 11 + nI b = _
  rw [pk_mul, nI_add, Nat.mul_comm]
def tdM (wide places weights : Nat → Int32) (a b : Nat) : Int32 := if wide a = (-1 : Int32) then 0 else if places a ≤ nI b then 0 else weights (11 * a + b)
def rdM (wide places weights : Nat → Int32) (a b : Nat) : Int32 := if a = b then 0 else tdM wide places weights a b + tdM wide places weights b a
theorem told_n {wide places weights : Nat → Int32} {a b : Nat} (ha : a < 11) (hb : b < 11) : f_X11_told wide places weights (nI a) (nI b) = some (tdM wide places weights a b) := by
  unfold f_X11_told tdM
  rw [gi_n ha (by omega), gi_n ha (by omega), ix11, gi_n (by omega) (by omega)]
  simp only [Option.bind_some]
  by_cases h1 : wide a = (-1 : Int32)
  · rw [if_pos h1, if_pos h1]
  · rw [if_neg h1, if_neg h1]
    by_cases h2 : places a ≤ nI b
    · rw [if_pos h2, if_pos h2]
    · rw [if_neg h2, if_neg h2]
theorem roadOf_n {wide places weights : Nat → Int32} {a b : Nat} (ha : a < 11) (hb : b < 11) : f_X11_roadOf wide places weights (nI a) (nI b) = some (rdM wide places weights a b) := by
  unfold f_X11_roadOf rdM
  rw [told_n ha hb, told_n hb ha]
  simp only [Option.bind_some]
  by_cases h : a = b
  · subst h
    rw [if_pos rfl, if_pos rfl]
  · rw [if_neg h, if_neg (fun q => h ((nI_eq (by omega) (by omega)).mp q))]
theorem whole_n {n : Nat} (hn : n ≤ 11) : f_X11_whole (nI n) = some (nI (2 ^ n - 1)) := by
  unfold f_X11_whole
  have h1 : 0 < 2 ^ n := Nat.pow_pos (by decide)
  rw [one_shl (by omega)]
  show some (nI (2 ^ n) - nI 1) = _
  rw [pk_sub h1]
theorem sizeOf_n {s : Nat} (hs : s < 2 ^ 31) : f_X11_sizeOf (nI s) = some (nI (pcN s 11)) := by
  unfold f_X11_sizeOf
  have h := loop_run (step := fun (t : Int32 × Int32) => f_X11_sizeOf_L4 (nI s) t.1 t.2) (fun k => (nI (pcN s k), nI k)) (x := nI (pcN s 11)) 11 (fun k hk => ?_) ?_
  · exact (congrArg (fun o => o.bind fun x1 => some x1) h).trans rfl
  · show f_X11_sizeOf_L4 (nI s) (nI (pcN s k)) (nI k) = _
    unfold f_X11_sizeOf_L4
    rw [if_neg (show ¬ (11 : Int32) ≤ nI k from nI_ge (b := 11) hk (by decide)), bit_n hs (by omega), nI_1]
    show some (Sum.inl (nI (pcN s k) + (if s.testBit k = true then 1 else 0), nI (k + 1))) = some (Sum.inl (nI (pcN s k + (if s.testBit k then 1 else 0)), nI (k + 1)))
    cases s.testBit k
    · show some (Sum.inl (nI (pcN s k) + 0, nI (k + 1))) = some (Sum.inl (nI (pcN s k + 0), nI (k + 1)))
      rw [Int32.add_zero]
      rfl
    · show some (Sum.inl (nI (pcN s k) + 1, nI (k + 1))) = some (Sum.inl (nI (pcN s k + 1), nI (k + 1)))
      rw [nI_1]
  · show f_X11_sizeOf_L4 (nI s) (nI (pcN s 11)) (nI 11) = _
    unfold f_X11_sizeOf_L4
    rw [if_pos (show (11 : Int32) ≤ nI 11 from nI_le (a := 11) (by omega) (by decide))]
def cutRow (rd : Nat → Nat → Int32) (s a : Nat) : Nat → Int32
  | 0 => 0
  | b + 1 => cutRow rd s a b + (if s.testBit b then 0 else rd a b)
def cutM (rd : Nat → Nat → Int32) (n s : Nat) : Nat → Int32
  | 0 => 0
  | a + 1 => cutM rd n s a + (if s.testBit a then cutRow rd s a n else 0)
theorem cutIn_n {wide places weights : Nat → Int32} {n s a : Nat} (hn : n ≤ 11) (hs : s < 2 ^ 31) (ha : a < n) (acc : Int32) : loopS (fun (t : Int32 × Int32) => f_X11_cutOf_L15 (nI s) (nI a) (nI n) wide places weights t.1 t.2) (acc, (0 : Int32)) = some (acc + (if s.testBit a then cutRow (rdM wide places weights) s a n else 0)) := by
  cases hb : s.testBit a with
  | false =>
    rw [loopS_eq]
    show (f_X11_cutOf_L15 (nI s) (nI a) (nI n) wide places weights acc (nI 0)).bind _ = _
    unfold f_X11_cutOf_L15
    rw [if_neg (nI_ge (by omega) (by omega)), has_n hs (by omega), hb]
    show some acc = some (acc + 0)
    rw [Int32.add_zero]
  | true =>
    have h := loop_run (step := fun (t : Int32 × Int32) => f_X11_cutOf_L15 (nI s) (nI a) (nI n) wide places weights t.1 t.2) (fun k => (acc + cutRow (rdM wide places weights) s a k, nI k)) (x := acc + cutRow (rdM wide places weights) s a n) n (fun k hk => ?_) ?_
    · show loopS _ (acc, nI 0) = some (acc + cutRow (rdM wide places weights) s a n)
      rw [← h]
      show _ = loopS _ (acc + 0, nI 0)
      rw [Int32.add_zero]
    · show f_X11_cutOf_L15 (nI s) (nI a) (nI n) wide places weights (acc + cutRow (rdM wide places weights) s a k) (nI k) = _
      unfold f_X11_cutOf_L15
      rw [if_neg (nI_ge hk (by omega)), has_n hs (by omega), hb, has_n hs (by omega), roadOf_n (by omega) (by omega), nI_1]
      cases hk2 : s.testBit k with
      | true =>
        show some (Sum.inl (acc + cutRow (rdM wide places weights) s a k + 0, nI (k + 1))) = some (Sum.inl (acc + (cutRow (rdM wide places weights) s a k + (if s.testBit k then 0 else rdM wide places weights a k)), nI (k + 1)))
        rw [hk2, Int32.add_assoc]; rfl
      | false =>
        show some (Sum.inl (acc + cutRow (rdM wide places weights) s a k + rdM wide places weights a k, nI (k + 1))) = some (Sum.inl (acc + (cutRow (rdM wide places weights) s a k + (if s.testBit k then 0 else rdM wide places weights a k)), nI (k + 1)))
        rw [hk2, Int32.add_assoc]; rfl
    · show f_X11_cutOf_L15 (nI s) (nI a) (nI n) wide places weights (acc + cutRow (rdM wide places weights) s a n) (nI n) = _
      unfold f_X11_cutOf_L15
      rw [if_pos (nI_le (Nat.le_refl n) (by omega))]
theorem cutOf_n {wide places weights : Nat → Int32} {n s : Nat} (hn : n ≤ 11) (hs : s < 2 ^ 31) : f_X11_cutOf (nI n) wide places weights (nI s) = some (cutM (rdM wide places weights) n s n) := by
  unfold f_X11_cutOf
  have h := loop_run (step := fun (t : Int32 × Int32) => f_X11_cutOf_L4 (nI s) (nI n) wide places weights t.1 t.2) (fun k => (cutM (rdM wide places weights) n s k, nI k)) (x := cutM (rdM wide places weights) n s n) n (fun k hk => ?_) ?_
  · exact (congrArg (fun o => o.bind fun x1 => some x1) h).trans rfl
  · show f_X11_cutOf_L4 (nI s) (nI n) wide places weights (cutM (rdM wide places weights) n s k) (nI k) = _
    unfold f_X11_cutOf_L4
    rw [if_neg (nI_ge hk (by omega)), cutIn_n hn hs hk, nI_1]
    rfl
  · show f_X11_cutOf_L4 (nI s) (nI n) wide places weights (cutM (rdM wide places weights) n s n) (nI n) = _
    unfold f_X11_cutOf_L4
    rw [if_pos (nI_le (Nat.le_refl n) (by omega))]
/-- some post outside the set, below k, to which a leads -/
def anyOut (q : Nat → Nat → Bool) (s a : Nat) : Nat → Bool
  | 0 => false
  | b + 1 => anyOut q s a b || (!s.testBit b && q a b)
/-- those of a set, below k, that lead out of it -/
def outM (q : Nat → Nat → Bool) (n s : Nat) : Nat → Nat
  | 0 => 0
  | a + 1 => outM q n s a ||| (if s.testBit a && anyOut q s a n then 2 ^ a else 0)
def rdQ (rd : Nat → Nat → Int32) (a b : Nat) : Bool := !decide (rd a b ≤ 0)
theorem or_or_self (x y : Nat) : x ||| y ||| y = x ||| y := by rw [Nat.or_assoc, Nat.or_self]
theorem openIn_n {wide places weights : Nat → Int32} {n s a : Nat} (hn : n ≤ 11) (hs : s < 2 ^ 31) (ha : a < n) (acc : Nat) : loopS (fun (t : Int32 × Int32) => f_X11_openSet_L15 (nI s) (nI a) (nI n) wide places weights t.1 t.2) (nI acc, (0 : Int32)) = some (nI (acc ||| (if s.testBit a && anyOut (rdQ (rdM wide places weights)) s a n then 2 ^ a else 0))) := by
  cases hb : s.testBit a with
  | false =>
    rw [loopS_eq]
    show (f_X11_openSet_L15 (nI s) (nI a) (nI n) wide places weights (nI acc) (nI 0)).bind _ = _
    unfold f_X11_openSet_L15
    rw [if_neg (nI_ge (by omega) (by omega)), has_n hs (by omega), hb]
    show some (nI acc) = some (nI (acc ||| 0))
    rw [Nat.or_zero]
  | true =>
    have h := loop_run (step := fun (t : Int32 × Int32) => f_X11_openSet_L15 (nI s) (nI a) (nI n) wide places weights t.1 t.2) (fun k => (nI (acc ||| (if anyOut (rdQ (rdM wide places weights)) s a k then 2 ^ a else 0)), nI k)) (x := nI (acc ||| (if anyOut (rdQ (rdM wide places weights)) s a n then 2 ^ a else 0))) n (fun k hk => ?_) ?_
    · show loopS _ (nI acc, nI 0) = some (nI (acc ||| (if anyOut (rdQ (rdM wide places weights)) s a n then 2 ^ a else 0)))
      rw [← h]
      show _ = loopS _ (nI (acc ||| 0), nI 0)
      rw [Nat.or_zero]
    · show f_X11_openSet_L15 (nI s) (nI a) (nI n) wide places weights (nI (acc ||| (if anyOut (rdQ (rdM wide places weights)) s a k then 2 ^ a else 0))) (nI k) = some (Sum.inl (nI (acc ||| (if (anyOut (rdQ (rdM wide places weights)) s a k || (!s.testBit k && rdQ (rdM wide places weights) a k)) then 2 ^ a else 0)), nI (k + 1)))
      unfold f_X11_openSet_L15
      rw [if_neg (nI_ge hk (by omega)), has_n hs (by omega), hb, has_n hs (by omega), roadOf_n (by omega) (by omega), nI_1, one_shl (by omega)]
      cases hk2 : s.testBit k with
      | true =>
        show some (Sum.inl (nI (acc ||| (if anyOut (rdQ (rdM wide places weights)) s a k then 2 ^ a else 0)) ||| nI 0, nI (k + 1))) = _
        rw [or_n, Nat.or_zero]
        simp
      | false =>
        by_cases hr : rdM wide places weights a k ≤ 0
        · have hq : rdQ (rdM wide places weights) a k = false := by simp [rdQ, hr]
          simp only [Option.bind_some, Bool.false_eq_true, if_false, if_true, if_pos hr, hq]
          show some (Sum.inl (nI (acc ||| (if anyOut (rdQ (rdM wide places weights)) s a k then 2 ^ a else 0)) ||| nI 0, nI (k + 1))) = _
          rw [or_n, Nat.or_zero]
          simp
        · have hq : rdQ (rdM wide places weights) a k = true := by simp [rdQ, hr]
          simp only [Option.bind_some, Bool.false_eq_true, if_false, if_true, if_neg hr, hq]
          show some (Sum.inl (nI (acc ||| (if anyOut (rdQ (rdM wide places weights)) s a k then 2 ^ a else 0)) ||| nI (2 ^ a), nI (k + 1))) = _
          rw [or_n]
          cases anyOut (rdQ (rdM wide places weights)) s a k
          · simp
          · simp [or_or_self]
    · show f_X11_openSet_L15 (nI s) (nI a) (nI n) wide places weights (nI (acc ||| (if anyOut (rdQ (rdM wide places weights)) s a n then 2 ^ a else 0))) (nI n) = _
      unfold f_X11_openSet_L15
      rw [if_pos (nI_le (Nat.le_refl n) (by omega))]
theorem openSet_n {wide places weights : Nat → Int32} {n s : Nat} (hn : n ≤ 11) (hs : s < 2 ^ 31) : f_X11_openSet (nI n) wide places weights (nI s) = some (nI (outM (rdQ (rdM wide places weights)) n s n)) := by
  unfold f_X11_openSet
  have h := loop_run (step := fun (t : Int32 × Int32) => f_X11_openSet_L4 (nI s) (nI n) wide places weights t.1 t.2) (fun k => (nI (outM (rdQ (rdM wide places weights)) n s k), nI k)) (x := nI (outM (rdQ (rdM wide places weights)) n s n)) n (fun k hk => ?_) ?_
  · exact (congrArg (fun o => o.bind fun x1 => some x1) h).trans rfl
  · show f_X11_openSet_L4 (nI s) (nI n) wide places weights (nI (outM (rdQ (rdM wide places weights)) n s k)) (nI k) = _
    unfold f_X11_openSet_L4
    rw [if_neg (nI_ge hk (by omega)), openIn_n hn hs hk, nI_1]
    rfl
  · show f_X11_openSet_L4 (nI s) (nI n) wide places weights (nI (outM (rdQ (rdM wide places weights)) n s n)) (nI n) = _
    unfold f_X11_openSet_L4
    rw [if_pos (nI_le (Nat.le_refl n) (by omega))]
def prQ (pair : Nat → Int32) (a b : Nat) : Bool := decide (pair (11 * a + b) = 1)
theorem heldIn_n {pair : Nat → Int32} {n s a : Nat} (hn : n ≤ 11) (hs : s < 2 ^ 31) (ha : a < n) (acc : Nat) : loopS (fun (t : Int32 × Int32) => f_X11_heldSet_L15 (nI s) (nI a) (nI n) pair t.1 t.2) (nI acc, (0 : Int32)) = some (nI (acc ||| (if s.testBit a && anyOut (prQ pair) s a n then 2 ^ a else 0))) := by
  cases hb : s.testBit a with
  | false =>
    rw [loopS_eq]
    show (f_X11_heldSet_L15 (nI s) (nI a) (nI n) pair (nI acc) (nI 0)).bind _ = _
    unfold f_X11_heldSet_L15
    rw [if_neg (nI_ge (by omega) (by omega)), has_n hs (by omega), hb]
    show some (nI acc) = some (nI (acc ||| 0))
    rw [Nat.or_zero]
  | true =>
    have h := loop_run (step := fun (t : Int32 × Int32) => f_X11_heldSet_L15 (nI s) (nI a) (nI n) pair t.1 t.2) (fun k => (nI (acc ||| (if anyOut (prQ pair) s a k then 2 ^ a else 0)), nI k)) (x := nI (acc ||| (if anyOut (prQ pair) s a n then 2 ^ a else 0))) n (fun k hk => ?_) ?_
    · show loopS _ (nI acc, nI 0) = some (nI (acc ||| (if anyOut (prQ pair) s a n then 2 ^ a else 0)))
      rw [← h]
      show _ = loopS _ (nI (acc ||| 0), nI 0)
      rw [Nat.or_zero]
    · show f_X11_heldSet_L15 (nI s) (nI a) (nI n) pair (nI (acc ||| (if anyOut (prQ pair) s a k then 2 ^ a else 0))) (nI k) = some (Sum.inl (nI (acc ||| (if (anyOut (prQ pair) s a k || (!s.testBit k && prQ pair a k)) then 2 ^ a else 0)), nI (k + 1)))
      unfold f_X11_heldSet_L15
      rw [if_neg (nI_ge hk (by omega)), has_n hs (by omega), hb, has_n hs (by omega), ix11, gi_n (by omega) (by omega), nI_1, one_shl (by omega)]
      cases hk2 : s.testBit k with
      | true =>
        show some (Sum.inl (nI (acc ||| (if anyOut (prQ pair) s a k then 2 ^ a else 0)) ||| nI 0, nI (k + 1))) = _
        rw [or_n, Nat.or_zero]
        simp
      | false =>
        by_cases hr : ¬ pair (11 * a + k) = (1 : Int32)
        · have hq : prQ pair a k = false := by simp [prQ, hr]
          simp only [Option.bind_some, Bool.false_eq_true, if_false, if_true, if_neg hr, hq]
          show some (Sum.inl (nI (acc ||| (if anyOut (prQ pair) s a k then 2 ^ a else 0)) ||| nI 0, nI (k + 1))) = _
          rw [or_n, Nat.or_zero]
          simp
        · have hr := Classical.not_not.mp hr
          have hq : prQ pair a k = true := by simp [prQ, hr]
          simp only [Option.bind_some, Bool.false_eq_true, if_false, if_true, if_pos hr, hq]
          show some (Sum.inl (nI (acc ||| (if anyOut (prQ pair) s a k then 2 ^ a else 0)) ||| nI (2 ^ a), nI (k + 1))) = _
          rw [or_n]
          cases anyOut (prQ pair) s a k
          · simp
          · simp [or_or_self]
    · show f_X11_heldSet_L15 (nI s) (nI a) (nI n) pair (nI (acc ||| (if anyOut (prQ pair) s a n then 2 ^ a else 0))) (nI n) = _
      unfold f_X11_heldSet_L15
      rw [if_pos (nI_le (Nat.le_refl n) (by omega))]
theorem heldSet_n {pair : Nat → Int32} {n s : Nat} (hn : n ≤ 11) (hs : s < 2 ^ 31) : f_X11_heldSet (nI n) pair (nI s) = some (nI (outM (prQ pair) n s n)) := by
  unfold f_X11_heldSet
  have h := loop_run (step := fun (t : Int32 × Int32) => f_X11_heldSet_L4 (nI s) (nI n) pair t.1 t.2) (fun k => (nI (outM (prQ pair) n s k), nI k)) (x := nI (outM (prQ pair) n s n)) n (fun k hk => ?_) ?_
  · exact (congrArg (fun o => o.bind fun x1 => some x1) h).trans rfl
  · show f_X11_heldSet_L4 (nI s) (nI n) pair (nI (outM (prQ pair) n s k)) (nI k) = _
    unfold f_X11_heldSet_L4
    rw [if_neg (nI_ge hk (by omega)), heldIn_n hn hs hk, nI_1]
    rfl
  · show f_X11_heldSet_L4 (nI s) (nI n) pair (nI (outM (prQ pair) n s n)) (nI n) = _
    unfold f_X11_heldSet_L4
    rw [if_pos (nI_le (Nat.le_refl n) (by omega))]
/-- all that must be ahead of p, below k, are in the set -/
def allAhead (q : Nat → Nat → Bool) (s p : Nat) : Nat → Bool
  | 0 => true
  | a + 1 => allAhead q s p a && (!q a p || s.testBit a)
def pzQ (pair : Nat → Int32) (a b : Nat) : Bool := !decide (pair (11 * a + b) = 0)
def b2I (b : Bool) : Int32 := if b then 1 else 0
theorem mayCome_n {pair : Nat → Int32} {n s p : Nat} (hn : n ≤ 11) (hs : s < 2 ^ 31) (hp : p < 11) : f_X11_mayCome (nI n) pair (nI p) (nI s) = some (b2I (!s.testBit p && allAhead (pzQ pair) s p n)) := by
  unfold f_X11_mayCome
  rw [has_n hs (by omega)]
  have h := loop_run (step := fun (t : Int32 × Int32) => f_X11_mayCome_L17 (nI p) (nI s) (nI n) pair t.1 t.2) (fun k => (b2I (!s.testBit p && allAhead (pzQ pair) s p k), nI k)) (x := b2I (!s.testBit p && allAhead (pzQ pair) s p n)) n (fun k hk => ?_) ?_
  · have e0 : ((if (if s.testBit p then (1 : Int32) else 0) = 0 then (some (1 : Int32)) else (some (0 : Int32)) : Option Int32)) = some (b2I (!s.testBit p && allAhead (pzQ pair) s p 0)) := by
      cases s.testBit p <;> rfl
    simp only [Option.bind_some]
    rw [e0]
    simp only [Option.bind_some]
    have e1 : loopS (fun (t : Int32 × Int32) => f_X11_mayCome_L17 (nI p) (nI s) (nI n) pair t.1 t.2) (b2I (!s.testBit p && allAhead (pzQ pair) s p 0), (0 : Int32)) = some (b2I (!s.testBit p && allAhead (pzQ pair) s p n)) := h
    rw [e1]
    simp only [Option.bind_some]
    cases (!s.testBit p && allAhead (pzQ pair) s p n)
    · show (bz 0).bind _ = _
      rw [bz0]; rfl
    · show (bz 1).bind _ = _
      rw [bz1]; rfl
  · show f_X11_mayCome_L17 (nI p) (nI s) (nI n) pair (b2I (!s.testBit p && allAhead (pzQ pair) s p k)) (nI k) = some (Sum.inl (b2I (!s.testBit p && (allAhead (pzQ pair) s p k && (!pzQ pair k p || s.testBit k))), nI (k + 1)))
    unfold f_X11_mayCome_L17
    rw [if_neg (nI_ge hk (by omega)), ix11, gi_n (by omega) (by omega), has_n hs (by omega), nI_1]
    simp only [Option.bind_some]
    cases hb : (!s.testBit p && allAhead (pzQ pair) s p k) with
    | false =>
      rw [← Bool.and_assoc, hb]
      rfl
    | true =>
      rw [← Bool.and_assoc, hb]
      by_cases hz : pair (11 * k + p) = 0
      · have hq : pzQ pair k p = false := by simp [pzQ, hz]
        rw [hq, if_pos hz]
        rfl
      · have hq : pzQ pair k p = true := by simp [pzQ, hz]
        rw [hq, if_neg hz]
        cases s.testBit k <;> rfl
  · show f_X11_mayCome_L17 (nI p) (nI s) (nI n) pair (b2I (!s.testBit p && allAhead (pzQ pair) s p n)) (nI n) = _
    unfold f_X11_mayCome_L17
    rw [if_pos (nI_le (Nat.le_refl n) (by omega))]
/-- the first k of an array hold v -/
def filled (f : Nat → Int32) (v : Int32) (k : Nat) : Nat → Int32 := fun j => if j < k then v else f j
theorem filled_0 (f : Nat → Int32) (v : Int32) : filled f v 0 = f := by funext j; simp [filled]
theorem filled_s (f : Nat → Int32) (v : Int32) (k : Nat) : upd (filled f v k) k v = filled f v (k + 1) := by
  funext j
  unfold upd filled
  by_cases h : j = k
  · subst h; simp
  · rw [if_neg h]
    by_cases h2 : j < k
    · rw [if_pos h2, if_pos (by omega)]
    · rw [if_neg h2, if_neg (by omega)]
theorem fill_n {f : Nat → Int32} {v : Int32} {n : Nat} (hn : n ≤ 100000) : f_J7_fill_53178 n f v = some (filled f v n) := by
  unfold f_J7_fill_53178
  have h := loop_run (step := fun (s : Int32 × (Nat → Int32)) => f_J7_fill_53178_L5 v (Int32.ofNat n) n s.1 s.2) (fun k => (nI k, filled f v k)) (x := filled f v n) n (fun k hk => ?_) ?_
  · have e1 : loopS (fun (s : Int32 × (Nat → Int32)) => f_J7_fill_53178_L5 v (Int32.ofNat n) n s.1 s.2) ((0 : Int32), f) = some (filled f v n) := by
      rw [← h]
      show _ = loopS _ (nI 0, filled f v 0)
      rw [filled_0]
      rfl
    rw [e1]
    rfl
  · show f_J7_fill_53178_L5 v (nI n) n (nI k) (filled f v k) = some (Sum.inl (nI (k + 1), filled f v (k + 1)))
    unfold f_J7_fill_53178_L5
    rw [if_neg (nI_ge hk (by omega)), si_n hk hn, nI_1, filled_s]
    rfl
  · show f_J7_fill_53178_L5 v (nI n) n (nI n) (filled f v n) = _
    unfold f_J7_fill_53178_L5
    rw [if_pos (nI_le (Nat.le_refl n) (by omega))]
