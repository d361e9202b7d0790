/-! LAYER 2: what the reference's small methods answer -/
theorem ix11 (a b : Nat) : (11 : Int32) * nI a + nI b = nI (11 * a + b) := by
  show nI 11 * nI a + nI b = _
  rw [pk_mul, nI_add]
theorem ix11' (a b : Nat) : nI a * (11 : Int32) + nI b = nI (11 * a + b) := by
  show nI a * nI 11 + nI b = _
  rw [pk_mul, nI_add, Nat.mul_comm]
def tdM (wide places weights : Nat → Int32) (a b : Nat) : Int32 := if wide a = (-1 : Int32) then 0 else if places a ≤ nI b then 0 else weights (11 * a + b)
def rdM (wide places weights : Nat → Int32) (a b : Nat) : Int32 := if a = b then 0 else tdM wide places weights a b + tdM wide places weights b a
theorem told_n {wide places weights : Nat → Int32} {a b : Nat} (ha : a < 11) (hb : b < 11) : f_X11_told wide places weights (nI a) (nI b) = some (tdM wide places weights a b) := by
  unfold f_X11_told tdM
  rw [gi_n ha (by omega), gi_n ha (by omega), ix11, gi_n (by omega) (by omega)]
  simp only [Option.bind_some]
  by_cases h1 : wide a = (-1 : Int32)
  · rw [if_pos h1, if_pos h1]
  · rw [if_neg h1, if_neg h1]
    by_cases h2 : places a ≤ nI b
    · rw [if_pos h2, if_pos h2]
    · rw [if_neg h2, if_neg h2]
theorem roadOf_n {wide places weights : Nat → Int32} {a b : Nat} (ha : a < 11) (hb : b < 11) : f_X11_roadOf wide places weights (nI a) (nI b) = some (rdM wide places weights a b) := by
  unfold f_X11_roadOf rdM
  rw [told_n ha hb, told_n hb ha]
  simp only [Option.bind_some]
  by_cases h : a = b
  · subst h
    rw [if_pos rfl, if_pos rfl]
  · rw [if_neg h, if_neg (fun q => h ((nI_eq (by omega) (by omega)).mp q))]
theorem whole_n {n : Nat} (hn : n ≤ 11) : f_X11_whole (nI n) = some (nI (2 ^ n - 1)) := by
  unfold f_X11_whole
  have h1 : 0 < 2 ^ n := Nat.pow_pos (by decide)
  rw [one_shl (by omega)]
  show some (nI (2 ^ n) - nI 1) = _
  rw [pk_sub h1]
theorem sizeOf_n {s : Nat} (hs : s < 2 ^ 31) : f_X11_sizeOf (nI s) = some (nI (pcN s 11)) := by
  unfold f_X11_sizeOf
  have h := loop_run (step := fun (t : Int32 × Int32) => f_X11_sizeOf_L4 (nI s) t.1 t.2) (fun k => (nI (pcN s k), nI k)) (x := nI (pcN s 11)) 11 (fun k hk => ?_) ?_
  · exact (congrArg (fun o => o.bind fun x1 => some x1) h).trans rfl
  · show f_X11_sizeOf_L4 (nI s) (nI (pcN s k)) (nI k) = _
    unfold f_X11_sizeOf_L4
    rw [if_neg (show ¬ nI 11 ≤ nI k from nI_ge hk (by decide)), bit_n hs (by omega), nI_1]
    show some (Sum.inl (nI (pcN s k) + (if s.testBit k = true then 1 else 0), nI (k + 1))) = some (Sum.inl (nI (pcN s k + (if s.testBit k then 1 else 0)), nI (k + 1)))
    rw [← nI_add]
    cases s.testBit k <;> rfl
  · show f_X11_sizeOf_L4 (nI s) (nI (pcN s 11)) (nI 11) = _
    unfold f_X11_sizeOf_L4
    rw [if_pos (show nI 11 ≤ nI 11 from nI_le (by omega) (by decide))]
def cutRow (rd : Nat → Nat → Int32) (s a : Nat) : Nat → Int32
  | 0 => 0
  | b + 1 => cutRow rd s a b + (if s.testBit b then 0 else rd a b)
def cutM (rd : Nat → Nat → Int32) (n s : Nat) : Nat → Int32
  | 0 => 0
  | a + 1 => cutM rd n s a + (if s.testBit a then cutRow rd s a n else 0)
theorem cutIn_n {wide places weights : Nat → Int32} {n s a : Nat} (hn : n ≤ 11) (hs : s < 2 ^ 31) (ha : a < n) (acc : Int32) : loopS (fun (t : Int32 × Int32) => f_X11_cutOf_L15 (nI s) (nI a) (nI n) wide places weights t.1 t.2) (acc, (0 : Int32)) = some (acc + (if s.testBit a then cutRow (rdM wide places weights) s a n else 0)) := by
  cases hb : s.testBit a with
  | false =>
    rw [loopS_eq]
    show (f_X11_cutOf_L15 (nI s) (nI a) (nI n) wide places weights acc (nI 0)).bind _ = _
    unfold f_X11_cutOf_L15
    rw [if_neg (nI_ge (by omega) (by omega)), has_n hs (by omega), hb]
    show some acc = some (acc + 0)
    rw [Int32.add_zero]
  | true =>
    have h := loop_run (step := fun (t : Int32 × Int32) => f_X11_cutOf_L15 (nI s) (nI a) (nI n) wide places weights t.1 t.2) (fun k => (acc + cutRow (rdM wide places weights) s a k, nI k)) (x := acc + cutRow (rdM wide places weights) s a n) n (fun k hk => ?_) ?_
    · show loopS _ (acc, nI 0) = some (acc + cutRow (rdM wide places weights) s a n)
      rw [← h]
      show _ = loopS _ (acc + 0, nI 0)
      rw [Int32.add_zero]
    · show f_X11_cutOf_L15 (nI s) (nI a) (nI n) wide places weights (acc + cutRow (rdM wide places weights) s a k) (nI k) = _
      unfold f_X11_cutOf_L15
      rw [if_neg (nI_ge hk (by omega)), has_n hs (by omega), hb, has_n hs (by omega), roadOf_n (by omega) (by omega), nI_1]
      cases hk2 : s.testBit k with
      | true =>
        show some (Sum.inl (acc + cutRow (rdM wide places weights) s a k + 0, nI (k + 1))) = some (Sum.inl (acc + (cutRow (rdM wide places weights) s a k + (if s.testBit k then 0 else rdM wide places weights a k)), nI (k + 1)))
        rw [hk2, Int32.add_assoc]; rfl
      | false =>
        show some (Sum.inl (acc + cutRow (rdM wide places weights) s a k + rdM wide places weights a k, nI (k + 1))) = some (Sum.inl (acc + (cutRow (rdM wide places weights) s a k + (if s.testBit k then 0 else rdM wide places weights a k)), nI (k + 1)))
        rw [hk2, Int32.add_assoc]; rfl
    · show f_X11_cutOf_L15 (nI s) (nI a) (nI n) wide places weights (acc + cutRow (rdM wide places weights) s a n) (nI n) = _
      unfold f_X11_cutOf_L15
      rw [if_pos (nI_le (Nat.le_refl n) (by omega))]
theorem cutOf_n {wide places weights : Nat → Int32} {n s : Nat} (hn : n ≤ 11) (hs : s < 2 ^ 31) : f_X11_cutOf (nI n) wide places weights (nI s) = some (cutM (rdM wide places weights) n s n) := by
  unfold f_X11_cutOf
  have h := loop_run (step := fun (t : Int32 × Int32) => f_X11_cutOf_L4 (nI s) (nI n) wide places weights t.1 t.2) (fun k => (cutM (rdM wide places weights) n s k, nI k)) (x := cutM (rdM wide places weights) n s n) n (fun k hk => ?_) ?_
  · exact (congrArg (fun o => o.bind fun x1 => some x1) h).trans rfl
  · show f_X11_cutOf_L4 (nI s) (nI n) wide places weights (cutM (rdM wide places weights) n s k) (nI k) = _
    unfold f_X11_cutOf_L4
    rw [if_neg (nI_ge hk (by omega)), cutIn_n hn hs hk, nI_1]
    rfl
  · show f_X11_cutOf_L4 (nI s) (nI n) wide places weights (cutM (rdM wide places weights) n s n) (nI n) = _
    unfold f_X11_cutOf_L4
    rw [if_pos (nI_le (Nat.le_refl n) (by omega))]
