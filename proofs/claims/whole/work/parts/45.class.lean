/-! LAYER 2: what the class's small methods answer, with sets as bits of a number -/
theorem m1_n : (-1 : Int32) = nI 4294967295 := by decide
theorem nI_z {x : Nat} (h : x < 2 ^ 31) : nI x = 0 ↔ x = 0 := nI_eq (b := 0) h (by decide)
theorem andNot_n {m s : Nat} (hm : m < 2 ^ 31) : (nI m &&& (nI s ^^^ (-1 : Int32))) = 0 ↔ ∀ b, b < 31 → m.testBit b = true → s.testBit b = true := by
  rw [m1_n, xor_n, and_n, nI_z (Nat.lt_of_le_of_lt Nat.and_le_left hm)]
  constructor
  · intro h b hb h1
    have h2 : (m &&& (s ^^^ 4294967295)).testBit b = false := by rw [h]; exact Nat.zero_testBit b
    rw [Nat.testBit_and, Nat.testBit_xor, h1, show (4294967295 : Nat) = 2 ^ 32 - 1 from rfl, Nat.testBit_two_pow_sub_one, decide_eq_true (show b < 32 by omega)] at h2
    cases h3 : s.testBit b with
    | true => rfl
    | false => rw [h3] at h2; exact absurd h2 (by decide)
  · intro h
    apply Nat.eq_of_testBit_eq
    intro b
    rw [Nat.zero_testBit, Nat.testBit_and, Nat.testBit_xor]
    cases h1 : m.testBit b with
    | false => rfl
    | true =>
      have hb : b < 31 := by
        rcases Nat.lt_or_ge b 31 with h2 | h2
        · exact h2
        · have := Nat.testBit_lt_two_pow (Nat.lt_of_lt_of_le hm (Nat.pow_le_pow_right (by decide) h2))
          rw [this] at h1
          cases h1
      rw [h b hb h1, show (4294967295 : Nat) = 2 ^ 32 - 1 from rfl, Nat.testBit_two_pow_sub_one, decide_eq_true (show b < 32 by omega)]
      rfl
theorem anyOut_iff {q : Nat → Nat → Bool} {s a : Nat} : ∀ {n : Nat}, anyOut q s a n = true ↔ ∃ b, b < n ∧ s.testBit b = false ∧ q a b = true
  | 0 => by simp [anyOut]
  | n + 1 => by
    rw [anyOut, Bool.or_eq_true, anyOut_iff (n := n), Bool.and_eq_true, Bool.not_eq_true']
    constructor
    · rintro (⟨b, h1, h2, h3⟩ | ⟨h1, h2⟩)
      · exact ⟨b, by omega, h2, h3⟩
      · exact ⟨n, by omega, h1, h2⟩
    · rintro ⟨b, h1, h2, h3⟩
      rcases Nat.lt_or_ge b n with h4 | h4
      · exact Or.inl ⟨b, h4, h2, h3⟩
      · have : b = n := by omega
        subst this
        exact Or.inr ⟨h2, h3⟩
theorem allAhead_iff {q : Nat → Nat → Bool} {s p : Nat} : ∀ {n : Nat}, allAhead q s p n = true ↔ ∀ a, a < n → q a p = true → s.testBit a = true
  | 0 => by simp [allAhead]
  | n + 1 => by
    rw [allAhead, Bool.and_eq_true, allAhead_iff (n := n), Bool.or_eq_true, Bool.not_eq_true']
    constructor
    · rintro ⟨h1, h2⟩ a ha hq
      rcases Nat.lt_or_ge a n with h3 | h3
      · exact h1 a h3 hq
      · have : a = n := by omega
        subst this
        rcases h2 with h2 | h2
        · rw [h2] at hq; cases hq
        · exact h2
    · intro h
      refine ⟨fun a ha => h a (by omega), ?_⟩
      cases hq : q n p with
      | false => exact Or.inl rfl
      | true => exact Or.inr (h n (by omega) hq)
theorem lead_iff {m s n : Nat} (hn : n ≤ 11) (hm : m < 2 ^ n) : ((nI m &&& (nI s ^^^ (-1 : Int32))) = 0) ↔ ∀ b, b < n → m.testBit b = true → s.testBit b = true := by
  have h31 : m < 2 ^ 31 := Nat.lt_of_lt_of_le hm (Nat.pow_le_pow_right (by decide) (by omega))
  rw [andNot_n h31]
  constructor
  · intro h b hb h1
    exact h b (by omega) h1
  · intro h b hb h1
    rcases Nat.lt_or_ge b n with h2 | h2
    · exact h b h2 h1
    · have := Nat.testBit_lt_two_pow (Nat.lt_of_lt_of_le hm (Nat.pow_le_pow_right (by decide) h2))
      rw [this] at h1
      cases h1
theorem leadNear_n {near : Nat → Int32} {mk : Nat → Nat} {n s : Nat} (hn : n ≤ 11) (hs : s < 2 ^ 31) (hk : ∀ a, a < n → near a = nI (mk a) ∧ mk a < 2 ^ n) : f_X2_leadingOut_near (nI n) near (nI s) = some (nI (outM (fun a b => (mk a).testBit b) n s n)) := by
  unfold f_X2_leadingOut_near
  have h := loop_run (step := fun (t : Int32 × Int32) => f_X2_leadingOut_near_L5 (nI s) (nI n) near t.1 t.2) (fun k => (nI (outM (fun a b => (mk a).testBit b) n s k), nI k)) (x := nI (outM (fun a b => (mk a).testBit b) n s n)) n (fun k hk2 => ?_) ?_
  · exact (congrArg (fun o => o.bind fun x1 => some x1) h).trans rfl
  · show f_X2_leadingOut_near_L5 (nI s) (nI n) near (nI (outM (fun a b => (mk a).testBit b) n s k)) (nI k) = some (Sum.inl (nI (outM (fun a b => (mk a).testBit b) n s k ||| (if s.testBit k && anyOut (fun a b => (mk a).testBit b) s k n then 2 ^ k else 0)), nI (k + 1)))
    unfold f_X2_leadingOut_near_L5
    rw [if_neg (nI_ge hk2 (by omega)), holds_n hs (by omega), gi_n (by omega) (by omega), nI_1, one_shl (by omega), (hk k hk2).1]
    simp only [Option.bind_some]
    cases hb : s.testBit k with
    | false =>
      show some (Sum.inl (nI (outM (fun a b => (mk a).testBit b) n s k), nI (k + 1))) = some (Sum.inl (nI (outM (fun a b => (mk a).testBit b) n s k ||| 0), nI (k + 1)))
      rw [Nat.or_zero]
    | true =>
      by_cases hl : (nI (mk k) &&& (nI s ^^^ (-1 : Int32))) = 0
      · have ha : anyOut (fun a b => (mk a).testBit b) s k n = false := by
          cases hc : anyOut (fun a b => (mk a).testBit b) s k n with
          | false => rfl
          | true =>
            obtain ⟨b, h1, h2, h3⟩ := anyOut_iff.mp hc
            rw [(lead_iff hn (hk k hk2).2).mp hl b h1 h3] at h2
            cases h2
        rw [if_pos hl, ha]
        show some (Sum.inl (nI (outM (fun a b => (mk a).testBit b) n s k), nI (k + 1))) = some (Sum.inl (nI (outM (fun a b => (mk a).testBit b) n s k ||| 0), nI (k + 1)))
        rw [Nat.or_zero]
      · have ha : anyOut (fun a b => (mk a).testBit b) s k n = true := by
          cases hc : anyOut (fun a b => (mk a).testBit b) s k n with
          | true => rfl
          | false =>
            refine absurd ((lead_iff hn (hk k hk2).2).mpr (fun b h1 h3 => ?_)) hl
            cases h4 : s.testBit b with
            | true => rfl
            | false =>
              have : anyOut (fun a b => (mk a).testBit b) s k n = true := anyOut_iff.mpr ⟨b, h1, h4, h3⟩
              rw [hc] at this
              cases this
        rw [if_neg hl, ha]
        show some (Sum.inl (nI (outM (fun a b => (mk a).testBit b) n s k) ||| nI (2 ^ k), nI (k + 1))) = some (Sum.inl (nI (outM (fun a b => (mk a).testBit b) n s k ||| 2 ^ k), nI (k + 1)))
        rw [or_n]
  · show f_X2_leadingOut_near_L5 (nI s) (nI n) near (nI (outM (fun a b => (mk a).testBit b) n s n)) (nI n) = _
    unfold f_X2_leadingOut_near_L5
    rw [if_pos (nI_le (Nat.le_refl n) (by omega))]
theorem leadBehind_n {behind : Nat → Int32} {mk : Nat → Nat} {n s : Nat} (hn : n ≤ 11) (hs : s < 2 ^ 31) (hk : ∀ a, a < n → behind a = nI (mk a) ∧ mk a < 2 ^ n) : f_X2_leadingOut_behind (nI n) behind (nI s) = some (nI (outM (fun a b => (mk a).testBit b) n s n)) := by
  unfold f_X2_leadingOut_behind
  have h := loop_run (step := fun (t : Int32 × Int32) => f_X2_leadingOut_behind_L5 (nI s) (nI n) behind t.1 t.2) (fun k => (nI (outM (fun a b => (mk a).testBit b) n s k), nI k)) (x := nI (outM (fun a b => (mk a).testBit b) n s n)) n (fun k hk2 => ?_) ?_
  · exact (congrArg (fun o => o.bind fun x1 => some x1) h).trans rfl
  · show f_X2_leadingOut_behind_L5 (nI s) (nI n) behind (nI (outM (fun a b => (mk a).testBit b) n s k)) (nI k) = some (Sum.inl (nI (outM (fun a b => (mk a).testBit b) n s k ||| (if s.testBit k && anyOut (fun a b => (mk a).testBit b) s k n then 2 ^ k else 0)), nI (k + 1)))
    unfold f_X2_leadingOut_behind_L5
    rw [if_neg (nI_ge hk2 (by omega)), holds_n hs (by omega), gi_n (by omega) (by omega), nI_1, one_shl (by omega), (hk k hk2).1]
    simp only [Option.bind_some]
    cases hb : s.testBit k with
    | false =>
      show some (Sum.inl (nI (outM (fun a b => (mk a).testBit b) n s k), nI (k + 1))) = some (Sum.inl (nI (outM (fun a b => (mk a).testBit b) n s k ||| 0), nI (k + 1)))
      rw [Nat.or_zero]
    | true =>
      by_cases hl : (nI (mk k) &&& (nI s ^^^ (-1 : Int32))) = 0
      · have ha : anyOut (fun a b => (mk a).testBit b) s k n = false := by
          cases hc : anyOut (fun a b => (mk a).testBit b) s k n with
          | false => rfl
          | true =>
            obtain ⟨b, h1, h2, h3⟩ := anyOut_iff.mp hc
            rw [(lead_iff hn (hk k hk2).2).mp hl b h1 h3] at h2
            cases h2
        rw [if_pos hl, ha]
        show some (Sum.inl (nI (outM (fun a b => (mk a).testBit b) n s k), nI (k + 1))) = some (Sum.inl (nI (outM (fun a b => (mk a).testBit b) n s k ||| 0), nI (k + 1)))
        rw [Nat.or_zero]
      · have ha : anyOut (fun a b => (mk a).testBit b) s k n = true := by
          cases hc : anyOut (fun a b => (mk a).testBit b) s k n with
          | true => rfl
          | false =>
            refine absurd ((lead_iff hn (hk k hk2).2).mpr (fun b h1 h3 => ?_)) hl
            cases h4 : s.testBit b with
            | true => rfl
            | false =>
              have : anyOut (fun a b => (mk a).testBit b) s k n = true := anyOut_iff.mpr ⟨b, h1, h4, h3⟩
              rw [hc] at this
              cases this
        rw [if_neg hl, ha]
        show some (Sum.inl (nI (outM (fun a b => (mk a).testBit b) n s k) ||| nI (2 ^ k), nI (k + 1))) = some (Sum.inl (nI (outM (fun a b => (mk a).testBit b) n s k ||| 2 ^ k), nI (k + 1)))
        rw [or_n]
  · show f_X2_leadingOut_behind_L5 (nI s) (nI n) behind (nI (outM (fun a b => (mk a).testBit b) n s n)) (nI n) = _
    unfold f_X2_leadingOut_behind_L5
    rw [if_pos (nI_le (Nat.le_refl n) (by omega))]
theorem mayFollow_n {ahead : Nat → Int32} {m n s p : Nat} (hn : n ≤ 11) (hp : p < 11) (ha : ahead p = nI m) (hm : m < 2 ^ n) {q : Nat → Nat → Bool} (hq : ∀ a, a < n → q a p = m.testBit a) : f_X9_mayFollow ahead (nI p) (nI s) = some (b2I (allAhead q s p n)) := by
  unfold f_X9_mayFollow
  rw [gi_n hp (by omega), ha]
  simp only [Option.bind_some]
  by_cases hl : (nI m &&& (nI s ^^^ (-1 : Int32))) = 0
  · have h1 : allAhead q s p n = true := allAhead_iff.mpr (fun a h2 h3 => (lead_iff hn hm).mp hl a h2 (by rw [← hq a h2]; exact h3))
    rw [if_pos hl, h1]
    rfl
  · have h1 : allAhead q s p n = false := by
      cases hc : allAhead q s p n with
      | false => rfl
      | true => exact absurd ((lead_iff hn hm).mpr (fun b h2 h3 => allAhead_iff.mp hc b h2 (by rw [hq b h2]; exact h3))) hl
    rw [if_neg hl, h1]
    rfl
theorem weightOf_n {weights : Nat → Int32} {a b : Nat} (ha : a < 11) (hb : b < 11) : f_X9_weightOf weights (nI a) (nI b) = some (weights (11 * a + b)) := by
  unfold f_X9_weightOf
  rw [ix11', gi_n (by omega) (by omega)]
  rfl
