/-! LAYER 2, pure: numbers, arrays, loops -/
theorem gi_n {f : Nat → Int32} {n k : Nat} (h : k < n) (hn : n ≤ 100000) : gi f n (nI k) = some (f k) := by
  unfold gi
  rw [if_neg (nI_in h (by omega)), nI_clamp (by omega)]
theorem si_n {f : Nat → Int32} {n k : Nat} {x : Int32} (h : k < n) (hn : n ≤ 100000) : si f n (nI k) x = some (upd f k x) := by
  unfold si
  rw [if_neg (nI_in h (by omega)), nI_clamp (by omega)]
theorem sb_n {f : Nat → Int32} {n k : Nat} {x : Int32} (h : k < n) (hn : n ≤ 100000) : sb f n (nI k) x = some (upd f k (vp_nar .boolean x)) := by
  unfold sb
  rw [if_neg (nI_in h (by omega)), nI_clamp (by omega)]
theorem vz0 : vp_nar .boolean 0 = 0 := by decide +kernel
theorem vz1 : vp_nar .boolean 1 = 1 := by decide +kernel
theorem bz0 : bz 0 = some 0 := by decide +kernel
theorem bz1 : bz 1 = some 1 := by decide +kernel
theorem cp_n {f g : Nat → Int32} {n0 n1 a b k : Nat} (h0 : a + k ≤ n0) (h1 : b + k ≤ n1) (hn0 : n0 ≤ 100000) (hn1 : n1 ≤ 100000) : cp f n0 g n1 (nI a) (nI b) (nI k) = some (va_cpy f g a b k) := by
  unfold cp
  rw [nI_clamp (by omega), nI_clamp (by omega), nI_clamp (by omega), if_neg]
  intro h
  rcases h with h | h | h | h | h
  · exact nI_pos (by omega) h
  · exact nI_pos (by omega) h
  · exact nI_pos (by omega) h
  · omega
  · omega
theorem g8_n {k : Nat} (h : k < 8) : g8 (nI k) = some k := by
  unfold g8
  rw [if_neg (nI_in h (by omega)), nI_clamp (by omega)]
/-- a loop whose states are known one by one -/
theorem loop_run {S X : Type} {step : S → Option (S ⊕ X)} (run : Nat → S) {x : X} (N : Nat) (h : ∀ k, k < N → step (run k) = some (.inl (run (k + 1)))) (hx : step (run N) = some (.inr x)) : loopS step (run 0) = some x := by
  have key : ∀ j, j ≤ N → loopS step (run (N - j)) = some x := by
    intro j
    induction j with
    | zero => intro _; rw [loopS_eq, Nat.sub_zero, hx]; rfl
    | succ j ih =>
      intro hj
      rw [loopS_eq, h (N - (j + 1)) (by omega), show N - (j + 1) + 1 = N - j by omega]
      exact ih (by omega)
  have := key N (Nat.le_refl N)
  rwa [Nat.sub_self] at this
/-- a loop with an invariant, turn by turn -/
theorem loop_inv {S X : Type} {step : S → Option (S ⊕ X)} (I : Nat → S → Prop) (P : X → Prop) (N : Nat) (hs : ∀ k s, k < N → I k s → ∃ s', step s = some (.inl s') ∧ I (k + 1) s') (hx : ∀ s, I N s → ∃ x, step s = some (.inr x) ∧ P x) {s : S} (h0 : I 0 s) : ∃ x, loopS step s = some x ∧ P x := by
  have key : ∀ j, j ≤ N → ∀ s, I (N - j) s → ∃ x, loopS step s = some x ∧ P x := by
    intro j
    induction j with
    | zero =>
      intro _ s hI
      obtain ⟨x, h1, h2⟩ := hx s hI
      exact ⟨x, by rw [loopS_eq, h1]; rfl, h2⟩
    | succ j ih =>
      intro hj s hI
      obtain ⟨s', h1, h2⟩ := hs (N - (j + 1)) s (by omega) hI
      rw [show N - (j + 1) + 1 = N - j by omega] at h2
      obtain ⟨x, h3, h4⟩ := ih (by omega) s' h2
      exact ⟨x, by rw [loopS_eq, h1]; exact h3, h4⟩
  exact key N (Nat.le_refl N) s (by rw [Nat.sub_self]; exact h0)
/-- a loop that may leave early: each turn goes on, or leaves with what is wanted -/
theorem loop_or {S X : Type} {step : S → Option (S ⊕ X)} (I : Nat → S → Prop) (P : X → Prop) (N : Nat) (hs : ∀ k s, k < N → I k s → (∃ s', step s = some (.inl s') ∧ I (k + 1) s') ∨ ∃ x, step s = some (.inr x) ∧ P x) (hx : ∀ s, I N s → ∃ x, step s = some (.inr x) ∧ P x) {s : S} (h0 : I 0 s) : ∃ x, loopS step s = some x ∧ P x := by
  have key : ∀ j, j ≤ N → ∀ s, I (N - j) s → ∃ x, loopS step s = some x ∧ P x := by
    intro j
    induction j with
    | zero =>
      intro _ s hI
      obtain ⟨x, h1, h2⟩ := hx s hI
      exact ⟨x, by rw [loopS_eq, h1]; rfl, h2⟩
    | succ j ih =>
      intro hj s hI
      rcases hs (N - (j + 1)) s (by omega) hI with ⟨s', h1, h2⟩ | ⟨x, h1, h2⟩
      · rw [show N - (j + 1) + 1 = N - j by omega] at h2
        obtain ⟨x, h3, h4⟩ := ih (by omega) s' h2
        exact ⟨x, by rw [loopS_eq, h1]; exact h3, h4⟩
      · exact ⟨x, by rw [loopS_eq, h1]; rfl, h2⟩
  exact key N (Nat.le_refl N) s (by rw [Nat.sub_self]; exact h0)
/-! bits of small sets -/
theorem sl_n : ∀ n, n < 32 → ((nI n &&& 31).toBitVec.smod 32).toNat = n := by decide +kernel
theorem or_n (a b : Nat) : nI a ||| nI b = nI (a ||| b) := by
  apply Int32.toBitVec_inj.1
  show BitVec.ofNat 32 a ||| BitVec.ofNat 32 b = BitVec.ofNat 32 (a ||| b)
  apply BitVec.eq_of_getLsbD_eq
  intro i hi
  simp [hi]
theorem and_n (a b : Nat) : nI a &&& nI b = nI (a &&& b) := by
  apply Int32.toBitVec_inj.1
  show BitVec.ofNat 32 a &&& BitVec.ofNat 32 b = BitVec.ofNat 32 (a &&& b)
  apply BitVec.eq_of_getLsbD_eq
  intro i hi
  simp [hi]
theorem xor_n (a b : Nat) : nI a ^^^ nI b = nI (a ^^^ b) := by
  apply Int32.toBitVec_inj.1
  show BitVec.ofNat 32 a ^^^ BitVec.ofNat 32 b = BitVec.ofNat 32 (a ^^^ b)
  apply BitVec.eq_of_getLsbD_eq
  intro i hi
  simp [hi]
theorem one_shl {p : Nat} (h : p < 31) : (1 : Int32) <<< (nI p &&& 31) = nI (2 ^ p) := by
  have h2 : 2 ^ p < 2 ^ 31 := Nat.pow_lt_pow_right (by decide) h
  have := pk_shlN (n := 1) (nI p &&& 31) p (sl_n p (by omega)) (by omega)
  rw [Nat.one_mul] at this
  exact this
theorem shr_n {s p : Nat} (hs : s < 2 ^ 31) (hp : p < 32) : nI s >>> (nI p &&& 31) = nI (s / 2 ^ p) := pk_shrN hs (nI p &&& 31) p (sl_n p hp)
theorem and1_n {n : Nat} (h : n < 2 ^ 31) : nI n &&& 1 = nI (n % 2) := pk_andN (by omega) 1 (by decide)
theorem bit_n {s p : Nat} (hs : s < 2 ^ 31) (hp : p < 32) : (nI s >>> (nI p &&& 31)) &&& (1 : Int32) = if s.testBit p then 1 else 0 := by
  rw [shr_n hs hp, and1_n (Nat.lt_of_le_of_lt (Nat.div_le_self _ _) hs), Nat.testBit_eq_decide_div_mod_eq]
  have h2 := Nat.mod_two_eq_zero_or_one (s / 2 ^ p)
  rcases h2 with h | h
  · rw [h]; rfl
  · rw [h]; rfl
theorem holds_n {s p : Nat} (hs : s < 2 ^ 31) (hp : p < 32) : f_X10_holds (nI s) (nI p) = some (if s.testBit p then 1 else 0) := by
  unfold f_X10_holds
  rw [bit_n hs hp]
  cases s.testBit p <;> rfl
theorem has_n {s p : Nat} (hs : s < 2 ^ 31) (hp : p < 32) : f_X11_has (nI s) (nI p) = some (if s.testBit p then 1 else 0) := by
  unfold f_X11_has
  rw [bit_n hs hp]
  cases s.testBit p <;> rfl
/-- the number of the bits below k -/
def pcN (s : Nat) : Nat → Nat
  | 0 => 0
  | k + 1 => pcN s k + (if s.testBit k then 1 else 0)
theorem bitCount_n : ∀ s, s < 2048 → f_J6_bitCount_0f7a4 (nI s) = some (nI (pcN s 11)) := by decide +kernel
