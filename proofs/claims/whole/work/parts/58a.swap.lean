/-! LAYER 2: sums in the other order -/
theorem sumI_swap (f : Nat → Nat → Int32) : ∀ (n m : Nat), sumI (fun a => sumI (fun b => f a b) m) n = sumI (fun b => sumI (fun a => f a b) n) m
  | 0, m => by
    show (0 : Int32) = sumI (fun _ => 0) m
    rw [sumI_zero]
  | n + 1, m => by
    rw [sumI, sumI_swap f n m, ← sumI_add]
    apply sumI_congr
    intro b _
    rfl
/-- what a symmetric table has below its diagonal it has above it -/
theorem sumI_tri {rd : Nat → Nat → Int32} (hs : ∀ a b, rd a b = rd b a) (n : Nat) : sumI (fun a => sumI (fun b => if b < a then rd a b else 0) n) n = sumI (fun a => sumI (fun b => if a < b then rd a b else 0) n) n := by
  rw [sumI_swap]
  apply sumI_congr
  intro a _
  apply sumI_congr
  intro b _
  rw [hs b a]
/-- a sum that stops early -/
theorem sumI_stop (f : Nat → Int32) (k : Nat) : ∀ n, k ≤ n → sumI (fun b => if b < k then f b else 0) n = sumI f k
  | 0, h => by
    have : k = 0 := by omega
    subst this
    rfl
  | n + 1, h => by
    rcases Nat.lt_or_ge k (n + 1) with h1 | h1
    · rw [sumI, sumI_stop f k n (by omega), if_neg (by omega), Int32.add_zero]
    · have : k = n + 1 := by omega
      subst this
      apply sumI_congr
      intro b hb
      rw [if_pos hb]
theorem weightM_low {rd : Nat → Nat → Int32} (hs : ∀ a b, rd a b = rd b a) (n : Nat) : sumI (fun a => sumI (fun b => rd a b) a) n = weightM rd n := by
  unfold weightM
  rw [← sumI_tri hs]
  apply sumI_congr
  intro a ha
  rw [sumI_stop _ _ _ (by omega)]
