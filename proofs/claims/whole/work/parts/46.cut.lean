/-! LAYER 2: sums; the cut of a set and one post more -/
def sumI (f : Nat → Int32) : Nat → Int32
  | 0 => 0
  | k + 1 => sumI f k + f k
theorem sumI_congr {f g : Nat → Int32} : ∀ {n : Nat}, (∀ k, k < n → f k = g k) → sumI f n = sumI g n
  | 0, _ => rfl
  | n + 1, h => by rw [sumI, sumI, sumI_congr (fun k hk => h k (by omega)), h n (by omega)]
theorem sumI_add (f g : Nat → Int32) : ∀ n, sumI (fun k => f k + g k) n = sumI f n + sumI g n
  | 0 => rfl
  | n + 1 => by
    rw [sumI, sumI, sumI, sumI_add f g n]
    ac_rfl
theorem sumI_zero : ∀ n, sumI (fun _ => 0) n = 0
  | 0 => rfl
  | n + 1 => by rw [sumI, sumI_zero n]; rfl
theorem sumI_point (p : Nat) (v : Int32) : ∀ n, sumI (fun k => if k = p then v else 0) n = if p < n then v else 0
  | 0 => rfl
  | n + 1 => by
    rw [sumI, sumI_point p v n]
    by_cases h1 : p < n
    · rw [if_pos h1, if_neg (by omega), if_pos (by omega), Int32.add_zero]
    · rw [if_neg h1, Int32.zero_add]
      by_cases h2 : n = p
      · rw [if_pos h2, if_pos (by omega)]
      · rw [if_neg h2, if_neg (by omega)]
theorem cutRow_sum (rd : Nat → Nat → Int32) (s a : Nat) : ∀ n, cutRow rd s a n = sumI (fun b => if s.testBit b then 0 else rd a b) n
  | 0 => rfl
  | n + 1 => by rw [cutRow, sumI, cutRow_sum rd s a n]
theorem cutM_sum (rd : Nat → Nat → Int32) (n s : Nat) : ∀ k, cutM rd n s k = sumI (fun a => if s.testBit a then cutRow rd s a n else 0) k
  | 0 => rfl
  | k + 1 => by rw [cutM, sumI, cutM_sum rd n s k]
theorem tb_or (s p b : Nat) : (s ||| 2 ^ p).testBit b = (s.testBit b || decide (p = b)) := by rw [Nat.testBit_or, Nat.testBit_two_pow]
theorem cutRow_more {rd : Nat → Nat → Int32} {n s p a : Nat} (hp : p < n) (hps : s.testBit p = false) : cutRow rd (s ||| 2 ^ p) a n + rd a p = cutRow rd s a n := by
  have e : rd a p = sumI (fun b => if b = p then rd a p else 0) n := by rw [sumI_point, if_pos hp]
  rw [cutRow_sum, cutRow_sum]
  conv => lhs; rw [e]
  rw [← sumI_add]
  apply sumI_congr
  intro b hb
  rw [tb_or]
  by_cases h : b = p
  · subst h
    rw [hps, if_pos rfl]
    simp
  · rw [if_neg h, decide_eq_false (fun q => h q.symm), Bool.or_false, Int32.add_zero]
theorem sub_of {x y z : Int32} (h : x + y = z) : x = z + -y := by rw [← h, Int32.add_assoc, Int32.add_right_neg, Int32.add_zero]
theorem cut_more {rd : Nat → Nat → Int32} {n s p : Nat} (hp : p < n) (hps : s.testBit p = false) (hsym : ∀ a b, rd a b = rd b a) (hpp : rd p p = 0) : cutM rd n (s ||| 2 ^ p) n = cutM rd n s n + sumI (fun b => if s.testBit b then -rd p b else rd p b) n := by
  have hP : cutRow rd (s ||| 2 ^ p) p n = sumI (fun b => if s.testBit b then 0 else rd p b) n := by
    rw [cutRow_sum]
    apply sumI_congr
    intro b hb
    rw [tb_or]
    by_cases h : p = b
    · subst h
      rw [hps]
      simp [hpp]
    · rw [decide_eq_false h, Bool.or_false]
  have e1 : sumI (fun b => if s.testBit b then -rd p b else rd p b) n = sumI (fun b => if s.testBit b then -rd p b else 0) n + sumI (fun b => if s.testBit b then 0 else rd p b) n := by
    rw [← sumI_add]
    apply sumI_congr
    intro b hb
    cases s.testBit b
    · simp
    · simp
  have e2 : sumI (fun b => if s.testBit b then 0 else rd p b) n = sumI (fun a => if a = p then cutRow rd (s ||| 2 ^ p) p n else 0) n := by rw [sumI_point, if_pos hp, hP]
  rw [e1, e2, cutM_sum, cutM_sum, ← sumI_add, ← sumI_add]
  apply sumI_congr
  intro a ha
  rw [tb_or]
  by_cases h : a = p
  · subst h
    rw [hps, if_pos rfl]
    simp
  · rw [if_neg h, decide_eq_false (fun q => h q.symm), Bool.or_false, Int32.add_zero]
    cases hs : s.testBit a with
    | false => simp
    | true =>
      simp only [if_true]
      rw [hsym p a]
      exact sub_of (cutRow_more hp hps)
theorem priceCut_n {weights near behind : Nat → Int32} {n s p : Nat} {cost price : Int32} (hn : n ≤ 11) (hs : s < 2 ^ 31) (hp : p < 11) (h2 : ¬ cost = 2) (h5 : ¬ cost = 5) : f_X2_priceWith (nI n) weights near behind cost price (nI s) (nI p) = some (price + sumI (fun b => if s.testBit b then -weights (11 * p + b) else weights (11 * p + b)) n) := by
  unfold f_X2_priceWith
  rw [if_neg h2, if_neg h5]
  have h := loop_run (step := fun (t : Int32 × Int32) => f_X2_priceWith_L58 (nI s) (nI p) (nI n) weights t.1 t.2) (fun k => (price + sumI (fun b => if s.testBit b then -weights (11 * p + b) else weights (11 * p + b)) k, nI k)) (x := price + sumI (fun b => if s.testBit b then -weights (11 * p + b) else weights (11 * p + b)) n) n (fun k hk => ?_) ?_
  · have e1 : loopS (fun (t : Int32 × Int32) => f_X2_priceWith_L58 (nI s) (nI p) (nI n) weights t.1 t.2) (price, (0 : Int32)) = some (price + sumI (fun b => if s.testBit b then -weights (11 * p + b) else weights (11 * p + b)) n) := by
      rw [← h]
      show _ = loopS _ (price + 0, nI 0)
      rw [Int32.add_zero]
      rfl
    rw [e1]
    rfl
  · show f_X2_priceWith_L58 (nI s) (nI p) (nI n) weights (price + sumI (fun b => if s.testBit b then -weights (11 * p + b) else weights (11 * p + b)) k) (nI k) = some (Sum.inl (price + (sumI (fun b => if s.testBit b then -weights (11 * p + b) else weights (11 * p + b)) k + (if s.testBit k then -weights (11 * p + k) else weights (11 * p + k))), nI (k + 1)))
    unfold f_X2_priceWith_L58
    rw [if_neg (nI_ge hk (by omega)), weightOf_n (by omega) (by omega), holds_n hs (by omega), nI_1, ← Int32.add_assoc]
    cases s.testBit k <;> rfl
  · show f_X2_priceWith_L58 (nI s) (nI p) (nI n) weights (price + sumI (fun b => if s.testBit b then -weights (11 * p + b) else weights (11 * p + b)) n) (nI n) = _
    unfold f_X2_priceWith_L58
    rw [if_pos (nI_le (Nat.le_refl n) (by omega))]
