/-! LAYER 2: good -/
theorem BagsR_nums {size bags : Int32} {sets bag : Nat → Int32} (h : BagsR size bags sets bag) : ∃ (k : Nat) (S : Nat → Nat), k ≤ 20 ∧ size = nI k ∧ bags = nI k ∧ ∀ j, j < k → sets j = nI (S j) ∧ bag j = nI (S j) ∧ S j < 2048 := by
  obtain ⟨k, hk, e1, e2, e3⟩ := h
  refine ⟨k, fun j => if h : j < k then Classical.choose (e3 j h).2 else 0, hk, e1, e2, ?_⟩
  intro j hj
  simp only [dif_pos hj]
  have hs := Classical.choose_spec (e3 j hj).2
  exact ⟨(e3 j hj).1.trans hs.2, hs.2, hs.1⟩
/-- some bag below k has both -/
def tgB (S : Nat → Nat) (a b : Nat) : Nat → Bool
  | 0 => false
  | i + 1 => tgB S a b i || ((S i).testBit a && (S i).testBit b)
theorem tgB_iff {S : Nat → Nat} {a b : Nat} : ∀ {k : Nat}, tgB S a b k = true ↔ ∃ i, i < k ∧ (S i).testBit a = true ∧ (S i).testBit b = true
  | 0 => by simp [tgB]
  | k + 1 => by
    rw [tgB, Bool.or_eq_true, tgB_iff (k := k), Bool.and_eq_true]
    constructor
    · rintro (⟨i, h1, h2⟩ | h)
      · exact ⟨i, by omega, h2⟩
      · exact ⟨k, by omega, h⟩
    · rintro ⟨i, h1, h2⟩
      rcases Nat.lt_or_ge i k with h3 | h3
      · exact Or.inl ⟨i, h3, h2⟩
      · have : i = k := by omega
        subst this
        exact Or.inr h2
theorem two_in {s a b : Nat} : s &&& (2 ^ a ||| 2 ^ b) = 2 ^ a ||| 2 ^ b ↔ (s.testBit a = true ∧ s.testBit b = true) := by
  constructor
  · intro h
    have h1 : ∀ i, (2 ^ a ||| 2 ^ b).testBit i = true → s.testBit i = true := fun i hi => by
      rw [← h, Nat.testBit_and, Bool.and_eq_true] at hi
      exact hi.1
    exact ⟨h1 a (by rw [Nat.testBit_or, Nat.testBit_two_pow_self]; rfl), h1 b (by rw [Nat.testBit_or, Nat.testBit_two_pow_self, Bool.or_true])⟩
  · rintro ⟨h1, h2⟩
    apply Nat.eq_of_testBit_eq
    intro i
    rw [Nat.testBit_and, Nat.testBit_or, Nat.testBit_two_pow, Nat.testBit_two_pow]
    by_cases ha : a = i
    · subst ha
      rw [h1]
      rfl
    · by_cases hb : b = i
      · subst hb
        rw [h2]
        rfl
      · rw [decide_eq_false ha, decide_eq_false hb]
        simp
theorem together_n {sets : Nat → Int32} {S : Nat → Nat} {k a b : Nat} (hk : k ≤ 20) (ha : a < 11) (hb : b < 11) (hS : ∀ j, j < k → sets j = nI (S j) ∧ S j < 2048) : f_X0_together (nI k) sets (nI (2 ^ a ||| 2 ^ b)) = some (b2I (tgB S a b k)) := by
  unfold f_X0_together
  have h11 : 2 ^ a ||| 2 ^ b < 2 ^ 11 := Nat.or_lt_two_pow (Nat.pow_lt_pow_right (by decide) ha) (Nat.pow_lt_pow_right (by decide) hb)
  obtain ⟨v, h1, h2⟩ := loop_or (step := fun (s : Int32) => f_X0_together_L2 (nI (2 ^ a ||| 2 ^ b)) (nI k) sets s) (fun i s => s = nI i ∧ tgB S a b i = false) (fun v => v = b2I (tgB S a b k)) k (s := (0 : Int32)) (by
    rintro i s hi ⟨rfl, hs⟩
    try dsimp only
    unfold f_X0_together_L2
    rw [if_neg (nI_ge hi (by omega)), gi_n (by omega) (by omega), (hS i hi).1, nI_1]
    simp only [Option.bind_some]
    have hlt := (hS i hi).2
    rw [and_n]
    by_cases h : (S i).testBit a = true ∧ (S i).testBit b = true
    · refine Or.inr ⟨1, by rw [two_in.mpr h, if_pos rfl], ?_⟩
      rw [tgB_iff.mpr ⟨i, hi, h⟩]
      rfl
    · refine Or.inl ⟨nI (i + 1), ?_, rfl, ?_⟩
      · rw [if_neg]
        intro q
        refine h (two_in.mp ((nI_eq ?_ (by omega)).mp q))
        exact Nat.lt_of_le_of_lt Nat.and_le_left (by omega)
      · rw [tgB, hs, Bool.false_or]
        cases h1 : (S i).testBit a with
        | false => rfl
        | true =>
          cases h2 : (S i).testBit b with
          | false => rfl
          | true => exact absurd ⟨h1, h2⟩ h) (by
    rintro s ⟨rfl, hs⟩
    refine ⟨0, ?_, by rw [hs]; rfl⟩
    try dsimp only
    unfold f_X0_together_L2
    rw [if_pos (nI_le (Nat.le_refl k) (by omega))]) ⟨nI_0.symm, rfl⟩
  rw [h1, h2]
theorem areTogether_n {bag : Nat → Int32} {S : Nat → Nat} {k a b : Nat} (hk : k ≤ 20) (ha : a < 11) (hb : b < 11) (hS : ∀ j, j < k → bag j = nI (S j) ∧ S j < 2048) : f_X11_areTogether (nI k) bag (nI a) (nI b) = some (b2I (tgB S a b k)) := by
  unfold f_X11_areTogether
  have h : loopS (fun (s : Int32 × Int32) => f_X11_areTogether_L5 (nI a) (nI b) (nI k) bag s.1 s.2) ((0 : Int32), (0 : Int32)) = some (b2I (tgB S a b k)) := by
    refine loop_go (fun i => (b2I (tgB S a b i), nI i)) k rfl (fun i hi => ?_) ?_
    · try dsimp only
      unfold f_X11_areTogether_L5
      have hlt := (hS i hi).2
      rw [if_neg (nI_ge hi (by omega)), gi_n (by omega) (by omega), (hS i hi).1, nI_1, tgB]
      simp only [Option.bind_some]
      rw [has_n (by omega) (by omega), has_n (by omega) (by omega)]
      cases tgB S a b i <;> cases (S i).testBit a <;> cases (S i).testBit b <;> rfl
    · try dsimp only
      unfold f_X11_areTogether_L5
      rw [if_pos (nI_le (Nat.le_refl k) (by omega))]
  rw [h]
  cases tgB S a b k
  · show (bz 0).bind _ = _
    rw [bz0]; rfl
  · show (bz 1).bind _ = _
    rw [bz1]; rfl
/-- the first below n of which P says true -/
def firstQ (P : Nat → Bool) : Nat → Option Nat
  | 0 => none
  | n + 1 => match firstQ P n with
    | some j => some j
    | none => if P n then some n else none
theorem firstQ_none {P : Nat → Bool} : ∀ {n : Nat}, (∀ j, j < n → P j = false) → firstQ P n = none
  | 0, _ => rfl
  | n + 1, h => by rw [firstQ, firstQ_none (fun j hj => h j (by omega)), h n (by omega)]; rfl
theorem firstQ_some {P : Nat → Bool} {j : Nat} (h1 : P j = true) (h2 : ∀ i, i < j → P i = false) : ∀ {n : Nat}, j < n → firstQ P n = some j
  | 0, h => absurd h (by omega)
  | n + 1, h => by
    rcases Nat.lt_or_ge j n with h3 | h3
    · rw [firstQ, firstQ_some h1 h2 h3]
    · have : j = n := by omega
      subst this
      rw [firstQ, firstQ_none h2]
      show (if P j = true then some j else none) = some j
      rw [if_pos h1]
theorem firstQ_get {P : Nat → Bool} : ∀ {n : Nat}, firstQ P n = none → ∀ j, j < n → P j = false
  | 0, _, j, hj => absurd hj (by omega)
  | n + 1, h, j, hj => by
    rw [firstQ] at h
    cases hq : firstQ P n with
    | some i => rw [hq] at h; cases h
    | none =>
      rw [hq] at h
      cases hp : P n with
      | true => rw [hp] at h; cases h
      | false =>
        rcases Nat.lt_or_ge j n with h3 | h3
        · exact firstQ_get hq j h3
        · have : j = n := by omega
          rw [this, hp]
def encQ : Option Nat → Int32
  | none => (-1 : Int32)
  | some j => nI j
theorem firstQ_lt {P : Nat → Bool} : ∀ {n j : Nat}, firstQ P n = some j → j < n ∧ P j = true
  | 0, j, h => by cases h
  | n + 1, j, h => by
    rw [firstQ] at h
    cases hq : firstQ P n with
    | some i =>
      rw [hq] at h
      cases h
      have := firstQ_lt hq
      exact ⟨by omega, this.2⟩
    | none =>
      rw [hq] at h
      cases hp : P n with
      | false => rw [hp] at h; cases h
      | true =>
        rw [hp] at h
        cases h
        exact ⟨by omega, hp⟩
theorem firstBare_n {sets : Nat → Int32} {S : Nat → Nat} {k n : Nat} (hk : k ≤ 20) (hn : n ≤ 11) (hS : ∀ j, j < k → sets j = nI (S j) ∧ S j < 2048) : f_X0_firstBare (nI k) sets (nI n) = some (encQ (firstQ (fun p => !tgB S p p k) n)) := by
  unfold f_X0_firstBare
  obtain ⟨v, h1, h2⟩ := loop_or (step := fun (s : Int32) => f_X0_firstBare_L2 (nI n) (nI k) sets s) (fun i s => s = nI i ∧ ∀ j, j < i → (!tgB S j j k) = false) (fun v => v = encQ (firstQ (fun p => !tgB S p p k) n)) n (s := (0 : Int32)) (by
    rintro i s hi ⟨rfl, hs⟩
    try dsimp only
    unfold f_X0_firstBare_L2
    have ht := together_n (S := S) hk (show i < 11 by omega) (show i < 11 by omega) hS
    rw [Nat.or_self] at ht
    rw [if_neg (nI_ge hi (by omega)), one_shl (by omega), ht, nI_1]
    simp only [Option.bind_some]
    cases htg : tgB S i i k with
    | false =>
      refine Or.inr ⟨nI i, rfl, ?_⟩
      rw [firstQ_some (P := fun p => !tgB S p p k) (j := i) (by simp [htg]) hs hi]
      rfl
    | true =>
      refine Or.inl ⟨nI (i + 1), rfl, rfl, fun j hj => ?_⟩
      rcases Nat.lt_or_ge j i with h3 | h3
      · exact hs j h3
      · have : j = i := by omega
        rw [this, htg]
        rfl) (by
    rintro s ⟨rfl, hs⟩
    refine ⟨(-1 : Int32), ?_, by rw [firstQ_none (P := fun p => !tgB S p p k) hs]; rfl⟩
    try dsimp only
    unfold f_X0_firstBare_L2
    rw [if_pos (nI_le (Nat.le_refl n) (by omega))]) ⟨nI_0.symm, fun j hj => absurd hj (by omega)⟩
  rw [h1, h2]
/-- a road whose posts are in no bag together, as 11 a + b -/
def splQ (S : Nat → Nat) (k n : Nat) (rd : Nat → Nat → Int32) (c : Nat) : Bool := decide (c / 11 < c % 11 ∧ c % 11 < n) && (rdQ rd (c / 11) (c % 11) && !tgB S (c / 11) (c % 11) k)
theorem splQ_at {S : Nat → Nat} {k n : Nat} {rd : Nat → Nat → Int32} {a b : Nat} (hb : b < 11) : splQ S k n rd (11 * a + b) = (decide (a < b ∧ b < n) && (rdQ rd a b && !tgB S a b k)) := by
  unfold splQ
  rw [show (11 * a + b) / 11 = a by omega, show (11 * a + b) % 11 = b by omega]
theorem splitIn_n {sets weights : Nat → Int32} {S : Nat → Nat} {rd : Nat → Nat → Int32} {k n a : Nat} (hk : k ≤ 20) (hn : n ≤ 11) (ha : a < n) (hS : ∀ j, j < k → sets j = nI (S j) ∧ S j < 2048) (hw : ∀ a b, a < n → b < n → weights (11 * a + b) = rd a b) (h0 : ∀ c, c < 11 * a → splQ S k n rd c = false) : (loopS (fun (s : Int32) => f_X0_firstSplitRoad_L14 (nI a) (nI k) sets (nI n) weights s) (nI a + (1 : Int32)) = some (.inl (nI (a + 1))) ∧ ∀ c, c < 11 * (a + 1) → splQ S k n rd c = false) ∨ ∃ c, c < 121 ∧ loopS (fun (s : Int32) => f_X0_firstSplitRoad_L14 (nI a) (nI k) sets (nI n) weights s) (nI a + (1 : Int32)) = some (.inr (nI c)) ∧ splQ S k n rd c = true ∧ ∀ i, i < c → splQ S k n rd i = false := by
  obtain ⟨v, h1, h2⟩ := loop_or (step := fun (s : Int32) => f_X0_firstSplitRoad_L14 (nI a) (nI k) sets (nI n) weights s) (fun i s => s = nI (a + 1 + i) ∧ ∀ c, c < 11 * a + (a + 1 + i) → splQ S k n rd c = false) (fun v => (v = .inl (nI (a + 1)) ∧ ∀ c, c < 11 * (a + 1) → splQ S k n rd c = false) ∨ ∃ c, c < 121 ∧ v = .inr (nI c) ∧ splQ S k n rd c = true ∧ ∀ i, i < c → splQ S k n rd i = false) (n - (a + 1)) (s := nI a + (1 : Int32)) (by
    rintro i s hi ⟨rfl, hs⟩
    try dsimp only
    unfold f_X0_firstSplitRoad_L14
    rw [if_neg (nI_ge (by omega) (by omega)), weightOf_n (by omega) (by omega), hw a (a + 1 + i) ha (by omega), nI_1, one_shl (by omega), one_shl (by omega), or_n, together_n (S := S) hk (by omega) (by omega) hS, ix11]
    simp only [Option.bind_some]
    have hext : splQ S k n rd (11 * a + (a + 1 + i)) = false → ∀ c, c < 11 * a + (a + 1 + (i + 1)) → splQ S k n rd c = false := fun h c hc => by
      rcases Nat.lt_or_ge c (11 * a + (a + 1 + i)) with h3 | h3
      · exact hs c h3
      · have : c = 11 * a + (a + 1 + i) := by omega
        rw [this]
        exact h
    by_cases hz : rd a (a + 1 + i) ≤ 0
    · rw [if_pos hz]
      exact Or.inl ⟨nI (a + 1 + (i + 1)), rfl, rfl, hext (by rw [splQ_at (by omega), rdQ_f hz]; simp)⟩
    · rw [if_neg hz]
      cases htg : tgB S a (a + 1 + i) k with
      | false =>
        refine Or.inr ⟨.inr (nI (11 * a + (a + 1 + i))), rfl, Or.inr ⟨_, by omega, rfl, ?_, hs⟩⟩
        rw [splQ_at (by omega), rdQ_t hz, htg, decide_eq_true (by omega)]
        rfl
      | true =>
        exact Or.inl ⟨nI (a + 1 + (i + 1)), rfl, rfl, hext (by rw [splQ_at (by omega), htg]; simp)⟩) (by
    rintro s ⟨rfl, hs⟩
    refine ⟨.inl (nI (a + 1)), ?_, Or.inl ⟨rfl, fun c hc => ?_⟩⟩
    · try dsimp only
      unfold f_X0_firstSplitRoad_L14
      rw [if_pos (nI_le (by omega) (by omega)), nI_1]
    · rcases Nat.lt_or_ge c (11 * a + (a + 1 + (n - (a + 1)))) with h3 | h3
      · exact hs c h3
      · unfold splQ
        rw [decide_eq_false (by omega)]
        rfl) ⟨nI_1 a, fun c hc => by
      rcases Nat.lt_or_ge c (11 * a) with h3 | h3
      · exact h0 c h3
      · unfold splQ
        rw [decide_eq_false (by omega)]
        rfl⟩
  rcases h2 with ⟨rfl, h3⟩ | ⟨c, hc, rfl, h3, h4⟩
  · exact Or.inl ⟨h1, h3⟩
  · exact Or.inr ⟨c, hc, h1, h3, h4⟩
theorem split_end {S : Nat → Nat} {rd : Nat → Nat → Int32} {k n : Nat} (hn : n ≤ 11) (h : ∀ c, c < 11 * n → splQ S k n rd c = false) : ∀ c, c < 121 → splQ S k n rd c = false := fun c hc => by
  rcases Nat.lt_or_ge c (11 * n) with h3 | h3
  · exact h c h3
  · unfold splQ
    rw [decide_eq_false (by omega)]
    rfl
theorem firstSplit_n {sets weights : Nat → Int32} {S : Nat → Nat} {rd : Nat → Nat → Int32} {k n : Nat} (hk : k ≤ 20) (hn : n ≤ 11) (hS : ∀ j, j < k → sets j = nI (S j) ∧ S j < 2048) (hw : ∀ a b, a < n → b < n → weights (11 * a + b) = rd a b) : f_X0_firstSplitRoad (nI k) sets (nI n) weights = some (encQ (firstQ (splQ S k n rd) 121)) := by
  unfold f_X0_firstSplitRoad
  obtain ⟨v, h1, h2⟩ := loop_or (step := fun (s : Int32) => f_X0_firstSplitRoad_L2 (nI k) sets (nI n) weights s) (fun i s => s = nI i ∧ ∀ c, c < 11 * i → splQ S k n rd c = false) (fun v => v = encQ (firstQ (splQ S k n rd) 121)) n (s := (0 : Int32)) (by
    rintro i s hi ⟨rfl, hs⟩
    try dsimp only
    unfold f_X0_firstSplitRoad_L2
    rw [if_neg (nI_ge hi (by omega))]
    rcases splitIn_n hk hn hi hS hw hs with ⟨g1, g2⟩ | ⟨c, hc, g1, g2, g3⟩
    · exact Or.inl ⟨_, g1, rfl, g2⟩
    · refine Or.inr ⟨_, g1, ?_⟩
      rw [firstQ_some g2 g3 hc]
      rfl) (by
    rintro s ⟨rfl, hs⟩
    refine ⟨(-1 : Int32), ?_, by rw [firstQ_none (split_end hn hs)]; rfl⟩
    try dsimp only
    unfold f_X0_firstSplitRoad_L2
    rw [if_pos (nI_le (Nat.le_refl n) (by omega))]) ⟨nI_0.symm, fun j hj => absurd hj (by omega)⟩
  rw [h1, h2]
/-! whether bags follow one another -/
def prevB (t : Nat → Bool) : Nat → Bool
  | 0 => false
  | i + 1 => t i
def bgN (t : Nat → Bool) : Nat → Nat
  | 0 => 0
  | i + 1 => bgN t i + (if t i && !prevB t i then 1 else 0)
theorem bgN_le (t : Nat → Bool) : ∀ i, bgN t i ≤ i
  | 0 => Nat.le_refl 0
  | i + 1 => by
    rw [bgN]
    have := bgN_le t i
    cases (t i && !prevB t i)
    · simp only [Bool.false_eq_true, if_false]; omega
    · simp only [if_true]; omega
theorem beginnings_n {sets : Nat → Int32} {S : Nat → Nat} {k p : Nat} (hk : k ≤ 20) (hp : p < 11) (hS : ∀ j, j < k → sets j = nI (S j) ∧ S j < 2048) : f_X0_beginnings (nI k) sets (nI p) = some (nI (bgN (fun i => (S i).testBit p) k)) := by
  unfold f_X0_beginnings
  have h : loopS (fun (s : Int32 × Int32 × Int32) => f_X0_beginnings_L7 (nI p) (nI k) sets s.1 s.2.1 s.2.2) ((0 : Int32), (0 : Int32), (0 : Int32)) = some (nI (bgN (fun i => (S i).testBit p) k)) := by
    refine loop_go (fun i => (nI (bgN (fun i => (S i).testBit p) i), b2I (prevB (fun i => (S i).testBit p) i), nI i)) k rfl (fun i hi => ?_) ?_
    · try dsimp only
      unfold f_X0_beginnings_L7
      have hlt := (hS i hi).2
      rw [if_neg (nI_ge hi (by omega)), gi_n (by omega) (by omega), (hS i hi).1, nI_1, nI_1]
      simp only [Option.bind_some]
      rw [holds_n (by omega) (by omega)]
      show _ = some (Sum.inl (nI (bgN (fun i => (S i).testBit p) i + (if (S i).testBit p && !prevB (fun i => (S i).testBit p) i then 1 else 0)), b2I ((S i).testBit p), nI (i + 1)))
      cases (S i).testBit p <;> cases prevB (fun i => (S i).testBit p) i <;> rfl
    · try dsimp only
      unfold f_X0_beginnings_L7
      rw [if_pos (nI_le (Nat.le_refl k) (by omega))]
  rw [h]
  rfl
theorem doFollow_n {bag : Nat → Int32} {S : Nat → Nat} {k p : Nat} (hk : k ≤ 20) (hp : p < 11) (hS : ∀ j, j < k → bag j = nI (S j) ∧ S j < 2048) (hin : tgB S p p k = true) : f_X11_doFollow (nI k) bag (nI p) = some (b2I (decide (bgN (fun i => (S i).testBit p) k ≤ 1))) := by
  have h : ∃ x : Int32 × Int32 × Int32, loopS (fun (s : Int32 × Int32 × Int32 × Int32) => f_X11_doFollow_L11 (nI p) (nI k) bag s.1 s.2.1 s.2.2.1 s.2.2.2) ((20 : Int32), (-1 : Int32), (0 : Int32), (0 : Int32)) = some x ∧ ((∀ j, j < k → (S j).testBit p = false) ∨ ∃ f l c, f ≤ l ∧ l < k ∧ x = (nI f, nI l, nI c) ∧ 1 ≤ bgN (fun i => (S i).testBit p) k ∧ c ≤ l - f + 1 ∧ (bgN (fun i => (S i).testBit p) k = 1 ↔ c = l - f + 1)) := by
    refine loop_inv (fun i (s : Int32 × Int32 × Int32 × Int32) => (s = ((20 : Int32), (-1 : Int32), (0 : Int32), nI i) ∧ (∀ j, j < i → (S j).testBit p = false) ∧ bgN (fun i => (S i).testBit p) i = 0) ∨ ∃ f l c, f ≤ l ∧ l < i ∧ s = (nI f, nI l, nI c, nI i) ∧ 1 ≤ bgN (fun i => (S i).testBit p) i ∧ c ≤ l - f + 1 ∧ (bgN (fun i => (S i).testBit p) i = 1 ↔ c = l - f + 1) ∧ (prevB (fun i => (S i).testBit p) i = true ↔ l + 1 = i)) (fun x => (∀ j, j < k → (S j).testBit p = false) ∨ ∃ f l c, f ≤ l ∧ l < k ∧ x = (nI f, nI l, nI c) ∧ 1 ≤ bgN (fun i => (S i).testBit p) k ∧ c ≤ l - f + 1 ∧ (bgN (fun i => (S i).testBit p) k = 1 ↔ c = l - f + 1)) k ?_ ?_ (Or.inl ⟨rfl, fun j hj => absurd hj (by omega), rfl⟩)
    · intro i s hi hI
      have hlt := (hS i hi).2
      rcases hI with ⟨rfl, hz, hb0⟩ | ⟨f, l, c, h1, h2, rfl, h3, h4, h5, h6⟩
      · try dsimp only
        unfold f_X11_doFollow_L11
        rw [if_neg (nI_ge hi (by omega)), gi_n (by omega) (by omega), (hS i hi).1, nI_1 i]
        simp only [Option.bind_some]
        rw [has_n (by omega) (by omega)]
        have hprev : prevB (fun i => (S i).testBit p) i = false := by
          cases i with
          | zero => rfl
          | succ i => exact hz i (by omega)
        cases ht : (S i).testBit p with
        | false =>
          refine ⟨((20 : Int32), (-1 : Int32), (0 : Int32), nI (i + 1)), rfl, Or.inl ⟨rfl, fun j hj => ?_, ?_⟩⟩
          · rcases Nat.lt_or_ge j i with h3 | h3
            · exact hz j h3
            · have : j = i := by omega
              rw [this, ht]
          · rw [bgN, hb0, ht]
            rfl
        | true =>
          refine ⟨(nI i, nI i, nI 1, nI (i + 1)), ?_, Or.inr ⟨i, i, 1, by omega, by omega, rfl, ?_, by omega, ?_, ?_⟩⟩
          · simp only [if_true]
            rw [if_neg (show ¬ (20 : Int32) ≤ nI i from nI_ge (b := 20) (by omega) (by decide))]
            rfl
          · rw [bgN, hb0, ht, hprev]
            decide
          · rw [bgN, hb0, ht, hprev]
            simp
          · constructor
            · intro _; rfl
            · intro _; exact ht
      · try dsimp only
        unfold f_X11_doFollow_L11
        rw [if_neg (nI_ge hi (by omega)), gi_n (by omega) (by omega), (hS i hi).1, nI_1 i]
        simp only [Option.bind_some]
        rw [has_n (by omega) (by omega)]
        cases ht : (S i).testBit p with
        | false =>
          refine ⟨(nI f, nI l, nI c, nI (i + 1)), rfl, Or.inr ⟨f, l, c, h1, by omega, rfl, ?_, h4, ?_, ?_⟩⟩
          · rw [bgN, ht]
            exact h3
          · rw [bgN, ht]
            exact h5
          · constructor
            · intro q
              have q2 : (S i).testBit p = true := q
              rw [ht] at q2; cases q2
            · intro q; omega
        | true =>
          refine ⟨(nI f, nI i, nI (c + 1), nI (i + 1)), ?_, Or.inr ⟨f, i, c + 1, by omega, by omega, rfl, ?_, by omega, ?_, ?_⟩⟩
          · simp only [if_true]
            rw [if_pos (nI_le (by omega) (by omega)), nI_1]
            rfl
          · rw [bgN]; omega
          · rw [bgN, ht]
            cases hpv : prevB (fun i => (S i).testBit p) i with
            | true =>
              have := h6.mp hpv
              show bgN _ i + 0 = 1 ↔ _
              rw [Nat.add_zero, h5]
              omega
            | false =>
              have : ¬ l + 1 = i := fun q => by
                rw [h6.mpr q] at hpv; cases hpv
              show bgN _ i + 1 = 1 ↔ _
              omega
          · constructor
            · intro _; rfl
            · intro _; exact ht
    · intro s hI
      rcases hI with ⟨rfl, hz, hb0⟩ | ⟨f, l, c, h1, h2, rfl, h3, h4, h5, h6⟩
      · refine ⟨((20 : Int32), (-1 : Int32), (0 : Int32)), ?_, Or.inl hz⟩
        try dsimp only
        unfold f_X11_doFollow_L11
        rw [if_pos (nI_le (Nat.le_refl k) (by omega))]
      · refine ⟨(nI f, nI l, nI c), ?_, Or.inr ⟨f, l, c, h1, h2, rfl, h3, h4, h5⟩⟩
        try dsimp only
        unfold f_X11_doFollow_L11
        rw [if_pos (nI_le (Nat.le_refl k) (by omega))]
  obtain ⟨x, hx, hx2⟩ := h
  unfold f_X11_doFollow
  rw [hx]
  rcases hx2 with hz | ⟨f, l, c, h1, h2, rfl, h3, h4, h5⟩
  · obtain ⟨i, hi, h1, -⟩ := tgB_iff.mp hin
    rw [hz i hi] at h1
    cases h1
  · simp only [b3, Option.bind_some]
    rw [pk_sub h1, nI_1]
    by_cases hc : c = l - f + 1
    · rw [if_pos (by rw [hc]), decide_eq_true (by have := h5.mpr hc; omega)]
      rfl
    · rw [if_neg (fun q => hc ((nI_eq (by omega) (by omega)).mp q).symm), decide_eq_false (by intro q; exact hc (h5.mp (by omega)))]
      rfl
theorem firstTorn_n {sets : Nat → Int32} {S : Nat → Nat} {k n : Nat} (hk : k ≤ 20) (hn : n ≤ 11) (hS : ∀ j, j < k → sets j = nI (S j) ∧ S j < 2048) : f_X0_firstTorn (nI k) sets (nI n) = some (encQ (firstQ (fun p => !decide (bgN (fun i => (S i).testBit p) k ≤ 1)) n)) := by
  unfold f_X0_firstTorn
  obtain ⟨v, h1, h2⟩ := loop_or (step := fun (s : Int32) => f_X0_firstTorn_L2 (nI n) (nI k) sets s) (fun i s => s = nI i ∧ ∀ j, j < i → (!decide (bgN (fun i => (S i).testBit j) k ≤ 1)) = false) (fun v => v = encQ (firstQ (fun p => !decide (bgN (fun i => (S i).testBit p) k ≤ 1)) n)) n (s := (0 : Int32)) (by
    rintro i s hi ⟨rfl, hs⟩
    try dsimp only
    unfold f_X0_firstTorn_L2
    have hb := bgN_le (fun j => (S j).testBit i) k
    rw [if_neg (nI_ge hi (by omega)), beginnings_n (S := S) hk (by omega) hS, nI_1]
    simp only [Option.bind_some]
    by_cases htg : bgN (fun j => (S j).testBit i) k ≤ 1
    · refine Or.inl ⟨nI (i + 1), by rw [if_pos (show nI _ ≤ (1 : Int32) from nI_le (b := 1) htg (by decide))], rfl, fun j hj => ?_⟩
      rcases Nat.lt_or_ge j i with h3 | h3
      · exact hs j h3
      · have : j = i := by omega
        rw [this, decide_eq_true htg]
        rfl
    · refine Or.inr ⟨nI i, by rw [if_neg (show ¬ nI _ ≤ (1 : Int32) from nI_ge (a := 1) (by omega) (by omega))], ?_⟩
      rw [firstQ_some (P := fun p => !decide (bgN (fun i => (S i).testBit p) k ≤ 1)) (j := i) (by simp [htg]) hs hi]
      rfl) (by
    rintro s ⟨rfl, hs⟩
    refine ⟨(-1 : Int32), ?_, by rw [firstQ_none (P := fun p => !decide (bgN (fun i => (S i).testBit p) k ≤ 1)) hs]; rfl⟩
    try dsimp only
    unfold f_X0_firstTorn_L2
    rw [if_pos (nI_le (Nat.le_refl n) (by omega))]) ⟨nI_0.symm, fun j hj => absurd hj (by omega)⟩
  rw [h1, h2]
/-- what good() answers -/
def goodM (S : Nat → Nat) (k n : Nat) (rd : Nat → Nat → Int32) : Int32 :=
  match firstQ (fun p => !tgB S p p k) n with
  | some p => nI (100 + p)
  | none => match firstQ (splQ S k n rd) 121 with
    | some c => nI (200 + c)
    | none => match firstQ (fun p => !decide (bgN (fun i => (S i).testBit p) k ≤ 1)) n with
      | some p => nI (400 + p)
      | none => 0
theorem encQ_ne {j : Nat} (h : j < 2 ^ 31) : ¬ encQ (some j) = (-1 : Int32) := nI_m1 h
theorem fault_n {sets weights : Nat → Int32} {S : Nat → Nat} {rd : Nat → Nat → Int32} {k n : Nat} (hk : k ≤ 20) (hn : n ≤ 11) (hS : ∀ j, j < k → sets j = nI (S j) ∧ S j < 2048) (hw : ∀ a b, a < n → b < n → weights (11 * a + b) = rd a b) : f_X0_fault (nI k) sets (nI n) weights = some (goodM S k n rd) := by
  unfold f_X0_fault goodM
  rw [firstBare_n hk hn hS, firstSplit_n hk hn hS hw, firstTorn_n hk hn hS]
  simp only [Option.bind_some]
  cases h1 : firstQ (fun p => !tgB S p p k) n with
  | some p =>
    have := (firstQ_lt h1).1
    rw [if_neg (encQ_ne (by omega))]
    exact congrArg some (nI_add 100 p)
  | none =>
    rw [if_pos (show encQ none = (-1 : Int32) from rfl)]
    cases h2 : firstQ (splQ S k n rd) 121 with
    | some c =>
      have := (firstQ_lt h2).1
      rw [if_neg (encQ_ne (by omega))]
      exact congrArg some (nI_add 200 c)
    | none =>
      rw [if_pos (show encQ none = (-1 : Int32) from rfl)]
      cases h3 : firstQ (fun p => !decide (bgN (fun i => (S i).testBit p) k ≤ 1)) n with
      | some p =>
        have := (firstQ_lt h3).1
        rw [if_neg (encQ_ne (by omega))]
        exact congrArg some (nI_add 400 p)
      | none => rw [if_pos (show encQ none = (-1 : Int32) from rfl)]
/-! the reference's -/
theorem good95_n {bag : Nat → Int32} {S : Nat → Nat} {k n : Nat} (hk : k ≤ 20) (hn : n ≤ 11) (hS : ∀ j, j < k → bag j = nI (S j) ∧ S j < 2048) (hin : ∀ p, p < n → tgB S p p k = true) : loopS (fun (s : Int32) => f_X11_goodOf_L95 (nI n) (nI k) bag s) (0 : Int32) = some (.inr (.inr (match firstQ (fun p => !decide (bgN (fun i => (S i).testBit p) k ≤ 1)) n with
      | some p => nI (400 + p)
      | none => 0))) := by
  obtain ⟨v, h1, h2⟩ := loop_or (step := fun (s : Int32) => f_X11_goodOf_L95 (nI n) (nI k) bag s) (fun i s => s = nI i ∧ ∀ j, j < i → (!decide (bgN (fun i => (S i).testBit j) k ≤ 1)) = false) (fun v => v = .inr (.inr (match firstQ (fun p => !decide (bgN (fun i => (S i).testBit p) k ≤ 1)) n with
      | some p => nI (400 + p)
      | none => 0))) n (s := (0 : Int32)) (by
    rintro i s hi ⟨rfl, hs⟩
    try dsimp only
    unfold f_X11_goodOf_L95
    rw [if_neg (nI_ge hi (by omega)), doFollow_n (S := S) hk (by omega) hS (hin i hi), nI_1]
    simp only [Option.bind_some]
    by_cases htg : bgN (fun j => (S j).testBit i) k ≤ 1
    · rw [decide_eq_true htg]
      refine Or.inl ⟨nI (i + 1), rfl, rfl, fun j hj => ?_⟩
      rcases Nat.lt_or_ge j i with h3 | h3
      · exact hs j h3
      · have : j = i := by omega
        rw [this, decide_eq_true htg]
        rfl
    · rw [decide_eq_false htg]
      refine Or.inr ⟨.inr (.inr ((400 : Int32) + nI i)), rfl, ?_⟩
      rw [firstQ_some (P := fun p => !decide (bgN (fun i => (S i).testBit p) k ≤ 1)) (j := i) (by simp [htg]) hs hi]
      exact congrArg (fun x => Sum.inr (Sum.inr x)) (nI_add 400 i)) (by
    rintro s ⟨rfl, hs⟩
    refine ⟨.inr (.inr (0 : Int32)), ?_, by rw [firstQ_none (P := fun p => !decide (bgN (fun i => (S i).testBit p) k ≤ 1)) hs]⟩
    try dsimp only
    unfold f_X11_goodOf_L95
    rw [if_pos (nI_le (Nat.le_refl n) (by omega))]) ⟨nI_0.symm, fun j hj => absurd hj (by omega)⟩
  rw [h1, h2]
theorem goodIn_n {bag wide places weights : Nat → Int32} {S : Nat → Nat} {k n a : Nat} (hk : k ≤ 20) (hn : n ≤ 11) (ha : a < n) (hS : ∀ j, j < k → bag j = nI (S j) ∧ S j < 2048) (h0 : ∀ c, c < 11 * a → splQ S k n (rdM wide places weights) c = false) : (loopS (fun (s : Int32) => f_X11_goodOf_L44 (nI a) (nI n) (nI k) wide places weights bag s) (nI a + (1 : Int32)) = some (.inl (nI (a + 1))) ∧ ∀ c, c < 11 * (a + 1) → splQ S k n (rdM wide places weights) c = false) ∨ ∃ c, c < 121 ∧ loopS (fun (s : Int32) => f_X11_goodOf_L44 (nI a) (nI n) (nI k) wide places weights bag s) (nI a + (1 : Int32)) = some (.inr (.inr (nI (200 + c)))) ∧ splQ S k n (rdM wide places weights) c = true ∧ ∀ i, i < c → splQ S k n (rdM wide places weights) i = false := by
  obtain ⟨v, h1, h2⟩ := loop_or (step := fun (s : Int32) => f_X11_goodOf_L44 (nI a) (nI n) (nI k) wide places weights bag s) (fun i s => s = nI (a + 1 + i) ∧ ∀ c, c < 11 * a + (a + 1 + i) → splQ S k n (rdM wide places weights) c = false) (fun v => (v = .inl (nI (a + 1)) ∧ ∀ c, c < 11 * (a + 1) → splQ S k n (rdM wide places weights) c = false) ∨ ∃ c, c < 121 ∧ v = .inr (.inr (nI (200 + c))) ∧ splQ S k n (rdM wide places weights) c = true ∧ ∀ i, i < c → splQ S k n (rdM wide places weights) i = false) (n - (a + 1)) (s := nI a + (1 : Int32)) (by
    rintro i s hi ⟨rfl, hs⟩
    try dsimp only
    unfold f_X11_goodOf_L44
    rw [if_neg (nI_ge (by omega) (by omega)), roadOf_n (by omega) (by omega), nI_1, areTogether_n (S := S) hk (by omega) (by omega) hS]
    simp only [Option.bind_some]
    have hext : splQ S k n (rdM wide places weights) (11 * a + (a + 1 + i)) = false → ∀ c, c < 11 * a + (a + 1 + (i + 1)) → splQ S k n (rdM wide places weights) c = false := fun h c hc => by
      rcases Nat.lt_or_ge c (11 * a + (a + 1 + i)) with h3 | h3
      · exact hs c h3
      · have : c = 11 * a + (a + 1 + i) := by omega
        rw [this]
        exact h
    by_cases hz : rdM wide places weights a (a + 1 + i) ≤ 0
    · rw [if_pos hz]
      exact Or.inl ⟨nI (a + 1 + (i + 1)), rfl, rfl, hext (by rw [splQ_at (by omega), rdQ_f hz]; simp)⟩
    · rw [if_neg hz]
      cases htg : tgB S a (a + 1 + i) k with
      | false =>
        refine Or.inr ⟨.inr (.inr (nI (200 + (11 * a + (a + 1 + i))))), ?_, Or.inr ⟨_, by omega, rfl, ?_, hs⟩⟩
        · have e : (200 : Int32) + (11 : Int32) * nI a + nI (a + 1 + i) = nI (200 + (11 * a + (a + 1 + i))) := by
            rw [Int32.add_assoc, ix11]
            exact nI_add 200 _
          rw [e]
          rfl
        · rw [splQ_at (by omega), rdQ_t hz, htg, decide_eq_true (by omega)]
          rfl
      | true =>
        exact Or.inl ⟨nI (a + 1 + (i + 1)), rfl, rfl, hext (by rw [splQ_at (by omega), htg]; simp)⟩) (by
    rintro s ⟨rfl, hs⟩
    refine ⟨.inl (nI (a + 1)), ?_, Or.inl ⟨rfl, fun c hc => ?_⟩⟩
    · try dsimp only
      unfold f_X11_goodOf_L44
      rw [if_pos (nI_le (by omega) (by omega)), nI_1]
    · rcases Nat.lt_or_ge c (11 * a + (a + 1 + (n - (a + 1)))) with h3 | h3
      · exact hs c h3
      · unfold splQ
        rw [decide_eq_false (by omega)]
        rfl) ⟨nI_1 a, fun c hc => by
      rcases Nat.lt_or_ge c (11 * a) with h3 | h3
      · exact h0 c h3
      · unfold splQ
        rw [decide_eq_false (by omega)]
        rfl⟩
  rcases h2 with ⟨rfl, h3⟩ | ⟨c, hc, rfl, h3, h4⟩
  · exact Or.inl ⟨h1, h3⟩
  · exact Or.inr ⟨c, hc, h1, h3, h4⟩
theorem good32_n {bag wide places weights : Nat → Int32} {S : Nat → Nat} {k n : Nat} (hk : k ≤ 20) (hn : n ≤ 11) (hS : ∀ j, j < k → bag j = nI (S j) ∧ S j < 2048) (hin : ∀ p, p < n → tgB S p p k = true) : loopS (fun (s : Int32) => f_X11_goodOf_L32 (nI n) (nI k) wide places weights bag s) (0 : Int32) = some (.inr (match firstQ (splQ S k n (rdM wide places weights)) 121 with
    | some c => nI (200 + c)
    | none => match firstQ (fun p => !decide (bgN (fun i => (S i).testBit p) k ≤ 1)) n with
      | some p => nI (400 + p)
      | none => 0)) := by
  obtain ⟨v, h1, h2⟩ := loop_or (step := fun (s : Int32) => f_X11_goodOf_L32 (nI n) (nI k) wide places weights bag s) (fun i s => s = nI i ∧ ∀ c, c < 11 * i → splQ S k n (rdM wide places weights) c = false) (fun v => v = .inr (match firstQ (splQ S k n (rdM wide places weights)) 121 with
    | some c => nI (200 + c)
    | none => match firstQ (fun p => !decide (bgN (fun i => (S i).testBit p) k ≤ 1)) n with
      | some p => nI (400 + p)
      | none => 0)) n (s := (0 : Int32)) (by
    rintro i s hi ⟨rfl, hs⟩
    try dsimp only
    unfold f_X11_goodOf_L32
    rw [if_neg (nI_ge hi (by omega))]
    rcases goodIn_n hk hn hi hS hs with ⟨g1, g2⟩ | ⟨c, hc, g1, g2, g3⟩
    · exact Or.inl ⟨_, g1, rfl, g2⟩
    · refine Or.inr ⟨_, g1, ?_⟩
      rw [firstQ_some g2 g3 hc]) (by
    rintro s ⟨rfl, hs⟩
    refine ⟨_, ?_, by rw [firstQ_none (split_end hn hs)]⟩
    try dsimp only
    unfold f_X11_goodOf_L32
    rw [if_pos (nI_le (Nat.le_refl n) (by omega)), good95_n hk hn hS hin]) ⟨nI_0.symm, fun j hj => absurd hj (by omega)⟩
  rw [h1, h2]
theorem goodOf_n {bag wide places weights : Nat → Int32} {S : Nat → Nat} {k n : Nat} (hk : k ≤ 20) (hn : n ≤ 11) (hS : ∀ j, j < k → bag j = nI (S j) ∧ S j < 2048) : f_X11_goodOf (nI n) (nI k) wide places weights bag = some (goodM S k n (rdM wide places weights)) := by
  unfold f_X11_goodOf
  obtain ⟨v, h1, h2⟩ := loop_or (step := fun (s : Int32) => f_X11_goodOf_L2 (nI n) (nI k) wide places weights bag s) (fun i s => s = nI i ∧ ∀ j, j < i → (!tgB S j j k) = false) (fun v => v = goodM S k n (rdM wide places weights)) n (s := (0 : Int32)) (by
    rintro i s hi ⟨rfl, hs⟩
    try dsimp only
    unfold f_X11_goodOf_L2
    rw [if_neg (nI_ge hi (by omega)), areTogether_n (S := S) hk (by omega) (by omega) hS, nI_1]
    simp only [Option.bind_some]
    cases htg : tgB S i i k with
    | false =>
      refine Or.inr ⟨(100 : Int32) + nI i, rfl, ?_⟩
      unfold goodM
      rw [firstQ_some (P := fun p => !tgB S p p k) (j := i) (by simp [htg]) hs hi]
      exact nI_add 100 i
    | true =>
      refine Or.inl ⟨nI (i + 1), rfl, rfl, fun j hj => ?_⟩
      rcases Nat.lt_or_ge j i with h3 | h3
      · exact hs j h3
      · have : j = i := by omega
        rw [this, htg]
        rfl) (by
    rintro s ⟨rfl, hs⟩
    have hin : ∀ p, p < n → tgB S p p k = true := fun p hp => by
      have := hs p hp
      cases h : tgB S p p k with
      | true => rfl
      | false => rw [h] at this; cases this
    refine ⟨goodM S k n (rdM wide places weights), ?_, rfl⟩
    try dsimp only
    unfold f_X11_goodOf_L2
    rw [if_pos (nI_le (Nat.le_refl n) (by omega)), good32_n hk hn hS hin]
    unfold goodM
    rw [firstQ_none (P := fun p => !tgB S p p k) hs]) ⟨nI_0.symm, fun j hj => absurd hj (by omega)⟩
  rw [h1, h2]
theorem l2_good (x_x_net_posts : Int32) (x_x_net_pairs : Int32) (x_x_net_widths : Nat → Int32) (x_x_net_lengths : Nat → Int32) (x_x_net_told : Nat → Int32) (x_x_net_behind : Nat → Int32) (x_x_view_posts : Int32) (x_x_view_roads : Int32) (x_x_view_weight : Int32) (x_x_view_weights : Nat → Int32) (x_x_view_near : Nat → Int32) (x_x_view_behind : Nat → Int32) (x_x_view_ahead : Nat → Int32) (x_x_history_oldest : Int32) (x_x_history_size : Int32) (x_x_history_kept_posts : Nat → Int32) (x_x_history_kept_pairs : Nat → Int32) (x_x_history_kept_widths : Nat → Nat → Int32) (x_x_history_kept_lengths : Nat → Nat → Int32) (x_x_history_kept_told : Nat → Nat → Int32) (x_x_history_kept_behind : Nat → Nat → Int32) (x_x_hand_size : Int32) (x_x_hand_posts : Nat → Int32) (x_x_trial_size : Int32) (x_x_trial_posts : Nat → Int32) (x_x_bags_size : Int32) (x_x_bags_sets : Nat → Int32) (x_x_chase_size : Int32) (x_x_chase_guarded : Int32) (x_x_chase_most : Int32) (x_x_chase_again : Int32) (x_x_chase_idle : Int32) (x_x_chase_moves : Nat → Int32) (x_x_chase_foul : Nat → Int32) (x_x_sets_solvedFor : Int32) (x_x_sets_lowest : Int32) (x_x_sets_total : Int32) (x_x_sets_pricedFor : Int32) (x_x_sets_prices : Nat → Int32) (x_x_sets_rests : Nat → Int32) (x_x_sets_ways : Nat → Int32) (x_x_trials_solvedFor : Int32) (x_x_trials_lowest : Int32) (x_x_trials_total : Int32) (x_x_trials_found : Nat → Int32) (x_x_trials_row_size : Int32) (x_x_trials_row_posts : Nat → Int32) (x_m_thrown : Int32) (x_m_posts : Int32) (x_m_pairs : Int32) (x_m_keptEnd : Int32) (x_m_kept : Int32) (x_m_many : Int32) (x_m_bags : Int32) (x_m_moves : Int32) (x_m_pen : Int32) (x_m_savedMany : Int32) (x_m_leastRow : Int32) (x_m_bestRows : Int32) (x_m_askedRow : Int32) (x_m_rankOfSaved : Int32) (x_m_wallSet : Int32) (x_m_fouledAgain : Int32) (x_m_wide : Nat → Int32) (x_m_places : Nat → Int32) (x_m_weights : Nat → Int32) (x_m_pair : Nat → Int32) (x_m_old : Nat → Int32) (x_m_row : Nat → Int32) (x_m_bag : Nat → Int32) (x_m_hunt : Nat → Int32) (x_m_behind : Nat → Int32) (x_m_least : Nat → Int32) (x_m_ways : Nat → Int32) (x_m_saved : Nat → Int32) (x_m_kth : Nat → Int32) (x_m_clean : Nat → Int32) (h : Rel x_x_net_posts x_x_net_pairs x_x_net_widths x_x_net_lengths x_x_net_told x_x_net_behind x_x_view_posts x_x_view_roads x_x_view_weight x_x_view_weights x_x_view_near x_x_view_behind x_x_view_ahead x_x_history_oldest x_x_history_size x_x_history_kept_posts x_x_history_kept_pairs x_x_history_kept_widths x_x_history_kept_lengths x_x_history_kept_told x_x_history_kept_behind x_x_hand_size x_x_hand_posts x_x_trial_size x_x_trial_posts x_x_bags_size x_x_bags_sets x_x_chase_size x_x_chase_guarded x_x_chase_most x_x_chase_again x_x_chase_idle x_x_chase_moves x_x_chase_foul x_x_sets_solvedFor x_x_sets_lowest x_x_sets_total x_x_sets_pricedFor x_x_sets_prices x_x_sets_rests x_x_sets_ways x_x_trials_solvedFor x_x_trials_lowest x_x_trials_total x_x_trials_found x_x_trials_row_size x_x_trials_row_posts x_m_thrown x_m_posts x_m_pairs x_m_keptEnd x_m_kept x_m_many x_m_bags x_m_moves x_m_pen x_m_savedMany x_m_leastRow x_m_bestRows x_m_askedRow x_m_rankOfSaved x_m_wallSet x_m_fouledAgain x_m_wide x_m_places x_m_weights x_m_pair x_m_old x_m_row x_m_bag x_m_hunt x_m_behind x_m_least x_m_ways x_m_saved x_m_kth x_m_clean) : ∃ (r : Int32) (o_m_thrown : Int32), f_X10_good x_x_view_posts x_x_view_weights x_x_bags_size x_x_bags_sets = some r ∧ f_X11_good x_m_thrown x_m_posts x_m_bags x_m_wide x_m_places x_m_weights x_m_bag = some (r, o_m_thrown) ∧ Rel x_x_net_posts x_x_net_pairs x_x_net_widths x_x_net_lengths x_x_net_told x_x_net_behind x_x_view_posts x_x_view_roads x_x_view_weight x_x_view_weights x_x_view_near x_x_view_behind x_x_view_ahead x_x_history_oldest x_x_history_size x_x_history_kept_posts x_x_history_kept_pairs x_x_history_kept_widths x_x_history_kept_lengths x_x_history_kept_told x_x_history_kept_behind x_x_hand_size x_x_hand_posts x_x_trial_size x_x_trial_posts x_x_bags_size x_x_bags_sets x_x_chase_size x_x_chase_guarded x_x_chase_most x_x_chase_again x_x_chase_idle x_x_chase_moves x_x_chase_foul x_x_sets_solvedFor x_x_sets_lowest x_x_sets_total x_x_sets_pricedFor x_x_sets_prices x_x_sets_rests x_x_sets_ways x_x_trials_solvedFor x_x_trials_lowest x_x_trials_total x_x_trials_found x_x_trials_row_size x_x_trials_row_posts o_m_thrown x_m_posts x_m_pairs x_m_keptEnd x_m_kept x_m_many x_m_bags x_m_moves x_m_pen x_m_savedMany x_m_leastRow x_m_bestRows x_m_askedRow x_m_rankOfSaved x_m_wallSet x_m_fouledAgain x_m_wide x_m_places x_m_weights x_m_pair x_m_old x_m_row x_m_bag x_m_hunt x_m_behind x_m_least x_m_ways x_m_saved x_m_kth x_m_clean := by
  obtain ⟨n, h1, h2, h3, h4, h5, h6, h7, h8⟩ := h
  have hn : n ≤ 11 := h1.1
  have ep := h1.2.1
  have em := h1.2.2.1
  subst ep
  subst em
  have d10 : ¬ (1 : Int32) = 0 := by decide
  obtain ⟨k, S, hk, e1, e2, e3⟩ := BagsR_nums h5
  have ev := h2.1
  have hww := h2.2.2.2.1
  refine ⟨goodM S k n (rdM x_m_wide x_m_places x_m_weights), 0, ?_, ?_, Rel_mk h1 h2 h3 h4 h5 h6 h7 h8⟩
  · unfold f_X10_good
    rw [ev, e1, fault_n hk hn (fun j hj => ⟨(e3 j hj).1, (e3 j hj).2.2⟩) (fun a b ha hb => by rw [hww a b (by omega) (by omega), if_pos ⟨ha, hb⟩])]
    rfl
  · unfold f_X11_good
    rw [e2, goodOf_n hk hn (fun j hj => (e3 j hj).2)]
    rfl
