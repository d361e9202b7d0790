/-! LAYER 2: whether a row is whole -/
def allLt (F : Nat → Nat) (n : Nat) : Nat → Bool
  | 0 => true
  | j + 1 => allLt F n j && decide (F j < n)
theorem allLt_iff {F : Nat → Nat} {n : Nat} : ∀ {k : Nat}, allLt F n k = true ↔ ∀ j, j < k → F j < n
  | 0 => by simp [allLt]
  | k + 1 => by
    rw [allLt, Bool.and_eq_true, allLt_iff (k := k), decide_eq_true_eq]
    constructor
    · rintro ⟨h1, h2⟩ j hj
      rcases Nat.lt_or_ge j k with h3 | h3
      · exact h1 j h3
      · have : j = k := by omega
        subst this
        exact h2
    · intro h
      exact ⟨fun j hj => h j (by omega), h k (by omega)⟩
def setM (F : Nat → Nat) : Nat → Nat
  | 0 => 0
  | j + 1 => setM F j ||| 2 ^ F j
theorem setM_tb {F : Nat → Nat} {y : Nat} : ∀ {k : Nat}, (setM F k).testBit y = true ↔ ∃ j, j < k ∧ F j = y
  | 0 => by simp [setM]
  | k + 1 => by
    rw [setM, tb_or, Bool.or_eq_true, setM_tb (k := k), decide_eq_true_eq]
    constructor
    · rintro (⟨j, h1, h2⟩ | h)
      · exact ⟨j, by omega, h2⟩
      · exact ⟨k, by omega, h⟩
    · rintro ⟨j, h1, h2⟩
      rcases Nat.lt_or_ge j k with h3 | h3
      · exact Or.inl ⟨j, h3, h2⟩
      · have : j = k := by omega
        subst this
        exact Or.inr h2
theorem setM_lt {F : Nat → Nat} : ∀ {k : Nat}, (∀ j, j < k → F j < 11) → setM F k < 2 ^ 11
  | 0, _ => by simp [setM]
  | k + 1, h => by
    rw [setM]
    exact Nat.or_lt_two_pow (setM_lt (fun j hj => h j (by omega))) (Nat.pow_lt_pow_right (by decide) (h k (by omega)))
/-- distinct numbers: their set is {0 .. n-1} just if they are n of them, all below n -/
theorem setM_all {F : Nat → Nat} {k n : Nat} (hi : ∀ i j, i < k → j < k → F i = F j → i = j) : setM F k = 2 ^ n - 1 ↔ k = n ∧ ∀ j, j < k → F j < n := by
  constructor
  · intro h
    have hb : ∀ y, (∃ j, j < k ∧ F j = y) ↔ y < n := by
      intro y
      rw [← setM_tb, h, Nat.testBit_two_pow_sub_one, decide_eq_true_eq]
    have hlt : ∀ j, j < k → F j < n := fun j hj => (hb (F j)).mp ⟨j, hj, rfl⟩
    refine ⟨?_, hlt⟩
    rcases Nat.lt_trichotomy k n with h1 | h1 | h1
    · exfalso
      have hex : ∃ G : Nat → Nat, ∀ y, y < n → G y < k ∧ F (G y) = y :=
        ⟨fun y => if h : y < n then Classical.choose ((hb y).mpr h) else 0, fun y hy => by simp only [dif_pos hy]; exact Classical.choose_spec ((hb y).mpr hy)⟩
      obtain ⟨G, hG⟩ := hex
      obtain ⟨i, h2, h3⟩ := pigeon k G (fun y hy => (hG y (by omega)).1) (fun a b ha hb2 hab => by rw [← (hG a (by omega)).2, ← (hG b (by omega)).2, hab]) (G k) (hG k h1).1
      have e1 := (hG i (by omega)).2
      rw [h3, (hG k h1).2] at e1
      omega
    · exact h1
    · exfalso
      obtain ⟨i, h2, h3⟩ := pigeon n F (fun y hy => hlt y (by omega)) (fun a b ha hb2 hab => hi a b (by omega) (by omega) hab) (F n) (hlt n h1)
      have := hi i n (by omega) h1 h3
      omega
  · rintro ⟨rfl, h⟩
    apply Nat.eq_of_testBit_eq
    intro y
    rw [Nat.testBit_two_pow_sub_one]
    by_cases hy : y < k
    · rw [decide_eq_true hy, setM_tb]
      exact pigeon k F h hi y hy
    · rw [decide_eq_false hy]
      cases hc : (setM F k).testBit y with
      | false => rfl
      | true =>
        obtain ⟨j, h1, h2⟩ := setM_tb.mp hc
        exact absurd (h2 ▸ h j h1) hy
theorem isWholeC_n {posts : Nat → Int32} {F : Nat → Nat} {k n : Nat} (hk : k ≤ 11) (hn : n ≤ 11) (hp : ∀ j, j < k → posts j = nI (F j) ∧ F j < 11) : f_X5_isWhole (nI k) posts (nI n) = some (b2I (decide (k = n) && allLt F n k)) := by
  unfold f_X5_isWhole
  obtain ⟨v, h1, h2⟩ := loop_or (step := fun (s : Int32) => f_X5_isWhole_L2 (nI n) (nI k) posts s) (fun i s => s = nI i ∧ allLt F n i = true) (fun v => v = b2I (decide (k = n) && allLt F n k)) k (s := (0 : Int32)) (by
    rintro i s hi ⟨rfl, hs⟩
    show (∃ s', f_X5_isWhole_L2 (nI n) (nI k) posts (nI i) = _ ∧ _) ∨ ∃ v, f_X5_isWhole_L2 (nI n) (nI k) posts (nI i) = _ ∧ _
    unfold f_X5_isWhole_L2
    rw [if_neg (nI_ge hi (by omega)), gi_n (by omega) (by omega), nI_1, (hp i hi).1]
    simp only [Option.bind_some]
    have hf := (hp i hi).2
    by_cases h : F i < n
    · refine Or.inl ⟨nI (i + 1), by rw [if_pos (nI_lt h (by omega))], rfl, ?_⟩
      rw [allLt, hs, decide_eq_true h]
      rfl
    · refine Or.inr ⟨0, by rw [if_neg (nI_nlt (Nat.not_lt.mp h) (by omega))], ?_⟩
      have ha : allLt F n k = false := by
        cases hc : allLt F n k with
        | false => rfl
        | true => exact absurd (allLt_iff.mp hc i hi) h
      rw [ha, Bool.and_false]
      rfl) (by
    rintro s ⟨rfl, hs⟩
    refine ⟨b2I (decide (k = n) && allLt F n k), ?_, rfl⟩
    show f_X5_isWhole_L2 (nI n) (nI k) posts (nI k) = _
    unfold f_X5_isWhole_L2
    rw [if_pos (nI_le (Nat.le_refl k) (by omega)), hs, Bool.and_true]
    by_cases h : k = n
    · rw [if_pos (by rw [h]), decide_eq_true h]
      rfl
    · rw [if_neg (fun q => h ((nI_eq (by omega) (by omega)).mp q)), decide_eq_false h]
      rfl) ⟨nI_0.symm, rfl⟩
  rw [h1, h2]
theorem isWholeM_n {row : Nat → Int32} {F : Nat → Nat} {k n : Nat} (hk : k ≤ 11) (hn : n ≤ 11) (hp : ∀ j, j < k → row j = nI (F j) ∧ F j < 11) (hi : ∀ i j, i < k → j < k → F i = F j → i = j) : f_X11_isWhole (nI n) (nI k) row = some (b2I (decide (k = n) && allLt F n k)) := by
  unfold f_X11_isWhole
  have h := loop_run (step := fun (t : Int32 × Int32) => f_X11_isWhole_L4 (nI k) row t.1 t.2) (fun i => (nI (setM F i), nI i)) (x := nI (setM F k)) k (fun i hik => ?_) ?_
  · have e1 : loopS (fun (t : Int32 × Int32) => f_X11_isWhole_L4 (nI k) row t.1 t.2) ((0 : Int32), (0 : Int32)) = some (nI (setM F k)) := h
    have hs := setM_lt (fun j hj => (hp j hj).2)
    have h2 : 2 ^ n ≤ 2 ^ 11 := Nat.pow_le_pow_right (by decide) hn
    rw [e1, whole_n hn]
    simp only [Option.bind_some]
    by_cases hw : setM F k = 2 ^ n - 1
    · obtain ⟨h3, h4⟩ := (setM_all hi).mp hw
      rw [if_pos (by rw [hw]), decide_eq_true h3, allLt_iff.mpr h4]
      rfl
    · have h5 : (decide (k = n) && allLt F n k) = false := by
        cases hc : (decide (k = n) && allLt F n k) with
        | false => rfl
        | true =>
          rw [Bool.and_eq_true, decide_eq_true_eq] at hc
          exact absurd ((setM_all hi).mpr ⟨hc.1, allLt_iff.mp hc.2⟩) hw
      rw [if_neg (fun q => hw ((nI_eq (by omega) (by omega)).mp q)), h5]
      rfl
  · show f_X11_isWhole_L4 (nI k) row (nI (setM F i)) (nI i) = some (Sum.inl (nI (setM F i ||| 2 ^ F i), nI (i + 1)))
    unfold f_X11_isWhole_L4
    have hf := (hp i hik).2
    rw [if_neg (nI_ge hik (by omega)), gi_n (by omega) (by omega), (hp i hik).1, nI_1]
    simp only [Option.bind_some]
    rw [one_shl (by omega), or_n]
  · show f_X11_isWhole_L4 (nI k) row (nI (setM F k)) (nI k) = _
    unfold f_X11_isWhole_L4
    rw [if_pos (nI_le (Nat.le_refl k) (by omega))]
/-- a row of RowR by numbers -/
theorem RowR_nums {size many : Int32} {posts row : Nat → Int32} (h : RowR size many posts row) : ∃ (k : Nat) (F : Nat → Nat), k ≤ 11 ∧ size = nI k ∧ many = nI k ∧ (∀ j, j < k → posts j = nI (F j) ∧ F j < 11) ∧ (∀ j, j < k → row j = nI (F j) ∧ F j < 11) ∧ ∀ i j, i < k → j < k → F i = F j → i = j := by
  obtain ⟨k, hk, e1, e2, e3, e4⟩ := h
  refine ⟨k, fun j => if h : j < k then Classical.choose (e3 j h).2 else 0, hk, e1, e2, ?_, ?_, ?_⟩
  · intro j hj
    simp only [dif_pos hj]
    have hs := Classical.choose_spec (e3 j hj).2
    exact ⟨(e3 j hj).1.trans hs.2, hs.1⟩
  · intro j hj
    simp only [dif_pos hj]
    have hs := Classical.choose_spec (e3 j hj).2
    exact ⟨hs.2, hs.1⟩
  · intro i j hi hj hij
    simp only [dif_pos hi, dif_pos hj] at hij
    exact e4 i j hi hj ((Classical.choose_spec (e3 i hi).2).2.trans ((congrArg nI hij).trans (Classical.choose_spec (e3 j hj).2).2.symm))
