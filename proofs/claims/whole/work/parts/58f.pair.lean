/-! LAYER 2: who must stand behind; pair, about, count -/
/-- b can be come to from a by one step or more: it is in every set that has a's own and is closed -/
def rch (q : Nat → Nat → Bool) (a b : Nat) : Prop := ∀ S : Nat → Prop, (∀ y, q a y = true → S y) → (∀ x y, S x → q x y = true → S y) → S b
theorem rch_one {q : Nat → Nat → Bool} {a b : Nat} (h : q a b = true) : rch q a b := fun _ h1 _ => h1 b h
theorem rch_next {q : Nat → Nat → Bool} {a b c : Nat} (h : rch q a b) (h2 : q b c = true) : rch q a c := fun S h1 h3 => h3 b c (h S h1 h3) h2
theorem rch_trans {q : Nat → Nat → Bool} {a b c : Nat} (h : rch q a b) (h2 : rch q b c) : rch q a c := h2 (fun y => rch q a y) (fun _ hy => rch_next h hy) (fun _ _ hx hy => rch_next hx hy)
def qR (pair : Nat → Int32) (a b : Nat) : Bool := decide (a < 11) && (decide (b < 11) && prQ pair a b)
theorem qR_lt {pair : Nat → Int32} {a b : Nat} (h : qR pair a b = true) : a < 11 ∧ b < 11 ∧ prQ pair a b = true := by
  unfold qR at h
  rw [Bool.and_eq_true, Bool.and_eq_true, decide_eq_true_eq, decide_eq_true_eq] at h
  exact h
theorem qR_in {pair : Nat → Int32} {a b : Nat} (ha : a < 11) (hb : b < 11) : qR pair a b = prQ pair a b := by
  unfold qR
  rw [decide_eq_true ha, decide_eq_true hb, Bool.true_and, Bool.true_and]
def orM (F : Nat) (mk : Nat → Nat) : Nat → Nat
  | 0 => F
  | j + 1 => orM F mk j ||| (if F.testBit j then mk j else 0)
theorem orM_tb {F : Nat} {mk : Nat → Nat} {y : Nat} : ∀ {k : Nat}, (orM F mk k).testBit y = true ↔ F.testBit y = true ∨ ∃ x, x < k ∧ F.testBit x = true ∧ (mk x).testBit y = true
  | 0 => by
    constructor
    · intro h
      exact Or.inl h
    · rintro (h | ⟨x, hx, -⟩)
      · exact h
      · omega
  | k + 1 => by
    rw [orM, Nat.testBit_or, Bool.or_eq_true, orM_tb (k := k)]
    constructor
    · rintro ((h | ⟨x, h1, h2⟩) | h)
      · exact Or.inl h
      · exact Or.inr ⟨x, by omega, h2⟩
      · cases hf : F.testBit k with
        | false => rw [hf] at h; simp at h
        | true =>
          rw [hf] at h
          exact Or.inr ⟨k, by omega, hf, h⟩
    · rintro (h | ⟨x, h1, h2, h3⟩)
      · exact Or.inl (Or.inl h)
      · rcases Nat.lt_or_ge x k with h4 | h4
        · exact Or.inl (Or.inr ⟨x, h4, h2, h3⟩)
        · have : x = k := by omega
          subst this
          rw [h2]
          exact Or.inr h3
theorem orM_lt {F : Nat} {mk : Nat → Nat} (hF : F < 2 ^ 11) (hm : ∀ x, x < 11 → mk x < 2 ^ 11) : ∀ {k : Nat}, k ≤ 11 → orM F mk k < 2 ^ 11
  | 0, _ => hF
  | k + 1, h => by
    rw [orM]
    refine Nat.or_lt_two_pow (orM_lt hF hm (by omega)) ?_
    cases F.testBit k
    · simp
    · exact hm k (by omega)
theorem pcN_grow {F M : Nat} : ∀ {k : Nat}, (∀ y, y < k → F.testBit y = true → M.testBit y = true) → pcN F k ≤ pcN M k ∧ ((∃ y, y < k ∧ M.testBit y = true ∧ F.testBit y = false) → pcN F k + 1 ≤ pcN M k)
  | 0, _ => ⟨Nat.le_refl _, fun ⟨y, hy, _⟩ => absurd hy (by omega)⟩
  | k + 1, h => by
    obtain ⟨h1, h2⟩ := pcN_grow (k := k) (fun y hy => h y (by omega))
    have h3 : (if F.testBit k then 1 else 0) ≤ (if M.testBit k then 1 else 0) := by
      cases hf : F.testBit k with
      | false => simp
      | true => rw [h k (by omega) hf]; simp
    refine ⟨by rw [pcN, pcN]; omega, ?_⟩
    rintro ⟨y, hy, hm, hf⟩
    rw [pcN, pcN]
    rcases Nat.lt_or_ge y k with h4 | h4
    · have := h2 ⟨y, h4, hm, hf⟩
      omega
    · have : y = k := by omega
      subst this
      rw [hm, hf]
      simp only [Bool.false_eq_true, if_false, if_true]
      omega
theorem pcN_le {F n : Nat} (h : ∀ y, F.testBit y = true → y < n) : ∀ {k : Nat}, pcN F k ≤ n ∧ pcN F k ≤ k
  | 0 => ⟨Nat.zero_le _, Nat.le_refl _⟩
  | k + 1 => by
    obtain ⟨h1, h2⟩ := pcN_le h (k := k)
    rw [pcN]
    cases hf : F.testBit k with
    | false => simp only [Bool.false_eq_true, if_false]; omega
    | true =>
      have := h k hf
      simp only [if_true]
      omega
theorem pcN_stop {s n : Nat} (h : ∀ y, n ≤ y → s.testBit y = false) : ∀ {m : Nat}, n ≤ m → pcN s m = pcN s n
  | 0, hm => by
    have : n = 0 := by omega
    rw [this]
  | m + 1, hm => by
    rcases Nat.lt_or_ge n (m + 1) with h1 | h1
    · rw [pcN, pcN_stop h (m := m) (by omega), h m (by omega)]
      rfl
    · have : n = m + 1 := by omega
      rw [this]
theorem allIn_n {behind : Nat → Int32} {mk : Nat → Nat} {n F : Nat} (hn : n ≤ 11) (hF : F < 2 ^ 11) (hb : ∀ x, x < 11 → behind x = nI (mk x)) : loopS (fun (s : Int32 × Int32) => f_X4_allBehind_L23 (nI F) (nI n) behind s.1 s.2) (nI F, (0 : Int32)) = some (nI (orM F mk n)) := by
  refine loop_go (fun k => (nI (orM F mk k), nI k)) n rfl (fun k hk => ?_) ?_
  · dsimp only
    unfold f_X4_allBehind_L23
    rw [if_neg (nI_ge hk (by omega)), holds_n (by omega) (by omega), gi_n (by omega) (by omega), hb k (by omega), nI_1, orM]
    cases F.testBit k with
    | false =>
      show some (Sum.inl (nI (orM F mk k), nI (k + 1))) = some (Sum.inl (nI (orM F mk k ||| 0), nI (k + 1)))
      rw [Nat.or_zero]
    | true =>
      show some (Sum.inl (nI (orM F mk k) ||| nI (mk k), nI (k + 1))) = some (Sum.inl (nI (orM F mk k ||| mk k), nI (k + 1)))
      rw [or_n]
  · dsimp only
    unfold f_X4_allBehind_L23
    rw [if_pos (nI_le (Nat.le_refl n) (by omega))]
theorem allBehind_n {behind pair : Nat → Int32} {n a : Nat} (hn : n ≤ 11) (ha : a < n) (hb : ∀ x, x < 11 → behind x = nI (mkB (fun y => prQ pair x y) 11)) (hq : ∀ x y, x < 11 → y < 11 → prQ pair x y = true → x < n ∧ y < n) : ∃ F, f_X4_allBehind (nI n) behind (nI a) = some (nI F) ∧ F < 2 ^ 11 ∧ (∀ y, F.testBit y = true → y < n) ∧ ∀ y, F.testBit y = true ↔ rch (qR pair) a y := by
  unfold f_X4_allBehind
  rw [gi_n (by omega) (by omega), hb a (by omega)]
  simp only [Option.bind_some]
  have tb : ∀ x y, x < 11 → ((mkB (fun y => prQ pair x y) 11).testBit y = true ↔ qR pair x y = true) := fun x y hx => by
    rw [mkB_tb]
    unfold qR
    rw [decide_eq_true hx, Bool.true_and]
  have hmk : ∀ x, x < 11 → mkB (fun y => prQ pair x y) 11 < 2 ^ 11 := fun x _ => mkB_lt _ _
  have hl : ∃ x, loopS (fun (s : Int32 × Int32) => f_X4_allBehind_L9 (nI n) behind s.1 s.2) (nI (mkB (fun y => prQ pair a y) 11), (0 : Int32)) = some x ∧ ∃ F, x = nI F ∧ F < 2 ^ 11 ∧ (∀ y, F.testBit y = true → y < n) ∧ ∀ y, F.testBit y = true ↔ rch (qR pair) a y := by
    refine loop_or (fun k (s : Int32 × Int32) => ∃ F, s = (nI F, nI k) ∧ F < 2 ^ 11 ∧ (∀ y, qR pair a y = true → F.testBit y = true) ∧ (∀ y, F.testBit y = true → y < n) ∧ (∀ y, F.testBit y = true → rch (qR pair) a y) ∧ (k = 0 ∨ k + 1 ≤ pcN F 11)) (fun x => ∃ F, x = nI F ∧ F < 2 ^ 11 ∧ (∀ y, F.testBit y = true → y < n) ∧ ∀ y, F.testBit y = true ↔ rch (qR pair) a y) n ?_ ?_ ?_
    · rintro k s hk ⟨F, rfl, f1, f2, f3, f4, f5⟩
      dsimp only
      have hM := orM_lt (mk := fun x => mkB (fun y => prQ pair x y) 11) f1 hmk hn
      by_cases hMF : orM F (fun x => mkB (fun y => prQ pair x y) 11) n = F
      · refine Or.inr ⟨nI F, ?_, F, rfl, f1, f3, fun y => ⟨f4 y, fun hr => ?_⟩⟩
        · unfold f_X4_allBehind_L9
          rw [if_neg (nI_ge hk (by omega)), allIn_n hn f1 hb]
          simp only [Option.bind_some]
          rw [hMF, if_pos rfl]
        · refine hr (fun y => F.testBit y = true) f2 (fun x y hx hxy => ?_)
          rw [← hMF]
          exact orM_tb.mpr (Or.inr ⟨x, f3 x hx, hx, (tb x y (qR_lt hxy).1).mpr hxy⟩)
      · refine Or.inl ⟨(nI (orM F (fun x => mkB (fun y => prQ pair x y) 11) n), nI (k + 1)), ?_, _, rfl, hM, fun y hy => orM_tb.mpr (Or.inl (f2 y hy)), fun y hy => ?_, fun y hy => ?_, Or.inr ?_⟩
        · unfold f_X4_allBehind_L9
          rw [if_neg (nI_ge hk (by omega)), allIn_n hn f1 hb]
          simp only [Option.bind_some]
          rw [if_neg (fun q => hMF ((nI_eq (by omega) (by omega)).mp q)), nI_1]
        · rcases orM_tb.mp hy with h | ⟨x, hx, h1, h2⟩
          · exact f3 y h
          · have h3 := qR_lt ((tb x y (by omega)).mp h2)
            exact (hq x y h3.1 h3.2.1 h3.2.2).2
        · rcases orM_tb.mp hy with h | ⟨x, hx, h1, h2⟩
          · exact f4 y h
          · exact rch_next (f4 x h1) ((tb x y (by omega)).mp h2)
        · have hsub : ∀ y, y < 11 → F.testBit y = true → (orM F (fun x => mkB (fun y => prQ pair x y) 11) n).testBit y = true := fun y _ hy => orM_tb.mpr (Or.inl hy)
          have hne : ∃ y, y < 11 ∧ (orM F (fun x => mkB (fun y => prQ pair x y) 11) n).testBit y = true ∧ F.testBit y = false := by
            apply Classical.byContradiction
            intro hc
            apply hMF
            apply Nat.eq_of_testBit_eq
            intro y
            cases hm : (orM F (fun x => mkB (fun y => prQ pair x y) 11) n).testBit y with
            | false =>
              cases hf : F.testBit y with
              | false => rfl
              | true =>
                have := orM_tb (F := F) (mk := fun x => mkB (fun y => prQ pair x y) 11) (k := n) (y := y) |>.mpr (Or.inl hf)
                rw [hm] at this
                cases this
            | true =>
              cases hf : F.testBit y with
              | true => rfl
              | false =>
                refine absurd ⟨y, ?_, hm, hf⟩ hc
                rcases Nat.lt_or_ge y 11 with h9 | h9
                · exact h9
                · have := Nat.testBit_lt_two_pow (Nat.lt_of_lt_of_le hM (Nat.pow_le_pow_right (by decide) h9))
                  rw [this] at hm
                  cases hm
          have hg := (pcN_grow hsub).2 hne
          rcases f5 with f5 | f5
          · obtain ⟨y, hy, hm, hf⟩ := hne
            rcases orM_tb.mp hm with h | ⟨x, hx, h1, h2⟩
            · rw [hf] at h; cases h
            · have := (pcN_grow (F := 0) (M := F) (k := 11) (fun y _ h => by simp at h)).2 ⟨x, by omega, h1, by simp⟩
              have h0 : pcN 0 11 = 0 := by decide
              omega
          · omega
    · rintro s ⟨F, rfl, f1, f2, f3, f4, f5⟩
      exfalso
      have := (pcN_le f3 (k := 11)).1
      omega
    · exact ⟨_, rfl, hmk a (by omega), fun y hy => (tb a y (by omega)).mpr hy, fun y hy => by
        have h3 := qR_lt ((tb a y (by omega)).mp hy)
        exact (hq a y h3.1 h3.2.1 h3.2.2).2, fun y hy => rch_one ((tb a y (by omega)).mp hy), Or.inl rfl⟩
  obtain ⟨x, h1, F, rfl, h2⟩ := hl
  exact ⟨F, h1, h2⟩
/-- one place of the reference's closure -/
theorem closeStep {W : Nat → Int32} {k a b : Nat} (hk : k < 11) (ha : a < 11) (hb : b < 11) : ∃ t : Int32, f_X11_findBehind_L53 (nI k) (nI a) (nI b) W = some (.inl (nI (b + 1), upd W (11 * a + b) t)) ∧ (t ≠ 0 ↔ (W (11 * a + b) ≠ 0 ∨ (W (11 * a + k) ≠ 0 ∧ W (11 * k + b) ≠ 0))) := by
  unfold f_X11_findBehind_L53
  rw [if_neg (show ¬ (11 : Int32) ≤ nI b from nI_ge (b := 11) hb (by decide)), ix11, ix11, ix11, gi_n (by omega) (by omega), gi_n (by omega) (by omega), gi_n (by omega) (by omega), nI_1]
  simp only [Option.bind_some]
  by_cases h1 : W (11 * a + b) = 0
  · rw [if_pos h1]
    by_cases h2 : W (11 * a + k) = 0
    · rw [if_pos h2]
      simp only [Option.bind_some]
      rw [sb_n (by omega) (by omega), vz0]
      exact ⟨0, rfl, by simp [h1, h2]⟩
    · rw [if_neg h2]
      by_cases h3 : W (11 * k + b) = 0
      · rw [if_pos h3]
        simp only [Option.bind_some]
        rw [sb_n (by omega) (by omega), vz0]
        exact ⟨0, rfl, by simp [h1, h3]⟩
      · rw [if_neg h3]
        simp only [Option.bind_some]
        rw [sb_n (by omega) (by omega), vz1]
        exact ⟨1, rfl, by simp [h2, h3]⟩
  · rw [if_neg h1]
    simp only [Option.bind_some]
    rw [sb_n (by omega) (by omega), vz1]
    exact ⟨1, rfl, by simp [h1]⟩
def ClI (W0 : Nat → Int32) (k a b : Nat) (W : Nat → Int32) : Prop := ∀ x y, x < 11 → y < 11 → (W (11 * x + y) ≠ 0 ↔ (W0 (11 * x + y) ≠ 0 ∨ ((x < a ∨ (x = a ∧ y < b)) ∧ W0 (11 * x + k) ≠ 0 ∧ W0 (11 * k + y) ≠ 0)))
theorem closeRow {W0 W : Nat → Int32} {k a : Nat} (hk : k < 11) (ha : a < 11) (hI : ClI W0 k a 0 W) : ∃ W2, loopS (fun (s : Int32 × (Nat → Int32)) => f_X11_findBehind_L53 (nI k) (nI a) s.1 s.2) ((0 : Int32), W) = some W2 ∧ ClI W0 k (a + 1) 0 W2 := by
  refine loop_inv (fun b (s : Int32 × (Nat → Int32)) => s.1 = nI b ∧ ClI W0 k a b s.2) (fun W2 => ClI W0 k (a + 1) 0 W2) 11 ?_ ?_ ⟨nI_0.symm, hI⟩
  · rintro b ⟨i, V⟩ hb ⟨hi, hJ⟩
    dsimp only at hi hJ ⊢
    subst hi
    obtain ⟨t, h1, h2⟩ := closeStep (W := V) hk ha hb
    refine ⟨_, h1, rfl, ?_⟩
    intro x y hx hy
    show upd V (11 * a + b) t (11 * x + y) ≠ 0 ↔ _
    by_cases hxy : x = a ∧ y = b
    · obtain ⟨rfl, rfl⟩ := hxy
      rw [pk_us, h2, hJ x y hx hy, hJ x k hx hk, hJ k y hk hy]
      constructor
      · rintro ((h | ⟨-, h⟩) | ⟨h3, h4⟩)
        · exact Or.inl h
        · exact Or.inr ⟨Or.inr ⟨rfl, by omega⟩, h⟩
        · refine Or.inr ⟨Or.inr ⟨rfl, by omega⟩, ?_, ?_⟩
          · rcases h3 with h3 | ⟨-, h3, -⟩ <;> exact h3
          · rcases h4 with h4 | ⟨-, -, h4⟩ <;> exact h4
      · rintro (h | ⟨-, h3, h4⟩)
        · exact Or.inl (Or.inl h)
        · exact Or.inr ⟨Or.inl h3, Or.inl h4⟩
    · rw [pk_un (by omega), hJ x y hx hy]
      constructor
      · rintro (h | ⟨h3, h4⟩)
        · exact Or.inl h
        · exact Or.inr ⟨by omega, h4⟩
      · rintro (h | ⟨h3, h4⟩)
        · exact Or.inl h
        · exact Or.inr ⟨by omega, h4⟩
  · rintro ⟨i, V⟩ ⟨hi, hJ⟩
    dsimp only at hi hJ ⊢
    subst hi
    refine ⟨V, ?_, ?_⟩
    · unfold f_X11_findBehind_L53
      rw [if_pos (show (11 : Int32) ≤ nI 11 from nI_le (a := 11) (by omega) (by decide))]
    · intro x y hx hy
      rw [hJ x y hx hy]
      constructor
      · rintro (h | ⟨h3, h4⟩)
        · exact Or.inl h
        · exact Or.inr ⟨by omega, h4⟩
      · rintro (h | ⟨h3, h4⟩)
        · exact Or.inl h
        · exact Or.inr ⟨by omega, h4⟩
theorem closePhase {W0 : Nat → Int32} {k : Nat} (hk : k < 11) : ∃ W2, loopS (fun (s : Int32 × (Nat → Int32)) => f_X11_findBehind_L45 (nI k) s.1 s.2) ((0 : Int32), W0) = some W2 ∧ ∀ x y, x < 11 → y < 11 → (W2 (11 * x + y) ≠ 0 ↔ (W0 (11 * x + y) ≠ 0 ∨ (W0 (11 * x + k) ≠ 0 ∧ W0 (11 * k + y) ≠ 0))) := by
  refine loop_inv (fun a (s : Int32 × (Nat → Int32)) => s.1 = nI a ∧ ClI W0 k a 0 s.2) (fun (W2 : Nat → Int32) => ∀ x y, x < 11 → y < 11 → (W2 (11 * x + y) ≠ 0 ↔ (W0 (11 * x + y) ≠ 0 ∨ (W0 (11 * x + k) ≠ 0 ∧ W0 (11 * k + y) ≠ 0)))) 11 ?_ ?_ ⟨nI_0.symm, ?_⟩
  · rintro a ⟨i, V⟩ ha ⟨hi, hJ⟩
    dsimp only at hi hJ ⊢
    subst hi
    obtain ⟨W2, h1, h2⟩ := closeRow hk ha hJ
    refine ⟨(nI (a + 1), W2), ?_, rfl, h2⟩
    unfold f_X11_findBehind_L45
    rw [if_neg (show ¬ (11 : Int32) ≤ nI a from nI_ge (b := 11) ha (by decide)), h1, nI_1]
    rfl
  · rintro ⟨i, V⟩ ⟨hi, hJ⟩
    dsimp only at hi hJ ⊢
    subst hi
    refine ⟨V, ?_, ?_⟩
    · unfold f_X11_findBehind_L45
      rw [if_pos (show (11 : Int32) ≤ nI 11 from nI_le (a := 11) (by omega) (by decide))]
    · intro x y hx hy
      rw [hJ x y hx hy]
      constructor
      · rintro (h | ⟨h3, h4⟩)
        · exact Or.inl h
        · exact Or.inr h4
      · rintro (h | h4)
        · exact Or.inl h
        · exact Or.inr ⟨Or.inl hx, h4⟩
  · intro x y hx hy
    constructor
    · exact Or.inl
    · rintro (h | ⟨h3, -⟩)
      · exact h
      · exfalso; omega
theorem findBehind_n (pair bh : Nat → Int32) : ∃ W, f_X11_findBehind pair bh = some W ∧ ∀ a b, a < 11 → b < 11 → (W (11 * a + b) ≠ 0 ↔ rch (qR pair) a b) := by
  have hA : ∃ W0, loopS (fun (s : Int32 × (Nat → Int32)) => f_X11_findBehind_L2 pair s.1 s.2) ((0 : Int32), bh) = some W0 ∧ ∀ j, j < 121 → W0 j = if pair j = 1 then 1 else 0 := by
    refine loop_inv (fun k (s : Int32 × (Nat → Int32)) => s.1 = nI k ∧ ∀ j, j < k → s.2 j = if pair j = 1 then 1 else 0) (fun (W0 : Nat → Int32) => ∀ j, j < 121 → W0 j = if pair j = 1 then 1 else 0) 121 ?_ ?_ ⟨nI_0.symm, fun j hj => absurd hj (by omega)⟩
    · rintro k ⟨i, V⟩ hk ⟨hi, hJ⟩
      dsimp only at hi hJ ⊢
      subst hi
      refine ⟨(nI (k + 1), upd V k (if pair k = 1 then 1 else 0)), ?_, rfl, ?_⟩
      · unfold f_X11_findBehind_L2
        rw [if_neg (show ¬ (121 : Int32) ≤ nI k from nI_ge (b := 121) hk (by decide)), gi_n (by omega) (by omega), nI_1]
        simp only [Option.bind_some]
        by_cases h : pair k = 1
        · rw [if_pos h, if_pos h]
          simp only [Option.bind_some]
          rw [sb_n (by omega) (by omega), vz1]
          rfl
        · rw [if_neg h, if_neg h]
          simp only [Option.bind_some]
          rw [sb_n (by omega) (by omega), vz0]
          rfl
      · intro j hj
        show upd V k _ j = _
        by_cases h : j = k
        · subst h
          rw [pk_us]
        · rw [pk_un h]
          exact hJ j (by omega)
    · rintro ⟨i, V⟩ ⟨hi, hJ⟩
      dsimp only at hi hJ ⊢
      subst hi
      refine ⟨V, ?_, hJ⟩
      unfold f_X11_findBehind_L2
      rw [if_pos (show (121 : Int32) ≤ nI 121 from nI_le (a := 121) (by omega) (by decide))]
  obtain ⟨W0, hA1, hA2⟩ := hA
  have h0 : ∀ a b, a < 11 → b < 11 → (W0 (11 * a + b) ≠ 0 ↔ qR pair a b = true) := fun a b ha hb => by
    rw [hA2 _ (by omega), qR_in ha hb]
    unfold prQ
    by_cases h : pair (11 * a + b) = 1
    · simp [h]
    · simp [h]
  have hB : ∃ W, loopS (fun (s : Int32 × (Nat → Int32)) => f_X11_findBehind_L37 s.1 s.2) ((0 : Int32), W0) = some W ∧ ∀ a b, a < 11 → b < 11 → (W (11 * a + b) ≠ 0 ↔ rch (qR pair) a b) := by
    refine loop_inv (fun k (s : Int32 × (Nat → Int32)) => s.1 = nI k ∧ (∀ a b, a < 11 → b < 11 → qR pair a b = true → s.2 (11 * a + b) ≠ 0) ∧ (∀ a b, a < 11 → b < 11 → s.2 (11 * a + b) ≠ 0 → rch (qR pair) a b) ∧ ∀ c a b, c < k → a < 11 → b < 11 → s.2 (11 * a + c) ≠ 0 → s.2 (11 * c + b) ≠ 0 → s.2 (11 * a + b) ≠ 0) (fun (W : Nat → Int32) => ∀ a b, a < 11 → b < 11 → (W (11 * a + b) ≠ 0 ↔ rch (qR pair) a b)) 11 ?_ ?_ ⟨nI_0.symm, fun a b ha hb h => (h0 a b ha hb).mpr h, fun a b ha hb h => rch_one ((h0 a b ha hb).mp h), fun c a b hc => absurd hc (by omega)⟩
    · rintro k ⟨i, V⟩ hk ⟨hi, j1, j2, j3⟩
      dsimp only at hi j1 j2 j3 ⊢
      subst hi
      obtain ⟨W2, g1, g2⟩ := closePhase (W0 := V) hk
      refine ⟨(nI (k + 1), W2), ?_, rfl, ?_, ?_, ?_⟩
      · unfold f_X11_findBehind_L37
        rw [if_neg (show ¬ (11 : Int32) ≤ nI k from nI_ge (b := 11) hk (by decide)), g1, nI_1]
        rfl
      · intro a b ha hb h
        exact (g2 a b ha hb).mpr (Or.inl (j1 a b ha hb h))
      · intro a b ha hb h
        rcases (g2 a b ha hb).mp h with h | ⟨h3, h4⟩
        · exact j2 a b ha hb h
        · exact rch_trans (j2 a k ha hk h3) (j2 k b hk hb h4)
      · intro c a b hc ha hb h3 h4
        have hc11 : c < 11 := by omega
        have h3 := (g2 a c ha hc11).mp h3
        have h4 := (g2 c b hc11 hb).mp h4
        show W2 (11 * a + b) ≠ 0
        rw [g2 a b ha hb]
        rcases Nat.lt_or_ge c k with hck | hck
        · rcases h3 with h3 | ⟨h3, h3'⟩
          · rcases h4 with h4 | ⟨h4, h4'⟩
            · exact Or.inl (j3 c a b hck ha hb h3 h4)
            · exact Or.inr ⟨j3 c a k hck ha hk h3 h4, h4'⟩
          · rcases h4 with h4 | ⟨h4, h4'⟩
            · exact Or.inr ⟨h3, j3 c k b hck hk hb h3' h4⟩
            · exact Or.inr ⟨h3, h4'⟩
        · have : c = k := by omega
          subst this
          refine Or.inr ⟨?_, ?_⟩
          · rcases h3 with h3 | ⟨h3, -⟩ <;> exact h3
          · rcases h4 with h4 | ⟨-, h4⟩ <;> exact h4
    · rintro ⟨i, V⟩ ⟨hi, j1, j2, j3⟩
      dsimp only at hi j1 j2 j3 ⊢
      subst hi
      refine ⟨V, ?_, fun a b ha hb => ⟨j2 a b ha hb, fun h => ?_⟩⟩
      · unfold f_X11_findBehind_L37
        rw [if_pos (show (11 : Int32) ≤ nI 11 from nI_le (a := 11) (by omega) (by decide))]
      · have := h (fun y => y < 11 ∧ V (11 * a + y) ≠ 0) (fun y hy => ⟨(qR_lt hy).2.1, j1 a y ha (qR_lt hy).2.1 hy⟩) (fun x y hx hxy => ⟨(qR_lt hxy).2.1, j3 x a y hx.1 ha (qR_lt hxy).2.1 hx.2 (j1 x y hx.1 (qR_lt hxy).2.1 hxy)⟩)
        exact this.2
  obtain ⟨W, hB1, hB2⟩ := hB
  refine ⟨W, ?_, hB2⟩
  unfold f_X11_findBehind
  rw [hA1]
  simp only [Option.bind_some]
  rw [hB1]
  rfl
theorem l2_pair (x_x_net_posts : Int32) (x_x_net_pairs : Int32) (x_x_net_widths : Nat → Int32) (x_x_net_lengths : Nat → Int32) (x_x_net_told : Nat → Int32) (x_x_net_behind : Nat → Int32) (x_x_view_posts : Int32) (x_x_view_roads : Int32) (x_x_view_weight : Int32) (x_x_view_weights : Nat → Int32) (x_x_view_near : Nat → Int32) (x_x_view_behind : Nat → Int32) (x_x_view_ahead : Nat → Int32) (x_x_history_oldest : Int32) (x_x_history_size : Int32) (x_x_history_kept_posts : Nat → Int32) (x_x_history_kept_pairs : Nat → Int32) (x_x_history_kept_widths : Nat → Nat → Int32) (x_x_history_kept_lengths : Nat → Nat → Int32) (x_x_history_kept_told : Nat → Nat → Int32) (x_x_history_kept_behind : Nat → Nat → Int32) (x_x_hand_size : Int32) (x_x_hand_posts : Nat → Int32) (x_x_trial_size : Int32) (x_x_trial_posts : Nat → Int32) (x_x_bags_size : Int32) (x_x_bags_sets : Nat → Int32) (x_x_chase_size : Int32) (x_x_chase_guarded : Int32) (x_x_chase_most : Int32) (x_x_chase_again : Int32) (x_x_chase_idle : Int32) (x_x_chase_moves : Nat → Int32) (x_x_chase_foul : Nat → Int32) (x_x_sets_solvedFor : Int32) (x_x_sets_lowest : Int32) (x_x_sets_total : Int32) (x_x_sets_pricedFor : Int32) (x_x_sets_prices : Nat → Int32) (x_x_sets_rests : Nat → Int32) (x_x_sets_ways : Nat → Int32) (x_x_trials_solvedFor : Int32) (x_x_trials_lowest : Int32) (x_x_trials_total : Int32) (x_x_trials_found : Nat → Int32) (x_x_trials_row_size : Int32) (x_x_trials_row_posts : Nat → Int32) (x_m_thrown : Int32) (x_m_posts : Int32) (x_m_pairs : Int32) (x_m_keptEnd : Int32) (x_m_kept : Int32) (x_m_many : Int32) (x_m_bags : Int32) (x_m_moves : Int32) (x_m_pen : Int32) (x_m_savedMany : Int32) (x_m_leastRow : Int32) (x_m_bestRows : Int32) (x_m_askedRow : Int32) (x_m_rankOfSaved : Int32) (x_m_wallSet : Int32) (x_m_fouledAgain : Int32) (x_m_wide : Nat → Int32) (x_m_places : Nat → Int32) (x_m_weights : Nat → Int32) (x_m_pair : Nat → Int32) (x_m_old : Nat → Int32) (x_m_row : Nat → Int32) (x_m_bag : Nat → Int32) (x_m_hunt : Nat → Int32) (x_m_behind : Nat → Int32) (x_m_least : Nat → Int32) (x_m_ways : Nat → Int32) (x_m_saved : Nat → Int32) (x_m_kth : Nat → Int32) (x_m_clean : Nat → Int32) (a1 : Int32) (a2 : Int32) (h : Rel x_x_net_posts x_x_net_pairs x_x_net_widths x_x_net_lengths x_x_net_told x_x_net_behind x_x_view_posts x_x_view_roads x_x_view_weight x_x_view_weights x_x_view_near x_x_view_behind x_x_view_ahead x_x_history_oldest x_x_history_size x_x_history_kept_posts x_x_history_kept_pairs x_x_history_kept_widths x_x_history_kept_lengths x_x_history_kept_told x_x_history_kept_behind x_x_hand_size x_x_hand_posts x_x_trial_size x_x_trial_posts x_x_bags_size x_x_bags_sets x_x_chase_size x_x_chase_guarded x_x_chase_most x_x_chase_again x_x_chase_idle x_x_chase_moves x_x_chase_foul x_x_sets_solvedFor x_x_sets_lowest x_x_sets_total x_x_sets_pricedFor x_x_sets_prices x_x_sets_rests x_x_sets_ways x_x_trials_solvedFor x_x_trials_lowest x_x_trials_total x_x_trials_found x_x_trials_row_size x_x_trials_row_posts x_m_thrown x_m_posts x_m_pairs x_m_keptEnd x_m_kept x_m_many x_m_bags x_m_moves x_m_pen x_m_savedMany x_m_leastRow x_m_bestRows x_m_askedRow x_m_rankOfSaved x_m_wallSet x_m_fouledAgain x_m_wide x_m_places x_m_weights x_m_pair x_m_old x_m_row x_m_bag x_m_hunt x_m_behind x_m_least x_m_ways x_m_saved x_m_kth x_m_clean) : ∃ (r : Int32) (o_x_net_pairs : Int32) (o_x_net_behind : Nat → Int32) (o_x_view_posts : Int32) (o_x_view_roads : Int32) (o_x_view_weight : Int32) (o_x_view_weights : Nat → Int32) (o_x_view_near : Nat → Int32) (o_x_view_behind : Nat → Int32) (o_x_view_ahead : Nat → Int32) (o_x_history_oldest : Int32) (o_x_history_size : Int32) (o_x_history_kept_posts : Nat → Int32) (o_x_history_kept_pairs : Nat → Int32) (o_x_history_kept_widths : Nat → Nat → Int32) (o_x_history_kept_lengths : Nat → Nat → Int32) (o_x_history_kept_told : Nat → Nat → Int32) (o_x_history_kept_behind : Nat → Nat → Int32) (o_x_sets_solvedFor : Int32) (o_x_sets_pricedFor : Int32) (o_x_trials_solvedFor : Int32) (o_m_thrown : Int32) (o_m_pairs : Int32) (o_m_keptEnd : Int32) (o_m_kept : Int32) (o_m_pen : Int32) (o_m_pair : Nat → Int32) (o_m_old : Nat → Int32) (o_m_behind : Nat → Int32), f_X10_pair x_x_net_posts x_x_net_pairs x_x_net_widths x_x_net_lengths x_x_net_told x_x_net_behind x_x_view_posts x_x_view_roads x_x_view_weight x_x_view_weights x_x_view_near x_x_view_behind x_x_view_ahead x_x_history_oldest x_x_history_size x_x_history_kept_posts x_x_history_kept_pairs x_x_history_kept_widths x_x_history_kept_lengths x_x_history_kept_told x_x_history_kept_behind x_x_sets_solvedFor x_x_sets_pricedFor x_x_trials_solvedFor a1 a2 = some (r, o_x_net_pairs, o_x_net_behind, o_x_view_posts, o_x_view_roads, o_x_view_weight, o_x_view_weights, o_x_view_near, o_x_view_behind, o_x_view_ahead, o_x_history_oldest, o_x_history_size, o_x_history_kept_posts, o_x_history_kept_pairs, o_x_history_kept_widths, o_x_history_kept_lengths, o_x_history_kept_told, o_x_history_kept_behind, o_x_sets_solvedFor, o_x_sets_pricedFor, o_x_trials_solvedFor) ∧ f_X11_pair x_m_thrown x_m_posts x_m_pairs x_m_keptEnd x_m_kept x_m_pen x_m_wide x_m_places x_m_weights x_m_pair x_m_old x_m_behind a1 a2 = some (r, o_m_thrown, o_m_pairs, o_m_keptEnd, o_m_kept, o_m_pen, o_m_pair, o_m_old, o_m_behind) ∧ Rel x_x_net_posts o_x_net_pairs x_x_net_widths x_x_net_lengths x_x_net_told o_x_net_behind o_x_view_posts o_x_view_roads o_x_view_weight o_x_view_weights o_x_view_near o_x_view_behind o_x_view_ahead o_x_history_oldest o_x_history_size o_x_history_kept_posts o_x_history_kept_pairs o_x_history_kept_widths o_x_history_kept_lengths o_x_history_kept_told o_x_history_kept_behind x_x_hand_size x_x_hand_posts x_x_trial_size x_x_trial_posts x_x_bags_size x_x_bags_sets x_x_chase_size x_x_chase_guarded x_x_chase_most x_x_chase_again x_x_chase_idle x_x_chase_moves x_x_chase_foul o_x_sets_solvedFor x_x_sets_lowest x_x_sets_total o_x_sets_pricedFor x_x_sets_prices x_x_sets_rests x_x_sets_ways o_x_trials_solvedFor x_x_trials_lowest x_x_trials_total x_x_trials_found x_x_trials_row_size x_x_trials_row_posts o_m_thrown x_m_posts o_m_pairs o_m_keptEnd o_m_kept x_m_many x_m_bags x_m_moves o_m_pen x_m_savedMany x_m_leastRow x_m_bestRows x_m_askedRow x_m_rankOfSaved x_m_wallSet x_m_fouledAgain x_m_wide x_m_places x_m_weights o_m_pair o_m_old x_m_row x_m_bag x_m_hunt o_m_behind x_m_least x_m_ways x_m_saved x_m_kth x_m_clean := by
  obtain ⟨n, h1, h2, h3, h4, h5, h6, h7, h8⟩ := h
  have hn : n ≤ 11 := h1.1
  have ep := h1.2.1
  have em := h1.2.2.1
  subst ep
  subst em
  have d10 : ¬ (1 : Int32) = 0 := by decide
  rcases hasBoth_n hn a1 a2 with ⟨i, j, hi, hj, hij, rfl, rfl, p1, p2, hne, hb⟩ | ⟨b1, b2⟩
  · obtain ⟨-, -, -, e3, e4, e5, -, -, -, -, h10, hp, rk, h12⟩ := id h1
    have hlt : mkB (fun b => prQ x_m_pair i b) 11 < 2 ^ 11 := mkB_lt _ _
    obtain ⟨F, f1, f2, f3, f4⟩ := allBehind_n hn hj h10 (NetR_pr h1)
    obtain ⟨W, w1, w2⟩ := findBehind_n x_m_pair x_m_behind
    have emp : x_m_pairs = x_x_net_pairs := by rw [e3, e4]
    cases hF : F.testBit i with
    | true =>
      have hW : W (11 * j + i) ≠ 0 := (w2 j i (by omega) (by omega)).mpr ((f4 i).mp hF)
      refine ⟨(-4 : Int32), x_x_net_pairs, x_x_net_behind, x_x_view_posts, x_x_view_roads, x_x_view_weight, x_x_view_weights, x_x_view_near, x_x_view_behind, x_x_view_ahead, x_x_history_oldest, x_x_history_size, x_x_history_kept_posts, x_x_history_kept_pairs, x_x_history_kept_widths, x_x_history_kept_lengths, x_x_history_kept_told, x_x_history_kept_behind, x_x_sets_solvedFor, x_x_sets_pricedFor, x_x_trials_solvedFor, 0, x_m_pairs, x_m_keptEnd, x_m_kept, x_m_pen, x_m_pair, x_m_old, W, ?_, ?_, Rel_mk h1 h2 h3 h4 h5 h6 h7 h8⟩
      · unfold f_X10_pair
        rw [hb, f1]
        simp only [Option.bind_some, if_neg d10]
        rw [holds_n (by omega) (by omega), hF]
        rfl
      · unfold f_X11_pair
        rw [p1, p2, w1]
        simp only [Option.bind_some, if_neg d10]
        rw [if_neg hne, ix11, gi_n (by omega) (by omega)]
        simp only [Option.bind_some]
        rw [if_neg hW]
    | false =>
      have hnr : ¬ rch (qR x_m_pair) j i := fun h => by
        rw [(f4 i).mpr h] at hF
        cases hF
      have hW : W (11 * j + i) = 0 := Classical.byContradiction fun h => hnr ((w2 j i (by omega) (by omega)).mp h)
      rcases Nat.lt_or_ge (cntM x_m_pair 121) 30 with h30 | h30
      · have c30 : x_x_net_pairs < (30 : Int32) := by
          rw [e3]
          exact nI_lt (b := 30) h30 (by decide)
        have c30' : ¬ x_x_net_pairs = (30 : Int32) := fun q => by
          rw [e3] at q
          have := (nI_eq (b := 30) (by omega) (by decide)).mp q
          omega
        have pq : ∀ a b, a < 11 → b < 11 → prQ (upd x_m_pair (11 * i + j) 1) a b = (prQ x_m_pair a b || decide (a = i ∧ b = j)) := fun a b ha hb2 => by
          by_cases hab : a = i ∧ b = j
          · obtain ⟨rfl, rfl⟩ := hab
            simp [prQ, pk_us]
          · rw [prQ_congr (p1 := upd x_m_pair (11 * i + j) 1) (p2 := x_m_pair) (pk_un (by omega)), decide_eq_false hab, Bool.or_false]
        have hrank : ∃ rk : Nat → Nat, ∀ a b, a < 11 → b < 11 → prQ (upd x_m_pair (11 * i + j) 1) a b = true → rk a < rk b := by
          refine ⟨fun x => if x = j ∨ W (11 * j + x) ≠ 0 then rk x + rk i + 1 else rk x, fun a b ha hb2 hab => ?_⟩
          rw [pq a b ha hb2, Bool.or_eq_true, decide_eq_true_eq] at hab
          show (if a = j ∨ W (11 * j + a) ≠ 0 then rk a + rk i + 1 else rk a) < (if b = j ∨ W (11 * j + b) ≠ 0 then rk b + rk i + 1 else rk b)
          rcases hab with hab | ⟨rfl, rfl⟩
          · have hlt2 := h12 a b ha hb2 hab
            by_cases c1 : a = j ∨ W (11 * j + a) ≠ 0
            · have c2 : b = j ∨ W (11 * j + b) ≠ 0 := by
                right
                rw [w2 j b (by omega) hb2]
                rcases c1 with c1 | c1
                · exact rch_one (by rw [← c1, qR_in ha hb2]; exact hab)
                · exact rch_next ((w2 j a (by omega) ha).mp c1) (by rw [qR_in ha hb2]; exact hab)
              rw [if_pos c1, if_pos c2]
              omega
            · rw [if_neg c1]
              by_cases c2 : b = j ∨ W (11 * j + b) ≠ 0
              · rw [if_pos c2]
                omega
              · rw [if_neg c2]
                exact hlt2
          · rw [if_pos (Or.inl rfl), if_neg]
            · omega
            · rintro (q | q)
              · exact hij q
              · exact q hW
        have c3 : ∀ a b, a < 11 → b < 11 → upd x_m_pair (11 * i + j) 1 (11 * a + b) = 0 ∨ (upd x_m_pair (11 * i + j) 1 (11 * a + b) = 1 ∧ a < n ∧ b < n) := fun a b ha hb2 => by
          by_cases hab : a = i ∧ b = j
          · obtain ⟨rfl, rfl⟩ := hab
            exact Or.inr ⟨pk_us, hi, hj⟩
          · rw [pk_un (by omega)]
            exact hp a b ha hb2
        obtain ⟨k1, k2, k3, k4, k5, k6, k7, k8, m1, m2, m3, m4, g1, g2, g3⟩ := keep_ok h3 h1 x_m_pen
        rcases hp i j (by omega) (by omega) with hz | ⟨hz, -, -⟩
        · have hz1 : ¬ x_m_pair (11 * i + j) = 1 := by rw [hz]; decide
          have hc := cntM_upd1 (f := x_m_pair) (x := 11 * i + j) hz1 (k := 121) (by omega)
          have hN := NetR_pr2 (p2 := x_x_net_pairs + (1 : Int32)) (b2 := upd x_x_net_behind i (nI (mkB (fun b => prQ x_m_pair i b) 11 ||| 2 ^ j))) (pr2 := upd x_m_pair (11 * i + j) 1) h1 (by rw [e3, nI_1, hc]) (by omega) (fun a ha => by
            by_cases hai : a = i
            · subst hai
              rw [pk_us]
              congr 1
              refine mkB_or (by omega) (fun y hy => ?_)
              rw [pq a y ha hy]
              congr 1
              exact decide_eq_decide.mpr (by omega)
            · rw [pk_un hai, h10 a ha]
              congr 1
              apply mkB_congr
              intro y hy
              rw [pq a y ha hy, decide_eq_false (by omega), Bool.or_false]) c3 hrank
          obtain ⟨v1, v2, v3, v4, v5, v6, v7, q1, q2⟩ := refresh_ok hN x_x_view_posts x_x_view_roads x_x_view_weight x_x_view_weights x_x_view_near x_x_view_behind x_x_view_ahead x_x_sets_solvedFor x_x_sets_pricedFor x_x_trials_solvedFor
          refine ⟨x_x_net_pairs + (1 : Int32), x_x_net_pairs + (1 : Int32), upd x_x_net_behind i (nI (mkB (fun b => prQ x_m_pair i b) 11 ||| 2 ^ j)), v1, v2, v3, v4, v5, v6, v7, k1, k2, k3, k4, k5, k6, k7, k8, (-1 : Int32), (-1 : Int32), (-1 : Int32), 0, x_x_net_pairs + (1 : Int32), m1, m2, m3, upd x_m_pair (11 * i + j) 1, m4, W, ?_, ?_, Rel_mk hN q2 g3 h4 h5 h6 ⟨Or.inl rfl, Or.inl rfl⟩ (Or.inl rfl)⟩
          · unfold f_X10_pair
            rw [hb, f1, g1, gi_n (by omega) (by omega), h10 i (by omega), one_shl (by omega)]
            simp only [Option.bind_some, if_neg d10]
            rw [holds_n (by omega) (by omega), holds_n (by omega) (by omega), hF, mkB_tb, show prQ x_m_pair i j = false by simp [prQ, hz], Bool.and_false, or_n, si_n (by omega) (by omega), if_pos c30]
            simp only [Option.bind_some, b2, b8, Bool.false_eq_true, if_false, if_true]
            rw [q1]
            rfl
          · unfold f_X11_pair
            rw [p1, p2, w1, g2, emp]
            simp only [Option.bind_some, if_neg d10]
            rw [if_neg hne, ix11, ix11, gi_n (by omega) (by omega), gi_n (by omega) (by omega), si_n (by omega) (by omega), hz, if_neg c30']
            simp only [Option.bind_some]
            rw [if_pos hW]
            rfl
        · have hcg : ∀ y, upd x_m_pair (11 * i + j) 1 y = x_m_pair y := fun y => by
            by_cases hy : y = 11 * i + j
            · subst hy
              rw [pk_us, hz]
            · rw [pk_un hy]
          have hc : cntM (upd x_m_pair (11 * i + j) 1) 121 = cntM x_m_pair 121 := cntM_congr (fun y _ => hcg y)
          have hN := NetR_pr2 (p2 := x_x_net_pairs) (b2 := x_x_net_behind) (pr2 := upd x_m_pair (11 * i + j) 1) h1 (by rw [e3, hc]) (by omega) (fun a ha => by
            rw [h10 a ha]
            congr 1
            apply mkB_congr
            intro y hy
            exact (prQ_congr (hcg _)).symm) c3 hrank
          obtain ⟨v1, v2, v3, v4, v5, v6, v7, q1, q2⟩ := refresh_ok hN x_x_view_posts x_x_view_roads x_x_view_weight x_x_view_weights x_x_view_near x_x_view_behind x_x_view_ahead x_x_sets_solvedFor x_x_sets_pricedFor x_x_trials_solvedFor
          refine ⟨x_x_net_pairs, x_x_net_pairs, x_x_net_behind, v1, v2, v3, v4, v5, v6, v7, k1, k2, k3, k4, k5, k6, k7, k8, (-1 : Int32), (-1 : Int32), (-1 : Int32), 0, x_x_net_pairs, m1, m2, m3, upd x_m_pair (11 * i + j) 1, m4, W, ?_, ?_, Rel_mk hN q2 g3 h4 h5 h6 ⟨Or.inl rfl, Or.inl rfl⟩ (Or.inl rfl)⟩
          · unfold f_X10_pair
            rw [hb, f1, g1, gi_n (by omega) (by omega), h10 i (by omega)]
            simp only [Option.bind_some, if_neg d10]
            rw [holds_n (by omega) (by omega), holds_n (by omega) (by omega), hF, mkB_tb, show prQ x_m_pair i j = true by simp [prQ, hz], decide_eq_true (show j < 11 by omega), if_pos c30]
            simp only [Option.bind_some, b2, b8, Bool.false_eq_true, if_false, if_true, Bool.and_self, if_neg d10]
            rw [q1]
            rfl
          · unfold f_X11_pair
            rw [p1, p2, w1, g2, emp]
            simp only [Option.bind_some, if_neg d10]
            rw [if_neg hne, ix11, ix11, gi_n (by omega) (by omega), gi_n (by omega) (by omega), si_n (by omega) (by omega), hz, if_neg c30']
            simp only [Option.bind_some]
            rw [if_pos hW, if_neg (show ¬ (1 : Int32) = 0 by decide)]
            simp only [Option.bind_some, b4]
            rw [Int32.add_zero]
      · have c30 : ¬ x_x_net_pairs < (30 : Int32) := by
          rw [e3]
          exact nI_nlt (b := 30) h30 (by omega)
        have c30' : x_x_net_pairs = (30 : Int32) := by
          rw [e3, show cntM x_m_pair 121 = 30 by omega]
          rfl
        refine ⟨(-5 : Int32), x_x_net_pairs, x_x_net_behind, x_x_view_posts, x_x_view_roads, x_x_view_weight, x_x_view_weights, x_x_view_near, x_x_view_behind, x_x_view_ahead, x_x_history_oldest, x_x_history_size, x_x_history_kept_posts, x_x_history_kept_pairs, x_x_history_kept_widths, x_x_history_kept_lengths, x_x_history_kept_told, x_x_history_kept_behind, x_x_sets_solvedFor, x_x_sets_pricedFor, x_x_trials_solvedFor, 0, x_m_pairs, x_m_keptEnd, x_m_kept, x_m_pen, x_m_pair, x_m_old, W, ?_, ?_, Rel_mk h1 h2 h3 h4 h5 h6 h7 h8⟩
        · unfold f_X10_pair
          rw [hb, f1]
          simp only [Option.bind_some, if_neg d10]
          rw [holds_n (by omega) (by omega), hF, if_neg c30]
          rfl
        · unfold f_X11_pair
          rw [p1, p2, w1]
          simp only [Option.bind_some, if_neg d10]
          rw [if_neg hne, ix11, gi_n (by omega) (by omega), emp, if_pos c30']
          simp only [Option.bind_some]
          rw [if_pos hW]
  · refine ⟨(-3 : Int32), x_x_net_pairs, x_x_net_behind, x_x_view_posts, x_x_view_roads, x_x_view_weight, x_x_view_weights, x_x_view_near, x_x_view_behind, x_x_view_ahead, x_x_history_oldest, x_x_history_size, x_x_history_kept_posts, x_x_history_kept_pairs, x_x_history_kept_widths, x_x_history_kept_lengths, x_x_history_kept_told, x_x_history_kept_behind, x_x_sets_solvedFor, x_x_sets_pricedFor, x_x_trials_solvedFor, 0, x_m_pairs, x_m_keptEnd, x_m_kept, x_m_pen, x_m_pair, x_m_old, x_m_behind, ?_, ?_, Rel_mk h1 h2 h3 h4 h5 h6 h7 h8⟩
    · unfold f_X10_pair
      rw [b1]
      rfl
    · unfold f_X11_pair
      rcases b2 with b2 | ⟨b2, b3⟩ | ⟨b2, b3, b4⟩
      · rw [b2]
        rfl
      · rw [b2, b3]
        rfl
      · rw [b2, b3]
        simp only [Option.bind_some, if_neg d10]
        rw [if_pos b4]
