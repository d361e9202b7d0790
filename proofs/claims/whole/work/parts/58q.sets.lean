/-! LAYER 2: the reference solves by sets -/
def mnO (f : Nat → Nat) (ok : Nat → Bool) : Nat → Option Nat
  | 0 => none
  | p + 1 => if ok p then (match mnO f ok p with
      | none => some (f p)
      | some v => some (min v (f p))) else mnO f ok p
theorem mnO_spec {f : Nat → Nat} {ok : Nat → Bool} : ∀ {k v : Nat}, mnO f ok k = some v → (∃ p, p < k ∧ ok p = true ∧ v = f p) ∧ ∀ p, p < k → ok p = true → v ≤ f p
  | 0, v, h => by cases h
  | k + 1, v, h => by
    rw [mnO] at h
    cases hk : ok k with
    | false =>
      rw [hk] at h
      obtain ⟨⟨p, h1, h2⟩, h3⟩ := mnO_spec (k := k) h
      refine ⟨⟨p, by omega, h2⟩, fun p hp hp2 => ?_⟩
      rcases Nat.lt_or_ge p k with q | q
      · exact h3 p q hp2
      · have : p = k := by omega
        rw [this, hk] at hp2
        cases hp2
    | true =>
      rw [hk, if_pos rfl] at h
      cases hm : mnO f ok k with
      | none =>
        rw [hm] at h
        cases h
        refine ⟨⟨k, by omega, hk, rfl⟩, fun p hp hp2 => ?_⟩
        rcases Nat.lt_or_ge p k with q | q
        · exfalso
          have hno : ∀ {k}, mnO f ok k = none → ∀ p, p < k → ok p = true → False := fun {k} => by
            induction k with
            | zero => intro _ p hp; omega
            | succ k ih =>
              intro h p hp hok
              rw [mnO] at h
              cases hk2 : ok k with
              | true =>
                rw [hk2, if_pos rfl] at h
                split at h <;> cases h
              | false =>
                rw [hk2] at h
                rcases Nat.lt_or_ge p k with q | q
                · exact ih h p q hok
                · have : p = k := by omega
                  rw [this, hk2] at hok
                  cases hok
          exact hno hm p q hp2
        · have : p = k := by omega
          rw [this]
          exact Nat.le_refl _
      | some u =>
        rw [hm] at h
        cases h
        obtain ⟨⟨p, h1, h2, h4⟩, h3⟩ := mnO_spec hm
        refine ⟨?_, fun p hp hp2 => ?_⟩
        · rcases Nat.lt_or_ge u (f k) with q | q
          · exact ⟨p, by omega, h2, by omega⟩
          · exact ⟨k, by omega, hk, by omega⟩
        · rcases Nat.lt_or_ge p k with q | q
          · have := h3 p q hp2
            omega
          · have : p = k := by omega
            rw [this]
            omega
theorem mnO_some {f : Nat → Nat} {ok : Nat → Bool} {p : Nat} (hp : ok p = true) : ∀ {k : Nat}, p < k → ∃ v, mnO f ok k = some v
  | 0, h => absurd h (by omega)
  | k + 1, h => by
    rw [mnO]
    cases hk : ok k with
    | true =>
      rw [if_pos rfl]
      cases mnO f ok k with
      | none => exact ⟨_, rfl⟩
      | some u => exact ⟨_, rfl⟩
    | false =>
      rcases Nat.lt_or_ge p k with q | q
      · exact mnO_some hp q
      · have : p = k := by omega
        rw [this, hk] at hp
        cases hp
def jN (c x y : Nat) : Nat := if c = 3 then x + y else max x y
theorem jN_le (c x y : Nat) : jN c x y ≤ x + y := by
  unfold jN
  split <;> omega
theorem joinM_N {c x y : Nat} (hx : x < 100000000) (hy : y < 100000000) : joinM c (nI x) (nI y) = nI (jN c x y) := by
  unfold joinM jN
  by_cases h3 : c = 3
  · rw [if_pos h3, if_pos h3, nI_add]
  · rw [if_neg h3, if_neg h3]
    by_cases h : x < y
    · rw [if_pos (nI_lt h (by omega)), show max x y = y by omega]
    · rw [if_neg (nI_nlt (by omega) (by omega)), show max x y = x by omega]
/-- a set that is not all has a next post -/
theorem may_ex {n s : Nat} {pr : Nat → Nat → Bool} (hn : n ≤ 11) (hs : s < 2 ^ n - 1) (hrk : ∃ rk : Nat → Nat, ∀ a b, a < 11 → b < 11 → pr a b = true → rk a < rk b) : ∃ p, p < n ∧ mayN pr n s p = true := by
  obtain ⟨rk, hrk⟩ := hrk
  have hex : ∃ p, p < n ∧ s.testBit p = false := by
    apply Classical.byContradiction
    intro hc
    have : s = 2 ^ n - 1 := by
      apply Nat.eq_of_testBit_eq
      intro i
      rw [Nat.testBit_two_pow_sub_one]
      by_cases hi : i < n
      · rw [decide_eq_true hi]
        cases hb : s.testBit i with
        | true => rfl
        | false => exact absurd ⟨i, hi, hb⟩ hc
      · rw [decide_eq_false hi]
        exact Nat.testBit_lt_two_pow (Nat.lt_of_lt_of_le (show s < 2 ^ n by omega) (Nat.pow_le_pow_right (by decide) (by omega)))
    omega
  obtain ⟨r, ⟨p, h1, h2, h3⟩, h4⟩ := pk_least (fun r => ∃ p, p < n ∧ s.testBit p = false ∧ rk p = r) (by obtain ⟨p, h1, h2⟩ := hex; exact ⟨rk p, p, h1, h2, rfl⟩)
  refine ⟨p, h1, ?_⟩
  unfold mayN
  rw [h2, allAhead_iff.mpr (fun a ha hpa => ?_)]
  · rfl
  · cases hb : s.testBit a with
    | true => rfl
    | false =>
      have := hrk a p (by omega) (by omega) hpa
      exact absurd ⟨a, ha, hb, rfl⟩ (h4 (rk a) (by omega))
theorem pcN_all {n s : Nat} (hs : s < 2 ^ n) (h : pcN s n = n) : s = 2 ^ n - 1 := by
  have hb : ∀ k, pcN s k = k → ∀ i, i < k → s.testBit i = true := fun k => by
    induction k with
    | zero => intro _ i hi; omega
    | succ k ih =>
      intro h i hi
      rw [pcN] at h
      have hle := pcN_le11 s k
      cases hk : s.testBit k with
      | false => rw [hk] at h; simp only [Bool.false_eq_true, if_false] at h; omega
      | true =>
        rw [hk] at h
        simp only [if_true] at h
        rcases Nat.lt_or_ge i k with q | q
        · exact ih (by omega) i q
        · have : i = k := by omega
          rw [this, hk]
  apply Nat.eq_of_testBit_eq
  intro i
  rw [Nat.testBit_two_pow_sub_one]
  by_cases hi : i < n
  · rw [decide_eq_true hi, hb n h i hi]
  · rw [decide_eq_false hi]
    exact Nat.testBit_lt_two_pow (Nat.lt_of_lt_of_le hs (Nat.pow_le_pow_right (by decide) (by omega)))
theorem pcN_full {n : Nat} : pcN (2 ^ n - 1) n = n := by
  have : ∀ k, k ≤ n → pcN (2 ^ n - 1) k = k := fun k => by
    induction k with
    | zero => intro _; rfl
    | succ k ih =>
      intro hk
      rw [pcN, ih (by omega), Nat.testBit_two_pow_sub_one, decide_eq_true (by omega)]
      rfl
  exact this n (Nat.le_refl n)
def RestsN (n c : Nat) (pN R : Nat → Nat) (pr : Nat → Nat → Bool) (rests : Nat → Int32) : Prop := (∀ s, s < 2 ^ n → rests s = nI (R s) ∧ R s ≤ 242000 * (n - pcN s n)) ∧ R (2 ^ n - 1) = 0 ∧ ∀ s, s < 2 ^ n - 1 → (∀ p, p < n → mayN pr n s p = true → R s ≤ jN c (pN (s ||| 2 ^ p)) (R (s ||| 2 ^ p))) ∧ ∃ p, p < n ∧ mayN pr n s p = true ∧ R s = jN c (pN (s ||| 2 ^ p)) (R (s ||| 2 ^ p))
def encO (d : Int32) : Option Nat → Int32
  | none => d
  | some v => nI v
theorem leastF_O {n c s : Nat} {pr : Nat → Nat → Bool} {q rests : Nat → Int32} {f : Nat → Nat} : ∀ {k : Nat}, k ≤ n → (∀ p, p < k → s.testBit p = false → joinM c (q (s ||| 2 ^ p)) (rests (s ||| 2 ^ p)) = nI (f p) ∧ f p < 100000000) → leastF (1073741824 : Int32) c q rests pr n s k = encO (1073741824 : Int32) (mnO f (mayN pr n s) k)
  | 0, _, _ => rfl
  | k + 1, hk, h => by
    rw [leastF, mnO, leastF_O (k := k) (by omega) (fun p hp => h p (by omega)), show mayN pr n s k = (!s.testBit k && allAhead pr s k n) from rfl]
    cases hb : s.testBit k with
    | true => simp only [Bool.not_true, Bool.false_and, Bool.false_eq_true, if_false]
    | false =>
      obtain ⟨h1, h2⟩ := h k (by omega) hb
      cases allAhead pr s k n with
      | false => simp only [Bool.and_false, Bool.false_eq_true, if_false]
      | true =>
        simp only [Bool.not_false, Bool.and_self, if_true]
        rw [h1]
        cases hm : mnO f (mayN pr n s) k with
        | none =>
          rw [if_pos (show nI (f k) < encO (1073741824 : Int32) none from nI_lt (b := 1073741824) (by omega) (by decide))]
          rfl
        | some v =>
          obtain ⟨⟨p, p1, p2, p3⟩, -⟩ := mnO_spec hm
          have hbp : s.testBit p = false := by
            unfold mayN at p2
            rw [Bool.and_eq_true, Bool.not_eq_true'] at p2
            exact p2.1
          have hv := (h p (by omega) hbp).2
          by_cases hlt : f k < v
          · rw [if_pos (show nI (f k) < encO (1073741824 : Int32) (some v) from nI_lt hlt (by omega))]
            show _ = nI (min v (f k))
            rw [show min v (f k) = f k by omega]
          · rw [if_neg (show ¬ nI (f k) < encO (1073741824 : Int32) (some v) from nI_nlt (by omega) (by omega))]
            show nI v = nI (min v (f k))
            rw [show min v (f k) = v by omega]
theorem rests_nat {n c : Nat} {rd : Nat → Nat → Int32} {rN : Nat → Nat → Nat} {pr : Nat → Nat → Bool} {q rests : Nat → Int32} (hx : Cx n rd rN) (hrk : ∃ rk : Nat → Nat, ∀ a b, a < 11 → b < 11 → pr a b = true → rk a < rk b) (hq : ∀ s, s < 2 ^ n → q s = priceM n rd pr c s) (h0 : rests (2 ^ n - 1) = 0) (h1 : ∀ s, s < 2 ^ n - 1 → rests s = leastF (1073741824 : Int32) c q rests pr n s n) : ∃ R, RestsN n c (priceN n rN (rdQ rd) pr c) R pr rests := by
  have hn := hx.1
  have hpos : 0 < 2 ^ n := Nat.pow_pos (by decide)
  have hq2 : ∀ s, s < 2 ^ n → q s = nI (priceN n rN (rdQ rd) pr c s) := fun s hs => by rw [hq s hs]; exact priceN_eq hx
  have hple : ∀ s, priceN n rN (rdQ rd) pr c s ≤ 242000 := fun s => priceN_le hx
  generalize priceN n rN (rdQ rd) pr c = pN at hq2 hple
  have hb : ∀ d s, s < 2 ^ n → 2 ^ n - 1 - s = d → rests s = nI (rests s).toNatClampNeg ∧ (rests s).toNatClampNeg ≤ 242000 * (n - pcN s n) := fun d => by
    induction d using Nat.strongRecOn with
    | _ d ih =>
      intro s hs hd
      rcases Nat.lt_or_ge s (2 ^ n - 1) with q1 | q1
      · have hf : ∀ p, p < n → s.testBit p = false → joinM c (q (s ||| 2 ^ p)) (rests (s ||| 2 ^ p)) = nI (jN c (pN (s ||| 2 ^ p)) (rests (s ||| 2 ^ p)).toNatClampNeg) ∧ jN c (pN (s ||| 2 ^ p)) (rests (s ||| 2 ^ p)).toNatClampNeg < 100000000 ∧ jN c (pN (s ||| 2 ^ p)) (rests (s ||| 2 ^ p)).toNatClampNeg ≤ 242000 * (n - pcN s n) := fun p hp hbp => by
          have ho := or_lt11 hn hs hp
          have hg := or_gt hbp
          obtain ⟨e1, e2⟩ := ih (2 ^ n - 1 - (s ||| 2 ^ p)) (by omega) (s ||| 2 ^ p) ho rfl
          have hpc := pcN_or hbp hp
          have hpc2 := pcN_le11 (s ||| 2 ^ p) n
          have hpl := hple (s ||| 2 ^ p)
          have hj := jN_le c (pN (s ||| 2 ^ p)) (rests (s ||| 2 ^ p)).toNatClampNeg
          rw [hpc] at e2
          have hm : 242000 * (n - pcN s n) = 242000 * (n - (pcN s n + 1)) + 242000 := by
            rw [show n - pcN s n = n - (pcN s n + 1) + 1 by omega, Nat.mul_add]
          have hm2 : 242000 * (n - pcN s n) ≤ 242000 * 11 := Nat.mul_le_mul_left _ (by omega)
          refine ⟨?_, by omega, by omega⟩
          rw [hq2 _ ho]
          conv => lhs; rw [e1]
          exact joinM_N (by omega) (by omega)
        obtain ⟨p0, hp0, hm0⟩ := may_ex hn q1 hrk
        obtain ⟨v, hv⟩ := mnO_some (f := fun p => jN c (pN (s ||| 2 ^ p)) (rests (s ||| 2 ^ p)).toNatClampNeg) hm0 hp0
        obtain ⟨⟨p, p1, p2, p3⟩, -⟩ := mnO_spec hv
        have hbp : s.testBit p = false := by
          unfold mayN at p2
          rw [Bool.and_eq_true, Bool.not_eq_true'] at p2
          exact p2.1
        have h3 := (hf p p1 hbp).2
        have e : rests s = nI v := by
          rw [h1 s q1, leastF_O (f := fun p => jN c (pN (s ||| 2 ^ p)) (rests (s ||| 2 ^ p)).toNatClampNeg) (Nat.le_refl n) (fun p hp hb => ⟨(hf p hp hb).1, (hf p hp hb).2.1⟩), hv]
          rfl
        rw [e, nI_clamp (by omega)]
        exact ⟨rfl, by rw [p3]; exact h3.2⟩
      · have : s = 2 ^ n - 1 := by omega
        subst this
        rw [h0]
        exact ⟨by decide, by rw [show (0 : Int32).toNatClampNeg = 0 by decide]; exact Nat.zero_le _⟩
  refine ⟨fun s => (rests s).toNatClampNeg, fun s hs => hb _ s hs rfl, ?_, fun s hs => ?_⟩
  · show (rests (2 ^ n - 1)).toNatClampNeg = 0
    rw [h0]
    decide
  · have hf : ∀ p, p < n → s.testBit p = false → joinM c (q (s ||| 2 ^ p)) (rests (s ||| 2 ^ p)) = nI (jN c (pN (s ||| 2 ^ p)) (rests (s ||| 2 ^ p)).toNatClampNeg) ∧ jN c (pN (s ||| 2 ^ p)) (rests (s ||| 2 ^ p)).toNatClampNeg < 100000000 := fun p hp hbp => by
      have ho := or_lt11 hn (show s < 2 ^ n by omega) hp
      obtain ⟨e1, e2⟩ := hb _ (s ||| 2 ^ p) ho rfl
      have hm2 : 242000 * (n - pcN (s ||| 2 ^ p) n) ≤ 242000 * 11 := Nat.mul_le_mul_left _ (by omega)
      have hpl := hple (s ||| 2 ^ p)
      have hj := jN_le c (pN (s ||| 2 ^ p)) (rests (s ||| 2 ^ p)).toNatClampNeg
      refine ⟨?_, by omega⟩
      rw [hq2 _ ho]
      conv => lhs; rw [e1]
      exact joinM_N (by omega) (by omega)
    obtain ⟨p0, hp0, hm0⟩ := may_ex hn hs hrk
    obtain ⟨v, hv⟩ := mnO_some (f := fun p => jN c (pN (s ||| 2 ^ p)) (rests (s ||| 2 ^ p)).toNatClampNeg) hm0 hp0
    have e : rests s = nI v := by
      rw [h1 s hs, leastF_O (f := fun p => jN c (pN (s ||| 2 ^ p)) (rests (s ||| 2 ^ p)).toNatClampNeg) (Nat.le_refl n) hf, hv]
      rfl
    obtain ⟨⟨p, p1, p2, p3⟩, h4⟩ := mnO_spec hv
    have hbp : s.testBit p = false := by
      unfold mayN at p2
      rw [Bool.and_eq_true, Bool.not_eq_true'] at p2
      exact p2.1
    have h5 := (hf p p1 hbp).2
    have e2 : (rests s).toNatClampNeg = v := by rw [e, nI_clamp (by omega)]
    show (∀ p, p < n → mayN pr n s p = true → (rests s).toNatClampNeg ≤ _) ∧ ∃ p, p < n ∧ mayN pr n s p = true ∧ (rests s).toNatClampNeg = _
    rw [e2]
    exact ⟨h4, p, p1, p2, p3⟩
/-! the reference's table -/
def tN (c n : Nat) (R : Nat → Nat) (s : Nat) : Nat := if c = 5 then (if n ≤ pcN s n + 1 then 0 else R s + 1) else R s
theorem tN_le {c n : Nat} {R pN : Nat → Nat} {pr : Nat → Nat → Bool} {rests : Nat → Int32} (h : RestsN n c pN R pr rests) (hn : n ≤ 11) {s : Nat} (hs : s < 2 ^ n) : tN c n R s ≤ 3000000 ∧ R s ≤ 2662000 := by
  have h1 := (h.1 s hs).2
  have hm2 : 242000 * (n - pcN s n) ≤ 242000 * 11 := Nat.mul_le_mul_left _ (by omega)
  unfold tN
  split
  · split <;> omega
  · omega
def cbN (c n : Nat) (pN R : Nat → Nat) (t : Nat) : Nat := if t = 2 ^ n - 1 then 0 else jN c (pN t + (if c = 5 then 1 else 0)) (tN c n R t)
theorem short_R {c n : Nat} {R pN : Nat → Nat} {pr : Nat → Nat → Bool} {rests : Nat → Int32} (h : RestsN n c pN R pr rests) (hz : pN (2 ^ n - 1) = 0) (hn : n ≤ 11) {s : Nat} (hs : s < 2 ^ n) (hsh : n ≤ pcN s n + 1) : R s = 0 := by
  rcases Nat.lt_or_ge s (2 ^ n - 1) with q | q
  · obtain ⟨p, p1, p2, p3⟩ := (h.2.2 s q).2
    have hbp : s.testBit p = false := by
      unfold mayN at p2
      rw [Bool.and_eq_true, Bool.not_eq_true'] at p2
      exact p2.1
    have hpc := pcN_or hbp p1
    have hle := pcN_le11 (s ||| 2 ^ p) n
    have ha := pcN_all (or_lt11 hn hs p1) (by omega)
    rw [p3, ha, hz, h.2.1]
    unfold jN
    split <;> rfl
  · have : s = 2 ^ n - 1 := by omega
    rw [this]
    exact h.2.1
theorem cbN_eq {c n : Nat} {R pN : Nat → Nat} {pr : Nat → Nat → Bool} {rests : Nat → Int32} (h : RestsN n c pN R pr rests) (hz : pN (2 ^ n - 1) = 0) (hn : n ≤ 11) {t : Nat} (ht : t < 2 ^ n) : cbN c n pN R t = jN c (pN t) (R t) + (if c = 5 ∧ t ≠ 2 ^ n - 1 then 1 else 0) := by
  unfold cbN
  by_cases ha : t = 2 ^ n - 1
  · rw [if_pos ha, ha, hz, h.2.1, if_neg (fun q => q.2 rfl)]
    unfold jN
    split <;> rfl
  · rw [if_neg ha]
    unfold tN
    by_cases h5 : c = 5
    · subst h5
      rw [if_pos (show (5 : Nat) = 5 from rfl), if_pos (show (5 : Nat) = 5 from rfl), if_pos (show (5 : Nat) = 5 ∧ t ≠ 2 ^ n - 1 from ⟨rfl, ha⟩)]
      unfold jN
      rw [if_neg (show ¬ (5 : Nat) = 3 by decide), if_neg (show ¬ (5 : Nat) = 3 by decide)]
      by_cases hsh : n ≤ pcN t n + 1
      · rw [if_pos hsh, short_R h hz hn ht hsh]
        omega
      · rw [if_neg hsh]
        omega
    · rw [if_neg h5, if_neg h5, if_neg (fun q => h5 q.1)]
      rfl
theorem tN_min {c n : Nat} {R pN : Nat → Nat} {pr : Nat → Nat → Bool} {rests : Nat → Int32} (h : RestsN n c pN R pr rests) (hz : pN (2 ^ n - 1) = 0) (hn : n ≤ 11) {s : Nat} (hs : s < 2 ^ n - 1) : mnO (fun p => cbN c n pN R (s ||| 2 ^ p)) (mayN pr n s) n = some (tN c n R s) := by
  obtain ⟨h1, p1, hp1, hm1, e1⟩ := h.2.2 s hs
  have hs2 : s < 2 ^ n := by omega
  obtain ⟨v, hv⟩ := mnO_some (f := fun p => cbN c n pN R (s ||| 2 ^ p)) hm1 hp1
  obtain ⟨⟨p0, hp0, hm0, e0⟩, hmin⟩ := mnO_spec hv
  have hv1 := hmin p1 hp1 hm1
  try dsimp only at e0 hv1
  rw [cbN_eq h hz hn (or_lt11 hn hs2 hp0)] at e0
  rw [cbN_eq h hz hn (or_lt11 hn hs2 hp1)] at hv1
  have hj0 := h1 p0 hp0 hm0
  have hbit : ∀ p, mayN pr n s p = true → s.testBit p = false := fun p p2 => by
    unfold mayN at p2
    rw [Bool.and_eq_true, Bool.not_eq_true'] at p2
    exact p2.1
  have hpc0 := pcN_or (hbit p0 hm0) hp0
  have hpc1 := pcN_or (hbit p1 hm1) hp1
  have hle0 := pcN_le11 (s ||| 2 ^ p0) n
  rw [hv]
  congr 1
  by_cases hsh : n ≤ pcN s n + 1
  · have a0 := pcN_all (or_lt11 hn hs2 hp0) (by omega)
    have a1 := pcN_all (or_lt11 hn hs2 hp1) (by omega)
    rw [a0, hz, h.2.1, if_neg (fun q => q.2 rfl)] at e0
    unfold tN
    rw [short_R h hz hn hs2 hsh, e0]
    unfold jN
    split <;> split <;> (try split) <;> first | rfl | omega
  · have a0 : s ||| 2 ^ p0 ≠ 2 ^ n - 1 := fun q => by
      rw [q, pcN_full] at hpc0
      omega
    have a1 : s ||| 2 ^ p1 ≠ 2 ^ n - 1 := fun q => by
      rw [q, pcN_full] at hpc1
      omega
    unfold tN
    rw [if_neg hsh]
    by_cases h5 : c = 5
    · rw [if_pos ⟨h5, a0⟩] at e0
      rw [if_pos ⟨h5, a1⟩] at hv1
      rw [if_pos h5]
      omega
    · rw [if_neg (fun q => h5 q.1)] at e0
      rw [if_neg (fun q => h5 q.1)] at hv1
      rw [if_neg h5]
      omega
/-- whether a step is best, by numbers -/
theorem step_N {c n : Nat} {R pN : Nat → Nat} {pr : Nat → Nat → Bool} {q rests : Nat → Int32} (h : RestsN n c pN R pr rests) (hq : ∀ s, s < 2 ^ n → q s = nI (pN s)) (hple : ∀ s, pN s ≤ 242000) (hn : n ≤ 11) {s p : Nat} (hs : s < 2 ^ n) (hp : p < n) : stepM c q rests pr n s p = (mayN pr n s p && decide (jN c (pN (s ||| 2 ^ p)) (R (s ||| 2 ^ p)) ≤ (if c = 3 then R s else R 0))) := by
  unfold stepM mayN
  have ho := or_lt11 hn hs hp
  have hpos : 0 < 2 ^ n := Nat.pow_pos (by decide)
  obtain ⟨-, b1⟩ := tN_le h hn ho
  obtain ⟨-, b2⟩ := tN_le h hn hs
  obtain ⟨-, b3⟩ := tN_le h hn hpos
  have hj := jN_le c (pN (s ||| 2 ^ p)) (R (s ||| 2 ^ p))
  have hpl := hple (s ||| 2 ^ p)
  congr 1
  rw [hq _ ho, (h.1 _ ho).1, (h.1 _ hs).1, (h.1 _ hpos).1, joinM_N (by omega) (by omega)]
  by_cases h3 : c = 3
  · rw [if_pos h3, if_pos h3]
    exact decide_eq_decide.mpr (nI_leI (by omega) (by omega))
  · rw [if_neg h3, if_neg h3]
    exact decide_eq_decide.mpr (nI_leI (by omega) (by omega))
theorem upd_upd (f : Nat → Int32) (k : Nat) (x y : Int32) : upd (upd f k x) k y = upd f k y := by
  funext j
  unfold upd
  by_cases h : j = k
  · rw [if_pos h, if_pos h]
  · rw [if_neg h, if_neg h, if_neg h]
theorem upd_same (f : Nat → Int32) (k : Nat) : upd f k (f k) = f := by
  funext j
  unfold upd
  by_cases h : j = k
  · rw [if_pos h, h]
  · rw [if_neg h]
theorem mayM_n {n s p : Nat} {pair : Nat → Int32} (hn : n ≤ 11) (hs : s < 2 ^ 31) (hp : p < n) (h01 : ∀ a b, a < 11 → b < 11 → pair (11 * a + b) = 0 ∨ pair (11 * a + b) = 1) : f_X11_mayCome (nI n) pair (nI p) (nI s) = some (b2I (mayN (prQ pair) n s p)) := by
  rw [mayCome_n hn hs (by omega)]
  unfold mayN
  have e : ∀ k, k ≤ n → allAhead (pzQ pair) s p k = allAhead (prQ pair) s p k := fun k => by
    induction k with
    | zero => intro _; rfl
    | succ k ih =>
      intro hk
      rw [allAhead, allAhead, ih (by omega)]
      congr 2
      unfold pzQ prQ
      rcases h01 k p (by omega) (by omega) with q | q
      · rw [q]
        decide
      · rw [q]
        decide
  rw [e n (Nat.le_refl n)]
section REFS
variable {n c : Nat} {wide places weights pair q rests ways : Nat → Int32} {rN : Nat → Nat → Nat} {R : Nat → Nat}
theorem costBy_n {L : Nat → Int32} {s p : Nat} (hx : Cx n (rdM wide places weights) rN) (hR : RestsN n c (priceN n rN (rdQ (rdM wide places weights)) (prQ pair) c) R (prQ pair) rests) (hc : c = 1 ∨ c = 2 ∨ c = 3 ∨ c = 5) (hs : s < 2 ^ n) (hp : p < n) (hL : L (s ||| 2 ^ p) = nI (tN c n R (s ||| 2 ^ p))) : f_X11_costBy (nI n) wide places weights pair L (nI c) (nI s) (nI p) = some (nI (cbN c n (priceN n rN (rdQ (rdM wide places weights)) (prQ pair) c) R (s ||| 2 ^ p))) := by
  have hn := hx.1
  have ho := or_lt11 hn hs hp
  have hpw : 2 ^ n ≤ 2 ^ 11 := Nat.pow_le_pow_right (by decide) hn
  obtain ⟨b1, -⟩ := tN_le hR hn ho
  have hpl := priceN_le (c := c) (s := s ||| 2 ^ p) (qr := rdQ (rdM wide places weights)) (pr := prQ pair) hx
  have he5 : (if c = 5 then 1 else 0) ≤ 1 := by split <;> omega
  unfold f_X11_costBy cbN
  rw [whole_n hn, one_shl (by omega), or_n]
  simp only [Option.bind_some]
  by_cases ha : s ||| 2 ^ p = 2 ^ n - 1
  · rw [if_pos (by rw [ha]), if_pos ha]
    rfl
  · rw [if_neg (fun q => ha ((nI_eq (by omega) (by omega)).mp q)), if_neg ha, costOfSet_n hx hc (by omega), gi_n (by omega) (by omega), hL]
    simp only [Option.bind_some]
    unfold jN
    by_cases h3 : c = 3
    · rw [if_pos (by rw [h3]; rfl), if_pos h3, nI_add]
    · rw [if_neg (show ¬ nI c = (3 : Int32) from fun q => h3 ((nI_c (d := 3) (by omega) (by omega)).mp q)), if_neg h3]
      by_cases hle : priceN n rN (rdQ (rdM wide places weights)) (prQ pair) c (s ||| 2 ^ p) + (if c = 5 then 1 else 0) ≤ tN c n R (s ||| 2 ^ p)
      · rw [if_pos (nI_le hle (by omega)), Nat.max_eq_right hle]
      · rw [if_neg (nI_ge (by omega) (by omega)), Nat.max_eq_left (by omega)]
theorem leastIn_n {L : Nat → Int32} {s : Nat} (hx : Cx n (rdM wide places weights) rN) (hR : RestsN n c (priceN n rN (rdQ (rdM wide places weights)) (prQ pair) c) R (prQ pair) rests) (h01 : ∀ a b, a < 11 → b < 11 → pair (11 * a + b) = 0 ∨ pair (11 * a + b) = 1) (hc : c = 1 ∨ c = 2 ∨ c = 3 ∨ c = 5) (hs : s < 2 ^ n - 1) (hL : ∀ t, s + 1 ≤ t → t < 2 ^ n → L t = nI (tN c n R t)) : loopS (fun (t : Int32 × (Nat → Int32)) => f_X11_solveSets_L31 (nI c) (nI s) (nI n) wide places weights pair t.1 t.2) ((0 : Int32), upd L s (1000000000 : Int32)) = some (upd L s (nI (tN c n R s))) := by
  have hn := hx.1
  have hpw : 2 ^ n ≤ 2 ^ 11 := Nat.pow_le_pow_right (by decide) hn
  have hz : priceN n rN (rdQ (rdM wide places weights)) (prQ pair) c (2 ^ n - 1) = 0 := priceN_all
  have hmin := tN_min hR hz hn hs
  have hcb := fun p (hp : p < n) (L2 : Nat → Int32) => costBy_n (L := L2) (s := s) (p := p) hx hR hc (by omega) hp
  have hple : ∀ s, priceN n rN (rdQ (rdM wide places weights)) (prQ pair) c s ≤ 242000 := fun s => priceN_le hx
  generalize priceN n rN (rdQ (rdM wide places weights)) (prQ pair) c = pN at hR hz hmin hcb hple
  have hcl : ∀ p, p < n → cbN c n pN R (s ||| 2 ^ p) ≤ 4000000 := fun p hp => by
    have ho := or_lt11 hn (show s < 2 ^ n by omega) hp
    obtain ⟨b1, b2⟩ := tN_le hR hn ho
    have := hple (s ||| 2 ^ p)
    have hj := jN_le c (pN (s ||| 2 ^ p) + (if c = 5 then 1 else 0)) (tN c n R (s ||| 2 ^ p))
    have he5 : (if c = 5 then 1 else 0) ≤ 1 := by split <;> omega
    unfold cbN
    split
    · omega
    · omega
  have key := loop_go (step := fun (t : Int32 × (Nat → Int32)) => f_X11_solveSets_L31 (nI c) (nI s) (nI n) wide places weights pair t.1 t.2) (s0 := ((0 : Int32), upd L s (1000000000 : Int32))) (x := upd L s (encO (1000000000 : Int32) (mnO (fun p => cbN c n pN R (s ||| 2 ^ p)) (mayN (prQ pair) n s) n))) (fun k => (nI k, upd L s (encO (1000000000 : Int32) (mnO (fun p => cbN c n pN R (s ||| 2 ^ p)) (mayN (prQ pair) n s) k)))) n rfl (fun k hk => ?_) ?_
  · rw [key, hmin]
    rfl
  · try dsimp only
    unfold f_X11_solveSets_L31
    have ho := or_lt11 hn (show s < 2 ^ n by omega) hk
    obtain ⟨b1, b2⟩ := tN_le hR hn ho
    rw [if_neg (nI_ge hk (by omega)), mayM_n hn (by omega) hk h01, one_shl (by omega), or_n, gi_n (by omega) (by omega), nI_1, mnO]
    cases hmay : mayN (prQ pair) n s k with
    | false => rfl
    | true =>
      have hbp : s.testBit k = false := by
        unfold mayN at hmay
        rw [Bool.and_eq_true, Bool.not_eq_true'] at hmay
        exact hmay.1
      have hg := or_gt hbp
      have hLn : ∀ x, upd L s x (s ||| 2 ^ k) = nI (tN c n R (s ||| 2 ^ k)) := fun x => by
        rw [pk_un (by omega)]
        exact hL _ (by omega) ho
      rw [hLn, hcb k hk _ (hLn _), gi_n (by omega) (by omega), pk_us]
      have hck := hcl k hk
      simp only [Option.bind_some, b2I, if_true]
      rw [if_neg (show ¬ (1 : Int32) = 0 by decide), if_neg (show ¬ (1000000000 : Int32) ≤ nI (tN c n R (s ||| 2 ^ k)) from nI_ge (b := 1000000000) (by omega) (by decide))]
      cases hm : mnO (fun p => cbN c n pN R (s ||| 2 ^ p)) (mayN (prQ pair) n s) k with
      | none =>
        rw [if_neg (show ¬ encO (1000000000 : Int32) none ≤ nI (cbN c n pN R (s ||| 2 ^ k)) from nI_ge (b := 1000000000) (by omega) (by decide))]
        simp only [Option.bind_some]
        rw [si_n (by omega) (by omega), upd_upd]
        rfl
      | some v =>
        obtain ⟨⟨p, p1, p2, p3⟩, -⟩ := mnO_spec hm
        have hvl := hcl p (by omega)
        by_cases hle : v ≤ cbN c n pN R (s ||| 2 ^ k)
        · rw [if_pos (show encO (1000000000 : Int32) (some v) ≤ nI (cbN c n pN R (s ||| 2 ^ k)) from nI_le hle (by omega))]
          simp only [Option.bind_some]
          rw [si_n (by omega) (by omega), upd_upd, Nat.min_eq_left hle]
          rfl
        · have hvv : v < 2 ^ 31 := by rw [p3]; show cbN c n pN R (s ||| 2 ^ p) < 2 ^ 31; omega
          rw [if_neg (show ¬ encO (1000000000 : Int32) (some v) ≤ nI (cbN c n pN R (s ||| 2 ^ k)) from nI_ge (by omega) hvv)]
          simp only [Option.bind_some]
          rw [si_n (by omega) (by omega), upd_upd, Nat.min_eq_right (by omega)]
          rfl
  · try dsimp only
    unfold f_X11_solveSets_L31
    rw [if_pos (nI_le (Nat.le_refl n) (by omega))]
theorem goesOn_n {L : Nat → Int32} {s p : Nat} (hx : Cx n (rdM wide places weights) rN) (hR : RestsN n c (priceN n rN (rdQ (rdM wide places weights)) (prQ pair) c) R (prQ pair) rests) (h01 : ∀ a b, a < 11 → b < 11 → pair (11 * a + b) = 0 ∨ pair (11 * a + b) = 1) (hq : ∀ s, s < 2 ^ n → q s = priceM n (rdM wide places weights) (prQ pair) c s) (hc : c = 1 ∨ c = 2 ∨ c = 3 ∨ c = 5) (hs : s < 2 ^ n) (hp : p < n) (hL : ∀ t, t < 2 ^ n → L t = nI (tN c n R t)) : f_X11_goesOn (nI n) wide places weights pair L (nI c) (nI s) (nI p) (nI (tN c n R 0)) = some (b2I (stepM c q rests (prQ pair) n s p)) := by
  have hn := hx.1
  have hpw : 2 ^ n ≤ 2 ^ 11 := Nat.pow_le_pow_right (by decide) hn
  have hpos : 0 < 2 ^ n := Nat.pow_pos (by decide)
  have ho := or_lt11 hn hs hp
  have hz : priceN n rN (rdQ (rdM wide places weights)) (prQ pair) c (2 ^ n - 1) = 0 := priceN_all
  have hcb := costBy_n (L := L) (s := s) (p := p) hx hR hc hs hp (hL _ ho)
  have hple : ∀ s, priceN n rN (rdQ (rdM wide places weights)) (prQ pair) c s ≤ 242000 := fun s => priceN_le hx
  have hq2 : ∀ s, s < 2 ^ n → q s = nI (priceN n rN (rdQ (rdM wide places weights)) (prQ pair) c s) := fun s hs => by rw [hq s hs]; exact priceN_eq hx
  have hst := step_N hR hq2 hple hn hs hp
  have hce := cbN_eq hR hz hn ho
  generalize priceN n rN (rdQ (rdM wide places weights)) (prQ pair) c = pN at hR hz hcb hple hst hce
  obtain ⟨b1, b2'⟩ := tN_le hR hn ho
  obtain ⟨b3', b4'⟩ := tN_le hR hn hs
  obtain ⟨b5', b6'⟩ := tN_le hR hn hpos
  have hj := jN_le c (pN (s ||| 2 ^ p)) (R (s ||| 2 ^ p))
  have hpl := hple (s ||| 2 ^ p)
  have he : (if c = 5 ∧ (s ||| 2 ^ p) ≠ 2 ^ n - 1 then 1 else 0) ≤ 1 := by split <;> omega
  unfold f_X11_goesOn
  rw [mayM_n hn (by omega) hp h01, one_shl (by omega), or_n, gi_n (by omega) (by omega), hL _ ho, hcb, gi_n (by omega) (by omega), hL _ hs, hst]
  cases hmay : mayN (prQ pair) n s p with
  | false => rfl
  | true =>
    have hbp : s.testBit p = false := by
      unfold mayN at hmay
      rw [Bool.and_eq_true, Bool.not_eq_true'] at hmay
      exact hmay.1
    have hpc := pcN_or hbp hp
    have hle := pcN_le11 (s ||| 2 ^ p) n
    simp only [Option.bind_some, b2I, if_true, Bool.true_and]
    rw [if_neg (show ¬ (1 : Int32) = 0 by decide), if_pos (show nI (tN c n R (s ||| 2 ^ p)) < (1000000000 : Int32) from nI_lt (b := 1000000000) (by omega) (by decide))]
    by_cases h3 : c = 3
    · rw [if_pos (by rw [h3]; rfl), if_pos h3]
      have hsl : s < 2 ^ n - 1 := by
        rcases Nat.lt_or_ge s (2 ^ n - 1) with q | q
        · exact q
        · exfalso
          have : s = 2 ^ n - 1 := by omega
          rw [this, Nat.testBit_two_pow_sub_one, decide_eq_true hp] at hbp
          cases hbp
      have hmin := (hR.2.2 s hsl).1 p hp hmay
      have hcb0 : cbN c n pN R (s ||| 2 ^ p) = jN c (pN (s ||| 2 ^ p)) (R (s ||| 2 ^ p)) := by rw [hce, if_neg (by omega)]; rfl
      have ht0 : tN c n R s = R s := by unfold tN; rw [if_neg (by omega)]
      rw [hcb0, ht0]
      by_cases hle2 : jN c (pN (s ||| 2 ^ p)) (R (s ||| 2 ^ p)) ≤ R s
      · rw [if_pos (by rw [show jN c (pN (s ||| 2 ^ p)) (R (s ||| 2 ^ p)) = R s by omega]), decide_eq_true hle2]
        rfl
      · rw [if_neg (fun q => by have := (nI_eq (by omega) (by omega)).mp q; omega), decide_eq_false hle2]
        rfl
    · rw [if_neg (show ¬ nI c = (3 : Int32) from fun q => h3 ((nI_c (d := 3) (by omega) (by omega)).mp q)), if_neg h3]
      have hiff : tN c n R 0 < cbN c n pN R (s ||| 2 ^ p) ↔ ¬ jN c (pN (s ||| 2 ^ p)) (R (s ||| 2 ^ p)) ≤ R 0 := by
        rw [hce]
        by_cases h5 : c = 5
        · by_cases ha : s ||| 2 ^ p = 2 ^ n - 1
          · rw [if_neg (fun q => q.2 ha), ha, hz, hR.2.1]
            have : jN c 0 0 = 0 := by unfold jN; split <;> rfl
            omega
          · rw [if_pos ⟨h5, ha⟩]
            have hns : ¬ n ≤ pcN 0 n + 1 := fun q => by
              have h0 : pcN 0 n = 0 := by
                have e : ∀ k, pcN 0 k = 0 := fun k => by
                  induction k with
                  | zero => rfl
                  | succ k ih => rw [pcN, ih]; simp
                exact e n
              exact ha (pcN_all ho (by omega))
            unfold tN
            rw [if_pos h5, if_neg hns]
            omega
        · rw [if_neg (fun q => h5 q.1)]
          unfold tN
          rw [if_neg h5]
          omega
      by_cases hle2 : jN c (pN (s ||| 2 ^ p)) (R (s ||| 2 ^ p)) ≤ R 0
      · rw [if_neg (fun q => (hiff.mp ((nI_ltI (by omega) (by omega)).mp q)) hle2), decide_eq_true hle2]
        rfl
      · rw [if_pos (nI_lt (hiff.mpr hle2) (by omega)), decide_eq_false hle2]
        rfl
theorem solveSets_n {least0 ways0 : Nat → Int32} (hx : Cx n (rdM wide places weights) rN) (hR : RestsN n c (priceN n rN (rdQ (rdM wide places weights)) (prQ pair) c) R (prQ pair) rests) (h01 : ∀ a b, a < 11 → b < 11 → pair (11 * a + b) = 0 ∨ pair (11 * a + b) = 1) (hq : ∀ s, s < 2 ^ n → q s = priceM n (rdM wide places weights) (prQ pair) c s) (hc : c = 1 ∨ c = 2 ∨ c = 3 ∨ c = 5) (hw1 : ways (2 ^ n - 1) = 1) (hw2 : ∀ s, s < 2 ^ n - 1 → ways s = sumI (fun p => if stepM c q rests (prQ pair) n s p then ways (s ||| 2 ^ p) else 0) n) : ∃ L W, f_X11_solveSets (nI n) wide places weights pair least0 ways0 (nI c) = some (L, W) ∧ (∀ s, s < 2 ^ n → L s = nI (tN c n R s)) ∧ ∀ s, s < 2 ^ n → W s = ways s := by
  have hn := hx.1
  have hpw : 2 ^ n ≤ 2 ^ 11 := Nat.pow_le_pow_right (by decide) hn
  have hpos : 0 < 2 ^ n := Nat.pow_pos (by decide)
  have ht_all : tN c n R (2 ^ n - 1) = 0 := by
    unfold tN
    rw [pcN_full, hR.2.1]
    split
    · rw [if_pos (by omega)]
    · rfl
  have hA : ∃ L, loopS (fun (s : Int32 × (Nat → Int32)) => f_X11_solveSets_L16 (nI c) (nI n) wide places weights pair s.1 s.2) (nI (2 ^ n - 1) + (-1 : Int32), upd least0 (2 ^ n - 1) 0) = some L ∧ ∀ s, s < 2 ^ n → L s = nI (tN c n R s) := by
    refine loop_dn (fun m (L : Nat → Int32) => ∀ s, m ≤ s → s < 2 ^ n → L s = nI (tN c n R s)) (fun (L : Nat → Int32) => ∀ s, s < 2 ^ n → L s = nI (tN c n R s)) ?_ (2 ^ n - 1) ?_ _ ?_
    · intro L hL
      refine ⟨L, ?_, fun s hs => hL s (by omega) hs⟩
      try dsimp only
      unfold f_X11_solveSets_L16
      rw [if_pos (by decide)]
    · intro m L hm hL
      refine ⟨upd L m (nI (tN c n R m)), ?_, ?_⟩
      · try dsimp only
        unfold f_X11_solveSets_L16
        rw [if_neg (nI_pos (by omega)), si_n (by omega) (by omega)]
        simp only [Option.bind_some]
        rw [leastIn_n hx hR h01 hc hm hL]
        rfl
      · intro s h1 h2
        by_cases hsm : s = m
        · subst hsm
          rw [pk_us]
        · rw [pk_un hsm]
          exact hL s (by omega) h2
    · intro s h1 h2
      have : s = 2 ^ n - 1 := by omega
      subst this
      rw [pk_us, ht_all, nI_0]
  obtain ⟨L, hA1, hA2⟩ := hA
  have hB : ∃ W, loopS (fun (s : Int32 × (Nat → Int32)) => f_X11_solveSets_L126 (nI c) (nI (2 ^ n - 1)) (nI (tN c n R 0)) (nI n) wide places weights pair L s.1 s.2) (nI (2 ^ n) + (-1 : Int32), ways0) = some W ∧ ∀ s, s < 2 ^ n → W s = ways s := by
    refine loop_dn (fun m (W : Nat → Int32) => ∀ s, m ≤ s → s < 2 ^ n → W s = ways s) (fun (W : Nat → Int32) => ∀ s, s < 2 ^ n → W s = ways s) ?_ (2 ^ n) ?_ _ ?_
    · intro W hW
      refine ⟨W, ?_, fun s hs => hW s (by omega) hs⟩
      try dsimp only
      unfold f_X11_solveSets_L126
      rw [if_pos (by decide)]
    · intro m W hm hW
      have hin : ∀ t0 : Int32, loopS (fun (s : Int32 × (Nat → Int32)) => f_X11_solveSets_L152 (nI c) (nI (tN c n R 0)) (nI m) (nI n) wide places weights pair L s.1 s.2) ((0 : Int32), upd W m t0) = some (upd W m (t0 + sumI (fun p => if stepM c q rests (prQ pair) n m p then ways (m ||| 2 ^ p) else 0) n)) := fun t0 => by
        refine loop_go (fun k => (nI k, upd W m (t0 + sumI (fun p => if stepM c q rests (prQ pair) n m p then ways (m ||| 2 ^ p) else 0) k))) n ?_ (fun k hk => ?_) ?_
        · show _ = (nI 0, upd W m (t0 + 0))
          rw [Int32.add_zero]
          rfl
        · try dsimp only
          unfold f_X11_solveSets_L152
          have ho := or_lt11 hn hm hk
          rw [if_neg (nI_ge hk (by omega)), gi_n (by omega) (by omega), pk_us, goesOn_n (q := q) hx hR h01 hq hc hm hk hA2, one_shl (by omega), or_n, gi_n (by omega) (by omega), nI_1, sumI, ← Int32.add_assoc]
          simp only [Option.bind_some]
          cases hst : stepM c q rests (prQ pair) n m k with
          | false =>
            simp only [b2I, Bool.false_eq_true, if_false, if_true, Option.bind_some]
            rw [si_n (by omega) (by omega), upd_upd]
            rfl
          | true =>
            have hbp : m.testBit k = false := by
              unfold stepM at hst
              rw [Bool.and_eq_true, Bool.and_eq_true, Bool.not_eq_true'] at hst
              exact hst.1.1
            have hg := or_gt hbp
            simp only [b2I, if_true, Option.bind_some]
            rw [if_neg (show ¬ (1 : Int32) = 0 by decide), pk_un (by omega), hW _ (by omega) ho]
            simp only [Option.bind_some]
            rw [si_n (by omega) (by omega), upd_upd]
            rfl
        · try dsimp only
          unfold f_X11_solveSets_L152
          rw [if_pos (nI_le (Nat.le_refl n) (by omega))]
      refine ⟨upd W m (ways m), ?_, ?_⟩
      · try dsimp only
        unfold f_X11_solveSets_L126
        rw [if_neg (nI_pos (by omega))]
        rcases Nat.lt_or_ge m (2 ^ n - 1) with hml | hml
        · rw [if_neg (fun q => by have := (nI_eq (by omega) (by omega)).mp q; omega)]
          simp only [Option.bind_some]
          rw [si_n (by omega) (by omega)]
          simp only [Option.bind_some]
          rw [hin 0, Int32.zero_add, ← hw2 m hml]
          rfl
        · have : m = 2 ^ n - 1 := by omega
          rw [if_pos (by rw [this])]
          simp only [Option.bind_some]
          rw [si_n (by omega) (by omega)]
          simp only [Option.bind_some]
          have hz : sumI (fun p => if stepM c q rests (prQ pair) n m p then ways (m ||| 2 ^ p) else 0) n = 0 := by
            rw [sumI_congr (g := fun _ => 0) (fun p hp => ?_), sumI_zero]
            have : stepM c q rests (prQ pair) n m p = false := by
              unfold stepM
              rw [this, Nat.testBit_two_pow_sub_one, decide_eq_true hp]
              rfl
            rw [this]
            rfl
          rw [hin 1, hz, Int32.add_zero, this, hw1]
          rfl
      · intro s h1 h2
        by_cases hsm : s = m
        · subst hsm
          rw [pk_us]
        · rw [pk_un hsm]
          exact hW s (by omega) h2
    · intro s h1 h2
      omega
  obtain ⟨W, hB1, hB2⟩ := hB
  refine ⟨L, W, ?_, hA2, hB2⟩
  unfold f_X11_solveSets
  rw [whole_n hn]
  simp only [Option.bind_some]
  rw [si_n (by omega) (by omega), sub1]
  simp only [Option.bind_some]
  rw [hA1]
  simp only [Option.bind_some]
  rw [show gi L 2048 (0 : Int32) = some (L 0) from gi_n (k := 0) (by omega) (by omega), hA2 0 hpos]
  simp only [Option.bind_some]
  have e : nI (2 ^ n - 1) = nI (2 ^ n) + (-1 : Int32) := by
    have := pk_m1 (2 ^ n - 1)
    rw [show 2 ^ n - 1 + 1 = 2 ^ n by omega] at this
    exact this.symm
  have hB3 : loopS (fun (s : Int32 × (Nat → Int32)) => f_X11_solveSets_L126 (nI c) (nI (2 ^ n - 1)) (nI (tN c n R 0)) (nI n) wide places weights pair L s.1 s.2) (nI (2 ^ n - 1), ways0) = some W := by
    conv => lhs; arg 2; rw [e]
    exact hB1
  rw [hB3]
  rfl
end REFS
