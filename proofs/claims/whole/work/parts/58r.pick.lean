/-! LAYER 2: best rows by sets: the first and each by its number -/
def fct : Nat → Nat
  | 0 => 1
  | k + 1 => (k + 1) * fct k
theorem fct_le : ∀ k, k < 12 → fct k ≤ 39916800 := by decide
/-- what comes behind a set by a post -/
def wN (st : Nat → Nat → Bool) (W : Nat → Nat) (s p : Nat) : Nat := if st s p then W (s ||| 2 ^ p) else 0
def sN (st : Nat → Nat → Bool) (W : Nat → Nat) (s : Nat) : Nat → Nat := fo (fun x y => x + y) (wN st W s)
def WaysN (n : Nat) (st : Nat → Nat → Bool) (W : Nat → Nat) (ways : Nat → Int32) : Prop := (∀ s, s < 2 ^ n → ways s = nI (W s) ∧ W s ≤ fct (n - pcN s n)) ∧ W (2 ^ n - 1) = 1 ∧ ∀ s, s < 2 ^ n - 1 → W s = sN st W s n
theorem miss_sum (s M : Nat) : ∀ k, fo (fun x y => x + y) (fun p => if s.testBit p then 0 else M) k = (k - pcN s k) * M
  | 0 => by simp [fo]
  | k + 1 => by
    have hle := pcN_le11 s k
    rw [fo, miss_sum s M k, pcN]
    cases s.testBit k with
    | true =>
      simp only [if_true]
      rw [show k + 1 - (pcN s k + 1) = k - pcN s k by omega]
      rfl
    | false =>
      simp only [Bool.false_eq_true, if_false]
      rw [show k + 1 - (pcN s k + 0) = k - pcN s k + 1 by omega, Nat.add_mul, Nat.one_mul]
theorem fo_mono {f g : Nat → Nat} : ∀ {k : Nat}, (∀ p, p < k → f p ≤ g p) → fo (fun x y => x + y) f k ≤ fo (fun x y => x + y) g k
  | 0, _ => Nat.le_refl _
  | k + 1, h => by
    rw [fo, fo]
    exact Nat.add_le_add (fo_mono (fun p hp => h p (by omega))) (h k (by omega))
theorem ways_nat {n c : Nat} {pr : Nat → Nat → Bool} {q rests ways : Nat → Int32} (hn : n ≤ 11) (hw1 : ways (2 ^ n - 1) = 1) (hw2 : ∀ s, s < 2 ^ n - 1 → ways s = sumI (fun p => if stepM c q rests pr n s p then ways (s ||| 2 ^ p) else 0) n) : ∃ W, WaysN n (stepM c q rests pr n) W ways := by
  have hpos : 0 < 2 ^ n := Nat.pow_pos (by decide)
  have hbit : ∀ s p, stepM c q rests pr n s p = true → s.testBit p = false := fun s p hst => by
    unfold stepM at hst
    rw [Bool.and_eq_true, Bool.and_eq_true, Bool.not_eq_true'] at hst
    exact hst.1.1
  have hsum : ∀ s, s < 2 ^ n - 1 → (∀ p, p < n → s.testBit p = false → ways (s ||| 2 ^ p) = nI (ways (s ||| 2 ^ p)).toNatClampNeg) → ways s = nI (sN (stepM c q rests pr n) (fun t => (ways t).toNatClampNeg) s n) := fun s hs h => by
    rw [hw2 s hs]
    apply sumI_fo
    intro p hp
    unfold wN
    cases hst : stepM c q rests pr n s p with
    | false => exact nI_0.symm
    | true =>
      exact h p hp (hbit s p hst)
  have hb : ∀ d s, s < 2 ^ n → 2 ^ n - 1 - s = d → ways s = nI (ways s).toNatClampNeg ∧ (ways s).toNatClampNeg ≤ fct (n - pcN s n) := fun d => by
    induction d using Nat.strongRecOn with
    | _ d ih =>
      intro s hs hd
      rcases Nat.lt_or_ge s (2 ^ n - 1) with q1 | q1
      · have hih : ∀ p, p < n → s.testBit p = false → ways (s ||| 2 ^ p) = nI (ways (s ||| 2 ^ p)).toNatClampNeg ∧ (ways (s ||| 2 ^ p)).toNatClampNeg ≤ fct (n - (pcN s n + 1)) := fun p hp hbp => by
          have ho := or_lt11 hn hs hp
          have hg := or_gt hbp
          have h1 := ih (2 ^ n - 1 - (s ||| 2 ^ p)) (by omega) (s ||| 2 ^ p) ho rfl
          rw [pcN_or hbp hp] at h1
          exact h1
        have e := hsum s q1 (fun p hp hbp => (hih p hp hbp).1)
        have hlt : pcN s n < n := by
          rcases Nat.lt_or_ge (pcN s n) n with q | q
          · exact q
          · have := pcN_le11 s n
            have := pcN_all hs (by omega)
            omega
        have hbd : sN (stepM c q rests pr n) (fun t => (ways t).toNatClampNeg) s n ≤ fct (n - pcN s n) := by
          have h1 : sN (stepM c q rests pr n) (fun t => (ways t).toNatClampNeg) s n ≤ fo (fun x y => x + y) (fun p => if s.testBit p then 0 else fct (n - (pcN s n + 1))) n := by
            apply fo_mono
            intro p hp
            unfold wN
            cases hst : stepM c q rests pr n s p with
            | false => exact Nat.zero_le _
            | true =>
              rw [hbit s p hst]
              exact (hih p hp (hbit s p hst)).2
          rw [miss_sum] at h1
          have h2 : fct (n - pcN s n) = (n - pcN s n) * fct (n - (pcN s n + 1)) := by
            rw [show n - pcN s n = n - (pcN s n + 1) + 1 by omega, fct]
          omega
        have h12 := fct_le (n - pcN s n) (by omega)
        rw [e, nI_clamp (by omega)]
        exact ⟨rfl, hbd⟩
      · have : s = 2 ^ n - 1 := by omega
        subst this
        rw [hw1, pcN_full, Nat.sub_self]
        exact ⟨by decide, by decide⟩
  refine ⟨fun s => (ways s).toNatClampNeg, fun s hs => hb _ s hs rfl, ?_, fun s hs => ?_⟩
  · show (ways (2 ^ n - 1)).toNatClampNeg = 1
    rw [hw1]
    decide
  · have e := hsum s hs (fun p hp hbp => (hb _ (s ||| 2 ^ p) (or_lt11 hn (by omega) hp) rfl).1)
    show (ways s).toNatClampNeg = _
    have h1 := (hb _ s (by omega) rfl)
    have h12 := fct_le (n - pcN s n) (by omega)
    have hle : sN (stepM c q rests pr n) (fun t => (ways t).toNatClampNeg) s n < 2 ^ 31 := by
      have h2 : sN (stepM c q rests pr n) (fun t => (ways t).toNatClampNeg) s n ≤ fo (fun x y => x + y) (fun p => if s.testBit p then 0 else 39916800) n := by
        apply fo_mono
        intro p hp
        unfold wN
        cases hst : stepM c q rests pr n s p with
        | false => exact Nat.zero_le _
        | true =>
          rw [hbit s p hst]
          have h3 := (hb _ (s ||| 2 ^ p) (or_lt11 hn (show s < 2 ^ n by omega) hp) rfl).2
          have h4 := fct_le (n - pcN (s ||| 2 ^ p) n) (by omega)
          simp only [if_true, Bool.false_eq_true, if_false]
          omega
      rw [miss_sum] at h2
      have h5 : (n - pcN s n) * 39916800 ≤ 11 * 39916800 := Nat.mul_le_mul_right _ (by omega)
      omega
    rw [e, nI_clamp hle]
/-- where a number falls -/
def fallP (st : Nat → Nat → Bool) (W : Nat → Nat) (n s l : Nat) : Nat := ((firstQ (fun p => decide (l < sN st W s (p + 1))) n).getD 0)
theorem firstQ_min {P : Nat → Bool} : ∀ {n j : Nat}, firstQ P n = some j → ∀ i, i < j → P i = false
  | 0, j, h => by cases h
  | n + 1, j, h => by
    rw [firstQ] at h
    cases hq : firstQ P n with
    | some u =>
      rw [hq] at h
      cases h
      exact firstQ_min hq
    | none =>
      rw [hq] at h
      cases hp : P n with
      | false => rw [hp] at h; cases h
      | true =>
        rw [hp] at h
        cases h
        exact firstQ_get hq
theorem fallP_spec {st : Nat → Nat → Bool} {W : Nat → Nat} {n s l : Nat} (h : l < sN st W s n) : fallP st W n s l < n ∧ sN st W s (fallP st W n s l) ≤ l ∧ l < sN st W s (fallP st W n s l + 1) ∧ ∀ i, i < fallP st W n s l → sN st W s (i + 1) ≤ l := by
  have hn : 0 < n := by
    rcases Nat.eq_zero_or_pos n with q | q
    · subst q
      exact absurd h (by show ¬ l < 0; omega)
    · exact q
  unfold fallP
  cases hq : firstQ (fun p => decide (l < sN st W s (p + 1))) n with
  | none =>
    have := firstQ_get hq (n - 1) (by omega)
    rw [show n - 1 + 1 = n by omega] at this
    exact absurd h (of_decide_eq_false this)
  | some j =>
    obtain ⟨h1, h2⟩ := firstQ_lt hq
    have h3 := firstQ_min hq
    have h4 : ∀ i, i < j → sN st W s (i + 1) ≤ l := fun i hi => Nat.not_lt.mp (of_decide_eq_false (h3 i hi))
    refine ⟨h1, ?_, of_decide_eq_true h2, h4⟩
    show sN st W s j ≤ l
    cases j with
    | zero => exact Nat.zero_le _
    | succ j => exact h4 j (by omega)
theorem sN_s (st : Nat → Nat → Bool) (W : Nat → Nat) (s i : Nat) : sN st W s (i + 1) = sN st W s i + wN st W s i := rfl
def pkS (st : Nat → Nat → Bool) (W : Nat → Nat) (n k : Nat) : Nat → Nat × Nat × List Nat
  | 0 => (0, k, [])
  | i + 1 => ((pkS st W n k i).1 ||| 2 ^ fallP st W n (pkS st W n k i).1 (pkS st W n k i).2.1, (pkS st W n k i).2.1 - sN st W (pkS st W n k i).1 (fallP st W n (pkS st W n k i).1 (pkS st W n k i).2.1), (pkS st W n k i).2.2 ++ [fallP st W n (pkS st W n k i).1 (pkS st W n k i).2.1])
theorem pkS_ok {n k : Nat} {st : Nat → Nat → Bool} {W : Nat → Nat} {ways : Nat → Int32} (hn : n ≤ 11) (hW : WaysN n st W ways) (hbit : ∀ s p, st s p = true → s.testBit p = false) (hk : k < W 0) : ∀ {i : Nat}, i ≤ n → (pkS st W n k i).1 < 2 ^ n ∧ pcN (pkS st W n k i).1 n = i ∧ (pkS st W n k i).2.1 < W (pkS st W n k i).1 ∧ (pkS st W n k i).2.2.length = i ∧ RowOk ((pkS st W n k i).1, (pkS st W n k i).2.2)
  | 0, _ => by
    have e : ∀ k, pcN 0 k = 0 := fun k => by
      induction k with
      | zero => rfl
      | succ k ih => rw [pcN, ih]; simp
    exact ⟨Nat.pow_pos (by decide), e n, hk, rfl, show 0 < 2 ^ 11 by decide, fun p hp => (by cases hp), List.nodup_nil, (e 11).symm⟩
  | i + 1, hi => by
    obtain ⟨h1, h2, h3, h4, h5⟩ := pkS_ok hn hW hbit hk (i := i) (by omega)
    have hlt : (pkS st W n k i).1 < 2 ^ n - 1 := by
      rcases Nat.lt_or_ge (pkS st W n k i).1 (2 ^ n - 1) with q | q
      · exact q
      · have : (pkS st W n k i).1 = 2 ^ n - 1 := by omega
        rw [this, pcN_full] at h2
        omega
    rw [hW.2.2 _ hlt] at h3
    obtain ⟨f1, f2, f3, f4⟩ := fallP_spec h3
    rw [pkS]
    generalize hp : fallP st W n (pkS st W n k i).1 (pkS st W n k i).2.1 = p at f1 f2 f3 f4
    generalize pkS st W n k i = S at h1 h2 h3 h4 h5 hlt f1 f2 f3 f4
    rw [sN_s] at f3
    have hst : st S.1 p = true := by
      cases hc : st S.1 p with
      | true => rfl
      | false =>
        unfold wN at f3
        rw [hc] at f3
        simp only [Bool.false_eq_true, if_false] at f3
        omega
    have hb := hbit _ _ hst
    have hw : wN st W S.1 p = W (S.1 ||| 2 ^ p) := by unfold wN; rw [hst]; rfl
    refine ⟨or_lt11 hn h1 f1, ?_, ?_, ?_, ?_⟩
    · show pcN (S.1 ||| 2 ^ p) n = i + 1
      rw [pcN_or hb f1, h2]
    · show S.2.1 - sN st W S.1 p < W (S.1 ||| 2 ^ p)
      omega
    · show (S.2.2 ++ [p]).length = i + 1
      rw [List.length_append, h4]
      rfl
    · have h6 := (rowStep_ok (s := 2 ^ p) (p := p) (by omega) h5).1
      unfold rowStep at h6
      rw [Nat.testBit_two_pow_self, show ((S.1, S.2.2) : Nat × List Nat).1.testBit p = false from hb] at h6
      exact h6
section PICK
variable {n c k : Nat} {pr : Nat → Nat → Bool} {ahead prices rests ways : Nat → Int32} {W : Nat → Nat}
theorem waysWith_n {s p : Nat} (hn : n ≤ 11) (hc : c ≤ 5) (hs : s < 2 ^ n) (hp : p < n) (ha : ∀ b, b < 11 → ahead b = nI (mkB (fun a => pr a b) 11)) (hq : ∀ a b, a < 11 → b < 11 → pr a b = true → a < n ∧ b < n) (hW : WaysN n (stepM c prices rests pr n) W ways) : f_X7_waysWith (nI c) ahead prices rests ways (nI s) (nI p) = some (nI (wN (stepM c prices rests pr n) W s p)) := by
  have hpw : 2 ^ n ≤ 2 ^ 11 := Nat.pow_le_pow_right (by decide) hn
  have ho := or_lt11 hn hs hp
  unfold f_X7_waysWith wN
  rw [isBestStep_n hn hc hs hp ha hq, one_shl (by omega), or_n, gi_n (by omega) (by omega), (hW.1 _ ho).1]
  cases stepM c prices rests pr n s p <;> rfl
theorem wN_le {s p : Nat} {st : Nat → Nat → Bool} (hn : n ≤ 11) (hs : s < 2 ^ n) (hp : p < n) (hW : WaysN n st W ways) : wN st W s p ≤ 39916800 := by
  have ho := or_lt11 hn hs hp
  have h1 := (hW.1 _ ho).2
  have h2 := fct_le (n - pcN (s ||| 2 ^ p) n) (by omega)
  unfold wN
  split <;> omega
theorem pickIn_n {s l : Nat} (hn : n ≤ 11) (hc : c ≤ 5) (hs : s < 2 ^ n) (ha : ∀ b, b < 11 → ahead b = nI (mkB (fun a => pr a b) 11)) (hq : ∀ a b, a < 11 → b < 11 → pr a b = true → a < n ∧ b < n) (hW : WaysN n (stepM c prices rests pr n) W ways) (hl : l < sN (stepM c prices rests pr n) W s n) (hl2 : l < 40000000) : loopS (fun (t : Int32 × Int32 × Int32) => f_X7_pick_L30 (nI s) (nI c) (nI n) ahead prices rests ways t.1 t.2.1 t.2.2) (nI l, (-1 : Int32), (0 : Int32)) = some (nI (l - sN (stepM c prices rests pr n) W s (fallP (stepM c prices rests pr n) W n s l)), nI (fallP (stepM c prices rests pr n) W n s l)) := by
  obtain ⟨f1, f2, f3, f4⟩ := fallP_spec hl
  generalize fallP (stepM c prices rests pr n) W n s l = p at f1 f2 f3 f4
  have hstep : ∀ i, i ≤ p → f_X7_pick_L30 (nI s) (nI c) (nI n) ahead prices rests ways (nI (l - sN (stepM c prices rests pr n) W s i)) (-1 : Int32) (nI i) = some (.inl (if i = p then (nI (l - sN (stepM c prices rests pr n) W s p), nI p, nI (p + 1)) else (nI (l - sN (stepM c prices rests pr n) W s (i + 1)), (-1 : Int32), nI (i + 1)))) := fun i hi => by
    unfold f_X7_pick_L30
    have hwl := wN_le (p := i) hn hs (by omega) hW
    rw [if_neg (nI_ge (by omega) (by omega)), if_pos rfl, waysWith_n hn hc hs (by omega) ha hq hW, nI_1]
    simp only [Option.bind_some]
    by_cases hip : i = p
    · subst hip
      rw [sN_s] at f3
      rw [if_pos rfl, if_neg (nI_ge (by omega) (by omega))]
      rfl
    · have h4 := f4 i (by omega)
      rw [sN_s] at h4
      rw [if_neg hip, if_pos (nI_le (by omega) (by omega)), pk_sub (by omega), sN_s, Nat.sub_sub]
      rfl
  refine loop_go (fun i => if i ≤ p then (nI (l - sN (stepM c prices rests pr n) W s i), (-1 : Int32), nI i) else (nI (l - sN (stepM c prices rests pr n) W s p), nI p, nI (p + 1))) (p + 1) ?_ (fun i hi => ?_) ?_
  · rw [if_pos (Nat.zero_le p)]
    rfl
  · rw [if_pos (show i ≤ p by omega)]
    try dsimp only
    rw [hstep i (by omega)]
    by_cases hip : i = p
    · rw [if_pos hip, if_neg (by omega)]
    · rw [if_neg hip, if_pos (by omega)]
  · rw [if_neg (show ¬ p + 1 ≤ p by omega)]
    try dsimp only
    unfold f_X7_pick_L30
    by_cases hpn : n ≤ p + 1
    · rw [if_pos (nI_le hpn (by omega))]
    · rw [if_neg (nI_ge (by omega) (by omega)), if_neg (nI_m1 (by omega))]
theorem pickC_n {r0 : Nat → Int32} {size : Int32} (hn : n ≤ 11) (hc : c ≤ 5) (ha : ∀ b, b < 11 → ahead b = nI (mkB (fun a => pr a b) 11)) (hq : ∀ a b, a < 11 → b < 11 → pr a b = true → a < n ∧ b < n) (hW : WaysN n (stepM c prices rests pr n) W ways) (hk : k < W 0) : f_X7_pick (nI c) (nI n) ahead prices rests ways size r0 (nI k) = some (nI (pkS (stepM c prices rests pr n) W n k n).2.2.length, wrL r0 (pkS (stepM c prices rests pr n) W n k n).2.2) := by
  have hbit : ∀ s p, stepM c prices rests pr n s p = true → s.testBit p = false := fun s p hst => by
    unfold stepM at hst
    rw [Bool.and_eq_true, Bool.and_eq_true, Bool.not_eq_true'] at hst
    exact hst.1.1
  have hok := fun i (hi : i ≤ n) => pkS_ok hn hW hbit hk (i := i) hi
  unfold f_X7_pick f_X5_clear
  simp only [Option.bind_some]
  have h : loopS (fun (s : Int32 × Int32 × Int32 × Int32 × (Nat → Int32)) => f_X7_pick_L12 (nI c) (nI n) ahead prices rests ways s.1 s.2.1 s.2.2.1 s.2.2.2.1 s.2.2.2.2) (nI k, (0 : Int32), (0 : Int32), (0 : Int32), r0) = some (nI (pkS (stepM c prices rests pr n) W n k n).2.2.length, wrL r0 (pkS (stepM c prices rests pr n) W n k n).2.2) := by
    refine loop_go (fun i => (nI (pkS (stepM c prices rests pr n) W n k i).2.1, nI (pkS (stepM c prices rests pr n) W n k i).1, nI i, nI (pkS (stepM c prices rests pr n) W n k i).2.2.length, wrL r0 (pkS (stepM c prices rests pr n) W n k i).2.2)) n ?_ (fun i hi => ?_) ?_
    · show _ = (nI k, nI 0, nI 0, nI 0, wrL r0 [])
      rw [wrL_0]
      rfl
    · try dsimp only
      obtain ⟨h1, h2, h3, h4, h5⟩ := hok i (by omega)
      have hlt : (pkS (stepM c prices rests pr n) W n k i).1 < 2 ^ n - 1 := by
        rcases Nat.lt_or_ge (pkS (stepM c prices rests pr n) W n k i).1 (2 ^ n - 1) with q | q
        · exact q
        · have : (pkS (stepM c prices rests pr n) W n k i).1 = 2 ^ n - 1 := by omega
          rw [this, pcN_full] at h2
          omega
      have hwl := (hW.1 _ h1).2
      have hfl := fct_le (n - pcN (pkS (stepM c prices rests pr n) W n k i).1 n) (by omega)
      have h3' := h3
      rw [hW.2.2 _ hlt] at h3'
      obtain ⟨f1, -, -, -⟩ := fallP_spec h3'
      unfold f_X7_pick_L12
      rw [if_neg (nI_ge hi (by omega)), pickIn_n hn hc h1 ha hq hW h3' (by omega), pkS, nI_1]
      simp only [b2, Option.bind_some]
      unfold f_X5_append
      rw [if_neg (nI_m1 (by omega)), if_neg (show ¬ (11 : Int32) ≤ nI (pkS (stepM c prices rests pr n) W n k i).2.2.length from nI_ge (b := 11) (by omega) (by decide)), si_n (by omega) (by omega), wrL_app, one_shl (by omega), or_n, nI_1]
      simp only [b3, Option.bind_some, List.length_append, List.length_singleton]
    · try dsimp only
      unfold f_X7_pick_L12
      rw [if_pos (nI_le (Nat.le_refl n) (by omega))]
  rw [h]
  rfl
end PICK
section BESTM
variable {n c k : Nat} {wide places weights pair q rests ways : Nat → Int32} {rN : Nat → Nat → Nat} {R W : Nat → Nat}
theorem bestIn_n {L V : Nat → Int32} {s l : Nat} (hn : n ≤ 11) (hs : s < 2 ^ n) (hgo : ∀ p, p < n → f_X11_goesOn (nI n) wide places weights pair L (nI c) (nI s) (nI p) (nI (tN c n R 0)) = some (b2I (stepM c q rests (prQ pair) n s p))) (hL0 : L 0 = nI (tN c n R 0)) (hV : ∀ t, t < 2 ^ n → V t = nI (W t)) (hW : WaysN n (stepM c q rests (prQ pair) n) W ways) (hl : l < sN (stepM c q rests (prQ pair) n) W s n) (hl2 : l < 40000000) : ∃ v0, f_X11_goesOn (nI n) wide places weights pair L (nI c) (nI s) (0 : Int32) (nI (tN c n R 0)) = some v0 ∧ loopS (fun (t : Int32 × Int32 × Int32) => f_X11_best_L152 (nI c) (nI s) (nI n) wide places weights pair L V t.1 t.2.1 t.2.2) (nI l, (0 : Int32), v0) = some (nI (l - sN (stepM c q rests (prQ pair) n) W s (fallP (stepM c q rests (prQ pair) n) W n s l)), nI (fallP (stepM c q rests (prQ pair) n) W n s l)) := by
  have hpw : 2 ^ n ≤ 2 ^ 11 := Nat.pow_le_pow_right (by decide) hn
  obtain ⟨f1, f2, f3, f4⟩ := fallP_spec hl
  have hwle := fun i (hi : i < n) => wN_le (p := i) hn hs hi hW
  have hwdef : ∀ i, wN (stepM c q rests (prQ pair) n) W s i = if stepM c q rests (prQ pair) n s i then W (s ||| 2 ^ i) else 0 := fun i => rfl
  have hor := fun i (hi : i < n) => or_lt11 hn hs hi
  have hWl : ∀ i, i < n → W (s ||| 2 ^ i) < 2 ^ 31 := fun i hi => by
    have h1 := (hW.1 _ (hor i hi)).2
    have h2 := fct_le (n - pcN (s ||| 2 ^ i) n) (by omega)
    omega
  generalize fallP (stepM c q rests (prQ pair) n) W n s l = p at f1 f2 f3 f4
  refine ⟨b2I (stepM c q rests (prQ pair) n s 0), hgo 0 (by omega), ?_⟩
  refine loop_go (fun i => (nI (l - sN (stepM c q rests (prQ pair) n) W s i), nI i, b2I (stepM c q rests (prQ pair) n s i))) p rfl (fun i hi => ?_) ?_
  · try dsimp only
    unfold f_X11_best_L152
    have h4 := f4 i hi
    have hw1 := hwle i (by omega)
    rw [sN_s] at h4
    rw [show gi L 2048 (0 : Int32) = some (L 0) from gi_n (k := 0) (by omega) (by omega), hL0, nI_1]
    simp only [Option.bind_some]
    rw [hgo (i + 1) (by omega), one_shl (by omega), or_n, gi_n (by have := hor i (by omega); omega) (by omega), hV _ (hor i (by omega)), sN_s]
    have hwd := hwdef i
    cases hst : stepM c q rests (prQ pair) n s i with
    | false =>
      rw [hst] at hwd
      simp only [Bool.false_eq_true, if_false] at hwd
      rw [hwd, Nat.add_zero]
      show some (Sum.inl (nI (l - sN _ W s i) - nI 0, _, _)) = _
      rw [pk_sub (Nat.zero_le _), Nat.sub_zero]
      rfl
    | true =>
      rw [hst] at hwd
      simp only [if_true] at hwd
      simp only [b2I, if_true, Option.bind_some]
      have hwi := hWl i (by omega)
      rw [if_neg (show ¬ (1 : Int32) = 0 by decide), if_neg (nI_nlt (by omega) (by omega)), if_neg (show ¬ (1 : Int32) = 0 by decide)]
      simp only [Option.bind_some]
      rw [pk_sub (by omega), hwd, Nat.sub_sub]
  · try dsimp only
    unfold f_X11_best_L152
    rw [sN_s] at f3
    have hwd := hwdef p
    have hst : stepM c q rests (prQ pair) n s p = true := by
      cases hc : stepM c q rests (prQ pair) n s p with
      | true => rfl
      | false =>
        rw [hc] at hwd
        simp only [Bool.false_eq_true, if_false] at hwd
        omega
    rw [hst] at hwd
    simp only [if_true] at hwd
    have hwi := hWl p f1
    rw [hst, one_shl (by omega), or_n, gi_n (by have := hor p f1; omega) (by omega), hV _ (hor p f1)]
    simp only [b2I, if_true, Option.bind_some]
    rw [if_neg (show ¬ (1 : Int32) = 0 by decide), if_pos (nI_lt (by omega) (by omega))]
theorem bestM_n {L V r0 : Nat → Int32} (hn : n ≤ 11) (hgo : ∀ s p, s < 2 ^ n → p < n → f_X11_goesOn (nI n) wide places weights pair L (nI c) (nI s) (nI p) (nI (tN c n R 0)) = some (b2I (stepM c q rests (prQ pair) n s p))) (hL0 : L 0 = nI (tN c n R 0)) (hV : ∀ t, t < 2 ^ n → V t = nI (W t)) (hW : WaysN n (stepM c q rests (prQ pair) n) W ways) (hk : k < W 0) : loopS (fun (s : Int32 × Int32 × Int32 × (Nat → Int32)) => f_X11_best_L121 (nI c) (nI n) wide places weights pair L V s.1 s.2.1 s.2.2.1 s.2.2.2) (nI k, (0 : Int32), (0 : Int32), r0) = some (nI (pkS (stepM c q rests (prQ pair) n) W n k n).2.2.length, wrL r0 (pkS (stepM c q rests (prQ pair) n) W n k n).2.2) := by
  have hbit : ∀ s p, stepM c q rests (prQ pair) n s p = true → s.testBit p = false := fun s p hst => by
    unfold stepM at hst
    rw [Bool.and_eq_true, Bool.and_eq_true, Bool.not_eq_true'] at hst
    exact hst.1.1
  have hok := fun i (hi : i ≤ n) => pkS_ok hn hW hbit hk (i := i) hi
  refine loop_go (fun i => (nI (pkS (stepM c q rests (prQ pair) n) W n k i).2.1, nI (pkS (stepM c q rests (prQ pair) n) W n k i).1, nI (pkS (stepM c q rests (prQ pair) n) W n k i).2.2.length, wrL r0 (pkS (stepM c q rests (prQ pair) n) W n k i).2.2)) n ?_ (fun i hi => ?_) ?_
  · show _ = (nI k, nI 0, nI 0, wrL r0 [])
    rw [wrL_0]
    rfl
  · try dsimp only
    obtain ⟨h1, h2, h3, h4, h5⟩ := hok i (by omega)
    have hlt : (pkS (stepM c q rests (prQ pair) n) W n k i).1 < 2 ^ n - 1 := by
      rcases Nat.lt_or_ge (pkS (stepM c q rests (prQ pair) n) W n k i).1 (2 ^ n - 1) with z | z
      · exact z
      · have : (pkS (stepM c q rests (prQ pair) n) W n k i).1 = 2 ^ n - 1 := by omega
        rw [this, pcN_full] at h2
        omega
    have hwl := (hW.1 _ h1).2
    have hfl := fct_le (n - pcN (pkS (stepM c q rests (prQ pair) n) W n k i).1 n) (by omega)
    have h3' := h3
    rw [hW.2.2 _ hlt] at h3'
    obtain ⟨f1, -, -, -⟩ := fallP_spec h3'
    obtain ⟨v0, g1, g2⟩ := bestIn_n (wide := wide) (places := places) (weights := weights) hn h1 (fun p hp => hgo _ p h1 hp) hL0 hV hW h3' (by omega)
    unfold f_X11_best_L121
    rw [if_neg (nI_ge (by omega) (by omega)), show gi L 2048 (0 : Int32) = some (L 0) from gi_n (k := 0) (by omega) (by omega), hL0]
    simp only [Option.bind_some]
    rw [g1]
    simp only [Option.bind_some]
    rw [g2, pkS]
    simp only [b2, Option.bind_some]
    rw [si_n (by omega) (by omega), wrL_app, one_shl (by omega), or_n, nI_1]
    simp only [Option.bind_some, List.length_append, List.length_singleton]
  · try dsimp only
    obtain ⟨h1, h2, h3, h4, h5⟩ := hok n (Nat.le_refl n)
    unfold f_X11_best_L121
    rw [if_pos (nI_le (by omega) (by omega))]
end BESTM
