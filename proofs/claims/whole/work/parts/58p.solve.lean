/-! LAYER 2: the class solves by sets -/
theorem dn0 : nI 0 + (-1 : Int32) = (-1 : Int32) := by decide
theorem loop_dn {X A : Type} {step : Int32 × A → Option ((Int32 × A) ⊕ X)} (I : Nat → A → Prop) (P : X → Prop) (hx : ∀ a, I 0 a → ∃ x, step ((-1 : Int32), a) = some (.inr x) ∧ P x) : ∀ (N : Nat), (∀ m a, m < N → I (m + 1) a → ∃ a2, step (nI m, a) = some (.inl (nI m + (-1 : Int32), a2)) ∧ I m a2) → ∀ (a : A), I N a → ∃ x, loopS step (nI N + (-1 : Int32), a) = some x ∧ P x
  | 0, _, a, h => by
    obtain ⟨x, h1, h2⟩ := hx a h
    exact ⟨x, by rw [dn0, loopS_eq, h1]; rfl, h2⟩
  | N + 1, hs, a, h => by
    obtain ⟨a2, h1, h2⟩ := hs N a (by omega) h
    obtain ⟨x, h3, h4⟩ := loop_dn I P hx N (fun m a hm => hs m a (by omega)) a2 h2
    exact ⟨x, by rw [pk_m1, loopS_eq, h1]; exact h3, h4⟩
theorem mayF_n {ahead : Nat → Int32} {n s p : Nat} {pr : Nat → Nat → Bool} (hn : n ≤ 11) (hp : p < n) (ha : ∀ b, b < 11 → ahead b = nI (mkB (fun a => pr a b) 11)) (hq : ∀ a b, a < 11 → b < 11 → pr a b = true → a < n ∧ b < n) : f_X9_mayFollow ahead (nI p) (nI s) = some (b2I (allAhead pr s p n)) := by
  have hm : mkB (fun a => pr a p) 11 < 2 ^ n := by
    apply Nat.lt_pow_two_of_testBit
    intro a han
    rw [mkB_tb]
    by_cases h11 : a < 11
    · cases hc : pr a p with
      | false => rw [Bool.and_false]
      | true => exact absurd (hq a p h11 (by omega) hc).1 (by omega)
    · rw [decide_eq_false h11, Bool.false_and]
  exact mayFollow_n hn (by omega) (ha p (by omega)) hm (fun a han => by rw [mkB_tb, decide_eq_true (show a < 11 by omega), Bool.true_and])
theorem joinI_n {c : Nat} (hc : c ≤ 5) (x y : Int32) : f_X2_join (nI c) x y = some (joinM c x y) := by
  unfold f_X2_join joinM
  by_cases h3 : c = 3
  · rw [if_pos (by rw [h3]; rfl), if_pos h3]
  · rw [if_neg (show ¬ nI c = (3 : Int32) from fun q => h3 ((nI_c (d := 3) (by omega) (by omega)).mp q)), if_neg h3]
theorem or_lt11 {n s p : Nat} (hn : n ≤ 11) (hs : s < 2 ^ n) (hp : p < n) : s ||| 2 ^ p < 2 ^ n := Nat.or_lt_two_pow hs (Nat.pow_lt_pow_right (by decide) hp)
theorem restWith_n {c t : Nat} {prices rests : Nat → Int32} (hc : c ≤ 5) (ht : t < 2048) : f_X7_restWith (nI c) prices rests (nI t) = some (joinM c (prices t) (rests t)) := by
  unfold f_X7_restWith
  rw [gi_n ht (by omega), gi_n ht (by omega)]
  simp only [Option.bind_some]
  rw [joinI_n hc]
  rfl
section SOLVE
variable {n c : Nat} {pr : Nat → Nat → Bool} {ahead prices : Nat → Int32}
theorem leastRest_n {s : Nat} {rests : Nat → Int32} (hn : n ≤ 11) (hc : c ≤ 5) (hs : s < 2 ^ n) (ha : ∀ b, b < 11 → ahead b = nI (mkB (fun a => pr a b) 11)) (hq : ∀ a b, a < 11 → b < 11 → pr a b = true → a < n ∧ b < n) : f_X7_leastRest (nI c) (nI n) ahead prices rests (nI s) = some (leastF (1073741824 : Int32) c prices rests pr n s n) := by
  have hpw : 2 ^ n ≤ 2 ^ 11 := Nat.pow_le_pow_right (by decide) hn
  unfold f_X7_leastRest
  have h : loopS (fun (t : Int32 × Int32) => f_X7_leastRest_L5 (nI s) (nI c) (nI n) ahead prices rests t.1 t.2) ((1073741824 : Int32), (0 : Int32)) = some (leastF (1073741824 : Int32) c prices rests pr n s n) := by
    refine loop_go (fun k => (leastF (1073741824 : Int32) c prices rests pr n s k, nI k)) n rfl (fun k hk => ?_) ?_
    · try dsimp only
      unfold f_X7_leastRest_L5
      have ho := or_lt11 hn hs hk
      rw [if_neg (nI_ge hk (by omega)), holds_n (by omega) (by omega), mayF_n hn hk ha hq, one_shl (by omega), or_n, restWith_n hc (by omega), nI_1, leastF]
      cases s.testBit k with
      | true => rfl
      | false =>
        cases allAhead pr s k n with
        | false => rfl
        | true => rfl
    · try dsimp only
      unfold f_X7_leastRest_L5
      rw [if_pos (nI_le (Nat.le_refl n) (by omega))]
  rw [h]
  rfl
theorem isBestStep_n {s p : Nat} {rests : Nat → Int32} (hn : n ≤ 11) (hc : c ≤ 5) (hs : s < 2 ^ n) (hp : p < n) (ha : ∀ b, b < 11 → ahead b = nI (mkB (fun a => pr a b) 11)) (hq : ∀ a b, a < 11 → b < 11 → pr a b = true → a < n ∧ b < n) : f_X7_isBestStep (nI c) ahead prices rests (nI s) (nI p) = some (b2I (stepM c prices rests pr n s p)) := by
  have hpw : 2 ^ n ≤ 2 ^ 11 := Nat.pow_le_pow_right (by decide) hn
  have ho := or_lt11 hn hs hp
  unfold f_X7_isBestStep stepM
  rw [holds_n (by omega) (by omega), mayF_n hn hp ha hq, one_shl (by omega), or_n, restWith_n hc (by omega), gi_n (by omega) (by omega), show gi rests 2048 (0 : Int32) = some (rests 0) from gi_n (k := 0) (by omega) (by omega)]
  have ht : ((if nI c = (3 : Int32) then ((some (rests s)).bind fun v11 => some v11) else ((some (rests 0)).bind fun v10 => some v10) : Option (Int32))) = some (if c = 3 then rests s else rests 0) := by
    by_cases h3 : c = 3
    · rw [if_pos (by rw [h3]; rfl), if_pos h3]
      rfl
    · rw [if_neg (show ¬ nI c = (3 : Int32) from fun q => h3 ((nI_c (d := 3) (by omega) (by omega)).mp q)), if_neg h3]
      rfl
  rw [ht]
  cases s.testBit p with
  | true => rfl
  | false =>
    cases allAhead pr s p n with
    | false => rfl
    | true =>
      simp only [Option.bind_some, b2I, Bool.false_eq_true, if_false, if_true, Bool.not_false, Bool.and_self, Bool.true_and]
      rw [if_neg (show ¬ (1 : Int32) = 0 by decide)]
      by_cases hlt : (if c = 3 then rests s else rests 0) < joinM c (prices (s ||| 2 ^ p)) (rests (s ||| 2 ^ p))
      · rw [if_pos hlt, decide_eq_false (Int32.not_le.mpr hlt)]
        rfl
      · rw [if_neg hlt, decide_eq_true (Int32.not_lt.mp hlt)]
        rfl
theorem waysOn_n {s : Nat} {rests ways : Nat → Int32} (hn : n ≤ 11) (hc : c ≤ 5) (hs : s < 2 ^ n) (ha : ∀ b, b < 11 → ahead b = nI (mkB (fun a => pr a b) 11)) (hq : ∀ a b, a < 11 → b < 11 → pr a b = true → a < n ∧ b < n) : f_X7_waysOn (nI c) (nI n) ahead prices rests ways (nI s) = some (sumI (fun p => if stepM c prices rests pr n s p then ways (s ||| 2 ^ p) else 0) n) := by
  have hpw : 2 ^ n ≤ 2 ^ 11 := Nat.pow_le_pow_right (by decide) hn
  unfold f_X7_waysOn
  have h : loopS (fun (t : Int32 × Int32) => f_X7_waysOn_L4 (nI s) (nI c) (nI n) ahead prices rests ways t.1 t.2) ((0 : Int32), (0 : Int32)) = some (sumI (fun p => if stepM c prices rests pr n s p then ways (s ||| 2 ^ p) else 0) n) := by
    refine loop_go (fun k => (sumI (fun p => if stepM c prices rests pr n s p then ways (s ||| 2 ^ p) else 0) k, nI k)) n rfl (fun k hk => ?_) ?_
    · try dsimp only
      unfold f_X7_waysOn_L4
      have ho := or_lt11 hn hs hk
      rw [if_neg (nI_ge hk (by omega)), isBestStep_n hn hc hs hk ha hq, one_shl (by omega), or_n, gi_n (by omega) (by omega), nI_1, sumI]
      cases stepM c prices rests pr n s k with
      | false =>
        show some (Sum.inl (sumI _ k, nI (k + 1))) = some (Sum.inl (sumI _ k + 0, nI (k + 1)))
        rw [Int32.add_zero]
      | true => rfl
    · try dsimp only
      unfold f_X7_waysOn_L4
      rw [if_pos (nI_le (Nat.le_refl n) (by omega))]
  rw [h]
  rfl
theorem or_ge (s p : Nat) : s ≤ s ||| 2 ^ p := Nat.left_le_or
theorem or_gt {s p : Nat} (h : s.testBit p = false) : s < s ||| 2 ^ p := by
  have h1 : s ≤ s ||| 2 ^ p := or_ge s p
  rcases Nat.lt_or_ge s (s ||| 2 ^ p) with q | q
  · exact q
  · exfalso
    have e : s ||| 2 ^ p = s := by omega
    have : (s ||| 2 ^ p).testBit p = true := by rw [tb_or]; simp
    rw [e, h] at this
    cases this
theorem leastF_congr {far : Int32} {r1 r2 : Nat → Int32} {s : Nat} : ∀ {k : Nat}, (∀ p, p < k → s.testBit p = false → r1 (s ||| 2 ^ p) = r2 (s ||| 2 ^ p)) → leastF far c prices r1 pr n s k = leastF far c prices r2 pr n s k
  | 0, _ => rfl
  | k + 1, h => by
    rw [leastF, leastF, leastF_congr (fun p hp => h p (by omega))]
    cases hb : s.testBit k with
    | true => simp only [Bool.not_true, Bool.false_and, Bool.false_eq_true, if_false]
    | false => rw [h k (by omega) hb]
theorem solveRests {rests : Nat → Int32} (hn : n ≤ 11) (hc : c ≤ 5) (ha : ∀ b, b < 11 → ahead b = nI (mkB (fun a => pr a b) 11)) (hq : ∀ a b, a < 11 → b < 11 → pr a b = true → a < n ∧ b < n) (h0 : rests (2 ^ n - 1) = 0) : ∃ r, loopS (fun (s : Int32 × (Nat → Int32)) => f_X7_solve_L42 (nI c) (nI n) ahead prices s.1 s.2) (nI (2 ^ n - 1) + (-1 : Int32), rests) = some r ∧ r (2 ^ n - 1) = 0 ∧ ∀ s, s < 2 ^ n - 1 → r s = leastF (1073741824 : Int32) c prices r pr n s n := by
  have hpw : 2 ^ n ≤ 2 ^ 11 := Nat.pow_le_pow_right (by decide) hn
  have hpos : 0 < 2 ^ n := Nat.pow_pos (by decide)
  refine loop_dn (fun m (r : Nat → Int32) => r (2 ^ n - 1) = 0 ∧ ∀ s, m ≤ s → s < 2 ^ n - 1 → r s = leastF (1073741824 : Int32) c prices r pr n s n) (fun (r : Nat → Int32) => r (2 ^ n - 1) = 0 ∧ ∀ s, s < 2 ^ n - 1 → r s = leastF (1073741824 : Int32) c prices r pr n s n) ?_ (2 ^ n - 1) ?_ rests ⟨h0, fun s h1 h2 => absurd h2 (by omega)⟩
  · rintro r ⟨i1, i2⟩
    refine ⟨r, ?_, i1, fun s hs => i2 s (by omega) hs⟩
    try dsimp only
    unfold f_X7_solve_L42
    rw [if_pos (by decide)]
  · rintro m r hm ⟨i1, i2⟩
    refine ⟨upd r m (leastF (1073741824 : Int32) c prices r pr n m n), ?_, ?_, ?_⟩
    · try dsimp only
      unfold f_X7_solve_L42
      rw [if_neg (nI_pos (by omega)), leastRest_n hn hc (by omega) ha hq]
      simp only [Option.bind_some]
      rw [si_n (by omega) (by omega)]
      rfl
    · rw [pk_un (by omega)]
      exact i1
    · intro s h1 h2
      have hcg : leastF (1073741824 : Int32) c prices (upd r m (leastF (1073741824 : Int32) c prices r pr n m n)) pr n s n = leastF (1073741824 : Int32) c prices r pr n s n := leastF_congr (fun p hp hb => pk_un (by have := or_gt hb; omega))
      rw [hcg]
      by_cases hsm : s = m
      · subst hsm
        rw [pk_us]
      · rw [pk_un hsm]
        exact i2 s (by omega) h2
theorem solveWays {rests ways : Nat → Int32} (hn : n ≤ 11) (hc : c ≤ 5) (ha : ∀ b, b < 11 → ahead b = nI (mkB (fun a => pr a b) 11)) (hq : ∀ a b, a < 11 → b < 11 → pr a b = true → a < n ∧ b < n) (h0 : ways (2 ^ n - 1) = 1) : ∃ r, loopS (fun (s : Int32 × (Nat → Int32)) => f_X7_solve_L74 (nI c) (nI n) ahead prices rests s.1 s.2) (nI (2 ^ n - 1) + (-1 : Int32), ways) = some r ∧ r (2 ^ n - 1) = 1 ∧ ∀ s, s < 2 ^ n - 1 → r s = sumI (fun p => if stepM c prices rests pr n s p then r (s ||| 2 ^ p) else 0) n := by
  have hpw : 2 ^ n ≤ 2 ^ 11 := Nat.pow_le_pow_right (by decide) hn
  have hpos : 0 < 2 ^ n := Nat.pow_pos (by decide)
  refine loop_dn (fun m (r : Nat → Int32) => r (2 ^ n - 1) = 1 ∧ ∀ s, m ≤ s → s < 2 ^ n - 1 → r s = sumI (fun p => if stepM c prices rests pr n s p then r (s ||| 2 ^ p) else 0) n) (fun (r : Nat → Int32) => r (2 ^ n - 1) = 1 ∧ ∀ s, s < 2 ^ n - 1 → r s = sumI (fun p => if stepM c prices rests pr n s p then r (s ||| 2 ^ p) else 0) n) ?_ (2 ^ n - 1) ?_ ways ⟨h0, fun s h1 h2 => absurd h2 (by omega)⟩
  · rintro r ⟨i1, i2⟩
    refine ⟨r, ?_, i1, fun s hs => i2 s (by omega) hs⟩
    try dsimp only
    unfold f_X7_solve_L74
    rw [if_pos (by decide)]
  · rintro m r hm ⟨i1, i2⟩
    refine ⟨upd r m (sumI (fun p => if stepM c prices rests pr n m p then r (m ||| 2 ^ p) else 0) n), ?_, ?_, ?_⟩
    · try dsimp only
      unfold f_X7_solve_L74
      rw [if_neg (nI_pos (by omega)), waysOn_n hn hc (by omega) ha hq]
      simp only [Option.bind_some]
      rw [si_n (by omega) (by omega)]
      rfl
    · rw [pk_un (by omega)]
      exact i1
    · intro s h1 h2
      have hcg : sumI (fun p => if stepM c prices rests pr n s p then upd r m (sumI (fun p => if stepM c prices rests pr n m p then r (m ||| 2 ^ p) else 0) n) (s ||| 2 ^ p) else 0) n = sumI (fun p => if stepM c prices rests pr n s p then r (s ||| 2 ^ p) else 0) n := by
        apply sumI_congr
        intro p hp
        cases hst : stepM c prices rests pr n s p with
        | false => rfl
        | true =>
          have hb : s.testBit p = false := by
            unfold stepM at hst
            rw [Bool.and_eq_true, Bool.and_eq_true, Bool.not_eq_true'] at hst
            exact hst.1.1
          rw [pk_un (by have := or_gt hb; omega)]
      rw [hcg]
      by_cases hsm : s = m
      · subst hsm
        rw [pk_us]
      · rw [pk_un hsm]
        exact i2 s (by omega) h2
end SOLVE
theorem sub1 (x : Int32) : x - (1 : Int32) = x + (-1 : Int32) := Int32.sub_eq_add_neg x 1
def SetSolved (n : Nat) (rd : Nat → Nat → Int32) (pr : Nat → Nat → Bool) (c : Nat) (lo to : Int32) (q rests ways : Nat → Int32) : Prop := (∀ s, s < 2 ^ n → q s = priceM n rd pr c s) ∧ rests (2 ^ n - 1) = 0 ∧ (∀ s, s < 2 ^ n - 1 → rests s = leastF (1073741824 : Int32) c q rests pr n s n) ∧ ways (2 ^ n - 1) = 1 ∧ (∀ s, s < 2 ^ n - 1 → ways s = sumI (fun p => if stepM c q rests pr n s p then ways (s ||| 2 ^ p) else 0) n) ∧ lo = (if c = 5 ∧ 0 < n then rests 0 + 1 else rests 0) ∧ to = ways 0
theorem solve_n {n c : Nat} {rd : Nat → Nat → Int32} {rN : Nat → Nat → Nat} {pr : Nat → Nat → Bool} {weights near behind ahead prices rests ways : Nat → Int32} {sF lo to pF : Int32} (hx : Cx n rd rN) (hv : VC n rd pr weights near behind) (hc : c = 1 ∨ c = 2 ∨ c = 3 ∨ c = 5) (ha : ∀ b, b < 11 → ahead b = nI (mkB (fun a => pr a b) 11)) (hq : ∀ a b, a < 11 → b < 11 → pr a b = true → a < n ∧ b < n) (hS : SetInv n rd pr sF lo to pF prices rests ways) : ∃ lo2 to2 q r w, f_X7_solve sF lo to pF (nI n) weights near behind ahead prices rests ways (nI c) = some (nI c, lo2, to2, nI (c13 c), q, r, w) ∧ SetSolved n rd pr c lo2 to2 q r w ∧ SetInv n rd pr (nI c) lo2 to2 (nI (c13 c)) q r w := by
  have hn := hx.1
  have hpw : 2 ^ n ≤ 2 ^ 11 := Nat.pow_le_pow_right (by decide) hn
  have hpos : 0 < 2 ^ n := Nat.pow_pos (by decide)
  have hc13 : c13 c = 1 ∨ c13 c = 2 ∨ c13 c = 5 := by unfold c13; split <;> omega
  unfold f_X7_solve
  by_cases hs : sF = nI c
  · rw [if_pos hs]
    have hS2 := hS
    rcases hS.2 with q | ⟨c0, q1, q2, q3, q4⟩
    · rw [hs] at q
      exact absurd q (nI_m1 (by omega))
    · have e : c0 = c := (nI_c (by omega) (by omega)).mp (q2.symm.trans hs)
      subst e
      refine ⟨lo, to, prices, rests, ways, by rw [hs, q3]; rfl, ⟨?_, q4⟩, by rw [← hs, show nI (c13 c0) = pF from q3.symm]; exact hS2⟩
      rcases hS.1 with q | ⟨c1, p1, p2, p3⟩
      · rw [q3] at q
        exact absurd q (nI_m1 (by split <;> omega))
      · have e1 : c1 = c13 c0 := (nI_c (by omega) (by omega)).mp (p2.symm.trans q3)
        subst e1
        intro s hs3
        rw [p3 s hs3, priceM_13]
  · rw [if_neg hs]
    obtain ⟨sF2, q, g1, g2, g3⟩ := priceSets_n hx hv hc hS
    rw [g1]
    simp only [b3, Option.bind_some]
    have hw : nI (2 ^ n) - (1 : Int32) = nI (2 ^ n - 1) := pk_sub (b := 1) hpos
    rw [one_shl (by omega), hw, si_n (by omega) (by omega), si_n (by omega) (by omega), sub1]
    simp only [Option.bind_some]
    obtain ⟨r, r1, r2, r3⟩ := solveRests (prices := q) (rests := upd rests (2 ^ n - 1) 0) hn (show c ≤ 5 by omega) ha hq pk_us
    rw [r1]
    simp only [Option.bind_some]
    obtain ⟨w, w1, w2, w3⟩ := solveWays (prices := q) (rests := r) (ways := upd ways (2 ^ n - 1) 1) hn (show c ≤ 5 by omega) ha hq pk_us
    rw [w1]
    simp only [Option.bind_some]
    rw [show gi r 2048 (0 : Int32) = some (r 0) from gi_n (k := 0) (by omega) (by omega), show gi w 2048 (0 : Int32) = some (w 0) from gi_n (k := 0) (by omega) (by omega)]
    simp only [Option.bind_some]
    have hf : f_X2_finish (nI n) (nI c) (r 0) = some (if c = 5 ∧ 0 < n then r 0 + 1 else r 0) := by
      unfold f_X2_finish
      by_cases h5 : c = 5
      · rw [if_pos (by rw [h5]; rfl)]
        by_cases h0 : 0 < n
        · rw [if_neg (nI_nle h0 (by omega)), if_pos ⟨h5, h0⟩]
        · rw [if_pos (show nI n ≤ 0 from by rw [show n = 0 by omega, nI_0]; exact Int32.le_refl 0), if_neg (fun q => h0 q.2)]
      · rw [if_neg (show ¬ nI c = (5 : Int32) from fun q => h5 ((nI_c (d := 5) (by omega) (by omega)).mp q)), if_neg (fun q => h5 q.1)]
    rw [hf]
    refine ⟨_, _, q, r, w, rfl, ⟨g2, r2, r3, w2, w3, rfl, rfl⟩, g3.1, Or.inr ⟨c, hc, rfl, rfl, r2, r3, w2, w3, rfl, rfl⟩⟩
