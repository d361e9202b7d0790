/-! LAYER 2: the number of a row, by sets -/
theorem jN_assoc (c x y z : Nat) : jN c (jN c x y) z = jN c x (jN c y z) := by
  unfold jN
  split <;> omega
theorem jN_mono {c x y y2 : Nat} (h : y ≤ y2) : jN c x y ≤ jN c x y2 := by
  unfold jN
  split <;> omega
theorem jN_0 (c x : Nat) : jN c 0 x = x := by
  unfold jN
  split <;> omega
theorem jN_r0 (c x : Nat) : jN c x 0 = x := by
  unfold jN
  split <;> omega
theorem jN_gel (c x y : Nat) : x ≤ jN c x y := by
  unfold jN
  split <;> omega
theorem jN_ger (c x y : Nat) : y ≤ jN c x y := by
  unfold jN
  split <;> omega
theorem jnN_j (c : Nat) (pN F : Nat → Nat) (i : Nat) : jnN c pN F (i + 1) = jN c (jnN c pN F i) (pN (setM F (i + 1))) := rfl
def sxN (c : Nat) (pN F : Nat → Nat) (n : Nat) : Nat → Nat
  | 0 => 0
  | d + 1 => jN c (pN (setM F (n - d))) (sxN c pN F n d)
theorem jn_sx {c n : Nat} {pN F : Nat → Nat} : ∀ {d : Nat}, d ≤ n → jN c (jnN c pN F (n - d)) (sxN c pN F n d) = jnN c pN F n
  | 0, _ => by rw [sxN, jN_r0, Nat.sub_zero]
  | d + 1, hd => by
    rw [sxN, ← jN_assoc]
    have e : n - d = n - (d + 1) + 1 := by omega
    have h := jn_sx (c := c) (pN := pN) (F := F) (d := d) (n := n) (by omega)
    rw [e] at h ⊢
    rw [jnN_j] at h
    exact h
theorem sx_jn {c n : Nat} {pN F : Nat → Nat} : sxN c pN F n n = jnN c pN F n := by
  have h := jn_sx (c := c) (pN := pN) (F := F) (Nat.le_refl n)
  rw [Nat.sub_self, show jnN c pN F 0 = 0 from rfl, jN_0] at h
  exact h
theorem sx_mono {c n : Nat} {pN F : Nat → Nat} {d : Nat} : ∀ {e : Nat}, d ≤ e → sxN c pN F n d ≤ sxN c pN F n e
  | 0, h => by
    have : d = 0 := by omega
    rw [this]
    exact Nat.le_refl _
  | e + 1, h => by
    rcases Nat.lt_or_ge d (e + 1) with q | q
    · exact Nat.le_trans (sx_mono (show d ≤ e by omega)) (jN_ger c _ _)
    · have : d = e + 1 := by omega
      rw [this]
      exact Nat.le_refl _
theorem sx_price {c n : Nat} {pN F : Nat → Nat} {i : Nat} (hi : i < n) : pN (setM F (i + 1)) ≤ sxN c pN F n n := by
  refine Nat.le_trans ?_ (sx_mono (d := n - i) (by omega))
  have e : n - i = n - (i + 1) + 1 := by omega
  rw [e, sxN, show n - (n - (i + 1)) = i + 1 by omega]
  exact jN_gel c _ _
theorem setM_n {F : Nat → Nat} {n : Nat} (hlt : ∀ j, j < n → F j < n) {i : Nat} (hi : i ≤ n) : setM F i < 2 ^ n := by
  apply Nat.lt_pow_two_of_testBit
  intro y hy
  cases hc : (setM F i).testBit y with
  | false => rfl
  | true =>
    obtain ⟨j, h1, h2⟩ := setM_tb.mp hc
    have := hlt j (by omega)
    omega
theorem setM_notall {F : Nat → Nat} {n : Nat} (hlt : ∀ j, j < n → F j < n) (hi : ∀ i j, i < n → j < n → F i = F j → i = j) {i : Nat} (hin : i < n) : setM F i < 2 ^ n - 1 := by
  have h1 := setM_n hlt (show i ≤ n by omega)
  rcases Nat.lt_or_ge (setM F i) (2 ^ n - 1) with q | q
  · exact q
  · exfalso
    have e : setM F i = 2 ^ n - 1 := by omega
    have h2 := setM_new hi hin
    rw [e, Nat.testBit_two_pow_sub_one, decide_eq_true (hlt i hin)] at h2
    cases h2
theorem best_iff {c n : Nat} {R pN F : Nat → Nat} {pr : Nat → Nat → Bool} {q rests : Nat → Int32} (h : RestsN n c pN R pr rests) (hq : ∀ s, s < 2 ^ n → q s = nI (pN s)) (hple : ∀ s, pN s ≤ 242000) (hn : n ≤ 11) (hlt : ∀ j, j < n → F j < n) (hi : ∀ i j, i < n → j < n → F i = F j → i = j) : (∀ i, i < n → stepM c q rests pr n (setM F i) (F i) = true) ↔ (lawB pr F n = true ∧ jnN c pN F n = R 0) := by
  have hst : ∀ i, i < n → stepM c q rests pr n (setM F i) (F i) = (mayN pr n (setM F i) (F i) && decide (jN c (pN (setM F (i + 1))) (R (setM F (i + 1))) ≤ (if c = 3 then R (setM F i) else R 0))) := fun i hin => step_N h hq hple hn (setM_n hlt (by omega)) (hlt i hin)
  have hall : setM F n = 2 ^ n - 1 := (setM_all hi).mpr ⟨rfl, hlt⟩
  have hmay : ∀ i, i < n → (mayN pr n (setM F i) (F i) = true ↔ allAhead pr (setM F i) (F i) n = true) := fun i hin => by
    unfold mayN
    rw [setM_new hi hin]
    rfl
  have hlaw : lawB pr F n = true ↔ ∀ i, i < n → mayN pr n (setM F i) (F i) = true := by
    unfold lawB
    rw [decide_eq_true_eq]
    exact ⟨fun h2 i hin => (hmay i hin).mpr (h2 i hin), fun h2 i hin => (hmay i hin).mp (h2 i hin)⟩
  have hlow : (∀ i, i < n → mayN pr n (setM F i) (F i) = true) → ∀ d, d ≤ n → R (setM F (n - d)) ≤ sxN c pN F n d := fun hm d => by
    induction d with
    | zero =>
      intro _
      rw [Nat.sub_zero, hall, h.2.1]
      exact Nat.zero_le _
    | succ d ih =>
      intro hd
      have h1 := (h.2.2 (setM F (n - (d + 1))) (setM_notall hlt hi (by omega))).1 (F (n - (d + 1))) (hlt _ (by omega)) (hm _ (by omega))
      rw [show setM F (n - (d + 1)) ||| 2 ^ F (n - (d + 1)) = setM F (n - (d + 1) + 1) from rfl, show n - (d + 1) + 1 = n - d by omega] at h1
      rw [sxN]
      exact Nat.le_trans h1 (jN_mono (ih (by omega)))
  constructor
  · intro hb
    have hm : ∀ i, i < n → mayN pr n (setM F i) (F i) = true := fun i hin => by
      have := hb i hin
      rw [hst i hin, Bool.and_eq_true] at this
      exact this.1
    have hle : ∀ i, i < n → jN c (pN (setM F (i + 1))) (R (setM F (i + 1))) ≤ (if c = 3 then R (setM F i) else R 0) := fun i hin => by
      have := hb i hin
      rw [hst i hin, Bool.and_eq_true, decide_eq_true_eq] at this
      exact this.2
    refine ⟨hlaw.mpr hm, ?_⟩
    have h1 := hlow hm n (Nat.le_refl n)
    rw [Nat.sub_self, show setM F 0 = 0 from rfl, sx_jn] at h1
    have h2 : jnN c pN F n ≤ R 0 := by
      by_cases h3 : c = 3
      · rw [← sx_jn]
        have hup : ∀ d, d ≤ n → sxN c pN F n d ≤ R (setM F (n - d)) := fun d => by
          induction d with
          | zero => intro _; exact Nat.zero_le _
          | succ d ih =>
            intro hd
            have h4 := hle (n - (d + 1)) (by omega)
            rw [if_pos h3, show n - (d + 1) + 1 = n - d by omega] at h4
            rw [sxN]
            exact Nat.le_trans (jN_mono (ih (by omega))) h4
        have := hup n (Nat.le_refl n)
        rw [Nat.sub_self] at this
        exact this
      · have hup : ∀ i, i ≤ n → jnN c pN F i ≤ R 0 := fun i => by
          induction i with
          | zero => intro _; exact Nat.zero_le _
          | succ i ih =>
            intro hin
            have h4 := hle i (by omega)
            rw [if_neg h3] at h4
            have h5 := jN_gel c (pN (setM F (i + 1))) (R (setM F (i + 1)))
            have h6 := ih (by omega)
            rw [jnN, if_neg h3]
            omega
        exact hup n (Nat.le_refl n)
    omega
  · rintro ⟨hl, hc⟩
    have hm := hlaw.mp hl
    intro i hin
    rw [hst i hin, hm i hin, Bool.true_and, decide_eq_true_eq]
    rw [← sx_jn] at hc
    by_cases h3 : c = 3
    · rw [if_pos h3]
      have heq : ∀ i, i ≤ n → R (setM F i) = sxN c pN F n (n - i) := fun i => by
        induction i with
        | zero =>
          intro _
          rw [show setM F 0 = 0 from rfl, Nat.sub_zero]
          exact hc.symm
        | succ i ih =>
          intro hin2
          have e1 := ih (by omega)
          have e2 : n - i = n - (i + 1) + 1 := by omega
          rw [e2, sxN, show n - (n - (i + 1)) = i + 1 by omega] at e1
          have h1 := (h.2.2 (setM F i) (setM_notall hlt hi (by omega))).1 (F i) (hlt _ (by omega)) (hm _ (by omega))
          rw [show setM F i ||| 2 ^ F i = setM F (i + 1) from rfl] at h1
          have h2 := hlow hm (n - (i + 1)) (by omega)
          rw [show n - (n - (i + 1)) = i + 1 by omega] at h2
          unfold jN at e1 h1
          rw [if_pos h3] at e1 h1
          omega
      have e1 := heq i (by omega)
      have e2 := heq (i + 1) (by omega)
      rw [e1, e2, show n - i = n - (i + 1) + 1 by omega, sxN, show n - (n - (i + 1)) = i + 1 by omega]
      exact Nat.le_refl _
    · rw [if_neg h3, ← hc]
      have h1 := sx_price (c := c) (pN := pN) (F := F) hin
      have h2 := hlow hm (n - (i + 1)) (by omega)
      rw [show n - (n - (i + 1)) = i + 1 by omega] at h2
      have h4 := sx_mono (c := c) (n := n) (pN := pN) (F := F) (d := n - (i + 1)) (e := n) (by omega)
      unfold jN
      rw [if_neg h3]
      omega
/-- how many best rows stand ahead -/
def numN (st : Nat → Nat → Bool) (W F : Nat → Nat) : Nat → Nat
  | 0 => 0
  | i + 1 => numN st W F i + sN st W (setM F i) (F i)
theorem numIn_n {n c s p : Nat} {pr : Nat → Nat → Bool} {ahead prices rests ways : Nat → Int32} {W : Nat → Nat} (x : Nat) (hn : n ≤ 11) (hc : c ≤ 5) (hs : s < 2 ^ n) (hp : p < n) (ha : ∀ b, b < 11 → ahead b = nI (mkB (fun a => pr a b) 11)) (hq : ∀ a b, a < 11 → b < 11 → pr a b = true → a < n ∧ b < n) (hW : WaysN n (stepM c prices rests pr n) W ways) : loopS (fun (t : Int32 × Int32) => f_X7_numberOf_L40 (nI s) (nI p) (nI c) ahead prices rests ways t.1 t.2) (nI x, (0 : Int32)) = some (nI (x + sN (stepM c prices rests pr n) W s p)) := by
  refine loop_go (fun i => (nI (x + sN (stepM c prices rests pr n) W s i), nI i)) p rfl (fun i hi => ?_) ?_
  · try dsimp only
    unfold f_X7_numberOf_L40
    rw [if_neg (nI_ge hi (by omega)), waysWith_n hn hc hs (by omega) ha hq hW, nI_1]
    simp only [Option.bind_some]
    rw [nI_add, sN_s, Nat.add_assoc]
  · try dsimp only
    unfold f_X7_numberOf_L40
    rw [if_pos (nI_le (Nat.le_refl p) (by omega))]
theorem numberC_n {n c : Nat} {pr : Nat → Nat → Bool} {ahead prices rests ways posts : Nat → Int32} {W F : Nat → Nat} (hn : n ≤ 11) (hc : c ≤ 5) (ha : ∀ b, b < 11 → ahead b = nI (mkB (fun a => pr a b) 11)) (hq : ∀ a b, a < 11 → b < 11 → pr a b = true → a < n ∧ b < n) (hW : WaysN n (stepM c prices rests pr n) W ways) (hp : ∀ j, j < n → posts j = nI (F j)) (hlt : ∀ j, j < n → F j < n) : ∃ v, f_X7_numberOf (nI c) ahead prices rests ways (nI n) posts = some v ∧ ((v = nI (numN (stepM c prices rests pr n) W F n) ∧ ∀ i, i < n → stepM c prices rests pr n (setM F i) (F i) = true) ∨ (v = (-1 : Int32) ∧ ¬ ∀ i, i < n → stepM c prices rests pr n (setM F i) (F i) = true)) := by
  unfold f_X7_numberOf
  refine loop_or (fun i (s : Int32 × Int32 × Int32) => s = (nI (numN (stepM c prices rests pr n) W F i), nI (setM F i), nI i) ∧ ∀ j, j < i → stepM c prices rests pr n (setM F j) (F j) = true) (fun v => (v = nI (numN (stepM c prices rests pr n) W F n) ∧ ∀ i, i < n → stepM c prices rests pr n (setM F i) (F i) = true) ∨ (v = (-1 : Int32) ∧ ¬ ∀ i, i < n → stepM c prices rests pr n (setM F i) (F i) = true)) n ?_ ?_ ⟨rfl, fun j hj => absurd hj (by omega)⟩
  · rintro i s hin ⟨rfl, hI⟩
    try dsimp only
    unfold f_X7_numberOf_L7
    have hf := hlt i hin
    have hs := setM_n hlt (show i ≤ n by omega)
    rw [if_neg (nI_ge hin (by omega)), gi_n (by omega) (by omega), hp i hin, nI_1]
    simp only [Option.bind_some]
    rw [isBestStep_n hn hc hs hf ha hq, numIn_n _ hn hc hs hf ha hq hW, one_shl (by omega), or_n]
    simp only [Option.bind_some]
    cases hst : stepM c prices rests pr n (setM F i) (F i) with
    | false => exact Or.inr ⟨_, rfl, Or.inr ⟨rfl, fun h => by rw [h i hin] at hst; cases hst⟩⟩
    | true =>
      refine Or.inl ⟨_, rfl, rfl, fun j hj => ?_⟩
      rcases Nat.lt_or_ge j i with z | z
      · exact hI j z
      · have : j = i := by omega
        rw [this]
        exact hst
  · rintro s ⟨rfl, hI⟩
    try dsimp only
    unfold f_X7_numberOf_L7
    rw [if_pos (nI_le (Nat.le_refl n) (by omega))]
    exact ⟨_, rfl, Or.inl ⟨rfl, hI⟩⟩
theorem numberM_n {n c : Nat} {wide places weights pair q rests ways row L V : Nat → Int32} {R W F : Nat → Nat} (hn : n ≤ 11) (hgo : ∀ s p, s < 2 ^ n → p < n → f_X11_goesOn (nI n) wide places weights pair L (nI c) (nI s) (nI p) (nI (tN c n R 0)) = some (b2I (stepM c q rests (prQ pair) n s p))) (hL0 : L 0 = nI (tN c n R 0)) (hV : ∀ t, t < 2 ^ n → V t = nI (W t)) (hp : ∀ j, j < n → row j = nI (F j)) (hlt : ∀ j, j < n → F j < n) : loopS (fun (s : Int32 × Int32 × Int32) => f_X11_number_L88 (nI c) (nI n) (nI n) wide places weights pair row L V s.1 s.2.1 s.2.2) ((0 : Int32), (0 : Int32), (0 : Int32)) = some (nI (numN (stepM c q rests (prQ pair) n) W F n)) := by
  have hpw : 2 ^ n ≤ 2 ^ 11 := Nat.pow_le_pow_right (by decide) hn
  refine loop_go (fun i => (nI (numN (stepM c q rests (prQ pair) n) W F i), nI (setM F i), nI i)) n rfl (fun i hin => ?_) ?_
  · try dsimp only
    have hf := hlt i hin
    have hs := setM_n hlt (show i ≤ n by omega)
    have hl : loopS (fun (s : Int32 × Int32) => f_X11_number_L100 (nI c) (nI (setM F i)) (nI i) (nI n) wide places weights pair row L V s.1 s.2) (nI (numN (stepM c q rests (prQ pair) n) W F i), (0 : Int32)) = some (nI (numN (stepM c q rests (prQ pair) n) W F i + sN (stepM c q rests (prQ pair) n) W (setM F i) (F i))) := by
      refine loop_go (fun p => (nI (numN (stepM c q rests (prQ pair) n) W F i + sN (stepM c q rests (prQ pair) n) W (setM F i) p), nI p)) (F i) rfl (fun p hpp => ?_) ?_
      · try dsimp only
        have ho := or_lt11 hn hs (show p < n by omega)
        unfold f_X11_number_L100
        rw [gi_n (by omega) (by omega), hp i hin, show gi L 2048 (0 : Int32) = some (L 0) from gi_n (k := 0) (by omega) (by omega), hL0]
        simp only [Option.bind_some]
        rw [if_neg (nI_ge hpp (by omega)), hgo _ p hs (by omega), one_shl (by omega), or_n, gi_n (by omega) (by omega), hV _ ho, nI_1, sN_s, ← Nat.add_assoc]
        unfold wN
        cases stepM c q rests (prQ pair) n (setM F i) p with
        | false =>
          simp only [Option.bind_some, b2I, Bool.false_eq_true, if_false, if_true]
          rw [Int32.add_zero]
          rfl
        | true =>
          simp only [Option.bind_some, b2I, if_true]
          rw [if_neg (show ¬ (1 : Int32) = 0 by decide)]
          simp only [Option.bind_some]
          rw [nI_add]
      · try dsimp only
        unfold f_X11_number_L100
        rw [gi_n (by omega) (by omega), hp i hin]
        simp only [Option.bind_some]
        rw [if_pos (nI_le (Nat.le_refl _) (by omega))]
    unfold f_X11_number_L88
    rw [if_neg (nI_ge hin (by omega)), hl, gi_n (by omega) (by omega), hp i hin, nI_1]
    simp only [Option.bind_some]
    rw [one_shl (by omega), or_n]
    rfl
  · try dsimp only
    unfold f_X11_number_L88
    rw [if_pos (nI_le (Nat.le_refl n) (by omega))]
theorem leastBySets_n {n c : Nat} {R pN : Nat → Nat} {pr : Nat → Nat → Bool} {rests L : Nat → Int32} (h : RestsN n c pN R pr rests) (hz : pN (2 ^ n - 1) = 0) (hn : n ≤ 11) (hc : c ≤ 5) (hL0 : L 0 = nI (tN c n R 0)) : f_X11_leastBySets (nI n) L (nI c) = some (nI (R 0 + finN c n)) := by
  have hpos : 0 < 2 ^ n := Nat.pow_pos (by decide)
  obtain ⟨b1, b2'⟩ := tN_le h hn hpos
  have hp0 : pcN 0 n = 0 := by
    have e : ∀ k, pcN 0 k = 0 := fun k => by
      induction k with
      | zero => rfl
      | succ k ih => rw [pcN, ih]; simp
    exact e n
  unfold f_X11_leastBySets
  rw [show gi L 2048 (0 : Int32) = some (L 0) from gi_n (k := 0) (by omega) (by omega), hL0]
  simp only [Option.bind_some]
  by_cases h5 : c = 5
  · rw [if_pos (by rw [h5]; rfl)]
    by_cases hn0 : 0 < n
    · rw [if_neg (nI_nle hn0 (by omega))]
      have hfin : finN c n = 1 := by unfold finN; rw [if_pos ⟨h5, hn0⟩]
      rw [hfin]
      unfold tN
      rw [if_pos h5]
      by_cases hsh : n ≤ pcN 0 n + 1
      · rw [if_pos hsh, short_R h hz hn hpos hsh, if_neg (show ¬ (1 : Int32) ≤ nI 0 by decide)]
        rfl
      · rw [if_neg hsh, if_pos (show (1 : Int32) ≤ nI (R 0 + 1) from nI_le (a := 1) (by omega) (by omega))]
    · have : n = 0 := by omega
      subst this
      rw [if_pos (show nI 0 ≤ (0 : Int32) by decide)]
      unfold tN finN
      rw [if_pos h5, if_pos (by omega), if_neg (by omega), short_R h hz hn hpos (by omega)]
  · rw [if_neg (show ¬ nI c = (5 : Int32) from fun q => h5 ((nI_c (d := 5) (by omega) (by omega)).mp q))]
    unfold tN finN
    rw [if_neg h5, if_neg (fun q => h5 q.1)]
    rfl
