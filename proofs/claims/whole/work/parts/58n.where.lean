/-! LAYER 2: where -/
def PkI (P : Nat → Nat) (i m : Nat) (f : Int32) : Prop := (∀ j, j < i → P j ≤ m) ∧ ((m = 0 ∧ f = (-1 : Int32)) ∨ ∃ j, j < i ∧ f = nI j ∧ P j = m ∧ 0 < m ∧ ∀ j2, j2 < j → P j2 < m)
theorem PkI_step {P : Nat → Nat} {i m : Nat} {f : Int32} (h : PkI P i m f) : (P i ≤ m → PkI P (i + 1) m f) ∧ (m < P i → PkI P (i + 1) (P i) (nI i)) := by
  obtain ⟨h1, h2⟩ := h
  refine ⟨fun hle => ⟨fun j hj => ?_, ?_⟩, fun hlt => ⟨fun j hj => ?_, Or.inr ⟨i, by omega, rfl, rfl, by omega, fun j2 hj2 => ?_⟩⟩⟩
  · rcases Nat.lt_or_ge j i with q | q
    · exact h1 j q
    · have : j = i := by omega
      rw [this]; exact hle
  · rcases h2 with h2 | ⟨j, a1, a2⟩
    · exact Or.inl h2
    · exact Or.inr ⟨j, by omega, a2⟩
  · rcases Nat.lt_or_ge j i with q | q
    · have := h1 j q
      omega
    · have : j = i := by omega
      rw [this]; exact Nat.le_refl _
  · have := h1 j2 hj2
    omega
theorem peakC_n {n c : Nat} {F : Nat → Nat} {rd : Nat → Nat → Int32} {rN : Nat → Nat → Nat} {pr : Nat → Nat → Bool} {weights near behind posts : Nat → Int32} (hx : Cx n rd rN) (hv : VC n rd pr weights near behind) (hc : c = 1 ∨ c = 2 ∨ c = 5) (hp : ∀ j, j < n → posts j = nI (F j)) (hlt : ∀ j, j < n → F j < n) (hi : ∀ i j, i < n → j < n → F i = F j → i = j) : ∃ f, f_X2_placeOfPeak (nI n) weights near behind (nI n) posts (nI c) = some f ∧ PkI (fun j => priceN n rN (rdQ rd) pr c (setM F (j + 1))) n (jnN c (priceN n rN (rdQ rd) pr c) F n) f := by
  have hn := hx.1
  have hc3 : ¬ c = 3 := by omega
  have h : ∃ f, loopS (fun (s : Int32 × Int32 × Int32 × Int32 × Int32) => f_X2_placeOfPeak_L14 (nI c) (nI n) weights near behind (nI n) posts s.1 s.2.1 s.2.2.1 s.2.2.2.1 s.2.2.2.2) ((0 : Int32), (-1 : Int32), (0 : Int32), (0 : Int32), (0 : Int32)) = some f ∧ PkI (fun j => priceN n rN (rdQ rd) pr c (setM F (j + 1))) n (jnN c (priceN n rN (rdQ rd) pr c) F n) f := by
    refine loop_inv (fun i (s : Int32 × Int32 × Int32 × Int32 × Int32) => s.1 = nI (jnN c (priceN n rN (rdQ rd) pr c) F i) ∧ PkI (fun j => priceN n rN (rdQ rd) pr c (setM F (j + 1))) i (jnN c (priceN n rN (rdQ rd) pr c) F i) s.2.1 ∧ s.2.2.1 = priceM n rd pr c (setM F i) ∧ s.2.2.2.1 = nI (setM F i) ∧ s.2.2.2.2 = nI i) (fun f => PkI (fun j => priceN n rN (rdQ rd) pr c (setM F (j + 1))) n (jnN c (priceN n rN (rdQ rd) pr c) F n) f) n ?_ ?_ ⟨nI_0.symm, ⟨fun j hj => absurd hj (by omega), Or.inl ⟨rfl, rfl⟩⟩, price_0.symm, nI_0.symm, nI_0.symm⟩
    · rintro i ⟨s1, s2, s3, s4, s5⟩ hin ⟨i1, i2, i3, i4, i5⟩
      dsimp only at i1 i2 i3 i4 i5 ⊢
      subst i1 i3 i4 i5
      have hs : setM F i < 2 ^ 11 := setM_lt (fun j hj => by have := hlt j (by omega); omega)
      have hf := hlt i hin
      have hj := jnN_le (c := c) (pN := priceN n rN (rdQ rd) pr c) (F := F) (fun s => priceN_le hx) i
      have hle : i * 242000 ≤ 11 * 242000 := Nat.mul_le_mul_right _ (by omega)
      have hpl := priceN_le (c := c) (s := setM F (i + 1)) (qr := rdQ rd) (pr := pr) hx
      obtain ⟨st1, st2⟩ := PkI_step i2
      unfold f_X2_placeOfPeak_L14
      rw [if_neg (nI_ge hin (by omega)), gi_n (by omega) (by omega), hp i hin, nI_1]
      simp only [Option.bind_some]
      rw [priceWith_n hx hv (by omega) hs hf (setM_new hi hin) (fun _ _ => rfl), one_shl (by omega), or_n]
      simp only [Option.bind_some]
      rw [show setM F i ||| 2 ^ F i = setM F (i + 1) from rfl, priceN_eq hx, jnN, if_neg hc3]
      by_cases hcmp : priceN n rN (rdQ rd) pr c (setM F (i + 1)) ≤ jnN c (priceN n rN (rdQ rd) pr c) F i
      · rw [if_pos (nI_le hcmp (by omega)), show max (jnN c (priceN n rN (rdQ rd) pr c) F i) (priceN n rN (rdQ rd) pr c (setM F (i + 1))) = jnN c (priceN n rN (rdQ rd) pr c) F i by omega]
        exact ⟨_, rfl, rfl, st1 hcmp, rfl, rfl, rfl⟩
      · rw [if_neg (nI_ge (by omega) (by omega)), show max (jnN c (priceN n rN (rdQ rd) pr c) F i) (priceN n rN (rdQ rd) pr c (setM F (i + 1))) = priceN n rN (rdQ rd) pr c (setM F (i + 1)) by omega]
        exact ⟨_, rfl, rfl, st2 (by show _ < priceN n rN (rdQ rd) pr c (setM F (i + 1)); omega), rfl, rfl, rfl⟩
    · rintro ⟨s1, s2, s3, s4, s5⟩ ⟨i1, i2, i3, i4, i5⟩
      dsimp only at i1 i2 i3 i4 i5 ⊢
      subst i1 i3 i4 i5
      refine ⟨s2, ?_, i2⟩
      unfold f_X2_placeOfPeak_L14
      rw [if_pos (nI_le (Nat.le_refl n) (by omega))]
  obtain ⟨f, h1, h2⟩ := h
  refine ⟨f, ?_, h2⟩
  unfold f_X2_placeOfPeak
  rw [h1]
  rfl
theorem peakIn_n {n c M i : Nat} {F : Nat → Nat} {wide places weights pair row : Nat → Int32} {rN : Nat → Nat → Nat} (hx : Cx n (rdM wide places weights) rN) (hc : c = 1 ∨ c = 2 ∨ c = 5) (hp : ∀ j, j < n → row j = nI (F j)) (hlt : ∀ j, j < n → F j < n) (hin : i < n) (hM : M ≤ 10000000) : loopS (fun (s : Int32) => f_X11_where_L77 (nI c) (nI M) (nI (setM F i)) (nI i) (0 : Int32) (nI n) (nI n) wide places weights pair row s) (nI i + (1 : Int32)) = some (if priceN n rN (rdQ (rdM wide places weights)) (prQ pair) c (setM F (i + 1)) + (if c = 5 then 1 else 0) = M then .inr (nI i, (0 : Int32)) else .inl (nI (setM F (i + 1)), nI (i + 1))) := by
  have hn := hx.1
  have hs : setM F i < 2 ^ 11 := setM_lt (fun j hj => by have := hlt j (by omega); omega)
  have hf := hlt i hin
  have hpow : 2 ^ F i < 2 ^ 11 := Nat.pow_lt_pow_right (by decide) (by omega)
  have hor : setM F i ||| 2 ^ F i < 2 ^ 11 := Nat.or_lt_two_pow hs hpow
  have hpl := priceN_le (c := c) (s := setM F (i + 1)) (qr := rdQ (rdM wide places weights)) (pr := prQ pair) hx
  have he5 : (if c = 5 then 1 else 0) ≤ 1 := by split <;> omega
  have hc0 : ¬ nI c = (0 : Int32) := fun q => by have := (nI_c (d := 0) (by omega) (by omega)).mp q; omega
  have hstep : f_X11_where_L77 (nI c) (nI M) (nI (setM F i)) (nI i) (0 : Int32) (nI n) (nI n) wide places weights pair row (nI (i + 1)) = some (.inr (if priceN n rN (rdQ (rdM wide places weights)) (prQ pair) c (setM F (i + 1)) + (if c = 5 then 1 else 0) = M then .inr (nI i, (0 : Int32)) else .inl (nI (setM F (i + 1)), nI (i + 1)))) := by
    unfold f_X11_where_L77
    rw [gi_n (by omega) (by omega), hp i hin, if_neg hc0]
    simp only [Option.bind_some]
    rw [if_neg hc0, one_shl (by omega), or_n, costOfSet_n hx (by omega) hor, nI_1]
    simp only [Option.bind_some]
    rw [show setM F i ||| 2 ^ F i = setM F (i + 1) from rfl]
    by_cases h : priceN n rN (rdQ (rdM wide places weights)) (prQ pair) c (setM F (i + 1)) + (if c = 5 then 1 else 0) = M
    · rw [h, if_pos rfl, if_pos rfl]
      by_cases h2 : nI n ≤ nI (i + 1)
      · rw [if_pos h2]
      · rw [if_neg h2]
    · have hne : ¬ nI (priceN n rN (rdQ (rdM wide places weights)) (prQ pair) c (setM F (i + 1)) + (if c = 5 then 1 else 0)) = nI M := fun q => h ((nI_eq (by omega) (by omega)).mp q)
      rw [if_neg h, if_neg hne]
      by_cases h2 : nI n ≤ nI (i + 1)
      · rw [if_pos h2]
      · rw [if_neg h2]
  rw [loopS_eq, nI_1]
  try dsimp only
  rw [hstep]
  rfl
/-- the first place of which Q says so -/
theorem whereM_n {n c M : Nat} {F : Nat → Nat} {wide places weights pair row : Nat → Int32} {Q : Nat → Bool} (hn : n ≤ 11) (hin : ∀ i, i < n → loopS (fun (s : Int32) => f_X11_where_L77 (nI c) (nI M) (nI (setM F i)) (nI i) (0 : Int32) (nI n) (nI n) wide places weights pair row s) (nI i + (1 : Int32)) = some (if Q i then .inr (nI i, (0 : Int32)) else .inl (nI (setM F (i + 1)), nI (i + 1)))) {j : Nat} (hj : j < n) (h1 : Q j = true) (h2 : ∀ i, i < j → Q i = false) : loopS (fun (s : Int32 × Int32) => f_X11_where_L62 (nI c) (nI M) (0 : Int32) (nI n) (nI n) wide places weights pair row s.1 s.2) ((0 : Int32), (0 : Int32)) = some (nI j, (0 : Int32)) := by
  refine loop_go (fun i => (nI (setM F i), nI i)) j rfl (fun i hi => ?_) ?_
  · try dsimp only
    unfold f_X11_where_L62
    rw [if_neg (nI_ge (by omega) (by omega)), hin i (by omega), h2 i hi]
    rfl
  · try dsimp only
    unfold f_X11_where_L62
    rw [if_neg (nI_ge hj (by omega)), hin j hj, h1]
    rfl
theorem PkI_0 {P : Nat → Nat} {n : Nat} {f : Int32} (h : PkI P n 0 f) : f = (-1 : Int32) := by
  obtain ⟨-, ⟨-, q⟩ | ⟨j, -, -, -, j3, -⟩⟩ := h
  · exact q
  · omega
theorem wherePeak_n {n c m : Nat} {f : Int32} {F : Nat → Nat} {wide places weights pair row : Nat → Int32} {rN : Nat → Nat → Nat} (hx : Cx n (rdM wide places weights) rN) (hc : c = 1 ∨ c = 2 ∨ c = 5) (hp : ∀ j, j < n → row j = nI (F j)) (hlt : ∀ j, j < n → F j < n) (hm : m ≤ 5000000) (h : PkI (fun j => priceN n rN (rdQ (rdM wide places weights)) (prQ pair) c (setM F (j + 1))) n m f) (h0 : 0 < m) : loopS (fun (s : Int32 × Int32) => f_X11_where_L62 (nI c) (nI (m + (if c = 5 then 1 else 0))) (0 : Int32) (nI n) (nI n) wide places weights pair row s.1 s.2) ((0 : Int32), (0 : Int32)) = some (f, (0 : Int32)) := by
  obtain ⟨-, ⟨q, -⟩ | ⟨j, j1, rfl, j2, -, j4⟩⟩ := h
  · omega
  · dsimp only at j2 j4
    have he5 : (if c = 5 then 1 else 0) ≤ 1 := by split <;> omega
    refine whereM_n (F := F) (Q := fun i => decide (priceN n rN (rdQ (rdM wide places weights)) (prQ pair) c (setM F (i + 1)) = m)) hx.1 (fun i hi => ?_) j1 (decide_eq_true j2) (fun i hi => decide_eq_false (by have := j4 i hi; omega))
    rw [peakIn_n hx hc hp hlt hi (by omega)]
    show _ = some (if decide (priceN n rN (rdQ (rdM wide places weights)) (prQ pair) c (setM F (i + 1)) = m) = true then _ else _)
    by_cases q : priceN n rN (rdQ (rdM wide places weights)) (prQ pair) c (setM F (i + 1)) = m
    · have e1 : priceN n rN (rdQ (rdM wide places weights)) (prQ pair) c (setM F (i + 1)) + (if c = 5 then 1 else 0) = m + (if c = 5 then 1 else 0) := by rw [q]
      rw [if_pos e1, decide_eq_true q]
      rfl
    · have e1 : ¬ priceN n rN (rdQ (rdM wide places weights)) (prQ pair) c (setM F (i + 1)) + (if c = 5 then 1 else 0) = m + (if c = 5 then 1 else 0) := fun q2 => q (by omega)
      rw [if_neg e1, decide_eq_false q]
      rfl
def SpV (n a b x y : Nat) : Prop := x < y ∧ y < n ∧ (x < a ∨ (x = a ∧ y < b))
def SpI (w : Nat → Nat → Nat) (n a b L : Nat) (f : Int32) : Prop := (∀ x y, SpV n a b x y → w x y ≠ 0 → y - x ≤ L) ∧ ((L = 0 ∧ f = (-1 : Int32)) ∨ ∃ x, f = nI x ∧ 0 < L ∧ SpV n a b x (x + L) ∧ w x (x + L) ≠ 0 ∧ ∀ x2, x2 < x → w x2 (x2 + L) = 0)
theorem SpI_skip {w : Nat → Nat → Nat} {n a b L : Nat} {f : Int32} (h : SpI w n a b L f) (h2 : w a b = 0 ∨ b - a ≤ L) : SpI w n a (b + 1) L f := by
  obtain ⟨h3, h4⟩ := h
  refine ⟨fun x y hV hw => ?_, ?_⟩
  · unfold SpV at hV
    by_cases q : x = a ∧ y = b
    · obtain ⟨rfl, rfl⟩ := q
      rcases h2 with h2 | h2
      · exact absurd h2 hw
      · exact h2
    · exact h3 x y (by unfold SpV; omega) hw
  · rcases h4 with h4 | ⟨x, a1, a2, a3, a4⟩
    · exact Or.inl h4
    · exact Or.inr ⟨x, a1, a2, by unfold SpV at a3 ⊢; omega, a4⟩
theorem SpI_take {w : Nat → Nat → Nat} {n a b L : Nat} {f : Int32} (h : SpI w n a b L f) (hab : a < b) (hb : b < n) (hw : w a b ≠ 0) (hL : L < b - a) : SpI w n a (b + 1) (b - a) (nI a) := by
  obtain ⟨h3, -⟩ := h
  refine ⟨fun x y hV hw2 => ?_, Or.inr ⟨a, rfl, by omega, by unfold SpV; omega, by rw [show a + (b - a) = b by omega]; exact hw, fun x2 hx2 => ?_⟩⟩
  · unfold SpV at hV
    by_cases q : x = a ∧ y = b
    · omega
    · have := h3 x y (by unfold SpV; omega) hw2
      omega
  · rcases Nat.eq_zero_or_pos (w x2 (x2 + (b - a))) with q | q
    · exact q
    · have := h3 x2 (x2 + (b - a)) (by unfold SpV; omega) (by omega)
      omega
theorem SpI_next {w : Nat → Nat → Nat} {n a L : Nat} {f : Int32} (h : SpI w n a n L f) : SpI w n (a + 1) (a + 1 + 1) L f := by
  obtain ⟨h3, h4⟩ := h
  refine ⟨fun x y hV hw => h3 x y (by unfold SpV at hV ⊢; omega) hw, ?_⟩
  rcases h4 with h4 | ⟨x, a1, a2, a3, a4⟩
  · exact Or.inl h4
  · exact Or.inr ⟨x, a1, a2, by unfold SpV at a3 ⊢; omega, a4⟩
theorem spanIn_n {n a L : Nat} {f : Int32} {F : Nat → Nat} {rd : Nat → Nat → Int32} {rN : Nat → Nat → Nat} {weights posts : Nat → Int32} (hx : Cx n rd rN) (hw : ∀ a b, a < n → b < n → weights (11 * a + b) = rd a b) (hp : ∀ j, j < n → posts j = nI (F j)) (hlt : ∀ j, j < n → F j < n) (ha : a < n) (hL : L ≤ 11) (hI : SpI (fun a b => rN (F a) (F b)) n a (a + 1) L f) : ∃ (x : Int32 × Int32), loopS (fun (s : Int32 × Int32 × Int32) => f_X2_placeOfSpan_L22 (nI a) weights (nI n) posts s.1 s.2.1 s.2.2) (nI L, f, nI a + (1 : Int32)) = some x ∧ ∃ L2, L2 ≤ 11 ∧ x.1 = nI L2 ∧ SpI (fun a b => rN (F a) (F b)) n (a + 1) (a + 1 + 1) L2 x.2 := by
  have hn := hx.1
  refine loop_inv (fun k (s : Int32 × Int32 × Int32) => ∃ L2, L2 ≤ 11 ∧ s.1 = nI L2 ∧ SpI (fun a b => rN (F a) (F b)) n a (a + 1 + k) L2 s.2.1 ∧ s.2.2 = nI (a + 1 + k)) (fun (x : Int32 × Int32) => ∃ L2, L2 ≤ 11 ∧ x.1 = nI L2 ∧ SpI (fun a b => rN (F a) (F b)) n (a + 1) (a + 1 + 1) L2 x.2) (n - (a + 1)) ?_ ?_ ⟨L, hL, rfl, hI, nI_1 a⟩
  · rintro k ⟨s1, s2, s3⟩ hk ⟨L2, l1, l2, l3, l4⟩
    dsimp only at l2 l3 l4 ⊢
    subst l2 l4
    have hb : a + 1 + k < n := by omega
    obtain ⟨r1, r2⟩ := hx.2.1 (F a) (F (a + 1 + k)) (hlt a ha) (hlt _ hb)
    have f1 := hlt a ha
    have f2 := hlt _ hb
    unfold f_X2_placeOfSpan_L22
    rw [if_neg (nI_ge hb (by omega)), pk_sub (show a ≤ a + 1 + k by omega), nI_1]
    by_cases hs : a + 1 + k - a ≤ L2
    · rw [if_pos (nI_le hs (by omega))]
      exact ⟨_, rfl, L2, l1, rfl, SpI_skip l3 (Or.inr hs), rfl⟩
    · rw [if_neg (nI_ge (by omega) (by omega)), gi_n (by omega) (by omega), gi_n (by omega) (by omega), hp a ha, hp _ hb]
      simp only [Option.bind_some]
      rw [if_neg (show ¬ (1 : Int32) = 0 by decide), weightOf_n (by omega) (by omega), hw _ _ f1 f2, r1]
      simp only [Option.bind_some]
      by_cases h0 : rN (F a) (F (a + 1 + k)) = 0
      · rw [h0, if_pos (show nI 0 ≤ (0 : Int32) by decide)]
        exact ⟨_, rfl, L2, l1, rfl, SpI_skip l3 (Or.inl h0), rfl⟩
      · rw [if_neg (nI_nle (by omega) (by omega))]
        exact ⟨_, rfl, a + 1 + k - a, by omega, rfl, SpI_take (b := a + 1 + k) l3 (by omega) hb h0 (by omega), rfl⟩
  · rintro ⟨s1, s2, s3⟩ ⟨L2, l1, l2, l3, l4⟩
    dsimp only at l2 l3 l4 ⊢
    subst l2 l4
    refine ⟨(nI L2, s2), ?_, L2, l1, rfl, SpI_next (by rw [show a + 1 + (n - (a + 1)) = n by omega] at l3; exact l3)⟩
    unfold f_X2_placeOfSpan_L22
    rw [if_pos (nI_le (by omega) (by omega))]
theorem spanC_n {n : Nat} {F : Nat → Nat} {rd : Nat → Nat → Int32} {rN : Nat → Nat → Nat} {weights posts : Nat → Int32} (hx : Cx n rd rN) (hw : ∀ a b, a < n → b < n → weights (11 * a + b) = rd a b) (hp : ∀ j, j < n → posts j = nI (F j)) (hlt : ∀ j, j < n → F j < n) : ∃ f L, f_X2_placeOfSpan weights (nI n) posts = some f ∧ SpI (fun a b => rN (F a) (F b)) n n (n + 1) L f := by
  have hn := hx.1
  have h : ∃ f, loopS (fun (s : Int32 × Int32 × Int32) => f_X2_placeOfSpan_L7 weights (nI n) posts s.1 s.2.1 s.2.2) ((0 : Int32), (-1 : Int32), (0 : Int32)) = some f ∧ ∃ L, SpI (fun a b => rN (F a) (F b)) n n (n + 1) L f := by
    refine loop_inv (fun a (s : Int32 × Int32 × Int32) => ∃ L2, L2 ≤ 11 ∧ s.1 = nI L2 ∧ SpI (fun a b => rN (F a) (F b)) n a (a + 1) L2 s.2.1 ∧ s.2.2 = nI a) (fun f => ∃ L, SpI (fun a b => rN (F a) (F b)) n n (n + 1) L f) n ?_ ?_ ⟨0, by omega, nI_0.symm, ⟨fun x y hV => by unfold SpV at hV; omega, Or.inl ⟨rfl, rfl⟩⟩, nI_0.symm⟩
    · rintro a ⟨s1, s2, s3⟩ ha ⟨L2, l1, l2, l3, l4⟩
      dsimp only at l2 l3 l4 ⊢
      subst l2 l4
      obtain ⟨⟨x1, x2⟩, g1, L3, g2, g3, g4⟩ := spanIn_n hx hw hp hlt ha l1 l3
      dsimp only at g3 g4
      unfold f_X2_placeOfSpan_L7
      rw [if_neg (nI_ge ha (by omega)), g1, nI_1]
      exact ⟨_, rfl, L3, g2, g3, g4, rfl⟩
    · rintro ⟨s1, s2, s3⟩ ⟨L2, l1, l2, l3, l4⟩
      dsimp only at l2 l3 l4 ⊢
      subst l2 l4
      refine ⟨s2, ?_, L2, l3⟩
      unfold f_X2_placeOfSpan_L7
      rw [if_pos (nI_le (Nat.le_refl n) (by omega))]
  obtain ⟨f, h1, L, h2⟩ := h
  refine ⟨f, L, ?_, h2⟩
  unfold f_X2_placeOfSpan
  rw [h1]
  rfl
theorem fo_max_ge {f : Nat → Nat} : ∀ {n k : Nat}, k < n → f k ≤ fo (fun x y => max x y) f n
  | 0, k, h => absurd h (by omega)
  | n + 1, k, h => by
    rw [fo]
    rcases Nat.lt_or_ge k n with q | q
    · have := fo_max_ge (f := f) q
      omega
    · have : k = n := by omega
      subst this
      omega
theorem fo_max_att {f : Nat → Nat} : ∀ {n : Nat}, fo (fun x y => max x y) f n = 0 ∨ ∃ k, k < n ∧ fo (fun x y => max x y) f n = f k
  | 0 => Or.inl rfl
  | n + 1 => by
    rw [fo]
    rcases Nat.lt_or_ge (f n) (fo (fun x y => max x y) f n) with q | q
    · rcases fo_max_att (f := f) (n := n) with h | ⟨k, h1, h2⟩
      · omega
      · exact Or.inr ⟨k, by omega, by omega⟩
    · exact Or.inr ⟨n, by omega, by omega⟩
/-- the greatest span is what the row costs -/
theorem span_max {n L : Nat} {f : Int32} {w : Nat → Nat → Nat} (h : SpI w n n (n + 1) L f) : spanCost 0 n w n = L := by
  obtain ⟨h3, h4⟩ := h
  have hge : ∀ x y, x < y → y < n → w x y ≠ 0 → y - x ≤ spanCost 0 n w n := fun x y hxy hy hw => by
    have h1 : hC 0 n w x y ≤ fo (fun x y => max x y) (fun a => hC 0 n w a y) y := fo_max_ge (f := fun a => hC 0 n w a y) hxy
    have h2 : fo (fun x y => max x y) (fun a => hC 0 n w a y) y ≤ fo (fun x y => max x y) (fun b => fo (fun x y => max x y) (fun a => hC 0 n w a b) b) n := fo_max_ge (f := fun b => fo (fun x y => max x y) (fun a => hC 0 n w a b) b) hy
    have e : hC 0 n w x y = y - x := by
      unfold hC
      rw [if_neg (by decide), if_neg hw]
    rw [e] at h1
    exact Nat.le_trans h1 h2
  have hle : spanCost 0 n w n ≤ L := by
    rcases fo_max_att (f := fun b => fo (fun x y => max x y) (fun a => hC 0 n w a b) b) (n := n) with q | ⟨b, hb, q⟩
    · show fo (fun x y => max x y) (fun b => fo (fun x y => max x y) (fun a => hC 0 n w a b) b) n ≤ L
      omega
    · show fo (fun x y => max x y) (fun b => fo (fun x y => max x y) (fun a => hC 0 n w a b) b) n ≤ L
      rw [q]
      rcases fo_max_att (f := fun a => hC 0 n w a b) (n := b) with q2 | ⟨a, ha, q2⟩
      · omega
      · rw [q2]
        show hC 0 n w a b ≤ L
        unfold hC
        rw [if_neg (by decide)]
        by_cases h0 : w a b = 0
        · rw [if_pos h0]; omega
        · rw [if_neg h0]
          exact h3 a b (by unfold SpV; omega) h0
  rcases h4 with ⟨h4, -⟩ | ⟨x, -, a2, a3, a4, -⟩
  · omega
  · have := hge x (x + L) (by omega) (by unfold SpV at a3; omega) a4
    omega
theorem spanInM_n {n M i : Nat} {F : Nat → Nat} {wide places weights pair row : Nat → Int32} {rN : Nat → Nat → Nat} (hx : Cx n (rdM wide places weights) rN) (hp : ∀ j, j < n → row j = nI (F j)) (hlt : ∀ j, j < n → F j < n) (hin : i < n) (hM : 0 < M) (hM2 : M ≤ 10000000) : loopS (fun (s : Int32) => f_X11_where_L77 (nI 0) (nI M) (nI (setM F i)) (nI i) (0 : Int32) (nI n) (nI n) wide places weights pair row s) (nI i + (1 : Int32)) = some (if (decide (i + M < n) && decide (rN (F i) (F (i + M)) ≠ 0)) = true then .inr (nI i, (0 : Int32)) else .inl (nI (setM F (i + 1)), nI (i + 1))) := by
  have hn := hx.1
  have hs : setM F i < 2 ^ 11 := setM_lt (fun j hj => by have := hlt j (by omega); omega)
  have hf := hlt i hin
  have c0 : nI 0 = (0 : Int32) := rfl
  obtain ⟨v, h1, h2⟩ := loop_or (step := fun (s : Int32) => f_X11_where_L77 (nI 0) (nI M) (nI (setM F i)) (nI i) (0 : Int32) (nI n) (nI n) wide places weights pair row s) (fun k s => s = nI (i + 1 + k) ∧ ∀ b, i < b → b < i + 1 + k → rN (F i) (F b) ≠ 0 → b - i ≠ M) (fun v => v = if (decide (i + M < n) && decide (rN (F i) (F (i + M)) ≠ 0)) = true then .inr (nI i, (0 : Int32)) else .inl (nI (setM F (i + 1)), nI (i + 1))) (n - (i + 1)) (s := nI i + (1 : Int32)) (by
    rintro k s hk ⟨rfl, hs2⟩
    try dsimp only
    have hb : i + 1 + k < n := by omega
    obtain ⟨r1, r2⟩ := hx.2.1 (F i) (F (i + 1 + k)) hf (hlt _ hb)
    have f2 := hlt _ hb
    unfold f_X11_where_L77
    rw [if_neg (nI_ge hb (by omega)), if_pos c0, gi_n (by omega) (by omega), gi_n (by omega) (by omega), hp i hin, hp _ hb]
    simp only [Option.bind_some]
    rw [roadOf_n (by omega) (by omega), r1, pk_sub (show i ≤ i + 1 + k by omega), nI_1]
    simp only [Option.bind_some]
    have hext : (rN (F i) (F (i + 1 + k)) ≠ 0 → i + 1 + k - i ≠ M) → ∀ b, i < b → b < i + 1 + (k + 1) → rN (F i) (F b) ≠ 0 → b - i ≠ M := fun h b hb1 hb2 => by
      rcases Nat.lt_or_ge b (i + 1 + k) with q | q
      · exact hs2 b hb1 q
      · have : b = i + 1 + k := by omega
        subst this
        exact h
    by_cases h0 : rN (F i) (F (i + 1 + k)) = 0
    · rw [h0, if_pos (show nI 0 ≤ (0 : Int32) by decide)]
      exact Or.inl ⟨_, rfl, rfl, hext (fun q => absurd h0 q)⟩
    · rw [if_neg (nI_nle (by omega) (by omega))]
      by_cases hm : i + 1 + k - i = M
      · rw [if_pos (by rw [hm])]
        refine Or.inr ⟨_, rfl, ?_⟩
        rw [decide_eq_true (show i + M < n by omega), decide_eq_true (show rN (F i) (F (i + M)) ≠ 0 by rw [← hm, show i + (i + 1 + k - i) = i + 1 + k by omega]; exact h0)]
        rfl
      · rw [if_neg (fun q => hm ((nI_eq (by omega) (by omega)).mp q))]
        exact Or.inl ⟨_, rfl, rfl, hext (fun _ => hm)⟩) (by
    rintro s ⟨rfl, hs2⟩
    try dsimp only
    unfold f_X11_where_L77
    rw [if_pos (nI_le (by omega) (by omega)), gi_n (by omega) (by omega), hp i hin]
    simp only [Option.bind_some]
    rw [if_pos c0, one_shl (by omega), or_n, nI_1]
    refine ⟨_, rfl, ?_⟩
    have hno : (decide (i + M < n) && decide (rN (F i) (F (i + M)) ≠ 0)) = false := by
      by_cases q : i + M < n
      · by_cases q2 : rN (F i) (F (i + M)) ≠ 0
        · exact absurd (show i + M - i = M by omega) (hs2 (i + M) (by omega) (by omega) q2)
        · rw [decide_eq_false q2, Bool.and_false]
      · rw [decide_eq_false q, Bool.false_and]
    rw [hno]
    rfl) ⟨nI_1 i, fun b hb1 hb2 => absurd hb2 (by omega)⟩
  rw [h1, h2]
theorem l2_where (x_x_net_posts : Int32) (x_x_net_pairs : Int32) (x_x_net_widths : Nat → Int32) (x_x_net_lengths : Nat → Int32) (x_x_net_told : Nat → Int32) (x_x_net_behind : Nat → Int32) (x_x_view_posts : Int32) (x_x_view_roads : Int32) (x_x_view_weight : Int32) (x_x_view_weights : Nat → Int32) (x_x_view_near : Nat → Int32) (x_x_view_behind : Nat → Int32) (x_x_view_ahead : Nat → Int32) (x_x_history_oldest : Int32) (x_x_history_size : Int32) (x_x_history_kept_posts : Nat → Int32) (x_x_history_kept_pairs : Nat → Int32) (x_x_history_kept_widths : Nat → Nat → Int32) (x_x_history_kept_lengths : Nat → Nat → Int32) (x_x_history_kept_told : Nat → Nat → Int32) (x_x_history_kept_behind : Nat → Nat → Int32) (x_x_hand_size : Int32) (x_x_hand_posts : Nat → Int32) (x_x_trial_size : Int32) (x_x_trial_posts : Nat → Int32) (x_x_bags_size : Int32) (x_x_bags_sets : Nat → Int32) (x_x_chase_size : Int32) (x_x_chase_guarded : Int32) (x_x_chase_most : Int32) (x_x_chase_again : Int32) (x_x_chase_idle : Int32) (x_x_chase_moves : Nat → Int32) (x_x_chase_foul : Nat → Int32) (x_x_sets_solvedFor : Int32) (x_x_sets_lowest : Int32) (x_x_sets_total : Int32) (x_x_sets_pricedFor : Int32) (x_x_sets_prices : Nat → Int32) (x_x_sets_rests : Nat → Int32) (x_x_sets_ways : Nat → Int32) (x_x_trials_solvedFor : Int32) (x_x_trials_lowest : Int32) (x_x_trials_total : Int32) (x_x_trials_found : Nat → Int32) (x_x_trials_row_size : Int32) (x_x_trials_row_posts : Nat → Int32) (x_m_thrown : Int32) (x_m_posts : Int32) (x_m_pairs : Int32) (x_m_keptEnd : Int32) (x_m_kept : Int32) (x_m_many : Int32) (x_m_bags : Int32) (x_m_moves : Int32) (x_m_pen : Int32) (x_m_savedMany : Int32) (x_m_leastRow : Int32) (x_m_bestRows : Int32) (x_m_askedRow : Int32) (x_m_rankOfSaved : Int32) (x_m_wallSet : Int32) (x_m_fouledAgain : Int32) (x_m_wide : Nat → Int32) (x_m_places : Nat → Int32) (x_m_weights : Nat → Int32) (x_m_pair : Nat → Int32) (x_m_old : Nat → Int32) (x_m_row : Nat → Int32) (x_m_bag : Nat → Int32) (x_m_hunt : Nat → Int32) (x_m_behind : Nat → Int32) (x_m_least : Nat → Int32) (x_m_ways : Nat → Int32) (x_m_saved : Nat → Int32) (x_m_kth : Nat → Int32) (x_m_clean : Nat → Int32) (a1 : Int32) (h : Rel x_x_net_posts x_x_net_pairs x_x_net_widths x_x_net_lengths x_x_net_told x_x_net_behind x_x_view_posts x_x_view_roads x_x_view_weight x_x_view_weights x_x_view_near x_x_view_behind x_x_view_ahead x_x_history_oldest x_x_history_size x_x_history_kept_posts x_x_history_kept_pairs x_x_history_kept_widths x_x_history_kept_lengths x_x_history_kept_told x_x_history_kept_behind x_x_hand_size x_x_hand_posts x_x_trial_size x_x_trial_posts x_x_bags_size x_x_bags_sets x_x_chase_size x_x_chase_guarded x_x_chase_most x_x_chase_again x_x_chase_idle x_x_chase_moves x_x_chase_foul x_x_sets_solvedFor x_x_sets_lowest x_x_sets_total x_x_sets_pricedFor x_x_sets_prices x_x_sets_rests x_x_sets_ways x_x_trials_solvedFor x_x_trials_lowest x_x_trials_total x_x_trials_found x_x_trials_row_size x_x_trials_row_posts x_m_thrown x_m_posts x_m_pairs x_m_keptEnd x_m_kept x_m_many x_m_bags x_m_moves x_m_pen x_m_savedMany x_m_leastRow x_m_bestRows x_m_askedRow x_m_rankOfSaved x_m_wallSet x_m_fouledAgain x_m_wide x_m_places x_m_weights x_m_pair x_m_old x_m_row x_m_bag x_m_hunt x_m_behind x_m_least x_m_ways x_m_saved x_m_kth x_m_clean) : ∃ (r : Int32) (o_m_thrown : Int32), f_X10_where x_x_net_posts x_x_view_posts x_x_view_weights x_x_view_near x_x_view_behind x_x_hand_size x_x_hand_posts a1 = some r ∧ f_X11_where x_m_thrown x_m_posts x_m_many x_m_wide x_m_places x_m_weights x_m_pair x_m_row a1 = some (r, o_m_thrown) ∧ Rel x_x_net_posts x_x_net_pairs x_x_net_widths x_x_net_lengths x_x_net_told x_x_net_behind x_x_view_posts x_x_view_roads x_x_view_weight x_x_view_weights x_x_view_near x_x_view_behind x_x_view_ahead x_x_history_oldest x_x_history_size x_x_history_kept_posts x_x_history_kept_pairs x_x_history_kept_widths x_x_history_kept_lengths x_x_history_kept_told x_x_history_kept_behind x_x_hand_size x_x_hand_posts x_x_trial_size x_x_trial_posts x_x_bags_size x_x_bags_sets x_x_chase_size x_x_chase_guarded x_x_chase_most x_x_chase_again x_x_chase_idle x_x_chase_moves x_x_chase_foul x_x_sets_solvedFor x_x_sets_lowest x_x_sets_total x_x_sets_pricedFor x_x_sets_prices x_x_sets_rests x_x_sets_ways x_x_trials_solvedFor x_x_trials_lowest x_x_trials_total x_x_trials_found x_x_trials_row_size x_x_trials_row_posts o_m_thrown x_m_posts x_m_pairs x_m_keptEnd x_m_kept x_m_many x_m_bags x_m_moves x_m_pen x_m_savedMany x_m_leastRow x_m_bestRows x_m_askedRow x_m_rankOfSaved x_m_wallSet x_m_fouledAgain x_m_wide x_m_places x_m_weights x_m_pair x_m_old x_m_row x_m_bag x_m_hunt x_m_behind x_m_least x_m_ways x_m_saved x_m_kth x_m_clean := by
  obtain ⟨n, h1, h2, h3, h4, h5, h6, h7, h8⟩ := h
  have hn : n ≤ 11 := h1.1
  have ep := h1.2.1
  have em := h1.2.2.1
  subst ep
  subst em
  have d10 : ¬ (1 : Int32) = 0 := by decide
  have ev := h2.1
  obtain ⟨k, F, hk, e1, e2, e3, e4, e5⟩ := RowR_nums h4
  have hcs : a1 = nI 0 ∨ a1 = nI 1 ∨ a1 = nI 2 ∨ a1 = nI 5 ∨ (¬ a1 = 0 ∧ ¬ a1 = 1 ∧ ¬ a1 = 2 ∧ ¬ a1 = 5) := by
    by_cases q0 : a1 = 0
    · exact Or.inl q0
    · by_cases q1 : a1 = 1
      · exact Or.inr (Or.inl q1)
      · by_cases q2 : a1 = 2
        · exact Or.inr (Or.inr (Or.inl q2))
        · by_cases q5 : a1 = 5
          · exact Or.inr (Or.inr (Or.inr (Or.inl q5)))
          · exact Or.inr (Or.inr (Or.inr (Or.inr ⟨q0, q1, q2, q5⟩)))
  rcases hcs with h | h | h | h | ⟨q0, q1, q2, q5⟩
  · subst h
    have p2 : f_X11_isCost (nI 0) = some 1 := by rcases isCost_n (nI 0) with ⟨_, _, _, _, q⟩ | ⟨_, _, q⟩; exact q; exact absurd q (by decide)
    cases hw : (decide (k = n) && allLt F n k) with
    | false =>
      refine ⟨(-4 : Int32), 0, ?_, ?_, Rel_mk h1 h2 h3 h4 h5 h6 h7 h8⟩
      · unfold f_X10_where
        rw [e1, isWholeC_n hk hn e3, hw]
        rfl
      · unfold f_X11_where
        rw [p2]
        simp only [Option.bind_some, if_neg d10]
        rw [if_neg (show ¬ nI 0 = (3 : Int32) by decide), if_neg (show ¬ nI 0 = (4 : Int32) by decide), e2, isWholeM_n hk hn e4 e5, hw]
        rfl
    | true =>
      have hw2 := hw
      rw [Bool.and_eq_true, decide_eq_true_eq, allLt_iff] at hw2
      obtain ⟨hkn, hlt⟩ := hw2
      subst hkn
      obtain ⟨f, L, hf1, hf2⟩ := spanC_n (Cx_of h1) (VC_of hn h2 (NetR_pr h1)).1 (fun j hj => (e3 j hj).1) hlt
      have hcost := costM_n (c := 0) (pair := x_m_pair) (Cx_of h1) (by decide) (fun j hj => (e4 j hj).1) hlt e5
      have hcl := costN_le (c := 0) (qr := (rdQ (rdM x_m_wide x_m_places x_m_weights))) (pr := prQ x_m_pair) (Cx_of h1) hlt
      rw [show costN 0 k (fun x y => (rdM x_m_wide x_m_places x_m_weights x y).toNatClampNeg) (rdQ (rdM x_m_wide x_m_places x_m_weights)) (prQ x_m_pair) F = spanCost 0 k (fun a b => (fun x y => (rdM x_m_wide x_m_places x_m_weights x y).toNatClampNeg) (F a) (F b)) k from rfl, span_max hf2] at hcost hcl
      refine ⟨f, 0, ?_, ?_, Rel_mk h1 h2 h3 h4 h5 h6 h7 h8⟩
      · unfold f_X10_where
        rw [e1, isWholeC_n hk hn e3, hw, hf1]
        rfl
      · unfold f_X11_where
        rw [p2]
        simp only [Option.bind_some, if_neg d10]
        rw [if_neg (show ¬ nI 0 = (3 : Int32) by decide), if_neg (show ¬ nI 0 = (4 : Int32) by decide), e2, isWholeM_n hk hn e4 e5, hw]
        simp only [Option.bind_some, b2I, if_true, if_neg d10]
        rw [hcost]
        simp only [Option.bind_some]
        rcases hf2 with ⟨q1, ⟨rfl, rfl⟩ | ⟨x, rfl, q3, q4, q5, q6⟩⟩
        · rw [if_pos (show nI 0 = 0 from rfl)]
        · rw [if_neg (nI_ne0 q3 (by omega)), if_neg (show ¬ nI 0 = (5 : Int32) by decide)]
          unfold SpV at q4
          exact whereM_n (F := F) (Q := fun i => decide (i + L < k) && decide ((fun x y => (rdM x_m_wide x_m_places x_m_weights x y).toNatClampNeg) (F i) (F (i + L)) ≠ 0)) hn (fun i hi => spanInM_n (Cx_of h1) (fun j hj => (e4 j hj).1) hlt hi q3 (by omega)) (by omega) (by rw [decide_eq_true (show x + L < k by omega), decide_eq_true q5]; rfl) (fun i hi => by rw [decide_eq_false (show ¬ _ ≠ 0 from fun q => q (q6 i hi)), Bool.and_false])
  · subst h
    have p2 : f_X11_isCost (nI 1) = some 1 := by rcases isCost_n (nI 1) with ⟨_, _, _, _, q⟩ | ⟨_, _, q⟩; exact q; exact absurd q (by decide)
    cases hw : (decide (k = n) && allLt F n k) with
    | false =>
      refine ⟨(-4 : Int32), 0, ?_, ?_, Rel_mk h1 h2 h3 h4 h5 h6 h7 h8⟩
      · unfold f_X10_where
        rw [e1, isWholeC_n hk hn e3, hw]
        rfl
      · unfold f_X11_where
        rw [p2]
        simp only [Option.bind_some, if_neg d10]
        rw [if_neg (show ¬ nI 1 = (3 : Int32) by decide), if_neg (show ¬ nI 1 = (4 : Int32) by decide), e2, isWholeM_n hk hn e4 e5, hw]
        rfl
    | true =>
      have hw2 := hw
      rw [Bool.and_eq_true, decide_eq_true_eq, allLt_iff] at hw2
      obtain ⟨hkn, hlt⟩ := hw2
      subst hkn
      obtain ⟨f, hf1, hf2⟩ := peakC_n (c := 1) (Cx_of h1) (VC_of hn h2 (NetR_pr h1)) (by decide) (fun j hj => (e3 j hj).1) hlt e5
      have hcost := costM_n (c := 1) (pair := x_m_pair) (Cx_of h1) (by decide) (fun j hj => (e4 j hj).1) hlt e5
      have hcl := costN_le (c := 1) (qr := (rdQ (rdM x_m_wide x_m_places x_m_weights))) (pr := prQ x_m_pair) (Cx_of h1) hlt
      rw [show costN 1 k (fun x y => (rdM x_m_wide x_m_places x_m_weights x y).toNatClampNeg) (rdQ (rdM x_m_wide x_m_places x_m_weights)) (prQ x_m_pair) F = jnN 1 (priceN k (fun x y => (rdM x_m_wide x_m_places x_m_weights x y).toNatClampNeg) (rdQ (rdM x_m_wide x_m_places x_m_weights)) (prQ x_m_pair) 1) F k + finN 1 k from rfl] at hcost hcl
      have hM := fun h0 => wherePeak_n (c := 1) (Cx_of h1) (by decide) (fun j hj => (e4 j hj).1) hlt (by omega) hf2 h0
      generalize jnN 1 (priceN k (fun x y => (rdM x_m_wide x_m_places x_m_weights x y).toNatClampNeg) (rdQ (rdM x_m_wide x_m_places x_m_weights)) (prQ x_m_pair) 1) F k = m at hf2 hcost hcl hM
      refine ⟨f, 0, ?_, ?_, Rel_mk h1 h2 h3 h4 h5 h6 h7 h8⟩
      · unfold f_X10_where
        rw [e1, isWholeC_n hk hn e3, hw, ev, hf1]
        rfl
      · unfold f_X11_where
        rw [p2]
        simp only [Option.bind_some, if_neg d10]
        rw [if_neg (show ¬ nI 1 = (3 : Int32) by decide), if_neg (show ¬ nI 1 = (4 : Int32) by decide), e2, isWholeM_n hk hn e4 e5, hw]
        simp only [Option.bind_some, b2I, if_true, if_neg d10]
        rw [hcost]
        simp only [Option.bind_some]
        rcases Nat.eq_zero_or_pos m with hm0 | hm0
        · subst hm0
          rw [PkI_0 hf2, if_pos (show nI (0 + finN 1 k) = 0 from rfl)]
        · rw [if_neg (nI_ne0 (by omega) (by omega)), if_neg (show ¬ nI 1 = (5 : Int32) by decide)]
          exact hM hm0
  · subst h
    have p2 : f_X11_isCost (nI 2) = some 1 := by rcases isCost_n (nI 2) with ⟨_, _, _, _, q⟩ | ⟨_, _, q⟩; exact q; exact absurd q (by decide)
    cases hw : (decide (k = n) && allLt F n k) with
    | false =>
      refine ⟨(-4 : Int32), 0, ?_, ?_, Rel_mk h1 h2 h3 h4 h5 h6 h7 h8⟩
      · unfold f_X10_where
        rw [e1, isWholeC_n hk hn e3, hw]
        rfl
      · unfold f_X11_where
        rw [p2]
        simp only [Option.bind_some, if_neg d10]
        rw [if_neg (show ¬ nI 2 = (3 : Int32) by decide), if_neg (show ¬ nI 2 = (4 : Int32) by decide), e2, isWholeM_n hk hn e4 e5, hw]
        rfl
    | true =>
      have hw2 := hw
      rw [Bool.and_eq_true, decide_eq_true_eq, allLt_iff] at hw2
      obtain ⟨hkn, hlt⟩ := hw2
      subst hkn
      obtain ⟨f, hf1, hf2⟩ := peakC_n (c := 2) (Cx_of h1) (VC_of hn h2 (NetR_pr h1)) (by decide) (fun j hj => (e3 j hj).1) hlt e5
      have hcost := costM_n (c := 2) (pair := x_m_pair) (Cx_of h1) (by decide) (fun j hj => (e4 j hj).1) hlt e5
      have hcl := costN_le (c := 2) (qr := (rdQ (rdM x_m_wide x_m_places x_m_weights))) (pr := prQ x_m_pair) (Cx_of h1) hlt
      rw [show costN 2 k (fun x y => (rdM x_m_wide x_m_places x_m_weights x y).toNatClampNeg) (rdQ (rdM x_m_wide x_m_places x_m_weights)) (prQ x_m_pair) F = jnN 2 (priceN k (fun x y => (rdM x_m_wide x_m_places x_m_weights x y).toNatClampNeg) (rdQ (rdM x_m_wide x_m_places x_m_weights)) (prQ x_m_pair) 2) F k + finN 2 k from rfl] at hcost hcl
      have hM := fun h0 => wherePeak_n (c := 2) (Cx_of h1) (by decide) (fun j hj => (e4 j hj).1) hlt (by omega) hf2 h0
      generalize jnN 2 (priceN k (fun x y => (rdM x_m_wide x_m_places x_m_weights x y).toNatClampNeg) (rdQ (rdM x_m_wide x_m_places x_m_weights)) (prQ x_m_pair) 2) F k = m at hf2 hcost hcl hM
      refine ⟨f, 0, ?_, ?_, Rel_mk h1 h2 h3 h4 h5 h6 h7 h8⟩
      · unfold f_X10_where
        rw [e1, isWholeC_n hk hn e3, hw, ev, hf1]
        rfl
      · unfold f_X11_where
        rw [p2]
        simp only [Option.bind_some, if_neg d10]
        rw [if_neg (show ¬ nI 2 = (3 : Int32) by decide), if_neg (show ¬ nI 2 = (4 : Int32) by decide), e2, isWholeM_n hk hn e4 e5, hw]
        simp only [Option.bind_some, b2I, if_true, if_neg d10]
        rw [hcost]
        simp only [Option.bind_some]
        rcases Nat.eq_zero_or_pos m with hm0 | hm0
        · subst hm0
          rw [PkI_0 hf2, if_pos (show nI (0 + finN 2 k) = 0 from rfl)]
        · rw [if_neg (nI_ne0 (by omega) (by omega)), if_neg (show ¬ nI 2 = (5 : Int32) by decide)]
          exact hM hm0
  · subst h
    have p2 : f_X11_isCost (nI 5) = some 1 := by rcases isCost_n (nI 5) with ⟨_, _, _, _, q⟩ | ⟨_, _, q⟩; exact q; exact absurd q (by decide)
    cases hw : (decide (k = n) && allLt F n k) with
    | false =>
      refine ⟨(-4 : Int32), 0, ?_, ?_, Rel_mk h1 h2 h3 h4 h5 h6 h7 h8⟩
      · unfold f_X10_where
        rw [e1, isWholeC_n hk hn e3, hw]
        rfl
      · unfold f_X11_where
        rw [p2]
        simp only [Option.bind_some, if_neg d10]
        rw [if_neg (show ¬ nI 5 = (3 : Int32) by decide), if_neg (show ¬ nI 5 = (4 : Int32) by decide), e2, isWholeM_n hk hn e4 e5, hw]
        rfl
    | true =>
      have hw2 := hw
      rw [Bool.and_eq_true, decide_eq_true_eq, allLt_iff] at hw2
      obtain ⟨hkn, hlt⟩ := hw2
      subst hkn
      obtain ⟨f, hf1, hf2⟩ := peakC_n (c := 5) (Cx_of h1) (VC_of hn h2 (NetR_pr h1)) (by decide) (fun j hj => (e3 j hj).1) hlt e5
      have hcost := costM_n (c := 5) (pair := x_m_pair) (Cx_of h1) (by decide) (fun j hj => (e4 j hj).1) hlt e5
      have hcl := costN_le (c := 5) (qr := (rdQ (rdM x_m_wide x_m_places x_m_weights))) (pr := prQ x_m_pair) (Cx_of h1) hlt
      rw [show costN 5 k (fun x y => (rdM x_m_wide x_m_places x_m_weights x y).toNatClampNeg) (rdQ (rdM x_m_wide x_m_places x_m_weights)) (prQ x_m_pair) F = jnN 5 (priceN k (fun x y => (rdM x_m_wide x_m_places x_m_weights x y).toNatClampNeg) (rdQ (rdM x_m_wide x_m_places x_m_weights)) (prQ x_m_pair) 5) F k + finN 5 k from rfl] at hcost hcl
      have hM := fun h0 => wherePeak_n (c := 5) (Cx_of h1) (by decide) (fun j hj => (e4 j hj).1) hlt (by omega) hf2 h0
      generalize jnN 5 (priceN k (fun x y => (rdM x_m_wide x_m_places x_m_weights x y).toNatClampNeg) (rdQ (rdM x_m_wide x_m_places x_m_weights)) (prQ x_m_pair) 5) F k = m at hf2 hcost hcl hM
      refine ⟨f, 0, ?_, ?_, Rel_mk h1 h2 h3 h4 h5 h6 h7 h8⟩
      · unfold f_X10_where
        rw [e1, isWholeC_n hk hn e3, hw, ev, hf1]
        rfl
      · unfold f_X11_where
        rw [p2]
        simp only [Option.bind_some, if_neg d10]
        rw [if_neg (show ¬ nI 5 = (3 : Int32) by decide), if_neg (show ¬ nI 5 = (4 : Int32) by decide), e2, isWholeM_n hk hn e4 e5, hw]
        simp only [Option.bind_some, b2I, if_true, if_neg d10]
        rw [hcost]
        simp only [Option.bind_some]
        rcases Nat.eq_zero_or_pos m with hm0 | hm0
        · subst hm0
          rw [PkI_0 hf2]
          by_cases hk0 : 0 < k
          · rw [show finN 5 k = 1 by unfold finN; rw [if_pos ⟨rfl, hk0⟩], if_neg (show ¬ nI (0 + 1) = 0 by decide), if_pos (show nI 5 = (5 : Int32) from rfl), if_pos (show nI (0 + 1) = (1 : Int32) from rfl)]
          · rw [show finN 5 k = 0 by unfold finN; rw [if_neg (fun q => hk0 q.2)], if_pos (show nI (0 + 0) = 0 by decide)]
        · have hk0 : 0 < k := by
            obtain ⟨-, ⟨q, -⟩ | ⟨j, j1, -⟩⟩ := hf2
            · omega
            · omega
          rw [show finN 5 k = 1 by unfold finN; rw [if_pos ⟨rfl, hk0⟩], if_neg (nI_ne0 (by omega) (by omega)), if_pos (show nI 5 = (5 : Int32) from rfl), if_neg (show ¬ nI (m + 1) = (1 : Int32) from fun q => by have := (nI_eq (b := 1) (by omega) (by decide)).mp q; omega)]
          exact hM hm0
  · refine ⟨(-3 : Int32), 0, ?_, ?_, Rel_mk h1 h2 h3 h4 h5 h6 h7 h8⟩
    · unfold f_X10_where
      rw [if_neg q0, if_neg q1, if_neg q2, if_neg q5]
    · unfold f_X11_where
      rcases isCost_n a1 with ⟨c, hc, rfl, p1, p2⟩ | ⟨p1, p2, -⟩
      · rw [p2]
        simp only [Option.bind_some, if_neg d10]
        rcases (show c = 0 ∨ c = 1 ∨ c = 2 ∨ c = 3 ∨ c = 4 ∨ c = 5 by omega) with rfl | rfl | rfl | rfl | rfl | rfl
        · exact absurd rfl q0
        · exact absurd rfl q1
        · exact absurd rfl q2
        · rfl
        · rfl
        · exact absurd rfl q5
      · rw [p2]
        rfl
