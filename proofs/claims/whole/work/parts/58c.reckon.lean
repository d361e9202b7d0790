/-! LAYER 2: the view, reckoned anew -/
def vis (n a b x y : Nat) : Bool := decide (x < y ∧ y < n ∧ (x < a ∨ (x = a ∧ y < b)))
def vis2 (n a b x y : Nat) : Bool := vis n a b x y || vis n a b y x
theorem vis2_old {n a b x y : Nat} (h : b ≤ a ∨ ((x ≠ a ∨ y ≠ b) ∧ (x ≠ b ∨ y ≠ a))) : vis2 n a (b + 1) x y = vis2 n a b x y := by
  unfold vis2 vis
  congr 1
  · exact decide_eq_decide.mpr (by omega)
  · exact decide_eq_decide.mpr (by omega)
theorem vis2_new {n a b x y : Nat} (ha : a < b) (hb : b < n) (h : (x = a ∧ y = b) ∨ (x = b ∧ y = a)) : vis2 n a (b + 1) x y = true := by
  unfold vis2 vis
  rw [Bool.or_eq_true, decide_eq_true_eq, decide_eq_true_eq]
  omega
theorem vis2_end {n x y : Nat} : vis2 n n 0 x y = decide (x ≠ y ∧ x < n ∧ y < n) := by
  unfold vis2 vis
  rw [← Bool.decide_or]
  exact decide_eq_decide.mpr (by omega)
theorem vis2_next {n a x y : Nat} : vis2 n a n x y = vis2 n (a + 1) 0 x y := by
  unfold vis2 vis
  congr 1
  · exact decide_eq_decide.mpr (by omega)
  · exact decide_eq_decide.mpr (by omega)
theorem vis2_0 {n x y : Nat} : vis2 n 0 0 x y = false := by
  unfold vis2 vis
  rw [Bool.or_eq_false_iff, decide_eq_false_iff_not, decide_eq_false_iff_not]
  omega
theorem mkB_or {Q R : Nat → Bool} {p : Nat} (hp : p < 11) (h : ∀ y, y < 11 → R y = (Q y || decide (p = y))) : mkB Q 11 ||| 2 ^ p = mkB R 11 := by
  apply Nat.eq_of_testBit_eq
  intro i
  rw [tb_or, mkB_tb, mkB_tb]
  by_cases hi : i < 11
  · rw [h i hi, decide_eq_true hi, Bool.true_and, Bool.true_and]
  · rw [decide_eq_false hi, decide_eq_false (show ¬ p = i by omega)]
    rfl
/-- what stands after the rows below a, and of row a the places below b -/
def RkI (n : Nat) (rd : Nat → Nat → Int32) (pr : Nat → Nat → Bool) (a b : Nat) (roads weight : Int32) (weights near ahead : Nat → Int32) : Prop :=
  roads = nI (roadsM rd n a + roadsRow rd a b) ∧
  weight = sumI (fun x => sumI (fun y => if x < y then rd x y else 0) n) a + sumI (fun y => if a < y then rd a y else 0) b ∧
  (∀ x y, x < 11 → y < 11 → weights (11 * x + y) = if vis2 n a b x y then rd x y else 0) ∧
  (∀ x, x < 11 → near x = nI (mkB (fun y => vis2 n a b x y && rdQ rd x y) 11)) ∧
  ∀ y, y < 11 → ahead y = nI (mkB (fun x => decide (x < a ∨ (x = a ∧ y < b)) && pr x y) 11)
theorem rdQ_f {rd : Nat → Nat → Int32} {a b : Nat} (h : rd a b ≤ 0) : rdQ rd a b = false := by simp [rdQ, h]
theorem rdQ_t {rd : Nat → Nat → Int32} {a b : Nat} (h : ¬ rd a b ≤ 0) : rdQ rd a b = true := by simp [rdQ, h]
theorem reckonRoad_n {n : Nat} {rd : Nat → Nat → Int32} {pr : Nat → Nat → Bool} {a b : Nat} {roads weight : Int32} {weights near ahead told : Nat → Int32} (hn : n ≤ 11) (ha : a < b) (hb : b < n) (hsym : ∀ x y, rd x y = rd y x) (hpos : ∃ w, w < 100000 ∧ rd a b = nI w) (ht : told (11 * a + b) + told (11 * b + a) = rd a b) (hI : RkI n rd pr a b roads weight weights near ahead) : ∃ (r w : Int32) (ws nr : Nat → Int32), f_X9_reckonRoad roads weight weights near told (nI a) (nI b) = some (r, w, ws, nr) ∧ r = nI (roadsM rd n a + roadsRow rd a (b + 1)) ∧ w = sumI (fun x => sumI (fun y => if x < y then rd x y else 0) n) a + sumI (fun y => if a < y then rd a y else 0) (b + 1) ∧ (∀ x y, x < 11 → y < 11 → ws (11 * x + y) = if vis2 n a (b + 1) x y then rd x y else 0) ∧ (∀ x, x < 11 → nr x = nI (mkB (fun y => vis2 n a (b + 1) x y && rdQ rd x y) 11)) := by
  obtain ⟨i1, i2, i3, i4, -⟩ := hI
  unfold f_X9_reckonRoad
  rw [ix11', ix11', gi_n (by omega) (by omega), gi_n (by omega) (by omega)]
  simp only [Option.bind_some]
  rw [ht]
  obtain ⟨w0, hw0, ew0⟩ := hpos
  by_cases hz : rd a b ≤ 0
  · rw [if_pos hz]
    have e0 : rd a b = 0 := by
      rw [ew0] at hz ⊢
      by_cases h0 : w0 = 0
      · rw [h0, nI_0]
      · exact absurd hz (nI_nle (by omega) (by omega))
    have e0' : rd b a = 0 := by rw [hsym]; exact e0
    refine ⟨_, _, _, _, rfl, ?_, ?_, ?_, ?_⟩
    · rw [i1, roadsRow, rdQ_f hz, Bool.and_false]
      rfl
    · rw [i2, sumI, if_pos ha, e0, Int32.add_zero]
    · intro x y hx hy
      rw [i3 x y hx hy]
      by_cases hxy : (x = a ∧ y = b) ∨ (x = b ∧ y = a)
      · have : rd x y = 0 := by
          rcases hxy with ⟨rfl, rfl⟩ | ⟨rfl, rfl⟩
          · exact e0
          · exact e0'
        rw [this]
        simp
      · rw [vis2_old (Or.inr (by omega))]
    · intro x hx
      rw [i4 x hx]
      congr 1
      apply mkB_congr
      intro y hy
      by_cases hxy : (x = a ∧ y = b) ∨ (x = b ∧ y = a)
      · have : rdQ rd x y = false := by
          rcases hxy with ⟨rfl, rfl⟩ | ⟨rfl, rfl⟩
          · exact rdQ_f hz
          · exact rdQ_f (by rw [hsym]; exact hz)
        rw [this, Bool.and_false, Bool.and_false]
      · rw [vis2_old (Or.inr (by omega))]
  · rw [if_neg hz, si_n (by omega) (by omega)]
    simp only [Option.bind_some]
    rw [si_n (by omega) (by omega)]
    simp only [Option.bind_some]
    rw [gi_n (by omega) (by omega)]
    simp only [Option.bind_some]
    rw [si_n (by omega) (by omega)]
    simp only [Option.bind_some]
    rw [gi_n (by omega) (by omega)]
    simp only [Option.bind_some]
    rw [si_n (by omega) (by omega)]
    simp only [Option.bind_some]
    refine ⟨_, _, _, _, rfl, ?_, ?_, ?_, ?_⟩
    · rw [i1, roadsRow, rdQ_t hz, decide_eq_true ha, nI_1]
      rfl
    · rw [i2, sumI, if_pos ha, Int32.add_assoc]
    · intro x y hx hy
      by_cases h1 : x = b ∧ y = a
      · obtain ⟨rfl, rfl⟩ := h1
        rw [pk_us, if_pos (vis2_new ha hb (Or.inr ⟨rfl, rfl⟩)), hsym]
      · rw [pk_un (by omega)]
        by_cases h2 : x = a ∧ y = b
        · obtain ⟨rfl, rfl⟩ := h2
          rw [pk_us, if_pos (vis2_new ha hb (Or.inl ⟨rfl, rfl⟩))]
        · rw [pk_un (by omega), i3 x y hx hy, vis2_old (Or.inr (by omega))]
    · intro x hx
      by_cases h1 : x = b
      · subst h1
        rw [pk_us, pk_un (by omega), i4 x hx, one_shl (by omega), or_n]
        congr 1
        apply mkB_or (by omega)
        intro y hy
        by_cases h2 : y = a
        · subst h2
          rw [vis2_new ha hb (Or.inr ⟨rfl, rfl⟩), rdQ_t (by rw [hsym]; exact hz)]
          simp
        · rw [vis2_old (Or.inr (by omega)), decide_eq_false (fun q => h2 q.symm), Bool.or_false]
      · rw [pk_un h1]
        by_cases h2 : x = a
        · subst h2
          rw [pk_us, i4 x hx, one_shl (by omega), or_n]
          congr 1
          apply mkB_or (by omega)
          intro y hy
          by_cases h3 : y = b
          · subst h3
            rw [vis2_new ha hb (Or.inl ⟨rfl, rfl⟩), rdQ_t hz]
            simp
          · rw [vis2_old (Or.inr (by omega)), decide_eq_false (fun q => h3 q.symm), Bool.or_false]
        · rw [pk_un h2, i4 x hx]
          congr 1
          apply mkB_congr
          intro y hy
          rw [vis2_old (Or.inr (by omega))]
theorem reckonIn_n {n : Nat} {rd : Nat → Nat → Int32} {pr : Nat → Nat → Bool} {a : Nat} {roads weight : Int32} {weights near ahead told behind : Nat → Int32} (hn : n ≤ 11) (ha : a < n) (hsym : ∀ x y, rd x y = rd y x) (hpos : ∀ x y, x < n → y < n → ∃ w, w < 100000 ∧ rd x y = nI w) (ht : ∀ x y, x < n → y < n → x ≠ y → told (11 * x + y) + told (11 * y + x) = rd x y) (hb : ∀ x, x < 11 → behind x = nI (mkB (fun y => pr x y) 11)) (hI : RkI n rd pr a 0 roads weight weights near ahead) : ∃ x, loopS (fun (s : Int32 × Int32 × Int32 × (Nat → Int32) × (Nat → Int32) × (Nat → Int32)) => f_X9_reckon_L69 (nI a) (nI n) behind told s.1 s.2.1 s.2.2.1 s.2.2.2.1 s.2.2.2.2.1 s.2.2.2.2.2) ((0 : Int32), roads, weight, weights, near, ahead) = some x ∧ RkI n rd pr a n x.1 x.2.1 x.2.2.1 x.2.2.2.1 x.2.2.2.2 := by
  refine loop_inv (fun k (s : Int32 × Int32 × Int32 × (Nat → Int32) × (Nat → Int32) × (Nat → Int32)) => s.1 = nI k ∧ RkI n rd pr a k s.2.1 s.2.2.1 s.2.2.2.1 s.2.2.2.2.1 s.2.2.2.2.2) (fun (x : Int32 × Int32 × (Nat → Int32) × (Nat → Int32) × (Nat → Int32)) => RkI n rd pr a n x.1 x.2.1 x.2.2.1 x.2.2.2.1 x.2.2.2.2) n ?_ ?_ ⟨nI_0.symm, hI⟩
  · rintro k ⟨i, rs, we, ws, nr, ah⟩ hk ⟨hi, hJ⟩
    dsimp only at hi hJ ⊢
    subst hi
    have hJ5 := hJ.2.2.2.2
    have hroad : ∃ (r w : Int32) (ws2 nr2 : Nat → Int32), ((if nI k ≤ nI a then (some (rs, we, ws, nr)) else (b4 (f_X9_reckonRoad rs we ws nr told (nI a) (nI k)) fun o20 o21 o22 o23 => some (o20, o21, o22, o23)) : Option (Int32 × Int32 × (Nat → Int32) × (Nat → Int32)))) = some (r, w, ws2, nr2) ∧ r = nI (roadsM rd n a + roadsRow rd a (k + 1)) ∧ w = sumI (fun x => sumI (fun y => if x < y then rd x y else 0) n) a + sumI (fun y => if a < y then rd a y else 0) (k + 1) ∧ (∀ x y, x < 11 → y < 11 → ws2 (11 * x + y) = if vis2 n a (k + 1) x y then rd x y else 0) ∧ (∀ x, x < 11 → nr2 x = nI (mkB (fun y => vis2 n a (k + 1) x y && rdQ rd x y) 11)) := by
      by_cases hka : k ≤ a
      · obtain ⟨i1, i2, i3, i4, -⟩ := hJ
        rw [if_pos (nI_le hka (by omega))]
        refine ⟨_, _, _, _, rfl, ?_, ?_, ?_, ?_⟩
        · rw [i1, roadsRow, decide_eq_false (by omega), Bool.false_and]
          rfl
        · rw [i2, sumI, if_neg (by omega), Int32.add_zero]
        · intro x y hx hy
          rw [i3 x y hx hy, vis2_old (Or.inl hka)]
        · intro x hx
          rw [i4 x hx]
          congr 1
          apply mkB_congr
          intro y hy
          rw [vis2_old (Or.inl hka)]
      · obtain ⟨r, w, ws2, nr2, g1, g2⟩ := reckonRoad_n (told := told) hn (by omega) hk hsym (hpos a k ha hk) (ht a k ha hk (by omega)) hJ
        rw [if_neg (nI_ge (by omega) (by omega)), g1]
        exact ⟨r, w, ws2, nr2, rfl, g2⟩
    obtain ⟨r, w, ws2, nr2, g1, g2, g3, g4, g5⟩ := hroad
    have hmk : mkB (fun y => pr a y) 11 < 2 ^ 11 := mkB_lt _ _
    have hah : ∃ ah2 : Nat → Int32, (((if (if (mkB (fun y => pr a y) 11).testBit k then (1 : Int32) else 0) = 0 then (some ah) else ((gi ah 11 (nI k)).bind fun v17 => (si ah 11 (nI k) (v17 ||| ((1 : Int32) <<< (nI a &&& 31)))).bind fun v18 => some v18) : Option ((Nat → Int32)))) = some ah2) ∧ ∀ y, y < 11 → ah2 y = nI (mkB (fun x => decide (x < a ∨ (x = a ∧ y < k + 1)) && pr x y) 11) := by
      rw [mkB_tb, decide_eq_true (show k < 11 by omega), Bool.true_and]
      cases hp : pr a k with
      | false =>
        refine ⟨ah, by simp, fun y hy => ?_⟩
        rw [hJ5 y hy]
        congr 1
        apply mkB_congr
        intro x hx
        by_cases hxy : x = a ∧ y = k
        · obtain ⟨rfl, rfl⟩ := hxy
          rw [hp, Bool.and_false, Bool.and_false]
        · congr 1
          exact decide_eq_decide.mpr (by omega)
      | true =>
        rw [gi_n (by omega) (by omega)]
        simp only [Option.bind_some, if_true]
        rw [if_neg (by decide), si_n (by omega) (by omega)]
        refine ⟨_, rfl, fun y hy => ?_⟩
        by_cases hy2 : y = k
        · subst hy2
          rw [pk_us, hJ5 y hy, one_shl (by omega), or_n]
          congr 1
          apply mkB_or (by omega)
          intro x hx
          by_cases hxa : x = a
          · subst hxa
            rw [hp]
            simp
          · rw [decide_eq_false (show ¬ a = x from fun q => hxa q.symm), Bool.or_false]
            congr 1
            exact decide_eq_decide.mpr (by omega)
        · rw [pk_un hy2, hJ5 y hy]
          congr 1
          apply mkB_congr
          intro x hx
          congr 1
          exact decide_eq_decide.mpr (by omega)
    obtain ⟨ah2, k1, k2⟩ := hah
    refine ⟨(nI (k + 1), r, w, ws2, nr2, ah2), ?_, rfl, g2, g3, g4, g5, k2⟩
    unfold f_X9_reckon_L69
    rw [if_neg (nI_ge hk (by omega)), g1, gi_n (by omega) (by omega), hb a (by omega)]
    simp only [b4, Option.bind_some]
    rw [holds_n (by omega) (by omega)]
    simp only [Option.bind_some]
    rw [k1, nI_1]
    rfl
  · rintro ⟨i, rs, we, ws, nr, ah⟩ ⟨hi, hJ⟩
    dsimp only at hi hJ ⊢
    subst hi
    refine ⟨(rs, we, ws, nr, ah), ?_, hJ⟩
    unfold f_X9_reckon_L69
    rw [if_pos (nI_le (Nat.le_refl n) (by omega))]
theorem reckon_n {n : Nat} {rd : Nat → Nat → Int32} {pr : Nat → Nat → Bool} {told behind : Nat → Int32} (hn : n ≤ 11) (hsym : ∀ x y, rd x y = rd y x) (hxx : ∀ x, rd x x = 0) (hpos : ∀ x y, x < n → y < n → ∃ w, w < 100000 ∧ rd x y = nI w) (ht : ∀ x y, x < n → y < n → x ≠ y → told (11 * x + y) + told (11 * y + x) = rd x y) (hb : ∀ x, x < 11 → behind x = nI (mkB (fun y => pr x y) 11)) (hpr : ∀ x y, x < 11 → y < 11 → pr x y = true → x < n ∧ y < n) (vp vr vw : Int32) (vws vn vb va : Nat → Int32) : ∃ (o1 o2 o3 : Int32) (o4 o5 o6 o7 : Nat → Int32), f_X9_reckon vp vr vw vws vn vb va (nI n) told behind = some (o1, o2, o3, o4, o5, o6, o7) ∧ ViewR n rd pr o1 o2 o3 o4 o5 o6 o7 := by
  have hcp : ∀ x, x < 11 → cp0 behind vb 11 x = nI (mkB (fun y => pr x y) 11) := fun x hx => by rw [cp0_lt hx]; exact hb x hx
  have mk0 : ∀ (q : Nat → Bool) (k : Nat), (∀ b, b < k → q b = false) → mkB q k = 0 := by
    intro q k h
    induction k with
    | zero => rfl
    | succ k ih => rw [mkB, ih (fun b hb => h b (by omega)), h k (by omega)]; simp
  have hl : ∃ x, loopS (fun (s : Int32 × Int32 × Int32 × (Nat → Int32) × (Nat → Int32) × (Nat → Int32)) => f_X9_reckon_L59 (nI n) (cp0 behind vb 11) told s.1 s.2.1 s.2.2.1 s.2.2.2.1 s.2.2.2.2.1 s.2.2.2.2.2) ((0 : Int32), (0 : Int32), (0 : Int32), filled vws 0 121, filled vn 0 11, filled va 0 11) = some x ∧ RkI n rd pr n 0 x.1 x.2.1 x.2.2.1 x.2.2.2.1 x.2.2.2.2 := by
    refine loop_inv (fun k (s : Int32 × Int32 × Int32 × (Nat → Int32) × (Nat → Int32) × (Nat → Int32)) => s.1 = nI k ∧ RkI n rd pr k 0 s.2.1 s.2.2.1 s.2.2.2.1 s.2.2.2.2.1 s.2.2.2.2.2) (fun (x : Int32 × Int32 × (Nat → Int32) × (Nat → Int32) × (Nat → Int32)) => RkI n rd pr n 0 x.1 x.2.1 x.2.2.1 x.2.2.2.1 x.2.2.2.2) n ?_ ?_ ⟨nI_0.symm, ?_⟩
    · rintro k ⟨i, rs, we, ws, nr, ah⟩ hk ⟨hi, hJ⟩
      dsimp only at hi hJ ⊢
      subst hi
      obtain ⟨⟨r1, r2, r3, r4, r5⟩, h1, h2⟩ := reckonIn_n hn hk hsym hpos ht hcp hJ
      dsimp only at h2
      refine ⟨(nI (k + 1), r1, r2, r3, r4, r5), ?_, rfl, ?_⟩
      · unfold f_X9_reckon_L59
        rw [if_neg (nI_ge hk (by omega)), h1, nI_1]
        rfl
      · obtain ⟨i1, i2, i3, i4, i5⟩ := h2
        refine ⟨?_, ?_, fun x y hx hy => ?_, fun x hx => ?_, fun y hy => ?_⟩
        · rw [i1]
          rfl
        · rw [i2]
          show _ = sumI _ k + sumI (fun y => if k < y then rd k y else 0) n + 0
          rw [Int32.add_zero]
        · show r3 (11 * x + y) = _
          rw [i3 x y hx hy, vis2_next]
        · show r4 x = _
          rw [i4 x hx]
          congr 1
          apply mkB_congr
          intro y hy
          rw [vis2_next]
        · show r5 y = _
          rw [i5 y hy]
          congr 1
          apply mkB_congr
          intro x hx
          cases hp : pr x y with
          | false => rw [Bool.and_false, Bool.and_false]
          | true =>
            have := hpr x y hx hy hp
            congr 1
            exact decide_eq_decide.mpr (by omega)
    · rintro ⟨i, rs, we, ws, nr, ah⟩ ⟨hi, hJ⟩
      dsimp only at hi hJ ⊢
      subst hi
      refine ⟨(rs, we, ws, nr, ah), ?_, hJ⟩
      unfold f_X9_reckon_L59
      rw [if_pos (nI_le (Nat.le_refl n) (by omega))]
    · refine ⟨nI_0.symm, rfl, fun x y hx hy => ?_, fun x hx => ?_, fun y hy => ?_⟩
      · show filled vws 0 121 (11 * x + y) = _
        rw [vis2_0]
        unfold filled
        rw [if_pos (by omega)]
        rfl
      · show filled vn 0 11 x = _
        unfold filled
        rw [if_pos hx, mk0 _ _ (fun y hy => by rw [vis2_0]; rfl), nI_0]
      · show filled va 0 11 y = _
        unfold filled
        rw [if_pos hy, mk0 _ _ (fun x hx => by rw [decide_eq_false (by omega)]; rfl), nI_0]
  obtain ⟨⟨r1, r2, r3, r4, r5⟩, h1, i1, i2, i3, i4, i5⟩ := hl
  dsimp only at i1 i2 i3 i4 i5
  refine ⟨nI n, r1, r2, r3, r4, cp0 behind vb 11, r5, ?_, rfl, ?_, ?_, fun x y hx hy => ?_, fun x hx => ?_, fun x hx => hcp x hx, fun y hy => ?_⟩
  · unfold f_X9_reckon
    rw [fill_n (by omega), fill_n (by omega), fill_n (by omega), show cp behind 11 vb 11 (0 : Int32) (0 : Int32) (11 : Int32) = some (cp0 behind vb 11) from cp_n (a := 0) (b := 0) (k := 11) (by omega) (by omega) (by omega) (by omega)]
    simp only [Option.bind_some]
    rw [h1]
    rfl
  · rw [i1]
    rfl
  · rw [i2]
    show sumI _ n + 0 = weightM rd n
    rw [Int32.add_zero]
    rfl
  · rw [i3 x y hx hy, vis2_end]
    by_cases hxy : x = y
    · subst hxy
      rw [hxx x]
      simp
    · by_cases h : x < n ∧ y < n
      · rw [if_pos h, if_pos (by simp [hxy, h])]
      · rw [if_neg h, if_neg (by simp [hxy]; omega)]
  · rw [i4 x hx]
    congr 1
    apply mkB_congr
    intro y hy
    rw [vis2_end]
    by_cases hxy : x = y
    · subst hxy
      rw [rdQ_f (by rw [hxx x]; decide)]
      simp
    · rw [← Bool.and_assoc]
      congr 1
      rw [← Bool.decide_and]
      exact decide_eq_decide.mpr (by omega)
  · rw [i5 y hy]
    congr 1
    apply mkB_congr
    intro x hx
    cases hp : pr x y with
    | false => rw [Bool.and_false]
    | true =>
      rw [decide_eq_true (Or.inl (hpr x y hx hy hp).1)]
      rfl
theorem rdM_sym (w p t : Nat → Int32) (a b : Nat) : rdM w p t a b = rdM w p t b a := by
  unfold rdM
  by_cases h : a = b
  · rw [if_pos h, if_pos h.symm]
  · rw [if_neg h, if_neg (fun q => h q.symm), Int32.add_comm]
theorem rdM_xx (w p t : Nat → Int32) (a : Nat) : rdM w p t a a = 0 := by
  unfold rdM
  rw [if_pos rfl]
theorem NetR_rd {n : Nat} {posts pairs mposts mpairs : Int32} {w l t b wd pl wt pr : Nat → Int32} (h : NetR n posts pairs w l t b mposts mpairs wd pl wt pr) (x y : Nat) (hx : x < n) (hy : y < n) : ∃ v, v ≤ 2000 ∧ rdM wd pl wt x y = nI v := by
  obtain ⟨hn, -, -, -, -, -, -, -, -, h9, -⟩ := h
  unfold rdM
  by_cases hxy : x = y
  · rw [if_pos hxy]
    exact ⟨0, by omega, nI_0.symm⟩
  · rw [if_neg hxy]
    obtain ⟨v1, a1, a2⟩ := h9 x y hx (by omega)
    obtain ⟨v2, b1, b2⟩ := h9 y x hy (by omega)
    exact ⟨v1 + v2, by omega, by rw [a2, b2, nI_add]⟩
theorem NetR_pr {n : Nat} {posts pairs mposts mpairs : Int32} {w l t b wd pl wt pr : Nat → Int32} (h : NetR n posts pairs w l t b mposts mpairs wd pl wt pr) : ∀ x y, x < 11 → y < 11 → prQ pr x y = true → x < n ∧ y < n := by
  obtain ⟨hn, -, -, -, -, -, -, -, -, -, -, h11, -⟩ := h
  intro x y hx hy hp
  rcases h11 x y hx hy with h0 | ⟨-, h1⟩
  · exact absurd hp (by simp [prQ, h0])
  · exact h1
theorem refresh_ok {n : Nat} {posts pairs mposts mpairs : Int32} {w l t b wd pl wt pr : Nat → Int32} (h : NetR n posts pairs w l t b mposts mpairs wd pl wt pr) (vp vr vw : Int32) (vws vn vb va : Nat → Int32) (s1 s2 s3 : Int32) : ∃ (o1 o2 o3 : Int32) (o4 o5 o6 o7 : Nat → Int32), f_X10_refresh posts t b vp vr vw vws vn vb va s1 s2 s3 = some (o1, o2, o3, o4, o5, o6, o7, (-1 : Int32), (-1 : Int32), (-1 : Int32)) ∧ ViewR n (rdM wd pl wt) (prQ pr) o1 o2 o3 o4 o5 o6 o7 := by
  have h0 := h
  obtain ⟨hn, e1, e2, e3, e4, e5, h6, h7, h8, h9, h10, h11, rk, h12⟩ := h
  obtain ⟨o1, o2, o3, o4, o5, o6, o7, g1, g2⟩ := reckon_n (n := n) (rd := rdM wd pl wt) (pr := prQ pr) (told := t) (behind := b) hn (rdM_sym wd pl wt) (rdM_xx wd pl wt) (fun x y hx hy => by
    obtain ⟨v, hv, ev⟩ := NetR_rd h0 x y hx hy
    exact ⟨v, by omega, ev⟩) (fun x y hx hy hxy => by
    rw [h8 x y (by omega) (by omega), h8 y x (by omega) (by omega), if_pos hx, if_pos hy]
    unfold rdM
    rw [if_neg hxy]) h10 (NetR_pr h0) vp vr vw vws vn vb va
  refine ⟨o1, o2, o3, o4, o5, o6, o7, ?_, g2⟩
  unfold f_X10_refresh f_X7_forget f_X8_forget
  rw [e1, g1]
  rfl
