/-! LAYER 2: prices of all sets; wall, stone -/
theorem or_add {r p : Nat} (h : r < 2 ^ p) : r ||| 2 ^ p = 2 ^ p + r := by
  rw [Nat.or_comm]
  exact (Nat.two_pow_add_eq_or_of_lt h 1 |> fun e => by simpa using e.symm)
def c13 (c : Nat) : Nat := if c = 3 then 1 else c
theorem priceM_13 {n c : Nat} {rd : Nat → Nat → Int32} {pr : Nat → Nat → Bool} {s : Nat} : priceM n rd pr (c13 c) s = priceM n rd pr c s := by
  unfold c13
  by_cases h : c = 3
  · subst h
    rfl
  · rw [if_neg h]
theorem priceIn_n {n c p : Nat} {rd : Nat → Nat → Int32} {rN : Nat → Nat → Nat} {pr : Nat → Nat → Bool} {weights near behind prices : Nat → Int32} (hx : Cx n rd rN) (hv : VC n rd pr weights near behind) (hc : c ≤ 5) (hp : p < n) (h0 : ∀ t, t < 2 ^ p → prices t = priceM n rd pr c t) : ∃ q, loopS (fun (s : Int32 × (Nat → Int32)) => f_X7_priceSets_L53 (nI c) (nI p) (nI (2 ^ p)) (nI n) weights near behind s.1 s.2) ((0 : Int32), prices) = some q ∧ ∀ t, t < 2 ^ (p + 1) → q t = priceM n rd pr c t := by
  have hn := hx.1
  have hpw : 2 ^ p ≤ 2 ^ 10 := Nat.pow_le_pow_right (by decide) (by omega)
  have hpp : 2 ^ (p + 1) = 2 ^ p + 2 ^ p := by rw [Nat.pow_succ]; omega
  refine loop_inv (fun r (s : Int32 × (Nat → Int32)) => s.1 = nI r ∧ ∀ t, t < 2 ^ p + r → s.2 t = priceM n rd pr c t) (fun (q : Nat → Int32) => ∀ t, t < 2 ^ (p + 1) → q t = priceM n rd pr c t) (2 ^ p) ?_ ?_ ⟨nI_0.symm, h0⟩
  · rintro r ⟨i, q⟩ hr ⟨hi, hI⟩
    dsimp only at hi hI ⊢
    subst hi
    have hoa := or_add hr
    refine ⟨(nI (r + 1), upd q (2 ^ p + r) (priceM n rd pr c (2 ^ p + r))), ?_, rfl, ?_⟩
    · unfold f_X7_priceSets_L53
      rw [if_neg (nI_ge hr (by omega)), gi_n (by omega) (by omega), nI_1, or_n]
      simp only [Option.bind_some]
      rw [priceWith_n hx hv hc (by omega) hp (Nat.testBit_lt_two_pow hr) (fun _ _ => hI r (by omega)), hoa]
      simp only [Option.bind_some]
      rw [si_n (by omega) (by omega)]
      rfl
    · intro t ht
      show upd q (2 ^ p + r) _ t = _
      by_cases h : t = 2 ^ p + r
      · subst h
        rw [pk_us]
      · rw [pk_un h]
        exact hI t (by omega)
  · rintro ⟨i, q⟩ ⟨hi, hI⟩
    dsimp only at hi hI ⊢
    subst hi
    refine ⟨q, ?_, fun t ht => hI t (by omega)⟩
    unfold f_X7_priceSets_L53
    rw [if_pos (nI_le (Nat.le_refl _) (by omega))]
theorem priceAll_n {n c : Nat} {rd : Nat → Nat → Int32} {rN : Nat → Nat → Nat} {pr : Nat → Nat → Bool} {weights near behind prices : Nat → Int32} (hx : Cx n rd rN) (hv : VC n rd pr weights near behind) (hc : c ≤ 5) (h0 : prices 0 = 0) : ∃ q, loopS (fun (s : Int32 × (Nat → Int32)) => f_X7_priceSets_L34 (nI c) (nI n) weights near behind s.1 s.2) ((0 : Int32), prices) = some q ∧ ∀ t, t < 2 ^ n → q t = priceM n rd pr c t := by
  have hn := hx.1
  refine loop_inv (fun p (s : Int32 × (Nat → Int32)) => s.1 = nI p ∧ ∀ t, t < 2 ^ p → s.2 t = priceM n rd pr c t) (fun (q : Nat → Int32) => ∀ t, t < 2 ^ n → q t = priceM n rd pr c t) n ?_ ?_ ⟨nI_0.symm, fun t ht => ?_⟩
  · rintro p ⟨i, q⟩ hp ⟨hi, hI⟩
    dsimp only at hi hI ⊢
    subst hi
    obtain ⟨q2, g1, g2⟩ := priceIn_n hx hv hc hp hI
    refine ⟨(nI (p + 1), q2), ?_, rfl, g2⟩
    unfold f_X7_priceSets_L34
    rw [if_neg (nI_ge hp (by omega)), one_shl (by omega), g1, nI_1]
    rfl
  · rintro ⟨i, q⟩ ⟨hi, hI⟩
    dsimp only at hi hI ⊢
    subst hi
    refine ⟨q, ?_, hI⟩
    unfold f_X7_priceSets_L34
    rw [if_pos (nI_le (Nat.le_refl _) (by omega))]
  · have : t = 0 := by
      have h1 : 2 ^ 0 = 1 := rfl
      omega
    subst this
    show prices 0 = _
    rw [h0, price_0]
theorem priceSets_n {n c : Nat} {rd : Nat → Nat → Int32} {rN : Nat → Nat → Nat} {pr : Nat → Nat → Bool} {weights near behind prices rests ways : Nat → Int32} {sF lo to pF : Int32} (hx : Cx n rd rN) (hv : VC n rd pr weights near behind) (hc : c = 1 ∨ c = 2 ∨ c = 3 ∨ c = 5) (hS : SetInv n rd pr sF lo to pF prices rests ways) : ∃ sF2 q, f_X7_priceSets sF pF (nI n) weights near behind prices (nI c) = some (sF2, nI (c13 c), q) ∧ (∀ s, s < 2 ^ n → q s = priceM n rd pr c s) ∧ SetInv n rd pr sF2 lo to (nI (c13 c)) q rests ways := by
  have hn := hx.1
  have hc13 : c13 c = 1 ∨ c13 c = 2 ∨ c13 c = 5 := by unfold c13; split <;> omega
  have ht : ((if nI c = (3 : Int32) then (some (1 : Int32)) else (some (nI c)) : Option (Int32))) = some (nI (c13 c)) := by
    rcases hc with rfl | rfl | rfl | rfl <;> rfl
  unfold f_X7_priceSets
  rw [ht]
  simp only [Option.bind_some]
  by_cases hp : pF = nI (c13 c)
  · rw [if_pos hp]
    refine ⟨sF, prices, by rw [hp], ?_, by rw [← hp]; exact hS⟩
    rcases hS.1 with q | ⟨c0, q1, q2, q3⟩
    · rw [hp] at q
      exact absurd q (nI_m1 (by omega))
    · have : c0 = c13 c := (nI_c (by omega) (by omega)).mp (q2.symm.trans hp)
      subst this
      intro s hs
      rw [q3 s hs, priceM_13]
  · rw [if_neg hp, show si prices 2048 (0 : Int32) (0 : Int32) = some (upd prices 0 0) from si_n (k := 0) (by omega) (by omega)]
    simp only [Option.bind_some]
    obtain ⟨q, g1, g2⟩ := priceAll_n (c := c13 c) (prices := upd prices 0 0) hx hv (by omega) pk_us
    rw [g1]
    refine ⟨(-1 : Int32), q, rfl, fun s hs => by rw [g2 s hs, priceM_13], Or.inr ⟨c13 c, hc13, rfl, g2⟩, Or.inl rfl⟩
/-- the cheapest set of a size below k, the first of several -/
def chp (size : Nat) (pN : Nat → Nat) : Nat → Option Nat
  | 0 => none
  | s + 1 => if pcN s 11 = size then (match chp size pN s with
      | none => some s
      | some t => if pN s < pN t then some s else some t) else chp size pN s
theorem chp_lt {size : Nat} {pN : Nat → Nat} : ∀ {k t : Nat}, chp size pN k = some t → t < k
  | 0, t, h => by cases h
  | k + 1, t, h => by
    rw [chp] at h
    split at h
    · split at h
      · cases h; omega
      · rename_i u hu
        have := chp_lt hu
        split at h
        · cases h; omega
        · cases h; omega
    · have := chp_lt h
      omega
theorem chp_some {size : Nat} {pN : Nat → Nat} {u : Nat} (hu : pcN u 11 = size) : ∀ {k : Nat}, u < k → ∃ t, chp size pN k = some t
  | 0, h => absurd h (by omega)
  | k + 1, h => by
    rw [chp]
    split
    · split
      · exact ⟨_, rfl⟩
      · split
        · exact ⟨_, rfl⟩
        · exact ⟨_, rfl⟩
    · rename_i hne
      rcases Nat.lt_or_ge u k with q | q
      · exact chp_some hu q
      · have : u = k := by omega
        subst this
        exact absurd hu hne
def eS (d : Int32) : Option Nat → Int32
  | none => d
  | some t => nI t
def eP (d : Int32) (pN : Nat → Nat) : Option Nat → Int32
  | none => d
  | some t => nI (pN t)
theorem cheapest_loop {n size : Nat} {pN : Nat → Nat} {prices : Nat → Int32} (hn : n ≤ 11) (hsz : size ≤ 11) (hp : ∀ s, s < 2 ^ n → prices s = nI (pN s)) (hle : ∀ s, pN s ≤ 242000) : loopS (fun (s : Int32 × Int32 × Int32) => f_X7_cheapest_L14 (nI size) (nI n) prices s.1 s.2.1 s.2.2) ((0 : Int32), (1073741824 : Int32), (0 : Int32)) = some (eS 0 (chp size pN (2 ^ n))) := by
  have hpw : 2 ^ n ≤ 2 ^ 11 := Nat.pow_le_pow_right (by decide) hn
  refine loop_go (fun s => (eS 0 (chp size pN s), eP (1073741824 : Int32) pN (chp size pN s), nI s)) (2 ^ n) rfl (fun s hs => ?_) ?_
  · try dsimp only
    have hpc := pcN_le11 s 11
    have hl := hle s
    unfold f_X7_cheapest_L14
    rw [one_shl (by omega), if_neg (nI_ge hs (by omega)), bitCount_n _ (by omega), Option.bind_some, nI_1, gi_n (by omega) (by omega), hp s hs, chp]
    by_cases hc : pcN s 11 = size
    · rw [if_pos (by rw [hc]), if_pos hc]
      simp only [Option.bind_some]
      cases hch : chp size pN s with
      | none =>
        rw [if_neg (show ¬ eP (1073741824 : Int32) pN none ≤ nI (pN s) from nI_ge (b := 1073741824) (by omega) (by decide))]
        rfl
      | some t =>
        have hl2 := hle t
        try dsimp only
        by_cases hlt : pN s < pN t
        · rw [if_neg (show ¬ eP (1073741824 : Int32) pN (some t) ≤ nI (pN s) from nI_ge hlt (by omega)), if_pos hlt]
          rfl
        · rw [if_pos (show eP (1073741824 : Int32) pN (some t) ≤ nI (pN s) from nI_le (by omega) (by omega)), if_neg hlt]
          rfl
    · rw [if_neg (fun q => hc ((nI_eq (by omega) (by omega)).mp q)), if_neg hc]
      rfl
  · try dsimp only
    unfold f_X7_cheapest_L14
    rw [one_shl (by omega), if_pos (nI_le (Nat.le_refl _) (by omega))]
theorem wallOf_n {n c size : Nat} {wide places weights pair : Nat → Int32} {rN : Nat → Nat → Nat} {ws : Int32} (hx : Cx n (rdM wide places weights) rN) (hc : c = 1 ∨ c = 2) (hsz : size ≤ 11) : f_X11_wallOf (nI n) ws wide places weights pair (nI c) (nI size) = some (eP (1000000000 : Int32) (priceN n rN (rdQ (rdM wide places weights)) (prQ pair) c) (chp size (priceN n rN (rdQ (rdM wide places weights)) (prQ pair) c) (2 ^ n)), eS ws (chp size (priceN n rN (rdQ (rdM wide places weights)) (prQ pair) c) (2 ^ n))) := by
  have hn := hx.1
  have hpw : 2 ^ n ≤ 2 ^ 11 := Nat.pow_le_pow_right (by decide) hn
  have hpos : 0 < 2 ^ n := Nat.pow_pos (by decide)
  have hle : ∀ s, priceN n rN (rdQ (rdM wide places weights)) (prQ pair) c s ≤ 242000 := fun s => priceN_le hx
  have hcs : ∀ s, s < 2 ^ 11 → f_X11_costOfSet (nI n) wide places weights pair (nI c) (nI s) = some (nI (priceN n rN (rdQ (rdM wide places weights)) (prQ pair) c s)) := fun s hs => by
    rw [costOfSet_n hx (by omega) hs, if_neg (show ¬ c = 5 by omega)]
    rfl
  generalize priceN n rN (rdQ (rdM wide places weights)) (prQ pair) c = pN at hle hcs
  unfold f_X11_wallOf
  have h : loopS (fun (s : Int32 × Int32 × Int32) => f_X11_wallOf_L6 (nI c) (nI size) (nI n) wide places weights pair s.1 s.2.1 s.2.2) ((1000000000 : Int32), (0 : Int32), ws) = some (eP (1000000000 : Int32) pN (chp size pN (2 ^ n)), eS ws (chp size pN (2 ^ n))) := by
    refine loop_go (fun s => (eP (1000000000 : Int32) pN (chp size pN s), nI s, eS ws (chp size pN s))) (2 ^ n) rfl (fun s hs => ?_) ?_
    · try dsimp only
      have hpc := pcN_le11 s 11
      have hl := hle s
      unfold f_X11_wallOf_L6
      rw [whole_n hn, sizeOf_n (by omega), hcs s (by omega), nI_1, chp]
      simp only [Option.bind_some]
      rw [if_neg (nI_nlt (by omega) (by omega))]
      by_cases hc2 : pcN s 11 = size
      · rw [if_pos (by rw [hc2]), if_pos hc2]
        cases hch : chp size pN s with
        | none =>
          rw [if_neg (show ¬ eP (1000000000 : Int32) pN none ≤ nI (pN s) from nI_ge (b := 1000000000) (by omega) (by decide)), if_neg (show ¬ eP (1000000000 : Int32) pN none ≤ nI (pN s) from nI_ge (b := 1000000000) (by omega) (by decide))]
          rfl
        | some t =>
          have hl2 := hle t
          try dsimp only
          by_cases hlt : pN s < pN t
          · rw [if_neg (show ¬ eP (1000000000 : Int32) pN (some t) ≤ nI (pN s) from nI_ge hlt (by omega)), if_neg (show ¬ eP (1000000000 : Int32) pN (some t) ≤ nI (pN s) from nI_ge hlt (by omega)), if_pos hlt]
            rfl
          · rw [if_pos (show eP (1000000000 : Int32) pN (some t) ≤ nI (pN s) from nI_le (by omega) (by omega)), if_pos (show eP (1000000000 : Int32) pN (some t) ≤ nI (pN s) from nI_le (by omega) (by omega)), if_neg hlt]
            rfl
      · rw [if_neg (fun q => hc2 ((nI_eq (by omega) (by omega)).mp q)), if_neg hc2]
        rfl
    · try dsimp only
      unfold f_X11_wallOf_L6
      rw [whole_n hn]
      simp only [Option.bind_some]
      rw [if_pos (nI_lt (by omega) (by omega))]
  rw [h]
  rfl
theorem pc_low : ∀ k, k < 12 → pcN (2 ^ k - 1) 11 = k := by decide +kernel
theorem wallArgs {n : Nat} (hn : n ≤ 11) (x y : Int32) : (∃ c size, (c = 1 ∨ c = 2) ∧ 1 ≤ size ∧ size < n ∧ x = nI c ∧ y = nI size ∧ f_X10_isWall (nI n) x y = some 1 ∧ f_X11_isWall (nI n) x y = some 1) ∨ (f_X10_isWall (nI n) x y = some 0 ∧ f_X11_isWall (nI n) x y = some 0) := by
  have d10 : ¬ (1 : Int32) = 0 := by decide
  have e1 : (nI n - (1 : Int32)).toInt = (n : Int) - 1 := pk_sub_toInt (a := n) (b := 1) (by omega) (by decide)
  have hx : (∃ c, (c = 1 ∨ c = 2) ∧ x = nI c ∧ f_X11_in x (1 : Int32) (2 : Int32) = some 1) ∨ (¬ x = 1 ∧ ¬ x = 2 ∧ f_X11_in x (1 : Int32) (2 : Int32) = some 0) := by
    by_cases h1 : x = 1
    · subst h1
      exact Or.inl ⟨1, Or.inl rfl, rfl, by decide⟩
    · by_cases h2 : x = 2
      · subst h2
        exact Or.inl ⟨2, Or.inr rfl, rfl, by decide⟩
      · refine Or.inr ⟨h1, h2, ?_⟩
        unfold f_X11_in
        by_cases q1 : x < (1 : Int32)
        · rw [if_pos q1]
        · rw [if_neg q1]
          by_cases q2 : (2 : Int32) < x
          · rw [if_pos q2]
          · exfalso
            have q0 : ¬ x < 0 := fun q => q1 (Int32.lt_trans q (by decide))
            obtain ⟨j, hj, rfl⟩ := nI_upto (v := 2) (by omega) q0 q2
            rcases (show j = 0 ∨ j = 1 ∨ j = 2 by omega) with rfl | rfl | rfl
            · exact q1 (by decide)
            · exact h1 rfl
            · exact h2 rfl
  have hy : (∃ size, 1 ≤ size ∧ size < n ∧ y = nI size ∧ ¬ y < (1 : Int32) ∧ ¬ nI n ≤ y ∧ f_X11_in y (1 : Int32) (nI n - (1 : Int32)) = some 1) ∨ ((y < (1 : Int32) ∨ nI n ≤ y) ∧ f_X11_in y (1 : Int32) (nI n - (1 : Int32)) = some 0) := by
    unfold f_X11_in
    by_cases q1 : y < (1 : Int32)
    · exact Or.inr ⟨Or.inl q1, by rw [if_pos q1]⟩
    · rw [if_neg q1]
      by_cases q2 : nI n ≤ y
      · refine Or.inr ⟨Or.inr q2, ?_⟩
        rw [if_pos]
        rw [Int32.lt_iff_toInt_lt, e1]
        have h2 := Int32.le_iff_toInt_le.mp q2
        rw [nI_toInt (by omega)] at h2
        omega
      · have q0 : ¬ y < 0 := fun q => q1 (Int32.lt_trans q (by decide))
        obtain ⟨j, hj, rfl⟩ := nI_of q0
        have hjn : j < n := by
          rcases Nat.lt_or_ge j n with q | q
          · exact q
          · exact absurd (nI_le q hj) q2
        have hj1 : 1 ≤ j := by
          rcases Nat.eq_zero_or_pos j with q | q
          · subst q; exact absurd (by decide : nI 0 < (1 : Int32)) q1
          · exact q
        refine Or.inl ⟨j, hj1, hjn, rfl, q1, q2, ?_⟩
        rw [if_neg]
        rw [Int32.lt_iff_toInt_lt, e1, nI_toInt (by omega)]
        omega
  unfold f_X10_isWall f_X11_isWall
  rcases hx with ⟨c, hc, rfl, hx1⟩ | ⟨hx1, hx2, hx3⟩
  · rcases hy with ⟨size, s1, s2, rfl, s3, s4, s5⟩ | ⟨s1, s2⟩
    · refine Or.inl ⟨c, size, hc, s1, s2, rfl, rfl, ?_, ?_⟩
      · rw [if_neg s3, if_neg s4]
        rcases hc with rfl | rfl <;> rfl
      · rw [hx1, s5]
        rfl
    · refine Or.inr ⟨?_, ?_⟩
      · have e : (if y < (1 : Int32) then (some (0 : Int32)) else (if nI n ≤ y then (some (0 : Int32)) else (some (1 : Int32)))) = some 0 := by
          by_cases q : y < (1 : Int32)
          · rw [if_pos q]
          · rw [if_neg q, if_pos (s1.resolve_left q)]
        rw [e]
        rcases hc with rfl | rfl <;> rfl
      · rw [hx1, s2]
        rfl
  · refine Or.inr ⟨?_, ?_⟩
    · rw [if_neg hx1, if_neg hx2]
    · rw [hx3]
      rfl
theorem l2_wall (x_x_net_posts : Int32) (x_x_net_pairs : Int32) (x_x_net_widths : Nat → Int32) (x_x_net_lengths : Nat → Int32) (x_x_net_told : Nat → Int32) (x_x_net_behind : Nat → Int32) (x_x_view_posts : Int32) (x_x_view_roads : Int32) (x_x_view_weight : Int32) (x_x_view_weights : Nat → Int32) (x_x_view_near : Nat → Int32) (x_x_view_behind : Nat → Int32) (x_x_view_ahead : Nat → Int32) (x_x_history_oldest : Int32) (x_x_history_size : Int32) (x_x_history_kept_posts : Nat → Int32) (x_x_history_kept_pairs : Nat → Int32) (x_x_history_kept_widths : Nat → Nat → Int32) (x_x_history_kept_lengths : Nat → Nat → Int32) (x_x_history_kept_told : Nat → Nat → Int32) (x_x_history_kept_behind : Nat → Nat → Int32) (x_x_hand_size : Int32) (x_x_hand_posts : Nat → Int32) (x_x_trial_size : Int32) (x_x_trial_posts : Nat → Int32) (x_x_bags_size : Int32) (x_x_bags_sets : Nat → Int32) (x_x_chase_size : Int32) (x_x_chase_guarded : Int32) (x_x_chase_most : Int32) (x_x_chase_again : Int32) (x_x_chase_idle : Int32) (x_x_chase_moves : Nat → Int32) (x_x_chase_foul : Nat → Int32) (x_x_sets_solvedFor : Int32) (x_x_sets_lowest : Int32) (x_x_sets_total : Int32) (x_x_sets_pricedFor : Int32) (x_x_sets_prices : Nat → Int32) (x_x_sets_rests : Nat → Int32) (x_x_sets_ways : Nat → Int32) (x_x_trials_solvedFor : Int32) (x_x_trials_lowest : Int32) (x_x_trials_total : Int32) (x_x_trials_found : Nat → Int32) (x_x_trials_row_size : Int32) (x_x_trials_row_posts : Nat → Int32) (x_m_thrown : Int32) (x_m_posts : Int32) (x_m_pairs : Int32) (x_m_keptEnd : Int32) (x_m_kept : Int32) (x_m_many : Int32) (x_m_bags : Int32) (x_m_moves : Int32) (x_m_pen : Int32) (x_m_savedMany : Int32) (x_m_leastRow : Int32) (x_m_bestRows : Int32) (x_m_askedRow : Int32) (x_m_rankOfSaved : Int32) (x_m_wallSet : Int32) (x_m_fouledAgain : Int32) (x_m_wide : Nat → Int32) (x_m_places : Nat → Int32) (x_m_weights : Nat → Int32) (x_m_pair : Nat → Int32) (x_m_old : Nat → Int32) (x_m_row : Nat → Int32) (x_m_bag : Nat → Int32) (x_m_hunt : Nat → Int32) (x_m_behind : Nat → Int32) (x_m_least : Nat → Int32) (x_m_ways : Nat → Int32) (x_m_saved : Nat → Int32) (x_m_kth : Nat → Int32) (x_m_clean : Nat → Int32) (a1 : Int32) (a2 : Int32) (h : Rel x_x_net_posts x_x_net_pairs x_x_net_widths x_x_net_lengths x_x_net_told x_x_net_behind x_x_view_posts x_x_view_roads x_x_view_weight x_x_view_weights x_x_view_near x_x_view_behind x_x_view_ahead x_x_history_oldest x_x_history_size x_x_history_kept_posts x_x_history_kept_pairs x_x_history_kept_widths x_x_history_kept_lengths x_x_history_kept_told x_x_history_kept_behind x_x_hand_size x_x_hand_posts x_x_trial_size x_x_trial_posts x_x_bags_size x_x_bags_sets x_x_chase_size x_x_chase_guarded x_x_chase_most x_x_chase_again x_x_chase_idle x_x_chase_moves x_x_chase_foul x_x_sets_solvedFor x_x_sets_lowest x_x_sets_total x_x_sets_pricedFor x_x_sets_prices x_x_sets_rests x_x_sets_ways x_x_trials_solvedFor x_x_trials_lowest x_x_trials_total x_x_trials_found x_x_trials_row_size x_x_trials_row_posts x_m_thrown x_m_posts x_m_pairs x_m_keptEnd x_m_kept x_m_many x_m_bags x_m_moves x_m_pen x_m_savedMany x_m_leastRow x_m_bestRows x_m_askedRow x_m_rankOfSaved x_m_wallSet x_m_fouledAgain x_m_wide x_m_places x_m_weights x_m_pair x_m_old x_m_row x_m_bag x_m_hunt x_m_behind x_m_least x_m_ways x_m_saved x_m_kth x_m_clean) : ∃ (r : Int32) (o_x_sets_solvedFor : Int32) (o_x_sets_pricedFor : Int32) (o_x_sets_prices : Nat → Int32) (o_m_thrown : Int32) (o_m_wallSet : Int32), f_X10_wall x_x_net_posts x_x_view_posts x_x_view_weights x_x_view_near x_x_view_behind x_x_sets_solvedFor x_x_sets_pricedFor x_x_sets_prices a1 a2 = some (r, o_x_sets_solvedFor, o_x_sets_pricedFor, o_x_sets_prices) ∧ f_X11_wall x_m_thrown x_m_posts x_m_wallSet x_m_wide x_m_places x_m_weights x_m_pair a1 a2 = some (r, o_m_thrown, o_m_wallSet) ∧ Rel x_x_net_posts x_x_net_pairs x_x_net_widths x_x_net_lengths x_x_net_told x_x_net_behind x_x_view_posts x_x_view_roads x_x_view_weight x_x_view_weights x_x_view_near x_x_view_behind x_x_view_ahead x_x_history_oldest x_x_history_size x_x_history_kept_posts x_x_history_kept_pairs x_x_history_kept_widths x_x_history_kept_lengths x_x_history_kept_told x_x_history_kept_behind x_x_hand_size x_x_hand_posts x_x_trial_size x_x_trial_posts x_x_bags_size x_x_bags_sets x_x_chase_size x_x_chase_guarded x_x_chase_most x_x_chase_again x_x_chase_idle x_x_chase_moves x_x_chase_foul o_x_sets_solvedFor x_x_sets_lowest x_x_sets_total o_x_sets_pricedFor o_x_sets_prices x_x_sets_rests x_x_sets_ways x_x_trials_solvedFor x_x_trials_lowest x_x_trials_total x_x_trials_found x_x_trials_row_size x_x_trials_row_posts o_m_thrown x_m_posts x_m_pairs x_m_keptEnd x_m_kept x_m_many x_m_bags x_m_moves x_m_pen x_m_savedMany x_m_leastRow x_m_bestRows x_m_askedRow x_m_rankOfSaved o_m_wallSet x_m_fouledAgain x_m_wide x_m_places x_m_weights x_m_pair x_m_old x_m_row x_m_bag x_m_hunt x_m_behind x_m_least x_m_ways x_m_saved x_m_kth x_m_clean := by
  obtain ⟨n, h1, h2, h3, h4, h5, h6, h7, h8⟩ := h
  have hn : n ≤ 11 := h1.1
  have ep := h1.2.1
  have em := h1.2.2.1
  subst ep
  subst em
  have d10 : ¬ (1 : Int32) = 0 := by decide
  have ev := h2.1
  rcases wallArgs hn a1 a2 with ⟨c, size, hc, s1, s2, rfl, rfl, p1, p2⟩ | ⟨p1, p2⟩
  · obtain ⟨sF2, q, g1, g2, g3⟩ := priceSets_n (c := c) (Cx_of h1) (VC_of hn h2 (NetR_pr h1)) (by omega) h7
    have hle : ∀ s, (priceN n (fun x y => (rdM x_m_wide x_m_places x_m_weights x y).toNatClampNeg) (rdQ (rdM x_m_wide x_m_places x_m_weights)) (prQ x_m_pair) c) s ≤ 242000 := fun s => priceN_le (Cx_of h1)
    have hq : ∀ s, s < 2 ^ n → q s = nI ((priceN n (fun x y => (rdM x_m_wide x_m_places x_m_weights x y).toNatClampNeg) (rdQ (rdM x_m_wide x_m_places x_m_weights)) (prQ x_m_pair) c) s) := fun s hs => by rw [g2 s hs]; exact priceN_eq (Cx_of h1)
    have hL := cheapest_loop (size := size) hn (by omega) hq hle
    have hW := wallOf_n (pair := x_m_pair) (ws := x_m_wallSet) (Cx_of h1) hc (show size ≤ 11 by omega)
    generalize (priceN n (fun x y => (rdM x_m_wide x_m_places x_m_weights x y).toNatClampNeg) (rdQ (rdM x_m_wide x_m_places x_m_weights)) (prQ x_m_pair) c) = pN at hle hq hL hW
    have hpw : 2 ^ size < 2 ^ n := Nat.pow_lt_pow_right (by decide) s2
    have hpw0 : 0 < 2 ^ size := Nat.pow_pos (by decide)
    obtain ⟨t, ht⟩ := chp_some (pN := pN) (pc_low size (by omega)) (k := 2 ^ n) (by omega)
    have htl := chp_lt ht
    have hpw2 : 2 ^ n ≤ 2 ^ 11 := Nat.pow_le_pow_right (by decide) hn
    rw [ht] at hL hW
    have hC : f_X7_cheapest x_x_sets_solvedFor x_x_sets_pricedFor (nI n) x_x_view_weights x_x_view_near x_x_view_behind x_x_sets_prices (nI c) (nI size) = some (nI t, sF2, nI (c13 c), q) := by
      unfold f_X7_cheapest
      rw [g1]
      simp only [b3, Option.bind_some]
      rw [hL]
      rfl
    have hc13 : c13 c = c := by unfold c13; rw [if_neg (by omega)]
    have hP : f_X7_priceOf sF2 (nI (c13 c)) (nI n) x_x_view_weights x_x_view_near x_x_view_behind q (nI c) (nI t) = some (nI (pN t), sF2, nI (c13 c), q) := by
      unfold f_X7_priceOf f_X7_priceSets
      rw [if_neg (show ¬ nI c = (3 : Int32) from fun q => by have := (nI_c (d := 3) (by omega) (by omega)).mp q; omega), Option.bind_some, hc13, if_pos rfl]
      simp only [b3, Option.bind_some]
      rw [gi_n (by omega) (by omega), hq t htl]
      rfl
    refine ⟨nI (pN t), sF2, nI (c13 c), q, 0, nI t, ?_, ?_, Rel_mk h1 h2 h3 h4 h5 h6 g3 h8⟩
    · unfold f_X10_wall
      rw [p1, ev]
      simp only [Option.bind_some, if_neg d10]
      rw [hC]
      simp only [b4, Option.bind_some]
      rw [hP]
      rfl
    · unfold f_X11_wall
      rw [p2]
      simp only [Option.bind_some, if_neg d10]
      rw [hW]
      rfl
  · refine ⟨(-3 : Int32), x_x_sets_solvedFor, x_x_sets_pricedFor, x_x_sets_prices, 0, x_m_wallSet, ?_, ?_, Rel_mk h1 h2 h3 h4 h5 h6 h7 h8⟩
    · unfold f_X10_wall
      rw [p1]
      rfl
    · unfold f_X11_wall
      rw [p2]
      rfl
theorem l2_stone (x_x_net_posts : Int32) (x_x_net_pairs : Int32) (x_x_net_widths : Nat → Int32) (x_x_net_lengths : Nat → Int32) (x_x_net_told : Nat → Int32) (x_x_net_behind : Nat → Int32) (x_x_view_posts : Int32) (x_x_view_roads : Int32) (x_x_view_weight : Int32) (x_x_view_weights : Nat → Int32) (x_x_view_near : Nat → Int32) (x_x_view_behind : Nat → Int32) (x_x_view_ahead : Nat → Int32) (x_x_history_oldest : Int32) (x_x_history_size : Int32) (x_x_history_kept_posts : Nat → Int32) (x_x_history_kept_pairs : Nat → Int32) (x_x_history_kept_widths : Nat → Nat → Int32) (x_x_history_kept_lengths : Nat → Nat → Int32) (x_x_history_kept_told : Nat → Nat → Int32) (x_x_history_kept_behind : Nat → Nat → Int32) (x_x_hand_size : Int32) (x_x_hand_posts : Nat → Int32) (x_x_trial_size : Int32) (x_x_trial_posts : Nat → Int32) (x_x_bags_size : Int32) (x_x_bags_sets : Nat → Int32) (x_x_chase_size : Int32) (x_x_chase_guarded : Int32) (x_x_chase_most : Int32) (x_x_chase_again : Int32) (x_x_chase_idle : Int32) (x_x_chase_moves : Nat → Int32) (x_x_chase_foul : Nat → Int32) (x_x_sets_solvedFor : Int32) (x_x_sets_lowest : Int32) (x_x_sets_total : Int32) (x_x_sets_pricedFor : Int32) (x_x_sets_prices : Nat → Int32) (x_x_sets_rests : Nat → Int32) (x_x_sets_ways : Nat → Int32) (x_x_trials_solvedFor : Int32) (x_x_trials_lowest : Int32) (x_x_trials_total : Int32) (x_x_trials_found : Nat → Int32) (x_x_trials_row_size : Int32) (x_x_trials_row_posts : Nat → Int32) (x_m_thrown : Int32) (x_m_posts : Int32) (x_m_pairs : Int32) (x_m_keptEnd : Int32) (x_m_kept : Int32) (x_m_many : Int32) (x_m_bags : Int32) (x_m_moves : Int32) (x_m_pen : Int32) (x_m_savedMany : Int32) (x_m_leastRow : Int32) (x_m_bestRows : Int32) (x_m_askedRow : Int32) (x_m_rankOfSaved : Int32) (x_m_wallSet : Int32) (x_m_fouledAgain : Int32) (x_m_wide : Nat → Int32) (x_m_places : Nat → Int32) (x_m_weights : Nat → Int32) (x_m_pair : Nat → Int32) (x_m_old : Nat → Int32) (x_m_row : Nat → Int32) (x_m_bag : Nat → Int32) (x_m_hunt : Nat → Int32) (x_m_behind : Nat → Int32) (x_m_least : Nat → Int32) (x_m_ways : Nat → Int32) (x_m_saved : Nat → Int32) (x_m_kth : Nat → Int32) (x_m_clean : Nat → Int32) (a1 : Int32) (a2 : Int32) (h : Rel x_x_net_posts x_x_net_pairs x_x_net_widths x_x_net_lengths x_x_net_told x_x_net_behind x_x_view_posts x_x_view_roads x_x_view_weight x_x_view_weights x_x_view_near x_x_view_behind x_x_view_ahead x_x_history_oldest x_x_history_size x_x_history_kept_posts x_x_history_kept_pairs x_x_history_kept_widths x_x_history_kept_lengths x_x_history_kept_told x_x_history_kept_behind x_x_hand_size x_x_hand_posts x_x_trial_size x_x_trial_posts x_x_bags_size x_x_bags_sets x_x_chase_size x_x_chase_guarded x_x_chase_most x_x_chase_again x_x_chase_idle x_x_chase_moves x_x_chase_foul x_x_sets_solvedFor x_x_sets_lowest x_x_sets_total x_x_sets_pricedFor x_x_sets_prices x_x_sets_rests x_x_sets_ways x_x_trials_solvedFor x_x_trials_lowest x_x_trials_total x_x_trials_found x_x_trials_row_size x_x_trials_row_posts x_m_thrown x_m_posts x_m_pairs x_m_keptEnd x_m_kept x_m_many x_m_bags x_m_moves x_m_pen x_m_savedMany x_m_leastRow x_m_bestRows x_m_askedRow x_m_rankOfSaved x_m_wallSet x_m_fouledAgain x_m_wide x_m_places x_m_weights x_m_pair x_m_old x_m_row x_m_bag x_m_hunt x_m_behind x_m_least x_m_ways x_m_saved x_m_kth x_m_clean) : ∃ (r : Int32) (o_x_sets_solvedFor : Int32) (o_x_sets_pricedFor : Int32) (o_x_sets_prices : Nat → Int32) (o_m_thrown : Int32) (o_m_wallSet : Int32), f_X10_stone x_x_net_posts x_x_view_posts x_x_view_weights x_x_view_near x_x_view_behind x_x_sets_solvedFor x_x_sets_pricedFor x_x_sets_prices a1 a2 = some (r, o_x_sets_solvedFor, o_x_sets_pricedFor, o_x_sets_prices) ∧ f_X11_stone x_m_thrown x_m_posts x_m_wallSet x_m_wide x_m_places x_m_weights x_m_pair a1 a2 = some (r, o_m_thrown, o_m_wallSet) ∧ Rel x_x_net_posts x_x_net_pairs x_x_net_widths x_x_net_lengths x_x_net_told x_x_net_behind x_x_view_posts x_x_view_roads x_x_view_weight x_x_view_weights x_x_view_near x_x_view_behind x_x_view_ahead x_x_history_oldest x_x_history_size x_x_history_kept_posts x_x_history_kept_pairs x_x_history_kept_widths x_x_history_kept_lengths x_x_history_kept_told x_x_history_kept_behind x_x_hand_size x_x_hand_posts x_x_trial_size x_x_trial_posts x_x_bags_size x_x_bags_sets x_x_chase_size x_x_chase_guarded x_x_chase_most x_x_chase_again x_x_chase_idle x_x_chase_moves x_x_chase_foul o_x_sets_solvedFor x_x_sets_lowest x_x_sets_total o_x_sets_pricedFor o_x_sets_prices x_x_sets_rests x_x_sets_ways x_x_trials_solvedFor x_x_trials_lowest x_x_trials_total x_x_trials_found x_x_trials_row_size x_x_trials_row_posts o_m_thrown x_m_posts x_m_pairs x_m_keptEnd x_m_kept x_m_many x_m_bags x_m_moves x_m_pen x_m_savedMany x_m_leastRow x_m_bestRows x_m_askedRow x_m_rankOfSaved o_m_wallSet x_m_fouledAgain x_m_wide x_m_places x_m_weights x_m_pair x_m_old x_m_row x_m_bag x_m_hunt x_m_behind x_m_least x_m_ways x_m_saved x_m_kth x_m_clean := by
  obtain ⟨n, h1, h2, h3, h4, h5, h6, h7, h8⟩ := h
  have hn : n ≤ 11 := h1.1
  have ep := h1.2.1
  have em := h1.2.2.1
  subst ep
  subst em
  have d10 : ¬ (1 : Int32) = 0 := by decide
  have ev := h2.1
  rcases wallArgs hn a1 a2 with ⟨c, size, hc, s1, s2, rfl, rfl, p1, p2⟩ | ⟨p1, p2⟩
  · obtain ⟨sF2, q, g1, g2, g3⟩ := priceSets_n (c := c) (Cx_of h1) (VC_of hn h2 (NetR_pr h1)) (by omega) h7
    have hle : ∀ s, (priceN n (fun x y => (rdM x_m_wide x_m_places x_m_weights x y).toNatClampNeg) (rdQ (rdM x_m_wide x_m_places x_m_weights)) (prQ x_m_pair) c) s ≤ 242000 := fun s => priceN_le (Cx_of h1)
    have hq : ∀ s, s < 2 ^ n → q s = nI ((priceN n (fun x y => (rdM x_m_wide x_m_places x_m_weights x y).toNatClampNeg) (rdQ (rdM x_m_wide x_m_places x_m_weights)) (prQ x_m_pair) c) s) := fun s hs => by rw [g2 s hs]; exact priceN_eq (Cx_of h1)
    have hL := cheapest_loop (size := size) hn (by omega) hq hle
    have hW := wallOf_n (pair := x_m_pair) (ws := x_m_wallSet) (Cx_of h1) hc (show size ≤ 11 by omega)
    generalize (priceN n (fun x y => (rdM x_m_wide x_m_places x_m_weights x y).toNatClampNeg) (rdQ (rdM x_m_wide x_m_places x_m_weights)) (prQ x_m_pair) c) = pN at hle hq hL hW
    have hpw : 2 ^ size < 2 ^ n := Nat.pow_lt_pow_right (by decide) s2
    have hpw0 : 0 < 2 ^ size := Nat.pow_pos (by decide)
    obtain ⟨t, ht⟩ := chp_some (pN := pN) (pc_low size (by omega)) (k := 2 ^ n) (by omega)
    have htl := chp_lt ht
    have hpw2 : 2 ^ n ≤ 2 ^ 11 := Nat.pow_le_pow_right (by decide) hn
    rw [ht] at hL hW
    have hC : f_X7_cheapest x_x_sets_solvedFor x_x_sets_pricedFor (nI n) x_x_view_weights x_x_view_near x_x_view_behind x_x_sets_prices (nI c) (nI size) = some (nI t, sF2, nI (c13 c), q) := by
      unfold f_X7_cheapest
      rw [g1]
      simp only [b3, Option.bind_some]
      rw [hL]
      rfl
    have hc13 : c13 c = c := by unfold c13; rw [if_neg (by omega)]
    have hP : f_X7_priceOf sF2 (nI (c13 c)) (nI n) x_x_view_weights x_x_view_near x_x_view_behind q (nI c) (nI t) = some (nI (pN t), sF2, nI (c13 c), q) := by
      unfold f_X7_priceOf f_X7_priceSets
      rw [if_neg (show ¬ nI c = (3 : Int32) from fun q => by have := (nI_c (d := 3) (by omega) (by omega)).mp q; omega), Option.bind_some, hc13, if_pos rfl]
      simp only [b3, Option.bind_some]
      rw [gi_n (by omega) (by omega), hq t htl]
      rfl
    refine ⟨nI t, sF2, nI (c13 c), q, 0, nI t, ?_, ?_, Rel_mk h1 h2 h3 h4 h5 h6 g3 h8⟩
    · unfold f_X10_stone
      rw [p1, ev]
      simp only [Option.bind_some, if_neg d10]
      rw [hC]
      rfl
    · unfold f_X11_stone
      rw [p2]
      simp only [Option.bind_some, if_neg d10]
      rw [hW]
      rfl
  · refine ⟨(-3 : Int32), x_x_sets_solvedFor, x_x_sets_pricedFor, x_x_sets_prices, 0, x_m_wallSet, ?_, ?_, Rel_mk h1 h2 h3 h4 h5 h6 h7 h8⟩
    · unfold f_X10_stone
      rw [p1]
      rfl
    · unfold f_X11_stone
      rw [p2]
      rfl
