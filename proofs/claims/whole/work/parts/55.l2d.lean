/-! LAYER 2: lawful -/
def lawQ (q : Nat → Nat → Bool) (F : Nat → Nat) (k : Nat) : Prop := ∀ a b, b < a → a < k → q (F a) (F b) = false
theorem lawIn_n {pair row : Nat → Int32} {F : Nat → Nat} {k a : Nat} (hk : k ≤ 11) (ha : a < k) (hp : ∀ j, j < k → row j = nI (F j) ∧ F j < 11) : (loopS (fun (s : Int32) => f_X11_isLawful_L12 (nI a) pair row s) (0 : Int32) = some (.inl (nI (a + 1))) ∧ ∀ b, b < a → prQ pair (F a) (F b) = false) ∨ (loopS (fun (s : Int32) => f_X11_isLawful_L12 (nI a) pair row s) (0 : Int32) = some (.inr 0) ∧ ∃ b, b < a ∧ prQ pair (F a) (F b) = true) := by
  obtain ⟨v, h1, h2⟩ := loop_or (step := fun (s : Int32) => f_X11_isLawful_L12 (nI a) pair row s) (fun i s => s = nI i ∧ ∀ b, b < i → prQ pair (F a) (F b) = false) (fun v => (v = .inl (nI (a + 1)) ∧ ∀ b, b < a → prQ pair (F a) (F b) = false) ∨ (v = .inr 0 ∧ ∃ b, b < a ∧ prQ pair (F a) (F b) = true)) a (s := (0 : Int32)) (by
    rintro i s hi ⟨rfl, hs⟩
    show (∃ s', f_X11_isLawful_L12 (nI a) pair row (nI i) = _ ∧ _) ∨ ∃ v, f_X11_isLawful_L12 (nI a) pair row (nI i) = _ ∧ _
    unfold f_X11_isLawful_L12
    have f1 := (hp a ha).2
    have f2 := (hp i (by omega)).2
    rw [if_neg (nI_ge hi (by omega)), gi_n (by omega) (by omega), gi_n (by omega) (by omega), nI_1, (hp a ha).1, (hp i (by omega)).1]
    simp only [Option.bind_some]
    rw [ix11, gi_n (by omega) (by omega)]
    simp only [Option.bind_some]
    by_cases h : pair (11 * F a + F i) = (1 : Int32)
    · exact Or.inr ⟨.inr 0, by rw [if_pos h], Or.inr ⟨rfl, i, hi, by simp [prQ, h]⟩⟩
    · refine Or.inl ⟨nI (i + 1), by rw [if_neg h], rfl, fun b hb => ?_⟩
      rcases Nat.lt_or_ge b i with h3 | h3
      · exact hs b h3
      · have : b = i := by omega
        subst this
        simp [prQ, h]) (by
    rintro s ⟨rfl, hs⟩
    refine ⟨.inl (nI (a + 1)), ?_, Or.inl ⟨rfl, hs⟩⟩
    show f_X11_isLawful_L12 (nI a) pair row (nI a) = _
    unfold f_X11_isLawful_L12
    rw [if_pos (nI_le (Nat.le_refl a) (by omega)), nI_1]) ⟨nI_0.symm, fun b hb => absurd hb (by omega)⟩
  rcases h2 with ⟨rfl, h3⟩ | ⟨rfl, h3⟩
  · exact Or.inl ⟨h1, h3⟩
  · exact Or.inr ⟨h1, h3⟩
theorem isLawful_n {pair row : Nat → Int32} {F : Nat → Nat} {k : Nat} (hk : k ≤ 11) (hp : ∀ j, j < k → row j = nI (F j) ∧ F j < 11) : ∃ v, f_X11_isLawful (nI k) pair row = some v ∧ ((v = 1 ∧ lawQ (prQ pair) F k) ∨ (v = 0 ∧ ¬ lawQ (prQ pair) F k)) := by
  unfold f_X11_isLawful
  refine loop_or (step := fun (s : Int32) => f_X11_isLawful_L2 (nI k) pair row s) (fun i s => s = nI i ∧ lawQ (prQ pair) F i) (fun v => (v = 1 ∧ lawQ (prQ pair) F k) ∨ (v = 0 ∧ ¬ lawQ (prQ pair) F k)) k ?_ ?_ ⟨nI_0.symm, fun a b _ ha => absurd ha (by omega)⟩
  · rintro i s hi ⟨rfl, hs⟩
    show (∃ s', f_X11_isLawful_L2 (nI k) pair row (nI i) = _ ∧ _) ∨ ∃ v, f_X11_isLawful_L2 (nI k) pair row (nI i) = _ ∧ _
    unfold f_X11_isLawful_L2
    rw [if_neg (nI_ge hi (by omega))]
    rcases lawIn_n (pair := pair) hk hi hp with ⟨h1, h2⟩ | ⟨h1, b, h2, h3⟩
    · refine Or.inl ⟨nI (i + 1), h1, rfl, fun a b hba ha => ?_⟩
      rcases Nat.lt_or_ge a i with h3 | h3
      · exact hs a b hba h3
      · have : a = i := by omega
        subst this
        exact h2 b hba
    · refine Or.inr ⟨0, h1, Or.inr ⟨rfl, fun hl => ?_⟩⟩
      rw [hl i b h2 hi] at h3
      cases h3
  · rintro s ⟨rfl, hs⟩
    refine ⟨1, ?_, Or.inl ⟨rfl, hs⟩⟩
    show f_X11_isLawful_L2 (nI k) pair row (nI k) = _
    unfold f_X11_isLawful_L2
    rw [if_pos (nI_le (Nat.le_refl k) (by omega))]
theorem keepsPairs_n {ahead posts : Nat → Int32} {F : Nat → Nat} {k n : Nat} {q : Nat → Nat → Bool} (hk : k ≤ 11) (hn : n ≤ 11) (hp : ∀ j, j < k → posts j = nI (F j) ∧ F j < 11) (ha : ∀ b, b < 11 → ahead b = nI (mkB (fun a => q a b) 11)) (hq : ∀ a b, a < 11 → b < 11 → q a b = true → a < n ∧ b < n) : ∃ v, f_X9_keepsPairs ahead (nI k) posts = some v ∧ ((v = 1 ∧ ∀ i, i < k → allAhead q (setM F i) (F i) n = true) ∨ (v = 0 ∧ ∃ i, i < k ∧ allAhead q (setM F i) (F i) n = false)) := by
  unfold f_X9_keepsPairs
  refine loop_or (step := fun (t : Int32 × Int32) => f_X9_keepsPairs_L4 ahead (nI k) posts t.1 t.2) (fun i s => s = (nI (setM F i), nI i) ∧ ∀ j, j < i → allAhead q (setM F j) (F j) n = true) (fun v => (v = 1 ∧ ∀ i, i < k → allAhead q (setM F i) (F i) n = true) ∨ (v = 0 ∧ ∃ i, i < k ∧ allAhead q (setM F i) (F i) n = false)) k ?_ ?_ ⟨rfl, fun j hj => absurd hj (by omega)⟩
  · rintro i s hi ⟨rfl, hs⟩
    show (∃ s', f_X9_keepsPairs_L4 ahead (nI k) posts (nI (setM F i)) (nI i) = _ ∧ _) ∨ ∃ v, f_X9_keepsPairs_L4 ahead (nI k) posts (nI (setM F i)) (nI i) = _ ∧ _
    unfold f_X9_keepsPairs_L4
    have f1 := (hp i hi).2
    have hm : mkB (fun a => q a (F i)) 11 < 2 ^ n := by
      apply Nat.lt_pow_two_of_testBit
      intro a han
      rw [mkB_tb]
      by_cases h11 : a < 11
      · cases hc : q a (F i) with
        | false => rw [Bool.and_false]
        | true => exact absurd (hq a (F i) h11 f1 hc).1 (by omega)
      · rw [decide_eq_false h11, Bool.false_and]
    rw [if_neg (nI_ge hi (by omega)), gi_n (by omega) (by omega), nI_1, (hp i hi).1]
    simp only [Option.bind_some]
    rw [mayFollow_n (n := n) (s := setM F i) (p := F i) (q := q) hn f1 (ha (F i) f1) hm (fun a han => by rw [mkB_tb, decide_eq_true (show a < 11 by omega), Bool.true_and]), one_shl (by omega), or_n]
    simp only [Option.bind_some]
    cases hc : allAhead q (setM F i) (F i) n with
    | false => exact Or.inr ⟨0, rfl, Or.inr ⟨rfl, i, hi, hc⟩⟩
    | true =>
      refine Or.inl ⟨(nI (setM F (i + 1)), nI (i + 1)), rfl, rfl, fun j hj => ?_⟩
      rcases Nat.lt_or_ge j i with h3 | h3
      · exact hs j h3
      · have : j = i := by omega
        subst this
        exact hc
  · rintro s ⟨rfl, hs⟩
    refine ⟨1, ?_, Or.inl ⟨rfl, hs⟩⟩
    show f_X9_keepsPairs_L4 ahead (nI k) posts (nI (setM F k)) (nI k) = _
    unfold f_X9_keepsPairs_L4
    rw [if_pos (nI_le (Nat.le_refl k) (by omega))]
/-- in a whole row both say the same -/
theorem law_same {q : Nat → Nat → Bool} {F : Nat → Nat} {n : Nat} (hlt : ∀ j, j < n → F j < n) (hi : ∀ i j, i < n → j < n → F i = F j → i = j) (hirr : ∀ a, a < n → q a a = false) : lawQ q F n ↔ ∀ i, i < n → allAhead q (setM F i) (F i) n = true := by
  constructor
  · intro h i hin
    rw [allAhead_iff]
    intro a ha hqa
    obtain ⟨j, hj, rfl⟩ := pigeon n F hlt hi a ha
    rw [setM_tb]
    rcases Nat.lt_trichotomy j i with h1 | h1 | h1
    · exact ⟨j, h1, rfl⟩
    · subst h1
      rw [hirr (F j) (hlt j hj)] at hqa
      cases hqa
    · rw [h j i h1 hj] at hqa
      cases hqa
  · intro h a b hba han
    cases hc : q (F a) (F b) with
    | false => rfl
    | true =>
      obtain ⟨j, h1, h2⟩ := setM_tb.mp (allAhead_iff.mp (h b (by omega)) (F a) (hlt a han) hc)
      have := hi j a (by omega) han h2
      omega
theorem l2_lawful (x_x_net_posts : Int32) (x_x_net_pairs : Int32) (x_x_net_widths : Nat → Int32) (x_x_net_lengths : Nat → Int32) (x_x_net_told : Nat → Int32) (x_x_net_behind : Nat → Int32) (x_x_view_posts : Int32) (x_x_view_roads : Int32) (x_x_view_weight : Int32) (x_x_view_weights : Nat → Int32) (x_x_view_near : Nat → Int32) (x_x_view_behind : Nat → Int32) (x_x_view_ahead : Nat → Int32) (x_x_history_oldest : Int32) (x_x_history_size : Int32) (x_x_history_kept_posts : Nat → Int32) (x_x_history_kept_pairs : Nat → Int32) (x_x_history_kept_widths : Nat → Nat → Int32) (x_x_history_kept_lengths : Nat → Nat → Int32) (x_x_history_kept_told : Nat → Nat → Int32) (x_x_history_kept_behind : Nat → Nat → Int32) (x_x_hand_size : Int32) (x_x_hand_posts : Nat → Int32) (x_x_trial_size : Int32) (x_x_trial_posts : Nat → Int32) (x_x_bags_size : Int32) (x_x_bags_sets : Nat → Int32) (x_x_chase_size : Int32) (x_x_chase_guarded : Int32) (x_x_chase_most : Int32) (x_x_chase_again : Int32) (x_x_chase_idle : Int32) (x_x_chase_moves : Nat → Int32) (x_x_chase_foul : Nat → Int32) (x_x_sets_solvedFor : Int32) (x_x_sets_lowest : Int32) (x_x_sets_total : Int32) (x_x_sets_pricedFor : Int32) (x_x_sets_prices : Nat → Int32) (x_x_sets_rests : Nat → Int32) (x_x_sets_ways : Nat → Int32) (x_x_trials_solvedFor : Int32) (x_x_trials_lowest : Int32) (x_x_trials_total : Int32) (x_x_trials_found : Nat → Int32) (x_x_trials_row_size : Int32) (x_x_trials_row_posts : Nat → Int32) (x_m_thrown : Int32) (x_m_posts : Int32) (x_m_pairs : Int32) (x_m_keptEnd : Int32) (x_m_kept : Int32) (x_m_many : Int32) (x_m_bags : Int32) (x_m_moves : Int32) (x_m_pen : Int32) (x_m_savedMany : Int32) (x_m_leastRow : Int32) (x_m_bestRows : Int32) (x_m_askedRow : Int32) (x_m_rankOfSaved : Int32) (x_m_wallSet : Int32) (x_m_fouledAgain : Int32) (x_m_wide : Nat → Int32) (x_m_places : Nat → Int32) (x_m_weights : Nat → Int32) (x_m_pair : Nat → Int32) (x_m_old : Nat → Int32) (x_m_row : Nat → Int32) (x_m_bag : Nat → Int32) (x_m_hunt : Nat → Int32) (x_m_behind : Nat → Int32) (x_m_least : Nat → Int32) (x_m_ways : Nat → Int32) (x_m_saved : Nat → Int32) (x_m_kth : Nat → Int32) (x_m_clean : Nat → Int32) (h : Rel x_x_net_posts x_x_net_pairs x_x_net_widths x_x_net_lengths x_x_net_told x_x_net_behind x_x_view_posts x_x_view_roads x_x_view_weight x_x_view_weights x_x_view_near x_x_view_behind x_x_view_ahead x_x_history_oldest x_x_history_size x_x_history_kept_posts x_x_history_kept_pairs x_x_history_kept_widths x_x_history_kept_lengths x_x_history_kept_told x_x_history_kept_behind x_x_hand_size x_x_hand_posts x_x_trial_size x_x_trial_posts x_x_bags_size x_x_bags_sets x_x_chase_size x_x_chase_guarded x_x_chase_most x_x_chase_again x_x_chase_idle x_x_chase_moves x_x_chase_foul x_x_sets_solvedFor x_x_sets_lowest x_x_sets_total x_x_sets_pricedFor x_x_sets_prices x_x_sets_rests x_x_sets_ways x_x_trials_solvedFor x_x_trials_lowest x_x_trials_total x_x_trials_found x_x_trials_row_size x_x_trials_row_posts x_m_thrown x_m_posts x_m_pairs x_m_keptEnd x_m_kept x_m_many x_m_bags x_m_moves x_m_pen x_m_savedMany x_m_leastRow x_m_bestRows x_m_askedRow x_m_rankOfSaved x_m_wallSet x_m_fouledAgain x_m_wide x_m_places x_m_weights x_m_pair x_m_old x_m_row x_m_bag x_m_hunt x_m_behind x_m_least x_m_ways x_m_saved x_m_kth x_m_clean) : ∃ (r : Int32) (o_m_thrown : Int32), f_X10_lawful x_x_net_posts x_x_view_ahead x_x_hand_size x_x_hand_posts = some r ∧ f_X11_lawful x_m_thrown x_m_posts x_m_many x_m_pair x_m_row = some (r, o_m_thrown) ∧ Rel x_x_net_posts x_x_net_pairs x_x_net_widths x_x_net_lengths x_x_net_told x_x_net_behind x_x_view_posts x_x_view_roads x_x_view_weight x_x_view_weights x_x_view_near x_x_view_behind x_x_view_ahead x_x_history_oldest x_x_history_size x_x_history_kept_posts x_x_history_kept_pairs x_x_history_kept_widths x_x_history_kept_lengths x_x_history_kept_told x_x_history_kept_behind x_x_hand_size x_x_hand_posts x_x_trial_size x_x_trial_posts x_x_bags_size x_x_bags_sets x_x_chase_size x_x_chase_guarded x_x_chase_most x_x_chase_again x_x_chase_idle x_x_chase_moves x_x_chase_foul x_x_sets_solvedFor x_x_sets_lowest x_x_sets_total x_x_sets_pricedFor x_x_sets_prices x_x_sets_rests x_x_sets_ways x_x_trials_solvedFor x_x_trials_lowest x_x_trials_total x_x_trials_found x_x_trials_row_size x_x_trials_row_posts o_m_thrown x_m_posts x_m_pairs x_m_keptEnd x_m_kept x_m_many x_m_bags x_m_moves x_m_pen x_m_savedMany x_m_leastRow x_m_bestRows x_m_askedRow x_m_rankOfSaved x_m_wallSet x_m_fouledAgain x_m_wide x_m_places x_m_weights x_m_pair x_m_old x_m_row x_m_bag x_m_hunt x_m_behind x_m_least x_m_ways x_m_saved x_m_kth x_m_clean := by
  obtain ⟨n, h1, h2, h3, h4, h5, h6, h7, h8⟩ := h
  obtain ⟨k, F, hk, e1, e2, e3, e4, e5⟩ := RowR_nums h4
  have hn : n ≤ 11 := h1.1
  have ep := h1.2.1
  have em := h1.2.2.1
  have hahead := h2.2.2.2.2.2.2
  obtain ⟨-, -, -, -, -, -, -, -, -, -, -, hpair, rk, hrk⟩ := id h1
  have hq : ∀ a b, a < 11 → b < 11 → prQ x_m_pair a b = true → a < n ∧ b < n := by
    intro a b ha hb hab
    rcases hpair a b ha hb with h0 | ⟨-, h9⟩
    · exact absurd hab (by simp [prQ, h0])
    · exact h9
  have d10 : ¬ (1 : Int32) = 0 := by decide
  cases hw : (decide (k = n) && allLt F n k) with
  | false =>
    refine ⟨(-4 : Int32), 0, ?_, ?_, Rel_mk h1 h2 h3 h4 h5 h6 h7 h8⟩
    · unfold f_X10_lawful
      rw [e1, ep, isWholeC_n hk hn e3, hw]
      rfl
    · unfold f_X11_lawful
      rw [e2, em, isWholeM_n hk hn e4 e5, hw]
      rfl
  | true =>
    rw [Bool.and_eq_true, decide_eq_true_eq, allLt_iff] at hw
    obtain ⟨hkn, hlt⟩ := hw
    subst hkn
    have hw : (decide (k = k) && allLt F k k) = true := by rw [allLt_iff.mpr hlt]; simp
    have hirr : ∀ a, a < k → prQ x_m_pair a a = false := fun a ha => by
      cases hc : prQ x_m_pair a a with
      | false => rfl
      | true => exact absurd (hrk a a (by omega) (by omega) hc) (by omega)
    obtain ⟨v, hv, hv2⟩ := keepsPairs_n (n := k) hk hk e3 hahead hq
    obtain ⟨w, hw1, hw2⟩ := isLawful_n (pair := x_m_pair) hk e4
    have hs := law_same (q := prQ x_m_pair) hlt e5 hirr
    have hvw : v = w := by
      rcases hv2 with ⟨rfl, a1⟩ | ⟨rfl, i, a1, a2⟩ <;> rcases hw2 with ⟨rfl, b1⟩ | ⟨rfl, b1⟩
      · rfl
      · exact absurd (hs.mpr a1) b1
      · rw [hs.mp b1 i a1] at a2
        cases a2
      · rfl
    subst hvw
    refine ⟨if v = 0 then 0 else 1, 0, ?_, ?_, Rel_mk h1 h2 h3 h4 h5 h6 h7 h8⟩
    · unfold f_X10_lawful
      rw [e1, ep, isWholeC_n hk hk e3, hw, hv]
      by_cases h0 : v = 0
      · rw [if_pos h0]
        simp [h0, b2I]
      · rw [if_neg h0]
        simp [h0, b2I]
    · unfold f_X11_lawful
      rw [e2, em, isWholeM_n hk hk e4 e5, hw, hw1]
      by_cases h0 : v = 0
      · rw [if_pos h0]
        simp [h0, b2I]
      · rw [if_neg h0]
        simp [h0, b2I]
