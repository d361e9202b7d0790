/-! LAYER 2: posts, roads, moves and bags that are laid -/
theorem isPost_n {n : Nat} (hn : n ≤ 11) (x : Int32) : (∃ j, j < n ∧ x = nI j ∧ f_X11_isPost (nI n) x = some 1 ∧ f_X4_has (nI n) x = some 1) ∨ ((x < 0 ∨ nI n ≤ x) ∧ f_X11_isPost (nI n) x = some 0 ∧ f_X4_has (nI n) x = some 0) := by
  rcases in_n (k := n) (by omega) x with ⟨j, hj, ha, hi⟩ | ⟨ha, hi⟩
  · refine Or.inl ⟨j, hj, ha, ?_, ?_⟩
    · unfold f_X11_isPost
      rw [hi]
      show (bz 1).bind _ = _
      rw [bz1]; rfl
    · unfold f_X4_has
      rw [ha, if_neg (nI_pos (by omega)), if_neg (nI_ge hj (by omega))]
  · refine Or.inr ⟨ha, ?_, ?_⟩
    · unfold f_X11_isPost
      rw [hi]
      show (bz 0).bind _ = _
      rw [bz0]; rfl
    · unfold f_X4_has
      by_cases h0 : x < 0
      · rw [if_pos h0]
      · rw [if_neg h0, if_pos (ha.resolve_left h0)]
theorem upd_rel {P : Int32 → Prop} {f g : Nat → Int32} {k : Nat} {x : Int32} (h : ∀ j, j < k → f j = g j ∧ P (g j)) (hx : P x) : ∀ j, j < k + 1 → upd f k x j = upd g k x j ∧ P (upd g k x j) := by
  intro j hj
  by_cases e : j = k
  · subst e
    rw [pk_us, pk_us]
    exact ⟨rfl, hx⟩
  · rw [pk_un e, pk_un e]
    exact h j (by omega)
theorem lt_c {a : Int32} {v : Nat} (hv : v < 100000) : nI v < a ↔ nI (v + 1) ≤ a := by
  rw [Int32.lt_iff_toInt_lt, Int32.le_iff_toInt_le, nI_toInt (by omega), nI_toInt (by omega)]
  omega
theorem app60 {f g : Nat → Int32} {k : Nat} (hk : k < 60) (x : Int32) : f_X1_append (nI k) f x = some (nI (k + 1), upd f k x) := by
  unfold f_X1_append
  rw [if_neg (show ¬ (60 : Int32) ≤ nI k from nI_ge (b := 60) hk (by decide)), si_n hk (by decide), nI_1]
  rfl
theorem app20 {f : Nat → Int32} {k : Nat} (hk : k < 20) (x : Int32) : f_X0_append (nI k) f x = some (nI (k + 1), upd f k x) := by
  unfold f_X0_append
  rw [if_neg (show ¬ (20 : Int32) ≤ nI k from nI_ge (b := 20) hk (by decide)), si_n hk (by decide), nI_1]
  rfl
theorem l2_road (x_x_net_posts : Int32) (x_x_net_pairs : Int32) (x_x_net_widths : Nat → Int32) (x_x_net_lengths : Nat → Int32) (x_x_net_told : Nat → Int32) (x_x_net_behind : Nat → Int32) (x_x_view_posts : Int32) (x_x_view_roads : Int32) (x_x_view_weight : Int32) (x_x_view_weights : Nat → Int32) (x_x_view_near : Nat → Int32) (x_x_view_behind : Nat → Int32) (x_x_view_ahead : Nat → Int32) (x_x_history_oldest : Int32) (x_x_history_size : Int32) (x_x_history_kept_posts : Nat → Int32) (x_x_history_kept_pairs : Nat → Int32) (x_x_history_kept_widths : Nat → Nat → Int32) (x_x_history_kept_lengths : Nat → Nat → Int32) (x_x_history_kept_told : Nat → Nat → Int32) (x_x_history_kept_behind : Nat → Nat → Int32) (x_x_hand_size : Int32) (x_x_hand_posts : Nat → Int32) (x_x_trial_size : Int32) (x_x_trial_posts : Nat → Int32) (x_x_bags_size : Int32) (x_x_bags_sets : Nat → Int32) (x_x_chase_size : Int32) (x_x_chase_guarded : Int32) (x_x_chase_most : Int32) (x_x_chase_again : Int32) (x_x_chase_idle : Int32) (x_x_chase_moves : Nat → Int32) (x_x_chase_foul : Nat → Int32) (x_x_sets_solvedFor : Int32) (x_x_sets_lowest : Int32) (x_x_sets_total : Int32) (x_x_sets_pricedFor : Int32) (x_x_sets_prices : Nat → Int32) (x_x_sets_rests : Nat → Int32) (x_x_sets_ways : Nat → Int32) (x_x_trials_solvedFor : Int32) (x_x_trials_lowest : Int32) (x_x_trials_total : Int32) (x_x_trials_found : Nat → Int32) (x_x_trials_row_size : Int32) (x_x_trials_row_posts : Nat → Int32) (x_m_thrown : Int32) (x_m_posts : Int32) (x_m_pairs : Int32) (x_m_keptEnd : Int32) (x_m_kept : Int32) (x_m_many : Int32) (x_m_bags : Int32) (x_m_moves : Int32) (x_m_pen : Int32) (x_m_savedMany : Int32) (x_m_leastRow : Int32) (x_m_bestRows : Int32) (x_m_askedRow : Int32) (x_m_rankOfSaved : Int32) (x_m_wallSet : Int32) (x_m_fouledAgain : Int32) (x_m_wide : Nat → Int32) (x_m_places : Nat → Int32) (x_m_weights : Nat → Int32) (x_m_pair : Nat → Int32) (x_m_old : Nat → Int32) (x_m_row : Nat → Int32) (x_m_bag : Nat → Int32) (x_m_hunt : Nat → Int32) (x_m_behind : Nat → Int32) (x_m_least : Nat → Int32) (x_m_ways : Nat → Int32) (x_m_saved : Nat → Int32) (x_m_kth : Nat → Int32) (x_m_clean : Nat → Int32) (a1 : Int32) (a2 : Int32) (h : Rel x_x_net_posts x_x_net_pairs x_x_net_widths x_x_net_lengths x_x_net_told x_x_net_behind x_x_view_posts x_x_view_roads x_x_view_weight x_x_view_weights x_x_view_near x_x_view_behind x_x_view_ahead x_x_history_oldest x_x_history_size x_x_history_kept_posts x_x_history_kept_pairs x_x_history_kept_widths x_x_history_kept_lengths x_x_history_kept_told x_x_history_kept_behind x_x_hand_size x_x_hand_posts x_x_trial_size x_x_trial_posts x_x_bags_size x_x_bags_sets x_x_chase_size x_x_chase_guarded x_x_chase_most x_x_chase_again x_x_chase_idle x_x_chase_moves x_x_chase_foul x_x_sets_solvedFor x_x_sets_lowest x_x_sets_total x_x_sets_pricedFor x_x_sets_prices x_x_sets_rests x_x_sets_ways x_x_trials_solvedFor x_x_trials_lowest x_x_trials_total x_x_trials_found x_x_trials_row_size x_x_trials_row_posts x_m_thrown x_m_posts x_m_pairs x_m_keptEnd x_m_kept x_m_many x_m_bags x_m_moves x_m_pen x_m_savedMany x_m_leastRow x_m_bestRows x_m_askedRow x_m_rankOfSaved x_m_wallSet x_m_fouledAgain x_m_wide x_m_places x_m_weights x_m_pair x_m_old x_m_row x_m_bag x_m_hunt x_m_behind x_m_least x_m_ways x_m_saved x_m_kth x_m_clean) : ∃ (r : Int32) (o_m_thrown : Int32), f_X10_road x_x_net_posts x_x_view_weights a1 a2 = some r ∧ f_X11_road x_m_thrown x_m_posts x_m_wide x_m_places x_m_weights a1 a2 = some (r, o_m_thrown) ∧ Rel x_x_net_posts x_x_net_pairs x_x_net_widths x_x_net_lengths x_x_net_told x_x_net_behind x_x_view_posts x_x_view_roads x_x_view_weight x_x_view_weights x_x_view_near x_x_view_behind x_x_view_ahead x_x_history_oldest x_x_history_size x_x_history_kept_posts x_x_history_kept_pairs x_x_history_kept_widths x_x_history_kept_lengths x_x_history_kept_told x_x_history_kept_behind x_x_hand_size x_x_hand_posts x_x_trial_size x_x_trial_posts x_x_bags_size x_x_bags_sets x_x_chase_size x_x_chase_guarded x_x_chase_most x_x_chase_again x_x_chase_idle x_x_chase_moves x_x_chase_foul x_x_sets_solvedFor x_x_sets_lowest x_x_sets_total x_x_sets_pricedFor x_x_sets_prices x_x_sets_rests x_x_sets_ways x_x_trials_solvedFor x_x_trials_lowest x_x_trials_total x_x_trials_found x_x_trials_row_size x_x_trials_row_posts o_m_thrown x_m_posts x_m_pairs x_m_keptEnd x_m_kept x_m_many x_m_bags x_m_moves x_m_pen x_m_savedMany x_m_leastRow x_m_bestRows x_m_askedRow x_m_rankOfSaved x_m_wallSet x_m_fouledAgain x_m_wide x_m_places x_m_weights x_m_pair x_m_old x_m_row x_m_bag x_m_hunt x_m_behind x_m_least x_m_ways x_m_saved x_m_kth x_m_clean := by
  obtain ⟨n, h1, h2, h3, h4, h5, h6, h7, h8⟩ := h
  have hn : n ≤ 11 := h1.1
  have ep := h1.2.1
  have em := h1.2.2.1
  have hw := h2.2.2.2.1
  rcases isPost_n hn a1 with ⟨i, hi, ha, p1, p2⟩ | ⟨ha, p1, p2⟩
  · rcases isPost_n hn a2 with ⟨j, hj, hb, q1, q2⟩ | ⟨hb, q1, q2⟩
    · by_cases hij : i = j
      · refine ⟨(-3 : Int32), 0, ?_, ?_, Rel_mk h1 h2 h3 h4 h5 h6 h7 h8⟩
        · unfold f_X10_road f_X4_hasBoth
          rw [ep, p2, q2, ha, hb, hij]
          simp
        · unfold f_X11_road
          rw [em, p1, q1, ha, hb, hij]
          simp
      · have hne : ¬ nI i = nI j := fun q => hij ((nI_eq (by omega) (by omega)).mp q)
        refine ⟨rdM x_m_wide x_m_places x_m_weights i j, 0, ?_, ?_, Rel_mk h1 h2 h3 h4 h5 h6 h7 h8⟩
        · unfold f_X10_road f_X4_hasBoth
          rw [ep, p2, q2, ha, hb, weightOf_n (by omega) (by omega), hw i j (by omega) (by omega), (if_pos (show i < n ∧ j < n from ⟨hi, hj⟩) : (if i < n ∧ j < n then rdM x_m_wide x_m_places x_m_weights i j else 0) = _)]
          simp [hne]
        · unfold f_X11_road
          rw [em, p1, q1, ha, hb, roadOf_n (by omega) (by omega)]
          simp [hne]
    · refine ⟨(-3 : Int32), 0, ?_, ?_, Rel_mk h1 h2 h3 h4 h5 h6 h7 h8⟩
      · unfold f_X10_road f_X4_hasBoth
        rw [ep, p2, q2]
        simp
      · unfold f_X11_road
        rw [em, p1, q1]
        simp
  · refine ⟨(-3 : Int32), 0, ?_, ?_, Rel_mk h1 h2 h3 h4 h5 h6 h7 h8⟩
    · unfold f_X10_road f_X4_hasBoth
      rw [ep, p2]
      simp
    · unfold f_X11_road
      rw [em, p1]
      simp
theorem huntIn (a : Int32) : (∃ v, (v < 11 ∨ (100 ≤ v ∧ v < 111)) ∧ a = nI v) ∨ ((a < 0 ∨ (11 : Int32) ≤ a) ∧ (a < (100 : Int32) ∨ (111 : Int32) ≤ a)) := by
  by_cases h0 : a < 0
  · exact Or.inr ⟨Or.inl h0, Or.inl (Int32.lt_iff_toInt_lt.mpr (by
      have h1 := Int32.lt_iff_toInt_lt.mp h0
      have e0 : (0 : Int32).toInt = 0 := by decide
      have e1 : (100 : Int32).toInt = 100 := by decide
      omega))⟩
  · obtain ⟨j, hj, rfl⟩ := nI_of h0
    rcases Nat.lt_or_ge j 11 with h1 | h1
    · exact Or.inl ⟨j, Or.inl h1, rfl⟩
    · rcases Nat.lt_or_ge j 100 with h2 | h2
      · exact Or.inr ⟨Or.inr (nI_le (a := 11) h1 hj), Or.inl (nI_lt (b := 100) h2 (by decide))⟩
      · rcases Nat.lt_or_ge j 111 with h3 | h3
        · exact Or.inl ⟨j, Or.inr ⟨h2, h3⟩, rfl⟩
        · exact Or.inr ⟨Or.inr (nI_le (a := 11) h1 hj), Or.inr (nI_le (a := 111) h3 hj)⟩
theorem in_lit {v lo hi : Nat} (hv : v < 100000) (hlo : lo < 100000) (hhi : hi < 100000) : f_X11_in (nI v) (nI lo) (nI hi) = some (if v < lo then 0 else if hi < v then 0 else 1) := by
  unfold f_X11_in
  by_cases h1 : v < lo
  · rw [if_pos (nI_lt h1 (by omega)), if_pos h1]
  · rw [if_neg (nI_nlt (Nat.not_lt.mp h1) (by omega)), if_neg h1]
    by_cases h2 : hi < v
    · rw [if_pos (nI_lt h2 (by omega)), if_pos h2]
    · rw [if_neg (nI_nlt (Nat.not_lt.mp h2) (by omega)), if_neg h2]
theorem l2_hunt (x_x_net_posts : Int32) (x_x_net_pairs : Int32) (x_x_net_widths : Nat → Int32) (x_x_net_lengths : Nat → Int32) (x_x_net_told : Nat → Int32) (x_x_net_behind : Nat → Int32) (x_x_view_posts : Int32) (x_x_view_roads : Int32) (x_x_view_weight : Int32) (x_x_view_weights : Nat → Int32) (x_x_view_near : Nat → Int32) (x_x_view_behind : Nat → Int32) (x_x_view_ahead : Nat → Int32) (x_x_history_oldest : Int32) (x_x_history_size : Int32) (x_x_history_kept_posts : Nat → Int32) (x_x_history_kept_pairs : Nat → Int32) (x_x_history_kept_widths : Nat → Nat → Int32) (x_x_history_kept_lengths : Nat → Nat → Int32) (x_x_history_kept_told : Nat → Nat → Int32) (x_x_history_kept_behind : Nat → Nat → Int32) (x_x_hand_size : Int32) (x_x_hand_posts : Nat → Int32) (x_x_trial_size : Int32) (x_x_trial_posts : Nat → Int32) (x_x_bags_size : Int32) (x_x_bags_sets : Nat → Int32) (x_x_chase_size : Int32) (x_x_chase_guarded : Int32) (x_x_chase_most : Int32) (x_x_chase_again : Int32) (x_x_chase_idle : Int32) (x_x_chase_moves : Nat → Int32) (x_x_chase_foul : Nat → Int32) (x_x_sets_solvedFor : Int32) (x_x_sets_lowest : Int32) (x_x_sets_total : Int32) (x_x_sets_pricedFor : Int32) (x_x_sets_prices : Nat → Int32) (x_x_sets_rests : Nat → Int32) (x_x_sets_ways : Nat → Int32) (x_x_trials_solvedFor : Int32) (x_x_trials_lowest : Int32) (x_x_trials_total : Int32) (x_x_trials_found : Nat → Int32) (x_x_trials_row_size : Int32) (x_x_trials_row_posts : Nat → Int32) (x_m_thrown : Int32) (x_m_posts : Int32) (x_m_pairs : Int32) (x_m_keptEnd : Int32) (x_m_kept : Int32) (x_m_many : Int32) (x_m_bags : Int32) (x_m_moves : Int32) (x_m_pen : Int32) (x_m_savedMany : Int32) (x_m_leastRow : Int32) (x_m_bestRows : Int32) (x_m_askedRow : Int32) (x_m_rankOfSaved : Int32) (x_m_wallSet : Int32) (x_m_fouledAgain : Int32) (x_m_wide : Nat → Int32) (x_m_places : Nat → Int32) (x_m_weights : Nat → Int32) (x_m_pair : Nat → Int32) (x_m_old : Nat → Int32) (x_m_row : Nat → Int32) (x_m_bag : Nat → Int32) (x_m_hunt : Nat → Int32) (x_m_behind : Nat → Int32) (x_m_least : Nat → Int32) (x_m_ways : Nat → Int32) (x_m_saved : Nat → Int32) (x_m_kth : Nat → Int32) (x_m_clean : Nat → Int32) (a1 : Int32) (h : Rel x_x_net_posts x_x_net_pairs x_x_net_widths x_x_net_lengths x_x_net_told x_x_net_behind x_x_view_posts x_x_view_roads x_x_view_weight x_x_view_weights x_x_view_near x_x_view_behind x_x_view_ahead x_x_history_oldest x_x_history_size x_x_history_kept_posts x_x_history_kept_pairs x_x_history_kept_widths x_x_history_kept_lengths x_x_history_kept_told x_x_history_kept_behind x_x_hand_size x_x_hand_posts x_x_trial_size x_x_trial_posts x_x_bags_size x_x_bags_sets x_x_chase_size x_x_chase_guarded x_x_chase_most x_x_chase_again x_x_chase_idle x_x_chase_moves x_x_chase_foul x_x_sets_solvedFor x_x_sets_lowest x_x_sets_total x_x_sets_pricedFor x_x_sets_prices x_x_sets_rests x_x_sets_ways x_x_trials_solvedFor x_x_trials_lowest x_x_trials_total x_x_trials_found x_x_trials_row_size x_x_trials_row_posts x_m_thrown x_m_posts x_m_pairs x_m_keptEnd x_m_kept x_m_many x_m_bags x_m_moves x_m_pen x_m_savedMany x_m_leastRow x_m_bestRows x_m_askedRow x_m_rankOfSaved x_m_wallSet x_m_fouledAgain x_m_wide x_m_places x_m_weights x_m_pair x_m_old x_m_row x_m_bag x_m_hunt x_m_behind x_m_least x_m_ways x_m_saved x_m_kth x_m_clean) : ∃ (r : Int32) (o_x_chase_size : Int32) (o_x_chase_moves : Nat → Int32) (o_m_thrown : Int32) (o_m_moves : Int32) (o_m_hunt : Nat → Int32), f_X10_hunt x_x_chase_size x_x_chase_moves a1 = some (r, o_x_chase_size, o_x_chase_moves) ∧ f_X11_hunt x_m_thrown x_m_moves x_m_hunt a1 = some (r, o_m_thrown, o_m_moves, o_m_hunt) ∧ Rel x_x_net_posts x_x_net_pairs x_x_net_widths x_x_net_lengths x_x_net_told x_x_net_behind x_x_view_posts x_x_view_roads x_x_view_weight x_x_view_weights x_x_view_near x_x_view_behind x_x_view_ahead x_x_history_oldest x_x_history_size x_x_history_kept_posts x_x_history_kept_pairs x_x_history_kept_widths x_x_history_kept_lengths x_x_history_kept_told x_x_history_kept_behind x_x_hand_size x_x_hand_posts x_x_trial_size x_x_trial_posts x_x_bags_size x_x_bags_sets o_x_chase_size x_x_chase_guarded x_x_chase_most x_x_chase_again x_x_chase_idle o_x_chase_moves x_x_chase_foul x_x_sets_solvedFor x_x_sets_lowest x_x_sets_total x_x_sets_pricedFor x_x_sets_prices x_x_sets_rests x_x_sets_ways x_x_trials_solvedFor x_x_trials_lowest x_x_trials_total x_x_trials_found x_x_trials_row_size x_x_trials_row_posts o_m_thrown x_m_posts x_m_pairs x_m_keptEnd x_m_kept x_m_many x_m_bags o_m_moves x_m_pen x_m_savedMany x_m_leastRow x_m_bestRows x_m_askedRow x_m_rankOfSaved x_m_wallSet x_m_fouledAgain x_m_wide x_m_places x_m_weights x_m_pair x_m_old x_m_row x_m_bag o_m_hunt x_m_behind x_m_least x_m_ways x_m_saved x_m_kth x_m_clean := by
  obtain ⟨n, h1, h2, h3, h4, h5, h6, h7, h8⟩ := h
  obtain ⟨k, hk, e1, e2, e3⟩ := id h6
  have d10 : ¬ (1 : Int32) = 0 := by decide
  have d00 : (0 : Int32) = 0 := rfl
  rcases huntIn a1 with ⟨v, hv, ha⟩ | ⟨hb1, hb2⟩
  · have hv2 : v < 111 := by omega
    have c1 : ¬ nI v < 0 := nI_pos (by omega)
    rcases Nat.lt_or_ge k 60 with h60 | h60
    · have c4 : nI k < (60 : Int32) := nI_lt (b := 60) h60 (by decide)
      have c5 : ¬ nI k = (60 : Int32) := fun q => by have := (nI_eq (b := 60) (by omega) (by decide)).mp q; omega
      refine ⟨nI (k + 1), nI (k + 1), upd x_x_chase_moves k a1, 0, nI (k + 1), upd x_m_hunt k a1, ?_, ?_, Rel_mk h1 h2 h3 h4 h5 ⟨k + 1, by omega, rfl, rfl, upd_rel (P := fun y => ∃ v, (v < 11 ∨ (100 ≤ v ∧ v < 111)) ∧ y = nI v) e3 ⟨v, hv, ha⟩⟩ h7 h8⟩
      · unfold f_X10_hunt
        rw [e1, ha]
        rcases hv with hv | ⟨hv, hv3⟩
        · have c2 : ¬ (11 : Int32) ≤ nI v := nI_ge (b := 11) hv (by decide)
          have c3 : nI v < (100 : Int32) := nI_lt (b := 100) (by omega) (by decide)
          simp only [if_neg c1, if_neg c2, if_pos c3, Option.bind_some, if_neg d10, if_pos c4, app60 (g := x_m_hunt) h60]
          rfl
        · have c2 : (11 : Int32) ≤ nI v := nI_le (a := 11) (by omega) (by omega)
          have c3 : ¬ nI v < (100 : Int32) := nI_nlt (b := 100) hv (by omega)
          have c6 : ¬ (111 : Int32) ≤ nI v := nI_ge (b := 111) hv3 (by decide)
          simp only [if_neg c1, if_pos c2, if_neg c3, if_neg c6, Option.bind_some, if_neg d10, if_pos d00, if_true, if_pos c4, app60 (g := x_m_hunt) h60]
          rfl
      · unfold f_X11_hunt
        rw [e2, ha, show f_X11_in (nI v) (0 : Int32) (10 : Int32) = _ from in_lit (lo := 0) (hi := 10) (by omega) (by omega) (by omega), show f_X11_in (nI v) (100 : Int32) (110 : Int32) = _ from in_lit (lo := 100) (hi := 110) (by omega) (by omega) (by omega), si_n h60 (by decide), nI_1]
        rcases hv with hv | ⟨hv, hv3⟩
        · simp only [if_neg (show ¬ v < 0 by omega), if_neg (show ¬ 10 < v by omega), Option.bind_some, if_neg d10, if_neg c5]
        · simp only [if_neg (show ¬ v < 0 by omega), if_pos (show 10 < v by omega), if_neg (show ¬ v < 100 by omega), if_neg (show ¬ 110 < v by omega), Option.bind_some, if_pos d00, if_true, if_neg d10, if_neg c5]
    · have ek : k = 60 := by omega
      subst ek
      have c4 : ¬ nI 60 < (60 : Int32) := nI_nlt (a := 60) (b := 60) (by omega) (by decide)
      have c5 : nI 60 = (60 : Int32) := rfl
      refine ⟨(-5 : Int32), x_x_chase_size, x_x_chase_moves, 0, x_m_moves, x_m_hunt, ?_, ?_, Rel_mk h1 h2 h3 h4 h5 h6 h7 h8⟩
      · unfold f_X10_hunt
        rw [e1, ha]
        rcases hv with hv | ⟨hv, hv3⟩
        · have c2 : ¬ (11 : Int32) ≤ nI v := nI_ge (b := 11) hv (by decide)
          have c3 : nI v < (100 : Int32) := nI_lt (b := 100) (by omega) (by decide)
          simp only [if_neg c1, if_neg c2, if_pos c3, Option.bind_some, if_neg d10, if_neg c4]
        · have c2 : (11 : Int32) ≤ nI v := nI_le (a := 11) (by omega) (by omega)
          have c3 : ¬ nI v < (100 : Int32) := nI_nlt (b := 100) hv (by omega)
          have c6 : ¬ (111 : Int32) ≤ nI v := nI_ge (b := 111) hv3 (by decide)
          simp only [if_neg c1, if_pos c2, if_neg c3, if_neg c6, Option.bind_some, if_neg d10, if_pos d00, if_true, if_neg c4]
      · unfold f_X11_hunt
        rw [e2, ha, show f_X11_in (nI v) (0 : Int32) (10 : Int32) = _ from in_lit (lo := 0) (hi := 10) (by omega) (by omega) (by omega), show f_X11_in (nI v) (100 : Int32) (110 : Int32) = _ from in_lit (lo := 100) (hi := 110) (by omega) (by omega) (by omega)]
        rcases hv with hv | ⟨hv, hv3⟩
        · simp only [if_neg (show ¬ v < 0 by omega), if_neg (show ¬ 10 < v by omega), Option.bind_some, if_neg d10, if_pos c5]
        · simp only [if_neg (show ¬ v < 0 by omega), if_pos (show 10 < v by omega), if_neg (show ¬ v < 100 by omega), if_neg (show ¬ 110 < v by omega), Option.bind_some, if_pos d00, if_true, if_neg d10, if_pos c5]
  · refine ⟨(-3 : Int32), x_x_chase_size, x_x_chase_moves, 0, x_m_moves, x_m_hunt, ?_, ?_, Rel_mk h1 h2 h3 h4 h5 h6 h7 h8⟩
    · unfold f_X10_hunt
      have t1 : ((if a1 < 0 then (some (0 : Int32)) else (if (11 : Int32) ≤ a1 then (some (0 : Int32)) else (some (1 : Int32))) : Option (Int32))) = some 0 := by
        by_cases h0 : a1 < 0
        · rw [if_pos h0]
        · rw [if_neg h0, if_pos (hb1.resolve_left h0)]
      have t3 : ((if a1 < (100 : Int32) then (some (0 : Int32)) else (if (111 : Int32) ≤ a1 then (some (0 : Int32)) else (some (1 : Int32))) : Option (Int32))) = some 0 := by
        by_cases h0 : a1 < (100 : Int32)
        · rw [if_pos h0]
        · rw [if_neg h0, if_pos (hb2.resolve_left h0)]
      rw [t1, t3]
      rfl
    · unfold f_X11_hunt
      have t1 : f_X11_in a1 (0 : Int32) (10 : Int32) = some 0 := by
        unfold f_X11_in
        by_cases h0 : a1 < 0
        · rw [if_pos h0]
        · rw [if_neg h0, if_pos (show (10 : Int32) < a1 from (lt_c (v := 10) (by omega)).mpr (hb1.resolve_left h0))]
      have t3 : f_X11_in a1 (100 : Int32) (110 : Int32) = some 0 := by
        unfold f_X11_in
        by_cases h0 : a1 < (100 : Int32)
        · rw [if_pos h0]
        · rw [if_neg h0, if_pos (show (110 : Int32) < a1 from (lt_c (v := 110) (by omega)).mpr (hb2.resolve_left h0))]
      rw [t1, t3]
      rfl
theorem l2_lay (x_x_net_posts : Int32) (x_x_net_pairs : Int32) (x_x_net_widths : Nat → Int32) (x_x_net_lengths : Nat → Int32) (x_x_net_told : Nat → Int32) (x_x_net_behind : Nat → Int32) (x_x_view_posts : Int32) (x_x_view_roads : Int32) (x_x_view_weight : Int32) (x_x_view_weights : Nat → Int32) (x_x_view_near : Nat → Int32) (x_x_view_behind : Nat → Int32) (x_x_view_ahead : Nat → Int32) (x_x_history_oldest : Int32) (x_x_history_size : Int32) (x_x_history_kept_posts : Nat → Int32) (x_x_history_kept_pairs : Nat → Int32) (x_x_history_kept_widths : Nat → Nat → Int32) (x_x_history_kept_lengths : Nat → Nat → Int32) (x_x_history_kept_told : Nat → Nat → Int32) (x_x_history_kept_behind : Nat → Nat → Int32) (x_x_hand_size : Int32) (x_x_hand_posts : Nat → Int32) (x_x_trial_size : Int32) (x_x_trial_posts : Nat → Int32) (x_x_bags_size : Int32) (x_x_bags_sets : Nat → Int32) (x_x_chase_size : Int32) (x_x_chase_guarded : Int32) (x_x_chase_most : Int32) (x_x_chase_again : Int32) (x_x_chase_idle : Int32) (x_x_chase_moves : Nat → Int32) (x_x_chase_foul : Nat → Int32) (x_x_sets_solvedFor : Int32) (x_x_sets_lowest : Int32) (x_x_sets_total : Int32) (x_x_sets_pricedFor : Int32) (x_x_sets_prices : Nat → Int32) (x_x_sets_rests : Nat → Int32) (x_x_sets_ways : Nat → Int32) (x_x_trials_solvedFor : Int32) (x_x_trials_lowest : Int32) (x_x_trials_total : Int32) (x_x_trials_found : Nat → Int32) (x_x_trials_row_size : Int32) (x_x_trials_row_posts : Nat → Int32) (x_m_thrown : Int32) (x_m_posts : Int32) (x_m_pairs : Int32) (x_m_keptEnd : Int32) (x_m_kept : Int32) (x_m_many : Int32) (x_m_bags : Int32) (x_m_moves : Int32) (x_m_pen : Int32) (x_m_savedMany : Int32) (x_m_leastRow : Int32) (x_m_bestRows : Int32) (x_m_askedRow : Int32) (x_m_rankOfSaved : Int32) (x_m_wallSet : Int32) (x_m_fouledAgain : Int32) (x_m_wide : Nat → Int32) (x_m_places : Nat → Int32) (x_m_weights : Nat → Int32) (x_m_pair : Nat → Int32) (x_m_old : Nat → Int32) (x_m_row : Nat → Int32) (x_m_bag : Nat → Int32) (x_m_hunt : Nat → Int32) (x_m_behind : Nat → Int32) (x_m_least : Nat → Int32) (x_m_ways : Nat → Int32) (x_m_saved : Nat → Int32) (x_m_kth : Nat → Int32) (x_m_clean : Nat → Int32) (a1 : Int32) (h : Rel x_x_net_posts x_x_net_pairs x_x_net_widths x_x_net_lengths x_x_net_told x_x_net_behind x_x_view_posts x_x_view_roads x_x_view_weight x_x_view_weights x_x_view_near x_x_view_behind x_x_view_ahead x_x_history_oldest x_x_history_size x_x_history_kept_posts x_x_history_kept_pairs x_x_history_kept_widths x_x_history_kept_lengths x_x_history_kept_told x_x_history_kept_behind x_x_hand_size x_x_hand_posts x_x_trial_size x_x_trial_posts x_x_bags_size x_x_bags_sets x_x_chase_size x_x_chase_guarded x_x_chase_most x_x_chase_again x_x_chase_idle x_x_chase_moves x_x_chase_foul x_x_sets_solvedFor x_x_sets_lowest x_x_sets_total x_x_sets_pricedFor x_x_sets_prices x_x_sets_rests x_x_sets_ways x_x_trials_solvedFor x_x_trials_lowest x_x_trials_total x_x_trials_found x_x_trials_row_size x_x_trials_row_posts x_m_thrown x_m_posts x_m_pairs x_m_keptEnd x_m_kept x_m_many x_m_bags x_m_moves x_m_pen x_m_savedMany x_m_leastRow x_m_bestRows x_m_askedRow x_m_rankOfSaved x_m_wallSet x_m_fouledAgain x_m_wide x_m_places x_m_weights x_m_pair x_m_old x_m_row x_m_bag x_m_hunt x_m_behind x_m_least x_m_ways x_m_saved x_m_kth x_m_clean) : ∃ (r : Int32) (o_x_bags_size : Int32) (o_x_bags_sets : Nat → Int32) (o_m_thrown : Int32) (o_m_bags : Int32) (o_m_bag : Nat → Int32), f_X10_lay x_x_net_posts x_x_bags_size x_x_bags_sets a1 = some (r, o_x_bags_size, o_x_bags_sets) ∧ f_X11_lay x_m_thrown x_m_posts x_m_bags x_m_bag a1 = some (r, o_m_thrown, o_m_bags, o_m_bag) ∧ Rel x_x_net_posts x_x_net_pairs x_x_net_widths x_x_net_lengths x_x_net_told x_x_net_behind x_x_view_posts x_x_view_roads x_x_view_weight x_x_view_weights x_x_view_near x_x_view_behind x_x_view_ahead x_x_history_oldest x_x_history_size x_x_history_kept_posts x_x_history_kept_pairs x_x_history_kept_widths x_x_history_kept_lengths x_x_history_kept_told x_x_history_kept_behind x_x_hand_size x_x_hand_posts x_x_trial_size x_x_trial_posts o_x_bags_size o_x_bags_sets x_x_chase_size x_x_chase_guarded x_x_chase_most x_x_chase_again x_x_chase_idle x_x_chase_moves x_x_chase_foul x_x_sets_solvedFor x_x_sets_lowest x_x_sets_total x_x_sets_pricedFor x_x_sets_prices x_x_sets_rests x_x_sets_ways x_x_trials_solvedFor x_x_trials_lowest x_x_trials_total x_x_trials_found x_x_trials_row_size x_x_trials_row_posts o_m_thrown x_m_posts x_m_pairs x_m_keptEnd x_m_kept x_m_many o_m_bags x_m_moves x_m_pen x_m_savedMany x_m_leastRow x_m_bestRows x_m_askedRow x_m_rankOfSaved x_m_wallSet x_m_fouledAgain x_m_wide x_m_places x_m_weights x_m_pair x_m_old x_m_row o_m_bag x_m_hunt x_m_behind x_m_least x_m_ways x_m_saved x_m_kth x_m_clean := by
  obtain ⟨n, h1, h2, h3, h4, h5, h6, h7, h8⟩ := h
  obtain ⟨k, hk, e1, e2, e3⟩ := id h5
  have hn : n ≤ 11 := h1.1
  have ep := h1.2.1
  have em := h1.2.2.1
  have d10 : ¬ (1 : Int32) = 0 := by decide
  have hpow : 2 ^ n ≤ 2 ^ 11 := Nat.pow_le_pow_right (by decide) hn
  have hpos : 0 < 2 ^ n := Nat.pow_pos (by decide)
  have hw : nI (2 ^ n - 1) = nI (2 ^ n) - (1 : Int32) := (pk_sub (b := 1) hpos).symm
  rcases in_n (k := 2 ^ n) (by omega) a1 with ⟨j, hj, ha, hi⟩ | ⟨ha, hi⟩
  · have c1 : ¬ nI j < 0 := nI_pos (by omega)
    have c2 : nI j < nI (2 ^ n) := nI_lt hj (by omega)
    rcases Nat.lt_or_ge k 20 with h20 | h20
    · have c4 : nI k < (20 : Int32) := nI_lt (b := 20) h20 (by decide)
      have c5 : ¬ nI k = (20 : Int32) := fun q => by have := (nI_eq (b := 20) (by omega) (by decide)).mp q; omega
      refine ⟨nI (k + 1), nI (k + 1), upd x_x_bags_sets k a1, 0, nI (k + 1), upd x_m_bag k a1, ?_, ?_, Rel_mk h1 h2 h3 h4 ⟨k + 1, by omega, rfl, rfl, upd_rel (P := fun y => ∃ s, s < 2048 ∧ y = nI s) e3 ⟨j, by omega, ha⟩⟩ h6 h7 h8⟩
      · unfold f_X10_lay
        rw [e1, ep, one_shl (by omega), ha, if_neg c1, if_pos c2, if_pos c4, app20 h20]
        rfl
      · unfold f_X11_lay
        rw [e2, em, whole_n hn, si_n h20 (by decide), nI_1]
        simp only [Option.bind_some]
        rw [hw, hi]
        simp only [Option.bind_some, if_neg d10, if_neg c5]
    · have ek : k = 20 := by omega
      subst ek
      have c4 : ¬ nI 20 < (20 : Int32) := nI_nlt (a := 20) (b := 20) (by omega) (by decide)
      have c5 : nI 20 = (20 : Int32) := rfl
      refine ⟨(-5 : Int32), x_x_bags_size, x_x_bags_sets, 0, x_m_bags, x_m_bag, ?_, ?_, Rel_mk h1 h2 h3 h4 h5 h6 h7 h8⟩
      · unfold f_X10_lay
        rw [e1, ep, one_shl (by omega), ha, if_neg c1, if_pos c2, if_neg c4]
      · unfold f_X11_lay
        rw [e2, em, whole_n hn]
        simp only [Option.bind_some]
        rw [hw, hi]
        simp only [Option.bind_some, if_neg d10, if_pos c5]
  · refine ⟨(-3 : Int32), x_x_bags_size, x_x_bags_sets, 0, x_m_bags, x_m_bag, ?_, ?_, Rel_mk h1 h2 h3 h4 h5 h6 h7 h8⟩
    · unfold f_X10_lay
      rw [ep, one_shl (by omega)]
      by_cases h0 : a1 < 0
      · rw [if_pos h0]
      · rw [if_neg h0, if_neg (Int32.not_lt.mpr (ha.resolve_left h0))]
    · unfold f_X11_lay
      rw [em, whole_n hn]
      simp only [Option.bind_some]
      rw [hw, hi]
      rfl
