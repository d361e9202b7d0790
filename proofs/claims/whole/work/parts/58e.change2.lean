/-! LAYER 2: copy, part, undo -/
theorem copyM_n {wt : Nat → Int32} {i j L : Nat} (hi : i < 11) (hj : j < 11) (hL : L ≤ 11) : loopS (fun (s : Int32 × (Nat → Int32)) => f_X11_copy_L99 (nI i) (nI j) (nI L) s.1 s.2) ((0 : Int32), wt) = some (wrM wt (11 * j) (fun q => wt (11 * i + q)) L) := by
  refine loop_go (fun k => (nI k, wrM wt (11 * j) (fun q => wt (11 * i + q)) k)) L ?_ (fun k hk => ?_) ?_
  · rw [wrM_0]
    rfl
  · dsimp only
    unfold f_X11_copy_L99
    have e : wrM wt (11 * j) (fun q => wt (11 * i + q)) k (11 * i + k) = wt (11 * i + k) := by
      unfold wrM
      rw [if_neg (by omega)]
    rw [if_neg (nI_ge hk (by omega)), ix11, ix11, gi_n (by omega) (by omega), e]
    simp only [Option.bind_some]
    rw [si_n (by omega) (by omega), nI_1, ← wrM_s]
    rfl
  · dsimp only
    unfold f_X11_copy_L99
    rw [if_pos (nI_le (Nat.le_refl L) (by omega))]
theorem mul11 (a : Nat) : nI a * (11 : Int32) = nI (11 * a) := by
  show nI a * nI 11 = _
  rw [pk_mul, Nat.mul_comm]
theorem l2_copy (x_x_net_posts : Int32) (x_x_net_pairs : Int32) (x_x_net_widths : Nat → Int32) (x_x_net_lengths : Nat → Int32) (x_x_net_told : Nat → Int32) (x_x_net_behind : Nat → Int32) (x_x_view_posts : Int32) (x_x_view_roads : Int32) (x_x_view_weight : Int32) (x_x_view_weights : Nat → Int32) (x_x_view_near : Nat → Int32) (x_x_view_behind : Nat → Int32) (x_x_view_ahead : Nat → Int32) (x_x_history_oldest : Int32) (x_x_history_size : Int32) (x_x_history_kept_posts : Nat → Int32) (x_x_history_kept_pairs : Nat → Int32) (x_x_history_kept_widths : Nat → Nat → Int32) (x_x_history_kept_lengths : Nat → Nat → Int32) (x_x_history_kept_told : Nat → Nat → Int32) (x_x_history_kept_behind : Nat → Nat → Int32) (x_x_hand_size : Int32) (x_x_hand_posts : Nat → Int32) (x_x_trial_size : Int32) (x_x_trial_posts : Nat → Int32) (x_x_bags_size : Int32) (x_x_bags_sets : Nat → Int32) (x_x_chase_size : Int32) (x_x_chase_guarded : Int32) (x_x_chase_most : Int32) (x_x_chase_again : Int32) (x_x_chase_idle : Int32) (x_x_chase_moves : Nat → Int32) (x_x_chase_foul : Nat → Int32) (x_x_sets_solvedFor : Int32) (x_x_sets_lowest : Int32) (x_x_sets_total : Int32) (x_x_sets_pricedFor : Int32) (x_x_sets_prices : Nat → Int32) (x_x_sets_rests : Nat → Int32) (x_x_sets_ways : Nat → Int32) (x_x_trials_solvedFor : Int32) (x_x_trials_lowest : Int32) (x_x_trials_total : Int32) (x_x_trials_found : Nat → Int32) (x_x_trials_row_size : Int32) (x_x_trials_row_posts : Nat → Int32) (x_m_thrown : Int32) (x_m_posts : Int32) (x_m_pairs : Int32) (x_m_keptEnd : Int32) (x_m_kept : Int32) (x_m_many : Int32) (x_m_bags : Int32) (x_m_moves : Int32) (x_m_pen : Int32) (x_m_savedMany : Int32) (x_m_leastRow : Int32) (x_m_bestRows : Int32) (x_m_askedRow : Int32) (x_m_rankOfSaved : Int32) (x_m_wallSet : Int32) (x_m_fouledAgain : Int32) (x_m_wide : Nat → Int32) (x_m_places : Nat → Int32) (x_m_weights : Nat → Int32) (x_m_pair : Nat → Int32) (x_m_old : Nat → Int32) (x_m_row : Nat → Int32) (x_m_bag : Nat → Int32) (x_m_hunt : Nat → Int32) (x_m_behind : Nat → Int32) (x_m_least : Nat → Int32) (x_m_ways : Nat → Int32) (x_m_saved : Nat → Int32) (x_m_kth : Nat → Int32) (x_m_clean : Nat → Int32) (a1 : Int32) (a2 : Int32) (a3 : Int32) (h : Rel x_x_net_posts x_x_net_pairs x_x_net_widths x_x_net_lengths x_x_net_told x_x_net_behind x_x_view_posts x_x_view_roads x_x_view_weight x_x_view_weights x_x_view_near x_x_view_behind x_x_view_ahead x_x_history_oldest x_x_history_size x_x_history_kept_posts x_x_history_kept_pairs x_x_history_kept_widths x_x_history_kept_lengths x_x_history_kept_told x_x_history_kept_behind x_x_hand_size x_x_hand_posts x_x_trial_size x_x_trial_posts x_x_bags_size x_x_bags_sets x_x_chase_size x_x_chase_guarded x_x_chase_most x_x_chase_again x_x_chase_idle x_x_chase_moves x_x_chase_foul x_x_sets_solvedFor x_x_sets_lowest x_x_sets_total x_x_sets_pricedFor x_x_sets_prices x_x_sets_rests x_x_sets_ways x_x_trials_solvedFor x_x_trials_lowest x_x_trials_total x_x_trials_found x_x_trials_row_size x_x_trials_row_posts x_m_thrown x_m_posts x_m_pairs x_m_keptEnd x_m_kept x_m_many x_m_bags x_m_moves x_m_pen x_m_savedMany x_m_leastRow x_m_bestRows x_m_askedRow x_m_rankOfSaved x_m_wallSet x_m_fouledAgain x_m_wide x_m_places x_m_weights x_m_pair x_m_old x_m_row x_m_bag x_m_hunt x_m_behind x_m_least x_m_ways x_m_saved x_m_kth x_m_clean) : ∃ (r : Int32) (o_x_net_told : Nat → Int32) (o_x_view_posts : Int32) (o_x_view_roads : Int32) (o_x_view_weight : Int32) (o_x_view_weights : Nat → Int32) (o_x_view_near : Nat → Int32) (o_x_view_behind : Nat → Int32) (o_x_view_ahead : Nat → Int32) (o_x_history_oldest : Int32) (o_x_history_size : Int32) (o_x_history_kept_posts : Nat → Int32) (o_x_history_kept_pairs : Nat → Int32) (o_x_history_kept_widths : Nat → Nat → Int32) (o_x_history_kept_lengths : Nat → Nat → Int32) (o_x_history_kept_told : Nat → Nat → Int32) (o_x_history_kept_behind : Nat → Nat → Int32) (o_x_sets_solvedFor : Int32) (o_x_sets_pricedFor : Int32) (o_x_trials_solvedFor : Int32) (o_m_thrown : Int32) (o_m_keptEnd : Int32) (o_m_kept : Int32) (o_m_pen : Int32) (o_m_weights : Nat → Int32) (o_m_old : Nat → Int32), f_X10_copy x_x_net_posts x_x_net_pairs x_x_net_widths x_x_net_lengths x_x_net_told x_x_net_behind x_x_view_posts x_x_view_roads x_x_view_weight x_x_view_weights x_x_view_near x_x_view_behind x_x_view_ahead x_x_history_oldest x_x_history_size x_x_history_kept_posts x_x_history_kept_pairs x_x_history_kept_widths x_x_history_kept_lengths x_x_history_kept_told x_x_history_kept_behind x_x_sets_solvedFor x_x_sets_pricedFor x_x_trials_solvedFor a1 a2 a3 = some (r, o_x_net_told, o_x_view_posts, o_x_view_roads, o_x_view_weight, o_x_view_weights, o_x_view_near, o_x_view_behind, o_x_view_ahead, o_x_history_oldest, o_x_history_size, o_x_history_kept_posts, o_x_history_kept_pairs, o_x_history_kept_widths, o_x_history_kept_lengths, o_x_history_kept_told, o_x_history_kept_behind, o_x_sets_solvedFor, o_x_sets_pricedFor, o_x_trials_solvedFor) ∧ f_X11_copy x_m_thrown x_m_posts x_m_pairs x_m_keptEnd x_m_kept x_m_pen x_m_wide x_m_places x_m_weights x_m_pair x_m_old a1 a2 a3 = some (r, o_m_thrown, o_m_keptEnd, o_m_kept, o_m_pen, o_m_weights, o_m_old) ∧ Rel x_x_net_posts x_x_net_pairs x_x_net_widths x_x_net_lengths o_x_net_told x_x_net_behind o_x_view_posts o_x_view_roads o_x_view_weight o_x_view_weights o_x_view_near o_x_view_behind o_x_view_ahead o_x_history_oldest o_x_history_size o_x_history_kept_posts o_x_history_kept_pairs o_x_history_kept_widths o_x_history_kept_lengths o_x_history_kept_told o_x_history_kept_behind x_x_hand_size x_x_hand_posts x_x_trial_size x_x_trial_posts x_x_bags_size x_x_bags_sets x_x_chase_size x_x_chase_guarded x_x_chase_most x_x_chase_again x_x_chase_idle x_x_chase_moves x_x_chase_foul o_x_sets_solvedFor x_x_sets_lowest x_x_sets_total o_x_sets_pricedFor x_x_sets_prices x_x_sets_rests x_x_sets_ways o_x_trials_solvedFor x_x_trials_lowest x_x_trials_total x_x_trials_found x_x_trials_row_size x_x_trials_row_posts o_m_thrown x_m_posts x_m_pairs o_m_keptEnd o_m_kept x_m_many x_m_bags x_m_moves o_m_pen x_m_savedMany x_m_leastRow x_m_bestRows x_m_askedRow x_m_rankOfSaved x_m_wallSet x_m_fouledAgain x_m_wide x_m_places o_m_weights x_m_pair o_m_old x_m_row x_m_bag x_m_hunt x_m_behind x_m_least x_m_ways x_m_saved x_m_kth x_m_clean := by
  obtain ⟨n, h1, h2, h3, h4, h5, h6, h7, h8⟩ := h
  have hn : n ≤ 11 := h1.1
  have ep := h1.2.1
  have em := h1.2.2.1
  subst ep
  subst em
  have d10 : ¬ (1 : Int32) = 0 := by decide
  rcases isPost_n hn a1 with ⟨i, hi, ha, p1, p2⟩ | ⟨ha, p1, p2⟩
  · rcases isPost_n hn a2 with ⟨j, hj, hb, r1, r2⟩ | ⟨hb, r1, r2⟩
    · subst ha
      subst hb
      obtain ⟨s1, s2, s3, L, hL, eL⟩ := h1.2.2.2.2.2.2.1 i hi
      obtain ⟨u1, u2, u3, M, hM, eM⟩ := h1.2.2.2.2.2.2.1 j hj
      by_cases hm : x_m_wide i = (-1 : Int32)
      · refine ⟨(-11 : Int32), x_x_net_told, x_x_view_posts, x_x_view_roads, x_x_view_weight, x_x_view_weights, x_x_view_near, x_x_view_behind, x_x_view_ahead, x_x_history_oldest, x_x_history_size, x_x_history_kept_posts, x_x_history_kept_pairs, x_x_history_kept_widths, x_x_history_kept_lengths, x_x_history_kept_told, x_x_history_kept_behind, x_x_sets_solvedFor, x_x_sets_pricedFor, x_x_trials_solvedFor, 0, x_m_keptEnd, x_m_kept, x_m_pen, x_m_weights, x_m_old, ?_, ?_, Rel_mk h1 h2 h3 h4 h5 h6 h7 h8⟩
        · unfold f_X10_copy
          rw [p2, r2, isMissing_n (by omega), s1, if_pos hm]
          simp only [Option.bind_some, if_neg d10, if_true]
        · unfold f_X11_copy
          rw [p1, r1, gi_n (by omega) (by omega), gi_n (by omega) (by omega)]
          simp only [Option.bind_some, if_neg d10, if_true]
          rw [if_pos hm]
      · by_cases hm2 : x_m_wide j = (-1 : Int32)
        · refine ⟨(-11 : Int32), x_x_net_told, x_x_view_posts, x_x_view_roads, x_x_view_weight, x_x_view_weights, x_x_view_near, x_x_view_behind, x_x_view_ahead, x_x_history_oldest, x_x_history_size, x_x_history_kept_posts, x_x_history_kept_pairs, x_x_history_kept_widths, x_x_history_kept_lengths, x_x_history_kept_told, x_x_history_kept_behind, x_x_sets_solvedFor, x_x_sets_pricedFor, x_x_trials_solvedFor, 0, x_m_keptEnd, x_m_kept, x_m_pen, x_m_weights, x_m_old, ?_, ?_, Rel_mk h1 h2 h3 h4 h5 h6 h7 h8⟩
          · unfold f_X10_copy
            rw [p2, r2, isMissing_n (by omega), isMissing_n (by omega), s1, u1, if_neg hm, if_pos hm2]
            simp only [Option.bind_some, if_neg d10, if_true]
          · unfold f_X11_copy
            rw [p1, r1, gi_n (by omega) (by omega), gi_n (by omega) (by omega)]
            simp only [Option.bind_some, if_neg d10, if_true]
            rw [if_neg hm, if_pos hm2]
        · by_cases hw : x_m_wide i = x_m_wide j
          · by_cases h0 : a3 < 0
            · refine ⟨(-13 : Int32), x_x_net_told, x_x_view_posts, x_x_view_roads, x_x_view_weight, x_x_view_weights, x_x_view_near, x_x_view_behind, x_x_view_ahead, x_x_history_oldest, x_x_history_size, x_x_history_kept_posts, x_x_history_kept_pairs, x_x_history_kept_widths, x_x_history_kept_lengths, x_x_history_kept_told, x_x_history_kept_behind, x_x_sets_solvedFor, x_x_sets_pricedFor, x_x_trials_solvedFor, 0, x_m_keptEnd, x_m_kept, x_m_pen, x_m_weights, x_m_old, ?_, ?_, Rel_mk h1 h2 h3 h4 h5 h6 h7 h8⟩
              · unfold f_X10_copy
                rw [p2, r2, isMissing_n (by omega), isMissing_n (by omega), gi_n (by omega) (by omega), gi_n (by omega) (by omega), s1, u1, if_neg hm, if_neg hm2]
                simp only [Option.bind_some, if_neg d10, if_true]
                rw [if_pos hw, if_pos h0]
              · unfold f_X11_copy
                rw [p1, r1, gi_n (by omega) (by omega), gi_n (by omega) (by omega)]
                simp only [Option.bind_some, if_neg d10, if_true]
                rw [if_neg hm, if_neg hm2, if_pos hw, if_pos h0]
            · obtain ⟨z, hz, rfl⟩ := nI_of h0
              by_cases hzL : L < z
              · refine ⟨(-13 : Int32), x_x_net_told, x_x_view_posts, x_x_view_roads, x_x_view_weight, x_x_view_weights, x_x_view_near, x_x_view_behind, x_x_view_ahead, x_x_history_oldest, x_x_history_size, x_x_history_kept_posts, x_x_history_kept_pairs, x_x_history_kept_widths, x_x_history_kept_lengths, x_x_history_kept_told, x_x_history_kept_behind, x_x_sets_solvedFor, x_x_sets_pricedFor, x_x_trials_solvedFor, 0, x_m_keptEnd, x_m_kept, x_m_pen, x_m_weights, x_m_old, ?_, ?_, Rel_mk h1 h2 h3 h4 h5 h6 h7 h8⟩
                · unfold f_X10_copy
                  rw [p2, r2, isMissing_n (by omega), isMissing_n (by omega), gi_n (by omega) (by omega), gi_n (by omega) (by omega), gi_n (by omega) (by omega), s1, u1, if_neg hm, if_neg hm2, s2, eL]
                  simp only [Option.bind_some, if_neg d10, if_true]
                  rw [if_pos hw, if_neg h0, if_pos (nI_lt hzL hz)]
                · unfold f_X11_copy
                  rw [p1, r1, gi_n (by omega) (by omega), gi_n (by omega) (by omega), gi_n (by omega) (by omega), eL]
                  simp only [Option.bind_some, if_neg d10, if_true]
                  rw [if_neg hm, if_neg hm2, if_pos hw, if_neg h0, if_pos (nI_lt hzL hz)]
              · by_cases hzM : M < z
                · refine ⟨(-13 : Int32), x_x_net_told, x_x_view_posts, x_x_view_roads, x_x_view_weight, x_x_view_weights, x_x_view_near, x_x_view_behind, x_x_view_ahead, x_x_history_oldest, x_x_history_size, x_x_history_kept_posts, x_x_history_kept_pairs, x_x_history_kept_widths, x_x_history_kept_lengths, x_x_history_kept_told, x_x_history_kept_behind, x_x_sets_solvedFor, x_x_sets_pricedFor, x_x_trials_solvedFor, 0, x_m_keptEnd, x_m_kept, x_m_pen, x_m_weights, x_m_old, ?_, ?_, Rel_mk h1 h2 h3 h4 h5 h6 h7 h8⟩
                  · unfold f_X10_copy
                    rw [p2, r2, isMissing_n (by omega), isMissing_n (by omega), gi_n (by omega) (by omega), gi_n (by omega) (by omega), gi_n (by omega) (by omega), gi_n (by omega) (by omega), s1, u1, if_neg hm, if_neg hm2, s2, eL, u2, eM]
                    simp only [Option.bind_some, if_neg d10, if_true]
                    rw [if_pos hw, if_neg h0, if_neg (nI_nlt (by omega) (by omega)), if_neg (nI_ge hzM hz)]
                  · unfold f_X11_copy
                    rw [p1, r1, gi_n (by omega) (by omega), gi_n (by omega) (by omega), gi_n (by omega) (by omega), gi_n (by omega) (by omega), eL, eM]
                    simp only [Option.bind_some, if_neg d10, if_true]
                    rw [if_neg hm, if_neg hm2, if_pos hw, if_neg h0, if_neg (nI_nlt (by omega) (by omega)), if_neg (nI_ge hzM hz)]
                · have tt : ∀ b, b < z → x_x_net_told (11 * i + b) = x_m_weights (11 * i + b) := fun b hb => by
                    rw [h1.2.2.2.2.2.2.2.2.1 i b (by omega) (by omega), if_pos hi]
                    unfold tdM
                    rw [if_neg hm, eL, if_neg (nI_ge (by omega) (by omega))]
                  have tn : ∀ a b, a < 11 → b < 11 → tdM x_m_wide x_m_places (wrM x_m_weights (11 * j) (fun q => x_m_weights (11 * i + q)) z) a b = if a = j ∧ b < z then x_m_weights (11 * i + b) else tdM x_m_wide x_m_places x_m_weights a b := fun a b hx hy => by
                    by_cases hab : a = j ∧ b < z
                    · obtain ⟨rfl, hbz⟩ := hab
                      rw [if_pos ⟨rfl, hbz⟩]
                      unfold tdM wrM
                      rw [if_neg hm2, eM, if_neg (nI_ge (by omega) (by omega)), if_pos (by omega)]
                      congr 1
                      omega
                    · rw [if_neg hab]
                      refine tdM_congr rfl rfl ?_
                      unfold wrM
                      rw [if_neg (by omega)]
                  have hN := NetR_wt (t2 := va_cpy x_x_net_told x_x_net_told (11 * i) (11 * j) z) (wt2 := wrM x_m_weights (11 * j) (fun q => x_m_weights (11 * i + q)) z) h1 (fun a b hx hy => by
                    rw [tn a b hx hy]
                    by_cases hab : a = j ∧ b < z
                    · obtain ⟨rfl, hbz⟩ := hab
                      rw [pk_cpy_in (by omega) (by omega), if_pos hj, if_pos ⟨rfl, hbz⟩, show 11 * i + (11 * a + b - 11 * a) = 11 * i + b by omega, tt b hbz]
                    · rw [pk_cpy_out (by omega), if_neg hab]
                      exact h1.2.2.2.2.2.2.2.2.1 a b hx hy) (fun a b hx hy => by
                    rw [tn a b (by omega) hy]
                    by_cases hab : a = j ∧ b < z
                    · rw [if_pos hab, ← tt b hab.2, h1.2.2.2.2.2.2.2.2.1 i b (by omega) (by omega), if_pos hi]
                      exact h1.2.2.2.2.2.2.2.2.2.1 i b hi hy
                    · rw [if_neg hab]
                      exact h1.2.2.2.2.2.2.2.2.2.1 a b hx hy)
                  obtain ⟨k1, k2, k3, k4, k5, k6, k7, k8, m1, m2, m3, m4, g1, g2, g3⟩ := keep_ok h3 h1 x_m_pen
                  obtain ⟨v1, v2, v3, v4, v5, v6, v7, q1, q2⟩ := refresh_ok hN x_x_view_posts x_x_view_roads x_x_view_weight x_x_view_weights x_x_view_near x_x_view_behind x_x_view_ahead x_x_sets_solvedFor x_x_sets_pricedFor x_x_trials_solvedFor
                  refine ⟨nI z, va_cpy x_x_net_told x_x_net_told (11 * i) (11 * j) z, v1, v2, v3, v4, v5, v6, v7, k1, k2, k3, k4, k5, k6, k7, k8, (-1 : Int32), (-1 : Int32), (-1 : Int32), 0, m1, m2, m3, wrM x_m_weights (11 * j) (fun q => x_m_weights (11 * i + q)) z, m4, ?_, ?_, Rel_mk hN q2 g3 h4 h5 h6 ⟨Or.inl rfl, Or.inl rfl⟩ (Or.inl rfl)⟩
                  · unfold f_X10_copy
                    rw [p2, r2, isMissing_n (by omega), isMissing_n (by omega), gi_n (by omega) (by omega), gi_n (by omega) (by omega), gi_n (by omega) (by omega), gi_n (by omega) (by omega), s1, u1, if_neg hm, if_neg hm2, s2, eL, u2, eM, mul11, mul11, cp_n (by omega) (by omega) (by omega) (by omega), g1]
                    simp only [Option.bind_some, if_neg d10, if_true]
                    rw [if_pos hw, if_neg h0, if_neg (nI_nlt (by omega) (by omega)), if_pos (nI_le (by omega) (by omega)), q1]
                    rfl
                  · unfold f_X11_copy
                    rw [p1, r1, gi_n (by omega) (by omega), gi_n (by omega) (by omega), gi_n (by omega) (by omega), gi_n (by omega) (by omega), eL, eM, copyM_n (by omega) (by omega) (by omega), g2]
                    simp only [Option.bind_some, if_neg d10]
                    rw [if_neg hm, if_neg hm2, if_pos hw, if_neg h0, if_neg (nI_nlt (by omega) (by omega)), if_pos (nI_le (by omega) (by omega))]
                    rfl
          · refine ⟨(-4 : Int32), x_x_net_told, x_x_view_posts, x_x_view_roads, x_x_view_weight, x_x_view_weights, x_x_view_near, x_x_view_behind, x_x_view_ahead, x_x_history_oldest, x_x_history_size, x_x_history_kept_posts, x_x_history_kept_pairs, x_x_history_kept_widths, x_x_history_kept_lengths, x_x_history_kept_told, x_x_history_kept_behind, x_x_sets_solvedFor, x_x_sets_pricedFor, x_x_trials_solvedFor, 0, x_m_keptEnd, x_m_kept, x_m_pen, x_m_weights, x_m_old, ?_, ?_, Rel_mk h1 h2 h3 h4 h5 h6 h7 h8⟩
            · unfold f_X10_copy
              rw [p2, r2, isMissing_n (by omega), isMissing_n (by omega), gi_n (by omega) (by omega), gi_n (by omega) (by omega), s1, u1, if_neg hm, if_neg hm2]
              simp only [Option.bind_some, if_neg d10, if_true]
              rw [if_neg hw]
            · unfold f_X11_copy
              rw [p1, r1, gi_n (by omega) (by omega), gi_n (by omega) (by omega)]
              simp only [Option.bind_some, if_neg d10, if_true]
              rw [if_neg hm, if_neg hm2, if_neg hw]
    · refine ⟨(-3 : Int32), x_x_net_told, x_x_view_posts, x_x_view_roads, x_x_view_weight, x_x_view_weights, x_x_view_near, x_x_view_behind, x_x_view_ahead, x_x_history_oldest, x_x_history_size, x_x_history_kept_posts, x_x_history_kept_pairs, x_x_history_kept_widths, x_x_history_kept_lengths, x_x_history_kept_told, x_x_history_kept_behind, x_x_sets_solvedFor, x_x_sets_pricedFor, x_x_trials_solvedFor, 0, x_m_keptEnd, x_m_kept, x_m_pen, x_m_weights, x_m_old, ?_, ?_, Rel_mk h1 h2 h3 h4 h5 h6 h7 h8⟩
      · unfold f_X10_copy
        rw [p2, r2]
        simp only [Option.bind_some, if_neg d10, if_true]
      · unfold f_X11_copy
        rw [p1, r1]
        simp only [Option.bind_some, if_neg d10, if_true]
  · refine ⟨(-3 : Int32), x_x_net_told, x_x_view_posts, x_x_view_roads, x_x_view_weight, x_x_view_weights, x_x_view_near, x_x_view_behind, x_x_view_ahead, x_x_history_oldest, x_x_history_size, x_x_history_kept_posts, x_x_history_kept_pairs, x_x_history_kept_widths, x_x_history_kept_lengths, x_x_history_kept_told, x_x_history_kept_behind, x_x_sets_solvedFor, x_x_sets_pricedFor, x_x_trials_solvedFor, 0, x_m_keptEnd, x_m_kept, x_m_pen, x_m_weights, x_m_old, ?_, ?_, Rel_mk h1 h2 h3 h4 h5 h6 h7 h8⟩
    · unfold f_X10_copy
      rw [p2]
      rfl
    · unfold f_X11_copy
      rw [p1]
      rfl
theorem mkB_clear {Q R : Nat → Bool} {p : Nat} (hp : p < 11) (h : ∀ y, y < 11 → R y = (Q y && !decide (p = y))) : nI (mkB Q 11) &&& (nI (2 ^ p) ^^^ (-1 : Int32)) = nI (mkB R 11) := by
  rw [m1_n, xor_n, and_n]
  congr 1
  apply Nat.eq_of_testBit_eq
  intro i
  rw [Nat.testBit_and, Nat.testBit_xor, mkB_tb, mkB_tb, Nat.testBit_two_pow, show (4294967295 : Nat) = 2 ^ 32 - 1 from rfl, Nat.testBit_two_pow_sub_one]
  by_cases hi : i < 11
  · rw [h i hi, decide_eq_true hi, decide_eq_true (show i < 32 by omega), Bool.true_and, Bool.true_and, Bool.xor_true]
  · rw [decide_eq_false hi, Bool.false_and, Bool.false_and, Bool.false_and]
theorem cntM_upd0 {f : Nat → Int32} {x : Nat} (h1 : f x = 1) : ∀ {k : Nat}, x < k → cntM (upd f x 0) k + 1 = cntM f k
  | 0, h => absurd h (by omega)
  | k + 1, h => by
    rw [cntM, cntM]
    by_cases hx : x = k
    · subst hx
      rw [pk_us, h1, cntM_congr (f := upd f x 0) (g := f) (fun j hj => pk_un (by omega)), if_neg (by decide), if_pos rfl]
    · rw [pk_un (fun q => hx q.symm)]
      have := cntM_upd0 h1 (k := k) (by omega)
      omega
theorem cntM_upd1 {f : Nat → Int32} {x : Nat} (h1 : ¬ f x = 1) : ∀ {k : Nat}, x < k → cntM (upd f x 1) k = cntM f k + 1
  | 0, h => absurd h (by omega)
  | k + 1, h => by
    rw [cntM, cntM]
    by_cases hx : x = k
    · subst hx
      rw [pk_us, if_neg h1, cntM_congr (f := upd f x 1) (g := f) (fun j hj => pk_un (by omega)), if_pos rfl]
    · rw [pk_un (fun q => hx q.symm)]
      have := cntM_upd1 h1 (k := k) (by omega)
      omega
theorem NetR_pr2 {n : Nat} {posts pairs mposts mpairs p2 : Int32} {w l t b b2 wd pl wt pr pr2 : Nat → Int32} (h : NetR n posts pairs w l t b mposts mpairs wd pl wt pr) (c0 : p2 = nI (cntM pr2 121)) (c1 : cntM pr2 121 ≤ 30) (c2 : ∀ a, a < 11 → b2 a = nI (mkB (fun y => prQ pr2 a y) 11)) (c3 : ∀ a b, a < 11 → b < 11 → pr2 (11 * a + b) = 0 ∨ (pr2 (11 * a + b) = 1 ∧ a < n ∧ b < n)) (c4 : ∃ rk : Nat → Nat, ∀ a b, a < 11 → b < 11 → prQ pr2 a b = true → rk a < rk b) : NetR n posts p2 w l t b2 mposts p2 wd pl wt pr2 := by
  obtain ⟨hn, e1, e2, e3, e4, e5, h6, h7, h8, h9, h10, hp, rk, h12⟩ := h
  exact ⟨hn, e1, e2, c0, c0, c1, h6, h7, h8, h9, c2, c3, c4⟩
theorem hasBoth_n {n : Nat} (hn : n ≤ 11) (x y : Int32) : (∃ i j, i < n ∧ j < n ∧ i ≠ j ∧ x = nI i ∧ y = nI j ∧ f_X11_isPost (nI n) x = some 1 ∧ f_X11_isPost (nI n) y = some 1 ∧ ¬ x = y ∧ f_X4_hasBoth (nI n) x y = some 1) ∨ (f_X4_hasBoth (nI n) x y = some 0 ∧ (f_X11_isPost (nI n) x = some 0 ∨ (f_X11_isPost (nI n) x = some 1 ∧ f_X11_isPost (nI n) y = some 0) ∨ (f_X11_isPost (nI n) x = some 1 ∧ f_X11_isPost (nI n) y = some 1 ∧ x = y))) := by
  have d10 : ¬ (1 : Int32) = 0 := by decide
  rcases isPost_n hn x with ⟨i, hi, ha, p1, p2⟩ | ⟨ha, p1, p2⟩
  · rcases isPost_n hn y with ⟨j, hj, hb, r1, r2⟩ | ⟨hb, r1, r2⟩
    · by_cases hij : x = y
      · refine Or.inr ⟨?_, Or.inr (Or.inr ⟨p1, r1, hij⟩)⟩
        unfold f_X4_hasBoth
        rw [p2, r2]
        simp only [Option.bind_some, if_neg d10, if_pos hij]
      · refine Or.inl ⟨i, j, hi, hj, fun q => hij (by rw [ha, hb, q]), ha, hb, p1, r1, hij, ?_⟩
        unfold f_X4_hasBoth
        rw [p2, r2]
        simp only [Option.bind_some, if_neg d10, if_neg hij]
    · refine Or.inr ⟨?_, Or.inr (Or.inl ⟨p1, r1⟩)⟩
      unfold f_X4_hasBoth
      rw [p2, r2]
      rfl
  · refine Or.inr ⟨?_, Or.inl p1⟩
    unfold f_X4_hasBoth
    rw [p2]
    rfl
theorem l2_part (x_x_net_posts : Int32) (x_x_net_pairs : Int32) (x_x_net_widths : Nat → Int32) (x_x_net_lengths : Nat → Int32) (x_x_net_told : Nat → Int32) (x_x_net_behind : Nat → Int32) (x_x_view_posts : Int32) (x_x_view_roads : Int32) (x_x_view_weight : Int32) (x_x_view_weights : Nat → Int32) (x_x_view_near : Nat → Int32) (x_x_view_behind : Nat → Int32) (x_x_view_ahead : Nat → Int32) (x_x_history_oldest : Int32) (x_x_history_size : Int32) (x_x_history_kept_posts : Nat → Int32) (x_x_history_kept_pairs : Nat → Int32) (x_x_history_kept_widths : Nat → Nat → Int32) (x_x_history_kept_lengths : Nat → Nat → Int32) (x_x_history_kept_told : Nat → Nat → Int32) (x_x_history_kept_behind : Nat → Nat → Int32) (x_x_hand_size : Int32) (x_x_hand_posts : Nat → Int32) (x_x_trial_size : Int32) (x_x_trial_posts : Nat → Int32) (x_x_bags_size : Int32) (x_x_bags_sets : Nat → Int32) (x_x_chase_size : Int32) (x_x_chase_guarded : Int32) (x_x_chase_most : Int32) (x_x_chase_again : Int32) (x_x_chase_idle : Int32) (x_x_chase_moves : Nat → Int32) (x_x_chase_foul : Nat → Int32) (x_x_sets_solvedFor : Int32) (x_x_sets_lowest : Int32) (x_x_sets_total : Int32) (x_x_sets_pricedFor : Int32) (x_x_sets_prices : Nat → Int32) (x_x_sets_rests : Nat → Int32) (x_x_sets_ways : Nat → Int32) (x_x_trials_solvedFor : Int32) (x_x_trials_lowest : Int32) (x_x_trials_total : Int32) (x_x_trials_found : Nat → Int32) (x_x_trials_row_size : Int32) (x_x_trials_row_posts : Nat → Int32) (x_m_thrown : Int32) (x_m_posts : Int32) (x_m_pairs : Int32) (x_m_keptEnd : Int32) (x_m_kept : Int32) (x_m_many : Int32) (x_m_bags : Int32) (x_m_moves : Int32) (x_m_pen : Int32) (x_m_savedMany : Int32) (x_m_leastRow : Int32) (x_m_bestRows : Int32) (x_m_askedRow : Int32) (x_m_rankOfSaved : Int32) (x_m_wallSet : Int32) (x_m_fouledAgain : Int32) (x_m_wide : Nat → Int32) (x_m_places : Nat → Int32) (x_m_weights : Nat → Int32) (x_m_pair : Nat → Int32) (x_m_old : Nat → Int32) (x_m_row : Nat → Int32) (x_m_bag : Nat → Int32) (x_m_hunt : Nat → Int32) (x_m_behind : Nat → Int32) (x_m_least : Nat → Int32) (x_m_ways : Nat → Int32) (x_m_saved : Nat → Int32) (x_m_kth : Nat → Int32) (x_m_clean : Nat → Int32) (a1 : Int32) (a2 : Int32) (h : Rel x_x_net_posts x_x_net_pairs x_x_net_widths x_x_net_lengths x_x_net_told x_x_net_behind x_x_view_posts x_x_view_roads x_x_view_weight x_x_view_weights x_x_view_near x_x_view_behind x_x_view_ahead x_x_history_oldest x_x_history_size x_x_history_kept_posts x_x_history_kept_pairs x_x_history_kept_widths x_x_history_kept_lengths x_x_history_kept_told x_x_history_kept_behind x_x_hand_size x_x_hand_posts x_x_trial_size x_x_trial_posts x_x_bags_size x_x_bags_sets x_x_chase_size x_x_chase_guarded x_x_chase_most x_x_chase_again x_x_chase_idle x_x_chase_moves x_x_chase_foul x_x_sets_solvedFor x_x_sets_lowest x_x_sets_total x_x_sets_pricedFor x_x_sets_prices x_x_sets_rests x_x_sets_ways x_x_trials_solvedFor x_x_trials_lowest x_x_trials_total x_x_trials_found x_x_trials_row_size x_x_trials_row_posts x_m_thrown x_m_posts x_m_pairs x_m_keptEnd x_m_kept x_m_many x_m_bags x_m_moves x_m_pen x_m_savedMany x_m_leastRow x_m_bestRows x_m_askedRow x_m_rankOfSaved x_m_wallSet x_m_fouledAgain x_m_wide x_m_places x_m_weights x_m_pair x_m_old x_m_row x_m_bag x_m_hunt x_m_behind x_m_least x_m_ways x_m_saved x_m_kth x_m_clean) : ∃ (r : Int32) (o_x_net_pairs : Int32) (o_x_net_behind : Nat → Int32) (o_x_view_posts : Int32) (o_x_view_roads : Int32) (o_x_view_weight : Int32) (o_x_view_weights : Nat → Int32) (o_x_view_near : Nat → Int32) (o_x_view_behind : Nat → Int32) (o_x_view_ahead : Nat → Int32) (o_x_history_oldest : Int32) (o_x_history_size : Int32) (o_x_history_kept_posts : Nat → Int32) (o_x_history_kept_pairs : Nat → Int32) (o_x_history_kept_widths : Nat → Nat → Int32) (o_x_history_kept_lengths : Nat → Nat → Int32) (o_x_history_kept_told : Nat → Nat → Int32) (o_x_history_kept_behind : Nat → Nat → Int32) (o_x_sets_solvedFor : Int32) (o_x_sets_pricedFor : Int32) (o_x_trials_solvedFor : Int32) (o_m_thrown : Int32) (o_m_pairs : Int32) (o_m_keptEnd : Int32) (o_m_kept : Int32) (o_m_pen : Int32) (o_m_pair : Nat → Int32) (o_m_old : Nat → Int32), f_X10_part x_x_net_posts x_x_net_pairs x_x_net_widths x_x_net_lengths x_x_net_told x_x_net_behind x_x_view_posts x_x_view_roads x_x_view_weight x_x_view_weights x_x_view_near x_x_view_behind x_x_view_ahead x_x_history_oldest x_x_history_size x_x_history_kept_posts x_x_history_kept_pairs x_x_history_kept_widths x_x_history_kept_lengths x_x_history_kept_told x_x_history_kept_behind x_x_sets_solvedFor x_x_sets_pricedFor x_x_trials_solvedFor a1 a2 = some (r, o_x_net_pairs, o_x_net_behind, o_x_view_posts, o_x_view_roads, o_x_view_weight, o_x_view_weights, o_x_view_near, o_x_view_behind, o_x_view_ahead, o_x_history_oldest, o_x_history_size, o_x_history_kept_posts, o_x_history_kept_pairs, o_x_history_kept_widths, o_x_history_kept_lengths, o_x_history_kept_told, o_x_history_kept_behind, o_x_sets_solvedFor, o_x_sets_pricedFor, o_x_trials_solvedFor) ∧ f_X11_part x_m_thrown x_m_posts x_m_pairs x_m_keptEnd x_m_kept x_m_pen x_m_wide x_m_places x_m_weights x_m_pair x_m_old a1 a2 = some (r, o_m_thrown, o_m_pairs, o_m_keptEnd, o_m_kept, o_m_pen, o_m_pair, o_m_old) ∧ Rel x_x_net_posts o_x_net_pairs x_x_net_widths x_x_net_lengths x_x_net_told o_x_net_behind o_x_view_posts o_x_view_roads o_x_view_weight o_x_view_weights o_x_view_near o_x_view_behind o_x_view_ahead o_x_history_oldest o_x_history_size o_x_history_kept_posts o_x_history_kept_pairs o_x_history_kept_widths o_x_history_kept_lengths o_x_history_kept_told o_x_history_kept_behind x_x_hand_size x_x_hand_posts x_x_trial_size x_x_trial_posts x_x_bags_size x_x_bags_sets x_x_chase_size x_x_chase_guarded x_x_chase_most x_x_chase_again x_x_chase_idle x_x_chase_moves x_x_chase_foul o_x_sets_solvedFor x_x_sets_lowest x_x_sets_total o_x_sets_pricedFor x_x_sets_prices x_x_sets_rests x_x_sets_ways o_x_trials_solvedFor x_x_trials_lowest x_x_trials_total x_x_trials_found x_x_trials_row_size x_x_trials_row_posts o_m_thrown x_m_posts o_m_pairs o_m_keptEnd o_m_kept x_m_many x_m_bags x_m_moves o_m_pen x_m_savedMany x_m_leastRow x_m_bestRows x_m_askedRow x_m_rankOfSaved x_m_wallSet x_m_fouledAgain x_m_wide x_m_places x_m_weights o_m_pair o_m_old x_m_row x_m_bag x_m_hunt x_m_behind x_m_least x_m_ways x_m_saved x_m_kth x_m_clean := by
  obtain ⟨n, h1, h2, h3, h4, h5, h6, h7, h8⟩ := h
  have hn : n ≤ 11 := h1.1
  have ep := h1.2.1
  have em := h1.2.2.1
  subst ep
  subst em
  have d10 : ¬ (1 : Int32) = 0 := by decide
  rcases hasBoth_n hn a1 a2 with ⟨i, j, hi, hj, hij, rfl, rfl, p1, p2, hne, hb⟩ | ⟨b1, b2⟩
  · obtain ⟨-, -, -, e3, e4, e5, -, -, -, -, h10, hp, rk, h12⟩ := id h1
    have hlt : mkB (fun b => prQ x_m_pair i b) 11 < 2 ^ 11 := mkB_lt _ _
    rcases hp i j (by omega) (by omega) with hz | ⟨hz, -, -⟩
    · refine ⟨(-4 : Int32), x_x_net_pairs, x_x_net_behind, x_x_view_posts, x_x_view_roads, x_x_view_weight, x_x_view_weights, x_x_view_near, x_x_view_behind, x_x_view_ahead, x_x_history_oldest, x_x_history_size, x_x_history_kept_posts, x_x_history_kept_pairs, x_x_history_kept_widths, x_x_history_kept_lengths, x_x_history_kept_told, x_x_history_kept_behind, x_x_sets_solvedFor, x_x_sets_pricedFor, x_x_trials_solvedFor, 0, x_m_pairs, x_m_keptEnd, x_m_kept, x_m_pen, x_m_pair, x_m_old, ?_, ?_, Rel_mk h1 h2 h3 h4 h5 h6 h7 h8⟩
      · unfold f_X10_part
        rw [hb, gi_n (by omega) (by omega), h10 i (by omega)]
        simp only [Option.bind_some, if_neg d10]
        rw [holds_n (by omega) (by omega), mkB_tb, show prQ x_m_pair i j = false by simp [prQ, hz], Bool.and_false]
        rfl
      · unfold f_X11_part
        rw [p1, p2, ix11, gi_n (by omega) (by omega), hz]
        simp only [Option.bind_some, if_neg d10]
        rw [if_neg hne]
        rfl
    · have hc := cntM_upd0 (f := x_m_pair) (x := 11 * i + j) hz (k := 121) (by omega)
      have pq : ∀ a b, a < 11 → b < 11 → prQ (upd x_m_pair (11 * i + j) 0) a b = (prQ x_m_pair a b && !decide (a = i ∧ b = j)) := fun a b ha hb2 => by
        by_cases hab : a = i ∧ b = j
        · obtain ⟨rfl, rfl⟩ := hab
          simp [prQ, pk_us]
        · rw [prQ_congr (p1 := upd x_m_pair (11 * i + j) 0) (p2 := x_m_pair) (pk_un (by omega)), decide_eq_false hab]
          simp
      have ec : x_x_net_pairs - (1 : Int32) = nI (cntM (upd x_m_pair (11 * i + j) 0) 121) := by
        rw [e3, ← hc]
        exact nI_pred _
      have hN := NetR_pr2 (p2 := x_x_net_pairs - (1 : Int32)) (b2 := upd x_x_net_behind i (nI (mkB (fun b => prQ x_m_pair i b) 11) &&& (nI (2 ^ j) ^^^ (-1 : Int32)))) (pr2 := upd x_m_pair (11 * i + j) 0) h1 ec (by omega) (fun a ha => by
        by_cases hai : a = i
        · subst hai
          rw [pk_us]
          refine mkB_clear (by omega) (fun y hy => ?_)
          rw [pq a y ha hy]
          congr 2
          exact decide_eq_decide.mpr (by omega)
        · rw [pk_un hai, h10 a ha]
          congr 1
          apply mkB_congr
          intro y hy
          rw [pq a y ha hy, decide_eq_false (by omega)]
          simp) (fun a b ha hb2 => by
        by_cases hab : a = i ∧ b = j
        · obtain ⟨rfl, rfl⟩ := hab
          exact Or.inl pk_us
        · rw [pk_un (by omega)]
          exact hp a b ha hb2) ⟨rk, fun a b ha hb2 hab => h12 a b ha hb2 (by
        rw [pq a b ha hb2, Bool.and_eq_true] at hab
        exact hab.1)⟩
      obtain ⟨k1, k2, k3, k4, k5, k6, k7, k8, m1, m2, m3, m4, g1, g2, g3⟩ := keep_ok h3 h1 x_m_pen
      obtain ⟨v1, v2, v3, v4, v5, v6, v7, q1, q2⟩ := refresh_ok hN x_x_view_posts x_x_view_roads x_x_view_weight x_x_view_weights x_x_view_near x_x_view_behind x_x_view_ahead x_x_sets_solvedFor x_x_sets_pricedFor x_x_trials_solvedFor
      refine ⟨x_x_net_pairs - (1 : Int32), x_x_net_pairs - (1 : Int32), upd x_x_net_behind i (nI (mkB (fun b => prQ x_m_pair i b) 11) &&& (nI (2 ^ j) ^^^ (-1 : Int32))), v1, v2, v3, v4, v5, v6, v7, k1, k2, k3, k4, k5, k6, k7, k8, (-1 : Int32), (-1 : Int32), (-1 : Int32), 0, x_x_net_pairs - (1 : Int32), m1, m2, m3, upd x_m_pair (11 * i + j) 0, m4, ?_, ?_, Rel_mk hN q2 g3 h4 h5 h6 ⟨Or.inl rfl, Or.inl rfl⟩ (Or.inl rfl)⟩
      · unfold f_X10_part
        rw [hb, gi_n (by omega) (by omega), g1, h10 i (by omega)]
        simp only [Option.bind_some, if_neg d10]
        rw [holds_n (by omega) (by omega), mkB_tb, show prQ x_m_pair i j = true by simp [prQ, hz], decide_eq_true (show j < 11 by omega), one_shl (by omega), si_n (by omega) (by omega)]
        simp only [Option.bind_some, if_neg d10, b8, Bool.and_self, if_true]
        rw [q1]
        rfl
      · unfold f_X11_part
        rw [p1, p2, ix11, gi_n (by omega) (by omega), hz, g2, si_n (by omega) (by omega), show x_m_pairs = x_x_net_pairs by rw [e3, e4]]
        simp only [Option.bind_some, if_neg d10]
        rw [if_neg hne]
        rfl
  · refine ⟨(-3 : Int32), x_x_net_pairs, x_x_net_behind, x_x_view_posts, x_x_view_roads, x_x_view_weight, x_x_view_weights, x_x_view_near, x_x_view_behind, x_x_view_ahead, x_x_history_oldest, x_x_history_size, x_x_history_kept_posts, x_x_history_kept_pairs, x_x_history_kept_widths, x_x_history_kept_lengths, x_x_history_kept_told, x_x_history_kept_behind, x_x_sets_solvedFor, x_x_sets_pricedFor, x_x_trials_solvedFor, 0, x_m_pairs, x_m_keptEnd, x_m_kept, x_m_pen, x_m_pair, x_m_old, ?_, ?_, Rel_mk h1 h2 h3 h4 h5 h6 h7 h8⟩
    · unfold f_X10_part
      rw [b1]
      rfl
    · unfold f_X11_part
      rcases b2 with b2 | ⟨b2, b3⟩ | ⟨b2, b3, b4⟩
      · rw [b2]
        rfl
      · rw [b2, b3]
        rfl
      · rw [b2, b3]
        simp only [Option.bind_some, if_neg d10]
        rw [if_pos b4]
theorem wr0_lt {f g : Nat → Int32} {k j : Nat} (h : j < k) : wrM f 0 g k j = g j := by
  unfold wrM
  rw [if_pos (by omega), Nat.sub_zero]
theorem takeBack_n {kp kq : Nat → Int32} {kw kl kt kb : Nat → Nat → Int32} {posts pairs : Int32} {w l t b : Nat → Int32} {o k : Nat} (ho : o < 8) (hk : k + 1 ≤ 8) : f_X3_takeBack (nI o) (nI (k + 1)) kp kq kw kl kt kb posts pairs w l t b = some (nI k, kp ((o + k) % 8), kq ((o + k) % 8), cp0 (kw ((o + k) % 8)) w 11, cp0 (kl ((o + k) % 8)) l 11, cp0 (kt ((o + k) % 8)) t 121, cp0 (kb ((o + k) % 8)) b 11) := by
  unfold f_X3_takeBack
  rw [if_neg (nI_nle (by omega) (by omega)), show nI (k + 1) - (1 : Int32) = nI k from nI_pred k, nI_add, rem8 (by omega), g8_n (by omega)]
  simp only [Option.bind_some]
  rw [takeFrom_n]
  rfl
theorem undoM_n {thrown posts pairs pen : Int32} {wide places weights pair old : Nat → Int32} {e s k : Nat} (he : e < 8) (hs : s = (e + 7) % 8) (hk : k + 1 ≤ 8) : f_X11_undo thrown posts pairs (nI e) (nI (k + 1)) pen wide places weights pair old = some (nI k, 0, old (266 * s), old (266 * s + 1), nI s, nI k, nI (266 * s + 266), wrM wide 0 (fun j => old (266 * s + 2 + j)) 11, wrM places 0 (fun j => old (266 * s + 13 + j)) 11, wrM weights 0 (fun j => old (266 * s + 24 + j)) 121, wrM pair 0 (fun j => old (266 * s + 145 + j)) 121) := by
  have hs8 : s < 8 := by omega
  have e1 : (nI e + (8 : Int32)) - (1 : Int32) - ((nI e + (8 : Int32)) - (1 : Int32)) / (8 : Int32) * (8 : Int32) = nI s := by
    rw [show nI e + (8 : Int32) = nI (e + 7 + 1) from nI_add e 8, show nI (e + 7 + 1) - (1 : Int32) = nI (e + 7) from nI_pred (e + 7), rem8 (by omega), hs]
  unfold f_X11_undo
  rw [if_neg (nI_ne0 (by omega) (by omega)), e1, show (266 : Int32) * nI s = nI (266 * s) from pk_mul 266 s, nI_1, show nI (266 * s) + (2 : Int32) = nI (266 * s + 2) from nI_add (266 * s) 2, gi_n (by omega) (by omega), gi_n (by omega) (by omega), show nI (k + 1) - (1 : Int32) = nI k from nI_pred k]
  simp only [Option.bind_some]
  rw [read_wide_n (by omega)]
  simp only [b2, Option.bind_some]
  rw [read_places_n (by omega)]
  simp only [Option.bind_some]
  rw [read_weights_n (by omega)]
  simp only [Option.bind_some]
  rw [read_pair_n (by omega)]
  rfl
theorem l2_undo (x_x_net_posts : Int32) (x_x_net_pairs : Int32) (x_x_net_widths : Nat → Int32) (x_x_net_lengths : Nat → Int32) (x_x_net_told : Nat → Int32) (x_x_net_behind : Nat → Int32) (x_x_view_posts : Int32) (x_x_view_roads : Int32) (x_x_view_weight : Int32) (x_x_view_weights : Nat → Int32) (x_x_view_near : Nat → Int32) (x_x_view_behind : Nat → Int32) (x_x_view_ahead : Nat → Int32) (x_x_history_oldest : Int32) (x_x_history_size : Int32) (x_x_history_kept_posts : Nat → Int32) (x_x_history_kept_pairs : Nat → Int32) (x_x_history_kept_widths : Nat → Nat → Int32) (x_x_history_kept_lengths : Nat → Nat → Int32) (x_x_history_kept_told : Nat → Nat → Int32) (x_x_history_kept_behind : Nat → Nat → Int32) (x_x_hand_size : Int32) (x_x_hand_posts : Nat → Int32) (x_x_trial_size : Int32) (x_x_trial_posts : Nat → Int32) (x_x_bags_size : Int32) (x_x_bags_sets : Nat → Int32) (x_x_chase_size : Int32) (x_x_chase_guarded : Int32) (x_x_chase_most : Int32) (x_x_chase_again : Int32) (x_x_chase_idle : Int32) (x_x_chase_moves : Nat → Int32) (x_x_chase_foul : Nat → Int32) (x_x_sets_solvedFor : Int32) (x_x_sets_lowest : Int32) (x_x_sets_total : Int32) (x_x_sets_pricedFor : Int32) (x_x_sets_prices : Nat → Int32) (x_x_sets_rests : Nat → Int32) (x_x_sets_ways : Nat → Int32) (x_x_trials_solvedFor : Int32) (x_x_trials_lowest : Int32) (x_x_trials_total : Int32) (x_x_trials_found : Nat → Int32) (x_x_trials_row_size : Int32) (x_x_trials_row_posts : Nat → Int32) (x_m_thrown : Int32) (x_m_posts : Int32) (x_m_pairs : Int32) (x_m_keptEnd : Int32) (x_m_kept : Int32) (x_m_many : Int32) (x_m_bags : Int32) (x_m_moves : Int32) (x_m_pen : Int32) (x_m_savedMany : Int32) (x_m_leastRow : Int32) (x_m_bestRows : Int32) (x_m_askedRow : Int32) (x_m_rankOfSaved : Int32) (x_m_wallSet : Int32) (x_m_fouledAgain : Int32) (x_m_wide : Nat → Int32) (x_m_places : Nat → Int32) (x_m_weights : Nat → Int32) (x_m_pair : Nat → Int32) (x_m_old : Nat → Int32) (x_m_row : Nat → Int32) (x_m_bag : Nat → Int32) (x_m_hunt : Nat → Int32) (x_m_behind : Nat → Int32) (x_m_least : Nat → Int32) (x_m_ways : Nat → Int32) (x_m_saved : Nat → Int32) (x_m_kth : Nat → Int32) (x_m_clean : Nat → Int32) (h : Rel x_x_net_posts x_x_net_pairs x_x_net_widths x_x_net_lengths x_x_net_told x_x_net_behind x_x_view_posts x_x_view_roads x_x_view_weight x_x_view_weights x_x_view_near x_x_view_behind x_x_view_ahead x_x_history_oldest x_x_history_size x_x_history_kept_posts x_x_history_kept_pairs x_x_history_kept_widths x_x_history_kept_lengths x_x_history_kept_told x_x_history_kept_behind x_x_hand_size x_x_hand_posts x_x_trial_size x_x_trial_posts x_x_bags_size x_x_bags_sets x_x_chase_size x_x_chase_guarded x_x_chase_most x_x_chase_again x_x_chase_idle x_x_chase_moves x_x_chase_foul x_x_sets_solvedFor x_x_sets_lowest x_x_sets_total x_x_sets_pricedFor x_x_sets_prices x_x_sets_rests x_x_sets_ways x_x_trials_solvedFor x_x_trials_lowest x_x_trials_total x_x_trials_found x_x_trials_row_size x_x_trials_row_posts x_m_thrown x_m_posts x_m_pairs x_m_keptEnd x_m_kept x_m_many x_m_bags x_m_moves x_m_pen x_m_savedMany x_m_leastRow x_m_bestRows x_m_askedRow x_m_rankOfSaved x_m_wallSet x_m_fouledAgain x_m_wide x_m_places x_m_weights x_m_pair x_m_old x_m_row x_m_bag x_m_hunt x_m_behind x_m_least x_m_ways x_m_saved x_m_kth x_m_clean) : ∃ (r : Int32) (o_x_net_posts : Int32) (o_x_net_pairs : Int32) (o_x_net_widths : Nat → Int32) (o_x_net_lengths : Nat → Int32) (o_x_net_told : Nat → Int32) (o_x_net_behind : Nat → Int32) (o_x_view_posts : Int32) (o_x_view_roads : Int32) (o_x_view_weight : Int32) (o_x_view_weights : Nat → Int32) (o_x_view_near : Nat → Int32) (o_x_view_behind : Nat → Int32) (o_x_view_ahead : Nat → Int32) (o_x_history_size : Int32) (o_x_sets_solvedFor : Int32) (o_x_sets_pricedFor : Int32) (o_x_trials_solvedFor : Int32) (o_m_thrown : Int32) (o_m_posts : Int32) (o_m_pairs : Int32) (o_m_keptEnd : Int32) (o_m_kept : Int32) (o_m_pen : Int32) (o_m_wide : Nat → Int32) (o_m_places : Nat → Int32) (o_m_weights : Nat → Int32) (o_m_pair : Nat → Int32), f_X10_undo x_x_net_posts x_x_net_pairs x_x_net_widths x_x_net_lengths x_x_net_told x_x_net_behind x_x_view_posts x_x_view_roads x_x_view_weight x_x_view_weights x_x_view_near x_x_view_behind x_x_view_ahead x_x_history_oldest x_x_history_size x_x_history_kept_posts x_x_history_kept_pairs x_x_history_kept_widths x_x_history_kept_lengths x_x_history_kept_told x_x_history_kept_behind x_x_sets_solvedFor x_x_sets_pricedFor x_x_trials_solvedFor = some (r, o_x_net_posts, o_x_net_pairs, o_x_net_widths, o_x_net_lengths, o_x_net_told, o_x_net_behind, o_x_view_posts, o_x_view_roads, o_x_view_weight, o_x_view_weights, o_x_view_near, o_x_view_behind, o_x_view_ahead, o_x_history_size, o_x_sets_solvedFor, o_x_sets_pricedFor, o_x_trials_solvedFor) ∧ f_X11_undo x_m_thrown x_m_posts x_m_pairs x_m_keptEnd x_m_kept x_m_pen x_m_wide x_m_places x_m_weights x_m_pair x_m_old = some (r, o_m_thrown, o_m_posts, o_m_pairs, o_m_keptEnd, o_m_kept, o_m_pen, o_m_wide, o_m_places, o_m_weights, o_m_pair) ∧ Rel o_x_net_posts o_x_net_pairs o_x_net_widths o_x_net_lengths o_x_net_told o_x_net_behind o_x_view_posts o_x_view_roads o_x_view_weight o_x_view_weights o_x_view_near o_x_view_behind o_x_view_ahead x_x_history_oldest o_x_history_size x_x_history_kept_posts x_x_history_kept_pairs x_x_history_kept_widths x_x_history_kept_lengths x_x_history_kept_told x_x_history_kept_behind x_x_hand_size x_x_hand_posts x_x_trial_size x_x_trial_posts x_x_bags_size x_x_bags_sets x_x_chase_size x_x_chase_guarded x_x_chase_most x_x_chase_again x_x_chase_idle x_x_chase_moves x_x_chase_foul o_x_sets_solvedFor x_x_sets_lowest x_x_sets_total o_x_sets_pricedFor x_x_sets_prices x_x_sets_rests x_x_sets_ways o_x_trials_solvedFor x_x_trials_lowest x_x_trials_total x_x_trials_found x_x_trials_row_size x_x_trials_row_posts o_m_thrown o_m_posts o_m_pairs o_m_keptEnd o_m_kept x_m_many x_m_bags x_m_moves o_m_pen x_m_savedMany x_m_leastRow x_m_bestRows x_m_askedRow x_m_rankOfSaved x_m_wallSet x_m_fouledAgain o_m_wide o_m_places o_m_weights o_m_pair x_m_old x_m_row x_m_bag x_m_hunt x_m_behind x_m_least x_m_ways x_m_saved x_m_kth x_m_clean := by
  obtain ⟨n, h1, h2, h3, h4, h5, h6, h7, h8⟩ := h
  obtain ⟨o, k, ho, hk, e1, e2, e3, e4, hi⟩ := id h3
  rcases Nat.eq_zero_or_pos k with h0 | h0
  · have z1 : x_x_history_size = 0 := by rw [e2, h0, nI_0]
    have z2 : x_m_kept = 0 := by rw [e4, h0, nI_0]
    refine ⟨(-4 : Int32), x_x_net_posts, x_x_net_pairs, x_x_net_widths, x_x_net_lengths, x_x_net_told, x_x_net_behind, x_x_view_posts, x_x_view_roads, x_x_view_weight, x_x_view_weights, x_x_view_near, x_x_view_behind, x_x_view_ahead, x_x_history_size, x_x_sets_solvedFor, x_x_sets_pricedFor, x_x_trials_solvedFor, 0, x_m_posts, x_m_pairs, x_m_keptEnd, x_m_kept, x_m_pen, x_m_wide, x_m_places, x_m_weights, x_m_pair, ?_, ?_, Rel_mk h1 h2 h3 h4 h5 h6 h7 h8⟩
    · unfold f_X10_undo
      rw [if_pos z1]
    · unfold f_X11_undo
      rw [if_pos z2]
  · obtain ⟨k, rfl⟩ : ∃ j, k = j + 1 := ⟨k - 1, by omega⟩
    obtain ⟨m, hm⟩ := hi k (by omega)
    have hs : (o + k) % 8 = ((o + (k + 1)) % 8 + 7) % 8 := by omega
    have hN := NetR_congr (w2 := cp0 (x_x_history_kept_widths ((o + k) % 8)) x_x_net_widths 11) (l2 := cp0 (x_x_history_kept_lengths ((o + k) % 8)) x_x_net_lengths 11) (t2 := cp0 (x_x_history_kept_told ((o + k) % 8)) x_x_net_told 121) (b2 := cp0 (x_x_history_kept_behind ((o + k) % 8)) x_x_net_behind 11) (wd2 := wrM x_m_wide 0 (fun j => x_m_old (266 * ((o + k) % 8) + 2 + j)) 11) (pl2 := wrM x_m_places 0 (fun j => x_m_old (266 * ((o + k) % 8) + 13 + j)) 11) (wt2 := wrM x_m_weights 0 (fun j => x_m_old (266 * ((o + k) % 8) + 24 + j)) 121) (pr2 := wrM x_m_pair 0 (fun j => x_m_old (266 * ((o + k) % 8) + 145 + j)) 121) hm (fun j hj => cp0_lt hj) (fun j hj => cp0_lt hj) (fun j hj => cp0_lt hj) (fun j hj => cp0_lt hj) (fun j hj => wr0_lt hj) (fun j hj => wr0_lt hj) (fun j hj => wr0_lt hj) (fun j hj => wr0_lt hj)
    obtain ⟨v1, v2, v3, v4, v5, v6, v7, q1, q2⟩ := refresh_ok hN x_x_view_posts x_x_view_roads x_x_view_weight x_x_view_weights x_x_view_near x_x_view_behind x_x_view_ahead x_x_sets_solvedFor x_x_sets_pricedFor x_x_trials_solvedFor
    have hH : HistR x_x_history_oldest (nI k) x_x_history_kept_posts x_x_history_kept_pairs x_x_history_kept_widths x_x_history_kept_lengths x_x_history_kept_told x_x_history_kept_behind (nI ((o + k) % 8)) (nI k) x_m_old := ⟨o, k, ho, by omega, e1, rfl, rfl, rfl, fun i hik => hi i (by omega)⟩
    refine ⟨nI k, x_x_history_kept_posts ((o + k) % 8), x_x_history_kept_pairs ((o + k) % 8), cp0 (x_x_history_kept_widths ((o + k) % 8)) x_x_net_widths 11, cp0 (x_x_history_kept_lengths ((o + k) % 8)) x_x_net_lengths 11, cp0 (x_x_history_kept_told ((o + k) % 8)) x_x_net_told 121, cp0 (x_x_history_kept_behind ((o + k) % 8)) x_x_net_behind 11, v1, v2, v3, v4, v5, v6, v7, nI k, (-1 : Int32), (-1 : Int32), (-1 : Int32), 0, x_m_old (266 * ((o + k) % 8)), x_m_old (266 * ((o + k) % 8) + 1), nI ((o + k) % 8), nI k, nI (266 * ((o + k) % 8) + 266), wrM x_m_wide 0 (fun j => x_m_old (266 * ((o + k) % 8) + 2 + j)) 11, wrM x_m_places 0 (fun j => x_m_old (266 * ((o + k) % 8) + 13 + j)) 11, wrM x_m_weights 0 (fun j => x_m_old (266 * ((o + k) % 8) + 24 + j)) 121, wrM x_m_pair 0 (fun j => x_m_old (266 * ((o + k) % 8) + 145 + j)) 121, ?_, ?_, Rel_mk hN q2 hH h4 h5 h6 ⟨Or.inl rfl, Or.inl rfl⟩ (Or.inl rfl)⟩
    · unfold f_X10_undo
      rw [e1, e2, if_neg (nI_ne0 (by omega) (by omega)), takeBack_n ho hk]
      simp only [b7, Option.bind_some]
      rw [q1]
      rfl
    · rw [e3, e4]
      exact undoM_n (Nat.mod_lt _ (by decide)) hs hk
