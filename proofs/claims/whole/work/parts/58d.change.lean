/-! LAYER 2: the changes of the net, but for pair -/
theorem NetR_post {n : Nat} {posts pairs mposts mpairs : Int32} {w l t b wd pl wt pr : Nat → Int32} (h : NetR n posts pairs w l t b mposts mpairs wd pl wt pr) (h11 : n < 11) : NetR (n + 1) (nI (n + 1)) pairs w l t b (nI (n + 1)) mpairs (upd wd n (-1 : Int32)) (upd pl n 0) wt pr := by
  obtain ⟨hn, e1, e2, e3, e4, e5, h6, h7, h8, h9, h10, hp, rk, h12⟩ := h
  have t0 : ∀ b, tdM (upd wd n (-1 : Int32)) (upd pl n 0) wt n b = 0 := fun b => by
    unfold tdM
    rw [pk_us, if_pos rfl]
  have t1 : ∀ a b, a ≠ n → tdM (upd wd n (-1 : Int32)) (upd pl n 0) wt a b = tdM wd pl wt a b := fun a b ha => tdM_congr (pk_un ha) (pk_un ha) rfl
  refine ⟨by omega, rfl, rfl, e3, e4, e5, fun a ha => ?_, fun a ha hb => h7 a (by omega) hb, fun a b ha hb => ?_, fun a b ha hb => ?_, h10, fun a b ha hb => ?_, rk, h12⟩
  · by_cases hx : a = n
    · subst hx
      obtain ⟨q1, q2⟩ := h7 a (Nat.le_refl a) h11
      rw [pk_us, pk_us]
      exact ⟨q1, q2, Or.inl rfl, 0, by omega, nI_0.symm⟩
    · rw [pk_un hx, pk_un hx]
      exact h6 a (by omega)
  · rw [h8 a b ha hb]
    by_cases hx : a = n
    · subst hx
      rw [t0, if_neg (by omega), if_pos (by omega)]
    · rw [t1 a b hx]
      by_cases h1 : a < n
      · rw [if_pos h1, if_pos (by omega)]
      · rw [if_neg h1, if_neg (by omega)]
  · by_cases hx : a = n
    · subst hx
      rw [t0]
      exact ⟨0, by omega, nI_0.symm⟩
    · rw [t1 a b hx]
      exact h9 a b (by omega) hb
  · rcases hp a b ha hb with q | ⟨q1, q2, q3⟩
    · exact Or.inl q
    · exact Or.inr ⟨q1, by omega, by omega⟩
theorem NetR_renew {n i L : Nat} {posts pairs mposts mpairs wv : Int32} {w l t b wd pl wt wt2 pr : Nat → Int32} (h : NetR n posts pairs w l t b mposts mpairs wd pl wt pr) (hi : i < n) (hL : L ≤ 11) (hwv : wv = (-1 : Int32) ∨ wv = 0 ∨ wv = 1 ∨ wv = 2) (hs : ∀ a b, a < 11 → b < 11 → a ≠ i → wt2 (11 * a + b) = wt (11 * a + b)) (hz : wv = (-1 : Int32) ∨ ∀ b, b < 11 → wt2 (11 * i + b) = 0) : NetR n posts pairs (upd w i wv) (upd l i (nI L)) (wrM t (11 * i) (fun _ => 0) 11) b mposts mpairs (upd wd i wv) (upd pl i (nI L)) wt2 pr := by
  obtain ⟨hn, e1, e2, e3, e4, e5, h6, h7, h8, h9, h10, hp, rk, h12⟩ := h
  have t0 : ∀ b, b < 11 → tdM (upd wd i wv) (upd pl i (nI L)) wt2 i b = 0 := fun b hb => by
    unfold tdM
    rw [pk_us, pk_us]
    rcases hz with hz | hz
    · rw [if_pos hz]
    · rw [hz b hb]
      simp
  have t1 : ∀ a b, a < 11 → b < 11 → a ≠ i → tdM (upd wd i wv) (upd pl i (nI L)) wt2 a b = tdM wd pl wt a b := fun a b ha hb hx => tdM_congr (pk_un hx) (pk_un hx) (hs a b ha hb hx)
  refine ⟨hn, e1, e2, e3, e4, e5, fun a ha => ?_, fun a ha hb => ?_, fun a b ha hb => ?_, fun a b ha hb => ?_, h10, hp, rk, h12⟩
  · by_cases hx : a = i
    · subst hx
      rw [pk_us, pk_us, pk_us, pk_us]
      exact ⟨rfl, rfl, hwv, L, hL, rfl⟩
    · rw [pk_un hx, pk_un hx, pk_un hx, pk_un hx]
      exact h6 a ha
  · rw [pk_un (by omega), pk_un (by omega)]
    exact h7 a ha hb
  · unfold wrM
    by_cases hx : a = i
    · subst hx
      rw [if_pos (by omega), t0 b hb]
      simp
    · rw [if_neg (by omega), t1 a b ha hb hx]
      exact h8 a b ha hb
  · by_cases hx : a = i
    · subst hx
      rw [t0 b hb]
      exact ⟨0, by omega, nI_0.symm⟩
    · rw [t1 a b (by omega) hb hx]
      exact h9 a b ha hb
theorem renewSheet_n {w l t : Nat → Int32} {i : Nat} {wv lv : Int32} (hi : i < 11) : f_X4_renewSheet w l t (nI i) wv lv = some (upd w i wv, upd l i lv, wrM t (11 * i) (fun _ => 0) 11) := by
  unfold f_X4_renewSheet
  rw [si_n hi (by omega), si_n hi (by omega)]
  simp only [Option.bind_some]
  have h : loopS (fun (s : Int32 × (Nat → Int32)) => f_X4_renewSheet_L17 (nI i) s.1 s.2) ((0 : Int32), t) = some (wrM t (11 * i) (fun _ => 0) 11) := by
    refine loop_go (fun k => (nI k, wrM t (11 * i) (fun _ => 0) k)) 11 ?_ (fun k hk => ?_) ?_
    · rw [wrM_0]
      rfl
    · dsimp only
      unfold f_X4_renewSheet_L17
      rw [if_neg (show ¬ (11 : Int32) ≤ nI k from nI_ge (b := 11) hk (by decide)), ix11', si_n (by omega) (by omega), nI_1, ← wrM_s]
      rfl
    · dsimp only
      unfold f_X4_renewSheet_L17
      rw [if_pos (show (11 : Int32) ≤ nI 11 from nI_le (a := 11) (by omega) (by decide))]
  rw [h]
  rfl
theorem sheetM_n {t : Nat → Int32} {i : Nat} (hi : i < 11) : loopS (fun (s : Int32 × (Nat → Int32)) => f_X11_sheet_L59 (nI i) s.1 s.2) ((0 : Int32), t) = some (wrM t (11 * i) (fun _ => 0) 11) := by
  refine loop_go (fun k => (nI k, wrM t (11 * i) (fun _ => 0) k)) 11 ?_ (fun k hk => ?_) ?_
  · rw [wrM_0]
    rfl
  · dsimp only
    unfold f_X11_sheet_L59
    rw [if_neg (show ¬ (11 : Int32) ≤ nI k from nI_ge (b := 11) hk (by decide)), ix11, si_n (by omega) (by omega), nI_1, ← wrM_s]
    rfl
  · dsimp only
    unfold f_X11_sheet_L59
    rw [if_pos (show (11 : Int32) ≤ nI 11 from nI_le (a := 11) (by omega) (by decide))]
theorem isMissing_n {w : Nat → Int32} {i : Nat} (hi : i < 11) : f_X4_isMissing w (nI i) = some (if w i = (-1 : Int32) then 1 else 0) := by
  unfold f_X4_isMissing
  rw [gi_n hi (by omega)]
  simp only [Option.bind_some]
  by_cases h : w i = (-1 : Int32)
  · rw [if_pos h, if_pos h]
  · rw [if_neg h, if_neg h]
theorem in_gen {x : Int32} {v : Nat} (hv : v < 100000) : f_X11_in x (0 : Int32) (nI v) = some (if x < 0 ∨ nI v < x then 0 else 1) := by
  unfold f_X11_in
  by_cases h1 : x < 0
  · rw [if_pos h1, if_pos (Or.inl h1)]
  · rw [if_neg h1]
    by_cases h2 : nI v < x
    · rw [if_pos h2, if_pos (Or.inr h2)]
    · rw [if_neg h2, if_neg (by rintro (q | q); exact h1 q; exact h2 q)]
/-- a number that is neither below 0 nor above v -/
theorem nI_upto {x : Int32} {v : Nat} (hv : v < 100000) (h0 : ¬ x < 0) (h1 : ¬ nI v < x) : ∃ j, j ≤ v ∧ x = nI j := by
  obtain ⟨j, hj, rfl⟩ := nI_of h0
  refine ⟨j, ?_, rfl⟩
  rcases Nat.lt_or_ge v j with h2 | h2
  · exact absurd (nI_lt h2 hj) h1
  · exact h2

theorem l2_post (x_x_net_posts : Int32) (x_x_net_pairs : Int32) (x_x_net_widths : Nat → Int32) (x_x_net_lengths : Nat → Int32) (x_x_net_told : Nat → Int32) (x_x_net_behind : Nat → Int32) (x_x_view_posts : Int32) (x_x_view_roads : Int32) (x_x_view_weight : Int32) (x_x_view_weights : Nat → Int32) (x_x_view_near : Nat → Int32) (x_x_view_behind : Nat → Int32) (x_x_view_ahead : Nat → Int32) (x_x_history_oldest : Int32) (x_x_history_size : Int32) (x_x_history_kept_posts : Nat → Int32) (x_x_history_kept_pairs : Nat → Int32) (x_x_history_kept_widths : Nat → Nat → Int32) (x_x_history_kept_lengths : Nat → Nat → Int32) (x_x_history_kept_told : Nat → Nat → Int32) (x_x_history_kept_behind : Nat → Nat → Int32) (x_x_hand_size : Int32) (x_x_hand_posts : Nat → Int32) (x_x_trial_size : Int32) (x_x_trial_posts : Nat → Int32) (x_x_bags_size : Int32) (x_x_bags_sets : Nat → Int32) (x_x_chase_size : Int32) (x_x_chase_guarded : Int32) (x_x_chase_most : Int32) (x_x_chase_again : Int32) (x_x_chase_idle : Int32) (x_x_chase_moves : Nat → Int32) (x_x_chase_foul : Nat → Int32) (x_x_sets_solvedFor : Int32) (x_x_sets_lowest : Int32) (x_x_sets_total : Int32) (x_x_sets_pricedFor : Int32) (x_x_sets_prices : Nat → Int32) (x_x_sets_rests : Nat → Int32) (x_x_sets_ways : Nat → Int32) (x_x_trials_solvedFor : Int32) (x_x_trials_lowest : Int32) (x_x_trials_total : Int32) (x_x_trials_found : Nat → Int32) (x_x_trials_row_size : Int32) (x_x_trials_row_posts : Nat → Int32) (x_m_thrown : Int32) (x_m_posts : Int32) (x_m_pairs : Int32) (x_m_keptEnd : Int32) (x_m_kept : Int32) (x_m_many : Int32) (x_m_bags : Int32) (x_m_moves : Int32) (x_m_pen : Int32) (x_m_savedMany : Int32) (x_m_leastRow : Int32) (x_m_bestRows : Int32) (x_m_askedRow : Int32) (x_m_rankOfSaved : Int32) (x_m_wallSet : Int32) (x_m_fouledAgain : Int32) (x_m_wide : Nat → Int32) (x_m_places : Nat → Int32) (x_m_weights : Nat → Int32) (x_m_pair : Nat → Int32) (x_m_old : Nat → Int32) (x_m_row : Nat → Int32) (x_m_bag : Nat → Int32) (x_m_hunt : Nat → Int32) (x_m_behind : Nat → Int32) (x_m_least : Nat → Int32) (x_m_ways : Nat → Int32) (x_m_saved : Nat → Int32) (x_m_kth : Nat → Int32) (x_m_clean : Nat → Int32) (h : Rel x_x_net_posts x_x_net_pairs x_x_net_widths x_x_net_lengths x_x_net_told x_x_net_behind x_x_view_posts x_x_view_roads x_x_view_weight x_x_view_weights x_x_view_near x_x_view_behind x_x_view_ahead x_x_history_oldest x_x_history_size x_x_history_kept_posts x_x_history_kept_pairs x_x_history_kept_widths x_x_history_kept_lengths x_x_history_kept_told x_x_history_kept_behind x_x_hand_size x_x_hand_posts x_x_trial_size x_x_trial_posts x_x_bags_size x_x_bags_sets x_x_chase_size x_x_chase_guarded x_x_chase_most x_x_chase_again x_x_chase_idle x_x_chase_moves x_x_chase_foul x_x_sets_solvedFor x_x_sets_lowest x_x_sets_total x_x_sets_pricedFor x_x_sets_prices x_x_sets_rests x_x_sets_ways x_x_trials_solvedFor x_x_trials_lowest x_x_trials_total x_x_trials_found x_x_trials_row_size x_x_trials_row_posts x_m_thrown x_m_posts x_m_pairs x_m_keptEnd x_m_kept x_m_many x_m_bags x_m_moves x_m_pen x_m_savedMany x_m_leastRow x_m_bestRows x_m_askedRow x_m_rankOfSaved x_m_wallSet x_m_fouledAgain x_m_wide x_m_places x_m_weights x_m_pair x_m_old x_m_row x_m_bag x_m_hunt x_m_behind x_m_least x_m_ways x_m_saved x_m_kth x_m_clean) : ∃ (r : Int32) (o_x_net_posts : Int32) (o_x_view_posts : Int32) (o_x_view_roads : Int32) (o_x_view_weight : Int32) (o_x_view_weights : Nat → Int32) (o_x_view_near : Nat → Int32) (o_x_view_behind : Nat → Int32) (o_x_view_ahead : Nat → Int32) (o_x_history_oldest : Int32) (o_x_history_size : Int32) (o_x_history_kept_posts : Nat → Int32) (o_x_history_kept_pairs : Nat → Int32) (o_x_history_kept_widths : Nat → Nat → Int32) (o_x_history_kept_lengths : Nat → Nat → Int32) (o_x_history_kept_told : Nat → Nat → Int32) (o_x_history_kept_behind : Nat → Nat → Int32) (o_x_sets_solvedFor : Int32) (o_x_sets_pricedFor : Int32) (o_x_trials_solvedFor : Int32) (o_m_thrown : Int32) (o_m_posts : Int32) (o_m_keptEnd : Int32) (o_m_kept : Int32) (o_m_pen : Int32) (o_m_wide : Nat → Int32) (o_m_places : Nat → Int32) (o_m_old : Nat → Int32), f_X10_post x_x_net_posts x_x_net_pairs x_x_net_widths x_x_net_lengths x_x_net_told x_x_net_behind x_x_view_posts x_x_view_roads x_x_view_weight x_x_view_weights x_x_view_near x_x_view_behind x_x_view_ahead x_x_history_oldest x_x_history_size x_x_history_kept_posts x_x_history_kept_pairs x_x_history_kept_widths x_x_history_kept_lengths x_x_history_kept_told x_x_history_kept_behind x_x_sets_solvedFor x_x_sets_pricedFor x_x_trials_solvedFor = some (r, o_x_net_posts, o_x_view_posts, o_x_view_roads, o_x_view_weight, o_x_view_weights, o_x_view_near, o_x_view_behind, o_x_view_ahead, o_x_history_oldest, o_x_history_size, o_x_history_kept_posts, o_x_history_kept_pairs, o_x_history_kept_widths, o_x_history_kept_lengths, o_x_history_kept_told, o_x_history_kept_behind, o_x_sets_solvedFor, o_x_sets_pricedFor, o_x_trials_solvedFor) ∧ f_X11_post x_m_thrown x_m_posts x_m_pairs x_m_keptEnd x_m_kept x_m_pen x_m_wide x_m_places x_m_weights x_m_pair x_m_old = some (r, o_m_thrown, o_m_posts, o_m_keptEnd, o_m_kept, o_m_pen, o_m_wide, o_m_places, o_m_old) ∧ Rel o_x_net_posts x_x_net_pairs x_x_net_widths x_x_net_lengths x_x_net_told x_x_net_behind o_x_view_posts o_x_view_roads o_x_view_weight o_x_view_weights o_x_view_near o_x_view_behind o_x_view_ahead o_x_history_oldest o_x_history_size o_x_history_kept_posts o_x_history_kept_pairs o_x_history_kept_widths o_x_history_kept_lengths o_x_history_kept_told o_x_history_kept_behind x_x_hand_size x_x_hand_posts x_x_trial_size x_x_trial_posts x_x_bags_size x_x_bags_sets x_x_chase_size x_x_chase_guarded x_x_chase_most x_x_chase_again x_x_chase_idle x_x_chase_moves x_x_chase_foul o_x_sets_solvedFor x_x_sets_lowest x_x_sets_total o_x_sets_pricedFor x_x_sets_prices x_x_sets_rests x_x_sets_ways o_x_trials_solvedFor x_x_trials_lowest x_x_trials_total x_x_trials_found x_x_trials_row_size x_x_trials_row_posts o_m_thrown o_m_posts x_m_pairs o_m_keptEnd o_m_kept x_m_many x_m_bags x_m_moves o_m_pen x_m_savedMany x_m_leastRow x_m_bestRows x_m_askedRow x_m_rankOfSaved x_m_wallSet x_m_fouledAgain o_m_wide o_m_places x_m_weights x_m_pair o_m_old x_m_row x_m_bag x_m_hunt x_m_behind x_m_least x_m_ways x_m_saved x_m_kth x_m_clean := by
  obtain ⟨n, h1, h2, h3, h4, h5, h6, h7, h8⟩ := h
  have hn : n ≤ 11 := h1.1
  have ep := h1.2.1
  have em := h1.2.2.1
  subst ep
  subst em
  have d10 : ¬ (1 : Int32) = 0 := by decide
  rcases Nat.lt_or_ge n 11 with h11 | h11
  · have hN := NetR_post h1 h11
    obtain ⟨k1, k2, k3, k4, k5, k6, k7, k8, m1, m2, m3, m4, g1, g2, g3⟩ := keep_ok h3 h1 x_m_pen
    obtain ⟨v1, v2, v3, v4, v5, v6, v7, q1, q2⟩ := refresh_ok hN x_x_view_posts x_x_view_roads x_x_view_weight x_x_view_weights x_x_view_near x_x_view_behind x_x_view_ahead x_x_sets_solvedFor x_x_sets_pricedFor x_x_trials_solvedFor
    refine ⟨nI n, nI (n + 1), v1, v2, v3, v4, v5, v6, v7, k1, k2, k3, k4, k5, k6, k7, k8, (-1 : Int32), (-1 : Int32), (-1 : Int32), 0, nI (n + 1), m1, m2, m3, upd x_m_wide n (-1 : Int32), upd x_m_places n 0, m4, ?_, ?_, Rel_mk hN q2 g3 h4 h5 h6 ⟨Or.inl rfl, Or.inl rfl⟩ (Or.inl rfl)⟩
    · unfold f_X10_post
      rw [if_pos (show nI n < (11 : Int32) from nI_lt (b := 11) h11 (by decide)), g1, nI_1, q1, show nI (n + 1) - (1 : Int32) = nI n from nI_pred n]
      rfl
    · unfold f_X11_post
      rw [if_neg (show ¬ nI n = (11 : Int32) from fun q => by have := (nI_eq (b := 11) (by omega) (by decide)).mp q; omega), g2, si_n h11 (by omega), si_n h11 (by omega), nI_1, show nI (n + 1) - (1 : Int32) = nI n from nI_pred n]
      rfl
  · have e11 : n = 11 := by omega
    subst e11
    refine ⟨(-5 : Int32), nI 11, x_x_view_posts, x_x_view_roads, x_x_view_weight, x_x_view_weights, x_x_view_near, x_x_view_behind, x_x_view_ahead, x_x_history_oldest, x_x_history_size, x_x_history_kept_posts, x_x_history_kept_pairs, x_x_history_kept_widths, x_x_history_kept_lengths, x_x_history_kept_told, x_x_history_kept_behind, x_x_sets_solvedFor, x_x_sets_pricedFor, x_x_trials_solvedFor, 0, nI 11, x_m_keptEnd, x_m_kept, x_m_pen, x_m_wide, x_m_places, x_m_old, ?_, ?_, Rel_mk h1 h2 h3 h4 h5 h6 h7 h8⟩
    · unfold f_X10_post
      rw [if_neg (show ¬ nI 11 < (11 : Int32) from by decide)]
    · unfold f_X11_post
      rw [if_pos (show nI 11 = (11 : Int32) from rfl)]
theorem l2_sheet (x_x_net_posts : Int32) (x_x_net_pairs : Int32) (x_x_net_widths : Nat → Int32) (x_x_net_lengths : Nat → Int32) (x_x_net_told : Nat → Int32) (x_x_net_behind : Nat → Int32) (x_x_view_posts : Int32) (x_x_view_roads : Int32) (x_x_view_weight : Int32) (x_x_view_weights : Nat → Int32) (x_x_view_near : Nat → Int32) (x_x_view_behind : Nat → Int32) (x_x_view_ahead : Nat → Int32) (x_x_history_oldest : Int32) (x_x_history_size : Int32) (x_x_history_kept_posts : Nat → Int32) (x_x_history_kept_pairs : Nat → Int32) (x_x_history_kept_widths : Nat → Nat → Int32) (x_x_history_kept_lengths : Nat → Nat → Int32) (x_x_history_kept_told : Nat → Nat → Int32) (x_x_history_kept_behind : Nat → Nat → Int32) (x_x_hand_size : Int32) (x_x_hand_posts : Nat → Int32) (x_x_trial_size : Int32) (x_x_trial_posts : Nat → Int32) (x_x_bags_size : Int32) (x_x_bags_sets : Nat → Int32) (x_x_chase_size : Int32) (x_x_chase_guarded : Int32) (x_x_chase_most : Int32) (x_x_chase_again : Int32) (x_x_chase_idle : Int32) (x_x_chase_moves : Nat → Int32) (x_x_chase_foul : Nat → Int32) (x_x_sets_solvedFor : Int32) (x_x_sets_lowest : Int32) (x_x_sets_total : Int32) (x_x_sets_pricedFor : Int32) (x_x_sets_prices : Nat → Int32) (x_x_sets_rests : Nat → Int32) (x_x_sets_ways : Nat → Int32) (x_x_trials_solvedFor : Int32) (x_x_trials_lowest : Int32) (x_x_trials_total : Int32) (x_x_trials_found : Nat → Int32) (x_x_trials_row_size : Int32) (x_x_trials_row_posts : Nat → Int32) (x_m_thrown : Int32) (x_m_posts : Int32) (x_m_pairs : Int32) (x_m_keptEnd : Int32) (x_m_kept : Int32) (x_m_many : Int32) (x_m_bags : Int32) (x_m_moves : Int32) (x_m_pen : Int32) (x_m_savedMany : Int32) (x_m_leastRow : Int32) (x_m_bestRows : Int32) (x_m_askedRow : Int32) (x_m_rankOfSaved : Int32) (x_m_wallSet : Int32) (x_m_fouledAgain : Int32) (x_m_wide : Nat → Int32) (x_m_places : Nat → Int32) (x_m_weights : Nat → Int32) (x_m_pair : Nat → Int32) (x_m_old : Nat → Int32) (x_m_row : Nat → Int32) (x_m_bag : Nat → Int32) (x_m_hunt : Nat → Int32) (x_m_behind : Nat → Int32) (x_m_least : Nat → Int32) (x_m_ways : Nat → Int32) (x_m_saved : Nat → Int32) (x_m_kth : Nat → Int32) (x_m_clean : Nat → Int32) (a1 : Int32) (a2 : Int32) (a3 : Int32) (h : Rel x_x_net_posts x_x_net_pairs x_x_net_widths x_x_net_lengths x_x_net_told x_x_net_behind x_x_view_posts x_x_view_roads x_x_view_weight x_x_view_weights x_x_view_near x_x_view_behind x_x_view_ahead x_x_history_oldest x_x_history_size x_x_history_kept_posts x_x_history_kept_pairs x_x_history_kept_widths x_x_history_kept_lengths x_x_history_kept_told x_x_history_kept_behind x_x_hand_size x_x_hand_posts x_x_trial_size x_x_trial_posts x_x_bags_size x_x_bags_sets x_x_chase_size x_x_chase_guarded x_x_chase_most x_x_chase_again x_x_chase_idle x_x_chase_moves x_x_chase_foul x_x_sets_solvedFor x_x_sets_lowest x_x_sets_total x_x_sets_pricedFor x_x_sets_prices x_x_sets_rests x_x_sets_ways x_x_trials_solvedFor x_x_trials_lowest x_x_trials_total x_x_trials_found x_x_trials_row_size x_x_trials_row_posts x_m_thrown x_m_posts x_m_pairs x_m_keptEnd x_m_kept x_m_many x_m_bags x_m_moves x_m_pen x_m_savedMany x_m_leastRow x_m_bestRows x_m_askedRow x_m_rankOfSaved x_m_wallSet x_m_fouledAgain x_m_wide x_m_places x_m_weights x_m_pair x_m_old x_m_row x_m_bag x_m_hunt x_m_behind x_m_least x_m_ways x_m_saved x_m_kth x_m_clean) : ∃ (r : Int32) (o_x_net_widths : Nat → Int32) (o_x_net_lengths : Nat → Int32) (o_x_net_told : Nat → Int32) (o_x_view_posts : Int32) (o_x_view_roads : Int32) (o_x_view_weight : Int32) (o_x_view_weights : Nat → Int32) (o_x_view_near : Nat → Int32) (o_x_view_behind : Nat → Int32) (o_x_view_ahead : Nat → Int32) (o_x_history_oldest : Int32) (o_x_history_size : Int32) (o_x_history_kept_posts : Nat → Int32) (o_x_history_kept_pairs : Nat → Int32) (o_x_history_kept_widths : Nat → Nat → Int32) (o_x_history_kept_lengths : Nat → Nat → Int32) (o_x_history_kept_told : Nat → Nat → Int32) (o_x_history_kept_behind : Nat → Nat → Int32) (o_x_sets_solvedFor : Int32) (o_x_sets_pricedFor : Int32) (o_x_trials_solvedFor : Int32) (o_m_thrown : Int32) (o_m_keptEnd : Int32) (o_m_kept : Int32) (o_m_pen : Int32) (o_m_wide : Nat → Int32) (o_m_places : Nat → Int32) (o_m_weights : Nat → Int32) (o_m_old : Nat → Int32), f_X10_sheet x_x_net_posts x_x_net_pairs x_x_net_widths x_x_net_lengths x_x_net_told x_x_net_behind x_x_view_posts x_x_view_roads x_x_view_weight x_x_view_weights x_x_view_near x_x_view_behind x_x_view_ahead x_x_history_oldest x_x_history_size x_x_history_kept_posts x_x_history_kept_pairs x_x_history_kept_widths x_x_history_kept_lengths x_x_history_kept_told x_x_history_kept_behind x_x_sets_solvedFor x_x_sets_pricedFor x_x_trials_solvedFor a1 a2 a3 = some (r, o_x_net_widths, o_x_net_lengths, o_x_net_told, o_x_view_posts, o_x_view_roads, o_x_view_weight, o_x_view_weights, o_x_view_near, o_x_view_behind, o_x_view_ahead, o_x_history_oldest, o_x_history_size, o_x_history_kept_posts, o_x_history_kept_pairs, o_x_history_kept_widths, o_x_history_kept_lengths, o_x_history_kept_told, o_x_history_kept_behind, o_x_sets_solvedFor, o_x_sets_pricedFor, o_x_trials_solvedFor) ∧ f_X11_sheet x_m_thrown x_m_posts x_m_pairs x_m_keptEnd x_m_kept x_m_pen x_m_wide x_m_places x_m_weights x_m_pair x_m_old a1 a2 a3 = some (r, o_m_thrown, o_m_keptEnd, o_m_kept, o_m_pen, o_m_wide, o_m_places, o_m_weights, o_m_old) ∧ Rel x_x_net_posts x_x_net_pairs o_x_net_widths o_x_net_lengths o_x_net_told x_x_net_behind o_x_view_posts o_x_view_roads o_x_view_weight o_x_view_weights o_x_view_near o_x_view_behind o_x_view_ahead o_x_history_oldest o_x_history_size o_x_history_kept_posts o_x_history_kept_pairs o_x_history_kept_widths o_x_history_kept_lengths o_x_history_kept_told o_x_history_kept_behind x_x_hand_size x_x_hand_posts x_x_trial_size x_x_trial_posts x_x_bags_size x_x_bags_sets x_x_chase_size x_x_chase_guarded x_x_chase_most x_x_chase_again x_x_chase_idle x_x_chase_moves x_x_chase_foul o_x_sets_solvedFor x_x_sets_lowest x_x_sets_total o_x_sets_pricedFor x_x_sets_prices x_x_sets_rests x_x_sets_ways o_x_trials_solvedFor x_x_trials_lowest x_x_trials_total x_x_trials_found x_x_trials_row_size x_x_trials_row_posts o_m_thrown x_m_posts x_m_pairs o_m_keptEnd o_m_kept x_m_many x_m_bags x_m_moves o_m_pen x_m_savedMany x_m_leastRow x_m_bestRows x_m_askedRow x_m_rankOfSaved x_m_wallSet x_m_fouledAgain o_m_wide o_m_places o_m_weights x_m_pair o_m_old x_m_row x_m_bag x_m_hunt x_m_behind x_m_least x_m_ways x_m_saved x_m_kth x_m_clean := by
  obtain ⟨n, h1, h2, h3, h4, h5, h6, h7, h8⟩ := h
  have hn : n ≤ 11 := h1.1
  have ep := h1.2.1
  have em := h1.2.2.1
  subst ep
  subst em
  have d10 : ¬ (1 : Int32) = 0 := by decide
  have r2 : f_X11_in a2 (0 : Int32) (2 : Int32) = _ := in_gen (x := a2) (v := 2) (by omega)
  rcases isPost_n hn a1 with ⟨i, hi, ha, p1, p2⟩ | ⟨ha, p1, p2⟩
  · subst ha
    by_cases hw : a2 < 0 ∨ nI 2 < a2
    · refine ⟨(-3 : Int32), x_x_net_widths, x_x_net_lengths, x_x_net_told, x_x_view_posts, x_x_view_roads, x_x_view_weight, x_x_view_weights, x_x_view_near, x_x_view_behind, x_x_view_ahead, x_x_history_oldest, x_x_history_size, x_x_history_kept_posts, x_x_history_kept_pairs, x_x_history_kept_widths, x_x_history_kept_lengths, x_x_history_kept_told, x_x_history_kept_behind, x_x_sets_solvedFor, x_x_sets_pricedFor, x_x_trials_solvedFor, 0, x_m_keptEnd, x_m_kept, x_m_pen, x_m_wide, x_m_places, x_m_weights, x_m_old, ?_, ?_, Rel_mk h1 h2 h3 h4 h5 h6 h7 h8⟩
      · unfold f_X10_sheet
        rw [p2]
        simp only [Option.bind_some, if_neg d10]
        by_cases h0 : a2 < 0
        · rw [if_pos h0]
        · rw [if_neg h0, if_pos (show (2 : Int32) < a2 from hw.resolve_left h0)]
      · unfold f_X11_sheet
        rw [p1, r2, if_pos hw]
        simp only [Option.bind_some, if_neg d10, if_true]
    · have w0 : ¬ a2 < 0 := fun q => hw (Or.inl q)
      have w1 : ¬ nI 2 < a2 := fun q => hw (Or.inr q)
      by_cases hl : a3 ≤ (11 : Int32)
      · by_cases hl0 : 0 ≤ a3
        · obtain ⟨L, hL, rfl⟩ := nI_upto (x := a3) (v := 11) (by omega) (Int32.not_lt.mpr hl0) (Int32.not_lt.mpr hl)
          have hwv : a2 = (-1 : Int32) ∨ a2 = 0 ∨ a2 = 1 ∨ a2 = 2 := by
            obtain ⟨W, hW, rfl⟩ := nI_upto (x := a2) (v := 2) (by omega) w0 w1
            rcases (show W = 0 ∨ W = 1 ∨ W = 2 by omega) with rfl | rfl | rfl
            · exact Or.inr (Or.inl rfl)
            · exact Or.inr (Or.inr (Or.inl rfl))
            · exact Or.inr (Or.inr (Or.inr rfl))
          have hN := NetR_renew (L := L) (wt2 := wrM x_m_weights (11 * i) (fun _ => 0) 11) h1 hi hL hwv (fun a b hx hy hxi => by unfold wrM; rw [if_neg (by omega)]) (Or.inr (fun b hb => by unfold wrM; rw [if_pos (by omega)]))
          obtain ⟨k1, k2, k3, k4, k5, k6, k7, k8, m1, m2, m3, m4, g1, g2, g3⟩ := keep_ok h3 h1 x_m_pen
          obtain ⟨v1, v2, v3, v4, v5, v6, v7, q1, q2⟩ := refresh_ok hN x_x_view_posts x_x_view_roads x_x_view_weight x_x_view_weights x_x_view_near x_x_view_behind x_x_view_ahead x_x_sets_solvedFor x_x_sets_pricedFor x_x_trials_solvedFor
          refine ⟨nI L, upd x_x_net_widths i a2, upd x_x_net_lengths i (nI L), wrM x_x_net_told (11 * i) (fun _ => 0) 11, v1, v2, v3, v4, v5, v6, v7, k1, k2, k3, k4, k5, k6, k7, k8, (-1 : Int32), (-1 : Int32), (-1 : Int32), 0, m1, m2, m3, upd x_m_wide i a2, upd x_m_places i (nI L), wrM x_m_weights (11 * i) (fun _ => 0) 11, m4, ?_, ?_, Rel_mk hN q2 g3 h4 h5 h6 ⟨Or.inl rfl, Or.inl rfl⟩ (Or.inl rfl)⟩
          · unfold f_X10_sheet
            rw [p2, renewSheet_n (by omega), g1]
            simp only [Option.bind_some, if_neg d10, b3, b8]
            rw [if_neg w0, if_neg (show ¬ (2 : Int32) < a2 from w1), if_pos hl, if_pos hl0, q1]
            rfl
          · unfold f_X11_sheet
            rw [p1, r2, if_neg hw, g2, sheetM_n (by omega), si_n (by omega) (by omega), si_n (by omega) (by omega)]
            simp only [Option.bind_some, if_neg d10]
            rw [if_pos hl, if_pos hl0]
            rfl
        · refine ⟨(-14 : Int32), x_x_net_widths, x_x_net_lengths, x_x_net_told, x_x_view_posts, x_x_view_roads, x_x_view_weight, x_x_view_weights, x_x_view_near, x_x_view_behind, x_x_view_ahead, x_x_history_oldest, x_x_history_size, x_x_history_kept_posts, x_x_history_kept_pairs, x_x_history_kept_widths, x_x_history_kept_lengths, x_x_history_kept_told, x_x_history_kept_behind, x_x_sets_solvedFor, x_x_sets_pricedFor, x_x_trials_solvedFor, 0, x_m_keptEnd, x_m_kept, x_m_pen, x_m_wide, x_m_places, x_m_weights, x_m_old, ?_, ?_, Rel_mk h1 h2 h3 h4 h5 h6 h7 h8⟩
          · unfold f_X10_sheet
            rw [p2]
            simp only [Option.bind_some, if_neg d10]
            rw [if_neg w0, if_neg (show ¬ (2 : Int32) < a2 from w1), if_pos hl, if_neg hl0]
          · unfold f_X11_sheet
            rw [p1, r2, if_neg hw]
            simp only [Option.bind_some, if_neg d10]
            rw [if_pos hl, if_neg hl0]
      · refine ⟨(-3 : Int32), x_x_net_widths, x_x_net_lengths, x_x_net_told, x_x_view_posts, x_x_view_roads, x_x_view_weight, x_x_view_weights, x_x_view_near, x_x_view_behind, x_x_view_ahead, x_x_history_oldest, x_x_history_size, x_x_history_kept_posts, x_x_history_kept_pairs, x_x_history_kept_widths, x_x_history_kept_lengths, x_x_history_kept_told, x_x_history_kept_behind, x_x_sets_solvedFor, x_x_sets_pricedFor, x_x_trials_solvedFor, 0, x_m_keptEnd, x_m_kept, x_m_pen, x_m_wide, x_m_places, x_m_weights, x_m_old, ?_, ?_, Rel_mk h1 h2 h3 h4 h5 h6 h7 h8⟩
        · unfold f_X10_sheet
          rw [p2]
          simp only [Option.bind_some, if_neg d10]
          rw [if_neg w0, if_neg (show ¬ (2 : Int32) < a2 from w1), if_neg hl]
        · unfold f_X11_sheet
          rw [p1, r2, if_neg hw]
          simp only [Option.bind_some, if_neg d10]
          rw [if_neg hl]
  · refine ⟨(-3 : Int32), x_x_net_widths, x_x_net_lengths, x_x_net_told, x_x_view_posts, x_x_view_roads, x_x_view_weight, x_x_view_weights, x_x_view_near, x_x_view_behind, x_x_view_ahead, x_x_history_oldest, x_x_history_size, x_x_history_kept_posts, x_x_history_kept_pairs, x_x_history_kept_widths, x_x_history_kept_lengths, x_x_history_kept_told, x_x_history_kept_behind, x_x_sets_solvedFor, x_x_sets_pricedFor, x_x_trials_solvedFor, 0, x_m_keptEnd, x_m_kept, x_m_pen, x_m_wide, x_m_places, x_m_weights, x_m_old, ?_, ?_, Rel_mk h1 h2 h3 h4 h5 h6 h7 h8⟩
    · unfold f_X10_sheet
      rw [p2]
      rfl
    · unfold f_X11_sheet
      rw [p1]
      rfl
theorem l2_lose (x_x_net_posts : Int32) (x_x_net_pairs : Int32) (x_x_net_widths : Nat → Int32) (x_x_net_lengths : Nat → Int32) (x_x_net_told : Nat → Int32) (x_x_net_behind : Nat → Int32) (x_x_view_posts : Int32) (x_x_view_roads : Int32) (x_x_view_weight : Int32) (x_x_view_weights : Nat → Int32) (x_x_view_near : Nat → Int32) (x_x_view_behind : Nat → Int32) (x_x_view_ahead : Nat → Int32) (x_x_history_oldest : Int32) (x_x_history_size : Int32) (x_x_history_kept_posts : Nat → Int32) (x_x_history_kept_pairs : Nat → Int32) (x_x_history_kept_widths : Nat → Nat → Int32) (x_x_history_kept_lengths : Nat → Nat → Int32) (x_x_history_kept_told : Nat → Nat → Int32) (x_x_history_kept_behind : Nat → Nat → Int32) (x_x_hand_size : Int32) (x_x_hand_posts : Nat → Int32) (x_x_trial_size : Int32) (x_x_trial_posts : Nat → Int32) (x_x_bags_size : Int32) (x_x_bags_sets : Nat → Int32) (x_x_chase_size : Int32) (x_x_chase_guarded : Int32) (x_x_chase_most : Int32) (x_x_chase_again : Int32) (x_x_chase_idle : Int32) (x_x_chase_moves : Nat → Int32) (x_x_chase_foul : Nat → Int32) (x_x_sets_solvedFor : Int32) (x_x_sets_lowest : Int32) (x_x_sets_total : Int32) (x_x_sets_pricedFor : Int32) (x_x_sets_prices : Nat → Int32) (x_x_sets_rests : Nat → Int32) (x_x_sets_ways : Nat → Int32) (x_x_trials_solvedFor : Int32) (x_x_trials_lowest : Int32) (x_x_trials_total : Int32) (x_x_trials_found : Nat → Int32) (x_x_trials_row_size : Int32) (x_x_trials_row_posts : Nat → Int32) (x_m_thrown : Int32) (x_m_posts : Int32) (x_m_pairs : Int32) (x_m_keptEnd : Int32) (x_m_kept : Int32) (x_m_many : Int32) (x_m_bags : Int32) (x_m_moves : Int32) (x_m_pen : Int32) (x_m_savedMany : Int32) (x_m_leastRow : Int32) (x_m_bestRows : Int32) (x_m_askedRow : Int32) (x_m_rankOfSaved : Int32) (x_m_wallSet : Int32) (x_m_fouledAgain : Int32) (x_m_wide : Nat → Int32) (x_m_places : Nat → Int32) (x_m_weights : Nat → Int32) (x_m_pair : Nat → Int32) (x_m_old : Nat → Int32) (x_m_row : Nat → Int32) (x_m_bag : Nat → Int32) (x_m_hunt : Nat → Int32) (x_m_behind : Nat → Int32) (x_m_least : Nat → Int32) (x_m_ways : Nat → Int32) (x_m_saved : Nat → Int32) (x_m_kth : Nat → Int32) (x_m_clean : Nat → Int32) (a1 : Int32) (h : Rel x_x_net_posts x_x_net_pairs x_x_net_widths x_x_net_lengths x_x_net_told x_x_net_behind x_x_view_posts x_x_view_roads x_x_view_weight x_x_view_weights x_x_view_near x_x_view_behind x_x_view_ahead x_x_history_oldest x_x_history_size x_x_history_kept_posts x_x_history_kept_pairs x_x_history_kept_widths x_x_history_kept_lengths x_x_history_kept_told x_x_history_kept_behind x_x_hand_size x_x_hand_posts x_x_trial_size x_x_trial_posts x_x_bags_size x_x_bags_sets x_x_chase_size x_x_chase_guarded x_x_chase_most x_x_chase_again x_x_chase_idle x_x_chase_moves x_x_chase_foul x_x_sets_solvedFor x_x_sets_lowest x_x_sets_total x_x_sets_pricedFor x_x_sets_prices x_x_sets_rests x_x_sets_ways x_x_trials_solvedFor x_x_trials_lowest x_x_trials_total x_x_trials_found x_x_trials_row_size x_x_trials_row_posts x_m_thrown x_m_posts x_m_pairs x_m_keptEnd x_m_kept x_m_many x_m_bags x_m_moves x_m_pen x_m_savedMany x_m_leastRow x_m_bestRows x_m_askedRow x_m_rankOfSaved x_m_wallSet x_m_fouledAgain x_m_wide x_m_places x_m_weights x_m_pair x_m_old x_m_row x_m_bag x_m_hunt x_m_behind x_m_least x_m_ways x_m_saved x_m_kth x_m_clean) : ∃ (r : Int32) (o_x_net_widths : Nat → Int32) (o_x_net_lengths : Nat → Int32) (o_x_net_told : Nat → Int32) (o_x_view_posts : Int32) (o_x_view_roads : Int32) (o_x_view_weight : Int32) (o_x_view_weights : Nat → Int32) (o_x_view_near : Nat → Int32) (o_x_view_behind : Nat → Int32) (o_x_view_ahead : Nat → Int32) (o_x_history_oldest : Int32) (o_x_history_size : Int32) (o_x_history_kept_posts : Nat → Int32) (o_x_history_kept_pairs : Nat → Int32) (o_x_history_kept_widths : Nat → Nat → Int32) (o_x_history_kept_lengths : Nat → Nat → Int32) (o_x_history_kept_told : Nat → Nat → Int32) (o_x_history_kept_behind : Nat → Nat → Int32) (o_x_sets_solvedFor : Int32) (o_x_sets_pricedFor : Int32) (o_x_trials_solvedFor : Int32) (o_m_thrown : Int32) (o_m_keptEnd : Int32) (o_m_kept : Int32) (o_m_pen : Int32) (o_m_wide : Nat → Int32) (o_m_places : Nat → Int32) (o_m_old : Nat → Int32), f_X10_lose x_x_net_posts x_x_net_pairs x_x_net_widths x_x_net_lengths x_x_net_told x_x_net_behind x_x_view_posts x_x_view_roads x_x_view_weight x_x_view_weights x_x_view_near x_x_view_behind x_x_view_ahead x_x_history_oldest x_x_history_size x_x_history_kept_posts x_x_history_kept_pairs x_x_history_kept_widths x_x_history_kept_lengths x_x_history_kept_told x_x_history_kept_behind x_x_sets_solvedFor x_x_sets_pricedFor x_x_trials_solvedFor a1 = some (r, o_x_net_widths, o_x_net_lengths, o_x_net_told, o_x_view_posts, o_x_view_roads, o_x_view_weight, o_x_view_weights, o_x_view_near, o_x_view_behind, o_x_view_ahead, o_x_history_oldest, o_x_history_size, o_x_history_kept_posts, o_x_history_kept_pairs, o_x_history_kept_widths, o_x_history_kept_lengths, o_x_history_kept_told, o_x_history_kept_behind, o_x_sets_solvedFor, o_x_sets_pricedFor, o_x_trials_solvedFor) ∧ f_X11_lose x_m_thrown x_m_posts x_m_pairs x_m_keptEnd x_m_kept x_m_pen x_m_wide x_m_places x_m_weights x_m_pair x_m_old a1 = some (r, o_m_thrown, o_m_keptEnd, o_m_kept, o_m_pen, o_m_wide, o_m_places, o_m_old) ∧ Rel x_x_net_posts x_x_net_pairs o_x_net_widths o_x_net_lengths o_x_net_told x_x_net_behind o_x_view_posts o_x_view_roads o_x_view_weight o_x_view_weights o_x_view_near o_x_view_behind o_x_view_ahead o_x_history_oldest o_x_history_size o_x_history_kept_posts o_x_history_kept_pairs o_x_history_kept_widths o_x_history_kept_lengths o_x_history_kept_told o_x_history_kept_behind x_x_hand_size x_x_hand_posts x_x_trial_size x_x_trial_posts x_x_bags_size x_x_bags_sets x_x_chase_size x_x_chase_guarded x_x_chase_most x_x_chase_again x_x_chase_idle x_x_chase_moves x_x_chase_foul o_x_sets_solvedFor x_x_sets_lowest x_x_sets_total o_x_sets_pricedFor x_x_sets_prices x_x_sets_rests x_x_sets_ways o_x_trials_solvedFor x_x_trials_lowest x_x_trials_total x_x_trials_found x_x_trials_row_size x_x_trials_row_posts o_m_thrown x_m_posts x_m_pairs o_m_keptEnd o_m_kept x_m_many x_m_bags x_m_moves o_m_pen x_m_savedMany x_m_leastRow x_m_bestRows x_m_askedRow x_m_rankOfSaved x_m_wallSet x_m_fouledAgain o_m_wide o_m_places x_m_weights x_m_pair o_m_old x_m_row x_m_bag x_m_hunt x_m_behind x_m_least x_m_ways x_m_saved x_m_kth x_m_clean := by
  obtain ⟨n, h1, h2, h3, h4, h5, h6, h7, h8⟩ := h
  have hn : n ≤ 11 := h1.1
  have ep := h1.2.1
  have em := h1.2.2.1
  subst ep
  subst em
  have d10 : ¬ (1 : Int32) = 0 := by decide
  rcases isPost_n hn a1 with ⟨i, hi, ha, p1, p2⟩ | ⟨ha, p1, p2⟩
  · subst ha
    obtain ⟨s1, -, -, -⟩ := h1.2.2.2.2.2.2.1 i hi
    by_cases hm : x_m_wide i = (-1 : Int32)
    · refine ⟨(-11 : Int32), x_x_net_widths, x_x_net_lengths, x_x_net_told, x_x_view_posts, x_x_view_roads, x_x_view_weight, x_x_view_weights, x_x_view_near, x_x_view_behind, x_x_view_ahead, x_x_history_oldest, x_x_history_size, x_x_history_kept_posts, x_x_history_kept_pairs, x_x_history_kept_widths, x_x_history_kept_lengths, x_x_history_kept_told, x_x_history_kept_behind, x_x_sets_solvedFor, x_x_sets_pricedFor, x_x_trials_solvedFor, 0, x_m_keptEnd, x_m_kept, x_m_pen, x_m_wide, x_m_places, x_m_old, ?_, ?_, Rel_mk h1 h2 h3 h4 h5 h6 h7 h8⟩
      · unfold f_X10_lose
        rw [p2, isMissing_n (by omega), s1, if_pos hm]
        simp only [Option.bind_some, if_neg d10]
      · unfold f_X11_lose
        rw [p1, gi_n (by omega) (by omega)]
        simp only [Option.bind_some, if_neg d10]
        rw [if_pos hm]
    · have hN := NetR_renew (L := 0) (wv := (-1 : Int32)) (wt2 := x_m_weights) h1 hi (by omega) (Or.inl rfl) (fun a b hx hy hxi => rfl) (Or.inl rfl)
      obtain ⟨k1, k2, k3, k4, k5, k6, k7, k8, m1, m2, m3, m4, g1, g2, g3⟩ := keep_ok h3 h1 x_m_pen
      obtain ⟨v1, v2, v3, v4, v5, v6, v7, q1, q2⟩ := refresh_ok hN x_x_view_posts x_x_view_roads x_x_view_weight x_x_view_weights x_x_view_near x_x_view_behind x_x_view_ahead x_x_sets_solvedFor x_x_sets_pricedFor x_x_trials_solvedFor
      refine ⟨0, upd x_x_net_widths i (-1 : Int32), upd x_x_net_lengths i (nI 0), wrM x_x_net_told (11 * i) (fun _ => 0) 11, v1, v2, v3, v4, v5, v6, v7, k1, k2, k3, k4, k5, k6, k7, k8, (-1 : Int32), (-1 : Int32), (-1 : Int32), 0, m1, m2, m3, upd x_m_wide i (-1 : Int32), upd x_m_places i (nI 0), m4, ?_, ?_, Rel_mk hN q2 g3 h4 h5 h6 ⟨Or.inl rfl, Or.inl rfl⟩ (Or.inl rfl)⟩
      · unfold f_X10_lose
        rw [p2, isMissing_n (by omega), s1, if_neg hm, show f_X4_renewSheet x_x_net_widths x_x_net_lengths x_x_net_told (nI i) (-1 : Int32) (0 : Int32) = _ from renewSheet_n (lv := nI 0) (by omega), g1]
        simp only [Option.bind_some, if_neg d10, b3, b8, if_true]
        rw [q1]
        rfl
      · unfold f_X11_lose
        rw [p1, gi_n (by omega) (by omega), g2, si_n (by omega) (by omega), si_n (by omega) (by omega)]
        simp only [Option.bind_some, if_neg d10]
        rw [if_neg hm]
        rfl
  · refine ⟨(-3 : Int32), x_x_net_widths, x_x_net_lengths, x_x_net_told, x_x_view_posts, x_x_view_roads, x_x_view_weight, x_x_view_weights, x_x_view_near, x_x_view_behind, x_x_view_ahead, x_x_history_oldest, x_x_history_size, x_x_history_kept_posts, x_x_history_kept_pairs, x_x_history_kept_widths, x_x_history_kept_lengths, x_x_history_kept_told, x_x_history_kept_behind, x_x_sets_solvedFor, x_x_sets_pricedFor, x_x_trials_solvedFor, 0, x_m_keptEnd, x_m_kept, x_m_pen, x_m_wide, x_m_places, x_m_old, ?_, ?_, Rel_mk h1 h2 h3 h4 h5 h6 h7 h8⟩
    · unfold f_X10_lose
      rw [p2]
      rfl
    · unfold f_X11_lose
      rw [p1]
      rfl
theorem NetR_wt {n : Nat} {posts pairs mposts mpairs : Int32} {w l t t2 b wd pl wt wt2 pr : Nat → Int32} (h : NetR n posts pairs w l t b mposts mpairs wd pl wt pr) (c1 : ∀ a b, a < 11 → b < 11 → t2 (11 * a + b) = if a < n then tdM wd pl wt2 a b else 0) (c2 : ∀ a b, a < n → b < 11 → ∃ v, v ≤ 1000 ∧ tdM wd pl wt2 a b = nI v) : NetR n posts pairs w l t2 b mposts mpairs wd pl wt2 pr := by
  obtain ⟨hn, e1, e2, e3, e4, e5, h6, h7, h8, h9, h10, hp, rk, h12⟩ := h
  exact ⟨hn, e1, e2, e3, e4, e5, h6, h7, c1, c2, h10, hp, rk, h12⟩
theorem heaviest_n (w : Int32) : ∃ v, v ≤ 1000 ∧ f_X10_heaviest w = some (nI v) ∧ ((if w = 0 then (some (127 : Int32)) else (some (1000 : Int32)) : Option (Int32))) = some (nI v) := by
  unfold f_X10_heaviest
  by_cases h : w = 0
  · exact ⟨127, by omega, by rw [if_pos h]; rfl, by rw [if_pos h]; rfl⟩
  · exact ⟨1000, by omega, by rw [if_neg h]; rfl, by rw [if_neg h]; rfl⟩
theorem l2_weigh (x_x_net_posts : Int32) (x_x_net_pairs : Int32) (x_x_net_widths : Nat → Int32) (x_x_net_lengths : Nat → Int32) (x_x_net_told : Nat → Int32) (x_x_net_behind : Nat → Int32) (x_x_view_posts : Int32) (x_x_view_roads : Int32) (x_x_view_weight : Int32) (x_x_view_weights : Nat → Int32) (x_x_view_near : Nat → Int32) (x_x_view_behind : Nat → Int32) (x_x_view_ahead : Nat → Int32) (x_x_history_oldest : Int32) (x_x_history_size : Int32) (x_x_history_kept_posts : Nat → Int32) (x_x_history_kept_pairs : Nat → Int32) (x_x_history_kept_widths : Nat → Nat → Int32) (x_x_history_kept_lengths : Nat → Nat → Int32) (x_x_history_kept_told : Nat → Nat → Int32) (x_x_history_kept_behind : Nat → Nat → Int32) (x_x_hand_size : Int32) (x_x_hand_posts : Nat → Int32) (x_x_trial_size : Int32) (x_x_trial_posts : Nat → Int32) (x_x_bags_size : Int32) (x_x_bags_sets : Nat → Int32) (x_x_chase_size : Int32) (x_x_chase_guarded : Int32) (x_x_chase_most : Int32) (x_x_chase_again : Int32) (x_x_chase_idle : Int32) (x_x_chase_moves : Nat → Int32) (x_x_chase_foul : Nat → Int32) (x_x_sets_solvedFor : Int32) (x_x_sets_lowest : Int32) (x_x_sets_total : Int32) (x_x_sets_pricedFor : Int32) (x_x_sets_prices : Nat → Int32) (x_x_sets_rests : Nat → Int32) (x_x_sets_ways : Nat → Int32) (x_x_trials_solvedFor : Int32) (x_x_trials_lowest : Int32) (x_x_trials_total : Int32) (x_x_trials_found : Nat → Int32) (x_x_trials_row_size : Int32) (x_x_trials_row_posts : Nat → Int32) (x_m_thrown : Int32) (x_m_posts : Int32) (x_m_pairs : Int32) (x_m_keptEnd : Int32) (x_m_kept : Int32) (x_m_many : Int32) (x_m_bags : Int32) (x_m_moves : Int32) (x_m_pen : Int32) (x_m_savedMany : Int32) (x_m_leastRow : Int32) (x_m_bestRows : Int32) (x_m_askedRow : Int32) (x_m_rankOfSaved : Int32) (x_m_wallSet : Int32) (x_m_fouledAgain : Int32) (x_m_wide : Nat → Int32) (x_m_places : Nat → Int32) (x_m_weights : Nat → Int32) (x_m_pair : Nat → Int32) (x_m_old : Nat → Int32) (x_m_row : Nat → Int32) (x_m_bag : Nat → Int32) (x_m_hunt : Nat → Int32) (x_m_behind : Nat → Int32) (x_m_least : Nat → Int32) (x_m_ways : Nat → Int32) (x_m_saved : Nat → Int32) (x_m_kth : Nat → Int32) (x_m_clean : Nat → Int32) (a1 : Int32) (a2 : Int32) (a3 : Int32) (h : Rel x_x_net_posts x_x_net_pairs x_x_net_widths x_x_net_lengths x_x_net_told x_x_net_behind x_x_view_posts x_x_view_roads x_x_view_weight x_x_view_weights x_x_view_near x_x_view_behind x_x_view_ahead x_x_history_oldest x_x_history_size x_x_history_kept_posts x_x_history_kept_pairs x_x_history_kept_widths x_x_history_kept_lengths x_x_history_kept_told x_x_history_kept_behind x_x_hand_size x_x_hand_posts x_x_trial_size x_x_trial_posts x_x_bags_size x_x_bags_sets x_x_chase_size x_x_chase_guarded x_x_chase_most x_x_chase_again x_x_chase_idle x_x_chase_moves x_x_chase_foul x_x_sets_solvedFor x_x_sets_lowest x_x_sets_total x_x_sets_pricedFor x_x_sets_prices x_x_sets_rests x_x_sets_ways x_x_trials_solvedFor x_x_trials_lowest x_x_trials_total x_x_trials_found x_x_trials_row_size x_x_trials_row_posts x_m_thrown x_m_posts x_m_pairs x_m_keptEnd x_m_kept x_m_many x_m_bags x_m_moves x_m_pen x_m_savedMany x_m_leastRow x_m_bestRows x_m_askedRow x_m_rankOfSaved x_m_wallSet x_m_fouledAgain x_m_wide x_m_places x_m_weights x_m_pair x_m_old x_m_row x_m_bag x_m_hunt x_m_behind x_m_least x_m_ways x_m_saved x_m_kth x_m_clean) : ∃ (r : Int32) (o_x_net_told : Nat → Int32) (o_x_view_posts : Int32) (o_x_view_roads : Int32) (o_x_view_weight : Int32) (o_x_view_weights : Nat → Int32) (o_x_view_near : Nat → Int32) (o_x_view_behind : Nat → Int32) (o_x_view_ahead : Nat → Int32) (o_x_history_oldest : Int32) (o_x_history_size : Int32) (o_x_history_kept_posts : Nat → Int32) (o_x_history_kept_pairs : Nat → Int32) (o_x_history_kept_widths : Nat → Nat → Int32) (o_x_history_kept_lengths : Nat → Nat → Int32) (o_x_history_kept_told : Nat → Nat → Int32) (o_x_history_kept_behind : Nat → Nat → Int32) (o_x_sets_solvedFor : Int32) (o_x_sets_pricedFor : Int32) (o_x_trials_solvedFor : Int32) (o_m_thrown : Int32) (o_m_keptEnd : Int32) (o_m_kept : Int32) (o_m_pen : Int32) (o_m_weights : Nat → Int32) (o_m_old : Nat → Int32), f_X10_weigh x_x_net_posts x_x_net_pairs x_x_net_widths x_x_net_lengths x_x_net_told x_x_net_behind x_x_view_posts x_x_view_roads x_x_view_weight x_x_view_weights x_x_view_near x_x_view_behind x_x_view_ahead x_x_history_oldest x_x_history_size x_x_history_kept_posts x_x_history_kept_pairs x_x_history_kept_widths x_x_history_kept_lengths x_x_history_kept_told x_x_history_kept_behind x_x_sets_solvedFor x_x_sets_pricedFor x_x_trials_solvedFor a1 a2 a3 = some (r, o_x_net_told, o_x_view_posts, o_x_view_roads, o_x_view_weight, o_x_view_weights, o_x_view_near, o_x_view_behind, o_x_view_ahead, o_x_history_oldest, o_x_history_size, o_x_history_kept_posts, o_x_history_kept_pairs, o_x_history_kept_widths, o_x_history_kept_lengths, o_x_history_kept_told, o_x_history_kept_behind, o_x_sets_solvedFor, o_x_sets_pricedFor, o_x_trials_solvedFor) ∧ f_X11_weigh x_m_thrown x_m_posts x_m_pairs x_m_keptEnd x_m_kept x_m_pen x_m_wide x_m_places x_m_weights x_m_pair x_m_old a1 a2 a3 = some (r, o_m_thrown, o_m_keptEnd, o_m_kept, o_m_pen, o_m_weights, o_m_old) ∧ Rel x_x_net_posts x_x_net_pairs x_x_net_widths x_x_net_lengths o_x_net_told x_x_net_behind o_x_view_posts o_x_view_roads o_x_view_weight o_x_view_weights o_x_view_near o_x_view_behind o_x_view_ahead o_x_history_oldest o_x_history_size o_x_history_kept_posts o_x_history_kept_pairs o_x_history_kept_widths o_x_history_kept_lengths o_x_history_kept_told o_x_history_kept_behind x_x_hand_size x_x_hand_posts x_x_trial_size x_x_trial_posts x_x_bags_size x_x_bags_sets x_x_chase_size x_x_chase_guarded x_x_chase_most x_x_chase_again x_x_chase_idle x_x_chase_moves x_x_chase_foul o_x_sets_solvedFor x_x_sets_lowest x_x_sets_total o_x_sets_pricedFor x_x_sets_prices x_x_sets_rests x_x_sets_ways o_x_trials_solvedFor x_x_trials_lowest x_x_trials_total x_x_trials_found x_x_trials_row_size x_x_trials_row_posts o_m_thrown x_m_posts x_m_pairs o_m_keptEnd o_m_kept x_m_many x_m_bags x_m_moves o_m_pen x_m_savedMany x_m_leastRow x_m_bestRows x_m_askedRow x_m_rankOfSaved x_m_wallSet x_m_fouledAgain x_m_wide x_m_places o_m_weights x_m_pair o_m_old x_m_row x_m_bag x_m_hunt x_m_behind x_m_least x_m_ways x_m_saved x_m_kth x_m_clean := by
  obtain ⟨n, h1, h2, h3, h4, h5, h6, h7, h8⟩ := h
  have hn : n ≤ 11 := h1.1
  have ep := h1.2.1
  have em := h1.2.2.1
  subst ep
  subst em
  have d10 : ¬ (1 : Int32) = 0 := by decide
  rcases isPost_n hn a1 with ⟨i, hi, ha, p1, p2⟩ | ⟨ha, p1, p2⟩
  · subst ha
    obtain ⟨s1, s2, s3, L, hL, eL⟩ := h1.2.2.2.2.2.2.1 i hi
    by_cases hm : x_m_wide i = (-1 : Int32)
    · refine ⟨(-11 : Int32), x_x_net_told, x_x_view_posts, x_x_view_roads, x_x_view_weight, x_x_view_weights, x_x_view_near, x_x_view_behind, x_x_view_ahead, x_x_history_oldest, x_x_history_size, x_x_history_kept_posts, x_x_history_kept_pairs, x_x_history_kept_widths, x_x_history_kept_lengths, x_x_history_kept_told, x_x_history_kept_behind, x_x_sets_solvedFor, x_x_sets_pricedFor, x_x_trials_solvedFor, 0, x_m_keptEnd, x_m_kept, x_m_pen, x_m_weights, x_m_old, ?_, ?_, Rel_mk h1 h2 h3 h4 h5 h6 h7 h8⟩
      · unfold f_X10_weigh
        rw [p2, isMissing_n (by omega), s1, if_pos hm]
        simp only [Option.bind_some, if_neg d10]
      · unfold f_X11_weigh
        rw [p1, gi_n (by omega) (by omega)]
        simp only [Option.bind_some, if_neg d10]
        rw [if_pos hm]
    · rcases in_n (k := L) (by omega) a2 with ⟨j, hj, hb, hin⟩ | ⟨hb, hin⟩
      · subst hb
        obtain ⟨v, hv, y1, y2⟩ := heaviest_n (x_m_wide i)
        by_cases hw : a3 < 0 ∨ nI v < a3
        · refine ⟨(-3 : Int32), x_x_net_told, x_x_view_posts, x_x_view_roads, x_x_view_weight, x_x_view_weights, x_x_view_near, x_x_view_behind, x_x_view_ahead, x_x_history_oldest, x_x_history_size, x_x_history_kept_posts, x_x_history_kept_pairs, x_x_history_kept_widths, x_x_history_kept_lengths, x_x_history_kept_told, x_x_history_kept_behind, x_x_sets_solvedFor, x_x_sets_pricedFor, x_x_trials_solvedFor, 0, x_m_keptEnd, x_m_kept, x_m_pen, x_m_weights, x_m_old, ?_, ?_, Rel_mk h1 h2 h3 h4 h5 h6 h7 h8⟩
          · unfold f_X10_weigh
            rw [p2, isMissing_n (by omega), s1, if_neg hm, gi_n (by omega) (by omega), gi_n (by omega) (by omega), s1, s2, eL]
            simp only [Option.bind_some, if_neg d10, if_true]
            rw [if_neg (nI_pos (by omega)), if_pos (nI_lt hj (by omega)), y1]
            simp only [Option.bind_some]
            by_cases h0 : a3 < 0
            · rw [if_pos h0]
            · rw [if_neg h0, if_neg (Int32.not_le.mpr (hw.resolve_left h0))]
          · unfold f_X11_weigh
            rw [p1, gi_n (by omega) (by omega), gi_n (by omega) (by omega)]
            simp only [Option.bind_some, if_neg d10]
            rw [if_neg hm, eL, hin]
            simp only [Option.bind_some, if_neg d10]
            rw [y2]
            simp only [Option.bind_some]
            rw [in_gen (by omega), if_pos hw]
            rfl
        · have w0 : ¬ a3 < 0 := fun q => hw (Or.inl q)
          have w1 : ¬ nI v < a3 := fun q => hw (Or.inr q)
          obtain ⟨z, hz, ez⟩ := nI_upto (by omega) w0 w1
          have tn : ∀ a b, a < 11 → b < 11 → tdM x_m_wide x_m_places (upd x_m_weights (11 * i + j) a3) a b = if a = i ∧ b = j then a3 else tdM x_m_wide x_m_places x_m_weights a b := fun a b hx hy => by
            by_cases hab : a = i ∧ b = j
            · obtain ⟨rfl, rfl⟩ := hab
              rw [if_pos ⟨rfl, rfl⟩]
              unfold tdM
              rw [if_neg hm, eL, if_neg (nI_ge hj (by omega)), pk_us]
            · rw [if_neg hab]
              exact tdM_congr rfl rfl (pk_un (by omega))
          have hN := NetR_wt (t2 := upd x_x_net_told (11 * i + j) a3) (wt2 := upd x_m_weights (11 * i + j) a3) h1 (fun a b hx hy => by
            rw [tn a b hx hy]
            by_cases hab : a = i ∧ b = j
            · obtain ⟨rfl, rfl⟩ := hab
              rw [pk_us, if_pos hi, if_pos ⟨rfl, rfl⟩]
            · rw [pk_un (by omega), if_neg hab]
              exact h1.2.2.2.2.2.2.2.2.1 a b hx hy) (fun a b hx hy => by
            rw [tn a b (by omega) hy]
            by_cases hab : a = i ∧ b = j
            · rw [if_pos hab]
              exact ⟨z, by omega, ez⟩
            · rw [if_neg hab]
              exact h1.2.2.2.2.2.2.2.2.2.1 a b hx hy)
          obtain ⟨k1, k2, k3, k4, k5, k6, k7, k8, m1, m2, m3, m4, g1, g2, g3⟩ := keep_ok h3 h1 x_m_pen
          obtain ⟨v1, v2, v3, v4, v5, v6, v7, q1, q2⟩ := refresh_ok hN x_x_view_posts x_x_view_roads x_x_view_weight x_x_view_weights x_x_view_near x_x_view_behind x_x_view_ahead x_x_sets_solvedFor x_x_sets_pricedFor x_x_trials_solvedFor
          have ew : x_x_net_told (11 * i + j) = x_m_weights (11 * i + j) := by
            rw [h1.2.2.2.2.2.2.2.2.1 i j (by omega) (by omega), if_pos hi]
            unfold tdM
            rw [if_neg hm, eL, if_neg (nI_ge hj (by omega))]
          refine ⟨x_m_weights (11 * i + j), upd x_x_net_told (11 * i + j) a3, v1, v2, v3, v4, v5, v6, v7, k1, k2, k3, k4, k5, k6, k7, k8, (-1 : Int32), (-1 : Int32), (-1 : Int32), 0, m1, m2, m3, upd x_m_weights (11 * i + j) a3, m4, ?_, ?_, Rel_mk hN q2 g3 h4 h5 h6 ⟨Or.inl rfl, Or.inl rfl⟩ (Or.inl rfl)⟩
          · unfold f_X10_weigh
            rw [p2, isMissing_n (by omega), s1, if_neg hm, gi_n (by omega) (by omega), gi_n (by omega) (by omega), s1, s2, eL, ix11', gi_n (by omega) (by omega), si_n (by omega) (by omega), g1, ew]
            simp only [Option.bind_some, if_neg d10, if_true]
            rw [if_neg (nI_pos (by omega)), if_pos (nI_lt hj (by omega)), y1]
            simp only [Option.bind_some]
            rw [if_neg w0, if_pos (Int32.not_lt.mp w1), q1]
            rfl
          · unfold f_X11_weigh
            rw [p1, gi_n (by omega) (by omega), gi_n (by omega) (by omega), ix11, gi_n (by omega) (by omega), si_n (by omega) (by omega), g2]
            simp only [Option.bind_some, if_neg d10]
            rw [if_neg hm, eL, hin]
            simp only [Option.bind_some, if_neg d10]
            rw [y2]
            simp only [Option.bind_some]
            rw [in_gen (by omega), if_neg hw]
            rfl
      · refine ⟨(-13 : Int32), x_x_net_told, x_x_view_posts, x_x_view_roads, x_x_view_weight, x_x_view_weights, x_x_view_near, x_x_view_behind, x_x_view_ahead, x_x_history_oldest, x_x_history_size, x_x_history_kept_posts, x_x_history_kept_pairs, x_x_history_kept_widths, x_x_history_kept_lengths, x_x_history_kept_told, x_x_history_kept_behind, x_x_sets_solvedFor, x_x_sets_pricedFor, x_x_trials_solvedFor, 0, x_m_keptEnd, x_m_kept, x_m_pen, x_m_weights, x_m_old, ?_, ?_, Rel_mk h1 h2 h3 h4 h5 h6 h7 h8⟩
        · unfold f_X10_weigh
          rw [p2, isMissing_n (by omega), s1, if_neg hm, gi_n (by omega) (by omega), s2, eL]
          simp only [Option.bind_some, if_neg d10, if_true]
          by_cases h0 : a2 < 0
          · rw [if_pos h0]
          · rw [if_neg h0, if_neg (Int32.not_lt.mpr (hb.resolve_left h0))]
        · unfold f_X11_weigh
          rw [p1, gi_n (by omega) (by omega), gi_n (by omega) (by omega)]
          simp only [Option.bind_some, if_neg d10]
          rw [if_neg hm, eL, hin]
          rfl
  · refine ⟨(-3 : Int32), x_x_net_told, x_x_view_posts, x_x_view_roads, x_x_view_weight, x_x_view_weights, x_x_view_near, x_x_view_behind, x_x_view_ahead, x_x_history_oldest, x_x_history_size, x_x_history_kept_posts, x_x_history_kept_pairs, x_x_history_kept_widths, x_x_history_kept_lengths, x_x_history_kept_told, x_x_history_kept_behind, x_x_sets_solvedFor, x_x_sets_pricedFor, x_x_trials_solvedFor, 0, x_m_keptEnd, x_m_kept, x_m_pen, x_m_weights, x_m_old, ?_, ?_, Rel_mk h1 h2 h3 h4 h5 h6 h7 h8⟩
    · unfold f_X10_weigh
      rw [p2]
      rfl
    · unfold f_X11_weigh
      rw [p1]
      rfl
