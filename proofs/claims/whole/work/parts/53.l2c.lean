/-! LAYER 2: put -/
theorem pigeon : ∀ (n : Nat) (f : Nat → Nat), (∀ i, i < n → f i < n) → (∀ i j, i < n → j < n → f i = f j → i = j) → ∀ y, y < n → ∃ i, i < n ∧ f i = y
  | 0, _, _, _, y, hy => by omega
  | n + 1, f, hf, hi, y, hy => by
    by_cases hc : ∃ i, i < n + 1 ∧ f i = y
    · exact hc
    · exfalso
      have hne : ∀ i, i < n + 1 → f i ≠ y := fun i h e => hc ⟨i, h, e⟩
      have hg : ∀ i, i < n + 1 → (if y < f i then f i - 1 else f i) < n := by
        intro i h
        have h1 := hf i h
        have h2 := hne i h
        by_cases h3 : y < f i
        · rw [if_pos h3]; omega
        · rw [if_neg h3]; omega
      have hj : ∀ i j, i < n + 1 → j < n + 1 → (if y < f i then f i - 1 else f i) = (if y < f j then f j - 1 else f j) → i = j := by
        intro i j h1 h2 h3
        apply hi i j h1 h2
        have a1 := hne i h1
        have a2 := hne j h2
        by_cases b1 : y < f i <;> by_cases b2 : y < f j
        · rw [if_pos b1, if_pos b2] at h3; omega
        · rw [if_pos b1, if_neg b2] at h3; omega
        · rw [if_neg b1, if_pos b2] at h3; omega
        · rw [if_neg b1, if_neg b2] at h3; omega
      obtain ⟨i, h1, h2⟩ := pigeon n (fun i => if y < f i then f i - 1 else f i) (fun i h => hg i (by omega)) (fun i j h1 h2 h3 => hj i j (by omega) (by omega) h3) (if y < f n then f n - 1 else f n) (hg n (by omega))
      have := hj i n (by omega) (by omega) h2
      omega
theorem place_n {posts : Nat → Int32} {k : Nat} (hk : k ≤ 11) (x : Int32) : (∃ v, f_X5_placeOf (nI k) posts x = some v ∧ ((v = (-1 : Int32) ∧ ∀ j, j < k → posts j ≠ x) ∨ ∃ j, j < k ∧ v = nI j ∧ posts j = x)) := by
  unfold f_X5_placeOf
  refine loop_or (step := fun (s : Int32) => f_X5_placeOf_L2 x (nI k) posts s) (fun i s => s = nI i ∧ ∀ j, j < i → posts j ≠ x) (fun v => (v = (-1 : Int32) ∧ ∀ j, j < k → posts j ≠ x) ∨ ∃ j, j < k ∧ v = nI j ∧ posts j = x) k ?_ ?_ ⟨nI_0.symm, fun j hj => absurd hj (by omega)⟩
  · rintro i s hi ⟨rfl, hs⟩
    show (∃ s', f_X5_placeOf_L2 x (nI k) posts (nI i) = _ ∧ _) ∨ ∃ v, f_X5_placeOf_L2 x (nI k) posts (nI i) = _ ∧ _
    unfold f_X5_placeOf_L2
    rw [if_neg (nI_ge hi (by omega)), gi_n (by omega) (by omega), nI_1]
    simp only [Option.bind_some]
    by_cases h : posts i = x
    · exact Or.inr ⟨nI i, by rw [if_pos h], Or.inr ⟨i, hi, rfl, h⟩⟩
    · refine Or.inl ⟨nI (i + 1), by rw [if_neg h], rfl, fun j hj => ?_⟩
      rcases Nat.lt_or_ge j i with h2 | h2
      · exact hs j h2
      · have : j = i := by omega
        subst this
        exact h
  · rintro s ⟨rfl, hs⟩
    refine ⟨(-1 : Int32), ?_, Or.inl ⟨rfl, hs⟩⟩
    show f_X5_placeOf_L2 x (nI k) posts (nI k) = _
    unfold f_X5_placeOf_L2
    rw [if_pos (nI_le (Nat.le_refl k) (by omega))]
theorem place_same (size : Int32) (posts : Nat → Int32) (x : Int32) : f_X11_placeOf size posts x = f_X5_placeOf size posts x := rfl
theorem nI_m1 {j : Nat} (h : j < 2 ^ 31) : ¬ nI j = (-1 : Int32) := fun e => by
  have h1 := congrArg Int32.toInt e
  rw [nI_toInt h] at h1
  have h2 : (-1 : Int32).toInt = -1 := by decide
  omega
theorem l2_put (x_x_net_posts : Int32) (x_x_net_pairs : Int32) (x_x_net_widths : Nat → Int32) (x_x_net_lengths : Nat → Int32) (x_x_net_told : Nat → Int32) (x_x_net_behind : Nat → Int32) (x_x_view_posts : Int32) (x_x_view_roads : Int32) (x_x_view_weight : Int32) (x_x_view_weights : Nat → Int32) (x_x_view_near : Nat → Int32) (x_x_view_behind : Nat → Int32) (x_x_view_ahead : Nat → Int32) (x_x_history_oldest : Int32) (x_x_history_size : Int32) (x_x_history_kept_posts : Nat → Int32) (x_x_history_kept_pairs : Nat → Int32) (x_x_history_kept_widths : Nat → Nat → Int32) (x_x_history_kept_lengths : Nat → Nat → Int32) (x_x_history_kept_told : Nat → Nat → Int32) (x_x_history_kept_behind : Nat → Nat → Int32) (x_x_hand_size : Int32) (x_x_hand_posts : Nat → Int32) (x_x_trial_size : Int32) (x_x_trial_posts : Nat → Int32) (x_x_bags_size : Int32) (x_x_bags_sets : Nat → Int32) (x_x_chase_size : Int32) (x_x_chase_guarded : Int32) (x_x_chase_most : Int32) (x_x_chase_again : Int32) (x_x_chase_idle : Int32) (x_x_chase_moves : Nat → Int32) (x_x_chase_foul : Nat → Int32) (x_x_sets_solvedFor : Int32) (x_x_sets_lowest : Int32) (x_x_sets_total : Int32) (x_x_sets_pricedFor : Int32) (x_x_sets_prices : Nat → Int32) (x_x_sets_rests : Nat → Int32) (x_x_sets_ways : Nat → Int32) (x_x_trials_solvedFor : Int32) (x_x_trials_lowest : Int32) (x_x_trials_total : Int32) (x_x_trials_found : Nat → Int32) (x_x_trials_row_size : Int32) (x_x_trials_row_posts : Nat → Int32) (x_m_thrown : Int32) (x_m_posts : Int32) (x_m_pairs : Int32) (x_m_keptEnd : Int32) (x_m_kept : Int32) (x_m_many : Int32) (x_m_bags : Int32) (x_m_moves : Int32) (x_m_pen : Int32) (x_m_savedMany : Int32) (x_m_leastRow : Int32) (x_m_bestRows : Int32) (x_m_askedRow : Int32) (x_m_rankOfSaved : Int32) (x_m_wallSet : Int32) (x_m_fouledAgain : Int32) (x_m_wide : Nat → Int32) (x_m_places : Nat → Int32) (x_m_weights : Nat → Int32) (x_m_pair : Nat → Int32) (x_m_old : Nat → Int32) (x_m_row : Nat → Int32) (x_m_bag : Nat → Int32) (x_m_hunt : Nat → Int32) (x_m_behind : Nat → Int32) (x_m_least : Nat → Int32) (x_m_ways : Nat → Int32) (x_m_saved : Nat → Int32) (x_m_kth : Nat → Int32) (x_m_clean : Nat → Int32) (a1 : Int32) (h : Rel x_x_net_posts x_x_net_pairs x_x_net_widths x_x_net_lengths x_x_net_told x_x_net_behind x_x_view_posts x_x_view_roads x_x_view_weight x_x_view_weights x_x_view_near x_x_view_behind x_x_view_ahead x_x_history_oldest x_x_history_size x_x_history_kept_posts x_x_history_kept_pairs x_x_history_kept_widths x_x_history_kept_lengths x_x_history_kept_told x_x_history_kept_behind x_x_hand_size x_x_hand_posts x_x_trial_size x_x_trial_posts x_x_bags_size x_x_bags_sets x_x_chase_size x_x_chase_guarded x_x_chase_most x_x_chase_again x_x_chase_idle x_x_chase_moves x_x_chase_foul x_x_sets_solvedFor x_x_sets_lowest x_x_sets_total x_x_sets_pricedFor x_x_sets_prices x_x_sets_rests x_x_sets_ways x_x_trials_solvedFor x_x_trials_lowest x_x_trials_total x_x_trials_found x_x_trials_row_size x_x_trials_row_posts x_m_thrown x_m_posts x_m_pairs x_m_keptEnd x_m_kept x_m_many x_m_bags x_m_moves x_m_pen x_m_savedMany x_m_leastRow x_m_bestRows x_m_askedRow x_m_rankOfSaved x_m_wallSet x_m_fouledAgain x_m_wide x_m_places x_m_weights x_m_pair x_m_old x_m_row x_m_bag x_m_hunt x_m_behind x_m_least x_m_ways x_m_saved x_m_kth x_m_clean) : ∃ (r : Int32) (o_x_hand_size : Int32) (o_x_hand_posts : Nat → Int32) (o_m_thrown : Int32) (o_m_many : Int32) (o_m_row : Nat → Int32), f_X10_put x_x_net_posts x_x_hand_size x_x_hand_posts a1 = some (r, o_x_hand_size, o_x_hand_posts) ∧ f_X11_put x_m_thrown x_m_posts x_m_many x_m_row a1 = some (r, o_m_thrown, o_m_many, o_m_row) ∧ Rel x_x_net_posts x_x_net_pairs x_x_net_widths x_x_net_lengths x_x_net_told x_x_net_behind x_x_view_posts x_x_view_roads x_x_view_weight x_x_view_weights x_x_view_near x_x_view_behind x_x_view_ahead x_x_history_oldest x_x_history_size x_x_history_kept_posts x_x_history_kept_pairs x_x_history_kept_widths x_x_history_kept_lengths x_x_history_kept_told x_x_history_kept_behind o_x_hand_size o_x_hand_posts x_x_trial_size x_x_trial_posts x_x_bags_size x_x_bags_sets x_x_chase_size x_x_chase_guarded x_x_chase_most x_x_chase_again x_x_chase_idle x_x_chase_moves x_x_chase_foul x_x_sets_solvedFor x_x_sets_lowest x_x_sets_total x_x_sets_pricedFor x_x_sets_prices x_x_sets_rests x_x_sets_ways x_x_trials_solvedFor x_x_trials_lowest x_x_trials_total x_x_trials_found x_x_trials_row_size x_x_trials_row_posts o_m_thrown x_m_posts x_m_pairs x_m_keptEnd x_m_kept o_m_many x_m_bags x_m_moves x_m_pen x_m_savedMany x_m_leastRow x_m_bestRows x_m_askedRow x_m_rankOfSaved x_m_wallSet x_m_fouledAgain x_m_wide x_m_places x_m_weights x_m_pair x_m_old o_m_row x_m_bag x_m_hunt x_m_behind x_m_least x_m_ways x_m_saved x_m_kth x_m_clean := by
  obtain ⟨n, h1, h2, h3, h4, h5, h6, h7, h8⟩ := h
  obtain ⟨k, hk, e1, e2, e3, e4⟩ := id h4
  have hn : n ≤ 11 := h1.1
  have ep := h1.2.1
  have em := h1.2.2.1
  have d10 : ¬ (1 : Int32) = 0 := by decide
  rcases isPost_n hn a1 with ⟨i, hi, ha, p1, p2⟩ | ⟨ha, p1, p2⟩
  · obtain ⟨v, hv, hv2⟩ := place_n (posts := x_x_hand_posts) hk a1
    obtain ⟨w, hw, hw2⟩ := place_n (posts := x_m_row) hk a1
    by_cases hin : ∃ j, j < k ∧ x_m_row j = a1
    · obtain ⟨j, hj, hj2⟩ := hin
      have v1 : ¬ v = (-1 : Int32) := by
        rcases hv2 with ⟨-, b⟩ | ⟨q, hq, rfl, -⟩
        · exact absurd ((e3 j hj).1.trans hj2) (b j hj)
        · exact nI_m1 (by omega)
      have w1 : ¬ w = (-1 : Int32) := by
        rcases hw2 with ⟨-, b⟩ | ⟨q, hq, rfl, -⟩
        · exact absurd hj2 (b j hj)
        · exact nI_m1 (by omega)
      refine ⟨(-3 : Int32), x_x_hand_size, x_x_hand_posts, 0, x_m_many, x_m_row, ?_, ?_, Rel_mk h1 h2 h3 h4 h5 h6 h7 h8⟩
      · unfold f_X10_put
        rw [ep, p2, e1, hv]
        simp only [Option.bind_some, if_neg d10, if_neg v1]
      · unfold f_X11_put
        rw [em, p1, e2, place_same, hw]
        simp only [Option.bind_some, if_neg d10, if_neg w1]
    · have v1 : v = (-1 : Int32) := by
        rcases hv2 with ⟨b, -⟩ | ⟨q, hq, -, hq2⟩
        · exact b
        · exact absurd ⟨q, hq, (e3 q hq).1.symm.trans hq2⟩ hin
      have w1 : w = (-1 : Int32) := by
        rcases hw2 with ⟨b, -⟩ | ⟨q, hq, -, hq2⟩
        · exact b
        · exact absurd ⟨q, hq, hq2⟩ hin
      have hk11 : k < 11 := by
        rcases Nat.lt_or_ge k 11 with h9 | h9
        · exact h9
        · exfalso
          have ek : k = 11 := by omega
          subst ek
          have hp : ∀ j, j < 11 → ∃ p, p < 11 ∧ x_m_row j = nI p := fun j hj => (e3 j hj).2
          have hex : ∃ F : Nat → Nat, ∀ j, j < 11 → F j < 11 ∧ x_m_row j = nI (F j) :=
            ⟨fun j => if h : j < 11 then Classical.choose (hp j h) else 0, fun j hj => by simp only [dif_pos hj]; exact Classical.choose_spec (hp j hj)⟩
          obtain ⟨F, hF⟩ := hex
          obtain ⟨j, hj, hj2⟩ := pigeon 11 F (fun j hj => (hF j hj).1) (fun a b ha2 hb2 hab => e4 a b ha2 hb2 (by rw [(hF a ha2).2, (hF b hb2).2, hab])) i (by omega)
          exact hin ⟨j, hj, by rw [(hF j hj).2, hj2, ha]⟩
      have c11 : ¬ nI k = (11 : Int32) := fun q => by have := (nI_eq (b := 11) (by omega) (by decide)).mp q; omega
      refine ⟨nI (k + 1), nI (k + 1), upd x_x_hand_posts k a1, 0, nI (k + 1), upd x_m_row k a1, ?_, ?_, Rel_mk h1 h2 h3 ⟨k + 1, by omega, rfl, rfl, upd_rel (P := fun y => ∃ p, p < 11 ∧ y = nI p) e3 ⟨i, by omega, ha⟩, ?_⟩ h5 h6 h7 h8⟩
      · unfold f_X10_put f_X5_append
        rw [ep, p2, e1, hv, v1, if_neg (show ¬ (11 : Int32) ≤ nI k from nI_ge (b := 11) hk11 (by decide)), si_n hk11 (by decide), nI_1]
        rfl
      · unfold f_X11_put
        rw [em, p1, e2, place_same, hw, w1, si_n hk11 (by decide), nI_1]
        simp only [Option.bind_some, if_neg d10, if_true, if_neg c11]
      · intro a b ha2 hb2 hab
        by_cases q1 : a = k
        · by_cases q2 : b = k
          · omega
          · subst q1
            rw [pk_us, pk_un q2] at hab
            exact absurd ⟨b, by omega, hab.symm⟩ hin
        · by_cases q2 : b = k
          · subst q2
            rw [pk_us, pk_un q1] at hab
            exact absurd ⟨a, by omega, hab⟩ hin
          · rw [pk_un q1, pk_un q2] at hab
            exact e4 a b (by omega) (by omega) hab
  · refine ⟨(-3 : Int32), x_x_hand_size, x_x_hand_posts, 0, x_m_many, x_m_row, ?_, ?_, Rel_mk h1 h2 h3 h4 h5 h6 h7 h8⟩
    · unfold f_X10_put
      rw [ep, p2]
      rfl
    · unfold f_X11_put
      rw [em, p1]
      rfl
