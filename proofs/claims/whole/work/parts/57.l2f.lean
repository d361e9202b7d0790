/-! LAYER 2: bag -/
theorem anyOut_congr {q q2 : Nat → Nat → Bool} {s a : Nat} : ∀ {n : Nat}, (∀ b, b < n → q a b = q2 a b) → anyOut q s a n = anyOut q2 s a n
  | 0, _ => rfl
  | n + 1, h => by rw [anyOut, anyOut, anyOut_congr (fun b hb => h b (by omega)), h n (by omega)]
theorem outM_congr {q q2 : Nat → Nat → Bool} {n s : Nat} : ∀ {k : Nat}, (∀ a b, a < k → b < n → q a b = q2 a b) → outM q n s k = outM q2 n s k
  | 0, _ => rfl
  | k + 1, h => by rw [outM, outM, outM_congr (fun a b ha hb => h a b (by omega) hb), anyOut_congr (fun b hb => h k b (by omega) hb)]
theorem bagC_n {near posts : Nat → Int32} {F mk : Nat → Nat} {n i : Nat} (hn : n ≤ 11) (hi : i < 11) (hp : ∀ j, j ≤ i → posts j = nI (F j) ∧ F j < 11) (hk : ∀ a, a < n → near a = nI (mk a) ∧ mk a < 2 ^ n) : f_X2_bagOf (nI n) near posts (nI i) = some (nI (outM (fun a b => (mk a).testBit b) n (setM F i) n ||| 2 ^ F i)) := by
  unfold f_X2_bagOf
  have h := loop_run (step := fun (t : Int32 × Int32) => f_X2_bagOf_L5 (nI i) posts t.1 t.2) (fun j => (nI (setM F j), nI j)) (x := nI (setM F i)) i (fun j hj => ?_) ?_
  · have hs : setM F i < 2 ^ 11 := setM_lt (fun j hj => (hp j (by omega)).2)
    have hf := (hp i (Nat.le_refl i)).2
    rw [show loopS (fun (t : Int32 × Int32) => f_X2_bagOf_L5 (nI i) posts t.1 t.2) ((0 : Int32), (0 : Int32)) = some (nI (setM F i)) from h]
    simp only [Option.bind_some]
    rw [leadNear_n hn (by omega) hk, gi_n hi (by omega), (hp i (Nat.le_refl i)).1]
    simp only [Option.bind_some]
    rw [one_shl (by omega), or_n]
  · show f_X2_bagOf_L5 (nI i) posts (nI (setM F j)) (nI j) = some (Sum.inl (nI (setM F j ||| 2 ^ F j), nI (j + 1)))
    unfold f_X2_bagOf_L5
    have hf := (hp j (by omega)).2
    rw [if_neg (nI_ge hj (by omega)), gi_n (by omega) (by omega), (hp j (by omega)).1, nI_1]
    simp only [Option.bind_some]
    rw [one_shl (by omega), or_n]
  · show f_X2_bagOf_L5 (nI i) posts (nI (setM F i)) (nI i) = _
    unfold f_X2_bagOf_L5
    rw [if_pos (nI_le (Nat.le_refl i) (by omega))]
theorem bagM_n {wide places weights row : Nat → Int32} {F : Nat → Nat} {n i : Nat} (hn : n ≤ 11) (hi : i < 11) (hp : ∀ j, j ≤ i → row j = nI (F j) ∧ F j < 11) : f_X11_bagOf (nI n) wide places weights row (nI i) = some (nI (outM (rdQ (rdM wide places weights)) n (setM F i) n ||| 2 ^ F i)) := by
  unfold f_X11_bagOf
  have h := loop_run (step := fun (t : Int32 × Int32) => f_X11_bagOf_L4 (nI i) row t.1 t.2) (fun j => (nI (setM F j), nI j)) (x := nI (setM F i)) i (fun j hj => ?_) ?_
  · have hs : setM F i < 2 ^ 11 := setM_lt (fun j hj => (hp j (by omega)).2)
    have hf := (hp i (Nat.le_refl i)).2
    rw [show loopS (fun (t : Int32 × Int32) => f_X11_bagOf_L4 (nI i) row t.1 t.2) ((0 : Int32), (0 : Int32)) = some (nI (setM F i)) from h]
    simp only [Option.bind_some]
    rw [openSet_n hn (by omega), gi_n hi (by omega), (hp i (Nat.le_refl i)).1]
    simp only [Option.bind_some]
    rw [one_shl (by omega), or_n]
  · show f_X11_bagOf_L4 (nI i) row (nI (setM F j)) (nI j) = some (Sum.inl (nI (setM F j ||| 2 ^ F j), nI (j + 1)))
    unfold f_X11_bagOf_L4
    have hf := (hp j (by omega)).2
    rw [if_neg (nI_ge hj (by omega)), gi_n (by omega) (by omega), (hp j (by omega)).1, nI_1]
    simp only [Option.bind_some]
    rw [one_shl (by omega), or_n]
  · show f_X11_bagOf_L4 (nI i) row (nI (setM F i)) (nI i) = _
    unfold f_X11_bagOf_L4
    rw [if_pos (nI_le (Nat.le_refl i) (by omega))]
theorem near_mk {n : Nat} (hn : n ≤ 11) {rd : Nat → Nat → Int32} {near : Nat → Int32} (h : ∀ a, a < 11 → near a = nI (mkB (fun b => decide (a < n) && (decide (b < n) && rdQ rd a b)) 11)) : (∀ a, a < n → near a = nI (mkB (fun b => decide (a < n) && (decide (b < n) && rdQ rd a b)) 11) ∧ mkB (fun b => decide (a < n) && (decide (b < n) && rdQ rd a b)) 11 < 2 ^ n) ∧ ∀ a b, a < n → b < n → (mkB (fun b => decide (a < n) && (decide (b < n) && rdQ rd a b)) 11).testBit b = rdQ rd a b := by
  refine ⟨fun a ha => ⟨h a (by omega), ?_⟩, fun a b ha hb => ?_⟩
  · apply Nat.lt_pow_two_of_testBit
    intro b hb
    rw [mkB_tb, decide_eq_false (show ¬ b < n by omega), Bool.false_and, Bool.and_false, Bool.and_false]
  · rw [mkB_tb, decide_eq_true ha, decide_eq_true hb, decide_eq_true (show b < 11 by omega), Bool.true_and, Bool.true_and, Bool.true_and]
theorem l2_bag (x_x_net_posts : Int32) (x_x_net_pairs : Int32) (x_x_net_widths : Nat → Int32) (x_x_net_lengths : Nat → Int32) (x_x_net_told : Nat → Int32) (x_x_net_behind : Nat → Int32) (x_x_view_posts : Int32) (x_x_view_roads : Int32) (x_x_view_weight : Int32) (x_x_view_weights : Nat → Int32) (x_x_view_near : Nat → Int32) (x_x_view_behind : Nat → Int32) (x_x_view_ahead : Nat → Int32) (x_x_history_oldest : Int32) (x_x_history_size : Int32) (x_x_history_kept_posts : Nat → Int32) (x_x_history_kept_pairs : Nat → Int32) (x_x_history_kept_widths : Nat → Nat → Int32) (x_x_history_kept_lengths : Nat → Nat → Int32) (x_x_history_kept_told : Nat → Nat → Int32) (x_x_history_kept_behind : Nat → Nat → Int32) (x_x_hand_size : Int32) (x_x_hand_posts : Nat → Int32) (x_x_trial_size : Int32) (x_x_trial_posts : Nat → Int32) (x_x_bags_size : Int32) (x_x_bags_sets : Nat → Int32) (x_x_chase_size : Int32) (x_x_chase_guarded : Int32) (x_x_chase_most : Int32) (x_x_chase_again : Int32) (x_x_chase_idle : Int32) (x_x_chase_moves : Nat → Int32) (x_x_chase_foul : Nat → Int32) (x_x_sets_solvedFor : Int32) (x_x_sets_lowest : Int32) (x_x_sets_total : Int32) (x_x_sets_pricedFor : Int32) (x_x_sets_prices : Nat → Int32) (x_x_sets_rests : Nat → Int32) (x_x_sets_ways : Nat → Int32) (x_x_trials_solvedFor : Int32) (x_x_trials_lowest : Int32) (x_x_trials_total : Int32) (x_x_trials_found : Nat → Int32) (x_x_trials_row_size : Int32) (x_x_trials_row_posts : Nat → Int32) (x_m_thrown : Int32) (x_m_posts : Int32) (x_m_pairs : Int32) (x_m_keptEnd : Int32) (x_m_kept : Int32) (x_m_many : Int32) (x_m_bags : Int32) (x_m_moves : Int32) (x_m_pen : Int32) (x_m_savedMany : Int32) (x_m_leastRow : Int32) (x_m_bestRows : Int32) (x_m_askedRow : Int32) (x_m_rankOfSaved : Int32) (x_m_wallSet : Int32) (x_m_fouledAgain : Int32) (x_m_wide : Nat → Int32) (x_m_places : Nat → Int32) (x_m_weights : Nat → Int32) (x_m_pair : Nat → Int32) (x_m_old : Nat → Int32) (x_m_row : Nat → Int32) (x_m_bag : Nat → Int32) (x_m_hunt : Nat → Int32) (x_m_behind : Nat → Int32) (x_m_least : Nat → Int32) (x_m_ways : Nat → Int32) (x_m_saved : Nat → Int32) (x_m_kth : Nat → Int32) (x_m_clean : Nat → Int32) (a1 : Int32) (h : Rel x_x_net_posts x_x_net_pairs x_x_net_widths x_x_net_lengths x_x_net_told x_x_net_behind x_x_view_posts x_x_view_roads x_x_view_weight x_x_view_weights x_x_view_near x_x_view_behind x_x_view_ahead x_x_history_oldest x_x_history_size x_x_history_kept_posts x_x_history_kept_pairs x_x_history_kept_widths x_x_history_kept_lengths x_x_history_kept_told x_x_history_kept_behind x_x_hand_size x_x_hand_posts x_x_trial_size x_x_trial_posts x_x_bags_size x_x_bags_sets x_x_chase_size x_x_chase_guarded x_x_chase_most x_x_chase_again x_x_chase_idle x_x_chase_moves x_x_chase_foul x_x_sets_solvedFor x_x_sets_lowest x_x_sets_total x_x_sets_pricedFor x_x_sets_prices x_x_sets_rests x_x_sets_ways x_x_trials_solvedFor x_x_trials_lowest x_x_trials_total x_x_trials_found x_x_trials_row_size x_x_trials_row_posts x_m_thrown x_m_posts x_m_pairs x_m_keptEnd x_m_kept x_m_many x_m_bags x_m_moves x_m_pen x_m_savedMany x_m_leastRow x_m_bestRows x_m_askedRow x_m_rankOfSaved x_m_wallSet x_m_fouledAgain x_m_wide x_m_places x_m_weights x_m_pair x_m_old x_m_row x_m_bag x_m_hunt x_m_behind x_m_least x_m_ways x_m_saved x_m_kth x_m_clean) : ∃ (r : Int32) (o_m_thrown : Int32), f_X10_bag x_x_net_posts x_x_view_posts x_x_view_near x_x_hand_size x_x_hand_posts a1 = some r ∧ f_X11_bag x_m_thrown x_m_posts x_m_many x_m_wide x_m_places x_m_weights x_m_row a1 = some (r, o_m_thrown) ∧ Rel x_x_net_posts x_x_net_pairs x_x_net_widths x_x_net_lengths x_x_net_told x_x_net_behind x_x_view_posts x_x_view_roads x_x_view_weight x_x_view_weights x_x_view_near x_x_view_behind x_x_view_ahead x_x_history_oldest x_x_history_size x_x_history_kept_posts x_x_history_kept_pairs x_x_history_kept_widths x_x_history_kept_lengths x_x_history_kept_told x_x_history_kept_behind x_x_hand_size x_x_hand_posts x_x_trial_size x_x_trial_posts x_x_bags_size x_x_bags_sets x_x_chase_size x_x_chase_guarded x_x_chase_most x_x_chase_again x_x_chase_idle x_x_chase_moves x_x_chase_foul x_x_sets_solvedFor x_x_sets_lowest x_x_sets_total x_x_sets_pricedFor x_x_sets_prices x_x_sets_rests x_x_sets_ways x_x_trials_solvedFor x_x_trials_lowest x_x_trials_total x_x_trials_found x_x_trials_row_size x_x_trials_row_posts o_m_thrown x_m_posts x_m_pairs x_m_keptEnd x_m_kept x_m_many x_m_bags x_m_moves x_m_pen x_m_savedMany x_m_leastRow x_m_bestRows x_m_askedRow x_m_rankOfSaved x_m_wallSet x_m_fouledAgain x_m_wide x_m_places x_m_weights x_m_pair x_m_old x_m_row x_m_bag x_m_hunt x_m_behind x_m_least x_m_ways x_m_saved x_m_kth x_m_clean := by
  obtain ⟨n, h1, h2, h3, h4, h5, h6, h7, h8⟩ := h
  obtain ⟨k, F, hk, e1, e2, e3, e4, e5⟩ := RowR_nums h4
  have hn : n ≤ 11 := h1.1
  have ep := h1.2.1
  have em := h1.2.2.1
  have ev := h2.1
  obtain ⟨hm1, hm2⟩ := near_mk hn h2.2.2.2.2.1
  have d10 : ¬ (1 : Int32) = 0 := by decide
  rcases in_n (k := n) (by omega) a1 with ⟨i, hi, ha, hin⟩ | ⟨ha, hin⟩
  · cases hw : (decide (k = n) && allLt F n k) with
    | false =>
      refine ⟨(-4 : Int32), 0, ?_, ?_, Rel_mk h1 h2 h3 h4 h5 h6 h7 h8⟩
      · unfold f_X10_bag
        rw [ep, e1, ha, if_neg (nI_pos (by omega)), if_pos (nI_lt hi (by omega)), isWholeC_n hk hn e3, hw]
        rfl
      · unfold f_X11_bag
        rw [em, e2, isWholeM_n hk hn e4 e5, hw, hin]
        rfl
    | true =>
      have hkn : k = n := by rw [Bool.and_eq_true, decide_eq_true_eq] at hw; exact hw.1
      refine ⟨nI (outM (rdQ (rdM x_m_wide x_m_places x_m_weights)) n (setM F i) n ||| 2 ^ F i), 0, ?_, ?_, Rel_mk h1 h2 h3 h4 h5 h6 h7 h8⟩
      · unfold f_X10_bag
        rw [ep, e1, ha, if_neg (nI_pos (by omega)), if_pos (nI_lt hi (by omega)), isWholeC_n hk hn e3, hw, ev, bagC_n hn (by omega) (fun j hj => e3 j (by omega)) hm1, outM_congr hm2]
        rfl
      · unfold f_X11_bag
        rw [em, e2, isWholeM_n hk hn e4 e5, hw, hin, ha, bagM_n hn (by omega) (fun j hj => e4 j (by omega))]
        rfl
  · refine ⟨(-3 : Int32), 0, ?_, ?_, Rel_mk h1 h2 h3 h4 h5 h6 h7 h8⟩
    · unfold f_X10_bag
      rw [ep]
      by_cases h0 : a1 < 0
      · rw [if_pos h0]
      · rw [if_neg h0, if_neg (Int32.not_lt.mpr (ha.resolve_left h0))]
    · unfold f_X11_bag
      rw [em, e2, isWholeM_n hk hn e4 e5, hin]
      cases (decide (k = n) && allLt F n k) <;> rfl
