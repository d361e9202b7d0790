/-! LAYER 2: about, count -/
theorem weightAt_n {weights : Nat → Int32} {n a : Nat} (hn : n ≤ 11) (ha : a < 11) : f_X9_weightAt (nI n) weights (nI a) = some (sumI (fun b => weights (11 * a + b)) n) := by
  unfold f_X9_weightAt
  have h : loopS (fun (s : Int32 × Int32) => f_X9_weightAt_L4 (nI a) (nI n) weights s.1 s.2) ((0 : Int32), (0 : Int32)) = some (sumI (fun b => weights (11 * a + b)) n) := by
    refine loop_go (fun k => (sumI (fun b => weights (11 * a + b)) k, nI k)) n rfl (fun k hk => ?_) ?_
    · dsimp only
      unfold f_X9_weightAt_L4
      rw [if_neg (nI_ge hk (by omega)), weightOf_n (by omega) (by omega), nI_1]
      rfl
    · dsimp only
      unfold f_X9_weightAt_L4
      rw [if_pos (nI_le (Nat.le_refl n) (by omega))]
  rw [h]
  rfl
theorem aboutM_n {wide places weights W : Nat → Int32} {n a R F : Nat} (hn : n ≤ 11) (ha : a < 11) (hR : ∀ b, b < n → R.testBit b = rdQ (rdM wide places weights) a b) (hF : ∀ b, b < n → (F.testBit b = true ↔ W (11 * a + b) ≠ 0)) : loopS (fun (s : Int32 × Int32 × Int32 × Int32) => f_X11_about_L40 (nI a) (nI n) wide places weights W s.1 s.2.1 s.2.2.1 s.2.2.2) ((0 : Int32), (0 : Int32), (0 : Int32), (0 : Int32)) = some (nI (pcN R n), sumI (fun b => rdM wide places weights a b) n, nI (pcN F n)) := by
  refine loop_go (fun k => (nI (pcN R k), sumI (fun b => rdM wide places weights a b) k, nI (pcN F k), nI k)) n rfl (fun k hk => ?_) ?_
  · dsimp only
    unfold f_X11_about_L40
    rw [if_neg (nI_ge hk (by omega)), roadOf_n (by omega) (by omega), ix11, gi_n (by omega) (by omega), nI_1]
    simp only [Option.bind_some]
    have t1 : ((if rdM wide places weights a k ≤ 0 then (some (0 : Int32)) else (some (1 : Int32)) : Option (Int32))) = some (nI (if R.testBit k then 1 else 0)) := by
      rw [hR k hk]
      by_cases h : rdM wide places weights a k ≤ 0
      · rw [if_pos h, rdQ_f h]
        rfl
      · rw [if_neg h, rdQ_t h]
        rfl
    have t2 : ((if W (11 * a + k) = 0 then (some (0 : Int32)) else (some (1 : Int32)) : Option (Int32))) = some (nI (if F.testBit k then 1 else 0)) := by
      by_cases h : W (11 * a + k) = 0
      · have : F.testBit k = false := by
          cases hc : F.testBit k with
          | false => rfl
          | true => exact absurd h ((hF k hk).mp hc)
        rw [if_pos h, this]
        rfl
      · rw [if_neg h, (hF k hk).mpr h]
        rfl
    rw [t1, t2]
    simp only [Option.bind_some]
    rw [nI_add, nI_add]
    rfl
  · dsimp only
    unfold f_X11_about_L40
    rw [if_pos (nI_le (Nat.le_refl n) (by omega))]
theorem int_0_4 {x : Int32} (h0 : ¬ x < 0) (h1 : ¬ nI 4 < x) : x = 0 ∨ x = 1 ∨ x = 2 ∨ x = 3 ∨ x = 4 := by
  obtain ⟨j, hj, rfl⟩ := nI_upto (by omega) h0 h1
  rcases (show j = 0 ∨ j = 1 ∨ j = 2 ∨ j = 3 ∨ j = 4 by omega) with rfl | rfl | rfl | rfl | rfl
  · exact Or.inl rfl
  · exact Or.inr (Or.inl rfl)
  · exact Or.inr (Or.inr (Or.inl rfl))
  · exact Or.inr (Or.inr (Or.inr (Or.inl rfl)))
  · exact Or.inr (Or.inr (Or.inr (Or.inr rfl)))
theorem l2_about (x_x_net_posts : Int32) (x_x_net_pairs : Int32) (x_x_net_widths : Nat → Int32) (x_x_net_lengths : Nat → Int32) (x_x_net_told : Nat → Int32) (x_x_net_behind : Nat → Int32) (x_x_view_posts : Int32) (x_x_view_roads : Int32) (x_x_view_weight : Int32) (x_x_view_weights : Nat → Int32) (x_x_view_near : Nat → Int32) (x_x_view_behind : Nat → Int32) (x_x_view_ahead : Nat → Int32) (x_x_history_oldest : Int32) (x_x_history_size : Int32) (x_x_history_kept_posts : Nat → Int32) (x_x_history_kept_pairs : Nat → Int32) (x_x_history_kept_widths : Nat → Nat → Int32) (x_x_history_kept_lengths : Nat → Nat → Int32) (x_x_history_kept_told : Nat → Nat → Int32) (x_x_history_kept_behind : Nat → Nat → Int32) (x_x_hand_size : Int32) (x_x_hand_posts : Nat → Int32) (x_x_trial_size : Int32) (x_x_trial_posts : Nat → Int32) (x_x_bags_size : Int32) (x_x_bags_sets : Nat → Int32) (x_x_chase_size : Int32) (x_x_chase_guarded : Int32) (x_x_chase_most : Int32) (x_x_chase_again : Int32) (x_x_chase_idle : Int32) (x_x_chase_moves : Nat → Int32) (x_x_chase_foul : Nat → Int32) (x_x_sets_solvedFor : Int32) (x_x_sets_lowest : Int32) (x_x_sets_total : Int32) (x_x_sets_pricedFor : Int32) (x_x_sets_prices : Nat → Int32) (x_x_sets_rests : Nat → Int32) (x_x_sets_ways : Nat → Int32) (x_x_trials_solvedFor : Int32) (x_x_trials_lowest : Int32) (x_x_trials_total : Int32) (x_x_trials_found : Nat → Int32) (x_x_trials_row_size : Int32) (x_x_trials_row_posts : Nat → Int32) (x_m_thrown : Int32) (x_m_posts : Int32) (x_m_pairs : Int32) (x_m_keptEnd : Int32) (x_m_kept : Int32) (x_m_many : Int32) (x_m_bags : Int32) (x_m_moves : Int32) (x_m_pen : Int32) (x_m_savedMany : Int32) (x_m_leastRow : Int32) (x_m_bestRows : Int32) (x_m_askedRow : Int32) (x_m_rankOfSaved : Int32) (x_m_wallSet : Int32) (x_m_fouledAgain : Int32) (x_m_wide : Nat → Int32) (x_m_places : Nat → Int32) (x_m_weights : Nat → Int32) (x_m_pair : Nat → Int32) (x_m_old : Nat → Int32) (x_m_row : Nat → Int32) (x_m_bag : Nat → Int32) (x_m_hunt : Nat → Int32) (x_m_behind : Nat → Int32) (x_m_least : Nat → Int32) (x_m_ways : Nat → Int32) (x_m_saved : Nat → Int32) (x_m_kth : Nat → Int32) (x_m_clean : Nat → Int32) (a1 : Int32) (a2 : Int32) (h : Rel x_x_net_posts x_x_net_pairs x_x_net_widths x_x_net_lengths x_x_net_told x_x_net_behind x_x_view_posts x_x_view_roads x_x_view_weight x_x_view_weights x_x_view_near x_x_view_behind x_x_view_ahead x_x_history_oldest x_x_history_size x_x_history_kept_posts x_x_history_kept_pairs x_x_history_kept_widths x_x_history_kept_lengths x_x_history_kept_told x_x_history_kept_behind x_x_hand_size x_x_hand_posts x_x_trial_size x_x_trial_posts x_x_bags_size x_x_bags_sets x_x_chase_size x_x_chase_guarded x_x_chase_most x_x_chase_again x_x_chase_idle x_x_chase_moves x_x_chase_foul x_x_sets_solvedFor x_x_sets_lowest x_x_sets_total x_x_sets_pricedFor x_x_sets_prices x_x_sets_rests x_x_sets_ways x_x_trials_solvedFor x_x_trials_lowest x_x_trials_total x_x_trials_found x_x_trials_row_size x_x_trials_row_posts x_m_thrown x_m_posts x_m_pairs x_m_keptEnd x_m_kept x_m_many x_m_bags x_m_moves x_m_pen x_m_savedMany x_m_leastRow x_m_bestRows x_m_askedRow x_m_rankOfSaved x_m_wallSet x_m_fouledAgain x_m_wide x_m_places x_m_weights x_m_pair x_m_old x_m_row x_m_bag x_m_hunt x_m_behind x_m_least x_m_ways x_m_saved x_m_kth x_m_clean) : ∃ (r : Int32) (o_m_thrown : Int32) (o_m_behind : Nat → Int32), f_X10_about x_x_net_posts x_x_net_widths x_x_net_lengths x_x_net_behind x_x_view_posts x_x_view_weights x_x_view_near a1 a2 = some r ∧ f_X11_about x_m_thrown x_m_posts x_m_wide x_m_places x_m_weights x_m_pair x_m_behind a1 a2 = some (r, o_m_thrown, o_m_behind) ∧ Rel x_x_net_posts x_x_net_pairs x_x_net_widths x_x_net_lengths x_x_net_told x_x_net_behind x_x_view_posts x_x_view_roads x_x_view_weight x_x_view_weights x_x_view_near x_x_view_behind x_x_view_ahead x_x_history_oldest x_x_history_size x_x_history_kept_posts x_x_history_kept_pairs x_x_history_kept_widths x_x_history_kept_lengths x_x_history_kept_told x_x_history_kept_behind x_x_hand_size x_x_hand_posts x_x_trial_size x_x_trial_posts x_x_bags_size x_x_bags_sets x_x_chase_size x_x_chase_guarded x_x_chase_most x_x_chase_again x_x_chase_idle x_x_chase_moves x_x_chase_foul x_x_sets_solvedFor x_x_sets_lowest x_x_sets_total x_x_sets_pricedFor x_x_sets_prices x_x_sets_rests x_x_sets_ways x_x_trials_solvedFor x_x_trials_lowest x_x_trials_total x_x_trials_found x_x_trials_row_size x_x_trials_row_posts o_m_thrown x_m_posts x_m_pairs x_m_keptEnd x_m_kept x_m_many x_m_bags x_m_moves x_m_pen x_m_savedMany x_m_leastRow x_m_bestRows x_m_askedRow x_m_rankOfSaved x_m_wallSet x_m_fouledAgain x_m_wide x_m_places x_m_weights x_m_pair x_m_old x_m_row x_m_bag x_m_hunt o_m_behind x_m_least x_m_ways x_m_saved x_m_kth x_m_clean := by
  obtain ⟨n, h1, h2, h3, h4, h5, h6, h7, h8⟩ := h
  have hn : n ≤ 11 := h1.1
  have ep := h1.2.1
  have em := h1.2.2.1
  subst ep
  subst em
  have d10 : ¬ (1 : Int32) = 0 := by decide
  have r4 : f_X11_in a2 (0 : Int32) (4 : Int32) = _ := in_gen (x := a2) (v := 4) (by omega)
  rcases isPost_n hn a1 with ⟨i, hi, ha, p1, p2⟩ | ⟨ha, p1, p2⟩
  · subst ha
    by_cases hw : a2 < 0 ∨ nI 4 < a2
    · have d : ¬ a2 = 0 ∧ ¬ a2 = 1 ∧ ¬ a2 = 2 ∧ ¬ a2 = 3 ∧ ¬ a2 = 4 := by
        refine ⟨?_, ?_, ?_, ?_, ?_⟩ <;> (rintro rfl; revert hw; decide)
      refine ⟨(-3 : Int32), 0, x_m_behind, ?_, ?_, Rel_mk h1 h2 h3 h4 h5 h6 h7 h8⟩
      · unfold f_X10_about
        rw [p2]
        simp only [Option.bind_some, if_neg d10]
        rw [if_neg d.1, if_neg d.2.1, if_neg d.2.2.1, if_neg d.2.2.2.1, if_neg d.2.2.2.2]
      · unfold f_X11_about
        rw [p1, r4, if_pos hw]
        simp only [Option.bind_some, if_neg d10, if_true]
    · obtain ⟨-, -, -, e3, e4, e5, h6', -, -, -, h10, hp, rk, h12⟩ := id h1
      obtain ⟨s1, s2, -, -⟩ := h6' i hi
      obtain ⟨F, f1, f2, f3, f4⟩ := allBehind_n hn hi h10 (NetR_pr h1)
      obtain ⟨W, w1, w2⟩ := findBehind_n x_m_pair x_m_behind
      obtain ⟨hm1, hm2⟩ := near_mk hn h2.2.2.2.2.1
      obtain ⟨hn1, hn2⟩ := hm1 i hi
      have ev := h2.1
      have hww := h2.2.2.2.1
      have hpow : 2 ^ n ≤ 2 ^ 11 := Nat.pow_le_pow_right (by decide) hn
      have hA := aboutM_n (W := W) (F := F) hn (show i < 11 by omega) (fun b hb => hm2 i b hi hb) (fun b hb => by rw [f4 b, w2 i b (by omega) (by omega)])
      have hst : ∀ (s : Nat), s < 2 ^ n → pcN s 11 = pcN s n := fun s hs => pcN_stop (fun y hy => Nat.testBit_lt_two_pow (Nat.lt_of_lt_of_le hs (Nat.pow_le_pow_right (by decide) hy))) hn
      have hFn : pcN F 11 = pcN F n := pcN_stop (fun y hy => by
        cases hc : F.testBit y with
        | false => rfl
        | true => exact absurd (f3 y hc) (by omega)) hn
      rcases int_0_4 (fun q => hw (Or.inl q)) (fun q => hw (Or.inr q)) with h | h | h | h | h <;> subst h
      · refine ⟨x_m_wide i, 0, W, ?_, ?_, Rel_mk h1 h2 h3 h4 h5 h6 h7 h8⟩
        · unfold f_X10_about
          rw [p2]
          simp only [Option.bind_some, if_neg d10]
          rw [gi_n (by omega) (by omega), s1]
          rfl
        · unfold f_X11_about
          rw [p1, r4, if_neg hw, w1, gi_n (by omega) (by omega), gi_n (by omega) (by omega)]
          simp only [Option.bind_some, if_neg d10]
          rw [hA]
          rfl
      · refine ⟨x_m_places i, 0, W, ?_, ?_, Rel_mk h1 h2 h3 h4 h5 h6 h7 h8⟩
        · unfold f_X10_about
          rw [p2]
          simp only [Option.bind_some, if_neg d10]
          rw [gi_n (by omega) (by omega), gi_n (by omega) (by omega), s2]
          rfl
        · unfold f_X11_about
          rw [p1, r4, if_neg hw, w1, gi_n (by omega) (by omega), gi_n (by omega) (by omega)]
          simp only [Option.bind_some, if_neg d10]
          rw [hA]
          rfl
      · refine ⟨nI (pcN (mkB (fun b => decide (i < n) && (decide (b < n) && rdQ (rdM x_m_wide x_m_places x_m_weights) i b)) 11) n), 0, W, ?_, ?_, Rel_mk h1 h2 h3 h4 h5 h6 h7 h8⟩
        · unfold f_X10_about
          rw [p2]
          simp only [Option.bind_some, if_neg d10]
          rw [gi_n (f := x_x_view_near) (by omega) (by omega), hn1]
          simp only [Option.bind_some]
          rw [bitCount_n _ (by omega), hst _ hn2]
          rfl
        · unfold f_X11_about
          rw [p1, r4, if_neg hw, w1, gi_n (by omega) (by omega), gi_n (by omega) (by omega)]
          simp only [Option.bind_some, if_neg d10]
          rw [hA]
          rfl
      · refine ⟨sumI (fun b => rdM x_m_wide x_m_places x_m_weights i b) n, 0, W, ?_, ?_, Rel_mk h1 h2 h3 h4 h5 h6 h7 h8⟩
        · unfold f_X10_about
          rw [p2]
          simp only [Option.bind_some, if_neg d10]
          rw [ev, weightAt_n hn (by omega), sumI_congr (fun b hb => by rw [hww i b (by omega) (by omega), if_pos ⟨hi, hb⟩])]
          rfl
        · unfold f_X11_about
          rw [p1, r4, if_neg hw, w1, gi_n (by omega) (by omega), gi_n (by omega) (by omega)]
          simp only [Option.bind_some, if_neg d10]
          rw [hA]
          rfl
      · refine ⟨nI (pcN F n), 0, W, ?_, ?_, Rel_mk h1 h2 h3 h4 h5 h6 h7 h8⟩
        · unfold f_X10_about
          rw [p2]
          simp only [Option.bind_some, if_neg d10]
          rw [f1]
          simp only [Option.bind_some]
          rw [bitCount_n _ (by omega), hFn]
          rfl
        · unfold f_X11_about
          rw [p1, r4, if_neg hw, w1, gi_n (by omega) (by omega), gi_n (by omega) (by omega)]
          simp only [Option.bind_some, if_neg d10]
          rw [hA]
          rfl
  · refine ⟨(-3 : Int32), 0, x_m_behind, ?_, ?_, Rel_mk h1 h2 h3 h4 h5 h6 h7 h8⟩
    · unfold f_X10_about
      rw [p2]
      rfl
    · unfold f_X11_about
      rw [p1]
      rfl
theorem roadsRow_sum (rd : Nat → Nat → Int32) (a : Nat) : ∀ b, nI (roadsRow rd a b) = sumI (fun y => if a < y then b2I (rdQ rd a y) else 0) b
  | 0 => nI_0
  | b + 1 => by
    rw [roadsRow, sumI, ← roadsRow_sum rd a b, ← nI_add]
    congr 1
    by_cases h : a < b
    · rw [if_pos h, decide_eq_true h]
      cases rdQ rd a b <;> rfl
    · rw [if_neg h, decide_eq_false h]
      rfl
theorem roadsM_sum (rd : Nat → Nat → Int32) (n : Nat) : ∀ k, nI (roadsM rd n k) = sumI (fun a => sumI (fun y => if a < y then b2I (rdQ rd a y) else 0) n) k
  | 0 => nI_0
  | k + 1 => by rw [roadsM, sumI, ← roadsM_sum rd n k, ← nI_add, roadsRow_sum]
theorem roads_low {rd : Nat → Nat → Int32} (hs : ∀ a b, rd a b = rd b a) (n : Nat) : sumI (fun a => sumI (fun b => b2I (rdQ rd a b)) a) n = nI (roadsM rd n n) := by
  rw [roadsM_sum]
  exact weightM_low (rd := fun a b => b2I (rdQ rd a b)) (fun a b => by unfold rdQ; rw [hs a b]) n
def shM (w : Nat → Int32) (n : Nat) : Int32 := sumI (fun a => if w a = (-1 : Int32) then 0 else 1) n
theorem sheets_n {w : Nat → Int32} {n : Nat} (hn : n ≤ 11) : f_X4_sheets (nI n) w = some (shM w n) := by
  unfold f_X4_sheets
  have h : loopS (fun (s : Int32 × Int32) => f_X4_sheets_L4 (nI n) w s.1 s.2) ((0 : Int32), (0 : Int32)) = some (shM w n) := by
    refine loop_go (fun k => (shM w k, nI k)) n rfl (fun k hk => ?_) ?_
    · dsimp only
      unfold f_X4_sheets_L4
      rw [if_neg (nI_ge hk (by omega)), isMissing_n (by omega), nI_1]
      simp only [Option.bind_some]
      show _ = some (Sum.inl (shM w k + (if w k = (-1 : Int32) then 0 else 1), nI (k + 1)))
      by_cases h : w k = (-1 : Int32)
      · rw [if_pos h, if_pos h, if_neg (by decide), Int32.add_zero]
        rfl
      · rw [if_neg h, if_neg h, if_pos rfl]
        rfl
    · dsimp only
      unfold f_X4_sheets_L4
      rw [if_pos (nI_le (Nat.le_refl n) (by omega))]
  rw [h]
  rfl
theorem countIn_n {wide places weights : Nat → Int32} {a : Nat} (ha : a < 11) (x y : Int32) : loopS (fun (s : Int32 × Int32 × Int32) => f_X11_count_L48 (nI a) wide places weights s.1 s.2.1 s.2.2) (x, y, (0 : Int32)) = some (x + sumI (fun b => b2I (rdQ (rdM wide places weights) a b)) a, y + sumI (fun b => rdM wide places weights a b) a) := by
  refine loop_go (fun k => (x + sumI (fun b => b2I (rdQ (rdM wide places weights) a b)) k, y + sumI (fun b => rdM wide places weights a b) k, nI k)) a ?_ (fun k hk => ?_) ?_
  · show _ = (x + 0, y + 0, nI 0)
    rw [Int32.add_zero, Int32.add_zero]
    rfl
  · dsimp only
    unfold f_X11_count_L48
    rw [if_neg (nI_ge hk (by omega)), roadOf_n (by omega) (by omega), nI_1]
    simp only [Option.bind_some]
    have t1 : ((if rdM wide places weights a k ≤ 0 then (some (0 : Int32)) else (some (1 : Int32)) : Option (Int32))) = some (b2I (rdQ (rdM wide places weights) a k)) := by
      by_cases h : rdM wide places weights a k ≤ 0
      · rw [if_pos h, rdQ_f h]
        rfl
      · rw [if_neg h, rdQ_t h]
        rfl
    rw [t1]
    simp only [Option.bind_some]
    rw [Int32.add_assoc, Int32.add_assoc]
    rfl
  · dsimp only
    unfold f_X11_count_L48
    rw [if_pos (nI_le (Nat.le_refl a) (by omega))]
theorem countM_n {wide places weights : Nat → Int32} {n : Nat} (hn : n ≤ 11) : loopS (fun (s : Int32 × Int32 × Int32 × Int32) => f_X11_count_L15 (nI n) wide places weights s.1 s.2.1 s.2.2.1 s.2.2.2) ((0 : Int32), (0 : Int32), (0 : Int32), (0 : Int32)) = some (sumI (fun a => sumI (fun b => b2I (rdQ (rdM wide places weights) a b)) a) n, sumI (fun a => sumI (fun b => rdM wide places weights a b) a) n, shM wide n) := by
  refine loop_go (fun k => (sumI (fun a => sumI (fun b => b2I (rdQ (rdM wide places weights) a b)) a) k, sumI (fun a => sumI (fun b => rdM wide places weights a b) a) k, shM wide k, nI k)) n rfl (fun k hk => ?_) ?_
  · dsimp only
    unfold f_X11_count_L15
    rw [if_neg (nI_ge hk (by omega)), gi_n (by omega) (by omega), countIn_n (by omega), nI_1]
    simp only [Option.bind_some]
    show _ = some (Sum.inl (_, _, shM wide k + (if wide k = (-1 : Int32) then 0 else 1), nI (k + 1)))
    by_cases h : wide k = (-1 : Int32)
    · rw [if_pos h, if_pos h]
      rfl
    · rw [if_neg h, if_neg h]
      rfl
  · dsimp only
    unfold f_X11_count_L15
    rw [if_pos (nI_le (Nat.le_refl n) (by omega))]
theorem l2_count (x_x_net_posts : Int32) (x_x_net_pairs : Int32) (x_x_net_widths : Nat → Int32) (x_x_net_lengths : Nat → Int32) (x_x_net_told : Nat → Int32) (x_x_net_behind : Nat → Int32) (x_x_view_posts : Int32) (x_x_view_roads : Int32) (x_x_view_weight : Int32) (x_x_view_weights : Nat → Int32) (x_x_view_near : Nat → Int32) (x_x_view_behind : Nat → Int32) (x_x_view_ahead : Nat → Int32) (x_x_history_oldest : Int32) (x_x_history_size : Int32) (x_x_history_kept_posts : Nat → Int32) (x_x_history_kept_pairs : Nat → Int32) (x_x_history_kept_widths : Nat → Nat → Int32) (x_x_history_kept_lengths : Nat → Nat → Int32) (x_x_history_kept_told : Nat → Nat → Int32) (x_x_history_kept_behind : Nat → Nat → Int32) (x_x_hand_size : Int32) (x_x_hand_posts : Nat → Int32) (x_x_trial_size : Int32) (x_x_trial_posts : Nat → Int32) (x_x_bags_size : Int32) (x_x_bags_sets : Nat → Int32) (x_x_chase_size : Int32) (x_x_chase_guarded : Int32) (x_x_chase_most : Int32) (x_x_chase_again : Int32) (x_x_chase_idle : Int32) (x_x_chase_moves : Nat → Int32) (x_x_chase_foul : Nat → Int32) (x_x_sets_solvedFor : Int32) (x_x_sets_lowest : Int32) (x_x_sets_total : Int32) (x_x_sets_pricedFor : Int32) (x_x_sets_prices : Nat → Int32) (x_x_sets_rests : Nat → Int32) (x_x_sets_ways : Nat → Int32) (x_x_trials_solvedFor : Int32) (x_x_trials_lowest : Int32) (x_x_trials_total : Int32) (x_x_trials_found : Nat → Int32) (x_x_trials_row_size : Int32) (x_x_trials_row_posts : Nat → Int32) (x_m_thrown : Int32) (x_m_posts : Int32) (x_m_pairs : Int32) (x_m_keptEnd : Int32) (x_m_kept : Int32) (x_m_many : Int32) (x_m_bags : Int32) (x_m_moves : Int32) (x_m_pen : Int32) (x_m_savedMany : Int32) (x_m_leastRow : Int32) (x_m_bestRows : Int32) (x_m_askedRow : Int32) (x_m_rankOfSaved : Int32) (x_m_wallSet : Int32) (x_m_fouledAgain : Int32) (x_m_wide : Nat → Int32) (x_m_places : Nat → Int32) (x_m_weights : Nat → Int32) (x_m_pair : Nat → Int32) (x_m_old : Nat → Int32) (x_m_row : Nat → Int32) (x_m_bag : Nat → Int32) (x_m_hunt : Nat → Int32) (x_m_behind : Nat → Int32) (x_m_least : Nat → Int32) (x_m_ways : Nat → Int32) (x_m_saved : Nat → Int32) (x_m_kth : Nat → Int32) (x_m_clean : Nat → Int32) (a1 : Int32) (h : Rel x_x_net_posts x_x_net_pairs x_x_net_widths x_x_net_lengths x_x_net_told x_x_net_behind x_x_view_posts x_x_view_roads x_x_view_weight x_x_view_weights x_x_view_near x_x_view_behind x_x_view_ahead x_x_history_oldest x_x_history_size x_x_history_kept_posts x_x_history_kept_pairs x_x_history_kept_widths x_x_history_kept_lengths x_x_history_kept_told x_x_history_kept_behind x_x_hand_size x_x_hand_posts x_x_trial_size x_x_trial_posts x_x_bags_size x_x_bags_sets x_x_chase_size x_x_chase_guarded x_x_chase_most x_x_chase_again x_x_chase_idle x_x_chase_moves x_x_chase_foul x_x_sets_solvedFor x_x_sets_lowest x_x_sets_total x_x_sets_pricedFor x_x_sets_prices x_x_sets_rests x_x_sets_ways x_x_trials_solvedFor x_x_trials_lowest x_x_trials_total x_x_trials_found x_x_trials_row_size x_x_trials_row_posts x_m_thrown x_m_posts x_m_pairs x_m_keptEnd x_m_kept x_m_many x_m_bags x_m_moves x_m_pen x_m_savedMany x_m_leastRow x_m_bestRows x_m_askedRow x_m_rankOfSaved x_m_wallSet x_m_fouledAgain x_m_wide x_m_places x_m_weights x_m_pair x_m_old x_m_row x_m_bag x_m_hunt x_m_behind x_m_least x_m_ways x_m_saved x_m_kth x_m_clean) : ∃ (r : Int32) (o_m_thrown : Int32), f_X10_count x_x_net_posts x_x_net_pairs x_x_net_widths x_x_view_roads x_x_view_weight x_x_history_size x_x_hand_size x_x_bags_size x_x_chase_size a1 = some r ∧ f_X11_count x_m_thrown x_m_posts x_m_pairs x_m_kept x_m_many x_m_bags x_m_moves x_m_wide x_m_places x_m_weights a1 = some (r, o_m_thrown) ∧ Rel x_x_net_posts x_x_net_pairs x_x_net_widths x_x_net_lengths x_x_net_told x_x_net_behind x_x_view_posts x_x_view_roads x_x_view_weight x_x_view_weights x_x_view_near x_x_view_behind x_x_view_ahead x_x_history_oldest x_x_history_size x_x_history_kept_posts x_x_history_kept_pairs x_x_history_kept_widths x_x_history_kept_lengths x_x_history_kept_told x_x_history_kept_behind x_x_hand_size x_x_hand_posts x_x_trial_size x_x_trial_posts x_x_bags_size x_x_bags_sets x_x_chase_size x_x_chase_guarded x_x_chase_most x_x_chase_again x_x_chase_idle x_x_chase_moves x_x_chase_foul x_x_sets_solvedFor x_x_sets_lowest x_x_sets_total x_x_sets_pricedFor x_x_sets_prices x_x_sets_rests x_x_sets_ways x_x_trials_solvedFor x_x_trials_lowest x_x_trials_total x_x_trials_found x_x_trials_row_size x_x_trials_row_posts o_m_thrown x_m_posts x_m_pairs x_m_keptEnd x_m_kept x_m_many x_m_bags x_m_moves x_m_pen x_m_savedMany x_m_leastRow x_m_bestRows x_m_askedRow x_m_rankOfSaved x_m_wallSet x_m_fouledAgain x_m_wide x_m_places x_m_weights x_m_pair x_m_old x_m_row x_m_bag x_m_hunt x_m_behind x_m_least x_m_ways x_m_saved x_m_kth x_m_clean := by
  obtain ⟨n, h1, h2, h3, h4, h5, h6, h7, h8⟩ := h
  have hn : n ≤ 11 := h1.1
  have ep := h1.2.1
  have em := h1.2.2.1
  subst ep
  subst em
  have d10 : ¬ (1 : Int32) = 0 := by decide
  have hsh : shM x_x_net_widths n = shM x_m_wide n := sumI_congr (fun a ha => by rw [(h1.2.2.2.2.2.2.1 a ha).1])
  have e3 : x_m_pairs = x_x_net_pairs := by rw [h1.2.2.2.1, h1.2.2.2.2.1]
  obtain ⟨ko, hk1, _, _, hk2, hk3, _, hk4, _⟩ := id h3
  obtain ⟨khr1, _, hr1, hr2, _⟩ := id h4
  obtain ⟨khb1, _, hb1, hb2, _⟩ := id h5
  obtain ⟨khc1, _, hc1, hc2, _⟩ := id h6
  have hv2 := h2.2.1
  have hv3 := h2.2.2.1
  have hM := countM_n (wide := x_m_wide) (places := x_m_places) (weights := x_m_weights) hn
  rw [roads_low (rdM_sym _ _ _), weightM_low (rdM_sym _ _ _)] at hM
  have hC : f_X11_count x_m_thrown (nI n) x_m_pairs x_m_kept x_m_many x_m_bags x_m_moves x_m_wide x_m_places x_m_weights a1 = (f_X10_count (nI n) x_x_net_pairs x_x_net_widths x_x_view_roads x_x_view_weight x_x_history_size x_x_hand_size x_x_bags_size x_x_chase_size a1).bind fun r => some (r, 0) := by
    unfold f_X11_count f_X10_count
    rw [hM, sheets_n hn, hsh, e3, hr1, hr2, hb1, hb2, hc1, hc2, hv2, hv3]
    simp only [b3, Option.bind_some]
    have hkk : x_m_kept = x_x_history_size := by rw [hk3, hk4]
    rw [hkk]
    repeat' split
    all_goals rfl
  have hT : ∃ r, f_X10_count (nI n) x_x_net_pairs x_x_net_widths x_x_view_roads x_x_view_weight x_x_history_size x_x_hand_size x_x_bags_size x_x_chase_size a1 = some r := by
    unfold f_X10_count
    rw [sheets_n hn]
    repeat' split
    all_goals exact ⟨_, rfl⟩
  obtain ⟨r, hr⟩ := hT
  refine ⟨r, 0, hr, ?_, Rel_mk h1 h2 h3 h4 h5 h6 h7 h8⟩
  rw [hC, hr]
  rfl
