/-! LAYER 2: move -/
/-- a row after the first t of the steps by which the post at place a goes up to b: the places a .. a+t-1 hold what stood one behind -/
def upM (f : Nat → Int32) (a t : Nat) : Nat → Int32 := fun j => if a ≤ j ∧ j < a + t then f (j + 1) else f j
def dnM (f : Nat → Int32) (a t : Nat) : Nat → Int32 := fun j => if a < j + t ∧ j ≤ a then f (j - 1) else f j
theorem upM_0 (f : Nat → Int32) (a : Nat) : upM f a 0 = f := by
  funext j
  unfold upM
  rw [if_neg (by omega)]
theorem dnM_0 (f : Nat → Int32) (a : Nat) : dnM f a 0 = f := by
  funext j
  unfold dnM
  rw [if_neg (by omega)]
theorem upM_s (f : Nat → Int32) (a t : Nat) : upd (upM f a t) (a + t) (f (a + t + 1)) = upM f a (t + 1) := by
  funext j
  unfold upd upM
  by_cases h : j = a + t
  · subst h
    rw [if_pos rfl, if_pos (by omega)]
  · rw [if_neg h]
    by_cases h2 : a ≤ j ∧ j < a + t
    · rw [if_pos h2, if_pos (by omega)]
    · rw [if_neg h2, if_neg (by omega)]
theorem dnM_s (f : Nat → Int32) (a t : Nat) (ht : t < a) : upd (dnM f a t) (a - t) (f (a - t - 1)) = dnM f a (t + 1) := by
  funext j
  unfold upd dnM
  by_cases h : j = a - t
  · subst h
    rw [if_pos rfl, if_pos (by omega)]
  · rw [if_neg h]
    by_cases h2 : a < j + t ∧ j ≤ a
    · rw [if_pos h2, if_pos (by omega)]
    · rw [if_neg h2, if_neg (by omega)]
/-- the post at place a moved to place b -/
def mvM (f : Nat → Int32) (a b : Nat) : Nat → Int32 := upd (if a ≤ b then upM f a (b - a) else dnM f a (a - b)) b (f a)
theorem shiftUp_n {f : Nat → Int32} {a b : Nat} (ha : a ≤ b) (hb : b < 11) : loopS (fun (s : Int32 × (Nat → Int32)) => f_X5_shift_L10 (nI b) s.1 s.2) (nI a, f) = some (upM f a (b - a)) := by
  have h := loop_run (step := fun (s : Int32 × (Nat → Int32)) => f_X5_shift_L10 (nI b) s.1 s.2) (fun t => (nI (a + t), upM f a t)) (x := upM f a (b - a)) (b - a) (fun t ht => ?_) ?_
  · rw [upM_0] at h
    exact h
  · show f_X5_shift_L10 (nI b) (nI (a + t)) (upM f a t) = some (Sum.inl (nI (a + (t + 1)), upM f a (t + 1)))
    unfold f_X5_shift_L10
    rw [if_neg (nI_ge (by omega) (by omega)), nI_1, gi_n (by omega) (by omega)]
    simp only [Option.bind_some]
    rw [si_n (by omega) (by omega), show upM f a t (a + t + 1) = f (a + t + 1) from if_neg (by omega), upM_s]
    rfl
  · show f_X5_shift_L10 (nI b) (nI (a + (b - a))) (upM f a (b - a)) = _
    unfold f_X5_shift_L10
    rw [if_pos (nI_le (by omega) (by omega))]
theorem shiftDn_n {f : Nat → Int32} {a b : Nat} (hab : b ≤ a) (ha : a < 11) : loopS (fun (s : Int32 × (Nat → Int32)) => f_X5_shift_L41 (nI b) s.1 s.2) (nI a, f) = some (dnM f a (a - b)) := by
  have h := loop_run (step := fun (s : Int32 × (Nat → Int32)) => f_X5_shift_L41 (nI b) s.1 s.2) (fun t => (nI (a - t), dnM f a t)) (x := dnM f a (a - b)) (a - b) (fun t ht => ?_) ?_
  · rw [dnM_0] at h
    exact h
  · show f_X5_shift_L41 (nI b) (nI (a - t)) (dnM f a t) = some (Sum.inl (nI (a - (t + 1)), dnM f a (t + 1)))
    unfold f_X5_shift_L41
    have e1 : nI (a - t) - (1 : Int32) = nI (a - t - 1) := pk_sub (b := 1) (by omega)
    have e2 : nI (a - t) + (-1 : Int32) = nI (a - (t + 1)) := by
      have := pk_m1 (a - t - 1)
      rw [show a - t - 1 + 1 = a - t by omega] at this
      rw [this, show a - t - 1 = a - (t + 1) by omega]
    rw [if_neg (nI_ge (by omega) (by omega)), e1, e2, gi_n (by omega) (by omega)]
    simp only [Option.bind_some]
    rw [si_n (by omega) (by omega), show dnM f a t (a - t - 1) = f (a - t - 1) from if_neg (by omega), dnM_s f a t (by omega)]
    rfl
  · show f_X5_shift_L41 (nI b) (nI (a - (a - b))) (dnM f a (a - b)) = _
    unfold f_X5_shift_L41
    rw [if_pos (nI_le (by omega) (by omega))]
theorem shiftC_n {f : Nat → Int32} {a b : Nat} (ha : a < 11) (hb : b < 11) : f_X5_shift f (nI a) (nI b) = some (mvM f a b) := by
  unfold f_X5_shift mvM
  rw [gi_n ha (by omega)]
  simp only [Option.bind_some]
  rcases Nat.lt_or_ge b a with h | h
  · have e1 : loopS (fun (s : Int32 × (Nat → Int32)) => f_X5_shift_L10 (nI b) s.1 s.2) (nI a, f) = some f := by
      rw [loopS_eq]
      show (f_X5_shift_L10 (nI b) (nI a) f).bind _ = _
      unfold f_X5_shift_L10
      rw [if_pos (nI_le (by omega) (by omega))]
      rfl
    rw [e1]
    simp only [Option.bind_some]
    rw [shiftDn_n (by omega) ha]
    simp only [Option.bind_some]
    rw [si_n hb (by omega), if_neg (by omega)]
    rfl
  · rw [shiftUp_n h hb]
    simp only [Option.bind_some]
    have e1 : loopS (fun (s : Int32 × (Nat → Int32)) => f_X5_shift_L41 (nI b) s.1 s.2) (nI a, upM f a (b - a)) = some (upM f a (b - a)) := by
      rw [loopS_eq]
      show (f_X5_shift_L41 (nI b) (nI a) (upM f a (b - a))).bind _ = _
      unfold f_X5_shift_L41
      rw [if_pos (nI_le (by omega) (by omega))]
      rfl
    rw [e1]
    simp only [Option.bind_some]
    rw [si_n hb (by omega), if_pos h]
    rfl
theorem shiftM_n {f : Nat → Int32} {a b : Nat} (ha : a < 11) (hb : b < 11) : f_X11_shift f (nI a) (nI b) = some (mvM f a b) := by
  unfold f_X11_shift mvM
  rw [gi_n ha (by omega)]
  simp only [Option.bind_some]
  rcases Nat.lt_or_ge a b with h | h
  · rw [if_neg (nI_ge h (by omega))]
    simp only [Option.bind_some]
    have h1 := loop_run (step := fun (s : Int32 × (Nat → Int32)) => f_X11_shift_L22 (nI b) (1 : Int32) s.1 s.2) (fun t => (nI (a + t), upM f a t)) (x := upM f a (b - a)) (b - a) (fun t ht => by
      show f_X11_shift_L22 (nI b) (1 : Int32) (nI (a + t)) (upM f a t) = some (Sum.inl (nI (a + (t + 1)), upM f a (t + 1)))
      unfold f_X11_shift_L22
      rw [if_neg (fun q => by have := (nI_eq (by omega) (by omega)).mp q; omega), nI_1, gi_n (by omega) (by omega)]
      simp only [Option.bind_some]
      rw [si_n (by omega) (by omega), show upM f a t (a + t + 1) = f (a + t + 1) from if_neg (by omega), upM_s]
      rfl) (by
      show f_X11_shift_L22 (nI b) (1 : Int32) (nI (a + (b - a))) (upM f a (b - a)) = _
      unfold f_X11_shift_L22
      rw [if_pos (by rw [show a + (b - a) = b by omega])])
    rw [upM_0] at h1
    rw [show loopS (fun (s : Int32 × (Nat → Int32)) => f_X11_shift_L22 (nI b) (1 : Int32) s.1 s.2) (nI a, f) = some (upM f a (b - a)) from h1]
    simp only [Option.bind_some]
    rw [si_n hb (by omega), if_pos (by omega)]
    rfl
  · rw [if_pos (nI_le h (by omega))]
    simp only [Option.bind_some]
    have h1 := loop_run (step := fun (s : Int32 × (Nat → Int32)) => f_X11_shift_L22 (nI b) (-1 : Int32) s.1 s.2) (fun t => (nI (a - t), dnM f a t)) (x := dnM f a (a - b)) (a - b) (fun t ht => by
      show f_X11_shift_L22 (nI b) (-1 : Int32) (nI (a - t)) (dnM f a t) = some (Sum.inl (nI (a - (t + 1)), dnM f a (t + 1)))
      unfold f_X11_shift_L22
      have e2 : nI (a - t) + (-1 : Int32) = nI (a - t - 1) := by
        have := pk_m1 (a - t - 1)
        rw [show a - t - 1 + 1 = a - t by omega] at this
        exact this
      rw [if_neg (fun q => by have := (nI_eq (by omega) (by omega)).mp q; omega), e2, gi_n (by omega) (by omega)]
      simp only [Option.bind_some]
      rw [si_n (by omega) (by omega), show dnM f a t (a - t - 1) = f (a - t - 1) from if_neg (by omega), dnM_s f a t (by omega), show a - t - 1 = a - (t + 1) by omega]
      rfl) (by
      show f_X11_shift_L22 (nI b) (-1 : Int32) (nI (a - (a - b))) (dnM f a (a - b)) = _
      unfold f_X11_shift_L22
      rw [if_pos (by rw [show a - (a - b) = b by omega])])
    rw [dnM_0] at h1
    rw [show loopS (fun (s : Int32 × (Nat → Int32)) => f_X11_shift_L22 (nI b) (-1 : Int32) s.1 s.2) (nI a, f) = some (dnM f a (a - b)) from h1]
    simp only [Option.bind_some]
    rw [si_n hb (by omega)]
    by_cases hab : a = b
    · subst hab
      rw [if_pos (Nat.le_refl a), Nat.sub_self, dnM_0, upM_0]
      rfl
    · rw [if_neg (by omega)]
      rfl
/-- where a place's post stood before -/
def srcM (a b j : Nat) : Nat := if j = b then a else if a ≤ j ∧ j < b then j + 1 else if b < j ∧ j ≤ a then j - 1 else j
theorem mvM_src (f : Nat → Int32) (a b j : Nat) : mvM f a b j = f (srcM a b j) := by
  unfold mvM srcM upd
  by_cases h : j = b
  · rw [if_pos h, if_pos h]
  · rw [if_neg h, if_neg h]
    by_cases hab : a ≤ b
    · rw [if_pos hab]
      unfold upM
      by_cases h1 : a ≤ j ∧ j < b
      · rw [if_pos (by omega), if_pos h1]
      · rw [if_neg (by omega), if_neg h1, if_neg (by omega)]
    · rw [if_neg hab]
      unfold dnM
      by_cases h1 : b < j ∧ j ≤ a
      · rw [if_pos (by omega), if_neg (by omega), if_pos h1]
      · rw [if_neg (by omega), if_neg (by omega), if_neg h1]
theorem srcM_lt {a b j k : Nat} (ha : a < k) (hb : b < k) (hj : j < k) : srcM a b j < k := by
  unfold srcM
  split
  · exact ha
  · split
    · omega
    · split <;> omega
theorem srcM_inj {a b i j : Nat} (h : srcM a b i = srcM a b j) : i = j := by
  unfold srcM at h
  repeat' split at h
  all_goals omega
theorem RowR_mv {size many : Int32} {posts row : Nat → Int32} {k a b : Nat} (hk : k ≤ 11) (e1 : size = nI k) (e2 : many = nI k) (e3 : ∀ j, j < k → posts j = row j ∧ ∃ p, p < 11 ∧ row j = nI p) (e4 : ∀ i j, i < k → j < k → row i = row j → i = j) (ha : a < k) (hb : b < k) : RowR size many (mvM posts a b) (mvM row a b) := by
  refine ⟨k, hk, e1, e2, fun j hj => ?_, fun i j hi hj hij => ?_⟩
  · rw [mvM_src, mvM_src]
    exact e3 _ (srcM_lt ha hb hj)
  · rw [mvM_src, mvM_src] at hij
    exact srcM_inj (e4 _ _ (srcM_lt ha hb hi) (srcM_lt ha hb hj) hij)
theorem l2_move (x_x_net_posts : Int32) (x_x_net_pairs : Int32) (x_x_net_widths : Nat → Int32) (x_x_net_lengths : Nat → Int32) (x_x_net_told : Nat → Int32) (x_x_net_behind : Nat → Int32) (x_x_view_posts : Int32) (x_x_view_roads : Int32) (x_x_view_weight : Int32) (x_x_view_weights : Nat → Int32) (x_x_view_near : Nat → Int32) (x_x_view_behind : Nat → Int32) (x_x_view_ahead : Nat → Int32) (x_x_history_oldest : Int32) (x_x_history_size : Int32) (x_x_history_kept_posts : Nat → Int32) (x_x_history_kept_pairs : Nat → Int32) (x_x_history_kept_widths : Nat → Nat → Int32) (x_x_history_kept_lengths : Nat → Nat → Int32) (x_x_history_kept_told : Nat → Nat → Int32) (x_x_history_kept_behind : Nat → Nat → Int32) (x_x_hand_size : Int32) (x_x_hand_posts : Nat → Int32) (x_x_trial_size : Int32) (x_x_trial_posts : Nat → Int32) (x_x_bags_size : Int32) (x_x_bags_sets : Nat → Int32) (x_x_chase_size : Int32) (x_x_chase_guarded : Int32) (x_x_chase_most : Int32) (x_x_chase_again : Int32) (x_x_chase_idle : Int32) (x_x_chase_moves : Nat → Int32) (x_x_chase_foul : Nat → Int32) (x_x_sets_solvedFor : Int32) (x_x_sets_lowest : Int32) (x_x_sets_total : Int32) (x_x_sets_pricedFor : Int32) (x_x_sets_prices : Nat → Int32) (x_x_sets_rests : Nat → Int32) (x_x_sets_ways : Nat → Int32) (x_x_trials_solvedFor : Int32) (x_x_trials_lowest : Int32) (x_x_trials_total : Int32) (x_x_trials_found : Nat → Int32) (x_x_trials_row_size : Int32) (x_x_trials_row_posts : Nat → Int32) (x_m_thrown : Int32) (x_m_posts : Int32) (x_m_pairs : Int32) (x_m_keptEnd : Int32) (x_m_kept : Int32) (x_m_many : Int32) (x_m_bags : Int32) (x_m_moves : Int32) (x_m_pen : Int32) (x_m_savedMany : Int32) (x_m_leastRow : Int32) (x_m_bestRows : Int32) (x_m_askedRow : Int32) (x_m_rankOfSaved : Int32) (x_m_wallSet : Int32) (x_m_fouledAgain : Int32) (x_m_wide : Nat → Int32) (x_m_places : Nat → Int32) (x_m_weights : Nat → Int32) (x_m_pair : Nat → Int32) (x_m_old : Nat → Int32) (x_m_row : Nat → Int32) (x_m_bag : Nat → Int32) (x_m_hunt : Nat → Int32) (x_m_behind : Nat → Int32) (x_m_least : Nat → Int32) (x_m_ways : Nat → Int32) (x_m_saved : Nat → Int32) (x_m_kth : Nat → Int32) (x_m_clean : Nat → Int32) (a1 : Int32) (a2 : Int32) (h : Rel x_x_net_posts x_x_net_pairs x_x_net_widths x_x_net_lengths x_x_net_told x_x_net_behind x_x_view_posts x_x_view_roads x_x_view_weight x_x_view_weights x_x_view_near x_x_view_behind x_x_view_ahead x_x_history_oldest x_x_history_size x_x_history_kept_posts x_x_history_kept_pairs x_x_history_kept_widths x_x_history_kept_lengths x_x_history_kept_told x_x_history_kept_behind x_x_hand_size x_x_hand_posts x_x_trial_size x_x_trial_posts x_x_bags_size x_x_bags_sets x_x_chase_size x_x_chase_guarded x_x_chase_most x_x_chase_again x_x_chase_idle x_x_chase_moves x_x_chase_foul x_x_sets_solvedFor x_x_sets_lowest x_x_sets_total x_x_sets_pricedFor x_x_sets_prices x_x_sets_rests x_x_sets_ways x_x_trials_solvedFor x_x_trials_lowest x_x_trials_total x_x_trials_found x_x_trials_row_size x_x_trials_row_posts x_m_thrown x_m_posts x_m_pairs x_m_keptEnd x_m_kept x_m_many x_m_bags x_m_moves x_m_pen x_m_savedMany x_m_leastRow x_m_bestRows x_m_askedRow x_m_rankOfSaved x_m_wallSet x_m_fouledAgain x_m_wide x_m_places x_m_weights x_m_pair x_m_old x_m_row x_m_bag x_m_hunt x_m_behind x_m_least x_m_ways x_m_saved x_m_kth x_m_clean) : ∃ (r : Int32) (o_x_hand_posts : Nat → Int32) (o_m_thrown : Int32) (o_m_row : Nat → Int32), f_X10_move x_x_hand_size x_x_hand_posts a1 a2 = some (r, o_x_hand_posts) ∧ f_X11_move x_m_thrown x_m_many x_m_row a1 a2 = some (r, o_m_thrown, o_m_row) ∧ Rel x_x_net_posts x_x_net_pairs x_x_net_widths x_x_net_lengths x_x_net_told x_x_net_behind x_x_view_posts x_x_view_roads x_x_view_weight x_x_view_weights x_x_view_near x_x_view_behind x_x_view_ahead x_x_history_oldest x_x_history_size x_x_history_kept_posts x_x_history_kept_pairs x_x_history_kept_widths x_x_history_kept_lengths x_x_history_kept_told x_x_history_kept_behind x_x_hand_size o_x_hand_posts x_x_trial_size x_x_trial_posts x_x_bags_size x_x_bags_sets x_x_chase_size x_x_chase_guarded x_x_chase_most x_x_chase_again x_x_chase_idle x_x_chase_moves x_x_chase_foul x_x_sets_solvedFor x_x_sets_lowest x_x_sets_total x_x_sets_pricedFor x_x_sets_prices x_x_sets_rests x_x_sets_ways x_x_trials_solvedFor x_x_trials_lowest x_x_trials_total x_x_trials_found x_x_trials_row_size x_x_trials_row_posts o_m_thrown x_m_posts x_m_pairs x_m_keptEnd x_m_kept x_m_many x_m_bags x_m_moves x_m_pen x_m_savedMany x_m_leastRow x_m_bestRows x_m_askedRow x_m_rankOfSaved x_m_wallSet x_m_fouledAgain x_m_wide x_m_places x_m_weights x_m_pair x_m_old o_m_row x_m_bag x_m_hunt x_m_behind x_m_least x_m_ways x_m_saved x_m_kth x_m_clean := by
  obtain ⟨n, h1, h2, h3, h4, h5, h6, h7, h8⟩ := h
  obtain ⟨k, hk, e1, e2, e3, e4⟩ := id h4
  have d10 : ¬ (1 : Int32) = 0 := by decide
  have hplace : ∀ x : Int32, (∃ j, j < k ∧ x = nI j ∧ f_X11_in x (0 : Int32) (nI k - (1 : Int32)) = some 1 ∧ f_X5_hasPlace (nI k) x = some 1) ∨ (f_X11_in x (0 : Int32) (nI k - (1 : Int32)) = some 0 ∧ f_X5_hasPlace (nI k) x = some 0) := by
    intro x
    rcases in_n (k := k) (by omega) x with ⟨j, hj, ha, hi⟩ | ⟨ha, hi⟩
    · refine Or.inl ⟨j, hj, ha, hi, ?_⟩
      unfold f_X5_hasPlace
      rw [ha, if_neg (nI_pos (by omega)), if_neg (nI_ge hj (by omega))]
    · refine Or.inr ⟨hi, ?_⟩
      unfold f_X5_hasPlace
      by_cases h0 : x < 0
      · rw [if_pos h0]
      · rw [if_neg h0, if_pos (ha.resolve_left h0)]
  rcases hplace a1 with ⟨i, hi, ha, p1, p2⟩ | ⟨p1, p2⟩
  · rcases hplace a2 with ⟨j, hj, hb, q1, q2⟩ | ⟨q1, q2⟩
    · refine ⟨0, mvM x_x_hand_posts i j, 0, mvM x_m_row i j, ?_, ?_, Rel_mk h1 h2 h3 (RowR_mv hk e1 e2 e3 e4 hi hj) h5 h6 h7 h8⟩
      · unfold f_X10_move
        rw [e1, p2, q2, ha, hb, shiftC_n (by omega) (by omega)]
        rfl
      · unfold f_X11_move
        rw [e2, p1, q1, ha, hb, shiftM_n (by omega) (by omega)]
        rfl
    · refine ⟨(-3 : Int32), x_x_hand_posts, 0, x_m_row, ?_, ?_, Rel_mk h1 h2 h3 h4 h5 h6 h7 h8⟩
      · unfold f_X10_move
        rw [e1, p2, q2]
        rfl
      · unfold f_X11_move
        rw [e2, p1, q1]
        rfl
  · refine ⟨(-3 : Int32), x_x_hand_posts, 0, x_m_row, ?_, ?_, Rel_mk h1 h2 h3 h4 h5 h6 h7 h8⟩
    · unfold f_X10_move
      rw [e1, p2]
      rfl
    · unfold f_X11_move
      rw [e2, p1]
      rfl
