/-! LAYER 2: plan -/
theorem b2_s {A1 A2 X : Type} (a : A1) (b : A2) (k : A1 → A2 → Option X) : b2 (some (a, b)) k = k a b := rfl
theorem difI (a b : Nat) : nI a &&& (nI b ^^^ (-1 : Int32)) = nI (dif a b) := difN a b
theorem bagN_hi {q : Nat → Nat → Bool} {n : Nat} {F : Nat → Nat} {i y : Nat} (hF : F i < n) (hy : n ≤ y) : (bagN q n F i).testBit y = false := by
  cases hc : (bagN q n F i).testBit y with
  | false => rfl
  | true => rcases bagN_tb.mp hc with ⟨h, -⟩ | h <;> omega
theorem bagN_lt {q : Nat → Nat → Bool} {n : Nat} {F : Nat → Nat} {i : Nat} (hn : n ≤ 11) (hF : F i < n) : bagN q n F i < 2 ^ 11 := by
  apply Nat.lt_pow_two_of_testBit
  intro y hy
  exact bagN_hi hF (by omega)
theorem prvN_hi {q : Nat → Nat → Bool} {n : Nat} {F : Nat → Nat} {i y : Nat} (hF : ∀ j, j < n → F j < n) (hi : i ≤ n) (hy : n ≤ y) : (prvN (bagN q n F) i).testBit y = false := by
  cases i with
  | zero => simp [prvN]
  | succ i => exact bagN_hi (hF i (by omega)) hy
theorem prvN_lt {q : Nat → Nat → Bool} {n : Nat} {F : Nat → Nat} {i : Nat} (hn : n ≤ 11) (hF : ∀ j, j < n → F j < n) (hi : i ≤ n) : prvN (bagN q n F) i < 2 ^ 11 := by
  cases i with
  | zero => show 0 < 2 ^ 11; decide
  | succ i => exact bagN_lt hn (hF i (by omega))
theorem mvL_congr {base s t : Nat} : ∀ {k : Nat}, (∀ y, y < k → s.testBit y = t.testBit y) → mvL base s k = mvL base t k
  | 0, _ => rfl
  | k + 1, h => by rw [mvL, mvL, mvL_congr (fun y hy => h y (by omega)), h k (by omega)]
theorem planned_n {near posts : Nat → Int32} {B : Nat → Nat} {n : Nat} (hn : n ≤ 11) (hB : ∀ i, i < n → f_X2_bagOf (nI n) near posts (nI i) = some (nI (B i))) (hlt : ∀ i, i < n → B i < 2 ^ 11) (hp : ∀ i, i ≤ n → prvN B i < 2 ^ 11) : f_X10_plannedMoves (nI n) near (nI n) posts = some (nI (plN B n + pcN (prvN B n) 11)) := by
  unfold f_X10_plannedMoves
  have h : loopS (fun (s : Int32 × Int32 × Int32) => f_X10_plannedMoves_L6 (nI n) near (nI n) posts s.1 s.2.1 s.2.2) ((0 : Int32), (0 : Int32), (0 : Int32)) = some (nI (plN B n), nI (prvN B n)) := by
    refine loop_go (fun i => (nI (plN B i), nI (prvN B i), nI i)) n (by show _ = (nI 0, nI 0, nI 0); rfl) (fun i hi => ?_) ?_
    · try dsimp only
      unfold f_X10_plannedMoves_L6
      have hx : prvN B i ^^^ B i < 2 ^ 11 := Nat.xor_lt_two_pow (hp i (by omega)) (hlt i hi)
      rw [if_neg (nI_ge hi (by omega)), hB i hi, nI_1, Option.bind_some, xor_n, bitCount_n _ hx, Option.bind_some, nI_add]
      rfl
    · try dsimp only
      unfold f_X10_plannedMoves_L6
      rw [if_pos (nI_le (Nat.le_refl n) (by omega))]
  rw [h, b2_s, bitCount_n _ (hp n (Nat.le_refl n)), Option.bind_some, nI_add]
theorem planC_n {near posts r0 : Nat → Int32} {B : Nat → Nat} {n : Nat} (hn : n ≤ 11) (hB : ∀ i, i < n → f_X2_bagOf (nI n) near posts (nI i) = some (nI (B i))) (hlt : ∀ i, i < n → B i < 2 ^ 11) (hp : ∀ i, i ≤ n → prvN B i < 2 ^ 11) (hl : ∀ i, i ≤ n → plN B i ≤ 22) : loopS (fun (s : Int32 × Int32 × Int32 × (Nat → Int32)) => f_X10_plan_L44 (nI n) near (nI n) posts s.1 s.2.1 s.2.2.1 s.2.2.2) ((0 : Int32), (0 : Int32), (0 : Int32), r0) = some (nI (prvN B n), nI (planL B n).length, wrL r0 (planL B n)) := by
  refine loop_go (fun i => (nI (prvN B i), nI i, nI (planL B i).length, wrL r0 (planL B i))) n ?_ (fun i hi => ?_) ?_
  · show _ = (nI 0, nI 0, nI 0, wrL r0 [])
    rw [wrL_0]
    rfl
  · try dsimp only
    unfold f_X10_plan_L44
    have h1 := hl (i + 1) (by omega)
    rw [plN, pcN_xor (by omega)] at h1
    have h2 := planL_len B i
    have h3 := hp i (by omega)
    have h4 := hlt i hi
    have h5 := dif_le (prvN B i) (B i)
    have h6 := dif_le (B i) (prvN B i)
    rw [if_neg (nI_ge hi (by omega)), hB i hi, nI_1, Option.bind_some, difI, difI, appendAll_n (base := 100) (bI := (100 : Int32)) rfl (by omega) (by omega)]
    simp only [b2, Option.bind_some]
    rw [appendAll_n (base := 0) (bI := (0 : Int32)) rfl (by omega) (by rw [List.length_append, mvL_len]; omega)]
    rfl
  · try dsimp only
    unfold f_X10_plan_L44
    rw [if_pos (nI_le (Nat.le_refl n) (by omega))]
theorem planM_n {wide places weights row r0 : Nat → Int32} {B : Nat → Nat} {n : Nat} (hn : n ≤ 11) (hB : ∀ i, i < n → f_X11_bagOf (nI n) wide places weights row (nI i) = some (nI (B i))) (hlt : ∀ i, i < n → B i < 2 ^ 11) (hp : ∀ i, i ≤ n → prvN B i < 2 ^ 11) (hhi : ∀ i y, i < n → n ≤ y → (B i).testBit y = false) (hphi : ∀ i y, i ≤ n → n ≤ y → (prvN B i).testBit y = false) (hl : ∀ i, i ≤ n → plN B i ≤ 22) : loopS (fun (s : Int32 × Int32 × Int32 × (Nat → Int32)) => f_X11_plan_L24 (nI n) (nI n) wide places weights row s.1 s.2.1 s.2.2.1 s.2.2.2) ((0 : Int32), (0 : Int32), (0 : Int32), r0) = some (nI (planL B n ++ mvL 100 (prvN B n) 11).length, wrL r0 (planL B n ++ mvL 100 (prvN B n) 11)) := by
  have hmono : ∀ s, pcN s n ≤ pcN s 11 := fun s => by
    have e : ∀ m, n ≤ m → pcN s n ≤ pcN s m := fun m => by
      induction m with
      | zero => intro h; have : n = 0 := by omega
                rw [this]; exact Nat.le_refl _
      | succ m ih =>
        intro h
        rcases Nat.lt_or_ge n (m + 1) with h3 | h3
        · have := ih (by omega)
          rw [pcN.eq_2 s m]
          omega
        · have : n = m + 1 := by omega
          rw [this]
          exact Nat.le_refl _
    exact e 11 hn
  refine loop_go (fun i => if i ≤ n then (nI (prvN B i), nI i, nI (planL B i).length, wrL r0 (planL B i)) else (nI 0, nI (n + 1), nI (planL B n ++ mvL 100 (prvN B n) 11).length, wrL r0 (planL B n ++ mvL 100 (prvN B n) 11))) (n + 1) ?_ (fun i hi => ?_) ?_
  · rw [if_pos (Nat.zero_le n)]
    show _ = (nI 0, nI 0, nI 0, wrL r0 [])
    rw [wrL_0]
    rfl
  · rw [if_pos (show i ≤ n by omega)]
    try dsimp only
    unfold f_X11_plan_L24
    have h2 := planL_len B i
    have h3 := hp i (by omega)
    have h5 := hl i (by omega)
    rw [if_neg (nI_nlt (by omega) (by omega)), nI_1]
    by_cases hin : i < n
    · have h1 := hl (i + 1) (by omega)
      rw [plN, pcN_xor (by omega)] at h1
      have h4 := hlt i hin
      have m1 := hmono (dif (prvN B i) (B i))
      have m2 := hmono (dif (B i) (prvN B i))
      rw [if_neg (nI_ge hin (by omega)), hB i hin]
      simp only [Option.bind_some]
      rw [planGo_n hn (by omega) (by omega) (by omega)]
      simp only [b2, Option.bind_some]
      rw [planCome_n hn (by omega) (by omega) (by rw [List.length_append, mvL_len]; omega)]
      simp only [Option.bind_some]
      rw [if_pos (show i + 1 ≤ n by omega), planL, mvL_stop (n := n) (m := 11) (fun y hy hy2 => by rw [dif_tb (by omega), hphi i y (by omega) hy]; rfl) hn (Nat.le_refl 11), mvL_stop (n := n) (m := 11) (fun y hy hy2 => by rw [dif_tb (by omega), hhi i y hin hy]; rfl) hn (Nat.le_refl 11)]
      rfl
    · have ein : i = n := by omega
      subst ein
      have m1 := hmono (dif (prvN B i) 0)
      have m3 := pcN_le11 (dif (prvN B i) 0) 11
      have m4 := pcN_le11 (dif 0 (prvN B i)) i
      rw [if_pos (nI_le (Nat.le_refl i) (by omega))]
      simp only [Option.bind_some]
      rw [show loopS (fun (t : Int32 × Int32 × (Nat → Int32)) => f_X11_plan_L53 (nI (prvN B i)) (0 : Int32) (nI i) t.1 t.2.1 t.2.2) ((0 : Int32), nI (planL B i).length, wrL r0 (planL B i)) = _ from planGo_n (now := 0) hn (by omega) (by decide) (by omega)]
      simp only [b2, Option.bind_some]
      rw [show loopS (fun (t : Int32 × Int32 × (Nat → Int32)) => f_X11_plan_L113 (nI (prvN B i)) (0 : Int32) (nI i) t.1 t.2.1 t.2.2) ((0 : Int32), nI (planL B i ++ mvL 100 (dif (prvN B i) 0) i).length, wrL r0 (planL B i ++ mvL 100 (dif (prvN B i) 0) i)) = _ from planCome_n (now := 0) hn (by omega) (by decide) (by rw [List.length_append, mvL_len]; omega)]
      simp only [Option.bind_some]
      have z1 : mvL 0 (dif 0 (prvN B i)) i = [] := mvL_stop (n := 0) (m := i) (fun y hy hy2 => by rw [dif_tb (by omega)]; simp) (by omega) hn
      have z2 : mvL 100 (dif (prvN B i) 0) i = mvL 100 (prvN B i) 11 := by
        rw [mvL_stop (s := prvN B i) (n := i) (m := 11) (fun y hy hy2 => hphi i y (Nat.le_refl i) hy) hn (Nat.le_refl 11)]
        exact mvL_congr (fun y hy => by rw [dif_tb (by omega)]; simp)
      rw [if_neg (show ¬ i + 1 ≤ i by omega), z1, z2, List.append_nil]
      rfl
  · rw [if_neg (show ¬ n + 1 ≤ n by omega)]
    try dsimp only
    unfold f_X11_plan_L24
    rw [if_pos (nI_lt (by omega) (by omega))]
theorem l2_plan (x_x_net_posts : Int32) (x_x_net_pairs : Int32) (x_x_net_widths : Nat → Int32) (x_x_net_lengths : Nat → Int32) (x_x_net_told : Nat → Int32) (x_x_net_behind : Nat → Int32) (x_x_view_posts : Int32) (x_x_view_roads : Int32) (x_x_view_weight : Int32) (x_x_view_weights : Nat → Int32) (x_x_view_near : Nat → Int32) (x_x_view_behind : Nat → Int32) (x_x_view_ahead : Nat → Int32) (x_x_history_oldest : Int32) (x_x_history_size : Int32) (x_x_history_kept_posts : Nat → Int32) (x_x_history_kept_pairs : Nat → Int32) (x_x_history_kept_widths : Nat → Nat → Int32) (x_x_history_kept_lengths : Nat → Nat → Int32) (x_x_history_kept_told : Nat → Nat → Int32) (x_x_history_kept_behind : Nat → Nat → Int32) (x_x_hand_size : Int32) (x_x_hand_posts : Nat → Int32) (x_x_trial_size : Int32) (x_x_trial_posts : Nat → Int32) (x_x_bags_size : Int32) (x_x_bags_sets : Nat → Int32) (x_x_chase_size : Int32) (x_x_chase_guarded : Int32) (x_x_chase_most : Int32) (x_x_chase_again : Int32) (x_x_chase_idle : Int32) (x_x_chase_moves : Nat → Int32) (x_x_chase_foul : Nat → Int32) (x_x_sets_solvedFor : Int32) (x_x_sets_lowest : Int32) (x_x_sets_total : Int32) (x_x_sets_pricedFor : Int32) (x_x_sets_prices : Nat → Int32) (x_x_sets_rests : Nat → Int32) (x_x_sets_ways : Nat → Int32) (x_x_trials_solvedFor : Int32) (x_x_trials_lowest : Int32) (x_x_trials_total : Int32) (x_x_trials_found : Nat → Int32) (x_x_trials_row_size : Int32) (x_x_trials_row_posts : Nat → Int32) (x_m_thrown : Int32) (x_m_posts : Int32) (x_m_pairs : Int32) (x_m_keptEnd : Int32) (x_m_kept : Int32) (x_m_many : Int32) (x_m_bags : Int32) (x_m_moves : Int32) (x_m_pen : Int32) (x_m_savedMany : Int32) (x_m_leastRow : Int32) (x_m_bestRows : Int32) (x_m_askedRow : Int32) (x_m_rankOfSaved : Int32) (x_m_wallSet : Int32) (x_m_fouledAgain : Int32) (x_m_wide : Nat → Int32) (x_m_places : Nat → Int32) (x_m_weights : Nat → Int32) (x_m_pair : Nat → Int32) (x_m_old : Nat → Int32) (x_m_row : Nat → Int32) (x_m_bag : Nat → Int32) (x_m_hunt : Nat → Int32) (x_m_behind : Nat → Int32) (x_m_least : Nat → Int32) (x_m_ways : Nat → Int32) (x_m_saved : Nat → Int32) (x_m_kth : Nat → Int32) (x_m_clean : Nat → Int32) (h : Rel x_x_net_posts x_x_net_pairs x_x_net_widths x_x_net_lengths x_x_net_told x_x_net_behind x_x_view_posts x_x_view_roads x_x_view_weight x_x_view_weights x_x_view_near x_x_view_behind x_x_view_ahead x_x_history_oldest x_x_history_size x_x_history_kept_posts x_x_history_kept_pairs x_x_history_kept_widths x_x_history_kept_lengths x_x_history_kept_told x_x_history_kept_behind x_x_hand_size x_x_hand_posts x_x_trial_size x_x_trial_posts x_x_bags_size x_x_bags_sets x_x_chase_size x_x_chase_guarded x_x_chase_most x_x_chase_again x_x_chase_idle x_x_chase_moves x_x_chase_foul x_x_sets_solvedFor x_x_sets_lowest x_x_sets_total x_x_sets_pricedFor x_x_sets_prices x_x_sets_rests x_x_sets_ways x_x_trials_solvedFor x_x_trials_lowest x_x_trials_total x_x_trials_found x_x_trials_row_size x_x_trials_row_posts x_m_thrown x_m_posts x_m_pairs x_m_keptEnd x_m_kept x_m_many x_m_bags x_m_moves x_m_pen x_m_savedMany x_m_leastRow x_m_bestRows x_m_askedRow x_m_rankOfSaved x_m_wallSet x_m_fouledAgain x_m_wide x_m_places x_m_weights x_m_pair x_m_old x_m_row x_m_bag x_m_hunt x_m_behind x_m_least x_m_ways x_m_saved x_m_kth x_m_clean) : ∃ (r : Int32) (o_x_chase_size : Int32) (o_x_chase_moves : Nat → Int32) (o_m_thrown : Int32) (o_m_moves : Int32) (o_m_hunt : Nat → Int32), f_X10_plan x_x_net_posts x_x_view_posts x_x_view_near x_x_hand_size x_x_hand_posts x_x_chase_size x_x_chase_moves = some (r, o_x_chase_size, o_x_chase_moves) ∧ f_X11_plan x_m_thrown x_m_posts x_m_many x_m_moves x_m_wide x_m_places x_m_weights x_m_row x_m_hunt = some (r, o_m_thrown, o_m_moves, o_m_hunt) ∧ Rel x_x_net_posts x_x_net_pairs x_x_net_widths x_x_net_lengths x_x_net_told x_x_net_behind x_x_view_posts x_x_view_roads x_x_view_weight x_x_view_weights x_x_view_near x_x_view_behind x_x_view_ahead x_x_history_oldest x_x_history_size x_x_history_kept_posts x_x_history_kept_pairs x_x_history_kept_widths x_x_history_kept_lengths x_x_history_kept_told x_x_history_kept_behind x_x_hand_size x_x_hand_posts x_x_trial_size x_x_trial_posts x_x_bags_size x_x_bags_sets o_x_chase_size x_x_chase_guarded x_x_chase_most x_x_chase_again x_x_chase_idle o_x_chase_moves x_x_chase_foul x_x_sets_solvedFor x_x_sets_lowest x_x_sets_total x_x_sets_pricedFor x_x_sets_prices x_x_sets_rests x_x_sets_ways x_x_trials_solvedFor x_x_trials_lowest x_x_trials_total x_x_trials_found x_x_trials_row_size x_x_trials_row_posts o_m_thrown x_m_posts x_m_pairs x_m_keptEnd x_m_kept x_m_many x_m_bags o_m_moves x_m_pen x_m_savedMany x_m_leastRow x_m_bestRows x_m_askedRow x_m_rankOfSaved x_m_wallSet x_m_fouledAgain x_m_wide x_m_places x_m_weights x_m_pair x_m_old x_m_row x_m_bag o_m_hunt x_m_behind x_m_least x_m_ways x_m_saved x_m_kth x_m_clean := by
  obtain ⟨n, h1, h2, h3, h4, h5, h6, h7, h8⟩ := h
  have hn : n ≤ 11 := h1.1
  have ep := h1.2.1
  have em := h1.2.2.1
  subst ep
  subst em
  have d10 : ¬ (1 : Int32) = 0 := by decide
  obtain ⟨k, F, hk, e1, e2, e3, e4, e5⟩ := RowR_nums h4
  have ev := h2.1
  obtain ⟨hm1, hm2⟩ := near_mk hn h2.2.2.2.2.1
  cases hw : (decide (k = n) && allLt F n k) with
  | false =>
    refine ⟨(-4 : Int32), x_x_chase_size, x_x_chase_moves, 0, x_m_moves, x_m_hunt, ?_, ?_, Rel_mk h1 h2 h3 h4 h5 h6 h7 h8⟩
    · unfold f_X10_plan
      rw [e1, isWholeC_n hk hn e3, hw]
      rfl
    · unfold f_X11_plan
      rw [e2, isWholeM_n hk hn e4 e5, hw]
      rfl
  | true =>
    have hw2 := hw
    rw [Bool.and_eq_true, decide_eq_true_eq, allLt_iff] at hw2
    obtain ⟨hkn, hlt⟩ := hw2
    subst hkn
    have hB1 : ∀ i, i < k → f_X2_bagOf (nI k) x_x_view_near x_x_hand_posts (nI i) = some (nI (bagN (rdQ (rdM x_m_wide x_m_places x_m_weights)) k F i)) := fun i hi => by
      rw [bagC_n hn (by omega) (fun j hj => e3 j (by omega)) hm1, outM_congr hm2]
      rfl
    have hB2 : ∀ i, i < k → f_X11_bagOf (nI k) x_m_wide x_m_places x_m_weights x_m_row (nI i) = some (nI (bagN (rdQ (rdM x_m_wide x_m_places x_m_weights)) k F i)) := fun i hi => bagM_n hn (by omega) (fun j hj => e4 j (by omega))
    have hlt1 : ∀ i, i < k → bagN (rdQ (rdM x_m_wide x_m_places x_m_weights)) k F i < 2 ^ 11 := fun i hi => bagN_lt hn (hlt i hi)
    have hp1 : ∀ i, i ≤ k → prvN (bagN (rdQ (rdM x_m_wide x_m_places x_m_weights)) k F) i < 2 ^ 11 := fun i hi => prvN_lt hn hlt hi
    have hl : ∀ i, i ≤ k → plN (bagN (rdQ (rdM x_m_wide x_m_places x_m_weights)) k F) i ≤ 22 := fun i hi => by
      rw [plan_sum hn hlt e5 hi]
      have a1 := pcN_le11 (setM F i) 11
      have a2 := pcN_le11 (dif (setM F i) (prvN (bagN (rdQ (rdM x_m_wide x_m_places x_m_weights)) k F) i)) 11
      omega
    have hl2 := hl k (Nat.le_refl k)
    have hp2 := pcN_le11 (prvN (bagN (rdQ (rdM x_m_wide x_m_places x_m_weights)) k F) k) 11
    have hln := planL_len (bagN (rdQ (rdM x_m_wide x_m_places x_m_weights)) k F) k
    have hp3 := hp1 k (Nat.le_refl k)
    have hM := planM_n (r0 := x_m_hunt) hn hB2 hlt1 hp1 (fun i y hi hy => bagN_hi (hlt i hi) hy) (fun i y hi hy => prvN_hi hlt hi hy) hl
    have hC := planC_n (r0 := x_x_chase_moves) hn hB1 hlt1 hp1 hl
    have hP := planned_n hn hB1 hlt1 hp1
    have hA := appendAll_n (r0 := x_x_chase_moves) (L := planL (bagN (rdQ (rdM x_m_wide x_m_places x_m_weights)) k F) k) (s := prvN (bagN (rdQ (rdM x_m_wide x_m_places x_m_weights)) k F) k) (base := 100) (bI := (100 : Int32)) rfl (by omega) (by omega)
    have hH : HuntR (nI (planL (bagN (rdQ (rdM x_m_wide x_m_places x_m_weights)) k F) k ++ mvL 100 (prvN (bagN (rdQ (rdM x_m_wide x_m_places x_m_weights)) k F) k) 11).length) (nI (planL (bagN (rdQ (rdM x_m_wide x_m_places x_m_weights)) k F) k ++ mvL 100 (prvN (bagN (rdQ (rdM x_m_wide x_m_places x_m_weights)) k F) k) 11).length) (wrL x_x_chase_moves (planL (bagN (rdQ (rdM x_m_wide x_m_places x_m_weights)) k F) k ++ mvL 100 (prvN (bagN (rdQ (rdM x_m_wide x_m_places x_m_weights)) k F) k) 11)) (wrL x_m_hunt (planL (bagN (rdQ (rdM x_m_wide x_m_places x_m_weights)) k F) k ++ mvL 100 (prvN (bagN (rdQ (rdM x_m_wide x_m_places x_m_weights)) k F) k) 11)) := by
      refine ⟨_, ?_, rfl, rfl, fun j hj => ?_⟩
      · rw [List.length_append, mvL_len]
        omega
      · rw [wrL_at hj, wrL_at hj]
        refine ⟨rfl, _, ?_, rfl⟩
        rcases List.mem_append.mp (List.getElem_mem hj) with h | h
        · exact planL_ok _ h
        · obtain ⟨q, q1, q2⟩ := mvL_ok h
          right; omega
    refine ⟨nI (planL (bagN (rdQ (rdM x_m_wide x_m_places x_m_weights)) k F) k ++ mvL 100 (prvN (bagN (rdQ (rdM x_m_wide x_m_places x_m_weights)) k F) k) 11).length, _, _, 0, _, _, ?_, ?_, Rel_mk h1 h2 h3 h4 h5 hH h7 h8⟩
    · unfold f_X10_plan
      rw [e1, isWholeC_n hk hn e3, hw, ev, hP]
      simp only [Option.bind_some, b2I, if_true, if_neg d10]
      rw [if_pos (show nI _ ≤ (60 : Int32) from nI_le (b := 60) (by omega) (by decide)), hC]
      simp only [Option.bind_some, b3]
      rw [hA]
      rfl
    · unfold f_X11_plan
      rw [e2, isWholeM_n hk hn e4 e5, hw, hM]
      simp only [Option.bind_some, b2I, if_true, if_neg d10]
      rfl
