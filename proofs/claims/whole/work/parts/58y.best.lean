theorem l2_best (x_x_net_posts : Int32) (x_x_net_pairs : Int32) (x_x_net_widths : Nat → Int32) (x_x_net_lengths : Nat → Int32) (x_x_net_told : Nat → Int32) (x_x_net_behind : Nat → Int32) (x_x_view_posts : Int32) (x_x_view_roads : Int32) (x_x_view_weight : Int32) (x_x_view_weights : Nat → Int32) (x_x_view_near : Nat → Int32) (x_x_view_behind : Nat → Int32) (x_x_view_ahead : Nat → Int32) (x_x_history_oldest : Int32) (x_x_history_size : Int32) (x_x_history_kept_posts : Nat → Int32) (x_x_history_kept_pairs : Nat → Int32) (x_x_history_kept_widths : Nat → Nat → Int32) (x_x_history_kept_lengths : Nat → Nat → Int32) (x_x_history_kept_told : Nat → Nat → Int32) (x_x_history_kept_behind : Nat → Nat → Int32) (x_x_hand_size : Int32) (x_x_hand_posts : Nat → Int32) (x_x_trial_size : Int32) (x_x_trial_posts : Nat → Int32) (x_x_bags_size : Int32) (x_x_bags_sets : Nat → Int32) (x_x_chase_size : Int32) (x_x_chase_guarded : Int32) (x_x_chase_most : Int32) (x_x_chase_again : Int32) (x_x_chase_idle : Int32) (x_x_chase_moves : Nat → Int32) (x_x_chase_foul : Nat → Int32) (x_x_sets_solvedFor : Int32) (x_x_sets_lowest : Int32) (x_x_sets_total : Int32) (x_x_sets_pricedFor : Int32) (x_x_sets_prices : Nat → Int32) (x_x_sets_rests : Nat → Int32) (x_x_sets_ways : Nat → Int32) (x_x_trials_solvedFor : Int32) (x_x_trials_lowest : Int32) (x_x_trials_total : Int32) (x_x_trials_found : Nat → Int32) (x_x_trials_row_size : Int32) (x_x_trials_row_posts : Nat → Int32) (x_m_thrown : Int32) (x_m_posts : Int32) (x_m_pairs : Int32) (x_m_keptEnd : Int32) (x_m_kept : Int32) (x_m_many : Int32) (x_m_bags : Int32) (x_m_moves : Int32) (x_m_pen : Int32) (x_m_savedMany : Int32) (x_m_leastRow : Int32) (x_m_bestRows : Int32) (x_m_askedRow : Int32) (x_m_rankOfSaved : Int32) (x_m_wallSet : Int32) (x_m_fouledAgain : Int32) (x_m_wide : Nat → Int32) (x_m_places : Nat → Int32) (x_m_weights : Nat → Int32) (x_m_pair : Nat → Int32) (x_m_old : Nat → Int32) (x_m_row : Nat → Int32) (x_m_bag : Nat → Int32) (x_m_hunt : Nat → Int32) (x_m_behind : Nat → Int32) (x_m_least : Nat → Int32) (x_m_ways : Nat → Int32) (x_m_saved : Nat → Int32) (x_m_kth : Nat → Int32) (x_m_clean : Nat → Int32) (a1 : Int32) (a2 : Int32) (h : Rel x_x_net_posts x_x_net_pairs x_x_net_widths x_x_net_lengths x_x_net_told x_x_net_behind x_x_view_posts x_x_view_roads x_x_view_weight x_x_view_weights x_x_view_near x_x_view_behind x_x_view_ahead x_x_history_oldest x_x_history_size x_x_history_kept_posts x_x_history_kept_pairs x_x_history_kept_widths x_x_history_kept_lengths x_x_history_kept_told x_x_history_kept_behind x_x_hand_size x_x_hand_posts x_x_trial_size x_x_trial_posts x_x_bags_size x_x_bags_sets x_x_chase_size x_x_chase_guarded x_x_chase_most x_x_chase_again x_x_chase_idle x_x_chase_moves x_x_chase_foul x_x_sets_solvedFor x_x_sets_lowest x_x_sets_total x_x_sets_pricedFor x_x_sets_prices x_x_sets_rests x_x_sets_ways x_x_trials_solvedFor x_x_trials_lowest x_x_trials_total x_x_trials_found x_x_trials_row_size x_x_trials_row_posts x_m_thrown x_m_posts x_m_pairs x_m_keptEnd x_m_kept x_m_many x_m_bags x_m_moves x_m_pen x_m_savedMany x_m_leastRow x_m_bestRows x_m_askedRow x_m_rankOfSaved x_m_wallSet x_m_fouledAgain x_m_wide x_m_places x_m_weights x_m_pair x_m_old x_m_row x_m_bag x_m_hunt x_m_behind x_m_least x_m_ways x_m_saved x_m_kth x_m_clean) : ∃ (r : Int32) (o_x_hand_size : Int32) (o_x_hand_posts : Nat → Int32) (o_x_sets_solvedFor : Int32) (o_x_sets_lowest : Int32) (o_x_sets_total : Int32) (o_x_sets_pricedFor : Int32) (o_x_sets_prices : Nat → Int32) (o_x_sets_rests : Nat → Int32) (o_x_sets_ways : Nat → Int32) (o_x_trials_solvedFor : Int32) (o_x_trials_lowest : Int32) (o_x_trials_total : Int32) (o_x_trials_found : Nat → Int32) (o_x_trials_row_size : Int32) (o_x_trials_row_posts : Nat → Int32) (o_m_thrown : Int32) (o_m_many : Int32) (o_m_savedMany : Int32) (o_m_leastRow : Int32) (o_m_bestRows : Int32) (o_m_askedRow : Int32) (o_m_rankOfSaved : Int32) (o_m_row : Nat → Int32) (o_m_least : Nat → Int32) (o_m_ways : Nat → Int32) (o_m_saved : Nat → Int32) (o_m_kth : Nat → Int32), f_X10_best x_x_net_posts x_x_view_posts x_x_view_weights x_x_view_near x_x_view_behind x_x_view_ahead x_x_hand_size x_x_hand_posts x_x_sets_solvedFor x_x_sets_lowest x_x_sets_total x_x_sets_pricedFor x_x_sets_prices x_x_sets_rests x_x_sets_ways x_x_trials_solvedFor x_x_trials_lowest x_x_trials_total x_x_trials_found x_x_trials_row_size x_x_trials_row_posts a1 a2 = some (r, o_x_hand_size, o_x_hand_posts, o_x_sets_solvedFor, o_x_sets_lowest, o_x_sets_total, o_x_sets_pricedFor, o_x_sets_prices, o_x_sets_rests, o_x_sets_ways, o_x_trials_solvedFor, o_x_trials_lowest, o_x_trials_total, o_x_trials_found, o_x_trials_row_size, o_x_trials_row_posts) ∧ f_X11_best x_m_thrown x_m_posts x_m_many x_m_savedMany x_m_leastRow x_m_bestRows x_m_askedRow x_m_rankOfSaved x_m_wide x_m_places x_m_weights x_m_pair x_m_row x_m_least x_m_ways x_m_saved x_m_kth a1 a2 = some (r, o_m_thrown, o_m_many, o_m_savedMany, o_m_leastRow, o_m_bestRows, o_m_askedRow, o_m_rankOfSaved, o_m_row, o_m_least, o_m_ways, o_m_saved, o_m_kth) ∧ Rel x_x_net_posts x_x_net_pairs x_x_net_widths x_x_net_lengths x_x_net_told x_x_net_behind x_x_view_posts x_x_view_roads x_x_view_weight x_x_view_weights x_x_view_near x_x_view_behind x_x_view_ahead x_x_history_oldest x_x_history_size x_x_history_kept_posts x_x_history_kept_pairs x_x_history_kept_widths x_x_history_kept_lengths x_x_history_kept_told x_x_history_kept_behind o_x_hand_size o_x_hand_posts x_x_trial_size x_x_trial_posts x_x_bags_size x_x_bags_sets x_x_chase_size x_x_chase_guarded x_x_chase_most x_x_chase_again x_x_chase_idle x_x_chase_moves x_x_chase_foul o_x_sets_solvedFor o_x_sets_lowest o_x_sets_total o_x_sets_pricedFor o_x_sets_prices o_x_sets_rests o_x_sets_ways o_x_trials_solvedFor o_x_trials_lowest o_x_trials_total o_x_trials_found o_x_trials_row_size o_x_trials_row_posts o_m_thrown x_m_posts x_m_pairs x_m_keptEnd x_m_kept o_m_many x_m_bags x_m_moves x_m_pen o_m_savedMany o_m_leastRow o_m_bestRows o_m_askedRow o_m_rankOfSaved x_m_wallSet x_m_fouledAgain x_m_wide x_m_places x_m_weights x_m_pair x_m_old o_m_row x_m_bag x_m_hunt x_m_behind o_m_least o_m_ways o_m_saved o_m_kth x_m_clean := by
  obtain ⟨n, h1, h2, h3, h4, h5, h6, h7, h8⟩ := h
  have hn : n ≤ 11 := h1.1
  have ep := h1.2.1
  have em := h1.2.2.1
  subst ep
  subst em
  have d10 : ¬ (1 : Int32) = 0 := by decide
  have ev := h2.1
  have hahead := h2.2.2.2.2.2.2
  have hpos : 0 < 2 ^ n := Nat.pow_pos (by decide)
  have hpw : 2 ^ n ≤ 2 ^ 11 := Nat.pow_le_pow_right (by decide) hn
  have d60 : ¬ (-6 : Int32) = 0 := by decide
  obtain ⟨kk, hkk, ek1, ek2, ek3, ek4⟩ := id h4
  obtain ⟨-, -, -, -, -, -, -, -, -, -, -, hpair, hrk⟩ := id h1
  have h01 : ∀ a b, a < 11 → b < 11 → x_m_pair (11 * a + b) = 0 ∨ x_m_pair (11 * a + b) = 1 := fun a b ha hb => by
    rcases hpair a b ha hb with z | ⟨z, -⟩
    · exact Or.inl z
    · exact Or.inr z
  by_cases hk0 : 0 ≤ a2
  · obtain ⟨K, hK, rfl⟩ := nI_of (Int32.not_lt.mpr hk0)
    rcases isCost_n a1 with ⟨c, hc, rfl, p1, p2⟩ | ⟨p1, p2, -⟩
    · have hrf := refusal_n hn hc p1
      have hlg := isLarge_n hn hc
      by_cases hr : c = 0 ∨ c = 4
      · by_cases h7n : 7 < n
        · refine ⟨(-6 : Int32), x_x_hand_size, x_x_hand_posts, x_x_sets_solvedFor, x_x_sets_lowest, x_x_sets_total, x_x_sets_pricedFor, x_x_sets_prices, x_x_sets_rests, x_x_sets_ways, x_x_trials_solvedFor, x_x_trials_lowest, x_x_trials_total, x_x_trials_found, x_x_trials_row_size, x_x_trials_row_posts, 0, x_m_many, x_m_savedMany, x_m_leastRow, x_m_bestRows, x_m_askedRow, x_m_rankOfSaved, x_m_row, x_m_least, x_m_ways, x_m_saved, x_m_kth, ?_, ?_, Rel_mk h1 h2 h3 h4 h5 h6 h7 h8⟩
          · unfold f_X10_best
            rw [if_pos hk0, hrf, if_pos ⟨hr, h7n⟩]
            simp only [Option.bind_some]
            rw [if_neg d60]
          · unfold f_X11_best
            rw [p2]
            simp only [Option.bind_some]
            rw [if_neg d10, if_pos hk0, hlg, if_pos ⟨hr, h7n⟩]
            simp only [Option.bind_some]
            rw [if_neg d10]
        · rw [if_neg (fun z => h7n z.2)] at hrf hlg
          obtain ⟨fd, rs2, rp2, t1, t2⟩ := trialC_n (weights := x_x_view_weights) (ahead := x_x_view_ahead) (rs := x_x_trials_row_size) (rp := x_x_trials_row_posts) (Cx_of h1) (show n ≤ 7 by omega) (VC_of hn h2 (NetR_pr h1)).1 hahead (NetR_pr h1) hr h8
          obtain ⟨row2, u1, u2⟩ := solveRows_n (n := n) (c := c) (sM := x_m_savedMany) (lR := x_m_leastRow) (bR := x_m_bestRows) (aR := x_m_askedRow) (rk := x_m_rankOfSaved) (ask := (nI K)) (row := x_m_row) (saved := x_m_saved) (kth := x_m_kth) (wide := x_m_wide) (places := x_m_places) (weights := x_m_weights) (pair := x_m_pair) (Cx_of h1) (show n ≤ 7 by omega) hrk h01 hr ek2 hkk
          have hcnt := p2_count (cst := rowC c n (fun x y => (rdM x_m_wide x_m_places x_m_weights x y).toNatClampNeg)) (m := (trialSt n (rdM x_m_wide x_m_places x_m_weights) (prQ x_m_pair) c).1) (n := n) (ask := (nI K)) (sb := decide (kk = n)) (sv := wrM x_m_saved 0 x_m_row 11) (B := (trialSt n (rdM x_m_wide x_m_places x_m_weights) (prQ x_m_pair) c).2) (st := (0, (-1 : Int32), x_m_kth)) (fun z hz => (trial_mem hn hz).2.2.2)
          rw [show ((0, (-1 : Int32), x_m_kth) : Nat × Int32 × (Nat → Int32)).1 = 0 from rfl, Nat.zero_add] at hcnt
          rw [hcnt] at u1
          have hsf : f_X10_searchFor (nI n) x_x_view_weights x_x_view_near x_x_view_behind x_x_view_ahead x_x_sets_solvedFor x_x_sets_lowest x_x_sets_total x_x_sets_pricedFor x_x_sets_prices x_x_sets_rests x_x_sets_ways x_x_trials_solvedFor x_x_trials_lowest x_x_trials_total x_x_trials_found x_x_trials_row_size x_x_trials_row_posts (nI c) = some (1, x_x_sets_solvedFor, x_x_sets_lowest, x_x_sets_total, x_x_sets_pricedFor, x_x_sets_prices, x_x_sets_rests, x_x_sets_ways, nI c, nI (trialSt n (rdM x_m_wide x_m_places x_m_weights) (prQ x_m_pair) c).1, nI (trialSt n (rdM x_m_wide x_m_places x_m_weights) (prQ x_m_pair) c).2.length, fd, rs2, rp2) := by
            unfold f_X10_searchFor
            rw [isBySpans_n hc, decide_eq_true hr]
            simp only [Option.bind_some, b2I, if_true]
            rw [if_neg d10, t1]
            rfl
          have hlen := trial_len (n := n) (c := c) (rd := (rdM x_m_wide x_m_places x_m_weights)) (pr := prQ x_m_pair) (by omega)
          by_cases hKl : K < (trialSt n (rdM x_m_wide x_m_places x_m_weights) (prQ x_m_pair) c).2.length
          · have hkth := (p2_kth (cst := rowC c n (fun x y => (rdM x_m_wide x_m_places x_m_weights x y).toNatClampNeg)) (m := (trialSt n (rdM x_m_wide x_m_places x_m_weights) (prQ x_m_pair) c).1) (n := n) (k := K) (sb := decide (kk = n)) (sv := wrM x_m_saved 0 x_m_row 11) (by omega) (B := (trialSt n (rdM x_m_wide x_m_places x_m_weights) (prQ x_m_pair) c).2) (st := (0, (-1 : Int32), x_m_kth)) (fun z hz => (trial_mem hn hz).2.2.2) (by show 0 + _ < _; omega)).2 (Nat.zero_le _) (by show K < 0 + _; omega)
            rw [show K - ((0, (-1 : Int32), x_m_kth) : Nat × Int32 × (Nat → Int32)).1 = K from rfl] at hkth
            have hmem : ((trialSt n (rdM x_m_wide x_m_places x_m_weights) (prQ x_m_pair) c).2[K]?).getD [] ∈ (trialSt n (rdM x_m_wide x_m_places x_m_weights) (prQ x_m_pair) c).2 := by
              rw [List.getElem?_eq_getElem hKl]
              exact List.getElem_mem hKl
            obtain ⟨m1, m2, m3, -⟩ := trial_mem hn hmem
            have hfk := t2 K hKl
            rw [hkth] at u1
            generalize ((trialSt n (rdM x_m_wide x_m_places x_m_weights) (prQ x_m_pair) c).2[K]?).getD [] = R0 at hmem m1 m2 m3 hfk u1
            have hpk := pickT_n (posts := x_x_hand_posts) (size := x_x_hand_size) (show n ≤ 7 by omega) (show K < 5040 by omega) m1 (fun p hp => by have := m2 p hp; omega) hfk
            have hRR := RowR_new (p1 := wrA x_x_hand_posts R0 n) (p2 := wrM row2 0 (wrA x_m_kth R0 n) n) hn m1 m2 m3 (fun j hj => wrA_at hj) (fun j hj => by rw [wr0_lt hj]; exact wrA_at hj)
            obtain ⟨rk2, u1⟩ : ∃ rk2, f_X11_solveRows (nI n) x_m_many x_m_savedMany x_m_leastRow x_m_bestRows x_m_askedRow x_m_rankOfSaved x_m_wide x_m_places x_m_weights x_m_pair x_m_row x_m_saved x_m_kth (nI c) (nI K) = some (x_m_many, x_m_many, nI (trialSt n (rdM x_m_wide x_m_places x_m_weights) (prQ x_m_pair) c).1, nI (trialSt n (rdM x_m_wide x_m_places x_m_weights) (prQ x_m_pair) c).2.length, (nI K), rk2, row2, wrM x_m_saved 0 x_m_row 11, (wrA x_m_kth R0 n)) := ⟨_, u1⟩
            refine ⟨nI n, nI n, wrA x_x_hand_posts R0 n, x_x_sets_solvedFor, x_x_sets_lowest, x_x_sets_total, x_x_sets_pricedFor, x_x_sets_prices, x_x_sets_rests, x_x_sets_ways, nI c, nI (trialSt n (rdM x_m_wide x_m_places x_m_weights) (prQ x_m_pair) c).1, nI (trialSt n (rdM x_m_wide x_m_places x_m_weights) (prQ x_m_pair) c).2.length, fd, rs2, rp2, 0, nI n, x_m_many, nI (trialSt n (rdM x_m_wide x_m_places x_m_weights) (prQ x_m_pair) c).1, nI (trialSt n (rdM x_m_wide x_m_places x_m_weights) (prQ x_m_pair) c).2.length, nI K, rk2, wrM row2 0 (wrA x_m_kth R0 n) n, x_m_least, x_m_ways, wrM x_m_saved 0 x_m_row 11, wrA x_m_kth R0 n, ?_, ?_, Rel_mk h1 h2 h3 hRR h5 h6 h7 (Or.inr ⟨c, hr, rfl, by omega, rfl, rfl, t2⟩)⟩
            · unfold f_X10_best
              rw [if_pos hk0, hrf, ev]
              simp only [Option.bind_some, if_true]
              rw [hsf]
              simp only [b14, Option.bind_some]
              rw [if_neg d10, if_pos (nI_lt hKl (by omega)), hpk]
              rfl
            · unfold f_X11_best
              rw [p2]
              simp only [Option.bind_some]
              rw [if_neg d10, if_pos hk0, hlg]
              simp only [Option.bind_some, if_true]
              rw [isByRows_n hc, decide_eq_true hr]
              simp only [Option.bind_some, b2I, if_true]
              rw [if_neg d10, u1]
              simp only [b9, Option.bind_some]
              rw [if_pos (nI_lt hKl (by omega)), copyKth_n hn]
              rfl
          · obtain ⟨rk2, kt2, u1⟩ : ∃ rk2 kt2, f_X11_solveRows (nI n) x_m_many x_m_savedMany x_m_leastRow x_m_bestRows x_m_askedRow x_m_rankOfSaved x_m_wide x_m_places x_m_weights x_m_pair x_m_row x_m_saved x_m_kth (nI c) (nI K) = some (x_m_many, x_m_many, nI (trialSt n (rdM x_m_wide x_m_places x_m_weights) (prQ x_m_pair) c).1, nI (trialSt n (rdM x_m_wide x_m_places x_m_weights) (prQ x_m_pair) c).2.length, (nI K), rk2, row2, wrM x_m_saved 0 x_m_row 11, kt2) := ⟨_, _, u1⟩
            refine ⟨(-1 : Int32), x_x_hand_size, x_x_hand_posts, x_x_sets_solvedFor, x_x_sets_lowest, x_x_sets_total, x_x_sets_pricedFor, x_x_sets_prices, x_x_sets_rests, x_x_sets_ways, nI c, nI (trialSt n (rdM x_m_wide x_m_places x_m_weights) (prQ x_m_pair) c).1, nI (trialSt n (rdM x_m_wide x_m_places x_m_weights) (prQ x_m_pair) c).2.length, fd, rs2, rp2, 0, x_m_many, x_m_many, nI (trialSt n (rdM x_m_wide x_m_places x_m_weights) (prQ x_m_pair) c).1, nI (trialSt n (rdM x_m_wide x_m_places x_m_weights) (prQ x_m_pair) c).2.length, nI K, rk2, row2, x_m_least, x_m_ways, wrM x_m_saved 0 x_m_row 11, kt2, ?_, ?_, Rel_mk h1 h2 h3 (RowR_row h4 u2) h5 h6 h7 (Or.inr ⟨c, hr, rfl, by omega, rfl, rfl, t2⟩)⟩
            · unfold f_X10_best
              rw [if_pos hk0, hrf, ev]
              simp only [Option.bind_some, if_true]
              rw [hsf]
              simp only [b14, Option.bind_some]
              rw [if_neg d10, if_neg (nI_nlt (by omega) hK)]
            · unfold f_X11_best
              rw [p2]
              simp only [Option.bind_some]
              rw [if_neg d10, if_pos hk0, hlg]
              simp only [Option.bind_some, if_true]
              rw [isByRows_n hc, decide_eq_true hr]
              simp only [Option.bind_some, b2I, if_true]
              rw [if_neg d10, u1]
              simp only [b9, Option.bind_some]
              rw [if_neg (nI_nlt (by omega) hK)]
      · rw [if_neg (fun z => hr z.1)] at hrf hlg
        have hcs : c = 1 ∨ c = 2 ∨ c = 3 ∨ c = 5 := by omega
        obtain ⟨lo2, to2, q, r, w2, R, W, L, V, k1, k2, k3, hR, hW, hq, hL, hV, e1, e2⟩ := sets_all h1 h2 h7 hcs x_m_least x_m_ways
        have hgo : ∀ s p, s < 2 ^ n → p < n → f_X11_goesOn (nI n) x_m_wide x_m_places x_m_weights x_m_pair L (nI c) (nI s) (nI p) (nI (tN c n R 0)) = some (b2I (stepM c q r (prQ x_m_pair) n s p)) := fun s p hs hp => goesOn_n (q := q) (Cx_of h1) hR h01 hq hcs hs hp hL
        have hlb := leastBySets_n hR priceN_all hn hc (hL 0 hpos)
        have hsf : f_X10_searchFor (nI n) x_x_view_weights x_x_view_near x_x_view_behind x_x_view_ahead x_x_sets_solvedFor x_x_sets_lowest x_x_sets_total x_x_sets_pricedFor x_x_sets_prices x_x_sets_rests x_x_sets_ways x_x_trials_solvedFor x_x_trials_lowest x_x_trials_total x_x_trials_found x_x_trials_row_size x_x_trials_row_posts (nI c) = some (0, nI c, lo2, to2, nI (c13 c), q, r, w2, x_x_trials_solvedFor, x_x_trials_lowest, x_x_trials_total, x_x_trials_found, x_x_trials_row_size, x_x_trials_row_posts) := by
          unfold f_X10_searchFor
          rw [isBySpans_n hc, decide_eq_false hr]
          simp only [Option.bind_some, b2I, Bool.false_eq_true, if_false, if_true]
          rw [k1]
          rfl
        have hW0 := (hW.1 0 hpos).2
        have hf0 := fct_le (n - pcN 0 n) (by omega)
        by_cases hKl : K < W 0
        · have hbit : ∀ s p, stepM c q r (prQ x_m_pair) n s p = true → s.testBit p = false := fun s p hst => by
            unfold stepM at hst
            rw [Bool.and_eq_true, Bool.and_eq_true, Bool.not_eq_true'] at hst
            exact hst.1.1
          obtain ⟨-, -, -, o4, o5⟩ := pkS_ok hn hW hbit hKl (i := n) (Nat.le_refl n)
          have hpk := pickC_n (r0 := x_x_hand_posts) (size := x_x_hand_size) hn hc hahead (NetR_pr h1) hW hKl
          have hbm := bestM_n (r0 := x_m_row) hn hgo (hL 0 hpos) hV hW hKl
          have hRR := RowR_list (L := (pkS (stepM c q r (prQ x_m_pair) n) W n K n).2.2) (by rw [o4]; exact hn) (fun p hp => (o5.2.1 p hp).1) o5.2.2.1 x_x_hand_posts x_m_row
          refine ⟨nI n, nI (pkS (stepM c q r (prQ x_m_pair) n) W n K n).2.2.length, wrL x_x_hand_posts (pkS (stepM c q r (prQ x_m_pair) n) W n K n).2.2, nI c, lo2, to2, nI (c13 c), q, r, w2, x_x_trials_solvedFor, x_x_trials_lowest, x_x_trials_total, x_x_trials_found, x_x_trials_row_size, x_x_trials_row_posts, 0, nI (pkS (stepM c q r (prQ x_m_pair) n) W n K n).2.2.length, x_m_savedMany, x_m_leastRow, x_m_bestRows, x_m_askedRow, x_m_rankOfSaved, wrL x_m_row (pkS (stepM c q r (prQ x_m_pair) n) W n K n).2.2, L, V, x_m_saved, x_m_kth, ?_, ?_, Rel_mk h1 h2 h3 hRR h5 h6 k2 h8⟩
          · unfold f_X10_best
            rw [if_pos hk0, hrf, ev]
            simp only [Option.bind_some, if_true]
            rw [hsf]
            simp only [b14, Option.bind_some, if_true]
            rw [e2, if_pos (nI_lt hKl (by omega)), hpk]
            simp only [b2, Option.bind_some]
            rw [o4]
          · unfold f_X11_best
            rw [p2]
            simp only [Option.bind_some]
            rw [if_neg d10, if_pos hk0, hlg]
            simp only [Option.bind_some, if_true]
            rw [isByRows_n hc, decide_eq_false hr]
            simp only [Option.bind_some, b2I, Bool.false_eq_true, if_false, if_true]
            rw [k3]
            simp only [b2, Option.bind_some]
            rw [show gi V 2048 (0 : Int32) = some (V 0) from gi_n (k := 0) (by omega) (by omega), hV 0 hpos]
            simp only [Option.bind_some]
            rw [if_pos (nI_lt hKl (by omega)), hbm]
            rfl
        · refine ⟨(-1 : Int32), x_x_hand_size, x_x_hand_posts, nI c, lo2, to2, nI (c13 c), q, r, w2, x_x_trials_solvedFor, x_x_trials_lowest, x_x_trials_total, x_x_trials_found, x_x_trials_row_size, x_x_trials_row_posts, 0, x_m_many, x_m_savedMany, x_m_leastRow, x_m_bestRows, x_m_askedRow, x_m_rankOfSaved, x_m_row, L, V, x_m_saved, x_m_kth, ?_, ?_, Rel_mk h1 h2 h3 h4 h5 h6 k2 h8⟩
          · unfold f_X10_best
            rw [if_pos hk0, hrf, ev]
            simp only [Option.bind_some, if_true]
            rw [hsf]
            simp only [b14, Option.bind_some, if_true]
            rw [e2, if_neg (nI_nlt (by omega) hK)]
          · unfold f_X11_best
            rw [p2]
            simp only [Option.bind_some]
            rw [if_neg d10, if_pos hk0, hlg]
            simp only [Option.bind_some, if_true]
            rw [isByRows_n hc, decide_eq_false hr]
            simp only [Option.bind_some, b2I, Bool.false_eq_true, if_false, if_true]
            rw [k3]
            simp only [b2, Option.bind_some]
            rw [show gi V 2048 (0 : Int32) = some (V 0) from gi_n (k := 0) (by omega) (by omega), hV 0 hpos]
            simp only [Option.bind_some]
            rw [if_neg (nI_nlt (by omega) hK)]
    · refine ⟨(-3 : Int32), x_x_hand_size, x_x_hand_posts, x_x_sets_solvedFor, x_x_sets_lowest, x_x_sets_total, x_x_sets_pricedFor, x_x_sets_prices, x_x_sets_rests, x_x_sets_ways, x_x_trials_solvedFor, x_x_trials_lowest, x_x_trials_total, x_x_trials_found, x_x_trials_row_size, x_x_trials_row_posts, 0, x_m_many, x_m_savedMany, x_m_leastRow, x_m_bestRows, x_m_askedRow, x_m_rankOfSaved, x_m_row, x_m_least, x_m_ways, x_m_saved, x_m_kth, ?_, ?_, Rel_mk h1 h2 h3 h4 h5 h6 h7 h8⟩
      · unfold f_X10_best f_X10_refusalOfSearch
        rw [if_pos hk0, p1]
        rfl
      · unfold f_X11_best
        rw [p2]
        rfl
  · refine ⟨(-3 : Int32), x_x_hand_size, x_x_hand_posts, x_x_sets_solvedFor, x_x_sets_lowest, x_x_sets_total, x_x_sets_pricedFor, x_x_sets_prices, x_x_sets_rests, x_x_sets_ways, x_x_trials_solvedFor, x_x_trials_lowest, x_x_trials_total, x_x_trials_found, x_x_trials_row_size, x_x_trials_row_posts, 0, x_m_many, x_m_savedMany, x_m_leastRow, x_m_bestRows, x_m_askedRow, x_m_rankOfSaved, x_m_row, x_m_least, x_m_ways, x_m_saved, x_m_kth, ?_, ?_, Rel_mk h1 h2 h3 h4 h5 h6 h7 h8⟩
    · unfold f_X10_best
      rw [if_neg hk0]
    · unfold f_X11_best
      rcases isCost_n a1 with ⟨c, hc, rfl, p1, p2⟩ | ⟨p1, p2, -⟩
      · rw [p2]
        simp only [Option.bind_some]
        rw [if_neg d10, if_neg hk0]
      · rw [p2]
        rfl
