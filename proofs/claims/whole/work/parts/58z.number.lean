theorem l2_number (x_x_net_posts : Int32) (x_x_net_pairs : Int32) (x_x_net_widths : Nat → Int32) (x_x_net_lengths : Nat → Int32) (x_x_net_told : Nat → Int32) (x_x_net_behind : Nat → Int32) (x_x_view_posts : Int32) (x_x_view_roads : Int32) (x_x_view_weight : Int32) (x_x_view_weights : Nat → Int32) (x_x_view_near : Nat → Int32) (x_x_view_behind : Nat → Int32) (x_x_view_ahead : Nat → Int32) (x_x_history_oldest : Int32) (x_x_history_size : Int32) (x_x_history_kept_posts : Nat → Int32) (x_x_history_kept_pairs : Nat → Int32) (x_x_history_kept_widths : Nat → Nat → Int32) (x_x_history_kept_lengths : Nat → Nat → Int32) (x_x_history_kept_told : Nat → Nat → Int32) (x_x_history_kept_behind : Nat → Nat → Int32) (x_x_hand_size : Int32) (x_x_hand_posts : Nat → Int32) (x_x_trial_size : Int32) (x_x_trial_posts : Nat → Int32) (x_x_bags_size : Int32) (x_x_bags_sets : Nat → Int32) (x_x_chase_size : Int32) (x_x_chase_guarded : Int32) (x_x_chase_most : Int32) (x_x_chase_again : Int32) (x_x_chase_idle : Int32) (x_x_chase_moves : Nat → Int32) (x_x_chase_foul : Nat → Int32) (x_x_sets_solvedFor : Int32) (x_x_sets_lowest : Int32) (x_x_sets_total : Int32) (x_x_sets_pricedFor : Int32) (x_x_sets_prices : Nat → Int32) (x_x_sets_rests : Nat → Int32) (x_x_sets_ways : Nat → Int32) (x_x_trials_solvedFor : Int32) (x_x_trials_lowest : Int32) (x_x_trials_total : Int32) (x_x_trials_found : Nat → Int32) (x_x_trials_row_size : Int32) (x_x_trials_row_posts : Nat → Int32) (x_m_thrown : Int32) (x_m_posts : Int32) (x_m_pairs : Int32) (x_m_keptEnd : Int32) (x_m_kept : Int32) (x_m_many : Int32) (x_m_bags : Int32) (x_m_moves : Int32) (x_m_pen : Int32) (x_m_savedMany : Int32) (x_m_leastRow : Int32) (x_m_bestRows : Int32) (x_m_askedRow : Int32) (x_m_rankOfSaved : Int32) (x_m_wallSet : Int32) (x_m_fouledAgain : Int32) (x_m_wide : Nat → Int32) (x_m_places : Nat → Int32) (x_m_weights : Nat → Int32) (x_m_pair : Nat → Int32) (x_m_old : Nat → Int32) (x_m_row : Nat → Int32) (x_m_bag : Nat → Int32) (x_m_hunt : Nat → Int32) (x_m_behind : Nat → Int32) (x_m_least : Nat → Int32) (x_m_ways : Nat → Int32) (x_m_saved : Nat → Int32) (x_m_kth : Nat → Int32) (x_m_clean : Nat → Int32) (a1 : Int32) (h : Rel x_x_net_posts x_x_net_pairs x_x_net_widths x_x_net_lengths x_x_net_told x_x_net_behind x_x_view_posts x_x_view_roads x_x_view_weight x_x_view_weights x_x_view_near x_x_view_behind x_x_view_ahead x_x_history_oldest x_x_history_size x_x_history_kept_posts x_x_history_kept_pairs x_x_history_kept_widths x_x_history_kept_lengths x_x_history_kept_told x_x_history_kept_behind x_x_hand_size x_x_hand_posts x_x_trial_size x_x_trial_posts x_x_bags_size x_x_bags_sets x_x_chase_size x_x_chase_guarded x_x_chase_most x_x_chase_again x_x_chase_idle x_x_chase_moves x_x_chase_foul x_x_sets_solvedFor x_x_sets_lowest x_x_sets_total x_x_sets_pricedFor x_x_sets_prices x_x_sets_rests x_x_sets_ways x_x_trials_solvedFor x_x_trials_lowest x_x_trials_total x_x_trials_found x_x_trials_row_size x_x_trials_row_posts x_m_thrown x_m_posts x_m_pairs x_m_keptEnd x_m_kept x_m_many x_m_bags x_m_moves x_m_pen x_m_savedMany x_m_leastRow x_m_bestRows x_m_askedRow x_m_rankOfSaved x_m_wallSet x_m_fouledAgain x_m_wide x_m_places x_m_weights x_m_pair x_m_old x_m_row x_m_bag x_m_hunt x_m_behind x_m_least x_m_ways x_m_saved x_m_kth x_m_clean) : ∃ (r : Int32) (o_x_sets_solvedFor : Int32) (o_x_sets_lowest : Int32) (o_x_sets_total : Int32) (o_x_sets_pricedFor : Int32) (o_x_sets_prices : Nat → Int32) (o_x_sets_rests : Nat → Int32) (o_x_sets_ways : Nat → Int32) (o_x_trials_solvedFor : Int32) (o_x_trials_lowest : Int32) (o_x_trials_total : Int32) (o_x_trials_found : Nat → Int32) (o_x_trials_row_size : Int32) (o_x_trials_row_posts : Nat → Int32) (o_m_thrown : Int32) (o_m_many : Int32) (o_m_savedMany : Int32) (o_m_leastRow : Int32) (o_m_bestRows : Int32) (o_m_askedRow : Int32) (o_m_rankOfSaved : Int32) (o_m_row : Nat → Int32) (o_m_least : Nat → Int32) (o_m_ways : Nat → Int32) (o_m_saved : Nat → Int32) (o_m_kth : Nat → Int32), f_X10_number x_x_net_posts x_x_view_posts x_x_view_weights x_x_view_near x_x_view_behind x_x_view_ahead x_x_hand_size x_x_hand_posts x_x_sets_solvedFor x_x_sets_lowest x_x_sets_total x_x_sets_pricedFor x_x_sets_prices x_x_sets_rests x_x_sets_ways x_x_trials_solvedFor x_x_trials_lowest x_x_trials_total x_x_trials_found x_x_trials_row_size x_x_trials_row_posts a1 = some (r, o_x_sets_solvedFor, o_x_sets_lowest, o_x_sets_total, o_x_sets_pricedFor, o_x_sets_prices, o_x_sets_rests, o_x_sets_ways, o_x_trials_solvedFor, o_x_trials_lowest, o_x_trials_total, o_x_trials_found, o_x_trials_row_size, o_x_trials_row_posts) ∧ f_X11_number x_m_thrown x_m_posts x_m_many x_m_savedMany x_m_leastRow x_m_bestRows x_m_askedRow x_m_rankOfSaved x_m_wide x_m_places x_m_weights x_m_pair x_m_row x_m_least x_m_ways x_m_saved x_m_kth a1 = some (r, o_m_thrown, o_m_many, o_m_savedMany, o_m_leastRow, o_m_bestRows, o_m_askedRow, o_m_rankOfSaved, o_m_row, o_m_least, o_m_ways, o_m_saved, o_m_kth) ∧ Rel x_x_net_posts x_x_net_pairs x_x_net_widths x_x_net_lengths x_x_net_told x_x_net_behind x_x_view_posts x_x_view_roads x_x_view_weight x_x_view_weights x_x_view_near x_x_view_behind x_x_view_ahead x_x_history_oldest x_x_history_size x_x_history_kept_posts x_x_history_kept_pairs x_x_history_kept_widths x_x_history_kept_lengths x_x_history_kept_told x_x_history_kept_behind x_x_hand_size x_x_hand_posts x_x_trial_size x_x_trial_posts x_x_bags_size x_x_bags_sets x_x_chase_size x_x_chase_guarded x_x_chase_most x_x_chase_again x_x_chase_idle x_x_chase_moves x_x_chase_foul o_x_sets_solvedFor o_x_sets_lowest o_x_sets_total o_x_sets_pricedFor o_x_sets_prices o_x_sets_rests o_x_sets_ways o_x_trials_solvedFor o_x_trials_lowest o_x_trials_total o_x_trials_found o_x_trials_row_size o_x_trials_row_posts o_m_thrown x_m_posts x_m_pairs x_m_keptEnd x_m_kept o_m_many x_m_bags x_m_moves x_m_pen o_m_savedMany o_m_leastRow o_m_bestRows o_m_askedRow o_m_rankOfSaved x_m_wallSet x_m_fouledAgain x_m_wide x_m_places x_m_weights x_m_pair x_m_old o_m_row x_m_bag x_m_hunt x_m_behind o_m_least o_m_ways o_m_saved o_m_kth x_m_clean := by
  obtain ⟨n, h1, h2, h3, h4, h5, h6, h7, h8⟩ := h
  have hn : n ≤ 11 := h1.1
  have ep := h1.2.1
  have em := h1.2.2.1
  subst ep
  subst em
  have d10 : ¬ (1 : Int32) = 0 := by decide
  have ev := h2.1
  have hahead := h2.2.2.2.2.2.2
  have hpos : 0 < 2 ^ n := Nat.pow_pos (by decide)
  have hpw : 2 ^ n ≤ 2 ^ 11 := Nat.pow_le_pow_right (by decide) hn
  have d60 : ¬ (-6 : Int32) = 0 := by decide
  obtain ⟨kk, hkk, ek1, ek2, ek3, ek4⟩ := id h4
  obtain ⟨-, -, -, -, -, -, -, -, -, -, -, hpair, hrk⟩ := id h1
  have h01 : ∀ a b, a < 11 → b < 11 → x_m_pair (11 * a + b) = 0 ∨ x_m_pair (11 * a + b) = 1 := fun a b ha hb => by
    rcases hpair a b ha hb with z | ⟨z, -⟩
    · exact Or.inl z
    · exact Or.inr z
  rcases isCost_n a1 with ⟨c, hc, rfl, p1, y2⟩ | ⟨p1, y2, -⟩
  · have hrf := refusal_n hn hc p1
    have hlg := isLarge_n hn hc
    obtain ⟨k, F, hk, f1, f2, f3, f4, f5⟩ := RowR_nums h4
    have hkk2 : kk = k := (nI_eq (by omega) (by omega)).mp (ek1.symm.trans f1)
    cases hw : (decide (k = n) && allLt F n k) with
    | false =>
      refine ⟨(-4 : Int32), x_x_sets_solvedFor, x_x_sets_lowest, x_x_sets_total, x_x_sets_pricedFor, x_x_sets_prices, x_x_sets_rests, x_x_sets_ways, x_x_trials_solvedFor, x_x_trials_lowest, x_x_trials_total, x_x_trials_found, x_x_trials_row_size, x_x_trials_row_posts, 0, x_m_many, x_m_savedMany, x_m_leastRow, x_m_bestRows, x_m_askedRow, x_m_rankOfSaved, x_m_row, x_m_least, x_m_ways, x_m_saved, x_m_kth, ?_, ?_, Rel_mk h1 h2 h3 h4 h5 h6 h7 h8⟩
      · unfold f_X10_number
        rw [p1, f1, isWholeC_n hk hn f3, hw]
        rfl
      · unfold f_X11_number
        rw [y2, f2, isWholeM_n hk hn f4 f5, hw]
        rfl
    | true =>
      have hwC := isWholeC_n hk hn f3
      have hwM := isWholeM_n hk hn f4 f5
      rw [hw] at hwC hwM
      rw [Bool.and_eq_true, decide_eq_true_eq, allLt_iff] at hw
      obtain ⟨hkn, hlt⟩ := hw
      subst hkn
      subst hkk2
      have cC : f_X5_isWhole x_x_hand_size x_x_hand_posts (nI kk) = some 1 := by rw [ek1]; exact hwC
      have cM : f_X11_isWhole (nI kk) x_m_many x_m_row = some 1 := by rw [ek2]; exact hwM
      by_cases hr : c = 0 ∨ c = 4
      · by_cases h7n : 7 < kk
        · refine ⟨(-6 : Int32), x_x_sets_solvedFor, x_x_sets_lowest, x_x_sets_total, x_x_sets_pricedFor, x_x_sets_prices, x_x_sets_rests, x_x_sets_ways, x_x_trials_solvedFor, x_x_trials_lowest, x_x_trials_total, x_x_trials_found, x_x_trials_row_size, x_x_trials_row_posts, 0, x_m_many, x_m_savedMany, x_m_leastRow, x_m_bestRows, x_m_askedRow, x_m_rankOfSaved, x_m_row, x_m_least, x_m_ways, x_m_saved, x_m_kth, ?_, ?_, Rel_mk h1 h2 h3 h4 h5 h6 h7 h8⟩
          · unfold f_X10_number
            rw [p1, cC]
            simp only [Option.bind_some]
            rw [if_neg d10, if_neg d10, hrf, if_pos ⟨hr, h7n⟩]
            simp only [Option.bind_some]
            rw [if_neg d60]
          · unfold f_X11_number
            rw [y2, cM]
            simp only [Option.bind_some]
            rw [if_neg d10, if_neg d10, hlg, if_pos ⟨hr, h7n⟩]
            simp only [Option.bind_some]
            rw [if_neg d10]
        · rw [if_neg (fun z => h7n z.2)] at hrf hlg
          obtain ⟨fd, rs2, rp2, t1, t2⟩ := trialC_n (weights := x_x_view_weights) (ahead := x_x_view_ahead) (rs := x_x_trials_row_size) (rp := x_x_trials_row_posts) (Cx_of h1) (show kk ≤ 7 by omega) (VC_of hn h2 (NetR_pr h1)).1 hahead (NetR_pr h1) hr h8
          obtain ⟨row2, u1, u2⟩ := solveRows_n (n := kk) (c := c) (sM := x_m_savedMany) (lR := x_m_leastRow) (bR := x_m_bestRows) (aR := x_m_askedRow) (rk := x_m_rankOfSaved) (ask := (-1 : Int32)) (row := x_m_row) (saved := x_m_saved) (kth := x_m_kth) (wide := x_m_wide) (places := x_m_places) (weights := x_m_weights) (pair := x_m_pair) (Cx_of h1) (show kk ≤ 7 by omega) hrk h01 hr ek2 hkk
          have hcnt := p2_count (cst := rowC c kk (fun x y => (rdM x_m_wide x_m_places x_m_weights x y).toNatClampNeg)) (m := (trialSt kk (rdM x_m_wide x_m_places x_m_weights) (prQ x_m_pair) c).1) (n := kk) (ask := (-1 : Int32)) (sb := decide (kk = kk)) (sv := wrM x_m_saved 0 x_m_row 11) (B := (trialSt kk (rdM x_m_wide x_m_places x_m_weights) (prQ x_m_pair) c).2) (st := (0, (-1 : Int32), x_m_kth)) (fun z hz => (trial_mem hn hz).2.2.2)
          rw [show ((0, (-1 : Int32), x_m_kth) : Nat × Int32 × (Nat → Int32)).1 = 0 from rfl, Nat.zero_add] at hcnt
          rw [hcnt] at u1
          have hsf : f_X10_searchFor (nI kk) x_x_view_weights x_x_view_near x_x_view_behind x_x_view_ahead x_x_sets_solvedFor x_x_sets_lowest x_x_sets_total x_x_sets_pricedFor x_x_sets_prices x_x_sets_rests x_x_sets_ways x_x_trials_solvedFor x_x_trials_lowest x_x_trials_total x_x_trials_found x_x_trials_row_size x_x_trials_row_posts (nI c) = some (1, x_x_sets_solvedFor, x_x_sets_lowest, x_x_sets_total, x_x_sets_pricedFor, x_x_sets_prices, x_x_sets_rests, x_x_sets_ways, nI c, nI (trialSt kk (rdM x_m_wide x_m_places x_m_weights) (prQ x_m_pair) c).1, nI (trialSt kk (rdM x_m_wide x_m_places x_m_weights) (prQ x_m_pair) c).2.length, fd, rs2, rp2) := by
            unfold f_X10_searchFor
            rw [isBySpans_n hc, decide_eq_true hr]
            simp only [Option.bind_some, b2I, if_true]
            rw [if_neg d10, t1]
            rfl
          have hlen := trial_len (n := kk) (c := c) (rd := (rdM x_m_wide x_m_places x_m_weights)) (pr := prQ x_m_pair) (by omega)
          rw [show decide (kk = kk) = true from decide_eq_true rfl] at u1
          have hH8 : ∀ p, p ∈ listF F kk → p < 8 := fun p hp => by
            obtain ⟨j, hj, e⟩ := List.mem_map.mp hp
            have := hlt j (List.mem_range.mp hj)
            omega
          have hcode : ∀ X : List Nat, X.length = kk → (∀ p, p ∈ X → p < 8) → codeL X < 2 ^ 31 := fun X h9 h10 => by
            have q1 := cF_lt (G := atL X) (m := X.length) (fun j hj => h10 _ (atL_mem hj))
            have q2 : 8 ^ X.length ≤ 8 ^ 7 := Nat.pow_le_pow_right (by decide) (by omega)
            rw [codeL_cF]
            omega
          have hnum := numberT_n (posts := x_x_hand_posts) (H := listF F kk) rfl hlen t2 (by rw [listF_len]; omega) hH8 (fun j hj => by rw [listF_len] at hj; rw [listF_at hj]; exact (f3 j hj).1) (fun z hz => hcode z (trial_mem hn hz).1 (fun p hp => by have := (trial_mem hn hz).2.1 p hp; omega)) (hcode _ (listF_len F kk) hH8)
          rw [listF_len] at hnum
          have hget : ∀ j, j < (trialSt kk (rdM x_m_wide x_m_places x_m_weights) (prQ x_m_pair) c).2.length → ((trialSt kk (rdM x_m_wide x_m_places x_m_weights) (prQ x_m_pair) c).2[j]?).getD [] ∈ (trialSt kk (rdM x_m_wide x_m_places x_m_weights) (prQ x_m_pair) c).2 := fun j hj => by
            rw [List.getElem?_eq_getElem hj]
            exact List.getElem_mem hj
          have hsame : ∀ j, j < (trialSt kk (rdM x_m_wide x_m_places x_m_weights) (prQ x_m_pair) c).2.length → sameB (wrM x_m_saved 0 x_m_row 11) (((trialSt kk (rdM x_m_wide x_m_places x_m_weights) (prQ x_m_pair) c).2[j]?).getD []) kk = decide (codeL (((trialSt kk (rdM x_m_wide x_m_places x_m_weights) (prQ x_m_pair) c).2[j]?).getD []) = codeL (listF F kk)) := fun j hj => by
            obtain ⟨m1, m2, -, -⟩ := trial_mem hn (hget j hj)
            generalize ((trialSt kk (rdM x_m_wide x_m_places x_m_weights) (prQ x_m_pair) c).2[j]?).getD [] = R0 at m1 m2
            have hall : (∀ i, i < kk → atL R0 i = F i) ↔ codeL R0 = codeL (listF F kk) := by
              rw [codeL_cF, codeL_cF, m1, listF_len]
              constructor
              · intro h9
                have hcg : ∀ m, m ≤ kk → cF (atL R0) 0 0 m = cF (atL (listF F kk)) 0 0 m := fun m => by
                  induction m with
                  | zero => intro _; rfl
                  | succ m ih =>
                    intro hm
                    rw [cF, cF, ih (by omega), Nat.zero_add, h9 m (by omega), listF_at (by omega)]
                exact hcg kk (Nat.le_refl kk)
              · intro h9 i hi
                have := cF_inj (m := kk) (fun j hj => by have := m2 _ (atL_mem (show j < R0.length by omega)); omega) (fun j hj => hH8 _ (atL_mem (by rw [listF_len]; exact hj))) h9 i hi
                rw [this, listF_at hi]
            have hsv : ∀ i, i < kk → (nI (atL R0 i) = wrM x_m_saved 0 x_m_row 11 i ↔ atL R0 i = F i) := fun i hi => by
              have q1 := m2 _ (atL_mem (show i < R0.length by omega))
              have q2 := hlt i hi
              rw [wr0_lt (by omega), (f4 i hi).1]
              exact nI_eq (by omega) (by omega)
            have hiff : sameB (wrM x_m_saved 0 x_m_row 11) R0 kk = true ↔ codeL R0 = codeL (listF F kk) := by
              rw [sameB_iff, ← hall]
              exact ⟨fun h9 i hi => (hsv i hi).mp (h9 i hi), fun h9 i hi => (hsv i hi).mpr (h9 i hi)⟩
            cases hs : sameB (wrM x_m_saved 0 x_m_row 11) R0 kk with
            | true => rw [decide_eq_true (hiff.mp hs)]
            | false => rw [decide_eq_false (fun z => by rw [hiff.mpr z] at hs; cases hs)]
          have hrank : ((trialSt kk (rdM x_m_wide x_m_places x_m_weights) (prQ x_m_pair) c).2.foldl (p2 (rowC c kk (fun x y => (rdM x_m_wide x_m_places x_m_weights x y).toNatClampNeg)) (trialSt kk (rdM x_m_wide x_m_places x_m_weights) (prQ x_m_pair) c).1 kk (-1 : Int32) true (wrM x_m_saved 0 x_m_row 11)) (0, (-1 : Int32), x_m_kth)).2.1 = encQ (firstQ (fun k => decide (codeL (((trialSt kk (rdM x_m_wide x_m_places x_m_weights) (prQ x_m_pair) c).2[k]?).getD []) = codeL (listF F kk))) (trialSt kk (rdM x_m_wide x_m_places x_m_weights) (prQ x_m_pair) c).2.length) := by
            obtain ⟨r1, r2⟩ := p2_rank (cst := rowC c kk (fun x y => (rdM x_m_wide x_m_places x_m_weights x y).toNatClampNeg)) (m := (trialSt kk (rdM x_m_wide x_m_places x_m_weights) (prQ x_m_pair) c).1) (n := kk) (ask := (-1 : Int32)) (sv := wrM x_m_saved 0 x_m_row 11) (B := (trialSt kk (rdM x_m_wide x_m_places x_m_weights) (prQ x_m_pair) c).2) (st := (0, (-1 : Int32), x_m_kth)) (fun z hz => (trial_mem hn hz).2.2.2)
            cases hfq : firstQ (fun k => decide (codeL (((trialSt kk (rdM x_m_wide x_m_places x_m_weights) (prQ x_m_pair) c).2[k]?).getD []) = codeL (listF F kk))) (trialSt kk (rdM x_m_wide x_m_places x_m_weights) (prQ x_m_pair) c).2.length with
            | none =>
              rw [r1 (fun j hj => by rw [hsame j hj]; exact firstQ_get hfq j hj)]
              rfl
            | some j =>
              obtain ⟨j1, j2⟩ := firstQ_lt hfq
              have hnd := List.pairwise_iff_getElem.mp (trial_nodup (n := kk) (c := c) (rd := (rdM x_m_wide x_m_places x_m_weights)) (pr := prQ x_m_pair) hn)
              rw [r2 j j1 (by rw [hsame j j1]; exact j2) (fun i hi hne => by
                cases hs : sameB (wrM x_m_saved 0 x_m_row 11) (((trialSt kk (rdM x_m_wide x_m_places x_m_weights) (prQ x_m_pair) c).2[i]?).getD []) kk with
                | false => rfl
                | true =>
                  exfalso
                  have hs2 : sameB (wrM x_m_saved 0 x_m_row 11) (((trialSt kk (rdM x_m_wide x_m_places x_m_weights) (prQ x_m_pair) c).2[j]?).getD []) kk = true := by rw [hsame j j1]; exact j2
                  have a1 := trial_mem hn (hget i hi)
                  have a2 := trial_mem hn (hget j j1)
                  have e9 : ((trialSt kk (rdM x_m_wide x_m_places x_m_weights) (prQ x_m_pair) c).2[i]?).getD [] = ((trialSt kk (rdM x_m_wide x_m_places x_m_weights) (prQ x_m_pair) c).2[j]?).getD [] := by
                    apply List.ext_getElem
                    · rw [a1.1, a2.1]
                    · intro m hm1 hm2
                      have b1 := sameB_iff.mp hs m (by rw [a1.1] at hm1; exact hm1)
                      have b2 := sameB_iff.mp hs2 m (by rw [a1.1] at hm1; exact hm1)
                      have q1 := a1.2.1 _ (atL_mem hm1)
                      have q2 := a2.2.1 _ (atL_mem hm2)
                      rw [← atL_get hm1, ← atL_get hm2]
                      exact (nI_eq (by omega) (by omega)).mp (b1.trans b2.symm)
                  rw [List.getElem?_eq_getElem hi, List.getElem?_eq_getElem j1] at e9
                  rcases Nat.lt_trichotomy i j with z | z | z
                  · exact hnd i j hi j1 z e9
                  · exact hne z
                  · exact hnd j i j1 hi z e9.symm)]
              show nI (0 + j) = nI j
              rw [Nat.zero_add]
          rw [hrank] at u1
          obtain ⟨kt2, u1⟩ : ∃ kt2, f_X11_solveRows (nI kk) x_m_many x_m_savedMany x_m_leastRow x_m_bestRows x_m_askedRow x_m_rankOfSaved x_m_wide x_m_places x_m_weights x_m_pair x_m_row x_m_saved x_m_kth (nI c) (-1 : Int32) = some (x_m_many, x_m_many, nI (trialSt kk (rdM x_m_wide x_m_places x_m_weights) (prQ x_m_pair) c).1, nI (trialSt kk (rdM x_m_wide x_m_places x_m_weights) (prQ x_m_pair) c).2.length, (-1 : Int32), (encQ (firstQ (fun k => decide (codeL (((trialSt kk (rdM x_m_wide x_m_places x_m_weights) (prQ x_m_pair) c).2[k]?).getD []) = codeL (listF F kk))) (trialSt kk (rdM x_m_wide x_m_places x_m_weights) (prQ x_m_pair) c).2.length)), row2, wrM x_m_saved 0 x_m_row 11, kt2) := ⟨_, u1⟩
          refine ⟨encQ (firstQ (fun k => decide (codeL (((trialSt kk (rdM x_m_wide x_m_places x_m_weights) (prQ x_m_pair) c).2[k]?).getD []) = codeL (listF F kk))) (trialSt kk (rdM x_m_wide x_m_places x_m_weights) (prQ x_m_pair) c).2.length), x_x_sets_solvedFor, x_x_sets_lowest, x_x_sets_total, x_x_sets_pricedFor, x_x_sets_prices, x_x_sets_rests, x_x_sets_ways, nI c, nI (trialSt kk (rdM x_m_wide x_m_places x_m_weights) (prQ x_m_pair) c).1, nI (trialSt kk (rdM x_m_wide x_m_places x_m_weights) (prQ x_m_pair) c).2.length, fd, rs2, rp2, 0, x_m_many, x_m_many, nI (trialSt kk (rdM x_m_wide x_m_places x_m_weights) (prQ x_m_pair) c).1, nI (trialSt kk (rdM x_m_wide x_m_places x_m_weights) (prQ x_m_pair) c).2.length, (-1 : Int32), encQ (firstQ (fun k => decide (codeL (((trialSt kk (rdM x_m_wide x_m_places x_m_weights) (prQ x_m_pair) c).2[k]?).getD []) = codeL (listF F kk))) (trialSt kk (rdM x_m_wide x_m_places x_m_weights) (prQ x_m_pair) c).2.length), row2, x_m_least, x_m_ways, wrM x_m_saved 0 x_m_row 11, kt2, ?_, ?_, Rel_mk h1 h2 h3 (RowR_row h4 u2) h5 h6 h7 (Or.inr ⟨c, hr, rfl, by omega, rfl, rfl, t2⟩)⟩
          · unfold f_X10_number
            rw [p1, cC]
            simp only [Option.bind_some]
            rw [if_neg d10, if_neg d10, hrf, ev]
            simp only [Option.bind_some, if_true]
            rw [hsf]
            simp only [b14, Option.bind_some]
            rw [if_neg d10, ek1, hnum]
            rfl
          · unfold f_X11_number
            rw [y2, cM]
            simp only [Option.bind_some]
            rw [if_neg d10, if_neg d10, hlg]
            simp only [Option.bind_some, if_true]
            rw [isByRows_n hc, decide_eq_true hr]
            simp only [Option.bind_some, b2I, if_true]
            rw [if_neg d10, u1]
            rfl
      · rw [if_neg (fun z => hr z.1)] at hrf hlg
        have hcs : c = 1 ∨ c = 2 ∨ c = 3 ∨ c = 5 := by omega
        obtain ⟨lo2, to2, q, r, w2, R, W, L, V, k1, k2, k3, hR, hW, hq, hL, hV, e1, e2⟩ := sets_all h1 h2 h7 hcs x_m_least x_m_ways
        have hgo : ∀ s p, s < 2 ^ kk → p < kk → f_X11_goesOn (nI kk) x_m_wide x_m_places x_m_weights x_m_pair L (nI c) (nI s) (nI p) (nI (tN c kk R 0)) = some (b2I (stepM c q r (prQ x_m_pair) kk s p)) := fun s p hs hp => goesOn_n (q := q) (Cx_of h1) hR h01 hq hcs hs hp hL
        have hlb := leastBySets_n hR priceN_all hn hc (hL 0 hpos)
        have hsf : f_X10_searchFor (nI kk) x_x_view_weights x_x_view_near x_x_view_behind x_x_view_ahead x_x_sets_solvedFor x_x_sets_lowest x_x_sets_total x_x_sets_pricedFor x_x_sets_prices x_x_sets_rests x_x_sets_ways x_x_trials_solvedFor x_x_trials_lowest x_x_trials_total x_x_trials_found x_x_trials_row_size x_x_trials_row_posts (nI c) = some (0, nI c, lo2, to2, nI (c13 c), q, r, w2, x_x_trials_solvedFor, x_x_trials_lowest, x_x_trials_total, x_x_trials_found, x_x_trials_row_size, x_x_trials_row_posts) := by
          unfold f_X10_searchFor
          rw [isBySpans_n hc, decide_eq_false hr]
          simp only [Option.bind_some, b2I, Bool.false_eq_true, if_false, if_true]
          rw [k1]
          rfl
        have hirr : ∀ a, a < kk → prQ x_m_pair a a = false := fun a ha => by
          obtain ⟨rk, hrk⟩ := hrk
          cases hcc : prQ x_m_pair a a with
          | false => rfl
          | true => exact absurd (hrk a a (by omega) (by omega) hcc) (by omega)
        have hq2 : ∀ s, s < 2 ^ kk → q s = nI (priceN kk (fun x y => (rdM x_m_wide x_m_places x_m_weights x y).toNatClampNeg) (rdQ (rdM x_m_wide x_m_places x_m_weights)) (prQ x_m_pair) c s) := fun s hs => by rw [hq s hs]; exact priceN_eq (Cx_of h1)
        have hbi := best_iff (F := F) hR hq2 (fun s => priceN_le (Cx_of h1)) hn hlt f5
        obtain ⟨v, hv, hv2⟩ := numberC_n (posts := x_x_hand_posts) hn hc hahead (NetR_pr h1) hW (fun j hj => (f3 j hj).1) hlt
        have hnM := numberM_n (row := x_m_row) (F := F) (ways := w2) hn hgo (hL 0 hpos) hV (fun j hj => (f4 j hj).1) hlt
        have hlawM := lawfulB_n (pair := x_m_pair) (row := x_m_row) (F := F) hn (fun j hj => (f4 j hj).1) hlt f5 hirr
        have hcoM := costM_n (c := c) (pair := x_m_pair) (row := x_m_row) (F := F) (Cx_of h1) hc (fun j hj => (f4 j hj).1) hlt f5
        have hcl := costN_le (c := c) (qr := rdQ (rdM x_m_wide x_m_places x_m_weights)) (pr := prQ x_m_pair) (F := F) (Cx_of h1) hlt
        have hcost : costN c kk (fun x y => (rdM x_m_wide x_m_places x_m_weights x y).toNatClampNeg) (rdQ (rdM x_m_wide x_m_places x_m_weights)) (prQ x_m_pair) F = jnN c (priceN kk (fun x y => (rdM x_m_wide x_m_places x_m_weights x y).toNatClampNeg) (rdQ (rdM x_m_wide x_m_places x_m_weights)) (prQ x_m_pair) c) F kk + finN c kk := by unfold costN; rw [if_neg hr]
        obtain ⟨-, hR0⟩ := tN_le hR hn hpos
        have hfin : finN c kk ≤ 1 := by unfold finN; split <;> omega
        refine ⟨v, nI c, lo2, to2, nI (c13 c), q, r, w2, x_x_trials_solvedFor, x_x_trials_lowest, x_x_trials_total, x_x_trials_found, x_x_trials_row_size, x_x_trials_row_posts, 0, x_m_many, x_m_savedMany, x_m_leastRow, x_m_bestRows, x_m_askedRow, x_m_rankOfSaved, x_m_row, L, V, x_m_saved, x_m_kth, ?_, ?_, Rel_mk h1 h2 h3 h4 h5 h6 k2 h8⟩
        · unfold f_X10_number
          rw [p1, cC]
          simp only [Option.bind_some]
          rw [if_neg d10, if_neg d10, hrf, ev]
          simp only [Option.bind_some, if_true]
          rw [hsf]
          simp only [b14, Option.bind_some, if_true]
          rw [ek1, hv]
          rfl
        · unfold f_X11_number
          rw [y2, cM]
          simp only [Option.bind_some]
          rw [if_neg d10, if_neg d10, hlg]
          simp only [Option.bind_some, if_true]
          rw [isByRows_n hc, decide_eq_false hr]
          simp only [Option.bind_some, b2I, Bool.false_eq_true, if_false, if_true]
          rw [k3]
          simp only [b2, Option.bind_some]
          rw [ek2, hlawM, hcoM, hlb]
          simp only [Option.bind_some]
          cases hlw : lawB (prQ x_m_pair) F kk with
          | false =>
            have hvm : v = (-1 : Int32) := by
              rcases hv2 with ⟨-, z⟩ | ⟨z, -⟩
              · rw [(hbi.mp z).1] at hlw; cases hlw
              · exact z
            rw [hvm, if_pos (show b2I false = 0 from rfl)]
          | true =>
            rw [if_neg (show ¬ b2I true = 0 by decide)]
            by_cases hce : costN c kk (fun x y => (rdM x_m_wide x_m_places x_m_weights x y).toNatClampNeg) (rdQ (rdM x_m_wide x_m_places x_m_weights)) (prQ x_m_pair) F = R 0 + finN c kk
            · have hvm : v = nI (numN (stepM c q r (prQ x_m_pair) kk) W F kk) := by
                rcases hv2 with ⟨z, -⟩ | ⟨-, z⟩
                · exact z
                · exact absurd (hbi.mpr ⟨hlw, by rw [hcost] at hce; omega⟩) z
              rw [if_pos (by rw [hce]), hnM, hvm]
              rfl
            · have hvm : v = (-1 : Int32) := by
                rcases hv2 with ⟨-, z⟩ | ⟨z, -⟩
                · exact absurd (by rw [hcost, (hbi.mp z).2]) hce
                · exact z
              rw [if_neg (fun z => hce ((nI_eq (by omega) (by omega)).mp z)), hvm]
  · refine ⟨(-3 : Int32), x_x_sets_solvedFor, x_x_sets_lowest, x_x_sets_total, x_x_sets_pricedFor, x_x_sets_prices, x_x_sets_rests, x_x_sets_ways, x_x_trials_solvedFor, x_x_trials_lowest, x_x_trials_total, x_x_trials_found, x_x_trials_row_size, x_x_trials_row_posts, 0, x_m_many, x_m_savedMany, x_m_leastRow, x_m_bestRows, x_m_askedRow, x_m_rankOfSaved, x_m_row, x_m_least, x_m_ways, x_m_saved, x_m_kth, ?_, ?_, Rel_mk h1 h2 h3 h4 h5 h6 h7 h8⟩
    · unfold f_X10_number
      rw [p1]
      rfl
    · unfold f_X11_number
      rw [y2]
      rfl
