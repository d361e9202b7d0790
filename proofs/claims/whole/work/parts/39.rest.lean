theorem vf_X10_lay : VF yX10_lay cX10_lay 2 (some .int) 1 := ⟨t_684, t_685, t_1, t_686, by decide +kernel, by decide +kernel, by decide +kernel⟩
theorem dX10_lay_0 : decode cX10_lay 0 = .ok (.iload_n 1, 1) := by decide +kernel
theorem dX10_lay_1 : decode cX10_lay 1 = .ok (.ifCond .lt 16, 3) := by decide +kernel
theorem dX10_lay_4 : decode cX10_lay 4 = .ok (.iload_n 1, 1) := by decide +kernel
theorem dX10_lay_5 : decode cX10_lay 5 = .ok (.iconst 1, 1) := by decide +kernel
theorem dX10_lay_6 : decode cX10_lay 6 = .ok (.aload_n 0, 1) := by decide +kernel
theorem dX10_lay_7 : decode cX10_lay 7 = .ok (.getfield 12, 3) := by decide +kernel
theorem dX10_lay_10 : decode cX10_lay 10 = .ok (.getfield 79, 3) := by decide +kernel
theorem dX10_lay_13 : decode cX10_lay 13 = .ok (.ishl, 1) := by decide +kernel
theorem dX10_lay_14 : decode cX10_lay 14 = .ok (.if_icmp .lt 6, 3) := by decide +kernel
theorem dX10_lay_17 : decode cX10_lay 17 = .ok (.bipush (-3), 2) := by decide +kernel
theorem dX10_lay_19 : decode cX10_lay 19 = .ok (.ireturn, 1) := by decide +kernel
theorem dX10_lay_20 : decode cX10_lay 20 = .ok (.aload_n 0, 1) := by decide +kernel
theorem dX10_lay_21 : decode cX10_lay 21 = .ok (.getfield 43, 3) := by decide +kernel
theorem dX10_lay_24 : decode cX10_lay 24 = .ok (.getfield 233, 3) := by decide +kernel
theorem dX10_lay_27 : decode cX10_lay 27 = .ok (.bipush 20, 2) := by decide +kernel
theorem dX10_lay_29 : decode cX10_lay 29 = .ok (.if_icmp .lt 6, 3) := by decide +kernel
theorem dX10_lay_32 : decode cX10_lay 32 = .ok (.bipush (-5), 2) := by decide +kernel
theorem dX10_lay_34 : decode cX10_lay 34 = .ok (.ireturn, 1) := by decide +kernel
theorem dX10_lay_35 : decode cX10_lay 35 = .ok (.aload_n 0, 1) := by decide +kernel
theorem dX10_lay_36 : decode cX10_lay 36 = .ok (.getfield 43, 3) := by decide +kernel
theorem dX10_lay_39 : decode cX10_lay 39 = .ok (.iload_n 1, 1) := by decide +kernel
theorem dX10_lay_40 : decode cX10_lay 40 = .ok (.invokevirtual 234, 3) := by decide +kernel
theorem dX10_lay_43 : decode cX10_lay 43 = .ok (.aload_n 0, 1) := by decide +kernel
theorem dX10_lay_44 : decode cX10_lay 44 = .ok (.getfield 43, 3) := by decide +kernel
theorem dX10_lay_47 : decode cX10_lay 47 = .ok (.getfield 233, 3) := by decide +kernel
theorem dX10_lay_50 : decode cX10_lay 50 = .ok (.ireturn, 1) := by decide +kernel
noncomputable def f_X10_lay (x_net_posts : Int32) (x_bags_size : Int32) (x_bags_sets : Nat → Int32) (i1 : Int32) : Option (Int32 × Int32 × (Nat → Int32)) :=
  if i1 < 0 then (some (((-3 : Int32), x_bags_size, x_bags_sets))) else (if i1 < ((1 : Int32) <<< (x_net_posts &&& 31)) then (if x_bags_size < (20 : Int32) then (b2 (f_X0_append x_bags_size x_bags_sets i1) fun o4 o5 =>
  some ((o4, o4, o5))) else (some (((-5 : Int32), x_bags_size, x_bags_sets)))) else (some (((-3 : Int32), x_bags_size, x_bags_sets))))
set_option maxHeartbeats 4000000 in
set_option maxRecDepth 100000 in
theorem c_X10_lay (l : Launch) (dC : Nat → ClassId) (dI : Nat → Nat → Nat) (cI cZ cN : ClassId) (q_ : Nat) (q_net : Nat) (q_view : Nat) (q_history : Nat) (q_hand : Nat) (q_trial : Nat) (q_bags : Nat) (q_chase : Nat) (q_costs : Nat) (q_sets : Nat) (q_trials : Nat) (q_net_widths : Nat) (q_net_lengths : Nat) (q_net_told : Nat) (q_net_behind : Nat) (q_bags_sets : Nat) (x_net_posts : Int32) (x_net_pairs : Int32) (x_bags_size : Int32) (x_bags_sets : Nat → Int32) (i1 : Int32) (r : Int32) (o_bags_size : Int32) (o_bags_sets : Nat → Int32) (hf : f_X10_lay x_net_posts x_bags_size x_bags_sets i1 = some (r, o_bags_size, o_bags_sets)) : CI l yX10_lay cX10_lay 2 (some .int) 3 81 (dC, dI) (TY cI cZ cN) [.ref q_, .int i1] [(q_, .inr (9, [.ref q_net, .ref q_view, .ref q_history, .ref q_hand, .ref q_trial, .ref q_bags, .ref q_chase, .ref q_costs, .ref q_sets, .ref q_trials])), (q_net, .inr (4, [.int x_net_posts, .int x_net_pairs, .ref q_net_widths, .ref q_net_lengths, .ref q_net_told, .ref q_net_behind])), (q_bags, .inr (0, [.ref q_bags_sets, .int x_bags_size])), (q_bags_sets, .inl (cI, 20, .inl x_bags_sets))] [(q_, .inr (9, [.ref q_net, .ref q_view, .ref q_history, .ref q_hand, .ref q_trial, .ref q_bags, .ref q_chase, .ref q_costs, .ref q_sets, .ref q_trials])), (q_net, .inr (4, [.int x_net_posts, .int x_net_pairs, .ref q_net_widths, .ref q_net_lengths, .ref q_net_told, .ref q_net_behind])), (q_bags, .inr (0, [.ref q_bags_sets, .int o_bags_size])), (q_bags_sets, .inl (cI, 20, .inl o_bags_sets))] r := by
  refine CI.of rfl (by decide) (Nat.le_of_ble_eq_true rfl) ?_
  intro p e s m args below meth c Q A ls hx hb hml hown htb hK hN hA hP hD hS hl hret
  have hown : s.vm.findClass RX10 = some m.cls := hown
  have hl : lv_has ls 2 [(0, .ref q_), (1, .int i1)] := hl
  have hret : ∀ (r9 : Int32) (o9_bags_size : Int32) (o9_bags_sets : Nat → Int32), some (r9, o9_bags_size, o9_bags_sets) = some (r, o_bags_size, o_bags_sets) → ∀ (H : Heap) (locs : List Loc) (pc : Nat) (ls : Array Slot), narrow .int (.int r9) = .int r9 → decode cX10_lay pc = .ok (.ireturn, 1) → va_P (dC, dI) vwCl [(q_, .inr (9, [.ref q_net, .ref q_view, .ref q_history, .ref q_hand, .ref q_trial, .ref q_bags, .ref q_chase, .ref q_costs, .ref q_sets, .ref q_trials])), (q_net, .inr (4, [.int x_net_posts, .int x_net_pairs, .ref q_net_widths, .ref q_net_lengths, .ref q_net_told, .ref q_net_behind])), (q_bags, .inr (0, [.ref q_bags_sets, .int o9_bags_size])), (q_bags_sets, .inl (cI, 20, .inl o9_bags_sets))] H → va_D A [(q_, .inr (9, [.ref q_net, .ref q_view, .ref q_history, .ref q_hand, .ref q_trial, .ref q_bags, .ref q_chase, .ref q_costs, .ref q_sets, .ref q_trials])), (q_net, .inr (4, [.int x_net_posts, .int x_net_pairs, .ref q_net_widths, .ref q_net_lengths, .ref q_net_told, .ref q_net_behind])), (q_bags, .inr (0, [.ref q_bags_sets, .int o9_bags_size])), (q_bags_sets, .inl (cI, 20, .inl o9_bags_sets))] → va_S A s.heap H locs → W p l e (rmK 3 81) s m args below meth c H locs 0 0 Q (F0 m pc ls [.int r9]) := by
    intro r9 o9_bags_size o9_bags_sets h9
    cases h9
    exact hret
  unfold f_X10_lay at hf
  refine lv_iload_n hx hb dX10_lay_0 rfl (lv_at hl 1 rfl) ?_
  refine lv_if_lt (tgt := 17) hx hb dX10_lay_1 (by decide) (fun c1 => ?_) (fun c1 => ?_)
  · have hf := ip c1 hf
    refine lv_bipush (v := (-3 : Int32)) hx hb dX10_lay_17 (by decide) ?_
    exact hret _ _ _ hf _ _ _ _ rfl dX10_lay_19 hP hD hS
  · have hf := im c1 hf
    refine lv_iload_n hx hb dX10_lay_4 rfl (lv_at hl 1 rfl) ?_
    refine lv_iconst (v := (1 : Int32)) hx hb dX10_lay_5 (by decide) ?_
    refine lv_aload_n hx hb dX10_lay_6 rfl (lv_at hl 0 rfl) ?_
    refine va_get (D := (dC, dI)) (ci := 9) (v := .ref q_net) (C := RX10) (T := TX10) (N := 10) hx hb htb inX10 hown hK hP 0 rfl rfl 0 (Nat.le_of_ble_eq_true rfl) (htb _ t_278) (fun _ h9 => h9) rfl dX10_lay_7 ?_
    refine va_get (D := (dC, dI)) (ci := 4) (v := .int x_net_posts) (C := RX4) (T := TX4) (N := 6) hx hb htb inX4 hown hK hP 1 rfl rfl 0 (Nat.le_of_ble_eq_true rfl) (htb _ t_35) (fun _ h9 => h9) rfl dX10_lay_10 ?_
    refine lv_ishl hx hb dX10_lay_13 ?_
    refine lv_icmp_lt (tgt := 20) hx hb dX10_lay_14 (by decide) (fun c2 => ?_) (fun c2 => ?_)
    · have hf := ip c2 hf
      refine lv_aload_n hx hb dX10_lay_20 rfl (lv_at hl 0 rfl) ?_
      refine va_get (D := (dC, dI)) (ci := 9) (v := .ref q_bags) (C := RX10) (T := TX10) (N := 10) hx hb htb inX10 hown hK hP 0 rfl rfl 5 (Nat.le_of_ble_eq_true rfl) (htb _ t_283) (fun _ h9 => h9) rfl dX10_lay_21 ?_
      refine va_get (D := (dC, dI)) (ci := 0) (v := .int x_bags_size) (C := RX0) (T := TX0) (N := 2) hx hb htb inX0 hown hK hP 2 rfl rfl 1 (Nat.le_of_ble_eq_true rfl) (htb _ t_153) (fun _ h9 => h9) rfl dX10_lay_24 ?_
      refine lv_bipush (v := (20 : Int32)) hx hb dX10_lay_27 (by decide) ?_
      refine lv_icmp_lt (tgt := 35) hx hb dX10_lay_29 (by decide) (fun c3 => ?_) (fun c3 => ?_)
      · have hf := ip c3 hf
        refine lv_aload_n hx hb dX10_lay_35 rfl (lv_at hl 0 rfl) ?_
        refine va_get (D := (dC, dI)) (ci := 9) (v := .ref q_bags) (C := RX10) (T := TX10) (N := 10) hx hb htb inX10 hown hK hP 0 rfl rfl 5 (Nat.le_of_ble_eq_true rfl) (htb _ t_283) (fun _ h9 => h9) rfl dX10_lay_36 ?_
        refine lv_iload_n hx hb dX10_lay_39 rfl (lv_at hl 1 rfl) ?_
        obtain ⟨o4, o5, hv, hf⟩ := ob2 hf
        refine k_afterV (wr := [(q_, .inr (9, [.ref q_net, .ref q_view, .ref q_history, .ref q_hand, .ref q_trial, .ref q_bags, .ref q_chase, .ref q_costs, .ref q_sets, .ref q_trials])), (q_net, .inr (4, [.int x_net_posts, .int x_net_pairs, .ref q_net_widths, .ref q_net_lengths, .ref q_net_told, .ref q_net_behind]))]) (wn := [(q_, .inr (9, [.ref q_net, .ref q_view, .ref q_history, .ref q_hand, .ref q_trial, .ref q_bags, .ref q_chase, .ref q_costs, .ref q_sets, .ref q_trials])), (q_net, .inr (4, [.int x_net_posts, .int x_net_pairs, .ref q_net_widths, .ref q_net_lengths, .ref q_net_told, .ref q_net_behind])), (q_bags, .inr (0, [.ref q_bags_sets, .int o4])), (q_bags_sets, .inl (cI, 20, .inl o5))]) (k_runV (rest := []) (ci := 0) (q0 := 2) hx hb hml hown htb hK hN (c_X0_append l dC dI cI cZ cN q_bags q_bags_sets x_bags_size x_bags_sets i1 o4 o5 hv _) vf_X0_append t_687 hP hD [2, 3] rfl rfl rfl rfl ⟨(Nat.le_of_ble_eq_true rfl), (Nat.le_of_ble_eq_true rfl)⟩ rfl hl.1 rfl (Nat.le_of_ble_eq_true rfl) dX10_lay_40 ⟨Nat.zero_le _, Nat.zero_le _⟩) hA hP hD hS [2, 3] [0, 1] [0, 1, 2, 3] rfl rfl rfl rfl ?_
        clear hP hD hS
        intro H locs hP hD hS
        refine lv_aload_n hx hb dX10_lay_43 rfl (lv_at hl 0 rfl) ?_
        refine va_get (D := (dC, dI)) (ci := 9) (v := .ref q_bags) (C := RX10) (T := TX10) (N := 10) hx hb htb inX10 hown hK hP 0 rfl rfl 5 (Nat.le_of_ble_eq_true rfl) (htb _ t_283) (fun _ h9 => h9) rfl dX10_lay_44 ?_
        refine va_get (D := (dC, dI)) (ci := 0) (v := .int o4) (C := RX0) (T := TX0) (N := 2) hx hb htb inX0 hown hK hP 2 rfl rfl 1 (Nat.le_of_ble_eq_true rfl) (htb _ t_153) (fun _ h9 => h9) rfl dX10_lay_47 ?_
        exact hret _ _ _ hf _ _ _ _ rfl dX10_lay_50 hP hD hS
      · have hf := im c3 hf
        refine lv_bipush (v := (-5 : Int32)) hx hb dX10_lay_32 (by decide) ?_
        exact hret _ _ _ hf _ _ _ _ rfl dX10_lay_34 hP hD hS
    · have hf := im c2 hf
      refine lv_bipush (v := (-3 : Int32)) hx hb dX10_lay_17 (by decide) ?_
      exact hret _ _ _ hf _ _ _ _ rfl dX10_lay_19 hP hD hS
theorem vf_X10_empty : VF yX10_empty cX10_empty 2 (some .int) 0 := ⟨t_692, t_693, t_1, t_694, by decide +kernel, by decide +kernel, by decide +kernel⟩
theorem dX10_empty_0 : decode cX10_empty 0 = .ok (.aload_n 0, 1) := by decide +kernel
theorem dX10_empty_1 : decode cX10_empty 1 = .ok (.getfield 43, 3) := by decide +kernel
theorem dX10_empty_4 : decode cX10_empty 4 = .ok (.getfield 233, 3) := by decide +kernel
theorem dX10_empty_7 : decode cX10_empty 7 = .ok (.istore_n 1, 1) := by decide +kernel
theorem dX10_empty_8 : decode cX10_empty 8 = .ok (.aload_n 0, 1) := by decide +kernel
theorem dX10_empty_9 : decode cX10_empty 9 = .ok (.getfield 43, 3) := by decide +kernel
theorem dX10_empty_12 : decode cX10_empty 12 = .ok (.iconst 0, 1) := by decide +kernel
theorem dX10_empty_13 : decode cX10_empty 13 = .ok (.putfield 233, 3) := by decide +kernel
theorem dX10_empty_16 : decode cX10_empty 16 = .ok (.iload_n 1, 1) := by decide +kernel
theorem dX10_empty_17 : decode cX10_empty 17 = .ok (.ireturn, 1) := by decide +kernel
noncomputable def f_X10_empty (x_bags_size : Int32) : Option (Int32 × Int32) :=
  some ((x_bags_size, (0 : Int32)))
set_option maxHeartbeats 4000000 in
set_option maxRecDepth 100000 in
theorem c_X10_empty (l : Launch) (dC : Nat → ClassId) (dI : Nat → Nat → Nat) (cI cZ cN : ClassId) (q_ : Nat) (q_net : Nat) (q_view : Nat) (q_history : Nat) (q_hand : Nat) (q_trial : Nat) (q_bags : Nat) (q_chase : Nat) (q_costs : Nat) (q_sets : Nat) (q_trials : Nat) (q_bags_sets : Nat) (x_bags_size : Int32) (r : Int32) (o_bags_size : Int32) (hf : f_X10_empty x_bags_size = some (r, o_bags_size)) : CI l yX10_empty cX10_empty 2 (some .int) 2 60 (dC, dI) (TY cI cZ cN) [.ref q_] [(q_, .inr (9, [.ref q_net, .ref q_view, .ref q_history, .ref q_hand, .ref q_trial, .ref q_bags, .ref q_chase, .ref q_costs, .ref q_sets, .ref q_trials])), (q_bags, .inr (0, [.ref q_bags_sets, .int x_bags_size]))] [(q_, .inr (9, [.ref q_net, .ref q_view, .ref q_history, .ref q_hand, .ref q_trial, .ref q_bags, .ref q_chase, .ref q_costs, .ref q_sets, .ref q_trials])), (q_bags, .inr (0, [.ref q_bags_sets, .int o_bags_size]))] r := by
  refine CI.of rfl (by decide) (Nat.le_of_ble_eq_true rfl) ?_
  intro p e s m args below meth c Q A ls hx hb hml hown htb hK hN hA hP hD hS hl hret
  have hown : s.vm.findClass RX10 = some m.cls := hown
  have hl : lv_has ls 2 [(0, .ref q_)] := hl
  have hret : ∀ (r9 : Int32) (o9_bags_size : Int32), some (r9, o9_bags_size) = some (r, o_bags_size) → ∀ (H : Heap) (locs : List Loc) (pc : Nat) (ls : Array Slot), narrow .int (.int r9) = .int r9 → decode cX10_empty pc = .ok (.ireturn, 1) → va_P (dC, dI) vwCl [(q_, .inr (9, [.ref q_net, .ref q_view, .ref q_history, .ref q_hand, .ref q_trial, .ref q_bags, .ref q_chase, .ref q_costs, .ref q_sets, .ref q_trials])), (q_bags, .inr (0, [.ref q_bags_sets, .int o9_bags_size]))] H → va_D A [(q_, .inr (9, [.ref q_net, .ref q_view, .ref q_history, .ref q_hand, .ref q_trial, .ref q_bags, .ref q_chase, .ref q_costs, .ref q_sets, .ref q_trials])), (q_bags, .inr (0, [.ref q_bags_sets, .int o9_bags_size]))] → va_S A s.heap H locs → W p l e (rmK 2 60) s m args below meth c H locs 0 0 Q (F0 m pc ls [.int r9]) := by
    intro r9 o9_bags_size h9
    cases h9
    exact hret
  unfold f_X10_empty at hf
  refine lv_aload_n hx hb dX10_empty_0 rfl (lv_at hl 0 rfl) ?_
  refine va_get (D := (dC, dI)) (ci := 9) (v := .ref q_bags) (C := RX10) (T := TX10) (N := 10) hx hb htb inX10 hown hK hP 0 rfl rfl 5 (Nat.le_of_ble_eq_true rfl) (htb _ t_283) (fun _ h9 => h9) rfl dX10_empty_1 ?_
  refine va_get (D := (dC, dI)) (ci := 0) (v := .int x_bags_size) (C := RX0) (T := TX0) (N := 2) hx hb htb inX0 hown hK hP 1 rfl rfl 1 (Nat.le_of_ble_eq_true rfl) (htb _ t_153) (fun _ h9 => h9) rfl dX10_empty_4 ?_
  refine lv_istore_n (lv' := [(1, .int x_bags_size), (0, .ref q_)]) hx hb dX10_empty_7 rfl hl (by decide) rfl (fun ls hl => ?_)
  refine lv_aload_n hx hb dX10_empty_8 rfl (lv_at hl 1 rfl) ?_
  refine va_get (D := (dC, dI)) (ci := 9) (v := .ref q_bags) (C := RX10) (T := TX10) (N := 10) hx hb htb inX10 hown hK hP 0 rfl rfl 5 (Nat.le_of_ble_eq_true rfl) (htb _ t_283) (fun _ h9 => h9) rfl dX10_empty_9 ?_
  refine lv_iconst (v := (0 : Int32)) hx hb dX10_empty_12 (by decide) ?_
  refine k_put (wn := [(q_, .inr (9, [.ref q_net, .ref q_view, .ref q_history, .ref q_hand, .ref q_trial, .ref q_bags, .ref q_chase, .ref q_costs, .ref q_sets, .ref q_trials])), (q_bags, .inr (0, [.ref q_bags_sets, .int (0 : Int32)]))]) (C := RX0) (T := TX0) (N := 2) (ci := 0) hx hb htb inX0 tyX0 tyX0_ok nmX0 hown hK hP hD hS 1 rfl rfl 1 (Nat.le_of_ble_eq_true rfl) t_153 (fun _ h9 => h9) rfl (tyX0_ok 1 (Nat.le_of_ble_eq_true rfl)) (Nat.le_of_ble_eq_true rfl) rfl dX10_empty_13 ?_
  clear hP hD hS
  intro H locs hP hD hS
  refine lv_iload_n hx hb dX10_empty_16 rfl (lv_at hl 0 rfl) ?_
  exact hret _ _ hf _ _ _ _ rfl dX10_empty_17 hP hD hS
theorem vf_X10_good : VF yX10_good cX10_good 1 (some .int) 0 := ⟨t_696, t_697, t_1, t_698, by decide +kernel, by decide +kernel, by decide +kernel⟩
theorem dX10_good_0 : decode cX10_good 0 = .ok (.aload_n 0, 1) := by decide +kernel
theorem dX10_good_1 : decode cX10_good 1 = .ok (.getfield 43, 3) := by decide +kernel
theorem dX10_good_4 : decode cX10_good 4 = .ok (.aload_n 0, 1) := by decide +kernel
theorem dX10_good_5 : decode cX10_good 5 = .ok (.getfield 19, 3) := by decide +kernel
theorem dX10_good_8 : decode cX10_good 8 = .ok (.invokevirtual 235, 3) := by decide +kernel
theorem dX10_good_11 : decode cX10_good 11 = .ok (.ireturn, 1) := by decide +kernel
noncomputable def f_X10_good (x_view_posts : Int32) (x_view_weights : Nat → Int32) (x_bags_size : Int32) (x_bags_sets : Nat → Int32) : Option (Int32) :=
  (f_X0_fault x_bags_size x_bags_sets x_view_posts x_view_weights).bind fun v1 =>
  some (v1)
set_option maxHeartbeats 4000000 in
set_option maxRecDepth 100000 in
theorem c_X10_good (l : Launch) (dC : Nat → ClassId) (dI : Nat → Nat → Nat) (cI cZ cN : ClassId) (q_ : Nat) (q_net : Nat) (q_view : Nat) (q_history : Nat) (q_hand : Nat) (q_trial : Nat) (q_bags : Nat) (q_chase : Nat) (q_costs : Nat) (q_sets : Nat) (q_trials : Nat) (q_view_weights : Nat) (q_view_near : Nat) (q_view_behind : Nat) (q_view_ahead : Nat) (q_bags_sets : Nat) (x_view_posts : Int32) (x_view_roads : Int32) (x_view_weight : Int32) (x_view_weights : Nat → Int32) (x_bags_size : Int32) (x_bags_sets : Nat → Int32) (r : Int32) (hf : f_X10_good x_view_posts x_view_weights x_bags_size x_bags_sets = some r) : CI l yX10_good cX10_good 1 (some .int) 6 152 (dC, dI) (TY cI cZ cN) [.ref q_] [(q_, .inr (9, [.ref q_net, .ref q_view, .ref q_history, .ref q_hand, .ref q_trial, .ref q_bags, .ref q_chase, .ref q_costs, .ref q_sets, .ref q_trials])), (q_view, .inr (8, [.int x_view_posts, .int x_view_roads, .int x_view_weight, .ref q_view_weights, .ref q_view_near, .ref q_view_behind, .ref q_view_ahead])), (q_view_weights, .inl (cI, 121, .inl x_view_weights)), (q_bags, .inr (0, [.ref q_bags_sets, .int x_bags_size])), (q_bags_sets, .inl (cI, 20, .inl x_bags_sets))] [(q_, .inr (9, [.ref q_net, .ref q_view, .ref q_history, .ref q_hand, .ref q_trial, .ref q_bags, .ref q_chase, .ref q_costs, .ref q_sets, .ref q_trials])), (q_view, .inr (8, [.int x_view_posts, .int x_view_roads, .int x_view_weight, .ref q_view_weights, .ref q_view_near, .ref q_view_behind, .ref q_view_ahead])), (q_view_weights, .inl (cI, 121, .inl x_view_weights)), (q_bags, .inr (0, [.ref q_bags_sets, .int x_bags_size])), (q_bags_sets, .inl (cI, 20, .inl x_bags_sets))] r := by
  refine CI.of rfl (by decide) (Nat.le_of_ble_eq_true rfl) ?_
  intro p e s m args below meth c Q A ls hx hb hml hown htb hK hN hA hP hD hS hl hret
  have hown : s.vm.findClass RX10 = some m.cls := hown
  have hl : lv_has ls 1 [(0, .ref q_)] := hl
  have hret : ∀ (r9 : Int32), some r9 = some r → ∀ (H : Heap) (locs : List Loc) (pc : Nat) (ls : Array Slot), narrow .int (.int r9) = .int r9 → decode cX10_good pc = .ok (.ireturn, 1) → va_P (dC, dI) vwCl [(q_, .inr (9, [.ref q_net, .ref q_view, .ref q_history, .ref q_hand, .ref q_trial, .ref q_bags, .ref q_chase, .ref q_costs, .ref q_sets, .ref q_trials])), (q_view, .inr (8, [.int x_view_posts, .int x_view_roads, .int x_view_weight, .ref q_view_weights, .ref q_view_near, .ref q_view_behind, .ref q_view_ahead])), (q_view_weights, .inl (cI, 121, .inl x_view_weights)), (q_bags, .inr (0, [.ref q_bags_sets, .int x_bags_size])), (q_bags_sets, .inl (cI, 20, .inl x_bags_sets))] H → va_D A [(q_, .inr (9, [.ref q_net, .ref q_view, .ref q_history, .ref q_hand, .ref q_trial, .ref q_bags, .ref q_chase, .ref q_costs, .ref q_sets, .ref q_trials])), (q_view, .inr (8, [.int x_view_posts, .int x_view_roads, .int x_view_weight, .ref q_view_weights, .ref q_view_near, .ref q_view_behind, .ref q_view_ahead])), (q_view_weights, .inl (cI, 121, .inl x_view_weights)), (q_bags, .inr (0, [.ref q_bags_sets, .int x_bags_size])), (q_bags_sets, .inl (cI, 20, .inl x_bags_sets))] → va_S A s.heap H locs → W p l e (rmK 6 152) s m args below meth c H locs 0 0 Q (F0 m pc ls [.int r9]) := by
    intro r9 h9
    cases h9
    exact hret
  unfold f_X10_good at hf
  refine lv_aload_n hx hb dX10_good_0 rfl (lv_at hl 0 rfl) ?_
  refine va_get (D := (dC, dI)) (ci := 9) (v := .ref q_bags) (C := RX10) (T := TX10) (N := 10) hx hb htb inX10 hown hK hP 0 rfl rfl 5 (Nat.le_of_ble_eq_true rfl) (htb _ t_283) (fun _ h9 => h9) rfl dX10_good_1 ?_
  refine lv_aload_n hx hb dX10_good_4 rfl (lv_at hl 0 rfl) ?_
  refine va_get (D := (dC, dI)) (ci := 9) (v := .ref q_view) (C := RX10) (T := TX10) (N := 10) hx hb htb inX10 hown hK hP 0 rfl rfl 1 (Nat.le_of_ble_eq_true rfl) (htb _ t_279) (fun _ h9 => h9) rfl dX10_good_5 ?_
  obtain ⟨v1, hv, hf⟩ := ob hf
  refine k_afterI (wr := [(q_, .inr (9, [.ref q_net, .ref q_view, .ref q_history, .ref q_hand, .ref q_trial, .ref q_bags, .ref q_chase, .ref q_costs, .ref q_sets, .ref q_trials]))]) (wn := [(q_, .inr (9, [.ref q_net, .ref q_view, .ref q_history, .ref q_hand, .ref q_trial, .ref q_bags, .ref q_chase, .ref q_costs, .ref q_sets, .ref q_trials])), (q_view, .inr (8, [.int x_view_posts, .int x_view_roads, .int x_view_weight, .ref q_view_weights, .ref q_view_near, .ref q_view_behind, .ref q_view_ahead])), (q_view_weights, .inl (cI, 121, .inl x_view_weights)), (q_bags, .inr (0, [.ref q_bags_sets, .int x_bags_size])), (q_bags_sets, .inl (cI, 20, .inl x_bags_sets))]) (k_runV (rest := []) (ci := 0) (q0 := 3) hx hb hml hown htb hK hN (c_X0_fault l dC dI cI cZ cN q_bags q_bags_sets q_view q_view_weights q_view_near q_view_behind q_view_ahead x_bags_size x_bags_sets x_view_posts x_view_roads x_view_weight x_view_weights v1 hv _) vf_X0_fault t_699 hP hD [3, 4, 1, 2] rfl rfl rfl rfl ⟨(Nat.le_of_ble_eq_true rfl), (Nat.le_of_ble_eq_true rfl)⟩ rfl hl.1 rfl (Nat.le_of_ble_eq_true rfl) dX10_good_8 ⟨Nat.zero_le _, Nat.zero_le _⟩) hA hP hD hS [3, 4, 1, 2] [0] [0, 3, 4, 1, 2] rfl rfl rfl rfl ?_
  clear hP hD hS
  intro H locs hP hD hS
  exact hret _ hf _ _ _ _ rfl dX10_good_11 hP hD hS
theorem vf_X10_rowOf : VF yX10_rowOf cX10_rowOf 1 (some .int) 0 := ⟨t_726, t_727, t_1, t_728, by decide +kernel, by decide +kernel, by decide +kernel⟩
theorem dX10_rowOf_0 : decode cX10_rowOf 0 = .ok (.aload_n 0, 1) := by decide +kernel
theorem dX10_rowOf_1 : decode cX10_rowOf 1 = .ok (.getfield 43, 3) := by decide +kernel
theorem dX10_rowOf_4 : decode cX10_rowOf 4 = .ok (.aload_n 0, 1) := by decide +kernel
theorem dX10_rowOf_5 : decode cX10_rowOf 5 = .ok (.getfield 19, 3) := by decide +kernel
theorem dX10_rowOf_8 : decode cX10_rowOf 8 = .ok (.invokevirtual 235, 3) := by decide +kernel
theorem dX10_rowOf_11 : decode cX10_rowOf 11 = .ok (.ifCond .eq 6, 3) := by decide +kernel
theorem dX10_rowOf_14 : decode cX10_rowOf 14 = .ok (.bipush (-4), 2) := by decide +kernel
theorem dX10_rowOf_16 : decode cX10_rowOf 16 = .ok (.ireturn, 1) := by decide +kernel
theorem dX10_rowOf_17 : decode cX10_rowOf 17 = .ok (.aload_n 0, 1) := by decide +kernel
theorem dX10_rowOf_18 : decode cX10_rowOf 18 = .ok (.getfield 43, 3) := by decide +kernel
theorem dX10_rowOf_21 : decode cX10_rowOf 21 = .ok (.aload_n 0, 1) := by decide +kernel
theorem dX10_rowOf_22 : decode cX10_rowOf 22 = .ok (.getfield 33, 3) := by decide +kernel
theorem dX10_rowOf_25 : decode cX10_rowOf 25 = .ok (.aload_n 0, 1) := by decide +kernel
theorem dX10_rowOf_26 : decode cX10_rowOf 26 = .ok (.getfield 12, 3) := by decide +kernel
theorem dX10_rowOf_29 : decode cX10_rowOf 29 = .ok (.getfield 79, 3) := by decide +kernel
theorem dX10_rowOf_32 : decode cX10_rowOf 32 = .ok (.invokevirtual 239, 3) := by decide +kernel
theorem dX10_rowOf_35 : decode cX10_rowOf 35 = .ok (.aload_n 0, 1) := by decide +kernel
theorem dX10_rowOf_36 : decode cX10_rowOf 36 = .ok (.getfield 43, 3) := by decide +kernel
theorem dX10_rowOf_39 : decode cX10_rowOf 39 = .ok (.aload_n 0, 1) := by decide +kernel
theorem dX10_rowOf_40 : decode cX10_rowOf 40 = .ok (.getfield 12, 3) := by decide +kernel
theorem dX10_rowOf_43 : decode cX10_rowOf 43 = .ok (.getfield 79, 3) := by decide +kernel
theorem dX10_rowOf_46 : decode cX10_rowOf 46 = .ok (.invokevirtual 243, 3) := by decide +kernel
theorem dX10_rowOf_49 : decode cX10_rowOf 49 = .ok (.ireturn, 1) := by decide +kernel
noncomputable def f_X10_rowOf (x_net_posts : Int32) (x_view_posts : Int32) (x_view_weights : Nat → Int32) (x_hand_size : Int32) (x_hand_posts : Nat → Int32) (x_bags_size : Int32) (x_bags_sets : Nat → Int32) : Option (Int32 × Int32 × (Nat → Int32)) :=
  (f_X0_fault x_bags_size x_bags_sets x_view_posts x_view_weights).bind fun v1 =>
  if v1 = 0 then (b2 (f_X0_rowInto x_bags_size x_bags_sets x_hand_size x_hand_posts x_net_posts) fun o3 o4 =>
  (f_X0_largest x_bags_size x_bags_sets x_net_posts).bind fun v5 =>
  some ((v5, o3, o4))) else (some (((-4 : Int32), x_hand_size, x_hand_posts)))
set_option maxHeartbeats 4000000 in
set_option maxRecDepth 100000 in
theorem c_X10_rowOf (l : Launch) (dC : Nat → ClassId) (dI : Nat → Nat → Nat) (cI cZ cN : ClassId) (q_ : Nat) (q_net : Nat) (q_view : Nat) (q_history : Nat) (q_hand : Nat) (q_trial : Nat) (q_bags : Nat) (q_chase : Nat) (q_costs : Nat) (q_sets : Nat) (q_trials : Nat) (q_net_widths : Nat) (q_net_lengths : Nat) (q_net_told : Nat) (q_net_behind : Nat) (q_view_weights : Nat) (q_view_near : Nat) (q_view_behind : Nat) (q_view_ahead : Nat) (q_hand_posts : Nat) (q_bags_sets : Nat) (x_net_posts : Int32) (x_net_pairs : Int32) (x_view_posts : Int32) (x_view_roads : Int32) (x_view_weight : Int32) (x_view_weights : Nat → Int32) (x_hand_size : Int32) (x_hand_posts : Nat → Int32) (x_bags_size : Int32) (x_bags_sets : Nat → Int32) (r : Int32) (o_hand_size : Int32) (o_hand_posts : Nat → Int32) (hf : f_X10_rowOf x_net_posts x_view_posts x_view_weights x_hand_size x_hand_posts x_bags_size x_bags_sets = some (r, o_hand_size, o_hand_posts)) : CI l yX10_rowOf cX10_rowOf 1 (some .int) 6 152 (dC, dI) (TY cI cZ cN) [.ref q_] [(q_, .inr (9, [.ref q_net, .ref q_view, .ref q_history, .ref q_hand, .ref q_trial, .ref q_bags, .ref q_chase, .ref q_costs, .ref q_sets, .ref q_trials])), (q_net, .inr (4, [.int x_net_posts, .int x_net_pairs, .ref q_net_widths, .ref q_net_lengths, .ref q_net_told, .ref q_net_behind])), (q_view, .inr (8, [.int x_view_posts, .int x_view_roads, .int x_view_weight, .ref q_view_weights, .ref q_view_near, .ref q_view_behind, .ref q_view_ahead])), (q_view_weights, .inl (cI, 121, .inl x_view_weights)), (q_hand, .inr (5, [.ref q_hand_posts, .int x_hand_size])), (q_hand_posts, .inl (cI, 11, .inl x_hand_posts)), (q_bags, .inr (0, [.ref q_bags_sets, .int x_bags_size])), (q_bags_sets, .inl (cI, 20, .inl x_bags_sets))] [(q_, .inr (9, [.ref q_net, .ref q_view, .ref q_history, .ref q_hand, .ref q_trial, .ref q_bags, .ref q_chase, .ref q_costs, .ref q_sets, .ref q_trials])), (q_net, .inr (4, [.int x_net_posts, .int x_net_pairs, .ref q_net_widths, .ref q_net_lengths, .ref q_net_told, .ref q_net_behind])), (q_view, .inr (8, [.int x_view_posts, .int x_view_roads, .int x_view_weight, .ref q_view_weights, .ref q_view_near, .ref q_view_behind, .ref q_view_ahead])), (q_view_weights, .inl (cI, 121, .inl x_view_weights)), (q_hand, .inr (5, [.ref q_hand_posts, .int o_hand_size])), (q_hand_posts, .inl (cI, 11, .inl o_hand_posts)), (q_bags, .inr (0, [.ref q_bags_sets, .int x_bags_size])), (q_bags_sets, .inl (cI, 20, .inl x_bags_sets))] r := by
  refine CI.of rfl (by decide) (Nat.le_of_ble_eq_true rfl) ?_
  intro p e s m args below meth c Q A ls hx hb hml hown htb hK hN hA hP hD hS hl hret
  have hown : s.vm.findClass RX10 = some m.cls := hown
  have hl : lv_has ls 1 [(0, .ref q_)] := hl
  have hret : ∀ (r9 : Int32) (o9_hand_size : Int32) (o9_hand_posts : Nat → Int32), some (r9, o9_hand_size, o9_hand_posts) = some (r, o_hand_size, o_hand_posts) → ∀ (H : Heap) (locs : List Loc) (pc : Nat) (ls : Array Slot), narrow .int (.int r9) = .int r9 → decode cX10_rowOf pc = .ok (.ireturn, 1) → va_P (dC, dI) vwCl [(q_, .inr (9, [.ref q_net, .ref q_view, .ref q_history, .ref q_hand, .ref q_trial, .ref q_bags, .ref q_chase, .ref q_costs, .ref q_sets, .ref q_trials])), (q_net, .inr (4, [.int x_net_posts, .int x_net_pairs, .ref q_net_widths, .ref q_net_lengths, .ref q_net_told, .ref q_net_behind])), (q_view, .inr (8, [.int x_view_posts, .int x_view_roads, .int x_view_weight, .ref q_view_weights, .ref q_view_near, .ref q_view_behind, .ref q_view_ahead])), (q_view_weights, .inl (cI, 121, .inl x_view_weights)), (q_hand, .inr (5, [.ref q_hand_posts, .int o9_hand_size])), (q_hand_posts, .inl (cI, 11, .inl o9_hand_posts)), (q_bags, .inr (0, [.ref q_bags_sets, .int x_bags_size])), (q_bags_sets, .inl (cI, 20, .inl x_bags_sets))] H → va_D A [(q_, .inr (9, [.ref q_net, .ref q_view, .ref q_history, .ref q_hand, .ref q_trial, .ref q_bags, .ref q_chase, .ref q_costs, .ref q_sets, .ref q_trials])), (q_net, .inr (4, [.int x_net_posts, .int x_net_pairs, .ref q_net_widths, .ref q_net_lengths, .ref q_net_told, .ref q_net_behind])), (q_view, .inr (8, [.int x_view_posts, .int x_view_roads, .int x_view_weight, .ref q_view_weights, .ref q_view_near, .ref q_view_behind, .ref q_view_ahead])), (q_view_weights, .inl (cI, 121, .inl x_view_weights)), (q_hand, .inr (5, [.ref q_hand_posts, .int o9_hand_size])), (q_hand_posts, .inl (cI, 11, .inl o9_hand_posts)), (q_bags, .inr (0, [.ref q_bags_sets, .int x_bags_size])), (q_bags_sets, .inl (cI, 20, .inl x_bags_sets))] → va_S A s.heap H locs → W p l e (rmK 6 152) s m args below meth c H locs 0 0 Q (F0 m pc ls [.int r9]) := by
    intro r9 o9_hand_size o9_hand_posts h9
    cases h9
    exact hret
  unfold f_X10_rowOf at hf
  refine lv_aload_n hx hb dX10_rowOf_0 rfl (lv_at hl 0 rfl) ?_
  refine va_get (D := (dC, dI)) (ci := 9) (v := .ref q_bags) (C := RX10) (T := TX10) (N := 10) hx hb htb inX10 hown hK hP 0 rfl rfl 5 (Nat.le_of_ble_eq_true rfl) (htb _ t_283) (fun _ h9 => h9) rfl dX10_rowOf_1 ?_
  refine lv_aload_n hx hb dX10_rowOf_4 rfl (lv_at hl 0 rfl) ?_
  refine va_get (D := (dC, dI)) (ci := 9) (v := .ref q_view) (C := RX10) (T := TX10) (N := 10) hx hb htb inX10 hown hK hP 0 rfl rfl 1 (Nat.le_of_ble_eq_true rfl) (htb _ t_279) (fun _ h9 => h9) rfl dX10_rowOf_5 ?_
  obtain ⟨v1, hv, hf⟩ := ob hf
  refine k_afterI (wr := [(q_, .inr (9, [.ref q_net, .ref q_view, .ref q_history, .ref q_hand, .ref q_trial, .ref q_bags, .ref q_chase, .ref q_costs, .ref q_sets, .ref q_trials])), (q_net, .inr (4, [.int x_net_posts, .int x_net_pairs, .ref q_net_widths, .ref q_net_lengths, .ref q_net_told, .ref q_net_behind])), (q_hand, .inr (5, [.ref q_hand_posts, .int x_hand_size])), (q_hand_posts, .inl (cI, 11, .inl x_hand_posts))]) (wn := [(q_, .inr (9, [.ref q_net, .ref q_view, .ref q_history, .ref q_hand, .ref q_trial, .ref q_bags, .ref q_chase, .ref q_costs, .ref q_sets, .ref q_trials])), (q_net, .inr (4, [.int x_net_posts, .int x_net_pairs, .ref q_net_widths, .ref q_net_lengths, .ref q_net_told, .ref q_net_behind])), (q_view, .inr (8, [.int x_view_posts, .int x_view_roads, .int x_view_weight, .ref q_view_weights, .ref q_view_near, .ref q_view_behind, .ref q_view_ahead])), (q_view_weights, .inl (cI, 121, .inl x_view_weights)), (q_hand, .inr (5, [.ref q_hand_posts, .int x_hand_size])), (q_hand_posts, .inl (cI, 11, .inl x_hand_posts)), (q_bags, .inr (0, [.ref q_bags_sets, .int x_bags_size])), (q_bags_sets, .inl (cI, 20, .inl x_bags_sets))]) (k_runV (rest := []) (ci := 0) (q0 := 6) hx hb hml hown htb hK hN (c_X0_fault l dC dI cI cZ cN q_bags q_bags_sets q_view q_view_weights q_view_near q_view_behind q_view_ahead x_bags_size x_bags_sets x_view_posts x_view_roads x_view_weight x_view_weights v1 hv _) vf_X0_fault t_699 hP hD [6, 7, 2, 3] rfl rfl rfl rfl ⟨(Nat.le_of_ble_eq_true rfl), (Nat.le_of_ble_eq_true rfl)⟩ rfl hl.1 rfl (Nat.le_of_ble_eq_true rfl) dX10_rowOf_8 ⟨Nat.zero_le _, Nat.zero_le _⟩) hA hP hD hS [6, 7, 2, 3] [0, 1, 4, 5] [0, 1, 6, 7, 2, 3, 4, 5] rfl rfl rfl rfl ?_
  clear hP hD hS
  intro H locs hP hD hS
  refine lv_if_eq (tgt := 17) hx hb dX10_rowOf_11 (by decide) (fun c2 => ?_) (fun c2 => ?_)
  · have hf := ip c2 hf
    refine lv_aload_n hx hb dX10_rowOf_17 rfl (lv_at hl 0 rfl) ?_
    refine va_get (D := (dC, dI)) (ci := 9) (v := .ref q_bags) (C := RX10) (T := TX10) (N := 10) hx hb htb inX10 hown hK hP 0 rfl rfl 5 (Nat.le_of_ble_eq_true rfl) (htb _ t_283) (fun _ h9 => h9) rfl dX10_rowOf_18 ?_
    refine lv_aload_n hx hb dX10_rowOf_21 rfl (lv_at hl 0 rfl) ?_
    refine va_get (D := (dC, dI)) (ci := 9) (v := .ref q_hand) (C := RX10) (T := TX10) (N := 10) hx hb htb inX10 hown hK hP 0 rfl rfl 3 (Nat.le_of_ble_eq_true rfl) (htb _ t_281) (fun _ h9 => h9) rfl dX10_rowOf_22 ?_
    refine lv_aload_n hx hb dX10_rowOf_25 rfl (lv_at hl 0 rfl) ?_
    refine va_get (D := (dC, dI)) (ci := 9) (v := .ref q_net) (C := RX10) (T := TX10) (N := 10) hx hb htb inX10 hown hK hP 0 rfl rfl 0 (Nat.le_of_ble_eq_true rfl) (htb _ t_278) (fun _ h9 => h9) rfl dX10_rowOf_26 ?_
    refine va_get (D := (dC, dI)) (ci := 4) (v := .int x_net_posts) (C := RX4) (T := TX4) (N := 6) hx hb htb inX4 hown hK hP 1 rfl rfl 0 (Nat.le_of_ble_eq_true rfl) (htb _ t_35) (fun _ h9 => h9) rfl dX10_rowOf_29 ?_
    obtain ⟨o3, o4, hv, hf⟩ := ob2 hf
    refine k_afterV (wr := [(q_, .inr (9, [.ref q_net, .ref q_view, .ref q_history, .ref q_hand, .ref q_trial, .ref q_bags, .ref q_chase, .ref q_costs, .ref q_sets, .ref q_trials])), (q_net, .inr (4, [.int x_net_posts, .int x_net_pairs, .ref q_net_widths, .ref q_net_lengths, .ref q_net_told, .ref q_net_behind])), (q_view, .inr (8, [.int x_view_posts, .int x_view_roads, .int x_view_weight, .ref q_view_weights, .ref q_view_near, .ref q_view_behind, .ref q_view_ahead])), (q_view_weights, .inl (cI, 121, .inl x_view_weights))]) (wn := [(q_, .inr (9, [.ref q_net, .ref q_view, .ref q_history, .ref q_hand, .ref q_trial, .ref q_bags, .ref q_chase, .ref q_costs, .ref q_sets, .ref q_trials])), (q_net, .inr (4, [.int x_net_posts, .int x_net_pairs, .ref q_net_widths, .ref q_net_lengths, .ref q_net_told, .ref q_net_behind])), (q_view, .inr (8, [.int x_view_posts, .int x_view_roads, .int x_view_weight, .ref q_view_weights, .ref q_view_near, .ref q_view_behind, .ref q_view_ahead])), (q_view_weights, .inl (cI, 121, .inl x_view_weights)), (q_hand, .inr (5, [.ref q_hand_posts, .int o3])), (q_hand_posts, .inl (cI, 11, .inl o4)), (q_bags, .inr (0, [.ref q_bags_sets, .int x_bags_size])), (q_bags_sets, .inl (cI, 20, .inl x_bags_sets))]) (k_runV (rest := []) (ci := 0) (q0 := 6) hx hb hml hown htb hK hN (c_X0_rowInto l dC dI cI cZ cN q_bags q_bags_sets q_hand q_hand_posts x_bags_size x_bags_sets x_hand_size x_hand_posts x_net_posts o3 o4 hv _) vf_X0_rowInto t_729 hP hD [6, 7, 4, 5] rfl rfl rfl rfl ⟨(Nat.le_of_ble_eq_true rfl), (Nat.le_of_ble_eq_true rfl)⟩ rfl hl.1 rfl (Nat.le_of_ble_eq_true rfl) dX10_rowOf_32 ⟨Nat.zero_le _, Nat.zero_le _⟩) hA hP hD hS [6, 7, 4, 5] [0, 1, 2, 3] [0, 1, 2, 3, 6, 7, 4, 5] rfl rfl rfl rfl ?_
    clear hP hD hS
    intro H locs hP hD hS
    refine lv_aload_n hx hb dX10_rowOf_35 rfl (lv_at hl 0 rfl) ?_
    refine va_get (D := (dC, dI)) (ci := 9) (v := .ref q_bags) (C := RX10) (T := TX10) (N := 10) hx hb htb inX10 hown hK hP 0 rfl rfl 5 (Nat.le_of_ble_eq_true rfl) (htb _ t_283) (fun _ h9 => h9) rfl dX10_rowOf_36 ?_
    refine lv_aload_n hx hb dX10_rowOf_39 rfl (lv_at hl 0 rfl) ?_
    refine va_get (D := (dC, dI)) (ci := 9) (v := .ref q_net) (C := RX10) (T := TX10) (N := 10) hx hb htb inX10 hown hK hP 0 rfl rfl 0 (Nat.le_of_ble_eq_true rfl) (htb _ t_278) (fun _ h9 => h9) rfl dX10_rowOf_40 ?_
    refine va_get (D := (dC, dI)) (ci := 4) (v := .int x_net_posts) (C := RX4) (T := TX4) (N := 6) hx hb htb inX4 hown hK hP 1 rfl rfl 0 (Nat.le_of_ble_eq_true rfl) (htb _ t_35) (fun _ h9 => h9) rfl dX10_rowOf_43 ?_
    obtain ⟨v5, hv, hf⟩ := ob hf
    refine k_afterI (wr := [(q_, .inr (9, [.ref q_net, .ref q_view, .ref q_history, .ref q_hand, .ref q_trial, .ref q_bags, .ref q_chase, .ref q_costs, .ref q_sets, .ref q_trials])), (q_net, .inr (4, [.int x_net_posts, .int x_net_pairs, .ref q_net_widths, .ref q_net_lengths, .ref q_net_told, .ref q_net_behind])), (q_view, .inr (8, [.int x_view_posts, .int x_view_roads, .int x_view_weight, .ref q_view_weights, .ref q_view_near, .ref q_view_behind, .ref q_view_ahead])), (q_view_weights, .inl (cI, 121, .inl x_view_weights)), (q_hand, .inr (5, [.ref q_hand_posts, .int o3])), (q_hand_posts, .inl (cI, 11, .inl o4))]) (wn := [(q_, .inr (9, [.ref q_net, .ref q_view, .ref q_history, .ref q_hand, .ref q_trial, .ref q_bags, .ref q_chase, .ref q_costs, .ref q_sets, .ref q_trials])), (q_net, .inr (4, [.int x_net_posts, .int x_net_pairs, .ref q_net_widths, .ref q_net_lengths, .ref q_net_told, .ref q_net_behind])), (q_view, .inr (8, [.int x_view_posts, .int x_view_roads, .int x_view_weight, .ref q_view_weights, .ref q_view_near, .ref q_view_behind, .ref q_view_ahead])), (q_view_weights, .inl (cI, 121, .inl x_view_weights)), (q_hand, .inr (5, [.ref q_hand_posts, .int o3])), (q_hand_posts, .inl (cI, 11, .inl o4)), (q_bags, .inr (0, [.ref q_bags_sets, .int x_bags_size])), (q_bags_sets, .inl (cI, 20, .inl x_bags_sets))]) (k_runV (rest := []) (ci := 0) (q0 := 6) hx hb hml hown htb hK hN (c_X0_largest l dC dI cI cZ cN q_bags q_bags_sets x_bags_size x_bags_sets x_net_posts v5 hv _) vf_X0_largest t_735 hP hD [6, 7] rfl rfl rfl rfl ⟨(Nat.le_of_ble_eq_true rfl), (Nat.le_of_ble_eq_true rfl)⟩ rfl hl.1 rfl (Nat.le_of_ble_eq_true rfl) dX10_rowOf_46 ⟨Nat.zero_le _, Nat.zero_le _⟩) hA hP hD hS [6, 7] [0, 1, 2, 3, 4, 5] [0, 1, 2, 3, 4, 5, 6, 7] rfl rfl rfl rfl ?_
    clear hP hD hS
    intro H locs hP hD hS
    exact hret _ _ _ hf _ _ _ _ rfl dX10_rowOf_49 hP hD hS
  · have hf := im c2 hf
    refine lv_bipush (v := (-4 : Int32)) hx hb dX10_rowOf_14 (by decide) ?_
    exact hret _ _ _ hf _ _ _ _ rfl dX10_rowOf_16 hP hD hS
theorem vf_X10_hunt : VF yX10_hunt cX10_hunt 4 (some .int) 1 := ⟨t_742, t_743, t_1, t_744, by decide +kernel, by decide +kernel, by decide +kernel⟩
theorem dX10_hunt_0 : decode cX10_hunt 0 = .ok (.iload_n 1, 1) := by decide +kernel
theorem dX10_hunt_1 : decode cX10_hunt 1 = .ok (.ifCond .lt 13, 3) := by decide +kernel
theorem dX10_hunt_4 : decode cX10_hunt 4 = .ok (.iload_n 1, 1) := by decide +kernel
theorem dX10_hunt_5 : decode cX10_hunt 5 = .ok (.bipush 11, 2) := by decide +kernel
theorem dX10_hunt_7 : decode cX10_hunt 7 = .ok (.if_icmp .ge 7, 3) := by decide +kernel
theorem dX10_hunt_10 : decode cX10_hunt 10 = .ok (.iconst 1, 1) := by decide +kernel
theorem dX10_hunt_11 : decode cX10_hunt 11 = .ok (.goto 4, 3) := by decide +kernel
theorem dX10_hunt_14 : decode cX10_hunt 14 = .ok (.iconst 0, 1) := by decide +kernel
theorem dX10_hunt_15 : decode cX10_hunt 15 = .ok (.istore_n 2, 1) := by decide +kernel
theorem dX10_hunt_16 : decode cX10_hunt 16 = .ok (.iload_n 1, 1) := by decide +kernel
theorem dX10_hunt_17 : decode cX10_hunt 17 = .ok (.bipush 100, 2) := by decide +kernel
theorem dX10_hunt_19 : decode cX10_hunt 19 = .ok (.if_icmp .lt 13, 3) := by decide +kernel
theorem dX10_hunt_22 : decode cX10_hunt 22 = .ok (.iload_n 1, 1) := by decide +kernel
theorem dX10_hunt_23 : decode cX10_hunt 23 = .ok (.bipush 111, 2) := by decide +kernel
theorem dX10_hunt_25 : decode cX10_hunt 25 = .ok (.if_icmp .ge 7, 3) := by decide +kernel
theorem dX10_hunt_28 : decode cX10_hunt 28 = .ok (.iconst 1, 1) := by decide +kernel
theorem dX10_hunt_29 : decode cX10_hunt 29 = .ok (.goto 4, 3) := by decide +kernel
theorem dX10_hunt_32 : decode cX10_hunt 32 = .ok (.iconst 0, 1) := by decide +kernel
theorem dX10_hunt_33 : decode cX10_hunt 33 = .ok (.istore_n 3, 1) := by decide +kernel
theorem dX10_hunt_34 : decode cX10_hunt 34 = .ok (.iload_n 2, 1) := by decide +kernel
theorem dX10_hunt_35 : decode cX10_hunt 35 = .ok (.ifCond .ne 10, 3) := by decide +kernel
theorem dX10_hunt_38 : decode cX10_hunt 38 = .ok (.iload_n 3, 1) := by decide +kernel
theorem dX10_hunt_39 : decode cX10_hunt 39 = .ok (.ifCond .ne 6, 3) := by decide +kernel
theorem dX10_hunt_42 : decode cX10_hunt 42 = .ok (.bipush (-3), 2) := by decide +kernel
theorem dX10_hunt_44 : decode cX10_hunt 44 = .ok (.ireturn, 1) := by decide +kernel
theorem dX10_hunt_45 : decode cX10_hunt 45 = .ok (.aload_n 0, 1) := by decide +kernel
theorem dX10_hunt_46 : decode cX10_hunt 46 = .ok (.getfield 50, 3) := by decide +kernel
theorem dX10_hunt_49 : decode cX10_hunt 49 = .ok (.getfield 246, 3) := by decide +kernel
theorem dX10_hunt_52 : decode cX10_hunt 52 = .ok (.bipush 60, 2) := by decide +kernel
theorem dX10_hunt_54 : decode cX10_hunt 54 = .ok (.if_icmp .lt 6, 3) := by decide +kernel
theorem dX10_hunt_57 : decode cX10_hunt 57 = .ok (.bipush (-5), 2) := by decide +kernel
theorem dX10_hunt_59 : decode cX10_hunt 59 = .ok (.ireturn, 1) := by decide +kernel
theorem dX10_hunt_60 : decode cX10_hunt 60 = .ok (.aload_n 0, 1) := by decide +kernel
theorem dX10_hunt_61 : decode cX10_hunt 61 = .ok (.getfield 50, 3) := by decide +kernel
theorem dX10_hunt_64 : decode cX10_hunt 64 = .ok (.iload_n 1, 1) := by decide +kernel
theorem dX10_hunt_65 : decode cX10_hunt 65 = .ok (.invokevirtual 247, 3) := by decide +kernel
theorem dX10_hunt_68 : decode cX10_hunt 68 = .ok (.aload_n 0, 1) := by decide +kernel
theorem dX10_hunt_69 : decode cX10_hunt 69 = .ok (.getfield 50, 3) := by decide +kernel
theorem dX10_hunt_72 : decode cX10_hunt 72 = .ok (.getfield 246, 3) := by decide +kernel
theorem dX10_hunt_75 : decode cX10_hunt 75 = .ok (.ireturn, 1) := by decide +kernel
noncomputable def f_X10_hunt (x_chase_size : Int32) (x_chase_moves : Nat → Int32) (i1 : Int32) : Option (Int32 × Int32 × (Nat → Int32)) :=
  ((if i1 < 0 then (some (0 : Int32)) else (if (11 : Int32) ≤ i1 then (some (0 : Int32)) else (some (1 : Int32))) : Option (Int32))).bind fun t1 =>
  ((if i1 < (100 : Int32) then (some (0 : Int32)) else (if (111 : Int32) ≤ i1 then (some (0 : Int32)) else (some (1 : Int32))) : Option (Int32))).bind fun t3 =>
  if t1 = 0 then (if t3 = 0 then (some (((-3 : Int32), x_chase_size, x_chase_moves))) else (if x_chase_size < (60 : Int32) then (b2 (f_X1_append x_chase_size x_chase_moves i1) fun o11 o12 =>
  some ((o11, o11, o12))) else (some (((-5 : Int32), x_chase_size, x_chase_moves))))) else (if x_chase_size < (60 : Int32) then (b2 (f_X1_append x_chase_size x_chase_moves i1) fun o7 o8 =>
  some ((o7, o7, o8))) else (some (((-5 : Int32), x_chase_size, x_chase_moves))))
set_option maxHeartbeats 4000000 in
set_option maxRecDepth 100000 in
theorem c_X10_hunt (l : Launch) (dC : Nat → ClassId) (dI : Nat → Nat → Nat) (cI cZ cN : ClassId) (q_ : Nat) (q_net : Nat) (q_view : Nat) (q_history : Nat) (q_hand : Nat) (q_trial : Nat) (q_bags : Nat) (q_chase : Nat) (q_costs : Nat) (q_sets : Nat) (q_trials : Nat) (q_chase_moves : Nat) (q_chase_foul : Nat) (x_chase_size : Int32) (x_chase_guarded : Int32) (x_chase_most : Int32) (x_chase_again : Int32) (x_chase_idle : Int32) (x_chase_moves : Nat → Int32) (i1 : Int32) (r : Int32) (o_chase_size : Int32) (o_chase_moves : Nat → Int32) (hf : f_X10_hunt x_chase_size x_chase_moves i1 = some (r, o_chase_size, o_chase_moves)) : CI l yX10_hunt cX10_hunt 4 (some .int) 3 81 (dC, dI) (TY cI cZ cN) [.ref q_, .int i1] [(q_, .inr (9, [.ref q_net, .ref q_view, .ref q_history, .ref q_hand, .ref q_trial, .ref q_bags, .ref q_chase, .ref q_costs, .ref q_sets, .ref q_trials])), (q_chase, .inr (1, [.ref q_chase_moves, .int x_chase_size, .ref q_chase_foul, .int x_chase_guarded, .int x_chase_most, .int x_chase_again, .int x_chase_idle])), (q_chase_moves, .inl (cI, 60, .inl x_chase_moves))] [(q_, .inr (9, [.ref q_net, .ref q_view, .ref q_history, .ref q_hand, .ref q_trial, .ref q_bags, .ref q_chase, .ref q_costs, .ref q_sets, .ref q_trials])), (q_chase, .inr (1, [.ref q_chase_moves, .int o_chase_size, .ref q_chase_foul, .int x_chase_guarded, .int x_chase_most, .int x_chase_again, .int x_chase_idle])), (q_chase_moves, .inl (cI, 60, .inl o_chase_moves))] r := by
  refine CI.of rfl (by decide) (Nat.le_of_ble_eq_true rfl) ?_
  intro p e s m args below meth c Q A ls hx hb hml hown htb hK hN hA hP hD hS hl hret
  have hown : s.vm.findClass RX10 = some m.cls := hown
  have hl : lv_has ls 4 [(0, .ref q_), (1, .int i1)] := hl
  have hret : ∀ (r9 : Int32) (o9_chase_size : Int32) (o9_chase_moves : Nat → Int32), some (r9, o9_chase_size, o9_chase_moves) = some (r, o_chase_size, o_chase_moves) → ∀ (H : Heap) (locs : List Loc) (pc : Nat) (ls : Array Slot), narrow .int (.int r9) = .int r9 → decode cX10_hunt pc = .ok (.ireturn, 1) → va_P (dC, dI) vwCl [(q_, .inr (9, [.ref q_net, .ref q_view, .ref q_history, .ref q_hand, .ref q_trial, .ref q_bags, .ref q_chase, .ref q_costs, .ref q_sets, .ref q_trials])), (q_chase, .inr (1, [.ref q_chase_moves, .int o9_chase_size, .ref q_chase_foul, .int x_chase_guarded, .int x_chase_most, .int x_chase_again, .int x_chase_idle])), (q_chase_moves, .inl (cI, 60, .inl o9_chase_moves))] H → va_D A [(q_, .inr (9, [.ref q_net, .ref q_view, .ref q_history, .ref q_hand, .ref q_trial, .ref q_bags, .ref q_chase, .ref q_costs, .ref q_sets, .ref q_trials])), (q_chase, .inr (1, [.ref q_chase_moves, .int o9_chase_size, .ref q_chase_foul, .int x_chase_guarded, .int x_chase_most, .int x_chase_again, .int x_chase_idle])), (q_chase_moves, .inl (cI, 60, .inl o9_chase_moves))] → va_S A s.heap H locs → W p l e (rmK 3 81) s m args below meth c H locs 0 0 Q (F0 m pc ls [.int r9]) := by
    intro r9 o9_chase_size o9_chase_moves h9
    cases h9
    exact hret
  unfold f_X10_hunt at hf
  refine lv_iload_n hx hb dX10_hunt_0 rfl (lv_at hl 1 rfl) ?_
  obtain ⟨t1, hv, hf⟩ := ob hf
  have key2 : ∀ (H : Heap) (locs : List Loc) (ls : Array Slot), va_P (dC, dI) vwCl [(q_, .inr (9, [.ref q_net, .ref q_view, .ref q_history, .ref q_hand, .ref q_trial, .ref q_bags, .ref q_chase, .ref q_costs, .ref q_sets, .ref q_trials])), (q_chase, .inr (1, [.ref q_chase_moves, .int x_chase_size, .ref q_chase_foul, .int x_chase_guarded, .int x_chase_most, .int x_chase_again, .int x_chase_idle])), (q_chase_moves, .inl (cI, 60, .inl x_chase_moves))] H → va_D A [(q_, .inr (9, [.ref q_net, .ref q_view, .ref q_history, .ref q_hand, .ref q_trial, .ref q_bags, .ref q_chase, .ref q_costs, .ref q_sets, .ref q_trials])), (q_chase, .inr (1, [.ref q_chase_moves, .int x_chase_size, .ref q_chase_foul, .int x_chase_guarded, .int x_chase_most, .int x_chase_again, .int x_chase_idle])), (q_chase_moves, .inl (cI, 60, .inl x_chase_moves))] → va_S A s.heap H locs → lv_has ls 4 [(0, .ref q_), (1, .int i1)] → W p l e (rmK 3 81) s m args below meth c H locs 0 0 Q (F0 m 15 ls [.int t1]) := by
    intro H locs ls hP hD hS hl
    refine lv_istore_n (lv' := [(2, .int t1), (0, .ref q_), (1, .int i1)]) hx hb dX10_hunt_15 rfl hl (by decide) rfl (fun ls hl => ?_)
    refine lv_iload_n hx hb dX10_hunt_16 rfl (lv_at hl 2 rfl) ?_
    refine lv_bipush (v := (100 : Int32)) hx hb dX10_hunt_17 (by decide) ?_
    obtain ⟨t3, hv, hf⟩ := ob hf
    have key4 : ∀ (H : Heap) (locs : List Loc) (ls : Array Slot), va_P (dC, dI) vwCl [(q_, .inr (9, [.ref q_net, .ref q_view, .ref q_history, .ref q_hand, .ref q_trial, .ref q_bags, .ref q_chase, .ref q_costs, .ref q_sets, .ref q_trials])), (q_chase, .inr (1, [.ref q_chase_moves, .int x_chase_size, .ref q_chase_foul, .int x_chase_guarded, .int x_chase_most, .int x_chase_again, .int x_chase_idle])), (q_chase_moves, .inl (cI, 60, .inl x_chase_moves))] H → va_D A [(q_, .inr (9, [.ref q_net, .ref q_view, .ref q_history, .ref q_hand, .ref q_trial, .ref q_bags, .ref q_chase, .ref q_costs, .ref q_sets, .ref q_trials])), (q_chase, .inr (1, [.ref q_chase_moves, .int x_chase_size, .ref q_chase_foul, .int x_chase_guarded, .int x_chase_most, .int x_chase_again, .int x_chase_idle])), (q_chase_moves, .inl (cI, 60, .inl x_chase_moves))] → va_S A s.heap H locs → lv_has ls 4 [(0, .ref q_), (1, .int i1), (2, .int t1)] → W p l e (rmK 3 81) s m args below meth c H locs 0 0 Q (F0 m 33 ls [.int t3]) := by
      intro H locs ls hP hD hS hl
      refine lv_istore_n (lv' := [(3, .int t3), (0, .ref q_), (1, .int i1), (2, .int t1)]) hx hb dX10_hunt_33 rfl hl (by decide) rfl (fun ls hl => ?_)
      refine lv_iload_n hx hb dX10_hunt_34 rfl (lv_at hl 3 rfl) ?_
      refine lv_if_ne (tgt := 45) hx hb dX10_hunt_35 (by decide) (fun c5 => ?_) (fun c5 => ?_)
      · have hf := im c5 hf
        refine lv_aload_n hx hb dX10_hunt_45 rfl (lv_at hl 1 rfl) ?_
        refine va_get (D := (dC, dI)) (ci := 9) (v := .ref q_chase) (C := RX10) (T := TX10) (N := 10) hx hb htb inX10 hown hK hP 0 rfl rfl 6 (Nat.le_of_ble_eq_true rfl) (htb _ t_284) (fun _ h9 => h9) rfl dX10_hunt_46 ?_
        refine va_get (D := (dC, dI)) (ci := 1) (v := .int x_chase_size) (C := RX1) (T := TX1) (N := 7) hx hb htb inX1 hown hK hP 1 rfl rfl 1 (Nat.le_of_ble_eq_true rfl) (htb _ t_167) (fun _ h9 => h9) rfl dX10_hunt_49 ?_
        refine lv_bipush (v := (60 : Int32)) hx hb dX10_hunt_52 (by decide) ?_
        refine lv_icmp_lt (tgt := 60) hx hb dX10_hunt_54 (by decide) (fun c6 => ?_) (fun c6 => ?_)
        · have hf := ip c6 hf
          refine lv_aload_n hx hb dX10_hunt_60 rfl (lv_at hl 1 rfl) ?_
          refine va_get (D := (dC, dI)) (ci := 9) (v := .ref q_chase) (C := RX10) (T := TX10) (N := 10) hx hb htb inX10 hown hK hP 0 rfl rfl 6 (Nat.le_of_ble_eq_true rfl) (htb _ t_284) (fun _ h9 => h9) rfl dX10_hunt_61 ?_
          refine lv_iload_n hx hb dX10_hunt_64 rfl (lv_at hl 2 rfl) ?_
          obtain ⟨o7, o8, hv, hf⟩ := ob2 hf
          refine k_afterV (wr := [(q_, .inr (9, [.ref q_net, .ref q_view, .ref q_history, .ref q_hand, .ref q_trial, .ref q_bags, .ref q_chase, .ref q_costs, .ref q_sets, .ref q_trials]))]) (wn := [(q_, .inr (9, [.ref q_net, .ref q_view, .ref q_history, .ref q_hand, .ref q_trial, .ref q_bags, .ref q_chase, .ref q_costs, .ref q_sets, .ref q_trials])), (q_chase, .inr (1, [.ref q_chase_moves, .int o7, .ref q_chase_foul, .int x_chase_guarded, .int x_chase_most, .int x_chase_again, .int x_chase_idle])), (q_chase_moves, .inl (cI, 60, .inl o8))]) (k_runV (rest := []) (ci := 1) (q0 := 1) hx hb hml hown htb hK hN (c_X1_append l dC dI cI cZ cN q_chase q_chase_moves q_chase_foul x_chase_size x_chase_guarded x_chase_most x_chase_again x_chase_idle x_chase_moves i1 o7 o8 hv _) vf_X1_append t_745 hP hD [1, 2] rfl rfl rfl rfl ⟨(Nat.le_of_ble_eq_true rfl), (Nat.le_of_ble_eq_true rfl)⟩ rfl hl.1 rfl (Nat.le_of_ble_eq_true rfl) dX10_hunt_65 ⟨Nat.zero_le _, Nat.zero_le _⟩) hA hP hD hS [1, 2] [0] [0, 1, 2] rfl rfl rfl rfl ?_
          clear hP hD hS
          intro H locs hP hD hS
          refine lv_aload_n hx hb dX10_hunt_68 rfl (lv_at hl 1 rfl) ?_
          refine va_get (D := (dC, dI)) (ci := 9) (v := .ref q_chase) (C := RX10) (T := TX10) (N := 10) hx hb htb inX10 hown hK hP 0 rfl rfl 6 (Nat.le_of_ble_eq_true rfl) (htb _ t_284) (fun _ h9 => h9) rfl dX10_hunt_69 ?_
          refine va_get (D := (dC, dI)) (ci := 1) (v := .int o7) (C := RX1) (T := TX1) (N := 7) hx hb htb inX1 hown hK hP 1 rfl rfl 1 (Nat.le_of_ble_eq_true rfl) (htb _ t_167) (fun _ h9 => h9) rfl dX10_hunt_72 ?_
          exact hret _ _ _ hf _ _ _ _ rfl dX10_hunt_75 hP hD hS
        · have hf := im c6 hf
          refine lv_bipush (v := (-5 : Int32)) hx hb dX10_hunt_57 (by decide) ?_
          exact hret _ _ _ hf _ _ _ _ rfl dX10_hunt_59 hP hD hS
      · have hf := ip c5 hf
        refine lv_iload_n hx hb dX10_hunt_38 rfl (lv_at hl 0 rfl) ?_
        refine lv_if_ne (tgt := 45) hx hb dX10_hunt_39 (by decide) (fun c9 => ?_) (fun c9 => ?_)
        · have hf := im c9 hf
          refine lv_aload_n hx hb dX10_hunt_45 rfl (lv_at hl 1 rfl) ?_
          refine va_get (D := (dC, dI)) (ci := 9) (v := .ref q_chase) (C := RX10) (T := TX10) (N := 10) hx hb htb inX10 hown hK hP 0 rfl rfl 6 (Nat.le_of_ble_eq_true rfl) (htb _ t_284) (fun _ h9 => h9) rfl dX10_hunt_46 ?_
          refine va_get (D := (dC, dI)) (ci := 1) (v := .int x_chase_size) (C := RX1) (T := TX1) (N := 7) hx hb htb inX1 hown hK hP 1 rfl rfl 1 (Nat.le_of_ble_eq_true rfl) (htb _ t_167) (fun _ h9 => h9) rfl dX10_hunt_49 ?_
          refine lv_bipush (v := (60 : Int32)) hx hb dX10_hunt_52 (by decide) ?_
          refine lv_icmp_lt (tgt := 60) hx hb dX10_hunt_54 (by decide) (fun c10 => ?_) (fun c10 => ?_)
          · have hf := ip c10 hf
            refine lv_aload_n hx hb dX10_hunt_60 rfl (lv_at hl 1 rfl) ?_
            refine va_get (D := (dC, dI)) (ci := 9) (v := .ref q_chase) (C := RX10) (T := TX10) (N := 10) hx hb htb inX10 hown hK hP 0 rfl rfl 6 (Nat.le_of_ble_eq_true rfl) (htb _ t_284) (fun _ h9 => h9) rfl dX10_hunt_61 ?_
            refine lv_iload_n hx hb dX10_hunt_64 rfl (lv_at hl 2 rfl) ?_
            obtain ⟨o11, o12, hv, hf⟩ := ob2 hf
            refine k_afterV (wr := [(q_, .inr (9, [.ref q_net, .ref q_view, .ref q_history, .ref q_hand, .ref q_trial, .ref q_bags, .ref q_chase, .ref q_costs, .ref q_sets, .ref q_trials]))]) (wn := [(q_, .inr (9, [.ref q_net, .ref q_view, .ref q_history, .ref q_hand, .ref q_trial, .ref q_bags, .ref q_chase, .ref q_costs, .ref q_sets, .ref q_trials])), (q_chase, .inr (1, [.ref q_chase_moves, .int o11, .ref q_chase_foul, .int x_chase_guarded, .int x_chase_most, .int x_chase_again, .int x_chase_idle])), (q_chase_moves, .inl (cI, 60, .inl o12))]) (k_runV (rest := []) (ci := 1) (q0 := 1) hx hb hml hown htb hK hN (c_X1_append l dC dI cI cZ cN q_chase q_chase_moves q_chase_foul x_chase_size x_chase_guarded x_chase_most x_chase_again x_chase_idle x_chase_moves i1 o11 o12 hv _) vf_X1_append t_745 hP hD [1, 2] rfl rfl rfl rfl ⟨(Nat.le_of_ble_eq_true rfl), (Nat.le_of_ble_eq_true rfl)⟩ rfl hl.1 rfl (Nat.le_of_ble_eq_true rfl) dX10_hunt_65 ⟨Nat.zero_le _, Nat.zero_le _⟩) hA hP hD hS [1, 2] [0] [0, 1, 2] rfl rfl rfl rfl ?_
            clear hP hD hS
            intro H locs hP hD hS
            refine lv_aload_n hx hb dX10_hunt_68 rfl (lv_at hl 1 rfl) ?_
            refine va_get (D := (dC, dI)) (ci := 9) (v := .ref q_chase) (C := RX10) (T := TX10) (N := 10) hx hb htb inX10 hown hK hP 0 rfl rfl 6 (Nat.le_of_ble_eq_true rfl) (htb _ t_284) (fun _ h9 => h9) rfl dX10_hunt_69 ?_
            refine va_get (D := (dC, dI)) (ci := 1) (v := .int o11) (C := RX1) (T := TX1) (N := 7) hx hb htb inX1 hown hK hP 1 rfl rfl 1 (Nat.le_of_ble_eq_true rfl) (htb _ t_167) (fun _ h9 => h9) rfl dX10_hunt_72 ?_
            exact hret _ _ _ hf _ _ _ _ rfl dX10_hunt_75 hP hD hS
          · have hf := im c10 hf
            refine lv_bipush (v := (-5 : Int32)) hx hb dX10_hunt_57 (by decide) ?_
            exact hret _ _ _ hf _ _ _ _ rfl dX10_hunt_59 hP hD hS
        · have hf := ip c9 hf
          refine lv_bipush (v := (-3 : Int32)) hx hb dX10_hunt_42 (by decide) ?_
          exact hret _ _ _ hf _ _ _ _ rfl dX10_hunt_44 hP hD hS
    replace hf := hv
    refine lv_icmp_lt (tgt := 32) hx hb dX10_hunt_19 (by decide) (fun c13 => ?_) (fun c13 => ?_)
    · have hf := ip c13 hf
      refine lv_iconst (v := (0 : Int32)) hx hb dX10_hunt_32 (by decide) ?_
      cases hf
      exact key4 _ _ _ hP hD hS (lv_sub hl [1, 2, 0] rfl)
    · have hf := im c13 hf
      refine lv_iload_n hx hb dX10_hunt_22 rfl (lv_at hl 2 rfl) ?_
      refine lv_bipush (v := (111 : Int32)) hx hb dX10_hunt_23 (by decide) ?_
      refine lv_icmp_ge (tgt := 32) hx hb dX10_hunt_25 (by decide) (fun c14 => ?_) (fun c14 => ?_)
      · have hf := ip c14 hf
        refine lv_iconst (v := (0 : Int32)) hx hb dX10_hunt_32 (by decide) ?_
        cases hf
        exact key4 _ _ _ hP hD hS (lv_sub hl [1, 2, 0] rfl)
      · have hf := im c14 hf
        refine lv_iconst (v := (1 : Int32)) hx hb dX10_hunt_28 (by decide) ?_
        refine lv_goto (tgt := 33) hx hb dX10_hunt_29 (by decide) ?_
        cases hf
        exact key4 _ _ _ hP hD hS (lv_sub hl [1, 2, 0] rfl)
  replace hf := hv
  refine lv_if_lt (tgt := 14) hx hb dX10_hunt_1 (by decide) (fun c15 => ?_) (fun c15 => ?_)
  · have hf := ip c15 hf
    refine lv_iconst (v := (0 : Int32)) hx hb dX10_hunt_14 (by decide) ?_
    cases hf
    exact key2 _ _ _ hP hD hS (lv_sub hl [0, 1] rfl)
  · have hf := im c15 hf
    refine lv_iload_n hx hb dX10_hunt_4 rfl (lv_at hl 1 rfl) ?_
    refine lv_bipush (v := (11 : Int32)) hx hb dX10_hunt_5 (by decide) ?_
    refine lv_icmp_ge (tgt := 14) hx hb dX10_hunt_7 (by decide) (fun c16 => ?_) (fun c16 => ?_)
    · have hf := ip c16 hf
      refine lv_iconst (v := (0 : Int32)) hx hb dX10_hunt_14 (by decide) ?_
      cases hf
      exact key2 _ _ _ hP hD hS (lv_sub hl [0, 1] rfl)
    · have hf := im c16 hf
      refine lv_iconst (v := (1 : Int32)) hx hb dX10_hunt_10 (by decide) ?_
      refine lv_goto (tgt := 15) hx hb dX10_hunt_11 (by decide) ?_
      cases hf
      exact key2 _ _ _ hP hD hS (lv_sub hl [0, 1] rfl)
theorem vf_X10_calm : VF yX10_calm cX10_calm 2 (some .int) 0 := ⟨t_750, t_751, t_1, t_752, by decide +kernel, by decide +kernel, by decide +kernel⟩
theorem dX10_calm_0 : decode cX10_calm 0 = .ok (.aload_n 0, 1) := by decide +kernel
theorem dX10_calm_1 : decode cX10_calm 1 = .ok (.getfield 50, 3) := by decide +kernel
theorem dX10_calm_4 : decode cX10_calm 4 = .ok (.getfield 246, 3) := by decide +kernel
theorem dX10_calm_7 : decode cX10_calm 7 = .ok (.istore_n 1, 1) := by decide +kernel
theorem dX10_calm_8 : decode cX10_calm 8 = .ok (.aload_n 0, 1) := by decide +kernel
theorem dX10_calm_9 : decode cX10_calm 9 = .ok (.getfield 50, 3) := by decide +kernel
theorem dX10_calm_12 : decode cX10_calm 12 = .ok (.iconst 0, 1) := by decide +kernel
theorem dX10_calm_13 : decode cX10_calm 13 = .ok (.putfield 246, 3) := by decide +kernel
theorem dX10_calm_16 : decode cX10_calm 16 = .ok (.iload_n 1, 1) := by decide +kernel
theorem dX10_calm_17 : decode cX10_calm 17 = .ok (.ireturn, 1) := by decide +kernel
noncomputable def f_X10_calm (x_chase_size : Int32) : Option (Int32 × Int32) :=
  some ((x_chase_size, (0 : Int32)))
set_option maxHeartbeats 4000000 in
set_option maxRecDepth 100000 in
theorem c_X10_calm (l : Launch) (dC : Nat → ClassId) (dI : Nat → Nat → Nat) (cI cZ cN : ClassId) (q_ : Nat) (q_net : Nat) (q_view : Nat) (q_history : Nat) (q_hand : Nat) (q_trial : Nat) (q_bags : Nat) (q_chase : Nat) (q_costs : Nat) (q_sets : Nat) (q_trials : Nat) (q_chase_moves : Nat) (q_chase_foul : Nat) (x_chase_size : Int32) (x_chase_guarded : Int32) (x_chase_most : Int32) (x_chase_again : Int32) (x_chase_idle : Int32) (r : Int32) (o_chase_size : Int32) (hf : f_X10_calm x_chase_size = some (r, o_chase_size)) : CI l yX10_calm cX10_calm 2 (some .int) 2 60 (dC, dI) (TY cI cZ cN) [.ref q_] [(q_, .inr (9, [.ref q_net, .ref q_view, .ref q_history, .ref q_hand, .ref q_trial, .ref q_bags, .ref q_chase, .ref q_costs, .ref q_sets, .ref q_trials])), (q_chase, .inr (1, [.ref q_chase_moves, .int x_chase_size, .ref q_chase_foul, .int x_chase_guarded, .int x_chase_most, .int x_chase_again, .int x_chase_idle]))] [(q_, .inr (9, [.ref q_net, .ref q_view, .ref q_history, .ref q_hand, .ref q_trial, .ref q_bags, .ref q_chase, .ref q_costs, .ref q_sets, .ref q_trials])), (q_chase, .inr (1, [.ref q_chase_moves, .int o_chase_size, .ref q_chase_foul, .int x_chase_guarded, .int x_chase_most, .int x_chase_again, .int x_chase_idle]))] r := by
  refine CI.of rfl (by decide) (Nat.le_of_ble_eq_true rfl) ?_
  intro p e s m args below meth c Q A ls hx hb hml hown htb hK hN hA hP hD hS hl hret
  have hown : s.vm.findClass RX10 = some m.cls := hown
  have hl : lv_has ls 2 [(0, .ref q_)] := hl
  have hret : ∀ (r9 : Int32) (o9_chase_size : Int32), some (r9, o9_chase_size) = some (r, o_chase_size) → ∀ (H : Heap) (locs : List Loc) (pc : Nat) (ls : Array Slot), narrow .int (.int r9) = .int r9 → decode cX10_calm pc = .ok (.ireturn, 1) → va_P (dC, dI) vwCl [(q_, .inr (9, [.ref q_net, .ref q_view, .ref q_history, .ref q_hand, .ref q_trial, .ref q_bags, .ref q_chase, .ref q_costs, .ref q_sets, .ref q_trials])), (q_chase, .inr (1, [.ref q_chase_moves, .int o9_chase_size, .ref q_chase_foul, .int x_chase_guarded, .int x_chase_most, .int x_chase_again, .int x_chase_idle]))] H → va_D A [(q_, .inr (9, [.ref q_net, .ref q_view, .ref q_history, .ref q_hand, .ref q_trial, .ref q_bags, .ref q_chase, .ref q_costs, .ref q_sets, .ref q_trials])), (q_chase, .inr (1, [.ref q_chase_moves, .int o9_chase_size, .ref q_chase_foul, .int x_chase_guarded, .int x_chase_most, .int x_chase_again, .int x_chase_idle]))] → va_S A s.heap H locs → W p l e (rmK 2 60) s m args below meth c H locs 0 0 Q (F0 m pc ls [.int r9]) := by
    intro r9 o9_chase_size h9
    cases h9
    exact hret
  unfold f_X10_calm at hf
  refine lv_aload_n hx hb dX10_calm_0 rfl (lv_at hl 0 rfl) ?_
  refine va_get (D := (dC, dI)) (ci := 9) (v := .ref q_chase) (C := RX10) (T := TX10) (N := 10) hx hb htb inX10 hown hK hP 0 rfl rfl 6 (Nat.le_of_ble_eq_true rfl) (htb _ t_284) (fun _ h9 => h9) rfl dX10_calm_1 ?_
  refine va_get (D := (dC, dI)) (ci := 1) (v := .int x_chase_size) (C := RX1) (T := TX1) (N := 7) hx hb htb inX1 hown hK hP 1 rfl rfl 1 (Nat.le_of_ble_eq_true rfl) (htb _ t_167) (fun _ h9 => h9) rfl dX10_calm_4 ?_
  refine lv_istore_n (lv' := [(1, .int x_chase_size), (0, .ref q_)]) hx hb dX10_calm_7 rfl hl (by decide) rfl (fun ls hl => ?_)
  refine lv_aload_n hx hb dX10_calm_8 rfl (lv_at hl 1 rfl) ?_
  refine va_get (D := (dC, dI)) (ci := 9) (v := .ref q_chase) (C := RX10) (T := TX10) (N := 10) hx hb htb inX10 hown hK hP 0 rfl rfl 6 (Nat.le_of_ble_eq_true rfl) (htb _ t_284) (fun _ h9 => h9) rfl dX10_calm_9 ?_
  refine lv_iconst (v := (0 : Int32)) hx hb dX10_calm_12 (by decide) ?_
  refine k_put (wn := [(q_, .inr (9, [.ref q_net, .ref q_view, .ref q_history, .ref q_hand, .ref q_trial, .ref q_bags, .ref q_chase, .ref q_costs, .ref q_sets, .ref q_trials])), (q_chase, .inr (1, [.ref q_chase_moves, .int (0 : Int32), .ref q_chase_foul, .int x_chase_guarded, .int x_chase_most, .int x_chase_again, .int x_chase_idle]))]) (C := RX1) (T := TX1) (N := 7) (ci := 1) hx hb htb inX1 tyX1 tyX1_ok nmX1 hown hK hP hD hS 1 rfl rfl 1 (Nat.le_of_ble_eq_true rfl) t_167 (fun _ h9 => h9) rfl (tyX1_ok 1 (Nat.le_of_ble_eq_true rfl)) (Nat.le_of_ble_eq_true rfl) rfl dX10_calm_13 ?_
  clear hP hD hS
  intro H locs hP hD hS
  refine lv_iload_n hx hb dX10_calm_16 rfl (lv_at hl 0 rfl) ?_
  exact hret _ _ hf _ _ _ _ rfl dX10_calm_17 hP hD hS
theorem vf_X10_plannedMoves : VF yX10_plannedMoves cX10_plannedMoves 5 (some .int) 0 := ⟨t_759, tp_21, t_1, t_760, by decide +kernel, by decide +kernel, by decide +kernel⟩
theorem dX10_plannedMoves_0 : decode cX10_plannedMoves 0 = .ok (.iconst 0, 1) := by decide +kernel
theorem dX10_plannedMoves_1 : decode cX10_plannedMoves 1 = .ok (.istore_n 1, 1) := by decide +kernel
theorem dX10_plannedMoves_2 : decode cX10_plannedMoves 2 = .ok (.iconst 0, 1) := by decide +kernel
theorem dX10_plannedMoves_3 : decode cX10_plannedMoves 3 = .ok (.istore_n 2, 1) := by decide +kernel
theorem dX10_plannedMoves_4 : decode cX10_plannedMoves 4 = .ok (.iconst 0, 1) := by decide +kernel
theorem dX10_plannedMoves_5 : decode cX10_plannedMoves 5 = .ok (.istore_n 3, 1) := by decide +kernel
theorem dX10_plannedMoves_6 : decode cX10_plannedMoves 6 = .ok (.iload_n 3, 1) := by decide +kernel
theorem dX10_plannedMoves_7 : decode cX10_plannedMoves 7 = .ok (.aload_n 0, 1) := by decide +kernel
theorem dX10_plannedMoves_8 : decode cX10_plannedMoves 8 = .ok (.getfield 33, 3) := by decide +kernel
theorem dX10_plannedMoves_11 : decode cX10_plannedMoves 11 = .ok (.getfield 152, 3) := by decide +kernel
theorem dX10_plannedMoves_14 : decode cX10_plannedMoves 14 = .ok (.if_icmp .ge 36, 3) := by decide +kernel
theorem dX10_plannedMoves_17 : decode cX10_plannedMoves 17 = .ok (.aload_n 0, 1) := by decide +kernel
theorem dX10_plannedMoves_18 : decode cX10_plannedMoves 18 = .ok (.getfield 59, 3) := by decide +kernel
theorem dX10_plannedMoves_21 : decode cX10_plannedMoves 21 = .ok (.aload_n 0, 1) := by decide +kernel
theorem dX10_plannedMoves_22 : decode cX10_plannedMoves 22 = .ok (.getfield 33, 3) := by decide +kernel
theorem dX10_plannedMoves_25 : decode cX10_plannedMoves 25 = .ok (.iload_n 3, 1) := by decide +kernel
theorem dX10_plannedMoves_26 : decode cX10_plannedMoves 26 = .ok (.invokevirtual 229, 3) := by decide +kernel
theorem dX10_plannedMoves_29 : decode cX10_plannedMoves 29 = .ok (.istore 4, 2) := by decide +kernel
theorem dX10_plannedMoves_31 : decode cX10_plannedMoves 31 = .ok (.iload_n 1, 1) := by decide +kernel
theorem dX10_plannedMoves_32 : decode cX10_plannedMoves 32 = .ok (.iload_n 2, 1) := by decide +kernel
theorem dX10_plannedMoves_33 : decode cX10_plannedMoves 33 = .ok (.iload 4, 2) := by decide +kernel
theorem dX10_plannedMoves_35 : decode cX10_plannedMoves 35 = .ok (.ixor, 1) := by decide +kernel
theorem dX10_plannedMoves_36 : decode cX10_plannedMoves 36 = .ok (.invokestatic 144, 3) := by decide +kernel
theorem dX10_plannedMoves_39 : decode cX10_plannedMoves 39 = .ok (.iadd, 1) := by decide +kernel
theorem dX10_plannedMoves_40 : decode cX10_plannedMoves 40 = .ok (.istore_n 1, 1) := by decide +kernel
theorem dX10_plannedMoves_41 : decode cX10_plannedMoves 41 = .ok (.iload 4, 2) := by decide +kernel
theorem dX10_plannedMoves_43 : decode cX10_plannedMoves 43 = .ok (.istore_n 2, 1) := by decide +kernel
theorem dX10_plannedMoves_44 : decode cX10_plannedMoves 44 = .ok (.iinc 3 1, 3) := by decide +kernel
theorem dX10_plannedMoves_47 : decode cX10_plannedMoves 47 = .ok (.goto (-41), 3) := by decide +kernel
theorem dX10_plannedMoves_50 : decode cX10_plannedMoves 50 = .ok (.iload_n 1, 1) := by decide +kernel
theorem dX10_plannedMoves_51 : decode cX10_plannedMoves 51 = .ok (.iload_n 2, 1) := by decide +kernel
theorem dX10_plannedMoves_52 : decode cX10_plannedMoves 52 = .ok (.invokestatic 144, 3) := by decide +kernel
theorem dX10_plannedMoves_55 : decode cX10_plannedMoves 55 = .ok (.iadd, 1) := by decide +kernel
theorem dX10_plannedMoves_56 : decode cX10_plannedMoves 56 = .ok (.ireturn, 1) := by decide +kernel
noncomputable def f_X10_plannedMoves_L6 (x_view_posts : Int32) (x_view_near : Nat → Int32) (x_hand_size : Int32) (x_hand_posts : Nat → Int32) (i1 : Int32) (i2 : Int32) (i3 : Int32) : Option ((Int32 × Int32 × Int32) ⊕ (Int32 × Int32)) :=
  if x_hand_size ≤ i3 then (some (.inr (i1, i2))) else ((f_X2_bagOf x_view_posts x_view_near x_hand_posts i3).bind fun v2 =>
  (f_J6_bitCount_0f7a4 (i2 ^^^ v2)).bind fun v3 =>
  some (.inl ((i1 + v3), v2, (i3 + (1 : Int32)))))
noncomputable def f_X10_plannedMoves (x_view_posts : Int32) (x_view_near : Nat → Int32) (x_hand_size : Int32) (x_hand_posts : Nat → Int32) : Option (Int32) :=
  b2 (loopS (fun (s : Int32 × Int32 × Int32) => f_X10_plannedMoves_L6 x_view_posts x_view_near x_hand_size x_hand_posts s.1 s.2.1 s.2.2) ((0 : Int32), (0 : Int32), (0 : Int32))) fun x1 x2 =>
  (f_J6_bitCount_0f7a4 x2).bind fun v4 =>
  some ((x1 + v4))
set_option maxHeartbeats 4000000 in
set_option maxRecDepth 100000 in
theorem c_X10_plannedMoves (l : Launch) (dC : Nat → ClassId) (dI : Nat → Nat → Nat) (cI cZ cN : ClassId) (q_ : Nat) (q_net : Nat) (q_view : Nat) (q_history : Nat) (q_hand : Nat) (q_trial : Nat) (q_bags : Nat) (q_chase : Nat) (q_costs : Nat) (q_sets : Nat) (q_trials : Nat) (q_view_weights : Nat) (q_view_near : Nat) (q_view_behind : Nat) (q_view_ahead : Nat) (q_hand_posts : Nat) (x_view_posts : Int32) (x_view_roads : Int32) (x_view_weight : Int32) (x_view_near : Nat → Int32) (x_hand_size : Int32) (x_hand_posts : Nat → Int32) (r : Int32) (hf : f_X10_plannedMoves x_view_posts x_view_near x_hand_size x_hand_posts = some r) : CI l yX10_plannedMoves cX10_plannedMoves 5 (some .int) 5 129 (dC, dI) (TY cI cZ cN) [.ref q_] [(q_, .inr (9, [.ref q_net, .ref q_view, .ref q_history, .ref q_hand, .ref q_trial, .ref q_bags, .ref q_chase, .ref q_costs, .ref q_sets, .ref q_trials])), (q_view, .inr (8, [.int x_view_posts, .int x_view_roads, .int x_view_weight, .ref q_view_weights, .ref q_view_near, .ref q_view_behind, .ref q_view_ahead])), (q_view_near, .inl (cI, 11, .inl x_view_near)), (q_hand, .inr (5, [.ref q_hand_posts, .int x_hand_size])), (q_hand_posts, .inl (cI, 11, .inl x_hand_posts)), (q_costs, .inr (2, [.ref q_view]))] [(q_, .inr (9, [.ref q_net, .ref q_view, .ref q_history, .ref q_hand, .ref q_trial, .ref q_bags, .ref q_chase, .ref q_costs, .ref q_sets, .ref q_trials])), (q_view, .inr (8, [.int x_view_posts, .int x_view_roads, .int x_view_weight, .ref q_view_weights, .ref q_view_near, .ref q_view_behind, .ref q_view_ahead])), (q_view_near, .inl (cI, 11, .inl x_view_near)), (q_hand, .inr (5, [.ref q_hand_posts, .int x_hand_size])), (q_hand_posts, .inl (cI, 11, .inl x_hand_posts)), (q_costs, .inr (2, [.ref q_view]))] r := by
  refine CI.of rfl (by decide) (Nat.le_of_ble_eq_true rfl) ?_
  intro p e s m args below meth c Q A ls hx hb hml hown htb hK hN hA hP hD hS hl hret
  have hown : s.vm.findClass RX10 = some m.cls := hown
  have hl : lv_has ls 5 [(0, .ref q_)] := hl
  have hret : ∀ (r9 : Int32), some r9 = some r → ∀ (H : Heap) (locs : List Loc) (pc : Nat) (ls : Array Slot), narrow .int (.int r9) = .int r9 → decode cX10_plannedMoves pc = .ok (.ireturn, 1) → va_P (dC, dI) vwCl [(q_, .inr (9, [.ref q_net, .ref q_view, .ref q_history, .ref q_hand, .ref q_trial, .ref q_bags, .ref q_chase, .ref q_costs, .ref q_sets, .ref q_trials])), (q_view, .inr (8, [.int x_view_posts, .int x_view_roads, .int x_view_weight, .ref q_view_weights, .ref q_view_near, .ref q_view_behind, .ref q_view_ahead])), (q_view_near, .inl (cI, 11, .inl x_view_near)), (q_hand, .inr (5, [.ref q_hand_posts, .int x_hand_size])), (q_hand_posts, .inl (cI, 11, .inl x_hand_posts)), (q_costs, .inr (2, [.ref q_view]))] H → va_D A [(q_, .inr (9, [.ref q_net, .ref q_view, .ref q_history, .ref q_hand, .ref q_trial, .ref q_bags, .ref q_chase, .ref q_costs, .ref q_sets, .ref q_trials])), (q_view, .inr (8, [.int x_view_posts, .int x_view_roads, .int x_view_weight, .ref q_view_weights, .ref q_view_near, .ref q_view_behind, .ref q_view_ahead])), (q_view_near, .inl (cI, 11, .inl x_view_near)), (q_hand, .inr (5, [.ref q_hand_posts, .int x_hand_size])), (q_hand_posts, .inl (cI, 11, .inl x_hand_posts)), (q_costs, .inr (2, [.ref q_view]))] → va_S A s.heap H locs → W p l e (rmK 5 129) s m args below meth c H locs 0 0 Q (F0 m pc ls [.int r9]) := by
    intro r9 h9
    cases h9
    exact hret
  unfold f_X10_plannedMoves at hf
  refine lv_iconst (v := (0 : Int32)) hx hb dX10_plannedMoves_0 (by decide) ?_
  refine lv_istore_n (lv' := [(1, .int (0 : Int32)), (0, .ref q_)]) hx hb dX10_plannedMoves_1 rfl hl (by decide) rfl (fun ls hl => ?_)
  refine lv_iconst (v := (0 : Int32)) hx hb dX10_plannedMoves_2 (by decide) ?_
  refine lv_istore_n (lv' := [(2, .int (0 : Int32)), (1, .int (0 : Int32)), (0, .ref q_)]) hx hb dX10_plannedMoves_3 rfl hl (by decide) rfl (fun ls hl => ?_)
  refine lv_iconst (v := (0 : Int32)) hx hb dX10_plannedMoves_4 (by decide) ?_
  refine lv_istore_n (lv' := [(3, .int (0 : Int32)), (2, .int (0 : Int32)), (1, .int (0 : Int32)), (0, .ref q_)]) hx hb dX10_plannedMoves_5 rfl hl (by decide) rfl (fun ls hl => ?_)
  obtain ⟨x1, x2, hL, hf⟩ := ob2 hf
  have kx3 : ∀ (H : Heap) (locs : List Loc) (ls : Array Slot), va_P (dC, dI) vwCl [(q_, .inr (9, [.ref q_net, .ref q_view, .ref q_history, .ref q_hand, .ref q_trial, .ref q_bags, .ref q_chase, .ref q_costs, .ref q_sets, .ref q_trials])), (q_view, .inr (8, [.int x_view_posts, .int x_view_roads, .int x_view_weight, .ref q_view_weights, .ref q_view_near, .ref q_view_behind, .ref q_view_ahead])), (q_view_near, .inl (cI, 11, .inl x_view_near)), (q_hand, .inr (5, [.ref q_hand_posts, .int x_hand_size])), (q_hand_posts, .inl (cI, 11, .inl x_hand_posts)), (q_costs, .inr (2, [.ref q_view]))] H → va_D A [(q_, .inr (9, [.ref q_net, .ref q_view, .ref q_history, .ref q_hand, .ref q_trial, .ref q_bags, .ref q_chase, .ref q_costs, .ref q_sets, .ref q_trials])), (q_view, .inr (8, [.int x_view_posts, .int x_view_roads, .int x_view_weight, .ref q_view_weights, .ref q_view_near, .ref q_view_behind, .ref q_view_ahead])), (q_view_near, .inl (cI, 11, .inl x_view_near)), (q_hand, .inr (5, [.ref q_hand_posts, .int x_hand_size])), (q_hand_posts, .inl (cI, 11, .inl x_hand_posts)), (q_costs, .inr (2, [.ref q_view]))] → va_S A s.heap H locs → lv_has ls 5 [(1, .int x1), (2, .int x2)] → W p l e (rmK 5 129) s m args below meth c H locs 0 0 Q (F0 m 50 ls []) := by
    intro H locs ls hP hD hS hl
    refine lv_iload_n hx hb dX10_plannedMoves_50 rfl (lv_at hl 0 rfl) ?_
    refine lv_iload_n hx hb dX10_plannedMoves_51 rfl (lv_at hl 1 rfl) ?_
    obtain ⟨v4, hv, hf⟩ := ob hf
    refine k_afterI (wr := [(q_, .inr (9, [.ref q_net, .ref q_view, .ref q_history, .ref q_hand, .ref q_trial, .ref q_bags, .ref q_chase, .ref q_costs, .ref q_sets, .ref q_trials])), (q_view, .inr (8, [.int x_view_posts, .int x_view_roads, .int x_view_weight, .ref q_view_weights, .ref q_view_near, .ref q_view_behind, .ref q_view_ahead])), (q_view_near, .inl (cI, 11, .inl x_view_near)), (q_hand, .inr (5, [.ref q_hand_posts, .int x_hand_size])), (q_hand_posts, .inl (cI, 11, .inl x_hand_posts)), (q_costs, .inr (2, [.ref q_view]))]) (wn := [(q_, .inr (9, [.ref q_net, .ref q_view, .ref q_history, .ref q_hand, .ref q_trial, .ref q_bags, .ref q_chase, .ref q_costs, .ref q_sets, .ref q_trials])), (q_view, .inr (8, [.int x_view_posts, .int x_view_roads, .int x_view_weight, .ref q_view_weights, .ref q_view_near, .ref q_view_behind, .ref q_view_ahead])), (q_view_near, .inl (cI, 11, .inl x_view_near)), (q_hand, .inr (5, [.ref q_hand_posts, .int x_hand_size])), (q_hand_posts, .inl (cI, 11, .inl x_hand_posts)), (q_costs, .inr (2, [.ref q_view]))]) (k_runS (rest := [.int x1]) hx hb hml hown htb hK hN (c_J6_bitCount_0f7a4 l dC dI cI cZ cN x2 v4 hv _) sf_J6_bitCount_0f7a4 t_412 hP hD [] rfl rfl ⟨(Nat.le_of_ble_eq_true rfl), (Nat.le_of_ble_eq_true rfl)⟩ rfl hl.1 rfl (Nat.le_of_ble_eq_true rfl) dX10_plannedMoves_52 ⟨Nat.zero_le _, Nat.zero_le _⟩) hA hP hD hS [] [0, 1, 2, 3, 4, 5] [0, 1, 2, 3, 4, 5] rfl rfl rfl rfl ?_
    clear hP hD hS
    intro H locs hP hD hS
    refine lv_iadd hx hb dX10_plannedMoves_55 ?_
    exact hret _ hf _ _ _ _ rfl dX10_plannedMoves_56 hP hD hS
  obtain ⟨n0, hn0⟩ := loopS_iter hL
  clear hf
  have kl8 : ∀ (n : Nat) (s5 : Int32) (s6 : Int32) (s7 : Int32), iterS (fun (s : Int32 × Int32 × Int32) => f_X10_plannedMoves_L6 x_view_posts x_view_near x_hand_size x_hand_posts s.1 s.2.1 s.2.2) n (s5, s6, s7) = some (x1, x2) → ∀ (H : Heap) (locs : List Loc) (ls : Array Slot), va_P (dC, dI) vwCl [(q_, .inr (9, [.ref q_net, .ref q_view, .ref q_history, .ref q_hand, .ref q_trial, .ref q_bags, .ref q_chase, .ref q_costs, .ref q_sets, .ref q_trials])), (q_view, .inr (8, [.int x_view_posts, .int x_view_roads, .int x_view_weight, .ref q_view_weights, .ref q_view_near, .ref q_view_behind, .ref q_view_ahead])), (q_view_near, .inl (cI, 11, .inl x_view_near)), (q_hand, .inr (5, [.ref q_hand_posts, .int x_hand_size])), (q_hand_posts, .inl (cI, 11, .inl x_hand_posts)), (q_costs, .inr (2, [.ref q_view]))] H → va_D A [(q_, .inr (9, [.ref q_net, .ref q_view, .ref q_history, .ref q_hand, .ref q_trial, .ref q_bags, .ref q_chase, .ref q_costs, .ref q_sets, .ref q_trials])), (q_view, .inr (8, [.int x_view_posts, .int x_view_roads, .int x_view_weight, .ref q_view_weights, .ref q_view_near, .ref q_view_behind, .ref q_view_ahead])), (q_view_near, .inl (cI, 11, .inl x_view_near)), (q_hand, .inr (5, [.ref q_hand_posts, .int x_hand_size])), (q_hand_posts, .inl (cI, 11, .inl x_hand_posts)), (q_costs, .inr (2, [.ref q_view]))] → va_S A s.heap H locs → lv_has ls 5 [(0, .ref q_), (1, .int s5), (2, .int s6), (3, .int s7)] → W p l e (rmK 5 129) s m args below meth c H locs 0 0 Q (F0 m 6 ls []) := by
    intro n
    induction n with
    | zero =>
      intro s5 s6 s7 hn1
      cases hn1
    | succ n ih1 =>
      intro s5 s6 s7 hn1 H locs ls hP hD hS hl
      obtain ⟨r9, hf, hn1⟩ := it1 hn1
      replace hf : f_X10_plannedMoves_L6 x_view_posts x_view_near x_hand_size x_hand_posts s5 s6 s7 = some r9 := hf
      unfold f_X10_plannedMoves_L6 at hf
      refine lv_iload_n hx hb dX10_plannedMoves_6 rfl (lv_at hl 3 rfl) ?_
      refine lv_aload_n hx hb dX10_plannedMoves_7 rfl (lv_at hl 0 rfl) ?_
      refine va_get (D := (dC, dI)) (ci := 9) (v := .ref q_hand) (C := RX10) (T := TX10) (N := 10) hx hb htb inX10 hown hK hP 0 rfl rfl 3 (Nat.le_of_ble_eq_true rfl) (htb _ t_281) (fun _ h9 => h9) rfl dX10_plannedMoves_8 ?_
      refine va_get (D := (dC, dI)) (ci := 5) (v := .int x_hand_size) (C := RX5) (T := TX5) (N := 2) hx hb htb inX5 hown hK hP 3 rfl rfl 1 (Nat.le_of_ble_eq_true rfl) (htb _ t_138) (fun _ h9 => h9) rfl dX10_plannedMoves_11 ?_
      refine lv_icmp_ge (tgt := 50) hx hb dX10_plannedMoves_14 (by decide) (fun c10 => ?_) (fun c10 => ?_)
      · have hf := ip c10 hf
        cases hf
        cases (itr hn1)
        exact kx3 _ _ _ hP hD hS (lv_sub hl [1, 2] rfl)
      · have hf := im c10 hf
        refine lv_aload_n hx hb dX10_plannedMoves_17 rfl (lv_at hl 0 rfl) ?_
        refine va_get (D := (dC, dI)) (ci := 9) (v := .ref q_costs) (C := RX10) (T := TX10) (N := 10) hx hb htb inX10 hown hK hP 0 rfl rfl 7 (Nat.le_of_ble_eq_true rfl) (htb _ t_285) (fun _ h9 => h9) rfl dX10_plannedMoves_18 ?_
        refine lv_aload_n hx hb dX10_plannedMoves_21 rfl (lv_at hl 0 rfl) ?_
        refine va_get (D := (dC, dI)) (ci := 9) (v := .ref q_hand) (C := RX10) (T := TX10) (N := 10) hx hb htb inX10 hown hK hP 0 rfl rfl 3 (Nat.le_of_ble_eq_true rfl) (htb _ t_281) (fun _ h9 => h9) rfl dX10_plannedMoves_22 ?_
        refine lv_iload_n hx hb dX10_plannedMoves_25 rfl (lv_at hl 3 rfl) ?_
        obtain ⟨v11, hv, hf⟩ := ob hf
        refine k_afterI (wr := [(q_, .inr (9, [.ref q_net, .ref q_view, .ref q_history, .ref q_hand, .ref q_trial, .ref q_bags, .ref q_chase, .ref q_costs, .ref q_sets, .ref q_trials]))]) (wn := [(q_, .inr (9, [.ref q_net, .ref q_view, .ref q_history, .ref q_hand, .ref q_trial, .ref q_bags, .ref q_chase, .ref q_costs, .ref q_sets, .ref q_trials])), (q_view, .inr (8, [.int x_view_posts, .int x_view_roads, .int x_view_weight, .ref q_view_weights, .ref q_view_near, .ref q_view_behind, .ref q_view_ahead])), (q_view_near, .inl (cI, 11, .inl x_view_near)), (q_hand, .inr (5, [.ref q_hand_posts, .int x_hand_size])), (q_hand_posts, .inl (cI, 11, .inl x_hand_posts)), (q_costs, .inr (2, [.ref q_view]))]) (k_runV (rest := []) (ci := 2) (q0 := 5) hx hb hml hown htb hK hN (c_X2_bagOf l dC dI cI cZ cN q_costs q_view q_view_weights q_view_near q_view_behind q_view_ahead q_hand q_hand_posts x_view_posts x_view_roads x_view_weight x_view_near x_hand_size x_hand_posts s7 v11 hv _) vf_X2_bagOf t_679 hP hD [5, 1, 2, 3, 4] rfl rfl rfl rfl ⟨(Nat.le_of_ble_eq_true rfl), (Nat.le_of_ble_eq_true rfl)⟩ rfl hl.1 rfl (Nat.le_of_ble_eq_true rfl) dX10_plannedMoves_26 ⟨Nat.zero_le _, Nat.zero_le _⟩) hA hP hD hS [5, 1, 2, 3, 4] [0] [0, 2, 3, 4, 5, 1] rfl rfl rfl rfl ?_
        clear hP hD hS
        intro H locs hP hD hS
        refine lv_istore (lv' := [(4, .int v11), (0, .ref q_), (1, .int s5), (2, .int s6), (3, .int s7)]) hx hb dX10_plannedMoves_29 hl (by decide) rfl (fun ls hl => ?_)
        refine lv_iload_n hx hb dX10_plannedMoves_31 rfl (lv_at hl 2 rfl) ?_
        refine lv_iload_n hx hb dX10_plannedMoves_32 rfl (lv_at hl 3 rfl) ?_
        refine lv_iload hx hb dX10_plannedMoves_33 (lv_at hl 0 rfl) ?_
        refine lv_ixor hx hb dX10_plannedMoves_35 ?_
        obtain ⟨v12, hv, hf⟩ := ob hf
        refine k_afterI (wr := [(q_, .inr (9, [.ref q_net, .ref q_view, .ref q_history, .ref q_hand, .ref q_trial, .ref q_bags, .ref q_chase, .ref q_costs, .ref q_sets, .ref q_trials])), (q_view, .inr (8, [.int x_view_posts, .int x_view_roads, .int x_view_weight, .ref q_view_weights, .ref q_view_near, .ref q_view_behind, .ref q_view_ahead])), (q_view_near, .inl (cI, 11, .inl x_view_near)), (q_hand, .inr (5, [.ref q_hand_posts, .int x_hand_size])), (q_hand_posts, .inl (cI, 11, .inl x_hand_posts)), (q_costs, .inr (2, [.ref q_view]))]) (wn := [(q_, .inr (9, [.ref q_net, .ref q_view, .ref q_history, .ref q_hand, .ref q_trial, .ref q_bags, .ref q_chase, .ref q_costs, .ref q_sets, .ref q_trials])), (q_view, .inr (8, [.int x_view_posts, .int x_view_roads, .int x_view_weight, .ref q_view_weights, .ref q_view_near, .ref q_view_behind, .ref q_view_ahead])), (q_view_near, .inl (cI, 11, .inl x_view_near)), (q_hand, .inr (5, [.ref q_hand_posts, .int x_hand_size])), (q_hand_posts, .inl (cI, 11, .inl x_hand_posts)), (q_costs, .inr (2, [.ref q_view]))]) (k_runS (rest := [.int s5]) hx hb hml hown htb hK hN (c_J6_bitCount_0f7a4 l dC dI cI cZ cN (s6 ^^^ v11) v12 hv _) sf_J6_bitCount_0f7a4 t_412 hP hD [] rfl rfl ⟨(Nat.le_of_ble_eq_true rfl), (Nat.le_of_ble_eq_true rfl)⟩ rfl hl.1 rfl (Nat.le_of_ble_eq_true rfl) dX10_plannedMoves_36 ⟨Nat.zero_le _, Nat.zero_le _⟩) hA hP hD hS [] [0, 1, 2, 3, 4, 5] [0, 1, 2, 3, 4, 5] rfl rfl rfl rfl ?_
        clear hP hD hS
        intro H locs hP hD hS
        refine lv_iadd hx hb dX10_plannedMoves_39 ?_
        refine lv_istore_n (lv' := [(1, .int (s5 + v12)), (4, .int v11), (0, .ref q_), (2, .int s6), (3, .int s7)]) hx hb dX10_plannedMoves_40 rfl hl (by decide) rfl (fun ls hl => ?_)
        refine lv_iload hx hb dX10_plannedMoves_41 (lv_at hl 1 rfl) ?_
        refine lv_istore_n (lv' := [(2, .int v11), (1, .int (s5 + v12)), (4, .int v11), (0, .ref q_), (3, .int s7)]) hx hb dX10_plannedMoves_43 rfl hl (by decide) rfl (fun ls hl => ?_)
        refine lv_iinc (v := (s7 + (1 : Int32))) (lv' := [(3, .int (s7 + (1 : Int32))), (2, .int v11), (1, .int (s5 + v12)), (4, .int v11), (0, .ref q_)]) hx hb dX10_plannedMoves_44 hl (k := 4) rfl rfl (by decide) rfl (fun ls hl => ?_)
        refine lv_goto (tgt := 6) hx hb dX10_plannedMoves_47 (by decide) ?_
        cases hf
        exact ih1 _ _ _ (itl hn1) _ _ _ hP hD hS (lv_sub hl [4, 2, 1, 0] rfl)
  exact kl8 n0 _ _ _ hn0 _ _ _ hP hD hS (lv_sub hl [3, 2, 1, 0] rfl)
theorem vf_X10_plan : VF yX10_plan cX10_plan 4 (some .int) 0 := ⟨t_754, t_755, t_1, t_756, by decide +kernel, by decide +kernel, by decide +kernel⟩
theorem dX10_plan_0 : decode cX10_plan 0 = .ok (.aload_n 0, 1) := by decide +kernel
theorem dX10_plan_1 : decode cX10_plan 1 = .ok (.getfield 33, 3) := by decide +kernel
theorem dX10_plan_4 : decode cX10_plan 4 = .ok (.aload_n 0, 1) := by decide +kernel
theorem dX10_plan_5 : decode cX10_plan 5 = .ok (.getfield 12, 3) := by decide +kernel
theorem dX10_plan_8 : decode cX10_plan 8 = .ok (.getfield 79, 3) := by decide +kernel
theorem dX10_plan_11 : decode cX10_plan 11 = .ok (.invokevirtual 177, 3) := by decide +kernel
theorem dX10_plan_14 : decode cX10_plan 14 = .ok (.ifCond .ne 6, 3) := by decide +kernel
theorem dX10_plan_17 : decode cX10_plan 17 = .ok (.bipush (-4), 2) := by decide +kernel
theorem dX10_plan_19 : decode cX10_plan 19 = .ok (.ireturn, 1) := by decide +kernel
theorem dX10_plan_20 : decode cX10_plan 20 = .ok (.aload_n 0, 1) := by decide +kernel
theorem dX10_plan_21 : decode cX10_plan 21 = .ok (.invokevirtual 248, 3) := by decide +kernel
theorem dX10_plan_24 : decode cX10_plan 24 = .ok (.bipush 60, 2) := by decide +kernel
theorem dX10_plan_26 : decode cX10_plan 26 = .ok (.if_icmp .le 6, 3) := by decide +kernel
theorem dX10_plan_29 : decode cX10_plan 29 = .ok (.bipush (-5), 2) := by decide +kernel
theorem dX10_plan_31 : decode cX10_plan 31 = .ok (.ireturn, 1) := by decide +kernel
theorem dX10_plan_32 : decode cX10_plan 32 = .ok (.aload_n 0, 1) := by decide +kernel
theorem dX10_plan_33 : decode cX10_plan 33 = .ok (.getfield 50, 3) := by decide +kernel
theorem dX10_plan_36 : decode cX10_plan 36 = .ok (.iconst 0, 1) := by decide +kernel
theorem dX10_plan_37 : decode cX10_plan 37 = .ok (.putfield 246, 3) := by decide +kernel
theorem dX10_plan_40 : decode cX10_plan 40 = .ok (.iconst 0, 1) := by decide +kernel
theorem dX10_plan_41 : decode cX10_plan 41 = .ok (.istore_n 1, 1) := by decide +kernel
theorem dX10_plan_42 : decode cX10_plan 42 = .ok (.iconst 0, 1) := by decide +kernel
theorem dX10_plan_43 : decode cX10_plan 43 = .ok (.istore_n 2, 1) := by decide +kernel
theorem dX10_plan_44 : decode cX10_plan 44 = .ok (.iload_n 2, 1) := by decide +kernel
theorem dX10_plan_45 : decode cX10_plan 45 = .ok (.aload_n 0, 1) := by decide +kernel
theorem dX10_plan_46 : decode cX10_plan 46 = .ok (.getfield 33, 3) := by decide +kernel
theorem dX10_plan_49 : decode cX10_plan 49 = .ok (.getfield 152, 3) := by decide +kernel
theorem dX10_plan_52 : decode cX10_plan 52 = .ok (.if_icmp .ge 51, 3) := by decide +kernel
theorem dX10_plan_55 : decode cX10_plan 55 = .ok (.aload_n 0, 1) := by decide +kernel
theorem dX10_plan_56 : decode cX10_plan 56 = .ok (.getfield 59, 3) := by decide +kernel
theorem dX10_plan_59 : decode cX10_plan 59 = .ok (.aload_n 0, 1) := by decide +kernel
theorem dX10_plan_60 : decode cX10_plan 60 = .ok (.getfield 33, 3) := by decide +kernel
theorem dX10_plan_63 : decode cX10_plan 63 = .ok (.iload_n 2, 1) := by decide +kernel
theorem dX10_plan_64 : decode cX10_plan 64 = .ok (.invokevirtual 229, 3) := by decide +kernel
theorem dX10_plan_67 : decode cX10_plan 67 = .ok (.istore_n 3, 1) := by decide +kernel
theorem dX10_plan_68 : decode cX10_plan 68 = .ok (.aload_n 0, 1) := by decide +kernel
theorem dX10_plan_69 : decode cX10_plan 69 = .ok (.getfield 50, 3) := by decide +kernel
theorem dX10_plan_72 : decode cX10_plan 72 = .ok (.iload_n 1, 1) := by decide +kernel
theorem dX10_plan_73 : decode cX10_plan 73 = .ok (.iload_n 3, 1) := by decide +kernel
theorem dX10_plan_74 : decode cX10_plan 74 = .ok (.iconst (-1), 1) := by decide +kernel
theorem dX10_plan_75 : decode cX10_plan 75 = .ok (.ixor, 1) := by decide +kernel
theorem dX10_plan_76 : decode cX10_plan 76 = .ok (.iand, 1) := by decide +kernel
theorem dX10_plan_77 : decode cX10_plan 77 = .ok (.bipush 100, 2) := by decide +kernel
theorem dX10_plan_79 : decode cX10_plan 79 = .ok (.invokevirtual 252, 3) := by decide +kernel
theorem dX10_plan_82 : decode cX10_plan 82 = .ok (.aload_n 0, 1) := by decide +kernel
theorem dX10_plan_83 : decode cX10_plan 83 = .ok (.getfield 50, 3) := by decide +kernel
theorem dX10_plan_86 : decode cX10_plan 86 = .ok (.iload_n 3, 1) := by decide +kernel
theorem dX10_plan_87 : decode cX10_plan 87 = .ok (.iload_n 1, 1) := by decide +kernel
theorem dX10_plan_88 : decode cX10_plan 88 = .ok (.iconst (-1), 1) := by decide +kernel
theorem dX10_plan_89 : decode cX10_plan 89 = .ok (.ixor, 1) := by decide +kernel
theorem dX10_plan_90 : decode cX10_plan 90 = .ok (.iand, 1) := by decide +kernel
theorem dX10_plan_91 : decode cX10_plan 91 = .ok (.iconst 0, 1) := by decide +kernel
theorem dX10_plan_92 : decode cX10_plan 92 = .ok (.invokevirtual 252, 3) := by decide +kernel
theorem dX10_plan_95 : decode cX10_plan 95 = .ok (.iload_n 3, 1) := by decide +kernel
theorem dX10_plan_96 : decode cX10_plan 96 = .ok (.istore_n 1, 1) := by decide +kernel
theorem dX10_plan_97 : decode cX10_plan 97 = .ok (.iinc 2 1, 3) := by decide +kernel
theorem dX10_plan_100 : decode cX10_plan 100 = .ok (.goto (-56), 3) := by decide +kernel
theorem dX10_plan_103 : decode cX10_plan 103 = .ok (.aload_n 0, 1) := by decide +kernel
theorem dX10_plan_104 : decode cX10_plan 104 = .ok (.getfield 50, 3) := by decide +kernel
theorem dX10_plan_107 : decode cX10_plan 107 = .ok (.iload_n 1, 1) := by decide +kernel
theorem dX10_plan_108 : decode cX10_plan 108 = .ok (.bipush 100, 2) := by decide +kernel
theorem dX10_plan_110 : decode cX10_plan 110 = .ok (.invokevirtual 252, 3) := by decide +kernel
theorem dX10_plan_113 : decode cX10_plan 113 = .ok (.aload_n 0, 1) := by decide +kernel
theorem dX10_plan_114 : decode cX10_plan 114 = .ok (.getfield 50, 3) := by decide +kernel
theorem dX10_plan_117 : decode cX10_plan 117 = .ok (.getfield 246, 3) := by decide +kernel
theorem dX10_plan_120 : decode cX10_plan 120 = .ok (.ireturn, 1) := by decide +kernel
noncomputable def f_X10_plan_L44 (x_view_posts : Int32) (x_view_near : Nat → Int32) (x_hand_size : Int32) (x_hand_posts : Nat → Int32) (i1 : Int32) (i2 : Int32) (x_chase_size : Int32) (x_chase_moves : Nat → Int32) : Option ((Int32 × Int32 × Int32 × (Nat → Int32)) ⊕ (Int32 × Int32 × (Nat → Int32))) :=
  if x_hand_size ≤ i2 then (some (.inr (i1, x_chase_size, x_chase_moves))) else ((f_X2_bagOf x_view_posts x_view_near x_hand_posts i2).bind fun v6 =>
  b2 (f_X1_appendAll x_chase_size x_chase_moves (i1 &&& (v6 ^^^ (-1 : Int32))) (100 : Int32)) fun o7 o8 =>
  b2 (f_X1_appendAll o7 o8 (v6 &&& (i1 ^^^ (-1 : Int32))) (0 : Int32)) fun o9 o10 =>
  some (.inl (v6, (i2 + (1 : Int32)), o9, o10)))
noncomputable def f_X10_plan (x_net_posts : Int32) (x_view_posts : Int32) (x_view_near : Nat → Int32) (x_hand_size : Int32) (x_hand_posts : Nat → Int32) (x_chase_size : Int32) (x_chase_moves : Nat → Int32) : Option (Int32 × Int32 × (Nat → Int32)) :=
  (f_X5_isWhole x_hand_size x_hand_posts x_net_posts).bind fun v1 =>
  if v1 = 0 then (some (((-4 : Int32), x_chase_size, x_chase_moves))) else ((f_X10_plannedMoves x_view_posts x_view_near x_hand_size x_hand_posts).bind fun v3 =>
  if v3 ≤ (60 : Int32) then (b3 (loopS (fun (s : Int32 × Int32 × Int32 × (Nat → Int32)) => f_X10_plan_L44 x_view_posts x_view_near x_hand_size x_hand_posts s.1 s.2.1 s.2.2.1 s.2.2.2) ((0 : Int32), (0 : Int32), (0 : Int32), x_chase_moves)) fun x5 x6 x7 =>
  b2 (f_X1_appendAll x6 x7 x5 (100 : Int32)) fun o9 o10 =>
  some ((o9, o9, o10))) else (some (((-5 : Int32), x_chase_size, x_chase_moves))))
set_option maxHeartbeats 4000000 in
set_option maxRecDepth 100000 in
theorem c_X10_plan (l : Launch) (dC : Nat → ClassId) (dI : Nat → Nat → Nat) (cI cZ cN : ClassId) (q_ : Nat) (q_net : Nat) (q_view : Nat) (q_history : Nat) (q_hand : Nat) (q_trial : Nat) (q_bags : Nat) (q_chase : Nat) (q_costs : Nat) (q_sets : Nat) (q_trials : Nat) (q_net_widths : Nat) (q_net_lengths : Nat) (q_net_told : Nat) (q_net_behind : Nat) (q_view_weights : Nat) (q_view_near : Nat) (q_view_behind : Nat) (q_view_ahead : Nat) (q_hand_posts : Nat) (q_chase_moves : Nat) (q_chase_foul : Nat) (x_net_posts : Int32) (x_net_pairs : Int32) (x_view_posts : Int32) (x_view_roads : Int32) (x_view_weight : Int32) (x_view_near : Nat → Int32) (x_hand_size : Int32) (x_hand_posts : Nat → Int32) (x_chase_size : Int32) (x_chase_guarded : Int32) (x_chase_most : Int32) (x_chase_again : Int32) (x_chase_idle : Int32) (x_chase_moves : Nat → Int32) (r : Int32) (o_chase_size : Int32) (o_chase_moves : Nat → Int32) (hf : f_X10_plan x_net_posts x_view_posts x_view_near x_hand_size x_hand_posts x_chase_size x_chase_moves = some (r, o_chase_size, o_chase_moves)) : CI l yX10_plan cX10_plan 4 (some .int) 6 153 (dC, dI) (TY cI cZ cN) [.ref q_] [(q_, .inr (9, [.ref q_net, .ref q_view, .ref q_history, .ref q_hand, .ref q_trial, .ref q_bags, .ref q_chase, .ref q_costs, .ref q_sets, .ref q_trials])), (q_net, .inr (4, [.int x_net_posts, .int x_net_pairs, .ref q_net_widths, .ref q_net_lengths, .ref q_net_told, .ref q_net_behind])), (q_view, .inr (8, [.int x_view_posts, .int x_view_roads, .int x_view_weight, .ref q_view_weights, .ref q_view_near, .ref q_view_behind, .ref q_view_ahead])), (q_view_near, .inl (cI, 11, .inl x_view_near)), (q_hand, .inr (5, [.ref q_hand_posts, .int x_hand_size])), (q_hand_posts, .inl (cI, 11, .inl x_hand_posts)), (q_chase, .inr (1, [.ref q_chase_moves, .int x_chase_size, .ref q_chase_foul, .int x_chase_guarded, .int x_chase_most, .int x_chase_again, .int x_chase_idle])), (q_chase_moves, .inl (cI, 60, .inl x_chase_moves)), (q_costs, .inr (2, [.ref q_view]))] [(q_, .inr (9, [.ref q_net, .ref q_view, .ref q_history, .ref q_hand, .ref q_trial, .ref q_bags, .ref q_chase, .ref q_costs, .ref q_sets, .ref q_trials])), (q_net, .inr (4, [.int x_net_posts, .int x_net_pairs, .ref q_net_widths, .ref q_net_lengths, .ref q_net_told, .ref q_net_behind])), (q_view, .inr (8, [.int x_view_posts, .int x_view_roads, .int x_view_weight, .ref q_view_weights, .ref q_view_near, .ref q_view_behind, .ref q_view_ahead])), (q_view_near, .inl (cI, 11, .inl x_view_near)), (q_hand, .inr (5, [.ref q_hand_posts, .int x_hand_size])), (q_hand_posts, .inl (cI, 11, .inl x_hand_posts)), (q_chase, .inr (1, [.ref q_chase_moves, .int o_chase_size, .ref q_chase_foul, .int x_chase_guarded, .int x_chase_most, .int x_chase_again, .int x_chase_idle])), (q_chase_moves, .inl (cI, 60, .inl o_chase_moves)), (q_costs, .inr (2, [.ref q_view]))] r := by
  refine CI.of rfl (by decide) (Nat.le_of_ble_eq_true rfl) ?_
  intro p e s m args below meth c Q A ls hx hb hml hown htb hK hN hA hP hD hS hl hret
  have hown : s.vm.findClass RX10 = some m.cls := hown
  have hl : lv_has ls 4 [(0, .ref q_)] := hl
  have hret : ∀ (r9 : Int32) (o9_chase_size : Int32) (o9_chase_moves : Nat → Int32), some (r9, o9_chase_size, o9_chase_moves) = some (r, o_chase_size, o_chase_moves) → ∀ (H : Heap) (locs : List Loc) (pc : Nat) (ls : Array Slot), narrow .int (.int r9) = .int r9 → decode cX10_plan pc = .ok (.ireturn, 1) → va_P (dC, dI) vwCl [(q_, .inr (9, [.ref q_net, .ref q_view, .ref q_history, .ref q_hand, .ref q_trial, .ref q_bags, .ref q_chase, .ref q_costs, .ref q_sets, .ref q_trials])), (q_net, .inr (4, [.int x_net_posts, .int x_net_pairs, .ref q_net_widths, .ref q_net_lengths, .ref q_net_told, .ref q_net_behind])), (q_view, .inr (8, [.int x_view_posts, .int x_view_roads, .int x_view_weight, .ref q_view_weights, .ref q_view_near, .ref q_view_behind, .ref q_view_ahead])), (q_view_near, .inl (cI, 11, .inl x_view_near)), (q_hand, .inr (5, [.ref q_hand_posts, .int x_hand_size])), (q_hand_posts, .inl (cI, 11, .inl x_hand_posts)), (q_chase, .inr (1, [.ref q_chase_moves, .int o9_chase_size, .ref q_chase_foul, .int x_chase_guarded, .int x_chase_most, .int x_chase_again, .int x_chase_idle])), (q_chase_moves, .inl (cI, 60, .inl o9_chase_moves)), (q_costs, .inr (2, [.ref q_view]))] H → va_D A [(q_, .inr (9, [.ref q_net, .ref q_view, .ref q_history, .ref q_hand, .ref q_trial, .ref q_bags, .ref q_chase, .ref q_costs, .ref q_sets, .ref q_trials])), (q_net, .inr (4, [.int x_net_posts, .int x_net_pairs, .ref q_net_widths, .ref q_net_lengths, .ref q_net_told, .ref q_net_behind])), (q_view, .inr (8, [.int x_view_posts, .int x_view_roads, .int x_view_weight, .ref q_view_weights, .ref q_view_near, .ref q_view_behind, .ref q_view_ahead])), (q_view_near, .inl (cI, 11, .inl x_view_near)), (q_hand, .inr (5, [.ref q_hand_posts, .int x_hand_size])), (q_hand_posts, .inl (cI, 11, .inl x_hand_posts)), (q_chase, .inr (1, [.ref q_chase_moves, .int o9_chase_size, .ref q_chase_foul, .int x_chase_guarded, .int x_chase_most, .int x_chase_again, .int x_chase_idle])), (q_chase_moves, .inl (cI, 60, .inl o9_chase_moves)), (q_costs, .inr (2, [.ref q_view]))] → va_S A s.heap H locs → W p l e (rmK 6 153) s m args below meth c H locs 0 0 Q (F0 m pc ls [.int r9]) := by
    intro r9 o9_chase_size o9_chase_moves h9
    cases h9
    exact hret
  unfold f_X10_plan at hf
  refine lv_aload_n hx hb dX10_plan_0 rfl (lv_at hl 0 rfl) ?_
  refine va_get (D := (dC, dI)) (ci := 9) (v := .ref q_hand) (C := RX10) (T := TX10) (N := 10) hx hb htb inX10 hown hK hP 0 rfl rfl 3 (Nat.le_of_ble_eq_true rfl) (htb _ t_281) (fun _ h9 => h9) rfl dX10_plan_1 ?_
  refine lv_aload_n hx hb dX10_plan_4 rfl (lv_at hl 0 rfl) ?_
  refine va_get (D := (dC, dI)) (ci := 9) (v := .ref q_net) (C := RX10) (T := TX10) (N := 10) hx hb htb inX10 hown hK hP 0 rfl rfl 0 (Nat.le_of_ble_eq_true rfl) (htb _ t_278) (fun _ h9 => h9) rfl dX10_plan_5 ?_
  refine va_get (D := (dC, dI)) (ci := 4) (v := .int x_net_posts) (C := RX4) (T := TX4) (N := 6) hx hb htb inX4 hown hK hP 1 rfl rfl 0 (Nat.le_of_ble_eq_true rfl) (htb _ t_35) (fun _ h9 => h9) rfl dX10_plan_8 ?_
  obtain ⟨v1, hv, hf⟩ := ob hf
  refine k_afterI (wr := [(q_, .inr (9, [.ref q_net, .ref q_view, .ref q_history, .ref q_hand, .ref q_trial, .ref q_bags, .ref q_chase, .ref q_costs, .ref q_sets, .ref q_trials])), (q_net, .inr (4, [.int x_net_posts, .int x_net_pairs, .ref q_net_widths, .ref q_net_lengths, .ref q_net_told, .ref q_net_behind])), (q_view, .inr (8, [.int x_view_posts, .int x_view_roads, .int x_view_weight, .ref q_view_weights, .ref q_view_near, .ref q_view_behind, .ref q_view_ahead])), (q_view_near, .inl (cI, 11, .inl x_view_near)), (q_chase, .inr (1, [.ref q_chase_moves, .int x_chase_size, .ref q_chase_foul, .int x_chase_guarded, .int x_chase_most, .int x_chase_again, .int x_chase_idle])), (q_chase_moves, .inl (cI, 60, .inl x_chase_moves)), (q_costs, .inr (2, [.ref q_view]))]) (wn := [(q_, .inr (9, [.ref q_net, .ref q_view, .ref q_history, .ref q_hand, .ref q_trial, .ref q_bags, .ref q_chase, .ref q_costs, .ref q_sets, .ref q_trials])), (q_net, .inr (4, [.int x_net_posts, .int x_net_pairs, .ref q_net_widths, .ref q_net_lengths, .ref q_net_told, .ref q_net_behind])), (q_view, .inr (8, [.int x_view_posts, .int x_view_roads, .int x_view_weight, .ref q_view_weights, .ref q_view_near, .ref q_view_behind, .ref q_view_ahead])), (q_view_near, .inl (cI, 11, .inl x_view_near)), (q_hand, .inr (5, [.ref q_hand_posts, .int x_hand_size])), (q_hand_posts, .inl (cI, 11, .inl x_hand_posts)), (q_chase, .inr (1, [.ref q_chase_moves, .int x_chase_size, .ref q_chase_foul, .int x_chase_guarded, .int x_chase_most, .int x_chase_again, .int x_chase_idle])), (q_chase_moves, .inl (cI, 60, .inl x_chase_moves)), (q_costs, .inr (2, [.ref q_view]))]) (k_runV (rest := []) (ci := 5) (q0 := 4) hx hb hml hown htb hK hN (c_X5_isWhole l dC dI cI cZ cN q_hand q_hand_posts x_hand_size x_hand_posts x_net_posts v1 hv _) vf_X5_isWhole t_466 hP hD [4, 5] rfl rfl rfl rfl ⟨(Nat.le_of_ble_eq_true rfl), (Nat.le_of_ble_eq_true rfl)⟩ rfl hl.1 rfl (Nat.le_of_ble_eq_true rfl) dX10_plan_11 ⟨Nat.zero_le _, Nat.zero_le _⟩) hA hP hD hS [4, 5] [0, 1, 2, 3, 6, 7, 8] [0, 1, 2, 3, 7, 8, 4, 5, 6] rfl rfl rfl rfl ?_
  clear hP hD hS
  intro H locs hP hD hS
  refine lv_if_ne (tgt := 20) hx hb dX10_plan_14 (by decide) (fun c2 => ?_) (fun c2 => ?_)
  · have hf := im c2 hf
    refine lv_aload_n hx hb dX10_plan_20 rfl (lv_at hl 0 rfl) ?_
    obtain ⟨v3, hv, hf⟩ := ob hf
    refine k_afterI (wr := [(q_net, .inr (4, [.int x_net_posts, .int x_net_pairs, .ref q_net_widths, .ref q_net_lengths, .ref q_net_told, .ref q_net_behind])), (q_chase, .inr (1, [.ref q_chase_moves, .int x_chase_size, .ref q_chase_foul, .int x_chase_guarded, .int x_chase_most, .int x_chase_again, .int x_chase_idle])), (q_chase_moves, .inl (cI, 60, .inl x_chase_moves))]) (wn := [(q_, .inr (9, [.ref q_net, .ref q_view, .ref q_history, .ref q_hand, .ref q_trial, .ref q_bags, .ref q_chase, .ref q_costs, .ref q_sets, .ref q_trials])), (q_net, .inr (4, [.int x_net_posts, .int x_net_pairs, .ref q_net_widths, .ref q_net_lengths, .ref q_net_told, .ref q_net_behind])), (q_view, .inr (8, [.int x_view_posts, .int x_view_roads, .int x_view_weight, .ref q_view_weights, .ref q_view_near, .ref q_view_behind, .ref q_view_ahead])), (q_view_near, .inl (cI, 11, .inl x_view_near)), (q_hand, .inr (5, [.ref q_hand_posts, .int x_hand_size])), (q_hand_posts, .inl (cI, 11, .inl x_hand_posts)), (q_chase, .inr (1, [.ref q_chase_moves, .int x_chase_size, .ref q_chase_foul, .int x_chase_guarded, .int x_chase_most, .int x_chase_again, .int x_chase_idle])), (q_chase_moves, .inl (cI, 60, .inl x_chase_moves)), (q_costs, .inr (2, [.ref q_view]))]) (k_runV (rest := []) (ci := 9) (q0 := 0) hx hb hml hown htb hK hN (c_X10_plannedMoves l dC dI cI cZ cN q_ q_net q_view q_history q_hand q_trial q_bags q_chase q_costs q_sets q_trials q_view_weights q_view_near q_view_behind q_view_ahead q_hand_posts x_view_posts x_view_roads x_view_weight x_view_near x_hand_size x_hand_posts v3 hv _) vf_X10_plannedMoves t_757 hP hD [0, 2, 3, 4, 5, 8] rfl rfl rfl rfl ⟨(Nat.le_of_ble_eq_true rfl), (Nat.le_of_ble_eq_true rfl)⟩ rfl hl.1 rfl (Nat.le_of_ble_eq_true rfl) dX10_plan_21 ⟨Nat.zero_le _, Nat.zero_le _⟩) hA hP hD hS [0, 2, 3, 4, 5, 8] [1, 6, 7] [3, 0, 4, 5, 6, 7, 1, 2, 8] rfl rfl rfl rfl ?_
    clear hP hD hS
    intro H locs hP hD hS
    refine lv_bipush (v := (60 : Int32)) hx hb dX10_plan_24 (by decide) ?_
    refine lv_icmp_le (tgt := 32) hx hb dX10_plan_26 (by decide) (fun c4 => ?_) (fun c4 => ?_)
    · have hf := ip c4 hf
      refine lv_aload_n hx hb dX10_plan_32 rfl (lv_at hl 0 rfl) ?_
      refine va_get (D := (dC, dI)) (ci := 9) (v := .ref q_chase) (C := RX10) (T := TX10) (N := 10) hx hb htb inX10 hown hK hP 0 rfl rfl 6 (Nat.le_of_ble_eq_true rfl) (htb _ t_284) (fun _ h9 => h9) rfl dX10_plan_33 ?_
      refine lv_iconst (v := (0 : Int32)) hx hb dX10_plan_36 (by decide) ?_
      refine k_put (wn := [(q_, .inr (9, [.ref q_net, .ref q_view, .ref q_history, .ref q_hand, .ref q_trial, .ref q_bags, .ref q_chase, .ref q_costs, .ref q_sets, .ref q_trials])), (q_net, .inr (4, [.int x_net_posts, .int x_net_pairs, .ref q_net_widths, .ref q_net_lengths, .ref q_net_told, .ref q_net_behind])), (q_view, .inr (8, [.int x_view_posts, .int x_view_roads, .int x_view_weight, .ref q_view_weights, .ref q_view_near, .ref q_view_behind, .ref q_view_ahead])), (q_view_near, .inl (cI, 11, .inl x_view_near)), (q_hand, .inr (5, [.ref q_hand_posts, .int x_hand_size])), (q_hand_posts, .inl (cI, 11, .inl x_hand_posts)), (q_chase, .inr (1, [.ref q_chase_moves, .int (0 : Int32), .ref q_chase_foul, .int x_chase_guarded, .int x_chase_most, .int x_chase_again, .int x_chase_idle])), (q_chase_moves, .inl (cI, 60, .inl x_chase_moves)), (q_costs, .inr (2, [.ref q_view]))]) (C := RX1) (T := TX1) (N := 7) (ci := 1) hx hb htb inX1 tyX1 tyX1_ok nmX1 hown hK hP hD hS 6 rfl rfl 1 (Nat.le_of_ble_eq_true rfl) t_167 (fun _ h9 => h9) rfl (tyX1_ok 1 (Nat.le_of_ble_eq_true rfl)) (Nat.le_of_ble_eq_true rfl) rfl dX10_plan_37 ?_
      clear hP hD hS
      intro H locs hP hD hS
      refine lv_iconst (v := (0 : Int32)) hx hb dX10_plan_40 (by decide) ?_
      refine lv_istore_n (lv' := [(1, .int (0 : Int32)), (0, .ref q_)]) hx hb dX10_plan_41 rfl hl (by decide) rfl (fun ls hl => ?_)
      refine lv_iconst (v := (0 : Int32)) hx hb dX10_plan_42 (by decide) ?_
      refine lv_istore_n (lv' := [(2, .int (0 : Int32)), (1, .int (0 : Int32)), (0, .ref q_)]) hx hb dX10_plan_43 rfl hl (by decide) rfl (fun ls hl => ?_)
      obtain ⟨x5, x6, x7, hL, hf⟩ := ob3 hf
      have kx8 : ∀ (H : Heap) (locs : List Loc) (ls : Array Slot), va_P (dC, dI) vwCl [(q_, .inr (9, [.ref q_net, .ref q_view, .ref q_history, .ref q_hand, .ref q_trial, .ref q_bags, .ref q_chase, .ref q_costs, .ref q_sets, .ref q_trials])), (q_net, .inr (4, [.int x_net_posts, .int x_net_pairs, .ref q_net_widths, .ref q_net_lengths, .ref q_net_told, .ref q_net_behind])), (q_view, .inr (8, [.int x_view_posts, .int x_view_roads, .int x_view_weight, .ref q_view_weights, .ref q_view_near, .ref q_view_behind, .ref q_view_ahead])), (q_view_near, .inl (cI, 11, .inl x_view_near)), (q_hand, .inr (5, [.ref q_hand_posts, .int x_hand_size])), (q_hand_posts, .inl (cI, 11, .inl x_hand_posts)), (q_chase, .inr (1, [.ref q_chase_moves, .int x6, .ref q_chase_foul, .int x_chase_guarded, .int x_chase_most, .int x_chase_again, .int x_chase_idle])), (q_chase_moves, .inl (cI, 60, .inl x7)), (q_costs, .inr (2, [.ref q_view]))] H → va_D A [(q_, .inr (9, [.ref q_net, .ref q_view, .ref q_history, .ref q_hand, .ref q_trial, .ref q_bags, .ref q_chase, .ref q_costs, .ref q_sets, .ref q_trials])), (q_net, .inr (4, [.int x_net_posts, .int x_net_pairs, .ref q_net_widths, .ref q_net_lengths, .ref q_net_told, .ref q_net_behind])), (q_view, .inr (8, [.int x_view_posts, .int x_view_roads, .int x_view_weight, .ref q_view_weights, .ref q_view_near, .ref q_view_behind, .ref q_view_ahead])), (q_view_near, .inl (cI, 11, .inl x_view_near)), (q_hand, .inr (5, [.ref q_hand_posts, .int x_hand_size])), (q_hand_posts, .inl (cI, 11, .inl x_hand_posts)), (q_chase, .inr (1, [.ref q_chase_moves, .int x6, .ref q_chase_foul, .int x_chase_guarded, .int x_chase_most, .int x_chase_again, .int x_chase_idle])), (q_chase_moves, .inl (cI, 60, .inl x7)), (q_costs, .inr (2, [.ref q_view]))] → va_S A s.heap H locs → lv_has ls 4 [(0, .ref q_), (1, .int x5)] → W p l e (rmK 6 153) s m args below meth c H locs 0 0 Q (F0 m 103 ls []) := by
        intro H locs ls hP hD hS hl
        refine lv_aload_n hx hb dX10_plan_103 rfl (lv_at hl 0 rfl) ?_
        refine va_get (D := (dC, dI)) (ci := 9) (v := .ref q_chase) (C := RX10) (T := TX10) (N := 10) hx hb htb inX10 hown hK hP 0 rfl rfl 6 (Nat.le_of_ble_eq_true rfl) (htb _ t_284) (fun _ h9 => h9) rfl dX10_plan_104 ?_
        refine lv_iload_n hx hb dX10_plan_107 rfl (lv_at hl 1 rfl) ?_
        refine lv_bipush (v := (100 : Int32)) hx hb dX10_plan_108 (by decide) ?_
        obtain ⟨o9, o10, hv, hf⟩ := ob2 hf
        refine k_afterV (wr := [(q_, .inr (9, [.ref q_net, .ref q_view, .ref q_history, .ref q_hand, .ref q_trial, .ref q_bags, .ref q_chase, .ref q_costs, .ref q_sets, .ref q_trials])), (q_net, .inr (4, [.int x_net_posts, .int x_net_pairs, .ref q_net_widths, .ref q_net_lengths, .ref q_net_told, .ref q_net_behind])), (q_view, .inr (8, [.int x_view_posts, .int x_view_roads, .int x_view_weight, .ref q_view_weights, .ref q_view_near, .ref q_view_behind, .ref q_view_ahead])), (q_view_near, .inl (cI, 11, .inl x_view_near)), (q_hand, .inr (5, [.ref q_hand_posts, .int x_hand_size])), (q_hand_posts, .inl (cI, 11, .inl x_hand_posts)), (q_costs, .inr (2, [.ref q_view]))]) (wn := [(q_, .inr (9, [.ref q_net, .ref q_view, .ref q_history, .ref q_hand, .ref q_trial, .ref q_bags, .ref q_chase, .ref q_costs, .ref q_sets, .ref q_trials])), (q_net, .inr (4, [.int x_net_posts, .int x_net_pairs, .ref q_net_widths, .ref q_net_lengths, .ref q_net_told, .ref q_net_behind])), (q_view, .inr (8, [.int x_view_posts, .int x_view_roads, .int x_view_weight, .ref q_view_weights, .ref q_view_near, .ref q_view_behind, .ref q_view_ahead])), (q_view_near, .inl (cI, 11, .inl x_view_near)), (q_hand, .inr (5, [.ref q_hand_posts, .int x_hand_size])), (q_hand_posts, .inl (cI, 11, .inl x_hand_posts)), (q_chase, .inr (1, [.ref q_chase_moves, .int o9, .ref q_chase_foul, .int x_chase_guarded, .int x_chase_most, .int x_chase_again, .int x_chase_idle])), (q_chase_moves, .inl (cI, 60, .inl o10)), (q_costs, .inr (2, [.ref q_view]))]) (k_runV (rest := []) (ci := 1) (q0 := 6) hx hb hml hown htb hK hN (c_X1_appendAll l dC dI cI cZ cN q_chase q_chase_moves q_chase_foul x6 x_chase_guarded x_chase_most x_chase_again x_chase_idle x7 x5 (100 : Int32) o9 o10 hv _) vf_X1_appendAll t_761 hP hD [6, 7] rfl rfl rfl rfl ⟨(Nat.le_of_ble_eq_true rfl), (Nat.le_of_ble_eq_true rfl)⟩ rfl hl.1 rfl (Nat.le_of_ble_eq_true rfl) dX10_plan_110 ⟨Nat.zero_le _, Nat.zero_le _⟩) hA hP hD hS [6, 7] [0, 1, 2, 3, 4, 5, 8] [0, 1, 2, 3, 4, 5, 7, 8, 6] rfl rfl rfl rfl ?_
        clear hP hD hS
        intro H locs hP hD hS
        refine lv_aload_n hx hb dX10_plan_113 rfl (lv_at hl 0 rfl) ?_
        refine va_get (D := (dC, dI)) (ci := 9) (v := .ref q_chase) (C := RX10) (T := TX10) (N := 10) hx hb htb inX10 hown hK hP 0 rfl rfl 6 (Nat.le_of_ble_eq_true rfl) (htb _ t_284) (fun _ h9 => h9) rfl dX10_plan_114 ?_
        refine va_get (D := (dC, dI)) (ci := 1) (v := .int o9) (C := RX1) (T := TX1) (N := 7) hx hb htb inX1 hown hK hP 6 rfl rfl 1 (Nat.le_of_ble_eq_true rfl) (htb _ t_167) (fun _ h9 => h9) rfl dX10_plan_117 ?_
        exact hret _ _ _ hf _ _ _ _ rfl dX10_plan_120 hP hD hS
      obtain ⟨n0, hn0⟩ := loopS_iter hL
      clear hf
      have kl15 : ∀ (n : Nat) (s11 : Int32) (s12 : Int32) (s13 : Int32) (s14 : Nat → Int32), iterS (fun (s : Int32 × Int32 × Int32 × (Nat → Int32)) => f_X10_plan_L44 x_view_posts x_view_near x_hand_size x_hand_posts s.1 s.2.1 s.2.2.1 s.2.2.2) n (s11, s12, s13, s14) = some (x5, x6, x7) → ∀ (H : Heap) (locs : List Loc) (ls : Array Slot), va_P (dC, dI) vwCl [(q_, .inr (9, [.ref q_net, .ref q_view, .ref q_history, .ref q_hand, .ref q_trial, .ref q_bags, .ref q_chase, .ref q_costs, .ref q_sets, .ref q_trials])), (q_net, .inr (4, [.int x_net_posts, .int x_net_pairs, .ref q_net_widths, .ref q_net_lengths, .ref q_net_told, .ref q_net_behind])), (q_view, .inr (8, [.int x_view_posts, .int x_view_roads, .int x_view_weight, .ref q_view_weights, .ref q_view_near, .ref q_view_behind, .ref q_view_ahead])), (q_view_near, .inl (cI, 11, .inl x_view_near)), (q_hand, .inr (5, [.ref q_hand_posts, .int x_hand_size])), (q_hand_posts, .inl (cI, 11, .inl x_hand_posts)), (q_chase, .inr (1, [.ref q_chase_moves, .int s13, .ref q_chase_foul, .int x_chase_guarded, .int x_chase_most, .int x_chase_again, .int x_chase_idle])), (q_chase_moves, .inl (cI, 60, .inl s14)), (q_costs, .inr (2, [.ref q_view]))] H → va_D A [(q_, .inr (9, [.ref q_net, .ref q_view, .ref q_history, .ref q_hand, .ref q_trial, .ref q_bags, .ref q_chase, .ref q_costs, .ref q_sets, .ref q_trials])), (q_net, .inr (4, [.int x_net_posts, .int x_net_pairs, .ref q_net_widths, .ref q_net_lengths, .ref q_net_told, .ref q_net_behind])), (q_view, .inr (8, [.int x_view_posts, .int x_view_roads, .int x_view_weight, .ref q_view_weights, .ref q_view_near, .ref q_view_behind, .ref q_view_ahead])), (q_view_near, .inl (cI, 11, .inl x_view_near)), (q_hand, .inr (5, [.ref q_hand_posts, .int x_hand_size])), (q_hand_posts, .inl (cI, 11, .inl x_hand_posts)), (q_chase, .inr (1, [.ref q_chase_moves, .int s13, .ref q_chase_foul, .int x_chase_guarded, .int x_chase_most, .int x_chase_again, .int x_chase_idle])), (q_chase_moves, .inl (cI, 60, .inl s14)), (q_costs, .inr (2, [.ref q_view]))] → va_S A s.heap H locs → lv_has ls 4 [(0, .ref q_), (1, .int s11), (2, .int s12)] → W p l e (rmK 6 153) s m args below meth c H locs 0 0 Q (F0 m 44 ls []) := by
        intro n
        induction n with
        | zero =>
          intro s11 s12 s13 s14 hn1
          cases hn1
        | succ n ih1 =>
          intro s11 s12 s13 s14 hn1 H locs ls hP hD hS hl
          obtain ⟨r16, hf, hn1⟩ := it1 hn1
          replace hf : f_X10_plan_L44 x_view_posts x_view_near x_hand_size x_hand_posts s11 s12 s13 s14 = some r16 := hf
          unfold f_X10_plan_L44 at hf
          refine lv_iload_n hx hb dX10_plan_44 rfl (lv_at hl 2 rfl) ?_
          refine lv_aload_n hx hb dX10_plan_45 rfl (lv_at hl 0 rfl) ?_
          refine va_get (D := (dC, dI)) (ci := 9) (v := .ref q_hand) (C := RX10) (T := TX10) (N := 10) hx hb htb inX10 hown hK hP 0 rfl rfl 3 (Nat.le_of_ble_eq_true rfl) (htb _ t_281) (fun _ h9 => h9) rfl dX10_plan_46 ?_
          refine va_get (D := (dC, dI)) (ci := 5) (v := .int x_hand_size) (C := RX5) (T := TX5) (N := 2) hx hb htb inX5 hown hK hP 4 rfl rfl 1 (Nat.le_of_ble_eq_true rfl) (htb _ t_138) (fun _ h9 => h9) rfl dX10_plan_49 ?_
          refine lv_icmp_ge (tgt := 103) hx hb dX10_plan_52 (by decide) (fun c17 => ?_) (fun c17 => ?_)
          · have hf := ip c17 hf
            cases hf
            cases (itr hn1)
            exact kx8 _ _ _ hP hD hS (lv_sub hl [0, 1] rfl)
          · have hf := im c17 hf
            refine lv_aload_n hx hb dX10_plan_55 rfl (lv_at hl 0 rfl) ?_
            refine va_get (D := (dC, dI)) (ci := 9) (v := .ref q_costs) (C := RX10) (T := TX10) (N := 10) hx hb htb inX10 hown hK hP 0 rfl rfl 7 (Nat.le_of_ble_eq_true rfl) (htb _ t_285) (fun _ h9 => h9) rfl dX10_plan_56 ?_
            refine lv_aload_n hx hb dX10_plan_59 rfl (lv_at hl 0 rfl) ?_
            refine va_get (D := (dC, dI)) (ci := 9) (v := .ref q_hand) (C := RX10) (T := TX10) (N := 10) hx hb htb inX10 hown hK hP 0 rfl rfl 3 (Nat.le_of_ble_eq_true rfl) (htb _ t_281) (fun _ h9 => h9) rfl dX10_plan_60 ?_
            refine lv_iload_n hx hb dX10_plan_63 rfl (lv_at hl 2 rfl) ?_
            obtain ⟨v18, hv, hf⟩ := ob hf
            refine k_afterI (wr := [(q_, .inr (9, [.ref q_net, .ref q_view, .ref q_history, .ref q_hand, .ref q_trial, .ref q_bags, .ref q_chase, .ref q_costs, .ref q_sets, .ref q_trials])), (q_net, .inr (4, [.int x_net_posts, .int x_net_pairs, .ref q_net_widths, .ref q_net_lengths, .ref q_net_told, .ref q_net_behind])), (q_chase, .inr (1, [.ref q_chase_moves, .int s13, .ref q_chase_foul, .int x_chase_guarded, .int x_chase_most, .int x_chase_again, .int x_chase_idle])), (q_chase_moves, .inl (cI, 60, .inl s14))]) (wn := [(q_, .inr (9, [.ref q_net, .ref q_view, .ref q_history, .ref q_hand, .ref q_trial, .ref q_bags, .ref q_chase, .ref q_costs, .ref q_sets, .ref q_trials])), (q_net, .inr (4, [.int x_net_posts, .int x_net_pairs, .ref q_net_widths, .ref q_net_lengths, .ref q_net_told, .ref q_net_behind])), (q_view, .inr (8, [.int x_view_posts, .int x_view_roads, .int x_view_weight, .ref q_view_weights, .ref q_view_near, .ref q_view_behind, .ref q_view_ahead])), (q_view_near, .inl (cI, 11, .inl x_view_near)), (q_hand, .inr (5, [.ref q_hand_posts, .int x_hand_size])), (q_hand_posts, .inl (cI, 11, .inl x_hand_posts)), (q_chase, .inr (1, [.ref q_chase_moves, .int s13, .ref q_chase_foul, .int x_chase_guarded, .int x_chase_most, .int x_chase_again, .int x_chase_idle])), (q_chase_moves, .inl (cI, 60, .inl s14)), (q_costs, .inr (2, [.ref q_view]))]) (k_runV (rest := []) (ci := 2) (q0 := 8) hx hb hml hown htb hK hN (c_X2_bagOf l dC dI cI cZ cN q_costs q_view q_view_weights q_view_near q_view_behind q_view_ahead q_hand q_hand_posts x_view_posts x_view_roads x_view_weight x_view_near x_hand_size x_hand_posts s12 v18 hv _) vf_X2_bagOf t_679 hP hD [8, 2, 3, 4, 5] rfl rfl rfl rfl ⟨(Nat.le_of_ble_eq_true rfl), (Nat.le_of_ble_eq_true rfl)⟩ rfl hl.1 rfl (Nat.le_of_ble_eq_true rfl) dX10_plan_64 ⟨Nat.zero_le _, Nat.zero_le _⟩) hA hP hD hS [8, 2, 3, 4, 5] [0, 1, 6, 7] [0, 1, 5, 6, 7, 8, 2, 3, 4] rfl rfl rfl rfl ?_
            clear hP hD hS
            intro H locs hP hD hS
            refine lv_istore_n (lv' := [(3, .int v18), (0, .ref q_), (1, .int s11), (2, .int s12)]) hx hb dX10_plan_67 rfl hl (by decide) rfl (fun ls hl => ?_)
            refine lv_aload_n hx hb dX10_plan_68 rfl (lv_at hl 1 rfl) ?_
            refine va_get (D := (dC, dI)) (ci := 9) (v := .ref q_chase) (C := RX10) (T := TX10) (N := 10) hx hb htb inX10 hown hK hP 0 rfl rfl 6 (Nat.le_of_ble_eq_true rfl) (htb _ t_284) (fun _ h9 => h9) rfl dX10_plan_69 ?_
            refine lv_iload_n hx hb dX10_plan_72 rfl (lv_at hl 2 rfl) ?_
            refine lv_iload_n hx hb dX10_plan_73 rfl (lv_at hl 0 rfl) ?_
            refine lv_iconst (v := (-1 : Int32)) hx hb dX10_plan_74 (by decide) ?_
            refine lv_ixor hx hb dX10_plan_75 ?_
            refine lv_iand hx hb dX10_plan_76 ?_
            refine lv_bipush (v := (100 : Int32)) hx hb dX10_plan_77 (by decide) ?_
            obtain ⟨o19, o20, hv, hf⟩ := ob2 hf
            refine k_afterV (wr := [(q_, .inr (9, [.ref q_net, .ref q_view, .ref q_history, .ref q_hand, .ref q_trial, .ref q_bags, .ref q_chase, .ref q_costs, .ref q_sets, .ref q_trials])), (q_net, .inr (4, [.int x_net_posts, .int x_net_pairs, .ref q_net_widths, .ref q_net_lengths, .ref q_net_told, .ref q_net_behind])), (q_view, .inr (8, [.int x_view_posts, .int x_view_roads, .int x_view_weight, .ref q_view_weights, .ref q_view_near, .ref q_view_behind, .ref q_view_ahead])), (q_view_near, .inl (cI, 11, .inl x_view_near)), (q_hand, .inr (5, [.ref q_hand_posts, .int x_hand_size])), (q_hand_posts, .inl (cI, 11, .inl x_hand_posts)), (q_costs, .inr (2, [.ref q_view]))]) (wn := [(q_, .inr (9, [.ref q_net, .ref q_view, .ref q_history, .ref q_hand, .ref q_trial, .ref q_bags, .ref q_chase, .ref q_costs, .ref q_sets, .ref q_trials])), (q_net, .inr (4, [.int x_net_posts, .int x_net_pairs, .ref q_net_widths, .ref q_net_lengths, .ref q_net_told, .ref q_net_behind])), (q_view, .inr (8, [.int x_view_posts, .int x_view_roads, .int x_view_weight, .ref q_view_weights, .ref q_view_near, .ref q_view_behind, .ref q_view_ahead])), (q_view_near, .inl (cI, 11, .inl x_view_near)), (q_hand, .inr (5, [.ref q_hand_posts, .int x_hand_size])), (q_hand_posts, .inl (cI, 11, .inl x_hand_posts)), (q_chase, .inr (1, [.ref q_chase_moves, .int o19, .ref q_chase_foul, .int x_chase_guarded, .int x_chase_most, .int x_chase_again, .int x_chase_idle])), (q_chase_moves, .inl (cI, 60, .inl o20)), (q_costs, .inr (2, [.ref q_view]))]) (k_runV (rest := []) (ci := 1) (q0 := 6) hx hb hml hown htb hK hN (c_X1_appendAll l dC dI cI cZ cN q_chase q_chase_moves q_chase_foul s13 x_chase_guarded x_chase_most x_chase_again x_chase_idle s14 (s11 &&& (v18 ^^^ (-1 : Int32))) (100 : Int32) o19 o20 hv _) vf_X1_appendAll t_761 hP hD [6, 7] rfl rfl rfl rfl ⟨(Nat.le_of_ble_eq_true rfl), (Nat.le_of_ble_eq_true rfl)⟩ rfl hl.1 rfl (Nat.le_of_ble_eq_true rfl) dX10_plan_79 ⟨Nat.zero_le _, Nat.zero_le _⟩) hA hP hD hS [6, 7] [0, 1, 2, 3, 4, 5, 8] [0, 1, 2, 3, 4, 5, 7, 8, 6] rfl rfl rfl rfl ?_
            clear hP hD hS
            intro H locs hP hD hS
            refine lv_aload_n hx hb dX10_plan_82 rfl (lv_at hl 1 rfl) ?_
            refine va_get (D := (dC, dI)) (ci := 9) (v := .ref q_chase) (C := RX10) (T := TX10) (N := 10) hx hb htb inX10 hown hK hP 0 rfl rfl 6 (Nat.le_of_ble_eq_true rfl) (htb _ t_284) (fun _ h9 => h9) rfl dX10_plan_83 ?_
            refine lv_iload_n hx hb dX10_plan_86 rfl (lv_at hl 0 rfl) ?_
            refine lv_iload_n hx hb dX10_plan_87 rfl (lv_at hl 2 rfl) ?_
            refine lv_iconst (v := (-1 : Int32)) hx hb dX10_plan_88 (by decide) ?_
            refine lv_ixor hx hb dX10_plan_89 ?_
            refine lv_iand hx hb dX10_plan_90 ?_
            refine lv_iconst (v := (0 : Int32)) hx hb dX10_plan_91 (by decide) ?_
            obtain ⟨o21, o22, hv, hf⟩ := ob2 hf
            refine k_afterV (wr := [(q_, .inr (9, [.ref q_net, .ref q_view, .ref q_history, .ref q_hand, .ref q_trial, .ref q_bags, .ref q_chase, .ref q_costs, .ref q_sets, .ref q_trials])), (q_net, .inr (4, [.int x_net_posts, .int x_net_pairs, .ref q_net_widths, .ref q_net_lengths, .ref q_net_told, .ref q_net_behind])), (q_view, .inr (8, [.int x_view_posts, .int x_view_roads, .int x_view_weight, .ref q_view_weights, .ref q_view_near, .ref q_view_behind, .ref q_view_ahead])), (q_view_near, .inl (cI, 11, .inl x_view_near)), (q_hand, .inr (5, [.ref q_hand_posts, .int x_hand_size])), (q_hand_posts, .inl (cI, 11, .inl x_hand_posts)), (q_costs, .inr (2, [.ref q_view]))]) (wn := [(q_, .inr (9, [.ref q_net, .ref q_view, .ref q_history, .ref q_hand, .ref q_trial, .ref q_bags, .ref q_chase, .ref q_costs, .ref q_sets, .ref q_trials])), (q_net, .inr (4, [.int x_net_posts, .int x_net_pairs, .ref q_net_widths, .ref q_net_lengths, .ref q_net_told, .ref q_net_behind])), (q_view, .inr (8, [.int x_view_posts, .int x_view_roads, .int x_view_weight, .ref q_view_weights, .ref q_view_near, .ref q_view_behind, .ref q_view_ahead])), (q_view_near, .inl (cI, 11, .inl x_view_near)), (q_hand, .inr (5, [.ref q_hand_posts, .int x_hand_size])), (q_hand_posts, .inl (cI, 11, .inl x_hand_posts)), (q_chase, .inr (1, [.ref q_chase_moves, .int o21, .ref q_chase_foul, .int x_chase_guarded, .int x_chase_most, .int x_chase_again, .int x_chase_idle])), (q_chase_moves, .inl (cI, 60, .inl o22)), (q_costs, .inr (2, [.ref q_view]))]) (k_runV (rest := []) (ci := 1) (q0 := 6) hx hb hml hown htb hK hN (c_X1_appendAll l dC dI cI cZ cN q_chase q_chase_moves q_chase_foul o19 x_chase_guarded x_chase_most x_chase_again x_chase_idle o20 (v18 &&& (s11 ^^^ (-1 : Int32))) (0 : Int32) o21 o22 hv _) vf_X1_appendAll t_761 hP hD [6, 7] rfl rfl rfl rfl ⟨(Nat.le_of_ble_eq_true rfl), (Nat.le_of_ble_eq_true rfl)⟩ rfl hl.1 rfl (Nat.le_of_ble_eq_true rfl) dX10_plan_92 ⟨Nat.zero_le _, Nat.zero_le _⟩) hA hP hD hS [6, 7] [0, 1, 2, 3, 4, 5, 8] [0, 1, 2, 3, 4, 5, 7, 8, 6] rfl rfl rfl rfl ?_
            clear hP hD hS
            intro H locs hP hD hS
            refine lv_iload_n hx hb dX10_plan_95 rfl (lv_at hl 0 rfl) ?_
            refine lv_istore_n (lv' := [(1, .int v18), (3, .int v18), (0, .ref q_), (2, .int s12)]) hx hb dX10_plan_96 rfl hl (by decide) rfl (fun ls hl => ?_)
            refine lv_iinc (v := (s12 + (1 : Int32))) (lv' := [(2, .int (s12 + (1 : Int32))), (1, .int v18), (3, .int v18), (0, .ref q_)]) hx hb dX10_plan_97 hl (k := 3) rfl rfl (by decide) rfl (fun ls hl => ?_)
            refine lv_goto (tgt := 44) hx hb dX10_plan_100 (by decide) ?_
            cases hf
            exact ih1 _ _ _ _ (itl hn1) _ _ _ hP hD hS (lv_sub hl [3, 1, 0] rfl)
      exact kl15 n0 _ _ _ _ hn0 _ _ _ hP hD hS (lv_sub hl [2, 1, 0] rfl)
    · have hf := im c4 hf
      refine lv_bipush (v := (-5 : Int32)) hx hb dX10_plan_29 (by decide) ?_
      exact hret _ _ _ hf _ _ _ _ rfl dX10_plan_31 hP hD hS
  · have hf := ip c2 hf
    refine lv_bipush (v := (-4 : Int32)) hx hb dX10_plan_17 (by decide) ?_
    exact hret _ _ _ hf _ _ _ _ rfl dX10_plan_19 hP hD hS
theorem vf_X10_clean : VF yX10_clean cX10_clean 2 (some .int) 1 := ⟨t_768, t_769, t_1, t_770, by decide +kernel, by decide +kernel, by decide +kernel⟩
theorem dX10_clean_0 : decode cX10_clean 0 = .ok (.iload_n 1, 1) := by decide +kernel
theorem dX10_clean_1 : decode cX10_clean 1 = .ok (.ifCond .lt 8, 3) := by decide +kernel
theorem dX10_clean_4 : decode cX10_clean 4 = .ok (.iload_n 1, 1) := by decide +kernel
theorem dX10_clean_5 : decode cX10_clean 5 = .ok (.iconst 3, 1) := by decide +kernel
theorem dX10_clean_6 : decode cX10_clean 6 = .ok (.if_icmp .le 6, 3) := by decide +kernel
theorem dX10_clean_9 : decode cX10_clean 9 = .ok (.bipush (-3), 2) := by decide +kernel
theorem dX10_clean_11 : decode cX10_clean 11 = .ok (.ireturn, 1) := by decide +kernel
theorem dX10_clean_12 : decode cX10_clean 12 = .ok (.aload_n 0, 1) := by decide +kernel
theorem dX10_clean_13 : decode cX10_clean 13 = .ok (.getfield 50, 3) := by decide +kernel
theorem dX10_clean_16 : decode cX10_clean 16 = .ok (.aload_n 0, 1) := by decide +kernel
theorem dX10_clean_17 : decode cX10_clean 17 = .ok (.getfield 19, 3) := by decide +kernel
theorem dX10_clean_20 : decode cX10_clean 20 = .ok (.invokevirtual 255, 3) := by decide +kernel
theorem dX10_clean_23 : decode cX10_clean 23 = .ok (.iload_n 1, 1) := by decide +kernel
theorem dX10_clean_24 : decode cX10_clean 24 = .ok (.tableswitch 52 0 2 #[28, 36, 44], 28) := by decide +kernel
theorem dX10_clean_52 : decode cX10_clean 52 = .ok (.aload_n 0, 1) := by decide +kernel
theorem dX10_clean_53 : decode cX10_clean 53 = .ok (.getfield 50, 3) := by decide +kernel
theorem dX10_clean_56 : decode cX10_clean 56 = .ok (.invokevirtual 258, 3) := by decide +kernel
theorem dX10_clean_59 : decode cX10_clean 59 = .ok (.ireturn, 1) := by decide +kernel
theorem dX10_clean_60 : decode cX10_clean 60 = .ok (.aload_n 0, 1) := by decide +kernel
theorem dX10_clean_61 : decode cX10_clean 61 = .ok (.getfield 50, 3) := by decide +kernel
theorem dX10_clean_64 : decode cX10_clean 64 = .ok (.getfield 261, 3) := by decide +kernel
theorem dX10_clean_67 : decode cX10_clean 67 = .ok (.ireturn, 1) := by decide +kernel
theorem dX10_clean_68 : decode cX10_clean 68 = .ok (.aload_n 0, 1) := by decide +kernel
theorem dX10_clean_69 : decode cX10_clean 69 = .ok (.getfield 50, 3) := by decide +kernel
theorem dX10_clean_72 : decode cX10_clean 72 = .ok (.getfield 264, 3) := by decide +kernel
theorem dX10_clean_75 : decode cX10_clean 75 = .ok (.ireturn, 1) := by decide +kernel
theorem dX10_clean_76 : decode cX10_clean 76 = .ok (.aload_n 0, 1) := by decide +kernel
theorem dX10_clean_77 : decode cX10_clean 77 = .ok (.getfield 50, 3) := by decide +kernel
theorem dX10_clean_80 : decode cX10_clean 80 = .ok (.getfield 267, 3) := by decide +kernel
theorem dX10_clean_83 : decode cX10_clean 83 = .ok (.ireturn, 1) := by decide +kernel
noncomputable def f_X10_clean (x_view_posts : Int32) (x_view_near : Nat → Int32) (x_chase_size : Int32) (x_chase_guarded : Int32) (x_chase_most : Int32) (x_chase_again : Int32) (x_chase_idle : Int32) (x_chase_moves : Nat → Int32) (x_chase_foul : Nat → Int32) (i1 : Int32) : Option (Int32 × Int32 × Int32 × Int32 × Int32 × (Nat → Int32)) :=
  if i1 < 0 then (some (((-3 : Int32), x_chase_guarded, x_chase_most, x_chase_again, x_chase_idle, x_chase_foul))) else (if i1 ≤ (3 : Int32) then (b5 (f_X1_run x_chase_size x_chase_guarded x_chase_most x_chase_again x_chase_idle x_chase_moves x_chase_foul x_view_posts x_view_near) fun o3 o4 o5 o6 o7 =>
  if i1 = (0 : Int32) then ((f_X1_foulRoads o7).bind fun v9 =>
  some ((v9, o3, o4, o5, o6, o7))) else (if i1 = (1 : Int32) then (some ((o4, o3, o4, o5, o6, o7))) else (if i1 = (2 : Int32) then (some ((o5, o3, o4, o5, o6, o7))) else (some ((o6, o3, o4, o5, o6, o7)))))) else (some (((-3 : Int32), x_chase_guarded, x_chase_most, x_chase_again, x_chase_idle, x_chase_foul))))
set_option maxHeartbeats 4000000 in
set_option maxRecDepth 100000 in
theorem c_X10_clean (l : Launch) (dC : Nat → ClassId) (dI : Nat → Nat → Nat) (cI cZ cN : ClassId) (q_ : Nat) (q_net : Nat) (q_view : Nat) (q_history : Nat) (q_hand : Nat) (q_trial : Nat) (q_bags : Nat) (q_chase : Nat) (q_costs : Nat) (q_sets : Nat) (q_trials : Nat) (q_view_weights : Nat) (q_view_near : Nat) (q_view_behind : Nat) (q_view_ahead : Nat) (q_chase_moves : Nat) (q_chase_foul : Nat) (x_view_posts : Int32) (x_view_roads : Int32) (x_view_weight : Int32) (x_view_near : Nat → Int32) (x_chase_size : Int32) (x_chase_guarded : Int32) (x_chase_most : Int32) (x_chase_again : Int32) (x_chase_idle : Int32) (x_chase_moves : Nat → Int32) (x_chase_foul : Nat → Int32) (i1 : Int32) (r : Int32) (o_chase_guarded : Int32) (o_chase_most : Int32) (o_chase_again : Int32) (o_chase_idle : Int32) (o_chase_foul : Nat → Int32) (hf : f_X10_clean x_view_posts x_view_near x_chase_size x_chase_guarded x_chase_most x_chase_again x_chase_idle x_chase_moves x_chase_foul i1 = some (r, o_chase_guarded, o_chase_most, o_chase_again, o_chase_idle, o_chase_foul)) : CI l yX10_clean cX10_clean 2 (some .int) 7 175 (dC, dI) (TY cI cZ cN) [.ref q_, .int i1] [(q_, .inr (9, [.ref q_net, .ref q_view, .ref q_history, .ref q_hand, .ref q_trial, .ref q_bags, .ref q_chase, .ref q_costs, .ref q_sets, .ref q_trials])), (q_view, .inr (8, [.int x_view_posts, .int x_view_roads, .int x_view_weight, .ref q_view_weights, .ref q_view_near, .ref q_view_behind, .ref q_view_ahead])), (q_view_near, .inl (cI, 11, .inl x_view_near)), (q_chase, .inr (1, [.ref q_chase_moves, .int x_chase_size, .ref q_chase_foul, .int x_chase_guarded, .int x_chase_most, .int x_chase_again, .int x_chase_idle])), (q_chase_moves, .inl (cI, 60, .inl x_chase_moves)), (q_chase_foul, .inl (cI, 11, .inl x_chase_foul))] [(q_, .inr (9, [.ref q_net, .ref q_view, .ref q_history, .ref q_hand, .ref q_trial, .ref q_bags, .ref q_chase, .ref q_costs, .ref q_sets, .ref q_trials])), (q_view, .inr (8, [.int x_view_posts, .int x_view_roads, .int x_view_weight, .ref q_view_weights, .ref q_view_near, .ref q_view_behind, .ref q_view_ahead])), (q_view_near, .inl (cI, 11, .inl x_view_near)), (q_chase, .inr (1, [.ref q_chase_moves, .int x_chase_size, .ref q_chase_foul, .int o_chase_guarded, .int o_chase_most, .int o_chase_again, .int o_chase_idle])), (q_chase_moves, .inl (cI, 60, .inl x_chase_moves)), (q_chase_foul, .inl (cI, 11, .inl o_chase_foul))] r := by
  refine CI.of rfl (by decide) (Nat.le_of_ble_eq_true rfl) ?_
  intro p e s m args below meth c Q A ls hx hb hml hown htb hK hN hA hP hD hS hl hret
  have hown : s.vm.findClass RX10 = some m.cls := hown
  have hl : lv_has ls 2 [(0, .ref q_), (1, .int i1)] := hl
  have hret : ∀ (r9 : Int32) (o9_chase_guarded : Int32) (o9_chase_most : Int32) (o9_chase_again : Int32) (o9_chase_idle : Int32) (o9_chase_foul : Nat → Int32), some (r9, o9_chase_guarded, o9_chase_most, o9_chase_again, o9_chase_idle, o9_chase_foul) = some (r, o_chase_guarded, o_chase_most, o_chase_again, o_chase_idle, o_chase_foul) → ∀ (H : Heap) (locs : List Loc) (pc : Nat) (ls : Array Slot), narrow .int (.int r9) = .int r9 → decode cX10_clean pc = .ok (.ireturn, 1) → va_P (dC, dI) vwCl [(q_, .inr (9, [.ref q_net, .ref q_view, .ref q_history, .ref q_hand, .ref q_trial, .ref q_bags, .ref q_chase, .ref q_costs, .ref q_sets, .ref q_trials])), (q_view, .inr (8, [.int x_view_posts, .int x_view_roads, .int x_view_weight, .ref q_view_weights, .ref q_view_near, .ref q_view_behind, .ref q_view_ahead])), (q_view_near, .inl (cI, 11, .inl x_view_near)), (q_chase, .inr (1, [.ref q_chase_moves, .int x_chase_size, .ref q_chase_foul, .int o9_chase_guarded, .int o9_chase_most, .int o9_chase_again, .int o9_chase_idle])), (q_chase_moves, .inl (cI, 60, .inl x_chase_moves)), (q_chase_foul, .inl (cI, 11, .inl o9_chase_foul))] H → va_D A [(q_, .inr (9, [.ref q_net, .ref q_view, .ref q_history, .ref q_hand, .ref q_trial, .ref q_bags, .ref q_chase, .ref q_costs, .ref q_sets, .ref q_trials])), (q_view, .inr (8, [.int x_view_posts, .int x_view_roads, .int x_view_weight, .ref q_view_weights, .ref q_view_near, .ref q_view_behind, .ref q_view_ahead])), (q_view_near, .inl (cI, 11, .inl x_view_near)), (q_chase, .inr (1, [.ref q_chase_moves, .int x_chase_size, .ref q_chase_foul, .int o9_chase_guarded, .int o9_chase_most, .int o9_chase_again, .int o9_chase_idle])), (q_chase_moves, .inl (cI, 60, .inl x_chase_moves)), (q_chase_foul, .inl (cI, 11, .inl o9_chase_foul))] → va_S A s.heap H locs → W p l e (rmK 7 175) s m args below meth c H locs 0 0 Q (F0 m pc ls [.int r9]) := by
    intro r9 o9_chase_guarded o9_chase_most o9_chase_again o9_chase_idle o9_chase_foul h9
    cases h9
    exact hret
  unfold f_X10_clean at hf
  refine lv_iload_n hx hb dX10_clean_0 rfl (lv_at hl 1 rfl) ?_
  refine lv_if_lt (tgt := 9) hx hb dX10_clean_1 (by decide) (fun c1 => ?_) (fun c1 => ?_)
  · have hf := ip c1 hf
    refine lv_bipush (v := (-3 : Int32)) hx hb dX10_clean_9 (by decide) ?_
    exact hret _ _ _ _ _ _ hf _ _ _ _ rfl dX10_clean_11 hP hD hS
  · have hf := im c1 hf
    refine lv_iload_n hx hb dX10_clean_4 rfl (lv_at hl 1 rfl) ?_
    refine lv_iconst (v := (3 : Int32)) hx hb dX10_clean_5 (by decide) ?_
    refine lv_icmp_le (tgt := 12) hx hb dX10_clean_6 (by decide) (fun c2 => ?_) (fun c2 => ?_)
    · have hf := ip c2 hf
      refine lv_aload_n hx hb dX10_clean_12 rfl (lv_at hl 0 rfl) ?_
      refine va_get (D := (dC, dI)) (ci := 9) (v := .ref q_chase) (C := RX10) (T := TX10) (N := 10) hx hb htb inX10 hown hK hP 0 rfl rfl 6 (Nat.le_of_ble_eq_true rfl) (htb _ t_284) (fun _ h9 => h9) rfl dX10_clean_13 ?_
      refine lv_aload_n hx hb dX10_clean_16 rfl (lv_at hl 0 rfl) ?_
      refine va_get (D := (dC, dI)) (ci := 9) (v := .ref q_view) (C := RX10) (T := TX10) (N := 10) hx hb htb inX10 hown hK hP 0 rfl rfl 1 (Nat.le_of_ble_eq_true rfl) (htb _ t_279) (fun _ h9 => h9) rfl dX10_clean_17 ?_
      obtain ⟨o3, o4, o5, o6, o7, hv, hf⟩ := ob5 hf
      refine k_afterV (wr := [(q_, .inr (9, [.ref q_net, .ref q_view, .ref q_history, .ref q_hand, .ref q_trial, .ref q_bags, .ref q_chase, .ref q_costs, .ref q_sets, .ref q_trials]))]) (wn := [(q_, .inr (9, [.ref q_net, .ref q_view, .ref q_history, .ref q_hand, .ref q_trial, .ref q_bags, .ref q_chase, .ref q_costs, .ref q_sets, .ref q_trials])), (q_view, .inr (8, [.int x_view_posts, .int x_view_roads, .int x_view_weight, .ref q_view_weights, .ref q_view_near, .ref q_view_behind, .ref q_view_ahead])), (q_view_near, .inl (cI, 11, .inl x_view_near)), (q_chase, .inr (1, [.ref q_chase_moves, .int x_chase_size, .ref q_chase_foul, .int o3, .int o4, .int o5, .int o6])), (q_chase_moves, .inl (cI, 60, .inl x_chase_moves)), (q_chase_foul, .inl (cI, 11, .inl o7))]) (k_runV (rest := []) (ci := 1) (q0 := 3) hx hb hml hown htb hK hN (c_X1_run l dC dI cI cZ cN q_chase q_chase_moves q_chase_foul q_view q_view_weights q_view_near q_view_behind q_view_ahead x_chase_size x_chase_guarded x_chase_most x_chase_again x_chase_idle x_chase_moves x_chase_foul x_view_posts x_view_roads x_view_weight x_view_near o3 o4 o5 o6 o7 hv _) vf_X1_run t_771 hP hD [3, 4, 5, 1, 2] rfl rfl rfl rfl ⟨(Nat.le_of_ble_eq_true rfl), (Nat.le_of_ble_eq_true rfl)⟩ rfl hl.1 rfl (Nat.le_of_ble_eq_true rfl) dX10_clean_20 ⟨Nat.zero_le _, Nat.zero_le _⟩) hA hP hD hS [3, 4, 5, 1, 2] [0] [0, 4, 5, 1, 2, 3] rfl rfl rfl rfl ?_
      clear hP hD hS
      intro H locs hP hD hS
      refine lv_iload_n hx hb dX10_clean_23 rfl (lv_at hl 1 rfl) ?_
      by_cases c8 : i1 = (0 : Int32)
      · have hf := ip c8 hf
        refine lv_tableIn (off := 28) (tgt := 52) hx hb dX10_clean_24 (by rw [c8]; decide) (by rw [c8]; decide) (by rw [c8]; rfl) (by decide) ?_
        refine lv_aload_n hx hb dX10_clean_52 rfl (lv_at hl 0 rfl) ?_
        refine va_get (D := (dC, dI)) (ci := 9) (v := .ref q_chase) (C := RX10) (T := TX10) (N := 10) hx hb htb inX10 hown hK hP 0 rfl rfl 6 (Nat.le_of_ble_eq_true rfl) (htb _ t_284) (fun _ h9 => h9) rfl dX10_clean_53 ?_
        obtain ⟨v9, hv, hf⟩ := ob hf
        refine k_afterI (wr := [(q_, .inr (9, [.ref q_net, .ref q_view, .ref q_history, .ref q_hand, .ref q_trial, .ref q_bags, .ref q_chase, .ref q_costs, .ref q_sets, .ref q_trials])), (q_view, .inr (8, [.int x_view_posts, .int x_view_roads, .int x_view_weight, .ref q_view_weights, .ref q_view_near, .ref q_view_behind, .ref q_view_ahead])), (q_view_near, .inl (cI, 11, .inl x_view_near)), (q_chase_moves, .inl (cI, 60, .inl x_chase_moves))]) (wn := [(q_, .inr (9, [.ref q_net, .ref q_view, .ref q_history, .ref q_hand, .ref q_trial, .ref q_bags, .ref q_chase, .ref q_costs, .ref q_sets, .ref q_trials])), (q_view, .inr (8, [.int x_view_posts, .int x_view_roads, .int x_view_weight, .ref q_view_weights, .ref q_view_near, .ref q_view_behind, .ref q_view_ahead])), (q_view_near, .inl (cI, 11, .inl x_view_near)), (q_chase, .inr (1, [.ref q_chase_moves, .int x_chase_size, .ref q_chase_foul, .int o3, .int o4, .int o5, .int o6])), (q_chase_moves, .inl (cI, 60, .inl x_chase_moves)), (q_chase_foul, .inl (cI, 11, .inl o7))]) (k_runV (rest := []) (ci := 1) (q0 := 3) hx hb hml hown htb hK hN (c_X1_foulRoads l dC dI cI cZ cN q_chase q_chase_moves q_chase_foul x_chase_size o3 o4 o5 o6 o7 v9 hv _) vf_X1_foulRoads t_794 hP hD [3, 5] rfl rfl rfl rfl ⟨(Nat.le_of_ble_eq_true rfl), (Nat.le_of_ble_eq_true rfl)⟩ rfl hl.1 rfl (Nat.le_of_ble_eq_true rfl) dX10_clean_56 ⟨Nat.zero_le _, Nat.zero_le _⟩) hA hP hD hS [3, 5] [0, 1, 2, 4] [0, 1, 2, 4, 3, 5] rfl rfl rfl rfl ?_
        clear hP hD hS
        intro H locs hP hD hS
        exact hret _ _ _ _ _ _ hf _ _ _ _ rfl dX10_clean_59 hP hD hS
      have hf := im c8 hf
      by_cases c10 : i1 = (1 : Int32)
      · have hf := ip c10 hf
        refine lv_tableIn (off := 36) (tgt := 60) hx hb dX10_clean_24 (by rw [c10]; decide) (by rw [c10]; decide) (by rw [c10]; rfl) (by decide) ?_
        refine lv_aload_n hx hb dX10_clean_60 rfl (lv_at hl 0 rfl) ?_
        refine va_get (D := (dC, dI)) (ci := 9) (v := .ref q_chase) (C := RX10) (T := TX10) (N := 10) hx hb htb inX10 hown hK hP 0 rfl rfl 6 (Nat.le_of_ble_eq_true rfl) (htb _ t_284) (fun _ h9 => h9) rfl dX10_clean_61 ?_
        refine va_get (D := (dC, dI)) (ci := 1) (v := .int o4) (C := RX1) (T := TX1) (N := 7) hx hb htb inX1 hown hK hP 3 rfl rfl 4 (Nat.le_of_ble_eq_true rfl) (htb _ t_171) (fun _ h9 => h9) rfl dX10_clean_64 ?_
        exact hret _ _ _ _ _ _ hf _ _ _ _ rfl dX10_clean_67 hP hD hS
      have hf := im c10 hf
      by_cases c11 : i1 = (2 : Int32)
      · have hf := ip c11 hf
        refine lv_tableIn (off := 44) (tgt := 68) hx hb dX10_clean_24 (by rw [c11]; decide) (by rw [c11]; decide) (by rw [c11]; rfl) (by decide) ?_
        refine lv_aload_n hx hb dX10_clean_68 rfl (lv_at hl 0 rfl) ?_
        refine va_get (D := (dC, dI)) (ci := 9) (v := .ref q_chase) (C := RX10) (T := TX10) (N := 10) hx hb htb inX10 hown hK hP 0 rfl rfl 6 (Nat.le_of_ble_eq_true rfl) (htb _ t_284) (fun _ h9 => h9) rfl dX10_clean_69 ?_
        refine va_get (D := (dC, dI)) (ci := 1) (v := .int o5) (C := RX1) (T := TX1) (N := 7) hx hb htb inX1 hown hK hP 3 rfl rfl 5 (Nat.le_of_ble_eq_true rfl) (htb _ t_173) (fun _ h9 => h9) rfl dX10_clean_72 ?_
        exact hret _ _ _ _ _ _ hf _ _ _ _ rfl dX10_clean_75 hP hD hS
      have hf := im c11 hf
      refine lv_tableOut (tgt := 76) hx hb dX10_clean_24 (tab_out 2 (by decide) (fun k hk => by
            rcases (show k = 0 ∨ k = 1 ∨ k = 2 by omega) with rfl | rfl | rfl
            · exact c8
            · exact c10
            · exact c11)) (by decide) ?_
      refine lv_aload_n hx hb dX10_clean_76 rfl (lv_at hl 0 rfl) ?_
      refine va_get (D := (dC, dI)) (ci := 9) (v := .ref q_chase) (C := RX10) (T := TX10) (N := 10) hx hb htb inX10 hown hK hP 0 rfl rfl 6 (Nat.le_of_ble_eq_true rfl) (htb _ t_284) (fun _ h9 => h9) rfl dX10_clean_77 ?_
      refine va_get (D := (dC, dI)) (ci := 1) (v := .int o6) (C := RX1) (T := TX1) (N := 7) hx hb htb inX1 hown hK hP 3 rfl rfl 6 (Nat.le_of_ble_eq_true rfl) (htb _ t_175) (fun _ h9 => h9) rfl dX10_clean_80 ?_
      exact hret _ _ _ _ _ _ hf _ _ _ _ rfl dX10_clean_83 hP hD hS
    · have hf := im c2 hf
      refine lv_bipush (v := (-3 : Int32)) hx hb dX10_clean_9 (by decide) ?_
      exact hret _ _ _ _ _ _ hf _ _ _ _ rfl dX10_clean_11 hP hD hS
theorem vf_X10_count : VF yX10_count cX10_count 2 (some .int) 1 := ⟨t_807, t_808, t_1, t_809, by decide +kernel, by decide +kernel, by decide +kernel⟩
theorem dX10_count_0 : decode cX10_count 0 = .ok (.iload_n 1, 1) := by decide +kernel
theorem dX10_count_1 : decode cX10_count 1 = .ok (.tableswitch 123 0 8 #[51, 59, 67, 75, 83, 91, 99, 107, 115], 51) := by decide +kernel
theorem dX10_count_52 : decode cX10_count 52 = .ok (.aload_n 0, 1) := by decide +kernel
theorem dX10_count_53 : decode cX10_count 53 = .ok (.getfield 12, 3) := by decide +kernel
theorem dX10_count_56 : decode cX10_count 56 = .ok (.getfield 79, 3) := by decide +kernel
theorem dX10_count_59 : decode cX10_count 59 = .ok (.ireturn, 1) := by decide +kernel
theorem dX10_count_60 : decode cX10_count 60 = .ok (.aload_n 0, 1) := by decide +kernel
theorem dX10_count_61 : decode cX10_count 61 = .ok (.getfield 19, 3) := by decide +kernel
theorem dX10_count_64 : decode cX10_count 64 = .ok (.getfield 274, 3) := by decide +kernel
theorem dX10_count_67 : decode cX10_count 67 = .ok (.ireturn, 1) := by decide +kernel
theorem dX10_count_68 : decode cX10_count 68 = .ok (.aload_n 0, 1) := by decide +kernel
theorem dX10_count_69 : decode cX10_count 69 = .ok (.getfield 12, 3) := by decide +kernel
theorem dX10_count_72 : decode cX10_count 72 = .ok (.getfield 131, 3) := by decide +kernel
theorem dX10_count_75 : decode cX10_count 75 = .ok (.ireturn, 1) := by decide +kernel
theorem dX10_count_76 : decode cX10_count 76 = .ok (.aload_n 0, 1) := by decide +kernel
theorem dX10_count_77 : decode cX10_count 77 = .ok (.getfield 12, 3) := by decide +kernel
theorem dX10_count_80 : decode cX10_count 80 = .ok (.invokevirtual 277, 3) := by decide +kernel
theorem dX10_count_83 : decode cX10_count 83 = .ok (.ireturn, 1) := by decide +kernel
theorem dX10_count_84 : decode cX10_count 84 = .ok (.aload_n 0, 1) := by decide +kernel
theorem dX10_count_85 : decode cX10_count 85 = .ok (.getfield 33, 3) := by decide +kernel
theorem dX10_count_88 : decode cX10_count 88 = .ok (.getfield 152, 3) := by decide +kernel
theorem dX10_count_91 : decode cX10_count 91 = .ok (.ireturn, 1) := by decide +kernel
theorem dX10_count_92 : decode cX10_count 92 = .ok (.aload_n 0, 1) := by decide +kernel
theorem dX10_count_93 : decode cX10_count 93 = .ok (.getfield 43, 3) := by decide +kernel
theorem dX10_count_96 : decode cX10_count 96 = .ok (.getfield 233, 3) := by decide +kernel
theorem dX10_count_99 : decode cX10_count 99 = .ok (.ireturn, 1) := by decide +kernel
theorem dX10_count_100 : decode cX10_count 100 = .ok (.aload_n 0, 1) := by decide +kernel
theorem dX10_count_101 : decode cX10_count 101 = .ok (.getfield 50, 3) := by decide +kernel
theorem dX10_count_104 : decode cX10_count 104 = .ok (.getfield 246, 3) := by decide +kernel
theorem dX10_count_107 : decode cX10_count 107 = .ok (.ireturn, 1) := by decide +kernel
theorem dX10_count_108 : decode cX10_count 108 = .ok (.aload_n 0, 1) := by decide +kernel
theorem dX10_count_109 : decode cX10_count 109 = .ok (.getfield 26, 3) := by decide +kernel
theorem dX10_count_112 : decode cX10_count 112 = .ok (.getfield 270, 3) := by decide +kernel
theorem dX10_count_115 : decode cX10_count 115 = .ok (.ireturn, 1) := by decide +kernel
theorem dX10_count_116 : decode cX10_count 116 = .ok (.aload_n 0, 1) := by decide +kernel
theorem dX10_count_117 : decode cX10_count 117 = .ok (.getfield 19, 3) := by decide +kernel
theorem dX10_count_120 : decode cX10_count 120 = .ok (.getfield 280, 3) := by decide +kernel
theorem dX10_count_123 : decode cX10_count 123 = .ok (.ireturn, 1) := by decide +kernel
theorem dX10_count_124 : decode cX10_count 124 = .ok (.bipush (-3), 2) := by decide +kernel
theorem dX10_count_126 : decode cX10_count 126 = .ok (.ireturn, 1) := by decide +kernel
noncomputable def f_X10_count (x_net_posts : Int32) (x_net_pairs : Int32) (x_net_widths : Nat → Int32) (x_view_roads : Int32) (x_view_weight : Int32) (x_history_size : Int32) (x_hand_size : Int32) (x_bags_size : Int32) (x_chase_size : Int32) (i1 : Int32) : Option (Int32) :=
  if i1 = (0 : Int32) then (some (x_net_posts)) else (if i1 = (1 : Int32) then (some (x_view_roads)) else (if i1 = (2 : Int32) then (some (x_net_pairs)) else (if i1 = (3 : Int32) then ((f_X4_sheets x_net_posts x_net_widths).bind fun v5 =>
  some (v5)) else (if i1 = (4 : Int32) then (some (x_hand_size)) else (if i1 = (5 : Int32) then (some (x_bags_size)) else (if i1 = (6 : Int32) then (some (x_chase_size)) else (if i1 = (7 : Int32) then (some (x_history_size)) else (if i1 = (8 : Int32) then (some (x_view_weight)) else (some ((-3 : Int32)))))))))))
set_option maxHeartbeats 4000000 in
set_option maxRecDepth 100000 in
theorem c_X10_count (l : Launch) (dC : Nat → ClassId) (dI : Nat → Nat → Nat) (cI cZ cN : ClassId) (q_ : Nat) (q_net : Nat) (q_view : Nat) (q_history : Nat) (q_hand : Nat) (q_trial : Nat) (q_bags : Nat) (q_chase : Nat) (q_costs : Nat) (q_sets : Nat) (q_trials : Nat) (q_net_widths : Nat) (q_net_lengths : Nat) (q_net_told : Nat) (q_net_behind : Nat) (q_view_weights : Nat) (q_view_near : Nat) (q_view_behind : Nat) (q_view_ahead : Nat) (q_history_kept : Nat) (q_hand_posts : Nat) (q_bags_sets : Nat) (q_chase_moves : Nat) (q_chase_foul : Nat) (x_net_posts : Int32) (x_net_pairs : Int32) (x_net_widths : Nat → Int32) (x_view_posts : Int32) (x_view_roads : Int32) (x_view_weight : Int32) (x_history_oldest : Int32) (x_history_size : Int32) (x_hand_size : Int32) (x_bags_size : Int32) (x_chase_size : Int32) (x_chase_guarded : Int32) (x_chase_most : Int32) (x_chase_again : Int32) (x_chase_idle : Int32) (i1 : Int32) (r : Int32) (hf : f_X10_count x_net_posts x_net_pairs x_net_widths x_view_roads x_view_weight x_history_size x_hand_size x_bags_size x_chase_size i1 = some r) : CI l yX10_count cX10_count 2 (some .int) 4 103 (dC, dI) (TY cI cZ cN) [.ref q_, .int i1] [(q_, .inr (9, [.ref q_net, .ref q_view, .ref q_history, .ref q_hand, .ref q_trial, .ref q_bags, .ref q_chase, .ref q_costs, .ref q_sets, .ref q_trials])), (q_net, .inr (4, [.int x_net_posts, .int x_net_pairs, .ref q_net_widths, .ref q_net_lengths, .ref q_net_told, .ref q_net_behind])), (q_net_widths, .inl (cI, 11, .inl x_net_widths)), (q_view, .inr (8, [.int x_view_posts, .int x_view_roads, .int x_view_weight, .ref q_view_weights, .ref q_view_near, .ref q_view_behind, .ref q_view_ahead])), (q_history, .inr (3, [.ref q_history_kept, .int x_history_oldest, .int x_history_size])), (q_hand, .inr (5, [.ref q_hand_posts, .int x_hand_size])), (q_bags, .inr (0, [.ref q_bags_sets, .int x_bags_size])), (q_chase, .inr (1, [.ref q_chase_moves, .int x_chase_size, .ref q_chase_foul, .int x_chase_guarded, .int x_chase_most, .int x_chase_again, .int x_chase_idle]))] [(q_, .inr (9, [.ref q_net, .ref q_view, .ref q_history, .ref q_hand, .ref q_trial, .ref q_bags, .ref q_chase, .ref q_costs, .ref q_sets, .ref q_trials])), (q_net, .inr (4, [.int x_net_posts, .int x_net_pairs, .ref q_net_widths, .ref q_net_lengths, .ref q_net_told, .ref q_net_behind])), (q_net_widths, .inl (cI, 11, .inl x_net_widths)), (q_view, .inr (8, [.int x_view_posts, .int x_view_roads, .int x_view_weight, .ref q_view_weights, .ref q_view_near, .ref q_view_behind, .ref q_view_ahead])), (q_history, .inr (3, [.ref q_history_kept, .int x_history_oldest, .int x_history_size])), (q_hand, .inr (5, [.ref q_hand_posts, .int x_hand_size])), (q_bags, .inr (0, [.ref q_bags_sets, .int x_bags_size])), (q_chase, .inr (1, [.ref q_chase_moves, .int x_chase_size, .ref q_chase_foul, .int x_chase_guarded, .int x_chase_most, .int x_chase_again, .int x_chase_idle]))] r := by
  refine CI.of rfl (by decide) (Nat.le_of_ble_eq_true rfl) ?_
  intro p e s m args below meth c Q A ls hx hb hml hown htb hK hN hA hP hD hS hl hret
  have hown : s.vm.findClass RX10 = some m.cls := hown
  have hl : lv_has ls 2 [(0, .ref q_), (1, .int i1)] := hl
  have hret : ∀ (r9 : Int32), some r9 = some r → ∀ (H : Heap) (locs : List Loc) (pc : Nat) (ls : Array Slot), narrow .int (.int r9) = .int r9 → decode cX10_count pc = .ok (.ireturn, 1) → va_P (dC, dI) vwCl [(q_, .inr (9, [.ref q_net, .ref q_view, .ref q_history, .ref q_hand, .ref q_trial, .ref q_bags, .ref q_chase, .ref q_costs, .ref q_sets, .ref q_trials])), (q_net, .inr (4, [.int x_net_posts, .int x_net_pairs, .ref q_net_widths, .ref q_net_lengths, .ref q_net_told, .ref q_net_behind])), (q_net_widths, .inl (cI, 11, .inl x_net_widths)), (q_view, .inr (8, [.int x_view_posts, .int x_view_roads, .int x_view_weight, .ref q_view_weights, .ref q_view_near, .ref q_view_behind, .ref q_view_ahead])), (q_history, .inr (3, [.ref q_history_kept, .int x_history_oldest, .int x_history_size])), (q_hand, .inr (5, [.ref q_hand_posts, .int x_hand_size])), (q_bags, .inr (0, [.ref q_bags_sets, .int x_bags_size])), (q_chase, .inr (1, [.ref q_chase_moves, .int x_chase_size, .ref q_chase_foul, .int x_chase_guarded, .int x_chase_most, .int x_chase_again, .int x_chase_idle]))] H → va_D A [(q_, .inr (9, [.ref q_net, .ref q_view, .ref q_history, .ref q_hand, .ref q_trial, .ref q_bags, .ref q_chase, .ref q_costs, .ref q_sets, .ref q_trials])), (q_net, .inr (4, [.int x_net_posts, .int x_net_pairs, .ref q_net_widths, .ref q_net_lengths, .ref q_net_told, .ref q_net_behind])), (q_net_widths, .inl (cI, 11, .inl x_net_widths)), (q_view, .inr (8, [.int x_view_posts, .int x_view_roads, .int x_view_weight, .ref q_view_weights, .ref q_view_near, .ref q_view_behind, .ref q_view_ahead])), (q_history, .inr (3, [.ref q_history_kept, .int x_history_oldest, .int x_history_size])), (q_hand, .inr (5, [.ref q_hand_posts, .int x_hand_size])), (q_bags, .inr (0, [.ref q_bags_sets, .int x_bags_size])), (q_chase, .inr (1, [.ref q_chase_moves, .int x_chase_size, .ref q_chase_foul, .int x_chase_guarded, .int x_chase_most, .int x_chase_again, .int x_chase_idle]))] → va_S A s.heap H locs → W p l e (rmK 4 103) s m args below meth c H locs 0 0 Q (F0 m pc ls [.int r9]) := by
    intro r9 h9
    cases h9
    exact hret
  unfold f_X10_count at hf
  refine lv_iload_n hx hb dX10_count_0 rfl (lv_at hl 1 rfl) ?_
  by_cases c1 : i1 = (0 : Int32)
  · have hf := ip c1 hf
    refine lv_tableIn (off := 51) (tgt := 52) hx hb dX10_count_1 (by rw [c1]; decide) (by rw [c1]; decide) (by rw [c1]; rfl) (by decide) ?_
    refine lv_aload_n hx hb dX10_count_52 rfl (lv_at hl 0 rfl) ?_
    refine va_get (D := (dC, dI)) (ci := 9) (v := .ref q_net) (C := RX10) (T := TX10) (N := 10) hx hb htb inX10 hown hK hP 0 rfl rfl 0 (Nat.le_of_ble_eq_true rfl) (htb _ t_278) (fun _ h9 => h9) rfl dX10_count_53 ?_
    refine va_get (D := (dC, dI)) (ci := 4) (v := .int x_net_posts) (C := RX4) (T := TX4) (N := 6) hx hb htb inX4 hown hK hP 1 rfl rfl 0 (Nat.le_of_ble_eq_true rfl) (htb _ t_35) (fun _ h9 => h9) rfl dX10_count_56 ?_
    exact hret _ hf _ _ _ _ rfl dX10_count_59 hP hD hS
  have hf := im c1 hf
  by_cases c2 : i1 = (1 : Int32)
  · have hf := ip c2 hf
    refine lv_tableIn (off := 59) (tgt := 60) hx hb dX10_count_1 (by rw [c2]; decide) (by rw [c2]; decide) (by rw [c2]; rfl) (by decide) ?_
    refine lv_aload_n hx hb dX10_count_60 rfl (lv_at hl 0 rfl) ?_
    refine va_get (D := (dC, dI)) (ci := 9) (v := .ref q_view) (C := RX10) (T := TX10) (N := 10) hx hb htb inX10 hown hK hP 0 rfl rfl 1 (Nat.le_of_ble_eq_true rfl) (htb _ t_279) (fun _ h9 => h9) rfl dX10_count_61 ?_
    refine va_get (D := (dC, dI)) (ci := 8) (v := .int x_view_roads) (C := RX9) (T := TX9) (N := 7) hx hb htb inX9 hown hK hP 3 rfl rfl 1 (Nat.le_of_ble_eq_true rfl) (htb _ t_76) (fun _ h9 => h9) rfl dX10_count_64 ?_
    exact hret _ hf _ _ _ _ rfl dX10_count_67 hP hD hS
  have hf := im c2 hf
  by_cases c3 : i1 = (2 : Int32)
  · have hf := ip c3 hf
    refine lv_tableIn (off := 67) (tgt := 68) hx hb dX10_count_1 (by rw [c3]; decide) (by rw [c3]; decide) (by rw [c3]; rfl) (by decide) ?_
    refine lv_aload_n hx hb dX10_count_68 rfl (lv_at hl 0 rfl) ?_
    refine va_get (D := (dC, dI)) (ci := 9) (v := .ref q_net) (C := RX10) (T := TX10) (N := 10) hx hb htb inX10 hown hK hP 0 rfl rfl 0 (Nat.le_of_ble_eq_true rfl) (htb _ t_278) (fun _ h9 => h9) rfl dX10_count_69 ?_
    refine va_get (D := (dC, dI)) (ci := 4) (v := .int x_net_pairs) (C := RX4) (T := TX4) (N := 6) hx hb htb inX4 hown hK hP 1 rfl rfl 1 (Nat.le_of_ble_eq_true rfl) (htb _ t_37) (fun _ h9 => h9) rfl dX10_count_72 ?_
    exact hret _ hf _ _ _ _ rfl dX10_count_75 hP hD hS
  have hf := im c3 hf
  by_cases c4 : i1 = (3 : Int32)
  · have hf := ip c4 hf
    refine lv_tableIn (off := 75) (tgt := 76) hx hb dX10_count_1 (by rw [c4]; decide) (by rw [c4]; decide) (by rw [c4]; rfl) (by decide) ?_
    refine lv_aload_n hx hb dX10_count_76 rfl (lv_at hl 0 rfl) ?_
    refine va_get (D := (dC, dI)) (ci := 9) (v := .ref q_net) (C := RX10) (T := TX10) (N := 10) hx hb htb inX10 hown hK hP 0 rfl rfl 0 (Nat.le_of_ble_eq_true rfl) (htb _ t_278) (fun _ h9 => h9) rfl dX10_count_77 ?_
    obtain ⟨v5, hv, hf⟩ := ob hf
    refine k_afterI (wr := [(q_, .inr (9, [.ref q_net, .ref q_view, .ref q_history, .ref q_hand, .ref q_trial, .ref q_bags, .ref q_chase, .ref q_costs, .ref q_sets, .ref q_trials])), (q_view, .inr (8, [.int x_view_posts, .int x_view_roads, .int x_view_weight, .ref q_view_weights, .ref q_view_near, .ref q_view_behind, .ref q_view_ahead])), (q_history, .inr (3, [.ref q_history_kept, .int x_history_oldest, .int x_history_size])), (q_hand, .inr (5, [.ref q_hand_posts, .int x_hand_size])), (q_bags, .inr (0, [.ref q_bags_sets, .int x_bags_size])), (q_chase, .inr (1, [.ref q_chase_moves, .int x_chase_size, .ref q_chase_foul, .int x_chase_guarded, .int x_chase_most, .int x_chase_again, .int x_chase_idle]))]) (wn := [(q_, .inr (9, [.ref q_net, .ref q_view, .ref q_history, .ref q_hand, .ref q_trial, .ref q_bags, .ref q_chase, .ref q_costs, .ref q_sets, .ref q_trials])), (q_net, .inr (4, [.int x_net_posts, .int x_net_pairs, .ref q_net_widths, .ref q_net_lengths, .ref q_net_told, .ref q_net_behind])), (q_net_widths, .inl (cI, 11, .inl x_net_widths)), (q_view, .inr (8, [.int x_view_posts, .int x_view_roads, .int x_view_weight, .ref q_view_weights, .ref q_view_near, .ref q_view_behind, .ref q_view_ahead])), (q_history, .inr (3, [.ref q_history_kept, .int x_history_oldest, .int x_history_size])), (q_hand, .inr (5, [.ref q_hand_posts, .int x_hand_size])), (q_bags, .inr (0, [.ref q_bags_sets, .int x_bags_size])), (q_chase, .inr (1, [.ref q_chase_moves, .int x_chase_size, .ref q_chase_foul, .int x_chase_guarded, .int x_chase_most, .int x_chase_again, .int x_chase_idle]))]) (k_runV (rest := []) (ci := 4) (q0 := 1) hx hb hml hown htb hK hN (c_X4_sheets l dC dI cI cZ cN q_net q_net_widths q_net_lengths q_net_told q_net_behind x_net_posts x_net_pairs x_net_widths v5 hv _) vf_X4_sheets t_810 hP hD [1, 2] rfl rfl rfl rfl ⟨(Nat.le_of_ble_eq_true rfl), (Nat.le_of_ble_eq_true rfl)⟩ rfl hl.1 rfl (Nat.le_of_ble_eq_true rfl) dX10_count_80 ⟨Nat.zero_le _, Nat.zero_le _⟩) hA hP hD hS [1, 2] [0, 3, 4, 5, 6, 7] [0, 6, 7, 1, 2, 3, 4, 5] rfl rfl rfl rfl ?_
    clear hP hD hS
    intro H locs hP hD hS
    exact hret _ hf _ _ _ _ rfl dX10_count_83 hP hD hS
  have hf := im c4 hf
  by_cases c6 : i1 = (4 : Int32)
  · have hf := ip c6 hf
    refine lv_tableIn (off := 83) (tgt := 84) hx hb dX10_count_1 (by rw [c6]; decide) (by rw [c6]; decide) (by rw [c6]; rfl) (by decide) ?_
    refine lv_aload_n hx hb dX10_count_84 rfl (lv_at hl 0 rfl) ?_
    refine va_get (D := (dC, dI)) (ci := 9) (v := .ref q_hand) (C := RX10) (T := TX10) (N := 10) hx hb htb inX10 hown hK hP 0 rfl rfl 3 (Nat.le_of_ble_eq_true rfl) (htb _ t_281) (fun _ h9 => h9) rfl dX10_count_85 ?_
    refine va_get (D := (dC, dI)) (ci := 5) (v := .int x_hand_size) (C := RX5) (T := TX5) (N := 2) hx hb htb inX5 hown hK hP 5 rfl rfl 1 (Nat.le_of_ble_eq_true rfl) (htb _ t_138) (fun _ h9 => h9) rfl dX10_count_88 ?_
    exact hret _ hf _ _ _ _ rfl dX10_count_91 hP hD hS
  have hf := im c6 hf
  by_cases c7 : i1 = (5 : Int32)
  · have hf := ip c7 hf
    refine lv_tableIn (off := 91) (tgt := 92) hx hb dX10_count_1 (by rw [c7]; decide) (by rw [c7]; decide) (by rw [c7]; rfl) (by decide) ?_
    refine lv_aload_n hx hb dX10_count_92 rfl (lv_at hl 0 rfl) ?_
    refine va_get (D := (dC, dI)) (ci := 9) (v := .ref q_bags) (C := RX10) (T := TX10) (N := 10) hx hb htb inX10 hown hK hP 0 rfl rfl 5 (Nat.le_of_ble_eq_true rfl) (htb _ t_283) (fun _ h9 => h9) rfl dX10_count_93 ?_
    refine va_get (D := (dC, dI)) (ci := 0) (v := .int x_bags_size) (C := RX0) (T := TX0) (N := 2) hx hb htb inX0 hown hK hP 6 rfl rfl 1 (Nat.le_of_ble_eq_true rfl) (htb _ t_153) (fun _ h9 => h9) rfl dX10_count_96 ?_
    exact hret _ hf _ _ _ _ rfl dX10_count_99 hP hD hS
  have hf := im c7 hf
  by_cases c8 : i1 = (6 : Int32)
  · have hf := ip c8 hf
    refine lv_tableIn (off := 99) (tgt := 100) hx hb dX10_count_1 (by rw [c8]; decide) (by rw [c8]; decide) (by rw [c8]; rfl) (by decide) ?_
    refine lv_aload_n hx hb dX10_count_100 rfl (lv_at hl 0 rfl) ?_
    refine va_get (D := (dC, dI)) (ci := 9) (v := .ref q_chase) (C := RX10) (T := TX10) (N := 10) hx hb htb inX10 hown hK hP 0 rfl rfl 6 (Nat.le_of_ble_eq_true rfl) (htb _ t_284) (fun _ h9 => h9) rfl dX10_count_101 ?_
    refine va_get (D := (dC, dI)) (ci := 1) (v := .int x_chase_size) (C := RX1) (T := TX1) (N := 7) hx hb htb inX1 hown hK hP 7 rfl rfl 1 (Nat.le_of_ble_eq_true rfl) (htb _ t_167) (fun _ h9 => h9) rfl dX10_count_104 ?_
    exact hret _ hf _ _ _ _ rfl dX10_count_107 hP hD hS
  have hf := im c8 hf
  by_cases c9 : i1 = (7 : Int32)
  · have hf := ip c9 hf
    refine lv_tableIn (off := 107) (tgt := 108) hx hb dX10_count_1 (by rw [c9]; decide) (by rw [c9]; decide) (by rw [c9]; rfl) (by decide) ?_
    refine lv_aload_n hx hb dX10_count_108 rfl (lv_at hl 0 rfl) ?_
    refine va_get (D := (dC, dI)) (ci := 9) (v := .ref q_history) (C := RX10) (T := TX10) (N := 10) hx hb htb inX10 hown hK hP 0 rfl rfl 2 (Nat.le_of_ble_eq_true rfl) (htb _ t_280) (fun _ h9 => h9) rfl dX10_count_109 ?_
    refine va_get (D := (dC, dI)) (ci := 3) (v := .int x_history_size) (C := RX3) (T := TX3) (N := 3) hx hb htb inX3 hown hK hP 4 rfl rfl 2 (Nat.le_of_ble_eq_true rfl) (htb _ t_114) (fun _ h9 => h9) rfl dX10_count_112 ?_
    exact hret _ hf _ _ _ _ rfl dX10_count_115 hP hD hS
  have hf := im c9 hf
  by_cases c10 : i1 = (8 : Int32)
  · have hf := ip c10 hf
    refine lv_tableIn (off := 115) (tgt := 116) hx hb dX10_count_1 (by rw [c10]; decide) (by rw [c10]; decide) (by rw [c10]; rfl) (by decide) ?_
    refine lv_aload_n hx hb dX10_count_116 rfl (lv_at hl 0 rfl) ?_
    refine va_get (D := (dC, dI)) (ci := 9) (v := .ref q_view) (C := RX10) (T := TX10) (N := 10) hx hb htb inX10 hown hK hP 0 rfl rfl 1 (Nat.le_of_ble_eq_true rfl) (htb _ t_279) (fun _ h9 => h9) rfl dX10_count_117 ?_
    refine va_get (D := (dC, dI)) (ci := 8) (v := .int x_view_weight) (C := RX9) (T := TX9) (N := 7) hx hb htb inX9 hown hK hP 3 rfl rfl 2 (Nat.le_of_ble_eq_true rfl) (htb _ t_78) (fun _ h9 => h9) rfl dX10_count_120 ?_
    exact hret _ hf _ _ _ _ rfl dX10_count_123 hP hD hS
  have hf := im c10 hf
  refine lv_tableOut (tgt := 124) hx hb dX10_count_1 (tab_out 8 (by decide) (fun k hk => by
        rcases (show k = 0 ∨ k = 1 ∨ k = 2 ∨ k = 3 ∨ k = 4 ∨ k = 5 ∨ k = 6 ∨ k = 7 ∨ k = 8 by omega) with rfl | rfl | rfl | rfl | rfl | rfl | rfl | rfl | rfl
        · exact c1
        · exact c2
        · exact c3
        · exact c4
        · exact c6
        · exact c7
        · exact c8
        · exact c9
        · exact c10)) (by decide) ?_
  refine lv_bipush (v := (-3 : Int32)) hx hb dX10_count_124 (by decide) ?_
  exact hret _ hf _ _ _ _ rfl dX10_count_126 hP hD hS
