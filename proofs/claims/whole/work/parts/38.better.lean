theorem vf_X10_costWithMove : VF yX10_costWithMove cX10_costWithMove 4 (some .int) 3 := ⟨t_646, tp_14, t_1, t_647, by decide +kernel, by decide +kernel, by decide +kernel⟩
theorem dX10_costWithMove_0 : decode cX10_costWithMove 0 = .ok (.aload_n 0, 1) := by decide +kernel
theorem dX10_costWithMove_1 : decode cX10_costWithMove 1 = .ok (.getfield 37, 3) := by decide +kernel
theorem dX10_costWithMove_4 : decode cX10_costWithMove 4 = .ok (.aload_n 0, 1) := by decide +kernel
theorem dX10_costWithMove_5 : decode cX10_costWithMove 5 = .ok (.getfield 33, 3) := by decide +kernel
theorem dX10_costWithMove_8 : decode cX10_costWithMove 8 = .ok (.invokevirtual 300, 3) := by decide +kernel
theorem dX10_costWithMove_11 : decode cX10_costWithMove 11 = .ok (.aload_n 0, 1) := by decide +kernel
theorem dX10_costWithMove_12 : decode cX10_costWithMove 12 = .ok (.getfield 37, 3) := by decide +kernel
theorem dX10_costWithMove_15 : decode cX10_costWithMove 15 = .ok (.iload_n 2, 1) := by decide +kernel
theorem dX10_costWithMove_16 : decode cX10_costWithMove 16 = .ok (.iload_n 3, 1) := by decide +kernel
theorem dX10_costWithMove_17 : decode cX10_costWithMove 17 = .ok (.invokevirtual 170, 3) := by decide +kernel
theorem dX10_costWithMove_20 : decode cX10_costWithMove 20 = .ok (.aload_n 0, 1) := by decide +kernel
theorem dX10_costWithMove_21 : decode cX10_costWithMove 21 = .ok (.getfield 19, 3) := by decide +kernel
theorem dX10_costWithMove_24 : decode cX10_costWithMove 24 = .ok (.aload_n 0, 1) := by decide +kernel
theorem dX10_costWithMove_25 : decode cX10_costWithMove 25 = .ok (.getfield 37, 3) := by decide +kernel
theorem dX10_costWithMove_28 : decode cX10_costWithMove 28 = .ok (.invokevirtual 191, 3) := by decide +kernel
theorem dX10_costWithMove_31 : decode cX10_costWithMove 31 = .ok (.ifCond .eq 18, 3) := by decide +kernel
theorem dX10_costWithMove_34 : decode cX10_costWithMove 34 = .ok (.aload_n 0, 1) := by decide +kernel
theorem dX10_costWithMove_35 : decode cX10_costWithMove 35 = .ok (.getfield 59, 3) := by decide +kernel
theorem dX10_costWithMove_38 : decode cX10_costWithMove 38 = .ok (.iload_n 1, 1) := by decide +kernel
theorem dX10_costWithMove_39 : decode cX10_costWithMove 39 = .ok (.aload_n 0, 1) := by decide +kernel
theorem dX10_costWithMove_40 : decode cX10_costWithMove 40 = .ok (.getfield 37, 3) := by decide +kernel
theorem dX10_costWithMove_43 : decode cX10_costWithMove 43 = .ok (.invokevirtual 180, 3) := by decide +kernel
theorem dX10_costWithMove_46 : decode cX10_costWithMove 46 = .ok (.goto 6, 3) := by decide +kernel
theorem dX10_costWithMove_49 : decode cX10_costWithMove 49 = .ok (.ldc_w 304, 3) := by decide +kernel
theorem dX10_costWithMove_52 : decode cX10_costWithMove 52 = .ok (.ireturn, 1) := by decide +kernel
noncomputable def f_X10_costWithMove (x_view_posts : Int32) (x_view_weights : Nat → Int32) (x_view_near : Nat → Int32) (x_view_behind : Nat → Int32) (x_view_ahead : Nat → Int32) (x_hand_size : Int32) (x_hand_posts : Nat → Int32) (x_trial_size : Int32) (x_trial_posts : Nat → Int32) (i1 : Int32) (i2 : Int32) (i3 : Int32) : Option (Int32 × Int32 × (Nat → Int32)) :=
  b2 (f_X5_takeFrom x_trial_size x_trial_posts x_hand_size x_hand_posts) fun o1 o2 =>
  (f_X5_shift o2 i2 i3).bind fun o3 =>
  (f_X9_keepsPairs x_view_ahead o1 o3).bind fun v4 =>
  if v4 = 0 then (some (((1073741824 : Int32), o1, o3))) else ((f_X2_costOf x_view_posts x_view_weights x_view_near x_view_behind o1 o3 i1).bind fun v6 =>
  some ((v6, o1, o3)))
set_option maxHeartbeats 4000000 in
set_option maxRecDepth 100000 in
theorem c_X10_costWithMove (l : Launch) (dC : Nat → ClassId) (dI : Nat → Nat → Nat) (cI cZ cN : ClassId) (q_ : Nat) (q_net : Nat) (q_view : Nat) (q_history : Nat) (q_hand : Nat) (q_trial : Nat) (q_bags : Nat) (q_chase : Nat) (q_costs : Nat) (q_sets : Nat) (q_trials : Nat) (q_view_weights : Nat) (q_view_near : Nat) (q_view_behind : Nat) (q_view_ahead : Nat) (q_hand_posts : Nat) (q_trial_posts : Nat) (x_view_posts : Int32) (x_view_roads : Int32) (x_view_weight : Int32) (x_view_weights : Nat → Int32) (x_view_near : Nat → Int32) (x_view_behind : Nat → Int32) (x_view_ahead : Nat → Int32) (x_hand_size : Int32) (x_hand_posts : Nat → Int32) (x_trial_size : Int32) (x_trial_posts : Nat → Int32) (i1 i2 i3 : Int32) (r : Int32) (o_trial_size : Int32) (o_trial_posts : Nat → Int32) (hf : f_X10_costWithMove x_view_posts x_view_weights x_view_near x_view_behind x_view_ahead x_hand_size x_hand_posts x_trial_size x_trial_posts i1 i2 i3 = some (r, o_trial_size, o_trial_posts)) : CI l yX10_costWithMove cX10_costWithMove 4 (some .int) 6 158 (dC, dI) (TY cI cZ cN) [.ref q_, .int i1, .int i2, .int i3] [(q_, .inr (9, [.ref q_net, .ref q_view, .ref q_history, .ref q_hand, .ref q_trial, .ref q_bags, .ref q_chase, .ref q_costs, .ref q_sets, .ref q_trials])), (q_view, .inr (8, [.int x_view_posts, .int x_view_roads, .int x_view_weight, .ref q_view_weights, .ref q_view_near, .ref q_view_behind, .ref q_view_ahead])), (q_view_weights, .inl (cI, 121, .inl x_view_weights)), (q_view_near, .inl (cI, 11, .inl x_view_near)), (q_view_behind, .inl (cI, 11, .inl x_view_behind)), (q_view_ahead, .inl (cI, 11, .inl x_view_ahead)), (q_hand, .inr (5, [.ref q_hand_posts, .int x_hand_size])), (q_hand_posts, .inl (cI, 11, .inl x_hand_posts)), (q_trial, .inr (5, [.ref q_trial_posts, .int x_trial_size])), (q_trial_posts, .inl (cI, 11, .inl x_trial_posts)), (q_costs, .inr (2, [.ref q_view]))] [(q_, .inr (9, [.ref q_net, .ref q_view, .ref q_history, .ref q_hand, .ref q_trial, .ref q_bags, .ref q_chase, .ref q_costs, .ref q_sets, .ref q_trials])), (q_view, .inr (8, [.int x_view_posts, .int x_view_roads, .int x_view_weight, .ref q_view_weights, .ref q_view_near, .ref q_view_behind, .ref q_view_ahead])), (q_view_weights, .inl (cI, 121, .inl x_view_weights)), (q_view_near, .inl (cI, 11, .inl x_view_near)), (q_view_behind, .inl (cI, 11, .inl x_view_behind)), (q_view_ahead, .inl (cI, 11, .inl x_view_ahead)), (q_hand, .inr (5, [.ref q_hand_posts, .int x_hand_size])), (q_hand_posts, .inl (cI, 11, .inl x_hand_posts)), (q_trial, .inr (5, [.ref q_trial_posts, .int o_trial_size])), (q_trial_posts, .inl (cI, 11, .inl o_trial_posts)), (q_costs, .inr (2, [.ref q_view]))] r := by
  refine CI.of rfl (by decide) (Nat.le_of_ble_eq_true rfl) ?_
  intro p e s m args below meth c Q A ls hx hb hml hown htb hK hN hA hP hD hS hl hret
  have hown : s.vm.findClass RX10 = some m.cls := hown
  have hl : lv_has ls 4 [(0, .ref q_), (1, .int i1), (2, .int i2), (3, .int i3)] := hl
  have hret : ∀ (r9 : Int32) (o9_trial_size : Int32) (o9_trial_posts : Nat → Int32), some (r9, o9_trial_size, o9_trial_posts) = some (r, o_trial_size, o_trial_posts) → ∀ (H : Heap) (locs : List Loc) (pc : Nat) (ls : Array Slot), narrow .int (.int r9) = .int r9 → decode cX10_costWithMove pc = .ok (.ireturn, 1) → va_P (dC, dI) vwCl [(q_, .inr (9, [.ref q_net, .ref q_view, .ref q_history, .ref q_hand, .ref q_trial, .ref q_bags, .ref q_chase, .ref q_costs, .ref q_sets, .ref q_trials])), (q_view, .inr (8, [.int x_view_posts, .int x_view_roads, .int x_view_weight, .ref q_view_weights, .ref q_view_near, .ref q_view_behind, .ref q_view_ahead])), (q_view_weights, .inl (cI, 121, .inl x_view_weights)), (q_view_near, .inl (cI, 11, .inl x_view_near)), (q_view_behind, .inl (cI, 11, .inl x_view_behind)), (q_view_ahead, .inl (cI, 11, .inl x_view_ahead)), (q_hand, .inr (5, [.ref q_hand_posts, .int x_hand_size])), (q_hand_posts, .inl (cI, 11, .inl x_hand_posts)), (q_trial, .inr (5, [.ref q_trial_posts, .int o9_trial_size])), (q_trial_posts, .inl (cI, 11, .inl o9_trial_posts)), (q_costs, .inr (2, [.ref q_view]))] H → va_D A [(q_, .inr (9, [.ref q_net, .ref q_view, .ref q_history, .ref q_hand, .ref q_trial, .ref q_bags, .ref q_chase, .ref q_costs, .ref q_sets, .ref q_trials])), (q_view, .inr (8, [.int x_view_posts, .int x_view_roads, .int x_view_weight, .ref q_view_weights, .ref q_view_near, .ref q_view_behind, .ref q_view_ahead])), (q_view_weights, .inl (cI, 121, .inl x_view_weights)), (q_view_near, .inl (cI, 11, .inl x_view_near)), (q_view_behind, .inl (cI, 11, .inl x_view_behind)), (q_view_ahead, .inl (cI, 11, .inl x_view_ahead)), (q_hand, .inr (5, [.ref q_hand_posts, .int x_hand_size])), (q_hand_posts, .inl (cI, 11, .inl x_hand_posts)), (q_trial, .inr (5, [.ref q_trial_posts, .int o9_trial_size])), (q_trial_posts, .inl (cI, 11, .inl o9_trial_posts)), (q_costs, .inr (2, [.ref q_view]))] → va_S A s.heap H locs → W p l e (rmK 6 158) s m args below meth c H locs 0 0 Q (F0 m pc ls [.int r9]) := by
    intro r9 o9_trial_size o9_trial_posts h9
    cases h9
    exact hret
  unfold f_X10_costWithMove at hf
  refine lv_aload_n hx hb dX10_costWithMove_0 rfl (lv_at hl 0 rfl) ?_
  refine va_get (D := (dC, dI)) (ci := 9) (v := .ref q_trial) (C := RX10) (T := TX10) (N := 10) hx hb htb inX10 hown hK hP 0 rfl rfl 4 (Nat.le_of_ble_eq_true rfl) (htb _ t_282) (fun _ h9 => h9) rfl dX10_costWithMove_1 ?_
  refine lv_aload_n hx hb dX10_costWithMove_4 rfl (lv_at hl 0 rfl) ?_
  refine va_get (D := (dC, dI)) (ci := 9) (v := .ref q_hand) (C := RX10) (T := TX10) (N := 10) hx hb htb inX10 hown hK hP 0 rfl rfl 3 (Nat.le_of_ble_eq_true rfl) (htb _ t_281) (fun _ h9 => h9) rfl dX10_costWithMove_5 ?_
  obtain ⟨o1, o2, hv, hf⟩ := ob2 hf
  refine k_afterV (wr := [(q_, .inr (9, [.ref q_net, .ref q_view, .ref q_history, .ref q_hand, .ref q_trial, .ref q_bags, .ref q_chase, .ref q_costs, .ref q_sets, .ref q_trials])), (q_view, .inr (8, [.int x_view_posts, .int x_view_roads, .int x_view_weight, .ref q_view_weights, .ref q_view_near, .ref q_view_behind, .ref q_view_ahead])), (q_view_weights, .inl (cI, 121, .inl x_view_weights)), (q_view_near, .inl (cI, 11, .inl x_view_near)), (q_view_behind, .inl (cI, 11, .inl x_view_behind)), (q_view_ahead, .inl (cI, 11, .inl x_view_ahead)), (q_costs, .inr (2, [.ref q_view]))]) (wn := [(q_, .inr (9, [.ref q_net, .ref q_view, .ref q_history, .ref q_hand, .ref q_trial, .ref q_bags, .ref q_chase, .ref q_costs, .ref q_sets, .ref q_trials])), (q_view, .inr (8, [.int x_view_posts, .int x_view_roads, .int x_view_weight, .ref q_view_weights, .ref q_view_near, .ref q_view_behind, .ref q_view_ahead])), (q_view_weights, .inl (cI, 121, .inl x_view_weights)), (q_view_near, .inl (cI, 11, .inl x_view_near)), (q_view_behind, .inl (cI, 11, .inl x_view_behind)), (q_view_ahead, .inl (cI, 11, .inl x_view_ahead)), (q_hand, .inr (5, [.ref q_hand_posts, .int x_hand_size])), (q_hand_posts, .inl (cI, 11, .inl x_hand_posts)), (q_trial, .inr (5, [.ref q_trial_posts, .int o1])), (q_trial_posts, .inl (cI, 11, .inl o2)), (q_costs, .inr (2, [.ref q_view]))]) (k_runV (rest := []) (ci := 5) (q0 := 8) hx hb hml hown htb hK hN (c_X5_takeFrom l dC dI cI cZ cN q_trial q_trial_posts q_hand q_hand_posts x_trial_size x_trial_posts x_hand_size x_hand_posts o1 o2 hv _) vf_X5_takeFrom t_648 hP hD [8, 9, 6, 7] rfl rfl rfl rfl ⟨(Nat.le_of_ble_eq_true rfl), (Nat.le_of_ble_eq_true rfl)⟩ rfl hl.1 rfl (Nat.le_of_ble_eq_true rfl) dX10_costWithMove_8 ⟨Nat.zero_le _, Nat.zero_le _⟩) hA hP hD hS [8, 9, 6, 7] [0, 1, 2, 3, 4, 5, 10] [0, 1, 2, 3, 4, 5, 9, 10, 7, 8, 6] rfl rfl rfl rfl ?_
  clear hP hD hS
  intro H locs hP hD hS
  refine lv_aload_n hx hb dX10_costWithMove_11 rfl (lv_at hl 0 rfl) ?_
  refine va_get (D := (dC, dI)) (ci := 9) (v := .ref q_trial) (C := RX10) (T := TX10) (N := 10) hx hb htb inX10 hown hK hP 0 rfl rfl 4 (Nat.le_of_ble_eq_true rfl) (htb _ t_282) (fun _ h9 => h9) rfl dX10_costWithMove_12 ?_
  refine lv_iload_n hx hb dX10_costWithMove_15 rfl (lv_at hl 2 rfl) ?_
  refine lv_iload_n hx hb dX10_costWithMove_16 rfl (lv_at hl 3 rfl) ?_
  obtain ⟨o3, hv, hf⟩ := ob hf
  refine k_afterV (wr := [(q_, .inr (9, [.ref q_net, .ref q_view, .ref q_history, .ref q_hand, .ref q_trial, .ref q_bags, .ref q_chase, .ref q_costs, .ref q_sets, .ref q_trials])), (q_view, .inr (8, [.int x_view_posts, .int x_view_roads, .int x_view_weight, .ref q_view_weights, .ref q_view_near, .ref q_view_behind, .ref q_view_ahead])), (q_view_weights, .inl (cI, 121, .inl x_view_weights)), (q_view_near, .inl (cI, 11, .inl x_view_near)), (q_view_behind, .inl (cI, 11, .inl x_view_behind)), (q_view_ahead, .inl (cI, 11, .inl x_view_ahead)), (q_hand, .inr (5, [.ref q_hand_posts, .int x_hand_size])), (q_hand_posts, .inl (cI, 11, .inl x_hand_posts)), (q_costs, .inr (2, [.ref q_view]))]) (wn := [(q_, .inr (9, [.ref q_net, .ref q_view, .ref q_history, .ref q_hand, .ref q_trial, .ref q_bags, .ref q_chase, .ref q_costs, .ref q_sets, .ref q_trials])), (q_view, .inr (8, [.int x_view_posts, .int x_view_roads, .int x_view_weight, .ref q_view_weights, .ref q_view_near, .ref q_view_behind, .ref q_view_ahead])), (q_view_weights, .inl (cI, 121, .inl x_view_weights)), (q_view_near, .inl (cI, 11, .inl x_view_near)), (q_view_behind, .inl (cI, 11, .inl x_view_behind)), (q_view_ahead, .inl (cI, 11, .inl x_view_ahead)), (q_hand, .inr (5, [.ref q_hand_posts, .int x_hand_size])), (q_hand_posts, .inl (cI, 11, .inl x_hand_posts)), (q_trial, .inr (5, [.ref q_trial_posts, .int o1])), (q_trial_posts, .inl (cI, 11, .inl o3)), (q_costs, .inr (2, [.ref q_view]))]) (k_runV (rest := []) (ci := 5) (q0 := 8) hx hb hml hown htb hK hN (c_X5_shift l dC dI cI cZ cN q_trial q_trial_posts o1 o2 i2 i3 o3 hv _) vf_X5_shift t_455 hP hD [8, 9] rfl rfl rfl rfl ⟨(Nat.le_of_ble_eq_true rfl), (Nat.le_of_ble_eq_true rfl)⟩ rfl hl.1 rfl (Nat.le_of_ble_eq_true rfl) dX10_costWithMove_17 ⟨Nat.zero_le _, Nat.zero_le _⟩) hA hP hD hS [8, 9] [0, 1, 2, 3, 4, 5, 6, 7, 10] [0, 1, 2, 3, 4, 5, 6, 7, 9, 10, 8] rfl rfl rfl rfl ?_
  clear hP hD hS
  intro H locs hP hD hS
  refine lv_aload_n hx hb dX10_costWithMove_20 rfl (lv_at hl 0 rfl) ?_
  refine va_get (D := (dC, dI)) (ci := 9) (v := .ref q_view) (C := RX10) (T := TX10) (N := 10) hx hb htb inX10 hown hK hP 0 rfl rfl 1 (Nat.le_of_ble_eq_true rfl) (htb _ t_279) (fun _ h9 => h9) rfl dX10_costWithMove_21 ?_
  refine lv_aload_n hx hb dX10_costWithMove_24 rfl (lv_at hl 0 rfl) ?_
  refine va_get (D := (dC, dI)) (ci := 9) (v := .ref q_trial) (C := RX10) (T := TX10) (N := 10) hx hb htb inX10 hown hK hP 0 rfl rfl 4 (Nat.le_of_ble_eq_true rfl) (htb _ t_282) (fun _ h9 => h9) rfl dX10_costWithMove_25 ?_
  obtain ⟨v4, hv, hf⟩ := ob hf
  refine k_afterI (wr := [(q_, .inr (9, [.ref q_net, .ref q_view, .ref q_history, .ref q_hand, .ref q_trial, .ref q_bags, .ref q_chase, .ref q_costs, .ref q_sets, .ref q_trials])), (q_view_weights, .inl (cI, 121, .inl x_view_weights)), (q_view_near, .inl (cI, 11, .inl x_view_near)), (q_view_behind, .inl (cI, 11, .inl x_view_behind)), (q_hand, .inr (5, [.ref q_hand_posts, .int x_hand_size])), (q_hand_posts, .inl (cI, 11, .inl x_hand_posts)), (q_costs, .inr (2, [.ref q_view]))]) (wn := [(q_, .inr (9, [.ref q_net, .ref q_view, .ref q_history, .ref q_hand, .ref q_trial, .ref q_bags, .ref q_chase, .ref q_costs, .ref q_sets, .ref q_trials])), (q_view, .inr (8, [.int x_view_posts, .int x_view_roads, .int x_view_weight, .ref q_view_weights, .ref q_view_near, .ref q_view_behind, .ref q_view_ahead])), (q_view_weights, .inl (cI, 121, .inl x_view_weights)), (q_view_near, .inl (cI, 11, .inl x_view_near)), (q_view_behind, .inl (cI, 11, .inl x_view_behind)), (q_view_ahead, .inl (cI, 11, .inl x_view_ahead)), (q_hand, .inr (5, [.ref q_hand_posts, .int x_hand_size])), (q_hand_posts, .inl (cI, 11, .inl x_hand_posts)), (q_trial, .inr (5, [.ref q_trial_posts, .int o1])), (q_trial_posts, .inl (cI, 11, .inl o3)), (q_costs, .inr (2, [.ref q_view]))]) (k_runV (rest := []) (ci := 8) (q0 := 1) hx hb hml hown htb hK hN (c_X9_keepsPairs l dC dI cI cZ cN q_view q_view_weights q_view_near q_view_behind q_view_ahead q_trial q_trial_posts x_view_posts x_view_roads x_view_weight x_view_ahead o1 o3 v4 hv _) vf_X9_keepsPairs t_522 hP hD [1, 5, 8, 9] rfl rfl rfl rfl ⟨(Nat.le_of_ble_eq_true rfl), (Nat.le_of_ble_eq_true rfl)⟩ rfl hl.1 rfl (Nat.le_of_ble_eq_true rfl) dX10_costWithMove_28 ⟨Nat.zero_le _, Nat.zero_le _⟩) hA hP hD hS [1, 5, 8, 9] [0, 2, 3, 4, 6, 7, 10] [0, 7, 1, 2, 3, 8, 4, 5, 9, 10, 6] rfl rfl rfl rfl ?_
  clear hP hD hS
  intro H locs hP hD hS
  refine lv_if_eq (tgt := 49) hx hb dX10_costWithMove_31 (by decide) (fun c5 => ?_) (fun c5 => ?_)
  · have hf := ip c5 hf
    refine lv_ldcw (v := (1073741824 : Int32)) hx hb hown (htb _ t_653) dX10_costWithMove_49 ?_
    exact hret _ _ _ hf _ _ _ _ rfl dX10_costWithMove_52 hP hD hS
  · have hf := im c5 hf
    refine lv_aload_n hx hb dX10_costWithMove_34 rfl (lv_at hl 0 rfl) ?_
    refine va_get (D := (dC, dI)) (ci := 9) (v := .ref q_costs) (C := RX10) (T := TX10) (N := 10) hx hb htb inX10 hown hK hP 0 rfl rfl 7 (Nat.le_of_ble_eq_true rfl) (htb _ t_285) (fun _ h9 => h9) rfl dX10_costWithMove_35 ?_
    refine lv_iload_n hx hb dX10_costWithMove_38 rfl (lv_at hl 1 rfl) ?_
    refine lv_aload_n hx hb dX10_costWithMove_39 rfl (lv_at hl 0 rfl) ?_
    refine va_get (D := (dC, dI)) (ci := 9) (v := .ref q_trial) (C := RX10) (T := TX10) (N := 10) hx hb htb inX10 hown hK hP 0 rfl rfl 4 (Nat.le_of_ble_eq_true rfl) (htb _ t_282) (fun _ h9 => h9) rfl dX10_costWithMove_40 ?_
    obtain ⟨v6, hv, hf⟩ := ob hf
    refine k_afterI (wr := [(q_, .inr (9, [.ref q_net, .ref q_view, .ref q_history, .ref q_hand, .ref q_trial, .ref q_bags, .ref q_chase, .ref q_costs, .ref q_sets, .ref q_trials])), (q_view_ahead, .inl (cI, 11, .inl x_view_ahead)), (q_hand, .inr (5, [.ref q_hand_posts, .int x_hand_size])), (q_hand_posts, .inl (cI, 11, .inl x_hand_posts))]) (wn := [(q_, .inr (9, [.ref q_net, .ref q_view, .ref q_history, .ref q_hand, .ref q_trial, .ref q_bags, .ref q_chase, .ref q_costs, .ref q_sets, .ref q_trials])), (q_view, .inr (8, [.int x_view_posts, .int x_view_roads, .int x_view_weight, .ref q_view_weights, .ref q_view_near, .ref q_view_behind, .ref q_view_ahead])), (q_view_weights, .inl (cI, 121, .inl x_view_weights)), (q_view_near, .inl (cI, 11, .inl x_view_near)), (q_view_behind, .inl (cI, 11, .inl x_view_behind)), (q_view_ahead, .inl (cI, 11, .inl x_view_ahead)), (q_hand, .inr (5, [.ref q_hand_posts, .int x_hand_size])), (q_hand_posts, .inl (cI, 11, .inl x_hand_posts)), (q_trial, .inr (5, [.ref q_trial_posts, .int o1])), (q_trial_posts, .inl (cI, 11, .inl o3)), (q_costs, .inr (2, [.ref q_view]))]) (k_runV (rest := []) (ci := 2) (q0 := 10) hx hb hml hown htb hK hN (c_X2_costOf l dC dI cI cZ cN q_costs q_view q_view_weights q_view_near q_view_behind q_view_ahead q_trial q_trial_posts x_view_posts x_view_roads x_view_weight x_view_weights x_view_near x_view_behind o1 o3 i1 v6 hv _) vf_X2_costOf t_470 hP hD [10, 1, 2, 3, 4, 8, 9] rfl rfl rfl rfl ⟨(Nat.le_of_ble_eq_true rfl), (Nat.le_of_ble_eq_true rfl)⟩ rfl hl.1 rfl (Nat.le_of_ble_eq_true rfl) dX10_costWithMove_43 ⟨Nat.zero_le _, Nat.zero_le _⟩) hA hP hD hS [10, 1, 2, 3, 4, 8, 9] [0, 5, 6, 7] [0, 5, 6, 7, 8, 1, 2, 3, 9, 10, 4] rfl rfl rfl rfl ?_
    clear hP hD hS
    intro H locs hP hD hS
    refine lv_goto (tgt := 52) hx hb dX10_costWithMove_46 (by decide) ?_
    exact hret _ _ _ hf _ _ _ _ rfl dX10_costWithMove_52 hP hD hS
theorem vf_X10_improve : VF yX10_improve cX10_improve 8 (some .boolean) 1 := ⟨t_642, tp_13, t_1, t_643, by decide +kernel, by decide +kernel, by decide +kernel⟩
theorem dX10_improve_0 : decode cX10_improve 0 = .ok (.aload_n 0, 1) := by decide +kernel
theorem dX10_improve_1 : decode cX10_improve 1 = .ok (.getfield 59, 3) := by decide +kernel
theorem dX10_improve_4 : decode cX10_improve 4 = .ok (.iload_n 1, 1) := by decide +kernel
theorem dX10_improve_5 : decode cX10_improve 5 = .ok (.aload_n 0, 1) := by decide +kernel
theorem dX10_improve_6 : decode cX10_improve 6 = .ok (.getfield 33, 3) := by decide +kernel
theorem dX10_improve_9 : decode cX10_improve 9 = .ok (.invokevirtual 180, 3) := by decide +kernel
theorem dX10_improve_12 : decode cX10_improve 12 = .ok (.istore_n 2, 1) := by decide +kernel
theorem dX10_improve_13 : decode cX10_improve 13 = .ok (.iconst (-1), 1) := by decide +kernel
theorem dX10_improve_14 : decode cX10_improve 14 = .ok (.istore_n 3, 1) := by decide +kernel
theorem dX10_improve_15 : decode cX10_improve 15 = .ok (.iconst (-1), 1) := by decide +kernel
theorem dX10_improve_16 : decode cX10_improve 16 = .ok (.istore 4, 2) := by decide +kernel
theorem dX10_improve_18 : decode cX10_improve 18 = .ok (.iconst 0, 1) := by decide +kernel
theorem dX10_improve_19 : decode cX10_improve 19 = .ok (.istore 5, 2) := by decide +kernel
theorem dX10_improve_21 : decode cX10_improve 21 = .ok (.iload 5, 2) := by decide +kernel
theorem dX10_improve_23 : decode cX10_improve 23 = .ok (.aload_n 0, 1) := by decide +kernel
theorem dX10_improve_24 : decode cX10_improve 24 = .ok (.getfield 33, 3) := by decide +kernel
theorem dX10_improve_27 : decode cX10_improve 27 = .ok (.getfield 152, 3) := by decide +kernel
theorem dX10_improve_30 : decode cX10_improve 30 = .ok (.if_icmp .ge 57, 3) := by decide +kernel
theorem dX10_improve_33 : decode cX10_improve 33 = .ok (.iconst 0, 1) := by decide +kernel
theorem dX10_improve_34 : decode cX10_improve 34 = .ok (.istore 6, 2) := by decide +kernel
theorem dX10_improve_36 : decode cX10_improve 36 = .ok (.iload 6, 2) := by decide +kernel
theorem dX10_improve_38 : decode cX10_improve 38 = .ok (.aload_n 0, 1) := by decide +kernel
theorem dX10_improve_39 : decode cX10_improve 39 = .ok (.getfield 33, 3) := by decide +kernel
theorem dX10_improve_42 : decode cX10_improve 42 = .ok (.getfield 152, 3) := by decide +kernel
theorem dX10_improve_45 : decode cX10_improve 45 = .ok (.if_icmp .ge 36, 3) := by decide +kernel
theorem dX10_improve_48 : decode cX10_improve 48 = .ok (.aload_n 0, 1) := by decide +kernel
theorem dX10_improve_49 : decode cX10_improve 49 = .ok (.iload_n 1, 1) := by decide +kernel
theorem dX10_improve_50 : decode cX10_improve 50 = .ok (.iload 5, 2) := by decide +kernel
theorem dX10_improve_52 : decode cX10_improve 52 = .ok (.iload 6, 2) := by decide +kernel
theorem dX10_improve_54 : decode cX10_improve 54 = .ok (.invokevirtual 296, 3) := by decide +kernel
theorem dX10_improve_57 : decode cX10_improve 57 = .ok (.istore 7, 2) := by decide +kernel
theorem dX10_improve_59 : decode cX10_improve 59 = .ok (.iload 7, 2) := by decide +kernel
theorem dX10_improve_61 : decode cX10_improve 61 = .ok (.iload_n 2, 1) := by decide +kernel
theorem dX10_improve_62 : decode cX10_improve 62 = .ok (.if_icmp .ge 13, 3) := by decide +kernel
theorem dX10_improve_65 : decode cX10_improve 65 = .ok (.iload 7, 2) := by decide +kernel
theorem dX10_improve_67 : decode cX10_improve 67 = .ok (.istore_n 2, 1) := by decide +kernel
theorem dX10_improve_68 : decode cX10_improve 68 = .ok (.iload 5, 2) := by decide +kernel
theorem dX10_improve_70 : decode cX10_improve 70 = .ok (.istore_n 3, 1) := by decide +kernel
theorem dX10_improve_71 : decode cX10_improve 71 = .ok (.iload 6, 2) := by decide +kernel
theorem dX10_improve_73 : decode cX10_improve 73 = .ok (.istore 4, 2) := by decide +kernel
theorem dX10_improve_75 : decode cX10_improve 75 = .ok (.iinc 6 1, 3) := by decide +kernel
theorem dX10_improve_78 : decode cX10_improve 78 = .ok (.goto (-42), 3) := by decide +kernel
theorem dX10_improve_81 : decode cX10_improve 81 = .ok (.iinc 5 1, 3) := by decide +kernel
theorem dX10_improve_84 : decode cX10_improve 84 = .ok (.goto (-63), 3) := by decide +kernel
theorem dX10_improve_87 : decode cX10_improve 87 = .ok (.iload_n 3, 1) := by decide +kernel
theorem dX10_improve_88 : decode cX10_improve 88 = .ok (.iconst (-1), 1) := by decide +kernel
theorem dX10_improve_89 : decode cX10_improve 89 = .ok (.if_icmp .ne 5, 3) := by decide +kernel
theorem dX10_improve_92 : decode cX10_improve 92 = .ok (.iconst 0, 1) := by decide +kernel
theorem dX10_improve_93 : decode cX10_improve 93 = .ok (.ireturn, 1) := by decide +kernel
theorem dX10_improve_94 : decode cX10_improve 94 = .ok (.aload_n 0, 1) := by decide +kernel
theorem dX10_improve_95 : decode cX10_improve 95 = .ok (.getfield 33, 3) := by decide +kernel
theorem dX10_improve_98 : decode cX10_improve 98 = .ok (.iload_n 3, 1) := by decide +kernel
theorem dX10_improve_99 : decode cX10_improve 99 = .ok (.iload 4, 2) := by decide +kernel
theorem dX10_improve_101 : decode cX10_improve 101 = .ok (.invokevirtual 170, 3) := by decide +kernel
theorem dX10_improve_104 : decode cX10_improve 104 = .ok (.iconst 1, 1) := by decide +kernel
theorem dX10_improve_105 : decode cX10_improve 105 = .ok (.ireturn, 1) := by decide +kernel
noncomputable def f_X10_improve_L36 (i1 : Int32) (i5 : Int32) (x_view_posts : Int32) (x_view_weights : Nat → Int32) (x_view_near : Nat → Int32) (x_view_behind : Nat → Int32) (x_view_ahead : Nat → Int32) (x_hand_size : Int32) (x_hand_posts : Nat → Int32) (i2 : Int32) (i3 : Int32) (i4 : Int32) (i6 : Int32) (x_trial_size : Int32) (x_trial_posts : Nat → Int32) : Option ((Int32 × Int32 × Int32 × Int32 × Int32 × (Nat → Int32)) ⊕ (Int32 × Int32 × Int32 × Int32 × (Nat → Int32))) :=
  if x_hand_size ≤ i6 then (some (.inr (i2, i3, i4, x_trial_size, x_trial_posts))) else (b3 (f_X10_costWithMove x_view_posts x_view_weights x_view_near x_view_behind x_view_ahead x_hand_size x_hand_posts x_trial_size x_trial_posts i1 i5 i6) fun v4 o5 o6 =>
  b3 ((if i2 ≤ v4 then (some (i2, i3, i4)) else (some (v4, i5, i6)) : Option (Int32 × Int32 × Int32))) fun t7 t8 t9 =>
  some (.inl (t7, t8, t9, (i6 + (1 : Int32)), o5, o6)))
noncomputable def f_X10_improve_L21 (i1 : Int32) (x_view_posts : Int32) (x_view_weights : Nat → Int32) (x_view_near : Nat → Int32) (x_view_behind : Nat → Int32) (x_view_ahead : Nat → Int32) (x_hand_size : Int32) (x_hand_posts : Nat → Int32) (i2 : Int32) (i3 : Int32) (i4 : Int32) (i5 : Int32) (x_trial_size : Int32) (x_trial_posts : Nat → Int32) : Option ((Int32 × Int32 × Int32 × Int32 × Int32 × (Nat → Int32)) ⊕ (Int32 × Int32 × Int32 × (Nat → Int32))) :=
  if x_hand_size ≤ i5 then (some (.inr (i3, i4, x_trial_size, x_trial_posts))) else (b5 (loopS (fun (s : Int32 × Int32 × Int32 × Int32 × Int32 × (Nat → Int32)) => f_X10_improve_L36 i1 i5 x_view_posts x_view_weights x_view_near x_view_behind x_view_ahead x_hand_size x_hand_posts s.1 s.2.1 s.2.2.1 s.2.2.2.1 s.2.2.2.2.1 s.2.2.2.2.2) (i2, i3, i4, (0 : Int32), x_trial_size, x_trial_posts)) fun x3 x4 x5 x6 x7 =>
  some (.inl (x3, x4, x5, (i5 + (1 : Int32)), x6, x7)))
noncomputable def f_X10_improve (x_view_posts : Int32) (x_view_weights : Nat → Int32) (x_view_near : Nat → Int32) (x_view_behind : Nat → Int32) (x_view_ahead : Nat → Int32) (x_hand_size : Int32) (x_hand_posts : Nat → Int32) (x_trial_size : Int32) (x_trial_posts : Nat → Int32) (i1 : Int32) : Option (Int32 × (Nat → Int32) × Int32 × (Nat → Int32)) :=
  (f_X2_costOf x_view_posts x_view_weights x_view_near x_view_behind x_hand_size x_hand_posts i1).bind fun v1 =>
  b4 (loopS (fun (s : Int32 × Int32 × Int32 × Int32 × Int32 × (Nat → Int32)) => f_X10_improve_L21 i1 x_view_posts x_view_weights x_view_near x_view_behind x_view_ahead x_hand_size x_hand_posts s.1 s.2.1 s.2.2.1 s.2.2.2.1 s.2.2.2.2.1 s.2.2.2.2.2) (v1, (-1 : Int32), (-1 : Int32), (0 : Int32), x_trial_size, x_trial_posts)) fun x2 x3 x4 x5 =>
  if x2 = (-1 : Int32) then (some (((0 : Int32), x_hand_posts, x4, x5))) else ((f_X5_shift x_hand_posts x2 x3).bind fun o8 =>
  some (((1 : Int32), o8, x4, x5)))
set_option maxHeartbeats 4000000 in
set_option maxRecDepth 100000 in
theorem c_X10_improve (l : Launch) (dC : Nat → ClassId) (dI : Nat → Nat → Nat) (cI cZ cN : ClassId) (q_ : Nat) (q_net : Nat) (q_view : Nat) (q_history : Nat) (q_hand : Nat) (q_trial : Nat) (q_bags : Nat) (q_chase : Nat) (q_costs : Nat) (q_sets : Nat) (q_trials : Nat) (q_view_weights : Nat) (q_view_near : Nat) (q_view_behind : Nat) (q_view_ahead : Nat) (q_hand_posts : Nat) (q_trial_posts : Nat) (x_view_posts : Int32) (x_view_roads : Int32) (x_view_weight : Int32) (x_view_weights : Nat → Int32) (x_view_near : Nat → Int32) (x_view_behind : Nat → Int32) (x_view_ahead : Nat → Int32) (x_hand_size : Int32) (x_hand_posts : Nat → Int32) (x_trial_size : Int32) (x_trial_posts : Nat → Int32) (i1 : Int32) (r : Int32) (o_hand_posts : Nat → Int32) (o_trial_size : Int32) (o_trial_posts : Nat → Int32) (hf : f_X10_improve x_view_posts x_view_weights x_view_near x_view_behind x_view_ahead x_hand_size x_hand_posts x_trial_size x_trial_posts i1 = some (r, o_hand_posts, o_trial_size, o_trial_posts)) : CI l yX10_improve cX10_improve 8 (some .boolean) 7 181 (dC, dI) (TY cI cZ cN) [.ref q_, .int i1] [(q_, .inr (9, [.ref q_net, .ref q_view, .ref q_history, .ref q_hand, .ref q_trial, .ref q_bags, .ref q_chase, .ref q_costs, .ref q_sets, .ref q_trials])), (q_view, .inr (8, [.int x_view_posts, .int x_view_roads, .int x_view_weight, .ref q_view_weights, .ref q_view_near, .ref q_view_behind, .ref q_view_ahead])), (q_view_weights, .inl (cI, 121, .inl x_view_weights)), (q_view_near, .inl (cI, 11, .inl x_view_near)), (q_view_behind, .inl (cI, 11, .inl x_view_behind)), (q_view_ahead, .inl (cI, 11, .inl x_view_ahead)), (q_hand, .inr (5, [.ref q_hand_posts, .int x_hand_size])), (q_hand_posts, .inl (cI, 11, .inl x_hand_posts)), (q_trial, .inr (5, [.ref q_trial_posts, .int x_trial_size])), (q_trial_posts, .inl (cI, 11, .inl x_trial_posts)), (q_costs, .inr (2, [.ref q_view]))] [(q_, .inr (9, [.ref q_net, .ref q_view, .ref q_history, .ref q_hand, .ref q_trial, .ref q_bags, .ref q_chase, .ref q_costs, .ref q_sets, .ref q_trials])), (q_view, .inr (8, [.int x_view_posts, .int x_view_roads, .int x_view_weight, .ref q_view_weights, .ref q_view_near, .ref q_view_behind, .ref q_view_ahead])), (q_view_weights, .inl (cI, 121, .inl x_view_weights)), (q_view_near, .inl (cI, 11, .inl x_view_near)), (q_view_behind, .inl (cI, 11, .inl x_view_behind)), (q_view_ahead, .inl (cI, 11, .inl x_view_ahead)), (q_hand, .inr (5, [.ref q_hand_posts, .int x_hand_size])), (q_hand_posts, .inl (cI, 11, .inl o_hand_posts)), (q_trial, .inr (5, [.ref q_trial_posts, .int o_trial_size])), (q_trial_posts, .inl (cI, 11, .inl o_trial_posts)), (q_costs, .inr (2, [.ref q_view]))] r := by
  refine CI.of rfl (by decide) (Nat.le_of_ble_eq_true rfl) ?_
  intro p e s m args below meth c Q A ls hx hb hml hown htb hK hN hA hP hD hS hl hret
  have hown : s.vm.findClass RX10 = some m.cls := hown
  have hl : lv_has ls 8 [(0, .ref q_), (1, .int i1)] := hl
  have hret : ∀ (r9 : Int32) (o9_hand_posts : Nat → Int32) (o9_trial_size : Int32) (o9_trial_posts : Nat → Int32), some (r9, o9_hand_posts, o9_trial_size, o9_trial_posts) = some (r, o_hand_posts, o_trial_size, o_trial_posts) → ∀ (H : Heap) (locs : List Loc) (pc : Nat) (ls : Array Slot), narrow .boolean (.int r9) = .int r9 → decode cX10_improve pc = .ok (.ireturn, 1) → va_P (dC, dI) vwCl [(q_, .inr (9, [.ref q_net, .ref q_view, .ref q_history, .ref q_hand, .ref q_trial, .ref q_bags, .ref q_chase, .ref q_costs, .ref q_sets, .ref q_trials])), (q_view, .inr (8, [.int x_view_posts, .int x_view_roads, .int x_view_weight, .ref q_view_weights, .ref q_view_near, .ref q_view_behind, .ref q_view_ahead])), (q_view_weights, .inl (cI, 121, .inl x_view_weights)), (q_view_near, .inl (cI, 11, .inl x_view_near)), (q_view_behind, .inl (cI, 11, .inl x_view_behind)), (q_view_ahead, .inl (cI, 11, .inl x_view_ahead)), (q_hand, .inr (5, [.ref q_hand_posts, .int x_hand_size])), (q_hand_posts, .inl (cI, 11, .inl o9_hand_posts)), (q_trial, .inr (5, [.ref q_trial_posts, .int o9_trial_size])), (q_trial_posts, .inl (cI, 11, .inl o9_trial_posts)), (q_costs, .inr (2, [.ref q_view]))] H → va_D A [(q_, .inr (9, [.ref q_net, .ref q_view, .ref q_history, .ref q_hand, .ref q_trial, .ref q_bags, .ref q_chase, .ref q_costs, .ref q_sets, .ref q_trials])), (q_view, .inr (8, [.int x_view_posts, .int x_view_roads, .int x_view_weight, .ref q_view_weights, .ref q_view_near, .ref q_view_behind, .ref q_view_ahead])), (q_view_weights, .inl (cI, 121, .inl x_view_weights)), (q_view_near, .inl (cI, 11, .inl x_view_near)), (q_view_behind, .inl (cI, 11, .inl x_view_behind)), (q_view_ahead, .inl (cI, 11, .inl x_view_ahead)), (q_hand, .inr (5, [.ref q_hand_posts, .int x_hand_size])), (q_hand_posts, .inl (cI, 11, .inl o9_hand_posts)), (q_trial, .inr (5, [.ref q_trial_posts, .int o9_trial_size])), (q_trial_posts, .inl (cI, 11, .inl o9_trial_posts)), (q_costs, .inr (2, [.ref q_view]))] → va_S A s.heap H locs → W p l e (rmK 7 181) s m args below meth c H locs 0 0 Q (F0 m pc ls [.int r9]) := by
    intro r9 o9_hand_posts o9_trial_size o9_trial_posts h9
    cases h9
    exact hret
  unfold f_X10_improve at hf
  refine lv_aload_n hx hb dX10_improve_0 rfl (lv_at hl 0 rfl) ?_
  refine va_get (D := (dC, dI)) (ci := 9) (v := .ref q_costs) (C := RX10) (T := TX10) (N := 10) hx hb htb inX10 hown hK hP 0 rfl rfl 7 (Nat.le_of_ble_eq_true rfl) (htb _ t_285) (fun _ h9 => h9) rfl dX10_improve_1 ?_
  refine lv_iload_n hx hb dX10_improve_4 rfl (lv_at hl 1 rfl) ?_
  refine lv_aload_n hx hb dX10_improve_5 rfl (lv_at hl 0 rfl) ?_
  refine va_get (D := (dC, dI)) (ci := 9) (v := .ref q_hand) (C := RX10) (T := TX10) (N := 10) hx hb htb inX10 hown hK hP 0 rfl rfl 3 (Nat.le_of_ble_eq_true rfl) (htb _ t_281) (fun _ h9 => h9) rfl dX10_improve_6 ?_
  obtain ⟨v1, hv, hf⟩ := ob hf
  refine k_afterI (wr := [(q_, .inr (9, [.ref q_net, .ref q_view, .ref q_history, .ref q_hand, .ref q_trial, .ref q_bags, .ref q_chase, .ref q_costs, .ref q_sets, .ref q_trials])), (q_view_ahead, .inl (cI, 11, .inl x_view_ahead)), (q_trial, .inr (5, [.ref q_trial_posts, .int x_trial_size])), (q_trial_posts, .inl (cI, 11, .inl x_trial_posts))]) (wn := [(q_, .inr (9, [.ref q_net, .ref q_view, .ref q_history, .ref q_hand, .ref q_trial, .ref q_bags, .ref q_chase, .ref q_costs, .ref q_sets, .ref q_trials])), (q_view, .inr (8, [.int x_view_posts, .int x_view_roads, .int x_view_weight, .ref q_view_weights, .ref q_view_near, .ref q_view_behind, .ref q_view_ahead])), (q_view_weights, .inl (cI, 121, .inl x_view_weights)), (q_view_near, .inl (cI, 11, .inl x_view_near)), (q_view_behind, .inl (cI, 11, .inl x_view_behind)), (q_view_ahead, .inl (cI, 11, .inl x_view_ahead)), (q_hand, .inr (5, [.ref q_hand_posts, .int x_hand_size])), (q_hand_posts, .inl (cI, 11, .inl x_hand_posts)), (q_trial, .inr (5, [.ref q_trial_posts, .int x_trial_size])), (q_trial_posts, .inl (cI, 11, .inl x_trial_posts)), (q_costs, .inr (2, [.ref q_view]))]) (k_runV (rest := []) (ci := 2) (q0 := 10) hx hb hml hown htb hK hN (c_X2_costOf l dC dI cI cZ cN q_costs q_view q_view_weights q_view_near q_view_behind q_view_ahead q_hand q_hand_posts x_view_posts x_view_roads x_view_weight x_view_weights x_view_near x_view_behind x_hand_size x_hand_posts i1 v1 hv _) vf_X2_costOf t_470 hP hD [10, 1, 2, 3, 4, 6, 7] rfl rfl rfl rfl ⟨(Nat.le_of_ble_eq_true rfl), (Nat.le_of_ble_eq_true rfl)⟩ rfl hl.1 rfl (Nat.le_of_ble_eq_true rfl) dX10_improve_9 ⟨Nat.zero_le _, Nat.zero_le _⟩) hA hP hD hS [10, 1, 2, 3, 4, 6, 7] [0, 5, 8, 9] [0, 5, 6, 7, 8, 1, 9, 10, 2, 3, 4] rfl rfl rfl rfl ?_
  clear hP hD hS
  intro H locs hP hD hS
  refine lv_istore_n (lv' := [(2, .int v1), (0, .ref q_), (1, .int i1)]) hx hb dX10_improve_12 rfl hl (by decide) rfl (fun ls hl => ?_)
  refine lv_iconst (v := (-1 : Int32)) hx hb dX10_improve_13 (by decide) ?_
  refine lv_istore_n (lv' := [(3, .int (-1 : Int32)), (2, .int v1), (0, .ref q_), (1, .int i1)]) hx hb dX10_improve_14 rfl hl (by decide) rfl (fun ls hl => ?_)
  refine lv_iconst (v := (-1 : Int32)) hx hb dX10_improve_15 (by decide) ?_
  refine lv_istore (lv' := [(4, .int (-1 : Int32)), (3, .int (-1 : Int32)), (2, .int v1), (0, .ref q_), (1, .int i1)]) hx hb dX10_improve_16 hl (by decide) rfl (fun ls hl => ?_)
  refine lv_iconst (v := (0 : Int32)) hx hb dX10_improve_18 (by decide) ?_
  refine lv_istore (lv' := [(5, .int (0 : Int32)), (4, .int (-1 : Int32)), (3, .int (-1 : Int32)), (2, .int v1), (0, .ref q_), (1, .int i1)]) hx hb dX10_improve_19 hl (by decide) rfl (fun ls hl => ?_)
  obtain ⟨x2, x3, x4, x5, hL, hf⟩ := ob4 hf
  have kx6 : ∀ (H : Heap) (locs : List Loc) (ls : Array Slot), va_P (dC, dI) vwCl [(q_, .inr (9, [.ref q_net, .ref q_view, .ref q_history, .ref q_hand, .ref q_trial, .ref q_bags, .ref q_chase, .ref q_costs, .ref q_sets, .ref q_trials])), (q_view, .inr (8, [.int x_view_posts, .int x_view_roads, .int x_view_weight, .ref q_view_weights, .ref q_view_near, .ref q_view_behind, .ref q_view_ahead])), (q_view_weights, .inl (cI, 121, .inl x_view_weights)), (q_view_near, .inl (cI, 11, .inl x_view_near)), (q_view_behind, .inl (cI, 11, .inl x_view_behind)), (q_view_ahead, .inl (cI, 11, .inl x_view_ahead)), (q_hand, .inr (5, [.ref q_hand_posts, .int x_hand_size])), (q_hand_posts, .inl (cI, 11, .inl x_hand_posts)), (q_trial, .inr (5, [.ref q_trial_posts, .int x4])), (q_trial_posts, .inl (cI, 11, .inl x5)), (q_costs, .inr (2, [.ref q_view]))] H → va_D A [(q_, .inr (9, [.ref q_net, .ref q_view, .ref q_history, .ref q_hand, .ref q_trial, .ref q_bags, .ref q_chase, .ref q_costs, .ref q_sets, .ref q_trials])), (q_view, .inr (8, [.int x_view_posts, .int x_view_roads, .int x_view_weight, .ref q_view_weights, .ref q_view_near, .ref q_view_behind, .ref q_view_ahead])), (q_view_weights, .inl (cI, 121, .inl x_view_weights)), (q_view_near, .inl (cI, 11, .inl x_view_near)), (q_view_behind, .inl (cI, 11, .inl x_view_behind)), (q_view_ahead, .inl (cI, 11, .inl x_view_ahead)), (q_hand, .inr (5, [.ref q_hand_posts, .int x_hand_size])), (q_hand_posts, .inl (cI, 11, .inl x_hand_posts)), (q_trial, .inr (5, [.ref q_trial_posts, .int x4])), (q_trial_posts, .inl (cI, 11, .inl x5)), (q_costs, .inr (2, [.ref q_view]))] → va_S A s.heap H locs → lv_has ls 8 [(0, .ref q_), (3, .int x2), (4, .int x3)] → W p l e (rmK 7 181) s m args below meth c H locs 0 0 Q (F0 m 87 ls []) := by
    intro H locs ls hP hD hS hl
    refine lv_iload_n hx hb dX10_improve_87 rfl (lv_at hl 1 rfl) ?_
    refine lv_iconst (v := (-1 : Int32)) hx hb dX10_improve_88 (by decide) ?_
    refine lv_icmp_ne (tgt := 94) hx hb dX10_improve_89 (by decide) (fun c7 => ?_) (fun c7 => ?_)
    · have hf := im c7 hf
      refine lv_aload_n hx hb dX10_improve_94 rfl (lv_at hl 0 rfl) ?_
      refine va_get (D := (dC, dI)) (ci := 9) (v := .ref q_hand) (C := RX10) (T := TX10) (N := 10) hx hb htb inX10 hown hK hP 0 rfl rfl 3 (Nat.le_of_ble_eq_true rfl) (htb _ t_281) (fun _ h9 => h9) rfl dX10_improve_95 ?_
      refine lv_iload_n hx hb dX10_improve_98 rfl (lv_at hl 1 rfl) ?_
      refine lv_iload hx hb dX10_improve_99 (lv_at hl 2 rfl) ?_
      obtain ⟨o8, hv, hf⟩ := ob hf
      refine k_afterV (wr := [(q_, .inr (9, [.ref q_net, .ref q_view, .ref q_history, .ref q_hand, .ref q_trial, .ref q_bags, .ref q_chase, .ref q_costs, .ref q_sets, .ref q_trials])), (q_view, .inr (8, [.int x_view_posts, .int x_view_roads, .int x_view_weight, .ref q_view_weights, .ref q_view_near, .ref q_view_behind, .ref q_view_ahead])), (q_view_weights, .inl (cI, 121, .inl x_view_weights)), (q_view_near, .inl (cI, 11, .inl x_view_near)), (q_view_behind, .inl (cI, 11, .inl x_view_behind)), (q_view_ahead, .inl (cI, 11, .inl x_view_ahead)), (q_trial, .inr (5, [.ref q_trial_posts, .int x4])), (q_trial_posts, .inl (cI, 11, .inl x5)), (q_costs, .inr (2, [.ref q_view]))]) (wn := [(q_, .inr (9, [.ref q_net, .ref q_view, .ref q_history, .ref q_hand, .ref q_trial, .ref q_bags, .ref q_chase, .ref q_costs, .ref q_sets, .ref q_trials])), (q_view, .inr (8, [.int x_view_posts, .int x_view_roads, .int x_view_weight, .ref q_view_weights, .ref q_view_near, .ref q_view_behind, .ref q_view_ahead])), (q_view_weights, .inl (cI, 121, .inl x_view_weights)), (q_view_near, .inl (cI, 11, .inl x_view_near)), (q_view_behind, .inl (cI, 11, .inl x_view_behind)), (q_view_ahead, .inl (cI, 11, .inl x_view_ahead)), (q_hand, .inr (5, [.ref q_hand_posts, .int x_hand_size])), (q_hand_posts, .inl (cI, 11, .inl o8)), (q_trial, .inr (5, [.ref q_trial_posts, .int x4])), (q_trial_posts, .inl (cI, 11, .inl x5)), (q_costs, .inr (2, [.ref q_view]))]) (k_runV (rest := []) (ci := 5) (q0 := 6) hx hb hml hown htb hK hN (c_X5_shift l dC dI cI cZ cN q_hand q_hand_posts x_hand_size x_hand_posts x2 x3 o8 hv _) vf_X5_shift t_455 hP hD [6, 7] rfl rfl rfl rfl ⟨(Nat.le_of_ble_eq_true rfl), (Nat.le_of_ble_eq_true rfl)⟩ rfl hl.1 rfl (Nat.le_of_ble_eq_true rfl) dX10_improve_101 ⟨Nat.zero_le _, Nat.zero_le _⟩) hA hP hD hS [6, 7] [0, 1, 2, 3, 4, 5, 8, 9, 10] [0, 1, 2, 3, 4, 5, 9, 10, 6, 7, 8] rfl rfl rfl rfl ?_
      clear hP hD hS
      intro H locs hP hD hS
      refine lv_iconst (v := (1 : Int32)) hx hb dX10_improve_104 (by decide) ?_
      exact hret _ _ _ _ hf _ _ _ _ rfl dX10_improve_105 hP hD hS
    · have hf := ip c7 hf
      refine lv_iconst (v := (0 : Int32)) hx hb dX10_improve_92 (by decide) ?_
      exact hret _ _ _ _ hf _ _ _ _ rfl dX10_improve_93 hP hD hS
  obtain ⟨n0, hn0⟩ := loopS_iter hL
  clear hf
  have kl15 : ∀ (n : Nat) (s9 : Int32) (s10 : Int32) (s11 : Int32) (s12 : Int32) (s13 : Int32) (s14 : Nat → Int32), iterS (fun (s : Int32 × Int32 × Int32 × Int32 × Int32 × (Nat → Int32)) => f_X10_improve_L21 i1 x_view_posts x_view_weights x_view_near x_view_behind x_view_ahead x_hand_size x_hand_posts s.1 s.2.1 s.2.2.1 s.2.2.2.1 s.2.2.2.2.1 s.2.2.2.2.2) n (s9, s10, s11, s12, s13, s14) = some (x2, x3, x4, x5) → ∀ (H : Heap) (locs : List Loc) (ls : Array Slot), va_P (dC, dI) vwCl [(q_, .inr (9, [.ref q_net, .ref q_view, .ref q_history, .ref q_hand, .ref q_trial, .ref q_bags, .ref q_chase, .ref q_costs, .ref q_sets, .ref q_trials])), (q_view, .inr (8, [.int x_view_posts, .int x_view_roads, .int x_view_weight, .ref q_view_weights, .ref q_view_near, .ref q_view_behind, .ref q_view_ahead])), (q_view_weights, .inl (cI, 121, .inl x_view_weights)), (q_view_near, .inl (cI, 11, .inl x_view_near)), (q_view_behind, .inl (cI, 11, .inl x_view_behind)), (q_view_ahead, .inl (cI, 11, .inl x_view_ahead)), (q_hand, .inr (5, [.ref q_hand_posts, .int x_hand_size])), (q_hand_posts, .inl (cI, 11, .inl x_hand_posts)), (q_trial, .inr (5, [.ref q_trial_posts, .int s13])), (q_trial_posts, .inl (cI, 11, .inl s14)), (q_costs, .inr (2, [.ref q_view]))] H → va_D A [(q_, .inr (9, [.ref q_net, .ref q_view, .ref q_history, .ref q_hand, .ref q_trial, .ref q_bags, .ref q_chase, .ref q_costs, .ref q_sets, .ref q_trials])), (q_view, .inr (8, [.int x_view_posts, .int x_view_roads, .int x_view_weight, .ref q_view_weights, .ref q_view_near, .ref q_view_behind, .ref q_view_ahead])), (q_view_weights, .inl (cI, 121, .inl x_view_weights)), (q_view_near, .inl (cI, 11, .inl x_view_near)), (q_view_behind, .inl (cI, 11, .inl x_view_behind)), (q_view_ahead, .inl (cI, 11, .inl x_view_ahead)), (q_hand, .inr (5, [.ref q_hand_posts, .int x_hand_size])), (q_hand_posts, .inl (cI, 11, .inl x_hand_posts)), (q_trial, .inr (5, [.ref q_trial_posts, .int s13])), (q_trial_posts, .inl (cI, 11, .inl s14)), (q_costs, .inr (2, [.ref q_view]))] → va_S A s.heap H locs → lv_has ls 8 [(0, .ref q_), (1, .int i1), (2, .int s9), (3, .int s10), (4, .int s11), (5, .int s12)] → W p l e (rmK 7 181) s m args below meth c H locs 0 0 Q (F0 m 21 ls []) := by
    intro n
    induction n with
    | zero =>
      intro s9 s10 s11 s12 s13 s14 hn1
      cases hn1
    | succ n ih1 =>
      intro s9 s10 s11 s12 s13 s14 hn1 H locs ls hP hD hS hl
      obtain ⟨r16, hf, hn1⟩ := it1 hn1
      replace hf : f_X10_improve_L21 i1 x_view_posts x_view_weights x_view_near x_view_behind x_view_ahead x_hand_size x_hand_posts s9 s10 s11 s12 s13 s14 = some r16 := hf
      unfold f_X10_improve_L21 at hf
      refine lv_iload hx hb dX10_improve_21 (lv_at hl 5 rfl) ?_
      refine lv_aload_n hx hb dX10_improve_23 rfl (lv_at hl 0 rfl) ?_
      refine va_get (D := (dC, dI)) (ci := 9) (v := .ref q_hand) (C := RX10) (T := TX10) (N := 10) hx hb htb inX10 hown hK hP 0 rfl rfl 3 (Nat.le_of_ble_eq_true rfl) (htb _ t_281) (fun _ h9 => h9) rfl dX10_improve_24 ?_
      refine va_get (D := (dC, dI)) (ci := 5) (v := .int x_hand_size) (C := RX5) (T := TX5) (N := 2) hx hb htb inX5 hown hK hP 6 rfl rfl 1 (Nat.le_of_ble_eq_true rfl) (htb _ t_138) (fun _ h9 => h9) rfl dX10_improve_27 ?_
      refine lv_icmp_ge (tgt := 87) hx hb dX10_improve_30 (by decide) (fun c17 => ?_) (fun c17 => ?_)
      · have hf := ip c17 hf
        cases hf
        cases (itr hn1)
        exact kx6 _ _ _ hP hD hS (lv_sub hl [0, 3, 4] rfl)
      · have hf := im c17 hf
        refine lv_iconst (v := (0 : Int32)) hx hb dX10_improve_33 (by decide) ?_
        refine lv_istore (lv' := [(6, .int (0 : Int32)), (0, .ref q_), (1, .int i1), (2, .int s9), (3, .int s10), (4, .int s11), (5, .int s12)]) hx hb dX10_improve_34 hl (by decide) rfl (fun ls hl => ?_)
        obtain ⟨x18, x19, x20, x21, x22, hL, hf⟩ := ob5 hf
        have kx23 : ∀ (H : Heap) (locs : List Loc) (ls : Array Slot), va_P (dC, dI) vwCl [(q_, .inr (9, [.ref q_net, .ref q_view, .ref q_history, .ref q_hand, .ref q_trial, .ref q_bags, .ref q_chase, .ref q_costs, .ref q_sets, .ref q_trials])), (q_view, .inr (8, [.int x_view_posts, .int x_view_roads, .int x_view_weight, .ref q_view_weights, .ref q_view_near, .ref q_view_behind, .ref q_view_ahead])), (q_view_weights, .inl (cI, 121, .inl x_view_weights)), (q_view_near, .inl (cI, 11, .inl x_view_near)), (q_view_behind, .inl (cI, 11, .inl x_view_behind)), (q_view_ahead, .inl (cI, 11, .inl x_view_ahead)), (q_hand, .inr (5, [.ref q_hand_posts, .int x_hand_size])), (q_hand_posts, .inl (cI, 11, .inl x_hand_posts)), (q_trial, .inr (5, [.ref q_trial_posts, .int x21])), (q_trial_posts, .inl (cI, 11, .inl x22)), (q_costs, .inr (2, [.ref q_view]))] H → va_D A [(q_, .inr (9, [.ref q_net, .ref q_view, .ref q_history, .ref q_hand, .ref q_trial, .ref q_bags, .ref q_chase, .ref q_costs, .ref q_sets, .ref q_trials])), (q_view, .inr (8, [.int x_view_posts, .int x_view_roads, .int x_view_weight, .ref q_view_weights, .ref q_view_near, .ref q_view_behind, .ref q_view_ahead])), (q_view_weights, .inl (cI, 121, .inl x_view_weights)), (q_view_near, .inl (cI, 11, .inl x_view_near)), (q_view_behind, .inl (cI, 11, .inl x_view_behind)), (q_view_ahead, .inl (cI, 11, .inl x_view_ahead)), (q_hand, .inr (5, [.ref q_hand_posts, .int x_hand_size])), (q_hand_posts, .inl (cI, 11, .inl x_hand_posts)), (q_trial, .inr (5, [.ref q_trial_posts, .int x21])), (q_trial_posts, .inl (cI, 11, .inl x22)), (q_costs, .inr (2, [.ref q_view]))] → va_S A s.heap H locs → lv_has ls 8 [(0, .ref q_), (1, .int i1), (2, .int x18), (3, .int x19), (4, .int x20), (5, .int s12)] → W p l e (rmK 7 181) s m args below meth c H locs 0 0 Q (F0 m 81 ls []) := by
          intro H locs ls hP hD hS hl
          refine lv_iinc (v := (s12 + (1 : Int32))) (lv' := [(5, .int (s12 + (1 : Int32))), (0, .ref q_), (1, .int i1), (2, .int x18), (3, .int x19), (4, .int x20)]) hx hb dX10_improve_81 hl (k := 5) rfl rfl (by decide) rfl (fun ls hl => ?_)
          refine lv_goto (tgt := 21) hx hb dX10_improve_84 (by decide) ?_
          cases hf
          exact ih1 _ _ _ _ _ _ (itl hn1) _ _ _ hP hD hS (lv_sub hl [1, 2, 3, 4, 5, 0] rfl)
        obtain ⟨n0, hn0⟩ := loopS_iter hL
        clear hf
        have kl30 : ∀ (n : Nat) (s24 : Int32) (s25 : Int32) (s26 : Int32) (s27 : Int32) (s28 : Int32) (s29 : Nat → Int32), iterS (fun (s : Int32 × Int32 × Int32 × Int32 × Int32 × (Nat → Int32)) => f_X10_improve_L36 i1 s12 x_view_posts x_view_weights x_view_near x_view_behind x_view_ahead x_hand_size x_hand_posts s.1 s.2.1 s.2.2.1 s.2.2.2.1 s.2.2.2.2.1 s.2.2.2.2.2) n (s24, s25, s26, s27, s28, s29) = some (x18, x19, x20, x21, x22) → ∀ (H : Heap) (locs : List Loc) (ls : Array Slot), va_P (dC, dI) vwCl [(q_, .inr (9, [.ref q_net, .ref q_view, .ref q_history, .ref q_hand, .ref q_trial, .ref q_bags, .ref q_chase, .ref q_costs, .ref q_sets, .ref q_trials])), (q_view, .inr (8, [.int x_view_posts, .int x_view_roads, .int x_view_weight, .ref q_view_weights, .ref q_view_near, .ref q_view_behind, .ref q_view_ahead])), (q_view_weights, .inl (cI, 121, .inl x_view_weights)), (q_view_near, .inl (cI, 11, .inl x_view_near)), (q_view_behind, .inl (cI, 11, .inl x_view_behind)), (q_view_ahead, .inl (cI, 11, .inl x_view_ahead)), (q_hand, .inr (5, [.ref q_hand_posts, .int x_hand_size])), (q_hand_posts, .inl (cI, 11, .inl x_hand_posts)), (q_trial, .inr (5, [.ref q_trial_posts, .int s28])), (q_trial_posts, .inl (cI, 11, .inl s29)), (q_costs, .inr (2, [.ref q_view]))] H → va_D A [(q_, .inr (9, [.ref q_net, .ref q_view, .ref q_history, .ref q_hand, .ref q_trial, .ref q_bags, .ref q_chase, .ref q_costs, .ref q_sets, .ref q_trials])), (q_view, .inr (8, [.int x_view_posts, .int x_view_roads, .int x_view_weight, .ref q_view_weights, .ref q_view_near, .ref q_view_behind, .ref q_view_ahead])), (q_view_weights, .inl (cI, 121, .inl x_view_weights)), (q_view_near, .inl (cI, 11, .inl x_view_near)), (q_view_behind, .inl (cI, 11, .inl x_view_behind)), (q_view_ahead, .inl (cI, 11, .inl x_view_ahead)), (q_hand, .inr (5, [.ref q_hand_posts, .int x_hand_size])), (q_hand_posts, .inl (cI, 11, .inl x_hand_posts)), (q_trial, .inr (5, [.ref q_trial_posts, .int s28])), (q_trial_posts, .inl (cI, 11, .inl s29)), (q_costs, .inr (2, [.ref q_view]))] → va_S A s.heap H locs → lv_has ls 8 [(0, .ref q_), (1, .int i1), (2, .int s24), (3, .int s25), (4, .int s26), (5, .int s12), (6, .int s27)] → W p l e (rmK 7 181) s m args below meth c H locs 0 0 Q (F0 m 36 ls []) := by
          intro n
          induction n with
          | zero =>
            intro s24 s25 s26 s27 s28 s29 hn2
            cases hn2
          | succ n ih2 =>
            intro s24 s25 s26 s27 s28 s29 hn2 H locs ls hP hD hS hl
            obtain ⟨r31, hf, hn2⟩ := it1 hn2
            replace hf : f_X10_improve_L36 i1 s12 x_view_posts x_view_weights x_view_near x_view_behind x_view_ahead x_hand_size x_hand_posts s24 s25 s26 s27 s28 s29 = some r31 := hf
            unfold f_X10_improve_L36 at hf
            refine lv_iload hx hb dX10_improve_36 (lv_at hl 6 rfl) ?_
            refine lv_aload_n hx hb dX10_improve_38 rfl (lv_at hl 0 rfl) ?_
            refine va_get (D := (dC, dI)) (ci := 9) (v := .ref q_hand) (C := RX10) (T := TX10) (N := 10) hx hb htb inX10 hown hK hP 0 rfl rfl 3 (Nat.le_of_ble_eq_true rfl) (htb _ t_281) (fun _ h9 => h9) rfl dX10_improve_39 ?_
            refine va_get (D := (dC, dI)) (ci := 5) (v := .int x_hand_size) (C := RX5) (T := TX5) (N := 2) hx hb htb inX5 hown hK hP 6 rfl rfl 1 (Nat.le_of_ble_eq_true rfl) (htb _ t_138) (fun _ h9 => h9) rfl dX10_improve_42 ?_
            refine lv_icmp_ge (tgt := 81) hx hb dX10_improve_45 (by decide) (fun c32 => ?_) (fun c32 => ?_)
            · have hf := ip c32 hf
              cases hf
              cases (itr hn2)
              exact kx23 _ _ _ hP hD hS (lv_sub hl [0, 1, 2, 3, 4, 5] rfl)
            · have hf := im c32 hf
              refine lv_aload_n hx hb dX10_improve_48 rfl (lv_at hl 0 rfl) ?_
              refine lv_iload_n hx hb dX10_improve_49 rfl (lv_at hl 1 rfl) ?_
              refine lv_iload hx hb dX10_improve_50 (lv_at hl 5 rfl) ?_
              refine lv_iload hx hb dX10_improve_52 (lv_at hl 6 rfl) ?_
              obtain ⟨v33, o34, o35, hv, hf⟩ := ob3 hf
              refine k_afterI (wr := []) (wn := [(q_, .inr (9, [.ref q_net, .ref q_view, .ref q_history, .ref q_hand, .ref q_trial, .ref q_bags, .ref q_chase, .ref q_costs, .ref q_sets, .ref q_trials])), (q_view, .inr (8, [.int x_view_posts, .int x_view_roads, .int x_view_weight, .ref q_view_weights, .ref q_view_near, .ref q_view_behind, .ref q_view_ahead])), (q_view_weights, .inl (cI, 121, .inl x_view_weights)), (q_view_near, .inl (cI, 11, .inl x_view_near)), (q_view_behind, .inl (cI, 11, .inl x_view_behind)), (q_view_ahead, .inl (cI, 11, .inl x_view_ahead)), (q_hand, .inr (5, [.ref q_hand_posts, .int x_hand_size])), (q_hand_posts, .inl (cI, 11, .inl x_hand_posts)), (q_trial, .inr (5, [.ref q_trial_posts, .int o34])), (q_trial_posts, .inl (cI, 11, .inl o35)), (q_costs, .inr (2, [.ref q_view]))]) (k_runV (rest := []) (ci := 9) (q0 := 0) hx hb hml hown htb hK hN (c_X10_costWithMove l dC dI cI cZ cN q_ q_net q_view q_history q_hand q_trial q_bags q_chase q_costs q_sets q_trials q_view_weights q_view_near q_view_behind q_view_ahead q_hand_posts q_trial_posts x_view_posts x_view_roads x_view_weight x_view_weights x_view_near x_view_behind x_view_ahead x_hand_size x_hand_posts s28 s29 i1 s12 s27 v33 o34 o35 hv _) vf_X10_costWithMove t_644 hP hD [0, 1, 2, 3, 4, 5, 6, 7, 8, 9, 10] rfl rfl rfl rfl ⟨(Nat.le_of_ble_eq_true rfl), (Nat.le_of_ble_eq_true rfl)⟩ rfl hl.1 rfl (Nat.le_of_ble_eq_true rfl) dX10_improve_54 ⟨Nat.zero_le _, Nat.zero_le _⟩) hA hP hD hS [0, 1, 2, 3, 4, 5, 6, 7, 8, 9, 10] [] [0, 1, 2, 3, 4, 5, 6, 7, 8, 9, 10] rfl rfl rfl rfl ?_
              clear hP hD hS
              intro H locs hP hD hS
              refine lv_istore (lv' := [(7, .int v33), (0, .ref q_), (1, .int i1), (2, .int s24), (3, .int s25), (4, .int s26), (5, .int s12), (6, .int s27)]) hx hb dX10_improve_57 hl (by decide) rfl (fun ls hl => ?_)
              refine lv_iload hx hb dX10_improve_59 (lv_at hl 0 rfl) ?_
              refine lv_iload_n hx hb dX10_improve_61 rfl (lv_at hl 3 rfl) ?_
              obtain ⟨t36, t37, t38, hv, hf⟩ := ob3 hf
              have key39 : ∀ (H : Heap) (locs : List Loc) (ls : Array Slot), va_P (dC, dI) vwCl [(q_, .inr (9, [.ref q_net, .ref q_view, .ref q_history, .ref q_hand, .ref q_trial, .ref q_bags, .ref q_chase, .ref q_costs, .ref q_sets, .ref q_trials])), (q_view, .inr (8, [.int x_view_posts, .int x_view_roads, .int x_view_weight, .ref q_view_weights, .ref q_view_near, .ref q_view_behind, .ref q_view_ahead])), (q_view_weights, .inl (cI, 121, .inl x_view_weights)), (q_view_near, .inl (cI, 11, .inl x_view_near)), (q_view_behind, .inl (cI, 11, .inl x_view_behind)), (q_view_ahead, .inl (cI, 11, .inl x_view_ahead)), (q_hand, .inr (5, [.ref q_hand_posts, .int x_hand_size])), (q_hand_posts, .inl (cI, 11, .inl x_hand_posts)), (q_trial, .inr (5, [.ref q_trial_posts, .int o34])), (q_trial_posts, .inl (cI, 11, .inl o35)), (q_costs, .inr (2, [.ref q_view]))] H → va_D A [(q_, .inr (9, [.ref q_net, .ref q_view, .ref q_history, .ref q_hand, .ref q_trial, .ref q_bags, .ref q_chase, .ref q_costs, .ref q_sets, .ref q_trials])), (q_view, .inr (8, [.int x_view_posts, .int x_view_roads, .int x_view_weight, .ref q_view_weights, .ref q_view_near, .ref q_view_behind, .ref q_view_ahead])), (q_view_weights, .inl (cI, 121, .inl x_view_weights)), (q_view_near, .inl (cI, 11, .inl x_view_near)), (q_view_behind, .inl (cI, 11, .inl x_view_behind)), (q_view_ahead, .inl (cI, 11, .inl x_view_ahead)), (q_hand, .inr (5, [.ref q_hand_posts, .int x_hand_size])), (q_hand_posts, .inl (cI, 11, .inl x_hand_posts)), (q_trial, .inr (5, [.ref q_trial_posts, .int o34])), (q_trial_posts, .inl (cI, 11, .inl o35)), (q_costs, .inr (2, [.ref q_view]))] → va_S A s.heap H locs → lv_has ls 8 [(0, .ref q_), (1, .int i1), (2, .int t36), (3, .int t37), (4, .int t38), (5, .int s12), (6, .int s27)] → W p l e (rmK 7 181) s m args below meth c H locs 0 0 Q (F0 m 75 ls []) := by
                intro H locs ls hP hD hS hl
                refine lv_iinc (v := (s27 + (1 : Int32))) (lv' := [(6, .int (s27 + (1 : Int32))), (0, .ref q_), (1, .int i1), (2, .int t36), (3, .int t37), (4, .int t38), (5, .int s12)]) hx hb dX10_improve_75 hl (k := 6) rfl rfl (by decide) rfl (fun ls hl => ?_)
                refine lv_goto (tgt := 36) hx hb dX10_improve_78 (by decide) ?_
                cases hf
                exact ih2 _ _ _ _ _ _ (itl hn2) _ _ _ hP hD hS (lv_sub hl [1, 2, 3, 4, 5, 6, 0] rfl)
              replace hf := hv
              refine lv_icmp_ge (tgt := 75) hx hb dX10_improve_62 (by decide) (fun c40 => ?_) (fun c40 => ?_)
              · have hf := ip c40 hf
                cases hf
                exact key39 _ _ _ hP hD hS (lv_sub hl [1, 2, 3, 4, 5, 6, 7] rfl)
              · have hf := im c40 hf
                refine lv_iload hx hb dX10_improve_65 (lv_at hl 0 rfl) ?_
                refine lv_istore_n (lv' := [(2, .int v33), (7, .int v33), (0, .ref q_), (1, .int i1), (3, .int s25), (4, .int s26), (5, .int s12), (6, .int s27)]) hx hb dX10_improve_67 rfl hl (by decide) rfl (fun ls hl => ?_)
                refine lv_iload hx hb dX10_improve_68 (lv_at hl 6 rfl) ?_
                refine lv_istore_n (lv' := [(3, .int s12), (2, .int v33), (7, .int v33), (0, .ref q_), (1, .int i1), (4, .int s26), (5, .int s12), (6, .int s27)]) hx hb dX10_improve_70 rfl hl (by decide) rfl (fun ls hl => ?_)
                refine lv_iload hx hb dX10_improve_71 (lv_at hl 7 rfl) ?_
                refine lv_istore (lv' := [(4, .int s27), (3, .int s12), (2, .int v33), (7, .int v33), (0, .ref q_), (1, .int i1), (5, .int s12), (6, .int s27)]) hx hb dX10_improve_73 hl (by decide) rfl (fun ls hl => ?_)
                cases hf
                exact key39 _ _ _ hP hD hS (lv_sub hl [4, 5, 2, 1, 0, 6, 7] rfl)
        exact kl30 n0 _ _ _ _ _ _ hn0 _ _ _ hP hD hS (lv_sub hl [1, 2, 3, 4, 5, 6, 0] rfl)
  exact kl15 n0 _ _ _ _ _ _ hn0 _ _ _ hP hD hS (lv_sub hl [4, 5, 3, 2, 1, 0] rfl)
theorem vf_X10_better : VF yX10_better cX10_better 4 (some .int) 2 := ⟨t_637, t_638, t_1, t_639, by decide +kernel, by decide +kernel, by decide +kernel⟩
theorem dX10_better_0 : decode cX10_better 0 = .ok (.iload_n 1, 1) := by decide +kernel
theorem dX10_better_1 : decode cX10_better 1 = .ok (.invokestatic 174, 3) := by decide +kernel
theorem dX10_better_4 : decode cX10_better 4 = .ok (.ifCond .eq 14, 3) := by decide +kernel
theorem dX10_better_7 : decode cX10_better 7 = .ok (.iload_n 2, 1) := by decide +kernel
theorem dX10_better_8 : decode cX10_better 8 = .ok (.iconst 1, 1) := by decide +kernel
theorem dX10_better_9 : decode cX10_better 9 = .ok (.if_icmp .lt 9, 3) := by decide +kernel
theorem dX10_better_12 : decode cX10_better 12 = .ok (.iload_n 2, 1) := by decide +kernel
theorem dX10_better_13 : decode cX10_better 13 = .ok (.bipush 60, 2) := by decide +kernel
theorem dX10_better_15 : decode cX10_better 15 = .ok (.if_icmp .le 6, 3) := by decide +kernel
theorem dX10_better_18 : decode cX10_better 18 = .ok (.bipush (-3), 2) := by decide +kernel
theorem dX10_better_20 : decode cX10_better 20 = .ok (.ireturn, 1) := by decide +kernel
theorem dX10_better_21 : decode cX10_better 21 = .ok (.aload_n 0, 1) := by decide +kernel
theorem dX10_better_22 : decode cX10_better 22 = .ok (.getfield 33, 3) := by decide +kernel
theorem dX10_better_25 : decode cX10_better 25 = .ok (.aload_n 0, 1) := by decide +kernel
theorem dX10_better_26 : decode cX10_better 26 = .ok (.getfield 12, 3) := by decide +kernel
theorem dX10_better_29 : decode cX10_better 29 = .ok (.getfield 79, 3) := by decide +kernel
theorem dX10_better_32 : decode cX10_better 32 = .ok (.invokevirtual 177, 3) := by decide +kernel
theorem dX10_better_35 : decode cX10_better 35 = .ok (.ifCond .ne 6, 3) := by decide +kernel
theorem dX10_better_38 : decode cX10_better 38 = .ok (.bipush (-4), 2) := by decide +kernel
theorem dX10_better_40 : decode cX10_better 40 = .ok (.ireturn, 1) := by decide +kernel
theorem dX10_better_41 : decode cX10_better 41 = .ok (.iconst 0, 1) := by decide +kernel
theorem dX10_better_42 : decode cX10_better 42 = .ok (.istore_n 3, 1) := by decide +kernel
theorem dX10_better_43 : decode cX10_better 43 = .ok (.iload_n 3, 1) := by decide +kernel
theorem dX10_better_44 : decode cX10_better 44 = .ok (.iload_n 2, 1) := by decide +kernel
theorem dX10_better_45 : decode cX10_better 45 = .ok (.if_icmp .ge 17, 3) := by decide +kernel
theorem dX10_better_48 : decode cX10_better 48 = .ok (.aload_n 0, 1) := by decide +kernel
theorem dX10_better_49 : decode cX10_better 49 = .ok (.iload_n 1, 1) := by decide +kernel
theorem dX10_better_50 : decode cX10_better 50 = .ok (.invokevirtual 217, 3) := by decide +kernel
theorem dX10_better_53 : decode cX10_better 53 = .ok (.ifCond .eq 9, 3) := by decide +kernel
theorem dX10_better_56 : decode cX10_better 56 = .ok (.iinc 3 1, 3) := by decide +kernel
theorem dX10_better_59 : decode cX10_better 59 = .ok (.goto (-16), 3) := by decide +kernel
theorem dX10_better_62 : decode cX10_better 62 = .ok (.iload_n 3, 1) := by decide +kernel
theorem dX10_better_63 : decode cX10_better 63 = .ok (.ireturn, 1) := by decide +kernel
noncomputable def f_X10_better_L43 (i1 : Int32) (i2 : Int32) (x_view_posts : Int32) (x_view_weights : Nat → Int32) (x_view_near : Nat → Int32) (x_view_behind : Nat → Int32) (x_view_ahead : Nat → Int32) (x_hand_size : Int32) (i3 : Int32) (x_hand_posts : Nat → Int32) (x_trial_size : Int32) (x_trial_posts : Nat → Int32) : Option ((Int32 × (Nat → Int32) × Int32 × (Nat → Int32)) ⊕ (Int32 × (Nat → Int32) × Int32 × (Nat → Int32))) :=
  if i2 ≤ i3 then (some (.inr (i3, x_hand_posts, x_trial_size, x_trial_posts))) else (b4 (f_X10_improve x_view_posts x_view_weights x_view_near x_view_behind x_view_ahead x_hand_size x_hand_posts x_trial_size x_trial_posts i1) fun v8 o9 o10 o11 =>
  if v8 = 0 then (some (.inr (i3, o9, o10, o11))) else (some (.inl ((i3 + (1 : Int32)), o9, o10, o11))))
noncomputable def f_X10_better (x_net_posts : Int32) (x_view_posts : Int32) (x_view_weights : Nat → Int32) (x_view_near : Nat → Int32) (x_view_behind : Nat → Int32) (x_view_ahead : Nat → Int32) (x_hand_size : Int32) (x_hand_posts : Nat → Int32) (x_trial_size : Int32) (x_trial_posts : Nat → Int32) (i1 : Int32) (i2 : Int32) : Option (Int32 × (Nat → Int32) × Int32 × (Nat → Int32)) :=
  (f_X10_isCost i1).bind fun v1 =>
  if v1 = 0 then (some (((-3 : Int32), x_hand_posts, x_trial_size, x_trial_posts))) else (if i2 < (1 : Int32) then (some (((-3 : Int32), x_hand_posts, x_trial_size, x_trial_posts))) else (if i2 ≤ (60 : Int32) then ((f_X5_isWhole x_hand_size x_hand_posts x_net_posts).bind fun v5 =>
  if v5 = 0 then (some (((-4 : Int32), x_hand_posts, x_trial_size, x_trial_posts))) else (b4 (loopS (fun (s : Int32 × (Nat → Int32) × Int32 × (Nat → Int32)) => f_X10_better_L43 i1 i2 x_view_posts x_view_weights x_view_near x_view_behind x_view_ahead x_hand_size s.1 s.2.1 s.2.2.1 s.2.2.2) ((0 : Int32), x_hand_posts, x_trial_size, x_trial_posts)) fun x7 x8 x9 x10 =>
  some ((x7, x8, x9, x10)))) else (some (((-3 : Int32), x_hand_posts, x_trial_size, x_trial_posts)))))
set_option maxHeartbeats 4000000 in
set_option maxRecDepth 100000 in
theorem c_X10_better (l : Launch) (dC : Nat → ClassId) (dI : Nat → Nat → Nat) (cI cZ cN : ClassId) (q_ : Nat) (q_net : Nat) (q_view : Nat) (q_history : Nat) (q_hand : Nat) (q_trial : Nat) (q_bags : Nat) (q_chase : Nat) (q_costs : Nat) (q_sets : Nat) (q_trials : Nat) (q_net_widths : Nat) (q_net_lengths : Nat) (q_net_told : Nat) (q_net_behind : Nat) (q_view_weights : Nat) (q_view_near : Nat) (q_view_behind : Nat) (q_view_ahead : Nat) (q_hand_posts : Nat) (q_trial_posts : Nat) (x_net_posts : Int32) (x_net_pairs : Int32) (x_view_posts : Int32) (x_view_roads : Int32) (x_view_weight : Int32) (x_view_weights : Nat → Int32) (x_view_near : Nat → Int32) (x_view_behind : Nat → Int32) (x_view_ahead : Nat → Int32) (x_hand_size : Int32) (x_hand_posts : Nat → Int32) (x_trial_size : Int32) (x_trial_posts : Nat → Int32) (i1 i2 : Int32) (r : Int32) (o_hand_posts : Nat → Int32) (o_trial_size : Int32) (o_trial_posts : Nat → Int32) (hf : f_X10_better x_net_posts x_view_posts x_view_weights x_view_near x_view_behind x_view_ahead x_hand_size x_hand_posts x_trial_size x_trial_posts i1 i2 = some (r, o_hand_posts, o_trial_size, o_trial_posts)) : CI l yX10_better cX10_better 4 (some .int) 8 208 (dC, dI) (TY cI cZ cN) [.ref q_, .int i1, .int i2] [(q_, .inr (9, [.ref q_net, .ref q_view, .ref q_history, .ref q_hand, .ref q_trial, .ref q_bags, .ref q_chase, .ref q_costs, .ref q_sets, .ref q_trials])), (q_net, .inr (4, [.int x_net_posts, .int x_net_pairs, .ref q_net_widths, .ref q_net_lengths, .ref q_net_told, .ref q_net_behind])), (q_view, .inr (8, [.int x_view_posts, .int x_view_roads, .int x_view_weight, .ref q_view_weights, .ref q_view_near, .ref q_view_behind, .ref q_view_ahead])), (q_view_weights, .inl (cI, 121, .inl x_view_weights)), (q_view_near, .inl (cI, 11, .inl x_view_near)), (q_view_behind, .inl (cI, 11, .inl x_view_behind)), (q_view_ahead, .inl (cI, 11, .inl x_view_ahead)), (q_hand, .inr (5, [.ref q_hand_posts, .int x_hand_size])), (q_hand_posts, .inl (cI, 11, .inl x_hand_posts)), (q_trial, .inr (5, [.ref q_trial_posts, .int x_trial_size])), (q_trial_posts, .inl (cI, 11, .inl x_trial_posts)), (q_costs, .inr (2, [.ref q_view]))] [(q_, .inr (9, [.ref q_net, .ref q_view, .ref q_history, .ref q_hand, .ref q_trial, .ref q_bags, .ref q_chase, .ref q_costs, .ref q_sets, .ref q_trials])), (q_net, .inr (4, [.int x_net_posts, .int x_net_pairs, .ref q_net_widths, .ref q_net_lengths, .ref q_net_told, .ref q_net_behind])), (q_view, .inr (8, [.int x_view_posts, .int x_view_roads, .int x_view_weight, .ref q_view_weights, .ref q_view_near, .ref q_view_behind, .ref q_view_ahead])), (q_view_weights, .inl (cI, 121, .inl x_view_weights)), (q_view_near, .inl (cI, 11, .inl x_view_near)), (q_view_behind, .inl (cI, 11, .inl x_view_behind)), (q_view_ahead, .inl (cI, 11, .inl x_view_ahead)), (q_hand, .inr (5, [.ref q_hand_posts, .int x_hand_size])), (q_hand_posts, .inl (cI, 11, .inl o_hand_posts)), (q_trial, .inr (5, [.ref q_trial_posts, .int o_trial_size])), (q_trial_posts, .inl (cI, 11, .inl o_trial_posts)), (q_costs, .inr (2, [.ref q_view]))] r := by
  refine CI.of rfl (by decide) (Nat.le_of_ble_eq_true rfl) ?_
  intro p e s m args below meth c Q A ls hx hb hml hown htb hK hN hA hP hD hS hl hret
  have hown : s.vm.findClass RX10 = some m.cls := hown
  have hl : lv_has ls 4 [(0, .ref q_), (1, .int i1), (2, .int i2)] := hl
  have hret : ∀ (r9 : Int32) (o9_hand_posts : Nat → Int32) (o9_trial_size : Int32) (o9_trial_posts : Nat → Int32), some (r9, o9_hand_posts, o9_trial_size, o9_trial_posts) = some (r, o_hand_posts, o_trial_size, o_trial_posts) → ∀ (H : Heap) (locs : List Loc) (pc : Nat) (ls : Array Slot), narrow .int (.int r9) = .int r9 → decode cX10_better pc = .ok (.ireturn, 1) → va_P (dC, dI) vwCl [(q_, .inr (9, [.ref q_net, .ref q_view, .ref q_history, .ref q_hand, .ref q_trial, .ref q_bags, .ref q_chase, .ref q_costs, .ref q_sets, .ref q_trials])), (q_net, .inr (4, [.int x_net_posts, .int x_net_pairs, .ref q_net_widths, .ref q_net_lengths, .ref q_net_told, .ref q_net_behind])), (q_view, .inr (8, [.int x_view_posts, .int x_view_roads, .int x_view_weight, .ref q_view_weights, .ref q_view_near, .ref q_view_behind, .ref q_view_ahead])), (q_view_weights, .inl (cI, 121, .inl x_view_weights)), (q_view_near, .inl (cI, 11, .inl x_view_near)), (q_view_behind, .inl (cI, 11, .inl x_view_behind)), (q_view_ahead, .inl (cI, 11, .inl x_view_ahead)), (q_hand, .inr (5, [.ref q_hand_posts, .int x_hand_size])), (q_hand_posts, .inl (cI, 11, .inl o9_hand_posts)), (q_trial, .inr (5, [.ref q_trial_posts, .int o9_trial_size])), (q_trial_posts, .inl (cI, 11, .inl o9_trial_posts)), (q_costs, .inr (2, [.ref q_view]))] H → va_D A [(q_, .inr (9, [.ref q_net, .ref q_view, .ref q_history, .ref q_hand, .ref q_trial, .ref q_bags, .ref q_chase, .ref q_costs, .ref q_sets, .ref q_trials])), (q_net, .inr (4, [.int x_net_posts, .int x_net_pairs, .ref q_net_widths, .ref q_net_lengths, .ref q_net_told, .ref q_net_behind])), (q_view, .inr (8, [.int x_view_posts, .int x_view_roads, .int x_view_weight, .ref q_view_weights, .ref q_view_near, .ref q_view_behind, .ref q_view_ahead])), (q_view_weights, .inl (cI, 121, .inl x_view_weights)), (q_view_near, .inl (cI, 11, .inl x_view_near)), (q_view_behind, .inl (cI, 11, .inl x_view_behind)), (q_view_ahead, .inl (cI, 11, .inl x_view_ahead)), (q_hand, .inr (5, [.ref q_hand_posts, .int x_hand_size])), (q_hand_posts, .inl (cI, 11, .inl o9_hand_posts)), (q_trial, .inr (5, [.ref q_trial_posts, .int o9_trial_size])), (q_trial_posts, .inl (cI, 11, .inl o9_trial_posts)), (q_costs, .inr (2, [.ref q_view]))] → va_S A s.heap H locs → W p l e (rmK 8 208) s m args below meth c H locs 0 0 Q (F0 m pc ls [.int r9]) := by
    intro r9 o9_hand_posts o9_trial_size o9_trial_posts h9
    cases h9
    exact hret
  unfold f_X10_better at hf
  refine lv_iload_n hx hb dX10_better_0 rfl (lv_at hl 1 rfl) ?_
  obtain ⟨v1, hv, hf⟩ := ob hf
  refine k_afterI (wr := [(q_, .inr (9, [.ref q_net, .ref q_view, .ref q_history, .ref q_hand, .ref q_trial, .ref q_bags, .ref q_chase, .ref q_costs, .ref q_sets, .ref q_trials])), (q_net, .inr (4, [.int x_net_posts, .int x_net_pairs, .ref q_net_widths, .ref q_net_lengths, .ref q_net_told, .ref q_net_behind])), (q_view, .inr (8, [.int x_view_posts, .int x_view_roads, .int x_view_weight, .ref q_view_weights, .ref q_view_near, .ref q_view_behind, .ref q_view_ahead])), (q_view_weights, .inl (cI, 121, .inl x_view_weights)), (q_view_near, .inl (cI, 11, .inl x_view_near)), (q_view_behind, .inl (cI, 11, .inl x_view_behind)), (q_view_ahead, .inl (cI, 11, .inl x_view_ahead)), (q_hand, .inr (5, [.ref q_hand_posts, .int x_hand_size])), (q_hand_posts, .inl (cI, 11, .inl x_hand_posts)), (q_trial, .inr (5, [.ref q_trial_posts, .int x_trial_size])), (q_trial_posts, .inl (cI, 11, .inl x_trial_posts)), (q_costs, .inr (2, [.ref q_view]))]) (wn := [(q_, .inr (9, [.ref q_net, .ref q_view, .ref q_history, .ref q_hand, .ref q_trial, .ref q_bags, .ref q_chase, .ref q_costs, .ref q_sets, .ref q_trials])), (q_net, .inr (4, [.int x_net_posts, .int x_net_pairs, .ref q_net_widths, .ref q_net_lengths, .ref q_net_told, .ref q_net_behind])), (q_view, .inr (8, [.int x_view_posts, .int x_view_roads, .int x_view_weight, .ref q_view_weights, .ref q_view_near, .ref q_view_behind, .ref q_view_ahead])), (q_view_weights, .inl (cI, 121, .inl x_view_weights)), (q_view_near, .inl (cI, 11, .inl x_view_near)), (q_view_behind, .inl (cI, 11, .inl x_view_behind)), (q_view_ahead, .inl (cI, 11, .inl x_view_ahead)), (q_hand, .inr (5, [.ref q_hand_posts, .int x_hand_size])), (q_hand_posts, .inl (cI, 11, .inl x_hand_posts)), (q_trial, .inr (5, [.ref q_trial_posts, .int x_trial_size])), (q_trial_posts, .inl (cI, 11, .inl x_trial_posts)), (q_costs, .inr (2, [.ref q_view]))]) (k_runS (rest := []) hx hb hml hown htb hK hN (c_X10_isCost l dC dI cI cZ cN i1 v1 hv _) sf_X10_isCost t_463 hP hD [] rfl rfl ⟨(Nat.le_of_ble_eq_true rfl), (Nat.le_of_ble_eq_true rfl)⟩ rfl hl.1 rfl (Nat.le_of_ble_eq_true rfl) dX10_better_1 ⟨Nat.zero_le _, Nat.zero_le _⟩) hA hP hD hS [] [0, 1, 2, 3, 4, 5, 6, 7, 8, 9, 10, 11] [0, 1, 2, 3, 4, 5, 6, 7, 8, 9, 10, 11] rfl rfl rfl rfl ?_
  clear hP hD hS
  intro H locs hP hD hS
  refine lv_if_eq (tgt := 18) hx hb dX10_better_4 (by decide) (fun c2 => ?_) (fun c2 => ?_)
  · have hf := ip c2 hf
    refine lv_bipush (v := (-3 : Int32)) hx hb dX10_better_18 (by decide) ?_
    exact hret _ _ _ _ hf _ _ _ _ rfl dX10_better_20 hP hD hS
  · have hf := im c2 hf
    refine lv_iload_n hx hb dX10_better_7 rfl (lv_at hl 2 rfl) ?_
    refine lv_iconst (v := (1 : Int32)) hx hb dX10_better_8 (by decide) ?_
    refine lv_icmp_lt (tgt := 18) hx hb dX10_better_9 (by decide) (fun c3 => ?_) (fun c3 => ?_)
    · have hf := ip c3 hf
      refine lv_bipush (v := (-3 : Int32)) hx hb dX10_better_18 (by decide) ?_
      exact hret _ _ _ _ hf _ _ _ _ rfl dX10_better_20 hP hD hS
    · have hf := im c3 hf
      refine lv_iload_n hx hb dX10_better_12 rfl (lv_at hl 2 rfl) ?_
      refine lv_bipush (v := (60 : Int32)) hx hb dX10_better_13 (by decide) ?_
      refine lv_icmp_le (tgt := 21) hx hb dX10_better_15 (by decide) (fun c4 => ?_) (fun c4 => ?_)
      · have hf := ip c4 hf
        refine lv_aload_n hx hb dX10_better_21 rfl (lv_at hl 0 rfl) ?_
        refine va_get (D := (dC, dI)) (ci := 9) (v := .ref q_hand) (C := RX10) (T := TX10) (N := 10) hx hb htb inX10 hown hK hP 0 rfl rfl 3 (Nat.le_of_ble_eq_true rfl) (htb _ t_281) (fun _ h9 => h9) rfl dX10_better_22 ?_
        refine lv_aload_n hx hb dX10_better_25 rfl (lv_at hl 0 rfl) ?_
        refine va_get (D := (dC, dI)) (ci := 9) (v := .ref q_net) (C := RX10) (T := TX10) (N := 10) hx hb htb inX10 hown hK hP 0 rfl rfl 0 (Nat.le_of_ble_eq_true rfl) (htb _ t_278) (fun _ h9 => h9) rfl dX10_better_26 ?_
        refine va_get (D := (dC, dI)) (ci := 4) (v := .int x_net_posts) (C := RX4) (T := TX4) (N := 6) hx hb htb inX4 hown hK hP 1 rfl rfl 0 (Nat.le_of_ble_eq_true rfl) (htb _ t_35) (fun _ h9 => h9) rfl dX10_better_29 ?_
        obtain ⟨v5, hv, hf⟩ := ob hf
        refine k_afterI (wr := [(q_, .inr (9, [.ref q_net, .ref q_view, .ref q_history, .ref q_hand, .ref q_trial, .ref q_bags, .ref q_chase, .ref q_costs, .ref q_sets, .ref q_trials])), (q_net, .inr (4, [.int x_net_posts, .int x_net_pairs, .ref q_net_widths, .ref q_net_lengths, .ref q_net_told, .ref q_net_behind])), (q_view, .inr (8, [.int x_view_posts, .int x_view_roads, .int x_view_weight, .ref q_view_weights, .ref q_view_near, .ref q_view_behind, .ref q_view_ahead])), (q_view_weights, .inl (cI, 121, .inl x_view_weights)), (q_view_near, .inl (cI, 11, .inl x_view_near)), (q_view_behind, .inl (cI, 11, .inl x_view_behind)), (q_view_ahead, .inl (cI, 11, .inl x_view_ahead)), (q_trial, .inr (5, [.ref q_trial_posts, .int x_trial_size])), (q_trial_posts, .inl (cI, 11, .inl x_trial_posts)), (q_costs, .inr (2, [.ref q_view]))]) (wn := [(q_, .inr (9, [.ref q_net, .ref q_view, .ref q_history, .ref q_hand, .ref q_trial, .ref q_bags, .ref q_chase, .ref q_costs, .ref q_sets, .ref q_trials])), (q_net, .inr (4, [.int x_net_posts, .int x_net_pairs, .ref q_net_widths, .ref q_net_lengths, .ref q_net_told, .ref q_net_behind])), (q_view, .inr (8, [.int x_view_posts, .int x_view_roads, .int x_view_weight, .ref q_view_weights, .ref q_view_near, .ref q_view_behind, .ref q_view_ahead])), (q_view_weights, .inl (cI, 121, .inl x_view_weights)), (q_view_near, .inl (cI, 11, .inl x_view_near)), (q_view_behind, .inl (cI, 11, .inl x_view_behind)), (q_view_ahead, .inl (cI, 11, .inl x_view_ahead)), (q_hand, .inr (5, [.ref q_hand_posts, .int x_hand_size])), (q_hand_posts, .inl (cI, 11, .inl x_hand_posts)), (q_trial, .inr (5, [.ref q_trial_posts, .int x_trial_size])), (q_trial_posts, .inl (cI, 11, .inl x_trial_posts)), (q_costs, .inr (2, [.ref q_view]))]) (k_runV (rest := []) (ci := 5) (q0 := 7) hx hb hml hown htb hK hN (c_X5_isWhole l dC dI cI cZ cN q_hand q_hand_posts x_hand_size x_hand_posts x_net_posts v5 hv _) vf_X5_isWhole t_466 hP hD [7, 8] rfl rfl rfl rfl ⟨(Nat.le_of_ble_eq_true rfl), (Nat.le_of_ble_eq_true rfl)⟩ rfl hl.1 rfl (Nat.le_of_ble_eq_true rfl) dX10_better_32 ⟨Nat.zero_le _, Nat.zero_le _⟩) hA hP hD hS [7, 8] [0, 1, 2, 3, 4, 5, 6, 9, 10, 11] [0, 1, 2, 3, 4, 5, 6, 10, 11, 7, 8, 9] rfl rfl rfl rfl ?_
        clear hP hD hS
        intro H locs hP hD hS
        refine lv_if_ne (tgt := 41) hx hb dX10_better_35 (by decide) (fun c6 => ?_) (fun c6 => ?_)
        · have hf := im c6 hf
          refine lv_iconst (v := (0 : Int32)) hx hb dX10_better_41 (by decide) ?_
          refine lv_istore_n (lv' := [(3, .int (0 : Int32)), (0, .ref q_), (1, .int i1), (2, .int i2)]) hx hb dX10_better_42 rfl hl (by decide) rfl (fun ls hl => ?_)
          obtain ⟨x7, x8, x9, x10, hL, hf⟩ := ob4 hf
          have kx11 : ∀ (H : Heap) (locs : List Loc) (ls : Array Slot), va_P (dC, dI) vwCl [(q_, .inr (9, [.ref q_net, .ref q_view, .ref q_history, .ref q_hand, .ref q_trial, .ref q_bags, .ref q_chase, .ref q_costs, .ref q_sets, .ref q_trials])), (q_net, .inr (4, [.int x_net_posts, .int x_net_pairs, .ref q_net_widths, .ref q_net_lengths, .ref q_net_told, .ref q_net_behind])), (q_view, .inr (8, [.int x_view_posts, .int x_view_roads, .int x_view_weight, .ref q_view_weights, .ref q_view_near, .ref q_view_behind, .ref q_view_ahead])), (q_view_weights, .inl (cI, 121, .inl x_view_weights)), (q_view_near, .inl (cI, 11, .inl x_view_near)), (q_view_behind, .inl (cI, 11, .inl x_view_behind)), (q_view_ahead, .inl (cI, 11, .inl x_view_ahead)), (q_hand, .inr (5, [.ref q_hand_posts, .int x_hand_size])), (q_hand_posts, .inl (cI, 11, .inl x8)), (q_trial, .inr (5, [.ref q_trial_posts, .int x9])), (q_trial_posts, .inl (cI, 11, .inl x10)), (q_costs, .inr (2, [.ref q_view]))] H → va_D A [(q_, .inr (9, [.ref q_net, .ref q_view, .ref q_history, .ref q_hand, .ref q_trial, .ref q_bags, .ref q_chase, .ref q_costs, .ref q_sets, .ref q_trials])), (q_net, .inr (4, [.int x_net_posts, .int x_net_pairs, .ref q_net_widths, .ref q_net_lengths, .ref q_net_told, .ref q_net_behind])), (q_view, .inr (8, [.int x_view_posts, .int x_view_roads, .int x_view_weight, .ref q_view_weights, .ref q_view_near, .ref q_view_behind, .ref q_view_ahead])), (q_view_weights, .inl (cI, 121, .inl x_view_weights)), (q_view_near, .inl (cI, 11, .inl x_view_near)), (q_view_behind, .inl (cI, 11, .inl x_view_behind)), (q_view_ahead, .inl (cI, 11, .inl x_view_ahead)), (q_hand, .inr (5, [.ref q_hand_posts, .int x_hand_size])), (q_hand_posts, .inl (cI, 11, .inl x8)), (q_trial, .inr (5, [.ref q_trial_posts, .int x9])), (q_trial_posts, .inl (cI, 11, .inl x10)), (q_costs, .inr (2, [.ref q_view]))] → va_S A s.heap H locs → lv_has ls 4 [(3, .int x7)] → W p l e (rmK 8 208) s m args below meth c H locs 0 0 Q (F0 m 62 ls []) := by
            intro H locs ls hP hD hS hl
            refine lv_iload_n hx hb dX10_better_62 rfl (lv_at hl 0 rfl) ?_
            exact hret _ _ _ _ hf _ _ _ _ rfl dX10_better_63 hP hD hS
          obtain ⟨n0, hn0⟩ := loopS_iter hL
          clear hf
          have kl16 : ∀ (n : Nat) (s12 : Int32) (s13 : Nat → Int32) (s14 : Int32) (s15 : Nat → Int32), iterS (fun (s : Int32 × (Nat → Int32) × Int32 × (Nat → Int32)) => f_X10_better_L43 i1 i2 x_view_posts x_view_weights x_view_near x_view_behind x_view_ahead x_hand_size s.1 s.2.1 s.2.2.1 s.2.2.2) n (s12, s13, s14, s15) = some (x7, x8, x9, x10) → ∀ (H : Heap) (locs : List Loc) (ls : Array Slot), va_P (dC, dI) vwCl [(q_, .inr (9, [.ref q_net, .ref q_view, .ref q_history, .ref q_hand, .ref q_trial, .ref q_bags, .ref q_chase, .ref q_costs, .ref q_sets, .ref q_trials])), (q_net, .inr (4, [.int x_net_posts, .int x_net_pairs, .ref q_net_widths, .ref q_net_lengths, .ref q_net_told, .ref q_net_behind])), (q_view, .inr (8, [.int x_view_posts, .int x_view_roads, .int x_view_weight, .ref q_view_weights, .ref q_view_near, .ref q_view_behind, .ref q_view_ahead])), (q_view_weights, .inl (cI, 121, .inl x_view_weights)), (q_view_near, .inl (cI, 11, .inl x_view_near)), (q_view_behind, .inl (cI, 11, .inl x_view_behind)), (q_view_ahead, .inl (cI, 11, .inl x_view_ahead)), (q_hand, .inr (5, [.ref q_hand_posts, .int x_hand_size])), (q_hand_posts, .inl (cI, 11, .inl s13)), (q_trial, .inr (5, [.ref q_trial_posts, .int s14])), (q_trial_posts, .inl (cI, 11, .inl s15)), (q_costs, .inr (2, [.ref q_view]))] H → va_D A [(q_, .inr (9, [.ref q_net, .ref q_view, .ref q_history, .ref q_hand, .ref q_trial, .ref q_bags, .ref q_chase, .ref q_costs, .ref q_sets, .ref q_trials])), (q_net, .inr (4, [.int x_net_posts, .int x_net_pairs, .ref q_net_widths, .ref q_net_lengths, .ref q_net_told, .ref q_net_behind])), (q_view, .inr (8, [.int x_view_posts, .int x_view_roads, .int x_view_weight, .ref q_view_weights, .ref q_view_near, .ref q_view_behind, .ref q_view_ahead])), (q_view_weights, .inl (cI, 121, .inl x_view_weights)), (q_view_near, .inl (cI, 11, .inl x_view_near)), (q_view_behind, .inl (cI, 11, .inl x_view_behind)), (q_view_ahead, .inl (cI, 11, .inl x_view_ahead)), (q_hand, .inr (5, [.ref q_hand_posts, .int x_hand_size])), (q_hand_posts, .inl (cI, 11, .inl s13)), (q_trial, .inr (5, [.ref q_trial_posts, .int s14])), (q_trial_posts, .inl (cI, 11, .inl s15)), (q_costs, .inr (2, [.ref q_view]))] → va_S A s.heap H locs → lv_has ls 4 [(0, .ref q_), (1, .int i1), (2, .int i2), (3, .int s12)] → W p l e (rmK 8 208) s m args below meth c H locs 0 0 Q (F0 m 43 ls []) := by
            intro n
            induction n with
            | zero =>
              intro s12 s13 s14 s15 hn1
              cases hn1
            | succ n ih1 =>
              intro s12 s13 s14 s15 hn1 H locs ls hP hD hS hl
              obtain ⟨r17, hf, hn1⟩ := it1 hn1
              replace hf : f_X10_better_L43 i1 i2 x_view_posts x_view_weights x_view_near x_view_behind x_view_ahead x_hand_size s12 s13 s14 s15 = some r17 := hf
              unfold f_X10_better_L43 at hf
              refine lv_iload_n hx hb dX10_better_43 rfl (lv_at hl 3 rfl) ?_
              refine lv_iload_n hx hb dX10_better_44 rfl (lv_at hl 2 rfl) ?_
              refine lv_icmp_ge (tgt := 62) hx hb dX10_better_45 (by decide) (fun c18 => ?_) (fun c18 => ?_)
              · have hf := ip c18 hf
                cases hf
                cases (itr hn1)
                exact kx11 _ _ _ hP hD hS (lv_sub hl [3] rfl)
              · have hf := im c18 hf
                refine lv_aload_n hx hb dX10_better_48 rfl (lv_at hl 0 rfl) ?_
                refine lv_iload_n hx hb dX10_better_49 rfl (lv_at hl 1 rfl) ?_
                obtain ⟨v19, o20, o21, o22, hv, hf⟩ := ob4 hf
                refine k_afterI (wr := [(q_net, .inr (4, [.int x_net_posts, .int x_net_pairs, .ref q_net_widths, .ref q_net_lengths, .ref q_net_told, .ref q_net_behind]))]) (wn := [(q_, .inr (9, [.ref q_net, .ref q_view, .ref q_history, .ref q_hand, .ref q_trial, .ref q_bags, .ref q_chase, .ref q_costs, .ref q_sets, .ref q_trials])), (q_net, .inr (4, [.int x_net_posts, .int x_net_pairs, .ref q_net_widths, .ref q_net_lengths, .ref q_net_told, .ref q_net_behind])), (q_view, .inr (8, [.int x_view_posts, .int x_view_roads, .int x_view_weight, .ref q_view_weights, .ref q_view_near, .ref q_view_behind, .ref q_view_ahead])), (q_view_weights, .inl (cI, 121, .inl x_view_weights)), (q_view_near, .inl (cI, 11, .inl x_view_near)), (q_view_behind, .inl (cI, 11, .inl x_view_behind)), (q_view_ahead, .inl (cI, 11, .inl x_view_ahead)), (q_hand, .inr (5, [.ref q_hand_posts, .int x_hand_size])), (q_hand_posts, .inl (cI, 11, .inl o20)), (q_trial, .inr (5, [.ref q_trial_posts, .int o21])), (q_trial_posts, .inl (cI, 11, .inl o22)), (q_costs, .inr (2, [.ref q_view]))]) (k_runV (rest := []) (ci := 9) (q0 := 0) hx hb hml hown htb hK hN (c_X10_improve l dC dI cI cZ cN q_ q_net q_view q_history q_hand q_trial q_bags q_chase q_costs q_sets q_trials q_view_weights q_view_near q_view_behind q_view_ahead q_hand_posts q_trial_posts x_view_posts x_view_roads x_view_weight x_view_weights x_view_near x_view_behind x_view_ahead x_hand_size s13 s14 s15 i1 v19 o20 o21 o22 hv _) vf_X10_improve t_640 hP hD [0, 2, 3, 4, 5, 6, 7, 8, 9, 10, 11] rfl rfl rfl rfl ⟨(Nat.le_of_ble_eq_true rfl), (Nat.le_of_ble_eq_true rfl)⟩ rfl hl.1 rfl (Nat.le_of_ble_eq_true rfl) dX10_better_50 ⟨Nat.zero_le _, Nat.zero_le _⟩) hA hP hD hS [0, 2, 3, 4, 5, 6, 7, 8, 9, 10, 11] [1] [1, 0, 2, 3, 4, 5, 6, 7, 8, 9, 10, 11] rfl rfl rfl rfl ?_
                clear hP hD hS
                intro H locs hP hD hS
                refine lv_if_eq (tgt := 62) hx hb dX10_better_53 (by decide) (fun c23 => ?_) (fun c23 => ?_)
                · have hf := ip c23 hf
                  cases hf
                  cases (itr hn1)
                  exact kx11 _ _ _ hP hD hS (lv_sub hl [3] rfl)
                · have hf := im c23 hf
                  refine lv_iinc (v := (s12 + (1 : Int32))) (lv' := [(3, .int (s12 + (1 : Int32))), (0, .ref q_), (1, .int i1), (2, .int i2)]) hx hb dX10_better_56 hl (k := 3) rfl rfl (by decide) rfl (fun ls hl => ?_)
                  refine lv_goto (tgt := 43) hx hb dX10_better_59 (by decide) ?_
                  cases hf
                  exact ih1 _ _ _ _ (itl hn1) _ _ _ hP hD hS (lv_sub hl [1, 2, 3, 0] rfl)
          exact kl16 n0 _ _ _ _ hn0 _ _ _ hP hD hS (lv_sub hl [1, 2, 3, 0] rfl)
        · have hf := ip c6 hf
          refine lv_bipush (v := (-4 : Int32)) hx hb dX10_better_38 (by decide) ?_
          exact hret _ _ _ _ hf _ _ _ _ rfl dX10_better_40 hP hD hS
      · have hf := im c4 hf
        refine lv_bipush (v := (-3 : Int32)) hx hb dX10_better_18 (by decide) ?_
        exact hret _ _ _ _ hf _ _ _ _ rfl dX10_better_20 hP hD hS
theorem vf_X10_isWall : VF yX10_isWall cX10_isWall 3 (some .boolean) 2 := ⟨t_660, tp_15, t_1, t_661, by decide +kernel, by decide +kernel, by decide +kernel⟩
theorem dX10_isWall_0 : decode cX10_isWall 0 = .ok (.iload_n 1, 1) := by decide +kernel
theorem dX10_isWall_1 : decode cX10_isWall 1 = .ok (.iconst 1, 1) := by decide +kernel
theorem dX10_isWall_2 : decode cX10_isWall 2 = .ok (.if_icmp .eq 8, 3) := by decide +kernel
theorem dX10_isWall_5 : decode cX10_isWall 5 = .ok (.iload_n 1, 1) := by decide +kernel
theorem dX10_isWall_6 : decode cX10_isWall 6 = .ok (.iconst 2, 1) := by decide +kernel
theorem dX10_isWall_7 : decode cX10_isWall 7 = .ok (.if_icmp .ne 23, 3) := by decide +kernel
theorem dX10_isWall_10 : decode cX10_isWall 10 = .ok (.iload_n 2, 1) := by decide +kernel
theorem dX10_isWall_11 : decode cX10_isWall 11 = .ok (.iconst 1, 1) := by decide +kernel
theorem dX10_isWall_12 : decode cX10_isWall 12 = .ok (.if_icmp .lt 18, 3) := by decide +kernel
theorem dX10_isWall_15 : decode cX10_isWall 15 = .ok (.iload_n 2, 1) := by decide +kernel
theorem dX10_isWall_16 : decode cX10_isWall 16 = .ok (.aload_n 0, 1) := by decide +kernel
theorem dX10_isWall_17 : decode cX10_isWall 17 = .ok (.getfield 12, 3) := by decide +kernel
theorem dX10_isWall_20 : decode cX10_isWall 20 = .ok (.getfield 79, 3) := by decide +kernel
theorem dX10_isWall_23 : decode cX10_isWall 23 = .ok (.if_icmp .ge 7, 3) := by decide +kernel
theorem dX10_isWall_26 : decode cX10_isWall 26 = .ok (.iconst 1, 1) := by decide +kernel
theorem dX10_isWall_27 : decode cX10_isWall 27 = .ok (.goto 4, 3) := by decide +kernel
theorem dX10_isWall_30 : decode cX10_isWall 30 = .ok (.iconst 0, 1) := by decide +kernel
theorem dX10_isWall_31 : decode cX10_isWall 31 = .ok (.ireturn, 1) := by decide +kernel
noncomputable def f_X10_isWall (x_net_posts : Int32) (i1 : Int32) (i2 : Int32) : Option (Int32) :=
  if i1 = (1 : Int32) then (if i2 < (1 : Int32) then (some ((0 : Int32))) else (if x_net_posts ≤ i2 then (some ((0 : Int32))) else (some ((1 : Int32))))) else (if i1 = (2 : Int32) then (if i2 < (1 : Int32) then (some ((0 : Int32))) else (if x_net_posts ≤ i2 then (some ((0 : Int32))) else (some ((1 : Int32))))) else (some ((0 : Int32))))
set_option maxHeartbeats 4000000 in
set_option maxRecDepth 100000 in
theorem c_X10_isWall (l : Launch) (dC : Nat → ClassId) (dI : Nat → Nat → Nat) (cI cZ cN : ClassId) (q_ : Nat) (q_net : Nat) (q_view : Nat) (q_history : Nat) (q_hand : Nat) (q_trial : Nat) (q_bags : Nat) (q_chase : Nat) (q_costs : Nat) (q_sets : Nat) (q_trials : Nat) (q_net_widths : Nat) (q_net_lengths : Nat) (q_net_told : Nat) (q_net_behind : Nat) (x_net_posts : Int32) (x_net_pairs : Int32) (i1 i2 : Int32) (r : Int32) (hf : f_X10_isWall x_net_posts i1 i2 = some r) : CI l yX10_isWall cX10_isWall 3 (some .boolean) 2 60 (dC, dI) (TY cI cZ cN) [.ref q_, .int i1, .int i2] [(q_, .inr (9, [.ref q_net, .ref q_view, .ref q_history, .ref q_hand, .ref q_trial, .ref q_bags, .ref q_chase, .ref q_costs, .ref q_sets, .ref q_trials])), (q_net, .inr (4, [.int x_net_posts, .int x_net_pairs, .ref q_net_widths, .ref q_net_lengths, .ref q_net_told, .ref q_net_behind]))] [(q_, .inr (9, [.ref q_net, .ref q_view, .ref q_history, .ref q_hand, .ref q_trial, .ref q_bags, .ref q_chase, .ref q_costs, .ref q_sets, .ref q_trials])), (q_net, .inr (4, [.int x_net_posts, .int x_net_pairs, .ref q_net_widths, .ref q_net_lengths, .ref q_net_told, .ref q_net_behind]))] r := by
  refine CI.of rfl (by decide) (Nat.le_of_ble_eq_true rfl) ?_
  intro p e s m args below meth c Q A ls hx hb hml hown htb hK hN hA hP hD hS hl hret
  have hown : s.vm.findClass RX10 = some m.cls := hown
  have hl : lv_has ls 3 [(0, .ref q_), (1, .int i1), (2, .int i2)] := hl
  have hret : ∀ (r9 : Int32), some r9 = some r → ∀ (H : Heap) (locs : List Loc) (pc : Nat) (ls : Array Slot), narrow .boolean (.int r9) = .int r9 → decode cX10_isWall pc = .ok (.ireturn, 1) → va_P (dC, dI) vwCl [(q_, .inr (9, [.ref q_net, .ref q_view, .ref q_history, .ref q_hand, .ref q_trial, .ref q_bags, .ref q_chase, .ref q_costs, .ref q_sets, .ref q_trials])), (q_net, .inr (4, [.int x_net_posts, .int x_net_pairs, .ref q_net_widths, .ref q_net_lengths, .ref q_net_told, .ref q_net_behind]))] H → va_D A [(q_, .inr (9, [.ref q_net, .ref q_view, .ref q_history, .ref q_hand, .ref q_trial, .ref q_bags, .ref q_chase, .ref q_costs, .ref q_sets, .ref q_trials])), (q_net, .inr (4, [.int x_net_posts, .int x_net_pairs, .ref q_net_widths, .ref q_net_lengths, .ref q_net_told, .ref q_net_behind]))] → va_S A s.heap H locs → W p l e (rmK 2 60) s m args below meth c H locs 0 0 Q (F0 m pc ls [.int r9]) := by
    intro r9 h9
    cases h9
    exact hret
  unfold f_X10_isWall at hf
  refine lv_iload_n hx hb dX10_isWall_0 rfl (lv_at hl 1 rfl) ?_
  refine lv_iconst (v := (1 : Int32)) hx hb dX10_isWall_1 (by decide) ?_
  refine lv_icmp_eq (tgt := 10) hx hb dX10_isWall_2 (by decide) (fun c1 => ?_) (fun c1 => ?_)
  · have hf := ip c1 hf
    refine lv_iload_n hx hb dX10_isWall_10 rfl (lv_at hl 2 rfl) ?_
    refine lv_iconst (v := (1 : Int32)) hx hb dX10_isWall_11 (by decide) ?_
    refine lv_icmp_lt (tgt := 30) hx hb dX10_isWall_12 (by decide) (fun c2 => ?_) (fun c2 => ?_)
    · have hf := ip c2 hf
      refine lv_iconst (v := (0 : Int32)) hx hb dX10_isWall_30 (by decide) ?_
      exact hret _ hf _ _ _ _ rfl dX10_isWall_31 hP hD hS
    · have hf := im c2 hf
      refine lv_iload_n hx hb dX10_isWall_15 rfl (lv_at hl 2 rfl) ?_
      refine lv_aload_n hx hb dX10_isWall_16 rfl (lv_at hl 0 rfl) ?_
      refine va_get (D := (dC, dI)) (ci := 9) (v := .ref q_net) (C := RX10) (T := TX10) (N := 10) hx hb htb inX10 hown hK hP 0 rfl rfl 0 (Nat.le_of_ble_eq_true rfl) (htb _ t_278) (fun _ h9 => h9) rfl dX10_isWall_17 ?_
      refine va_get (D := (dC, dI)) (ci := 4) (v := .int x_net_posts) (C := RX4) (T := TX4) (N := 6) hx hb htb inX4 hown hK hP 1 rfl rfl 0 (Nat.le_of_ble_eq_true rfl) (htb _ t_35) (fun _ h9 => h9) rfl dX10_isWall_20 ?_
      refine lv_icmp_ge (tgt := 30) hx hb dX10_isWall_23 (by decide) (fun c3 => ?_) (fun c3 => ?_)
      · have hf := ip c3 hf
        refine lv_iconst (v := (0 : Int32)) hx hb dX10_isWall_30 (by decide) ?_
        exact hret _ hf _ _ _ _ rfl dX10_isWall_31 hP hD hS
      · have hf := im c3 hf
        refine lv_iconst (v := (1 : Int32)) hx hb dX10_isWall_26 (by decide) ?_
        refine lv_goto (tgt := 31) hx hb dX10_isWall_27 (by decide) ?_
        exact hret _ hf _ _ _ _ rfl dX10_isWall_31 hP hD hS
  · have hf := im c1 hf
    refine lv_iload_n hx hb dX10_isWall_5 rfl (lv_at hl 1 rfl) ?_
    refine lv_iconst (v := (2 : Int32)) hx hb dX10_isWall_6 (by decide) ?_
    refine lv_icmp_ne (tgt := 30) hx hb dX10_isWall_7 (by decide) (fun c4 => ?_) (fun c4 => ?_)
    · have hf := im c4 hf
      refine lv_iconst (v := (0 : Int32)) hx hb dX10_isWall_30 (by decide) ?_
      exact hret _ hf _ _ _ _ rfl dX10_isWall_31 hP hD hS
    · have hf := ip c4 hf
      refine lv_iload_n hx hb dX10_isWall_10 rfl (lv_at hl 2 rfl) ?_
      refine lv_iconst (v := (1 : Int32)) hx hb dX10_isWall_11 (by decide) ?_
      refine lv_icmp_lt (tgt := 30) hx hb dX10_isWall_12 (by decide) (fun c5 => ?_) (fun c5 => ?_)
      · have hf := ip c5 hf
        refine lv_iconst (v := (0 : Int32)) hx hb dX10_isWall_30 (by decide) ?_
        exact hret _ hf _ _ _ _ rfl dX10_isWall_31 hP hD hS
      · have hf := im c5 hf
        refine lv_iload_n hx hb dX10_isWall_15 rfl (lv_at hl 2 rfl) ?_
        refine lv_aload_n hx hb dX10_isWall_16 rfl (lv_at hl 0 rfl) ?_
        refine va_get (D := (dC, dI)) (ci := 9) (v := .ref q_net) (C := RX10) (T := TX10) (N := 10) hx hb htb inX10 hown hK hP 0 rfl rfl 0 (Nat.le_of_ble_eq_true rfl) (htb _ t_278) (fun _ h9 => h9) rfl dX10_isWall_17 ?_
        refine va_get (D := (dC, dI)) (ci := 4) (v := .int x_net_posts) (C := RX4) (T := TX4) (N := 6) hx hb htb inX4 hown hK hP 1 rfl rfl 0 (Nat.le_of_ble_eq_true rfl) (htb _ t_35) (fun _ h9 => h9) rfl dX10_isWall_20 ?_
        refine lv_icmp_ge (tgt := 30) hx hb dX10_isWall_23 (by decide) (fun c6 => ?_) (fun c6 => ?_)
        · have hf := ip c6 hf
          refine lv_iconst (v := (0 : Int32)) hx hb dX10_isWall_30 (by decide) ?_
          exact hret _ hf _ _ _ _ rfl dX10_isWall_31 hP hD hS
        · have hf := im c6 hf
          refine lv_iconst (v := (1 : Int32)) hx hb dX10_isWall_26 (by decide) ?_
          refine lv_goto (tgt := 31) hx hb dX10_isWall_27 (by decide) ?_
          exact hret _ hf _ _ _ _ rfl dX10_isWall_31 hP hD hS
theorem vf_X10_wall : VF yX10_wall cX10_wall 3 (some .int) 2 := ⟨t_655, t_656, t_1, t_657, by decide +kernel, by decide +kernel, by decide +kernel⟩
theorem dX10_wall_0 : decode cX10_wall 0 = .ok (.aload_n 0, 1) := by decide +kernel
theorem dX10_wall_1 : decode cX10_wall 1 = .ok (.iload_n 1, 1) := by decide +kernel
theorem dX10_wall_2 : decode cX10_wall 2 = .ok (.iload_n 2, 1) := by decide +kernel
theorem dX10_wall_3 : decode cX10_wall 3 = .ok (.invokevirtual 220, 3) := by decide +kernel
theorem dX10_wall_6 : decode cX10_wall 6 = .ok (.ifCond .eq 23, 3) := by decide +kernel
theorem dX10_wall_9 : decode cX10_wall 9 = .ok (.aload_n 0, 1) := by decide +kernel
theorem dX10_wall_10 : decode cX10_wall 10 = .ok (.getfield 68, 3) := by decide +kernel
theorem dX10_wall_13 : decode cX10_wall 13 = .ok (.iload_n 1, 1) := by decide +kernel
theorem dX10_wall_14 : decode cX10_wall 14 = .ok (.aload_n 0, 1) := by decide +kernel
theorem dX10_wall_15 : decode cX10_wall 15 = .ok (.getfield 68, 3) := by decide +kernel
theorem dX10_wall_18 : decode cX10_wall 18 = .ok (.iload_n 1, 1) := by decide +kernel
theorem dX10_wall_19 : decode cX10_wall 19 = .ok (.iload_n 2, 1) := by decide +kernel
theorem dX10_wall_20 : decode cX10_wall 20 = .ok (.invokevirtual 223, 3) := by decide +kernel
theorem dX10_wall_23 : decode cX10_wall 23 = .ok (.invokevirtual 226, 3) := by decide +kernel
theorem dX10_wall_26 : decode cX10_wall 26 = .ok (.goto 5, 3) := by decide +kernel
theorem dX10_wall_29 : decode cX10_wall 29 = .ok (.bipush (-3), 2) := by decide +kernel
theorem dX10_wall_31 : decode cX10_wall 31 = .ok (.ireturn, 1) := by decide +kernel
noncomputable def f_X10_wall (x_net_posts : Int32) (x_view_posts : Int32) (x_view_weights : Nat → Int32) (x_view_near : Nat → Int32) (x_view_behind : Nat → Int32) (x_sets_solvedFor : Int32) (x_sets_pricedFor : Int32) (x_sets_prices : Nat → Int32) (i1 : Int32) (i2 : Int32) : Option (Int32 × Int32 × Int32 × (Nat → Int32)) :=
  (f_X10_isWall x_net_posts i1 i2).bind fun v1 =>
  if v1 = 0 then (some (((-3 : Int32), x_sets_solvedFor, x_sets_pricedFor, x_sets_prices))) else (b4 (f_X7_cheapest x_sets_solvedFor x_sets_pricedFor x_view_posts x_view_weights x_view_near x_view_behind x_sets_prices i1 i2) fun v3 o4 o5 o6 =>
  b4 (f_X7_priceOf o4 o5 x_view_posts x_view_weights x_view_near x_view_behind o6 i1 v3) fun v7 o8 o9 o10 =>
  some ((v7, o8, o9, o10)))
set_option maxHeartbeats 4000000 in
set_option maxRecDepth 100000 in
theorem c_X10_wall (l : Launch) (dC : Nat → ClassId) (dI : Nat → Nat → Nat) (cI cZ cN : ClassId) (q_ : Nat) (q_net : Nat) (q_view : Nat) (q_history : Nat) (q_hand : Nat) (q_trial : Nat) (q_bags : Nat) (q_chase : Nat) (q_costs : Nat) (q_sets : Nat) (q_trials : Nat) (q_net_widths : Nat) (q_net_lengths : Nat) (q_net_told : Nat) (q_net_behind : Nat) (q_view_weights : Nat) (q_view_near : Nat) (q_view_behind : Nat) (q_view_ahead : Nat) (q_sets_prices : Nat) (q_sets_rests : Nat) (q_sets_ways : Nat) (x_net_posts : Int32) (x_net_pairs : Int32) (x_view_posts : Int32) (x_view_roads : Int32) (x_view_weight : Int32) (x_view_weights : Nat → Int32) (x_view_near : Nat → Int32) (x_view_behind : Nat → Int32) (x_sets_solvedFor : Int32) (x_sets_lowest : Int32) (x_sets_total : Int32) (x_sets_pricedFor : Int32) (x_sets_prices : Nat → Int32) (i1 i2 : Int32) (r : Int32) (o_sets_solvedFor : Int32) (o_sets_pricedFor : Int32) (o_sets_prices : Nat → Int32) (hf : f_X10_wall x_net_posts x_view_posts x_view_weights x_view_near x_view_behind x_sets_solvedFor x_sets_pricedFor x_sets_prices i1 i2 = some (r, o_sets_solvedFor, o_sets_pricedFor, o_sets_prices)) : CI l yX10_wall cX10_wall 3 (some .int) 7 182 (dC, dI) (TY cI cZ cN) [.ref q_, .int i1, .int i2] [(q_, .inr (9, [.ref q_net, .ref q_view, .ref q_history, .ref q_hand, .ref q_trial, .ref q_bags, .ref q_chase, .ref q_costs, .ref q_sets, .ref q_trials])), (q_net, .inr (4, [.int x_net_posts, .int x_net_pairs, .ref q_net_widths, .ref q_net_lengths, .ref q_net_told, .ref q_net_behind])), (q_view, .inr (8, [.int x_view_posts, .int x_view_roads, .int x_view_weight, .ref q_view_weights, .ref q_view_near, .ref q_view_behind, .ref q_view_ahead])), (q_view_weights, .inl (cI, 121, .inl x_view_weights)), (q_view_near, .inl (cI, 11, .inl x_view_near)), (q_view_behind, .inl (cI, 11, .inl x_view_behind)), (q_costs, .inr (2, [.ref q_view])), (q_sets, .inr (6, [.ref q_view, .ref q_costs, .int x_sets_solvedFor, .int x_sets_lowest, .int x_sets_total, .int x_sets_pricedFor, .ref q_sets_prices, .ref q_sets_rests, .ref q_sets_ways])), (q_sets_prices, .inl (cI, 2048, .inl x_sets_prices))] [(q_, .inr (9, [.ref q_net, .ref q_view, .ref q_history, .ref q_hand, .ref q_trial, .ref q_bags, .ref q_chase, .ref q_costs, .ref q_sets, .ref q_trials])), (q_net, .inr (4, [.int x_net_posts, .int x_net_pairs, .ref q_net_widths, .ref q_net_lengths, .ref q_net_told, .ref q_net_behind])), (q_view, .inr (8, [.int x_view_posts, .int x_view_roads, .int x_view_weight, .ref q_view_weights, .ref q_view_near, .ref q_view_behind, .ref q_view_ahead])), (q_view_weights, .inl (cI, 121, .inl x_view_weights)), (q_view_near, .inl (cI, 11, .inl x_view_near)), (q_view_behind, .inl (cI, 11, .inl x_view_behind)), (q_costs, .inr (2, [.ref q_view])), (q_sets, .inr (6, [.ref q_view, .ref q_costs, .int o_sets_solvedFor, .int x_sets_lowest, .int x_sets_total, .int o_sets_pricedFor, .ref q_sets_prices, .ref q_sets_rests, .ref q_sets_ways])), (q_sets_prices, .inl (cI, 2048, .inl o_sets_prices))] r := by
  refine CI.of rfl (by decide) (Nat.le_of_ble_eq_true rfl) ?_
  intro p e s m args below meth c Q A ls hx hb hml hown htb hK hN hA hP hD hS hl hret
  have hown : s.vm.findClass RX10 = some m.cls := hown
  have hl : lv_has ls 3 [(0, .ref q_), (1, .int i1), (2, .int i2)] := hl
  have hret : ∀ (r9 : Int32) (o9_sets_solvedFor : Int32) (o9_sets_pricedFor : Int32) (o9_sets_prices : Nat → Int32), some (r9, o9_sets_solvedFor, o9_sets_pricedFor, o9_sets_prices) = some (r, o_sets_solvedFor, o_sets_pricedFor, o_sets_prices) → ∀ (H : Heap) (locs : List Loc) (pc : Nat) (ls : Array Slot), narrow .int (.int r9) = .int r9 → decode cX10_wall pc = .ok (.ireturn, 1) → va_P (dC, dI) vwCl [(q_, .inr (9, [.ref q_net, .ref q_view, .ref q_history, .ref q_hand, .ref q_trial, .ref q_bags, .ref q_chase, .ref q_costs, .ref q_sets, .ref q_trials])), (q_net, .inr (4, [.int x_net_posts, .int x_net_pairs, .ref q_net_widths, .ref q_net_lengths, .ref q_net_told, .ref q_net_behind])), (q_view, .inr (8, [.int x_view_posts, .int x_view_roads, .int x_view_weight, .ref q_view_weights, .ref q_view_near, .ref q_view_behind, .ref q_view_ahead])), (q_view_weights, .inl (cI, 121, .inl x_view_weights)), (q_view_near, .inl (cI, 11, .inl x_view_near)), (q_view_behind, .inl (cI, 11, .inl x_view_behind)), (q_costs, .inr (2, [.ref q_view])), (q_sets, .inr (6, [.ref q_view, .ref q_costs, .int o9_sets_solvedFor, .int x_sets_lowest, .int x_sets_total, .int o9_sets_pricedFor, .ref q_sets_prices, .ref q_sets_rests, .ref q_sets_ways])), (q_sets_prices, .inl (cI, 2048, .inl o9_sets_prices))] H → va_D A [(q_, .inr (9, [.ref q_net, .ref q_view, .ref q_history, .ref q_hand, .ref q_trial, .ref q_bags, .ref q_chase, .ref q_costs, .ref q_sets, .ref q_trials])), (q_net, .inr (4, [.int x_net_posts, .int x_net_pairs, .ref q_net_widths, .ref q_net_lengths, .ref q_net_told, .ref q_net_behind])), (q_view, .inr (8, [.int x_view_posts, .int x_view_roads, .int x_view_weight, .ref q_view_weights, .ref q_view_near, .ref q_view_behind, .ref q_view_ahead])), (q_view_weights, .inl (cI, 121, .inl x_view_weights)), (q_view_near, .inl (cI, 11, .inl x_view_near)), (q_view_behind, .inl (cI, 11, .inl x_view_behind)), (q_costs, .inr (2, [.ref q_view])), (q_sets, .inr (6, [.ref q_view, .ref q_costs, .int o9_sets_solvedFor, .int x_sets_lowest, .int x_sets_total, .int o9_sets_pricedFor, .ref q_sets_prices, .ref q_sets_rests, .ref q_sets_ways])), (q_sets_prices, .inl (cI, 2048, .inl o9_sets_prices))] → va_S A s.heap H locs → W p l e (rmK 7 182) s m args below meth c H locs 0 0 Q (F0 m pc ls [.int r9]) := by
    intro r9 o9_sets_solvedFor o9_sets_pricedFor o9_sets_prices h9
    cases h9
    exact hret
  unfold f_X10_wall at hf
  refine lv_aload_n hx hb dX10_wall_0 rfl (lv_at hl 0 rfl) ?_
  refine lv_iload_n hx hb dX10_wall_1 rfl (lv_at hl 1 rfl) ?_
  refine lv_iload_n hx hb dX10_wall_2 rfl (lv_at hl 2 rfl) ?_
  obtain ⟨v1, hv, hf⟩ := ob hf
  refine k_afterI (wr := [(q_view, .inr (8, [.int x_view_posts, .int x_view_roads, .int x_view_weight, .ref q_view_weights, .ref q_view_near, .ref q_view_behind, .ref q_view_ahead])), (q_view_weights, .inl (cI, 121, .inl x_view_weights)), (q_view_near, .inl (cI, 11, .inl x_view_near)), (q_view_behind, .inl (cI, 11, .inl x_view_behind)), (q_costs, .inr (2, [.ref q_view])), (q_sets, .inr (6, [.ref q_view, .ref q_costs, .int x_sets_solvedFor, .int x_sets_lowest, .int x_sets_total, .int x_sets_pricedFor, .ref q_sets_prices, .ref q_sets_rests, .ref q_sets_ways])), (q_sets_prices, .inl (cI, 2048, .inl x_sets_prices))]) (wn := [(q_, .inr (9, [.ref q_net, .ref q_view, .ref q_history, .ref q_hand, .ref q_trial, .ref q_bags, .ref q_chase, .ref q_costs, .ref q_sets, .ref q_trials])), (q_net, .inr (4, [.int x_net_posts, .int x_net_pairs, .ref q_net_widths, .ref q_net_lengths, .ref q_net_told, .ref q_net_behind])), (q_view, .inr (8, [.int x_view_posts, .int x_view_roads, .int x_view_weight, .ref q_view_weights, .ref q_view_near, .ref q_view_behind, .ref q_view_ahead])), (q_view_weights, .inl (cI, 121, .inl x_view_weights)), (q_view_near, .inl (cI, 11, .inl x_view_near)), (q_view_behind, .inl (cI, 11, .inl x_view_behind)), (q_costs, .inr (2, [.ref q_view])), (q_sets, .inr (6, [.ref q_view, .ref q_costs, .int x_sets_solvedFor, .int x_sets_lowest, .int x_sets_total, .int x_sets_pricedFor, .ref q_sets_prices, .ref q_sets_rests, .ref q_sets_ways])), (q_sets_prices, .inl (cI, 2048, .inl x_sets_prices))]) (k_runV (rest := []) (ci := 9) (q0 := 0) hx hb hml hown htb hK hN (c_X10_isWall l dC dI cI cZ cN q_ q_net q_view q_history q_hand q_trial q_bags q_chase q_costs q_sets q_trials q_net_widths q_net_lengths q_net_told q_net_behind x_net_posts x_net_pairs i1 i2 v1 hv _) vf_X10_isWall t_658 hP hD [0, 1] rfl rfl rfl rfl ⟨(Nat.le_of_ble_eq_true rfl), (Nat.le_of_ble_eq_true rfl)⟩ rfl hl.1 rfl (Nat.le_of_ble_eq_true rfl) dX10_wall_3 ⟨Nat.zero_le _, Nat.zero_le _⟩) hA hP hD hS [0, 1] [2, 3, 4, 5, 6, 7, 8] [7, 8, 0, 1, 2, 3, 4, 5, 6] rfl rfl rfl rfl ?_
  clear hP hD hS
  intro H locs hP hD hS
  refine lv_if_eq (tgt := 29) hx hb dX10_wall_6 (by decide) (fun c2 => ?_) (fun c2 => ?_)
  · have hf := ip c2 hf
    refine lv_bipush (v := (-3 : Int32)) hx hb dX10_wall_29 (by decide) ?_
    exact hret _ _ _ _ hf _ _ _ _ rfl dX10_wall_31 hP hD hS
  · have hf := im c2 hf
    refine lv_aload_n hx hb dX10_wall_9 rfl (lv_at hl 0 rfl) ?_
    refine va_get (D := (dC, dI)) (ci := 9) (v := .ref q_sets) (C := RX10) (T := TX10) (N := 10) hx hb htb inX10 hown hK hP 0 rfl rfl 8 (Nat.le_of_ble_eq_true rfl) (htb _ t_286) (fun _ h9 => h9) rfl dX10_wall_10 ?_
    refine lv_iload_n hx hb dX10_wall_13 rfl (lv_at hl 1 rfl) ?_
    refine lv_aload_n hx hb dX10_wall_14 rfl (lv_at hl 0 rfl) ?_
    refine va_get (D := (dC, dI)) (ci := 9) (v := .ref q_sets) (C := RX10) (T := TX10) (N := 10) hx hb htb inX10 hown hK hP 0 rfl rfl 8 (Nat.le_of_ble_eq_true rfl) (htb _ t_286) (fun _ h9 => h9) rfl dX10_wall_15 ?_
    refine lv_iload_n hx hb dX10_wall_18 rfl (lv_at hl 1 rfl) ?_
    refine lv_iload_n hx hb dX10_wall_19 rfl (lv_at hl 2 rfl) ?_
    obtain ⟨v3, o4, o5, o6, hv, hf⟩ := ob4 hf
    refine k_afterI (wr := [(q_, .inr (9, [.ref q_net, .ref q_view, .ref q_history, .ref q_hand, .ref q_trial, .ref q_bags, .ref q_chase, .ref q_costs, .ref q_sets, .ref q_trials])), (q_net, .inr (4, [.int x_net_posts, .int x_net_pairs, .ref q_net_widths, .ref q_net_lengths, .ref q_net_told, .ref q_net_behind]))]) (wn := [(q_, .inr (9, [.ref q_net, .ref q_view, .ref q_history, .ref q_hand, .ref q_trial, .ref q_bags, .ref q_chase, .ref q_costs, .ref q_sets, .ref q_trials])), (q_net, .inr (4, [.int x_net_posts, .int x_net_pairs, .ref q_net_widths, .ref q_net_lengths, .ref q_net_told, .ref q_net_behind])), (q_view, .inr (8, [.int x_view_posts, .int x_view_roads, .int x_view_weight, .ref q_view_weights, .ref q_view_near, .ref q_view_behind, .ref q_view_ahead])), (q_view_weights, .inl (cI, 121, .inl x_view_weights)), (q_view_near, .inl (cI, 11, .inl x_view_near)), (q_view_behind, .inl (cI, 11, .inl x_view_behind)), (q_costs, .inr (2, [.ref q_view])), (q_sets, .inr (6, [.ref q_view, .ref q_costs, .int o4, .int x_sets_lowest, .int x_sets_total, .int o5, .ref q_sets_prices, .ref q_sets_rests, .ref q_sets_ways])), (q_sets_prices, .inl (cI, 2048, .inl o6))]) (k_runV (rest := [.int i1, .ref q_sets]) (ci := 6) (q0 := 7) hx hb hml hown htb hK hN (c_X7_cheapest l dC dI cI cZ cN q_sets q_view q_costs q_sets_prices q_sets_rests q_sets_ways q_view_weights q_view_near q_view_behind q_view_ahead x_sets_solvedFor x_sets_lowest x_sets_total x_sets_pricedFor x_view_posts x_view_roads x_view_weight x_view_weights x_view_near x_view_behind x_sets_prices i1 i2 v3 o4 o5 o6 hv _) vf_X7_cheapest t_662 hP hD [7, 2, 3, 4, 5, 6, 8] rfl rfl rfl rfl ⟨(Nat.le_of_ble_eq_true rfl), (Nat.le_of_ble_eq_true rfl)⟩ rfl hl.1 rfl (Nat.le_of_ble_eq_true rfl) dX10_wall_20 ⟨Nat.zero_le _, Nat.zero_le _⟩) hA hP hD hS [7, 2, 3, 4, 5, 6, 8] [0, 1] [0, 1, 3, 4, 5, 6, 7, 2, 8] rfl rfl rfl rfl ?_
    clear hP hD hS
    intro H locs hP hD hS
    obtain ⟨v7, o8, o9, o10, hv, hf⟩ := ob4 hf
    refine k_afterI (wr := [(q_, .inr (9, [.ref q_net, .ref q_view, .ref q_history, .ref q_hand, .ref q_trial, .ref q_bags, .ref q_chase, .ref q_costs, .ref q_sets, .ref q_trials])), (q_net, .inr (4, [.int x_net_posts, .int x_net_pairs, .ref q_net_widths, .ref q_net_lengths, .ref q_net_told, .ref q_net_behind]))]) (wn := [(q_, .inr (9, [.ref q_net, .ref q_view, .ref q_history, .ref q_hand, .ref q_trial, .ref q_bags, .ref q_chase, .ref q_costs, .ref q_sets, .ref q_trials])), (q_net, .inr (4, [.int x_net_posts, .int x_net_pairs, .ref q_net_widths, .ref q_net_lengths, .ref q_net_told, .ref q_net_behind])), (q_view, .inr (8, [.int x_view_posts, .int x_view_roads, .int x_view_weight, .ref q_view_weights, .ref q_view_near, .ref q_view_behind, .ref q_view_ahead])), (q_view_weights, .inl (cI, 121, .inl x_view_weights)), (q_view_near, .inl (cI, 11, .inl x_view_near)), (q_view_behind, .inl (cI, 11, .inl x_view_behind)), (q_costs, .inr (2, [.ref q_view])), (q_sets, .inr (6, [.ref q_view, .ref q_costs, .int o8, .int x_sets_lowest, .int x_sets_total, .int o9, .ref q_sets_prices, .ref q_sets_rests, .ref q_sets_ways])), (q_sets_prices, .inl (cI, 2048, .inl o10))]) (k_runV (rest := []) (ci := 6) (q0 := 7) hx hb hml hown htb hK hN (c_X7_priceOf l dC dI cI cZ cN q_sets q_view q_costs q_sets_prices q_sets_rests q_sets_ways q_view_weights q_view_near q_view_behind q_view_ahead o4 x_sets_lowest x_sets_total o5 x_view_posts x_view_roads x_view_weight x_view_weights x_view_near x_view_behind o6 i1 v3 v7 o8 o9 o10 hv _) vf_X7_priceOf t_667 hP hD [7, 2, 3, 4, 5, 6, 8] rfl rfl rfl rfl ⟨(Nat.le_of_ble_eq_true rfl), (Nat.le_of_ble_eq_true rfl)⟩ rfl hl.1 rfl (Nat.le_of_ble_eq_true rfl) dX10_wall_23 ⟨Nat.zero_le _, Nat.zero_le _⟩) hA hP hD hS [7, 2, 3, 4, 5, 6, 8] [0, 1] [0, 1, 3, 4, 5, 6, 7, 2, 8] rfl rfl rfl rfl ?_
    clear hP hD hS
    intro H locs hP hD hS
    refine lv_goto (tgt := 31) hx hb dX10_wall_26 (by decide) ?_
    exact hret _ _ _ _ hf _ _ _ _ rfl dX10_wall_31 hP hD hS
theorem vf_X10_stone : VF yX10_stone cX10_stone 3 (some .int) 2 := ⟨t_672, t_673, t_1, t_674, by decide +kernel, by decide +kernel, by decide +kernel⟩
theorem dX10_stone_0 : decode cX10_stone 0 = .ok (.aload_n 0, 1) := by decide +kernel
theorem dX10_stone_1 : decode cX10_stone 1 = .ok (.iload_n 1, 1) := by decide +kernel
theorem dX10_stone_2 : decode cX10_stone 2 = .ok (.iload_n 2, 1) := by decide +kernel
theorem dX10_stone_3 : decode cX10_stone 3 = .ok (.invokevirtual 220, 3) := by decide +kernel
theorem dX10_stone_6 : decode cX10_stone 6 = .ok (.ifCond .eq 15, 3) := by decide +kernel
theorem dX10_stone_9 : decode cX10_stone 9 = .ok (.aload_n 0, 1) := by decide +kernel
theorem dX10_stone_10 : decode cX10_stone 10 = .ok (.getfield 68, 3) := by decide +kernel
theorem dX10_stone_13 : decode cX10_stone 13 = .ok (.iload_n 1, 1) := by decide +kernel
theorem dX10_stone_14 : decode cX10_stone 14 = .ok (.iload_n 2, 1) := by decide +kernel
theorem dX10_stone_15 : decode cX10_stone 15 = .ok (.invokevirtual 223, 3) := by decide +kernel
theorem dX10_stone_18 : decode cX10_stone 18 = .ok (.goto 5, 3) := by decide +kernel
theorem dX10_stone_21 : decode cX10_stone 21 = .ok (.bipush (-3), 2) := by decide +kernel
theorem dX10_stone_23 : decode cX10_stone 23 = .ok (.ireturn, 1) := by decide +kernel
noncomputable def f_X10_stone (x_net_posts : Int32) (x_view_posts : Int32) (x_view_weights : Nat → Int32) (x_view_near : Nat → Int32) (x_view_behind : Nat → Int32) (x_sets_solvedFor : Int32) (x_sets_pricedFor : Int32) (x_sets_prices : Nat → Int32) (i1 : Int32) (i2 : Int32) : Option (Int32 × Int32 × Int32 × (Nat → Int32)) :=
  (f_X10_isWall x_net_posts i1 i2).bind fun v1 =>
  if v1 = 0 then (some (((-3 : Int32), x_sets_solvedFor, x_sets_pricedFor, x_sets_prices))) else (b4 (f_X7_cheapest x_sets_solvedFor x_sets_pricedFor x_view_posts x_view_weights x_view_near x_view_behind x_sets_prices i1 i2) fun v3 o4 o5 o6 =>
  some ((v3, o4, o5, o6)))
set_option maxHeartbeats 4000000 in
set_option maxRecDepth 100000 in
theorem c_X10_stone (l : Launch) (dC : Nat → ClassId) (dI : Nat → Nat → Nat) (cI cZ cN : ClassId) (q_ : Nat) (q_net : Nat) (q_view : Nat) (q_history : Nat) (q_hand : Nat) (q_trial : Nat) (q_bags : Nat) (q_chase : Nat) (q_costs : Nat) (q_sets : Nat) (q_trials : Nat) (q_net_widths : Nat) (q_net_lengths : Nat) (q_net_told : Nat) (q_net_behind : Nat) (q_view_weights : Nat) (q_view_near : Nat) (q_view_behind : Nat) (q_view_ahead : Nat) (q_sets_prices : Nat) (q_sets_rests : Nat) (q_sets_ways : Nat) (x_net_posts : Int32) (x_net_pairs : Int32) (x_view_posts : Int32) (x_view_roads : Int32) (x_view_weight : Int32) (x_view_weights : Nat → Int32) (x_view_near : Nat → Int32) (x_view_behind : Nat → Int32) (x_sets_solvedFor : Int32) (x_sets_lowest : Int32) (x_sets_total : Int32) (x_sets_pricedFor : Int32) (x_sets_prices : Nat → Int32) (i1 i2 : Int32) (r : Int32) (o_sets_solvedFor : Int32) (o_sets_pricedFor : Int32) (o_sets_prices : Nat → Int32) (hf : f_X10_stone x_net_posts x_view_posts x_view_weights x_view_near x_view_behind x_sets_solvedFor x_sets_pricedFor x_sets_prices i1 i2 = some (r, o_sets_solvedFor, o_sets_pricedFor, o_sets_prices)) : CI l yX10_stone cX10_stone 3 (some .int) 7 182 (dC, dI) (TY cI cZ cN) [.ref q_, .int i1, .int i2] [(q_, .inr (9, [.ref q_net, .ref q_view, .ref q_history, .ref q_hand, .ref q_trial, .ref q_bags, .ref q_chase, .ref q_costs, .ref q_sets, .ref q_trials])), (q_net, .inr (4, [.int x_net_posts, .int x_net_pairs, .ref q_net_widths, .ref q_net_lengths, .ref q_net_told, .ref q_net_behind])), (q_view, .inr (8, [.int x_view_posts, .int x_view_roads, .int x_view_weight, .ref q_view_weights, .ref q_view_near, .ref q_view_behind, .ref q_view_ahead])), (q_view_weights, .inl (cI, 121, .inl x_view_weights)), (q_view_near, .inl (cI, 11, .inl x_view_near)), (q_view_behind, .inl (cI, 11, .inl x_view_behind)), (q_costs, .inr (2, [.ref q_view])), (q_sets, .inr (6, [.ref q_view, .ref q_costs, .int x_sets_solvedFor, .int x_sets_lowest, .int x_sets_total, .int x_sets_pricedFor, .ref q_sets_prices, .ref q_sets_rests, .ref q_sets_ways])), (q_sets_prices, .inl (cI, 2048, .inl x_sets_prices))] [(q_, .inr (9, [.ref q_net, .ref q_view, .ref q_history, .ref q_hand, .ref q_trial, .ref q_bags, .ref q_chase, .ref q_costs, .ref q_sets, .ref q_trials])), (q_net, .inr (4, [.int x_net_posts, .int x_net_pairs, .ref q_net_widths, .ref q_net_lengths, .ref q_net_told, .ref q_net_behind])), (q_view, .inr (8, [.int x_view_posts, .int x_view_roads, .int x_view_weight, .ref q_view_weights, .ref q_view_near, .ref q_view_behind, .ref q_view_ahead])), (q_view_weights, .inl (cI, 121, .inl x_view_weights)), (q_view_near, .inl (cI, 11, .inl x_view_near)), (q_view_behind, .inl (cI, 11, .inl x_view_behind)), (q_costs, .inr (2, [.ref q_view])), (q_sets, .inr (6, [.ref q_view, .ref q_costs, .int o_sets_solvedFor, .int x_sets_lowest, .int x_sets_total, .int o_sets_pricedFor, .ref q_sets_prices, .ref q_sets_rests, .ref q_sets_ways])), (q_sets_prices, .inl (cI, 2048, .inl o_sets_prices))] r := by
  refine CI.of rfl (by decide) (Nat.le_of_ble_eq_true rfl) ?_
  intro p e s m args below meth c Q A ls hx hb hml hown htb hK hN hA hP hD hS hl hret
  have hown : s.vm.findClass RX10 = some m.cls := hown
  have hl : lv_has ls 3 [(0, .ref q_), (1, .int i1), (2, .int i2)] := hl
  have hret : ∀ (r9 : Int32) (o9_sets_solvedFor : Int32) (o9_sets_pricedFor : Int32) (o9_sets_prices : Nat → Int32), some (r9, o9_sets_solvedFor, o9_sets_pricedFor, o9_sets_prices) = some (r, o_sets_solvedFor, o_sets_pricedFor, o_sets_prices) → ∀ (H : Heap) (locs : List Loc) (pc : Nat) (ls : Array Slot), narrow .int (.int r9) = .int r9 → decode cX10_stone pc = .ok (.ireturn, 1) → va_P (dC, dI) vwCl [(q_, .inr (9, [.ref q_net, .ref q_view, .ref q_history, .ref q_hand, .ref q_trial, .ref q_bags, .ref q_chase, .ref q_costs, .ref q_sets, .ref q_trials])), (q_net, .inr (4, [.int x_net_posts, .int x_net_pairs, .ref q_net_widths, .ref q_net_lengths, .ref q_net_told, .ref q_net_behind])), (q_view, .inr (8, [.int x_view_posts, .int x_view_roads, .int x_view_weight, .ref q_view_weights, .ref q_view_near, .ref q_view_behind, .ref q_view_ahead])), (q_view_weights, .inl (cI, 121, .inl x_view_weights)), (q_view_near, .inl (cI, 11, .inl x_view_near)), (q_view_behind, .inl (cI, 11, .inl x_view_behind)), (q_costs, .inr (2, [.ref q_view])), (q_sets, .inr (6, [.ref q_view, .ref q_costs, .int o9_sets_solvedFor, .int x_sets_lowest, .int x_sets_total, .int o9_sets_pricedFor, .ref q_sets_prices, .ref q_sets_rests, .ref q_sets_ways])), (q_sets_prices, .inl (cI, 2048, .inl o9_sets_prices))] H → va_D A [(q_, .inr (9, [.ref q_net, .ref q_view, .ref q_history, .ref q_hand, .ref q_trial, .ref q_bags, .ref q_chase, .ref q_costs, .ref q_sets, .ref q_trials])), (q_net, .inr (4, [.int x_net_posts, .int x_net_pairs, .ref q_net_widths, .ref q_net_lengths, .ref q_net_told, .ref q_net_behind])), (q_view, .inr (8, [.int x_view_posts, .int x_view_roads, .int x_view_weight, .ref q_view_weights, .ref q_view_near, .ref q_view_behind, .ref q_view_ahead])), (q_view_weights, .inl (cI, 121, .inl x_view_weights)), (q_view_near, .inl (cI, 11, .inl x_view_near)), (q_view_behind, .inl (cI, 11, .inl x_view_behind)), (q_costs, .inr (2, [.ref q_view])), (q_sets, .inr (6, [.ref q_view, .ref q_costs, .int o9_sets_solvedFor, .int x_sets_lowest, .int x_sets_total, .int o9_sets_pricedFor, .ref q_sets_prices, .ref q_sets_rests, .ref q_sets_ways])), (q_sets_prices, .inl (cI, 2048, .inl o9_sets_prices))] → va_S A s.heap H locs → W p l e (rmK 7 182) s m args below meth c H locs 0 0 Q (F0 m pc ls [.int r9]) := by
    intro r9 o9_sets_solvedFor o9_sets_pricedFor o9_sets_prices h9
    cases h9
    exact hret
  unfold f_X10_stone at hf
  refine lv_aload_n hx hb dX10_stone_0 rfl (lv_at hl 0 rfl) ?_
  refine lv_iload_n hx hb dX10_stone_1 rfl (lv_at hl 1 rfl) ?_
  refine lv_iload_n hx hb dX10_stone_2 rfl (lv_at hl 2 rfl) ?_
  obtain ⟨v1, hv, hf⟩ := ob hf
  refine k_afterI (wr := [(q_view, .inr (8, [.int x_view_posts, .int x_view_roads, .int x_view_weight, .ref q_view_weights, .ref q_view_near, .ref q_view_behind, .ref q_view_ahead])), (q_view_weights, .inl (cI, 121, .inl x_view_weights)), (q_view_near, .inl (cI, 11, .inl x_view_near)), (q_view_behind, .inl (cI, 11, .inl x_view_behind)), (q_costs, .inr (2, [.ref q_view])), (q_sets, .inr (6, [.ref q_view, .ref q_costs, .int x_sets_solvedFor, .int x_sets_lowest, .int x_sets_total, .int x_sets_pricedFor, .ref q_sets_prices, .ref q_sets_rests, .ref q_sets_ways])), (q_sets_prices, .inl (cI, 2048, .inl x_sets_prices))]) (wn := [(q_, .inr (9, [.ref q_net, .ref q_view, .ref q_history, .ref q_hand, .ref q_trial, .ref q_bags, .ref q_chase, .ref q_costs, .ref q_sets, .ref q_trials])), (q_net, .inr (4, [.int x_net_posts, .int x_net_pairs, .ref q_net_widths, .ref q_net_lengths, .ref q_net_told, .ref q_net_behind])), (q_view, .inr (8, [.int x_view_posts, .int x_view_roads, .int x_view_weight, .ref q_view_weights, .ref q_view_near, .ref q_view_behind, .ref q_view_ahead])), (q_view_weights, .inl (cI, 121, .inl x_view_weights)), (q_view_near, .inl (cI, 11, .inl x_view_near)), (q_view_behind, .inl (cI, 11, .inl x_view_behind)), (q_costs, .inr (2, [.ref q_view])), (q_sets, .inr (6, [.ref q_view, .ref q_costs, .int x_sets_solvedFor, .int x_sets_lowest, .int x_sets_total, .int x_sets_pricedFor, .ref q_sets_prices, .ref q_sets_rests, .ref q_sets_ways])), (q_sets_prices, .inl (cI, 2048, .inl x_sets_prices))]) (k_runV (rest := []) (ci := 9) (q0 := 0) hx hb hml hown htb hK hN (c_X10_isWall l dC dI cI cZ cN q_ q_net q_view q_history q_hand q_trial q_bags q_chase q_costs q_sets q_trials q_net_widths q_net_lengths q_net_told q_net_behind x_net_posts x_net_pairs i1 i2 v1 hv _) vf_X10_isWall t_658 hP hD [0, 1] rfl rfl rfl rfl ⟨(Nat.le_of_ble_eq_true rfl), (Nat.le_of_ble_eq_true rfl)⟩ rfl hl.1 rfl (Nat.le_of_ble_eq_true rfl) dX10_stone_3 ⟨Nat.zero_le _, Nat.zero_le _⟩) hA hP hD hS [0, 1] [2, 3, 4, 5, 6, 7, 8] [7, 8, 0, 1, 2, 3, 4, 5, 6] rfl rfl rfl rfl ?_
  clear hP hD hS
  intro H locs hP hD hS
  refine lv_if_eq (tgt := 21) hx hb dX10_stone_6 (by decide) (fun c2 => ?_) (fun c2 => ?_)
  · have hf := ip c2 hf
    refine lv_bipush (v := (-3 : Int32)) hx hb dX10_stone_21 (by decide) ?_
    exact hret _ _ _ _ hf _ _ _ _ rfl dX10_stone_23 hP hD hS
  · have hf := im c2 hf
    refine lv_aload_n hx hb dX10_stone_9 rfl (lv_at hl 0 rfl) ?_
    refine va_get (D := (dC, dI)) (ci := 9) (v := .ref q_sets) (C := RX10) (T := TX10) (N := 10) hx hb htb inX10 hown hK hP 0 rfl rfl 8 (Nat.le_of_ble_eq_true rfl) (htb _ t_286) (fun _ h9 => h9) rfl dX10_stone_10 ?_
    refine lv_iload_n hx hb dX10_stone_13 rfl (lv_at hl 1 rfl) ?_
    refine lv_iload_n hx hb dX10_stone_14 rfl (lv_at hl 2 rfl) ?_
    obtain ⟨v3, o4, o5, o6, hv, hf⟩ := ob4 hf
    refine k_afterI (wr := [(q_, .inr (9, [.ref q_net, .ref q_view, .ref q_history, .ref q_hand, .ref q_trial, .ref q_bags, .ref q_chase, .ref q_costs, .ref q_sets, .ref q_trials])), (q_net, .inr (4, [.int x_net_posts, .int x_net_pairs, .ref q_net_widths, .ref q_net_lengths, .ref q_net_told, .ref q_net_behind]))]) (wn := [(q_, .inr (9, [.ref q_net, .ref q_view, .ref q_history, .ref q_hand, .ref q_trial, .ref q_bags, .ref q_chase, .ref q_costs, .ref q_sets, .ref q_trials])), (q_net, .inr (4, [.int x_net_posts, .int x_net_pairs, .ref q_net_widths, .ref q_net_lengths, .ref q_net_told, .ref q_net_behind])), (q_view, .inr (8, [.int x_view_posts, .int x_view_roads, .int x_view_weight, .ref q_view_weights, .ref q_view_near, .ref q_view_behind, .ref q_view_ahead])), (q_view_weights, .inl (cI, 121, .inl x_view_weights)), (q_view_near, .inl (cI, 11, .inl x_view_near)), (q_view_behind, .inl (cI, 11, .inl x_view_behind)), (q_costs, .inr (2, [.ref q_view])), (q_sets, .inr (6, [.ref q_view, .ref q_costs, .int o4, .int x_sets_lowest, .int x_sets_total, .int o5, .ref q_sets_prices, .ref q_sets_rests, .ref q_sets_ways])), (q_sets_prices, .inl (cI, 2048, .inl o6))]) (k_runV (rest := []) (ci := 6) (q0 := 7) hx hb hml hown htb hK hN (c_X7_cheapest l dC dI cI cZ cN q_sets q_view q_costs q_sets_prices q_sets_rests q_sets_ways q_view_weights q_view_near q_view_behind q_view_ahead x_sets_solvedFor x_sets_lowest x_sets_total x_sets_pricedFor x_view_posts x_view_roads x_view_weight x_view_weights x_view_near x_view_behind x_sets_prices i1 i2 v3 o4 o5 o6 hv _) vf_X7_cheapest t_662 hP hD [7, 2, 3, 4, 5, 6, 8] rfl rfl rfl rfl ⟨(Nat.le_of_ble_eq_true rfl), (Nat.le_of_ble_eq_true rfl)⟩ rfl hl.1 rfl (Nat.le_of_ble_eq_true rfl) dX10_stone_15 ⟨Nat.zero_le _, Nat.zero_le _⟩) hA hP hD hS [7, 2, 3, 4, 5, 6, 8] [0, 1] [0, 1, 3, 4, 5, 6, 7, 2, 8] rfl rfl rfl rfl ?_
    clear hP hD hS
    intro H locs hP hD hS
    refine lv_goto (tgt := 23) hx hb dX10_stone_18 (by decide) ?_
    exact hret _ _ _ _ hf _ _ _ _ rfl dX10_stone_23 hP hD hS
theorem vf_X10_bag : VF yX10_bag cX10_bag 2 (some .int) 1 := ⟨t_676, t_677, t_1, t_678, by decide +kernel, by decide +kernel, by decide +kernel⟩
theorem dX10_bag_0 : decode cX10_bag 0 = .ok (.iload_n 1, 1) := by decide +kernel
theorem dX10_bag_1 : decode cX10_bag 1 = .ok (.ifCond .lt 14, 3) := by decide +kernel
theorem dX10_bag_4 : decode cX10_bag 4 = .ok (.iload_n 1, 1) := by decide +kernel
theorem dX10_bag_5 : decode cX10_bag 5 = .ok (.aload_n 0, 1) := by decide +kernel
theorem dX10_bag_6 : decode cX10_bag 6 = .ok (.getfield 12, 3) := by decide +kernel
theorem dX10_bag_9 : decode cX10_bag 9 = .ok (.getfield 79, 3) := by decide +kernel
theorem dX10_bag_12 : decode cX10_bag 12 = .ok (.if_icmp .lt 6, 3) := by decide +kernel
theorem dX10_bag_15 : decode cX10_bag 15 = .ok (.bipush (-3), 2) := by decide +kernel
theorem dX10_bag_17 : decode cX10_bag 17 = .ok (.ireturn, 1) := by decide +kernel
theorem dX10_bag_18 : decode cX10_bag 18 = .ok (.aload_n 0, 1) := by decide +kernel
theorem dX10_bag_19 : decode cX10_bag 19 = .ok (.getfield 33, 3) := by decide +kernel
theorem dX10_bag_22 : decode cX10_bag 22 = .ok (.aload_n 0, 1) := by decide +kernel
theorem dX10_bag_23 : decode cX10_bag 23 = .ok (.getfield 12, 3) := by decide +kernel
theorem dX10_bag_26 : decode cX10_bag 26 = .ok (.getfield 79, 3) := by decide +kernel
theorem dX10_bag_29 : decode cX10_bag 29 = .ok (.invokevirtual 177, 3) := by decide +kernel
theorem dX10_bag_32 : decode cX10_bag 32 = .ok (.ifCond .ne 6, 3) := by decide +kernel
theorem dX10_bag_35 : decode cX10_bag 35 = .ok (.bipush (-4), 2) := by decide +kernel
theorem dX10_bag_37 : decode cX10_bag 37 = .ok (.ireturn, 1) := by decide +kernel
theorem dX10_bag_38 : decode cX10_bag 38 = .ok (.aload_n 0, 1) := by decide +kernel
theorem dX10_bag_39 : decode cX10_bag 39 = .ok (.getfield 59, 3) := by decide +kernel
theorem dX10_bag_42 : decode cX10_bag 42 = .ok (.aload_n 0, 1) := by decide +kernel
theorem dX10_bag_43 : decode cX10_bag 43 = .ok (.getfield 33, 3) := by decide +kernel
theorem dX10_bag_46 : decode cX10_bag 46 = .ok (.iload_n 1, 1) := by decide +kernel
theorem dX10_bag_47 : decode cX10_bag 47 = .ok (.invokevirtual 229, 3) := by decide +kernel
theorem dX10_bag_50 : decode cX10_bag 50 = .ok (.ireturn, 1) := by decide +kernel
noncomputable def f_X10_bag (x_net_posts : Int32) (x_view_posts : Int32) (x_view_near : Nat → Int32) (x_hand_size : Int32) (x_hand_posts : Nat → Int32) (i1 : Int32) : Option (Int32) :=
  if i1 < 0 then (some ((-3 : Int32))) else (if i1 < x_net_posts then ((f_X5_isWhole x_hand_size x_hand_posts x_net_posts).bind fun v3 =>
  if v3 = 0 then (some ((-4 : Int32))) else ((f_X2_bagOf x_view_posts x_view_near x_hand_posts i1).bind fun v5 =>
  some (v5))) else (some ((-3 : Int32))))
set_option maxHeartbeats 4000000 in
set_option maxRecDepth 100000 in
theorem c_X10_bag (l : Launch) (dC : Nat → ClassId) (dI : Nat → Nat → Nat) (cI cZ cN : ClassId) (q_ : Nat) (q_net : Nat) (q_view : Nat) (q_history : Nat) (q_hand : Nat) (q_trial : Nat) (q_bags : Nat) (q_chase : Nat) (q_costs : Nat) (q_sets : Nat) (q_trials : Nat) (q_net_widths : Nat) (q_net_lengths : Nat) (q_net_told : Nat) (q_net_behind : Nat) (q_view_weights : Nat) (q_view_near : Nat) (q_view_behind : Nat) (q_view_ahead : Nat) (q_hand_posts : Nat) (x_net_posts : Int32) (x_net_pairs : Int32) (x_view_posts : Int32) (x_view_roads : Int32) (x_view_weight : Int32) (x_view_near : Nat → Int32) (x_hand_size : Int32) (x_hand_posts : Nat → Int32) (i1 : Int32) (r : Int32) (hf : f_X10_bag x_net_posts x_view_posts x_view_near x_hand_size x_hand_posts i1 = some r) : CI l yX10_bag cX10_bag 2 (some .int) 5 129 (dC, dI) (TY cI cZ cN) [.ref q_, .int i1] [(q_, .inr (9, [.ref q_net, .ref q_view, .ref q_history, .ref q_hand, .ref q_trial, .ref q_bags, .ref q_chase, .ref q_costs, .ref q_sets, .ref q_trials])), (q_net, .inr (4, [.int x_net_posts, .int x_net_pairs, .ref q_net_widths, .ref q_net_lengths, .ref q_net_told, .ref q_net_behind])), (q_view, .inr (8, [.int x_view_posts, .int x_view_roads, .int x_view_weight, .ref q_view_weights, .ref q_view_near, .ref q_view_behind, .ref q_view_ahead])), (q_view_near, .inl (cI, 11, .inl x_view_near)), (q_hand, .inr (5, [.ref q_hand_posts, .int x_hand_size])), (q_hand_posts, .inl (cI, 11, .inl x_hand_posts)), (q_costs, .inr (2, [.ref q_view]))] [(q_, .inr (9, [.ref q_net, .ref q_view, .ref q_history, .ref q_hand, .ref q_trial, .ref q_bags, .ref q_chase, .ref q_costs, .ref q_sets, .ref q_trials])), (q_net, .inr (4, [.int x_net_posts, .int x_net_pairs, .ref q_net_widths, .ref q_net_lengths, .ref q_net_told, .ref q_net_behind])), (q_view, .inr (8, [.int x_view_posts, .int x_view_roads, .int x_view_weight, .ref q_view_weights, .ref q_view_near, .ref q_view_behind, .ref q_view_ahead])), (q_view_near, .inl (cI, 11, .inl x_view_near)), (q_hand, .inr (5, [.ref q_hand_posts, .int x_hand_size])), (q_hand_posts, .inl (cI, 11, .inl x_hand_posts)), (q_costs, .inr (2, [.ref q_view]))] r := by
  refine CI.of rfl (by decide) (Nat.le_of_ble_eq_true rfl) ?_
  intro p e s m args below meth c Q A ls hx hb hml hown htb hK hN hA hP hD hS hl hret
  have hown : s.vm.findClass RX10 = some m.cls := hown
  have hl : lv_has ls 2 [(0, .ref q_), (1, .int i1)] := hl
  have hret : ∀ (r9 : Int32), some r9 = some r → ∀ (H : Heap) (locs : List Loc) (pc : Nat) (ls : Array Slot), narrow .int (.int r9) = .int r9 → decode cX10_bag pc = .ok (.ireturn, 1) → va_P (dC, dI) vwCl [(q_, .inr (9, [.ref q_net, .ref q_view, .ref q_history, .ref q_hand, .ref q_trial, .ref q_bags, .ref q_chase, .ref q_costs, .ref q_sets, .ref q_trials])), (q_net, .inr (4, [.int x_net_posts, .int x_net_pairs, .ref q_net_widths, .ref q_net_lengths, .ref q_net_told, .ref q_net_behind])), (q_view, .inr (8, [.int x_view_posts, .int x_view_roads, .int x_view_weight, .ref q_view_weights, .ref q_view_near, .ref q_view_behind, .ref q_view_ahead])), (q_view_near, .inl (cI, 11, .inl x_view_near)), (q_hand, .inr (5, [.ref q_hand_posts, .int x_hand_size])), (q_hand_posts, .inl (cI, 11, .inl x_hand_posts)), (q_costs, .inr (2, [.ref q_view]))] H → va_D A [(q_, .inr (9, [.ref q_net, .ref q_view, .ref q_history, .ref q_hand, .ref q_trial, .ref q_bags, .ref q_chase, .ref q_costs, .ref q_sets, .ref q_trials])), (q_net, .inr (4, [.int x_net_posts, .int x_net_pairs, .ref q_net_widths, .ref q_net_lengths, .ref q_net_told, .ref q_net_behind])), (q_view, .inr (8, [.int x_view_posts, .int x_view_roads, .int x_view_weight, .ref q_view_weights, .ref q_view_near, .ref q_view_behind, .ref q_view_ahead])), (q_view_near, .inl (cI, 11, .inl x_view_near)), (q_hand, .inr (5, [.ref q_hand_posts, .int x_hand_size])), (q_hand_posts, .inl (cI, 11, .inl x_hand_posts)), (q_costs, .inr (2, [.ref q_view]))] → va_S A s.heap H locs → W p l e (rmK 5 129) s m args below meth c H locs 0 0 Q (F0 m pc ls [.int r9]) := by
    intro r9 h9
    cases h9
    exact hret
  unfold f_X10_bag at hf
  refine lv_iload_n hx hb dX10_bag_0 rfl (lv_at hl 1 rfl) ?_
  refine lv_if_lt (tgt := 15) hx hb dX10_bag_1 (by decide) (fun c1 => ?_) (fun c1 => ?_)
  · have hf := ip c1 hf
    refine lv_bipush (v := (-3 : Int32)) hx hb dX10_bag_15 (by decide) ?_
    exact hret _ hf _ _ _ _ rfl dX10_bag_17 hP hD hS
  · have hf := im c1 hf
    refine lv_iload_n hx hb dX10_bag_4 rfl (lv_at hl 1 rfl) ?_
    refine lv_aload_n hx hb dX10_bag_5 rfl (lv_at hl 0 rfl) ?_
    refine va_get (D := (dC, dI)) (ci := 9) (v := .ref q_net) (C := RX10) (T := TX10) (N := 10) hx hb htb inX10 hown hK hP 0 rfl rfl 0 (Nat.le_of_ble_eq_true rfl) (htb _ t_278) (fun _ h9 => h9) rfl dX10_bag_6 ?_
    refine va_get (D := (dC, dI)) (ci := 4) (v := .int x_net_posts) (C := RX4) (T := TX4) (N := 6) hx hb htb inX4 hown hK hP 1 rfl rfl 0 (Nat.le_of_ble_eq_true rfl) (htb _ t_35) (fun _ h9 => h9) rfl dX10_bag_9 ?_
    refine lv_icmp_lt (tgt := 18) hx hb dX10_bag_12 (by decide) (fun c2 => ?_) (fun c2 => ?_)
    · have hf := ip c2 hf
      refine lv_aload_n hx hb dX10_bag_18 rfl (lv_at hl 0 rfl) ?_
      refine va_get (D := (dC, dI)) (ci := 9) (v := .ref q_hand) (C := RX10) (T := TX10) (N := 10) hx hb htb inX10 hown hK hP 0 rfl rfl 3 (Nat.le_of_ble_eq_true rfl) (htb _ t_281) (fun _ h9 => h9) rfl dX10_bag_19 ?_
      refine lv_aload_n hx hb dX10_bag_22 rfl (lv_at hl 0 rfl) ?_
      refine va_get (D := (dC, dI)) (ci := 9) (v := .ref q_net) (C := RX10) (T := TX10) (N := 10) hx hb htb inX10 hown hK hP 0 rfl rfl 0 (Nat.le_of_ble_eq_true rfl) (htb _ t_278) (fun _ h9 => h9) rfl dX10_bag_23 ?_
      refine va_get (D := (dC, dI)) (ci := 4) (v := .int x_net_posts) (C := RX4) (T := TX4) (N := 6) hx hb htb inX4 hown hK hP 1 rfl rfl 0 (Nat.le_of_ble_eq_true rfl) (htb _ t_35) (fun _ h9 => h9) rfl dX10_bag_26 ?_
      obtain ⟨v3, hv, hf⟩ := ob hf
      refine k_afterI (wr := [(q_, .inr (9, [.ref q_net, .ref q_view, .ref q_history, .ref q_hand, .ref q_trial, .ref q_bags, .ref q_chase, .ref q_costs, .ref q_sets, .ref q_trials])), (q_net, .inr (4, [.int x_net_posts, .int x_net_pairs, .ref q_net_widths, .ref q_net_lengths, .ref q_net_told, .ref q_net_behind])), (q_view, .inr (8, [.int x_view_posts, .int x_view_roads, .int x_view_weight, .ref q_view_weights, .ref q_view_near, .ref q_view_behind, .ref q_view_ahead])), (q_view_near, .inl (cI, 11, .inl x_view_near)), (q_costs, .inr (2, [.ref q_view]))]) (wn := [(q_, .inr (9, [.ref q_net, .ref q_view, .ref q_history, .ref q_hand, .ref q_trial, .ref q_bags, .ref q_chase, .ref q_costs, .ref q_sets, .ref q_trials])), (q_net, .inr (4, [.int x_net_posts, .int x_net_pairs, .ref q_net_widths, .ref q_net_lengths, .ref q_net_told, .ref q_net_behind])), (q_view, .inr (8, [.int x_view_posts, .int x_view_roads, .int x_view_weight, .ref q_view_weights, .ref q_view_near, .ref q_view_behind, .ref q_view_ahead])), (q_view_near, .inl (cI, 11, .inl x_view_near)), (q_hand, .inr (5, [.ref q_hand_posts, .int x_hand_size])), (q_hand_posts, .inl (cI, 11, .inl x_hand_posts)), (q_costs, .inr (2, [.ref q_view]))]) (k_runV (rest := []) (ci := 5) (q0 := 4) hx hb hml hown htb hK hN (c_X5_isWhole l dC dI cI cZ cN q_hand q_hand_posts x_hand_size x_hand_posts x_net_posts v3 hv _) vf_X5_isWhole t_466 hP hD [4, 5] rfl rfl rfl rfl ⟨(Nat.le_of_ble_eq_true rfl), (Nat.le_of_ble_eq_true rfl)⟩ rfl hl.1 rfl (Nat.le_of_ble_eq_true rfl) dX10_bag_29 ⟨Nat.zero_le _, Nat.zero_le _⟩) hA hP hD hS [4, 5] [0, 1, 2, 3, 6] [0, 1, 2, 3, 5, 6, 4] rfl rfl rfl rfl ?_
      clear hP hD hS
      intro H locs hP hD hS
      refine lv_if_ne (tgt := 38) hx hb dX10_bag_32 (by decide) (fun c4 => ?_) (fun c4 => ?_)
      · have hf := im c4 hf
        refine lv_aload_n hx hb dX10_bag_38 rfl (lv_at hl 0 rfl) ?_
        refine va_get (D := (dC, dI)) (ci := 9) (v := .ref q_costs) (C := RX10) (T := TX10) (N := 10) hx hb htb inX10 hown hK hP 0 rfl rfl 7 (Nat.le_of_ble_eq_true rfl) (htb _ t_285) (fun _ h9 => h9) rfl dX10_bag_39 ?_
        refine lv_aload_n hx hb dX10_bag_42 rfl (lv_at hl 0 rfl) ?_
        refine va_get (D := (dC, dI)) (ci := 9) (v := .ref q_hand) (C := RX10) (T := TX10) (N := 10) hx hb htb inX10 hown hK hP 0 rfl rfl 3 (Nat.le_of_ble_eq_true rfl) (htb _ t_281) (fun _ h9 => h9) rfl dX10_bag_43 ?_
        refine lv_iload_n hx hb dX10_bag_46 rfl (lv_at hl 1 rfl) ?_
        obtain ⟨v5, hv, hf⟩ := ob hf
        refine k_afterI (wr := [(q_, .inr (9, [.ref q_net, .ref q_view, .ref q_history, .ref q_hand, .ref q_trial, .ref q_bags, .ref q_chase, .ref q_costs, .ref q_sets, .ref q_trials])), (q_net, .inr (4, [.int x_net_posts, .int x_net_pairs, .ref q_net_widths, .ref q_net_lengths, .ref q_net_told, .ref q_net_behind]))]) (wn := [(q_, .inr (9, [.ref q_net, .ref q_view, .ref q_history, .ref q_hand, .ref q_trial, .ref q_bags, .ref q_chase, .ref q_costs, .ref q_sets, .ref q_trials])), (q_net, .inr (4, [.int x_net_posts, .int x_net_pairs, .ref q_net_widths, .ref q_net_lengths, .ref q_net_told, .ref q_net_behind])), (q_view, .inr (8, [.int x_view_posts, .int x_view_roads, .int x_view_weight, .ref q_view_weights, .ref q_view_near, .ref q_view_behind, .ref q_view_ahead])), (q_view_near, .inl (cI, 11, .inl x_view_near)), (q_hand, .inr (5, [.ref q_hand_posts, .int x_hand_size])), (q_hand_posts, .inl (cI, 11, .inl x_hand_posts)), (q_costs, .inr (2, [.ref q_view]))]) (k_runV (rest := []) (ci := 2) (q0 := 6) hx hb hml hown htb hK hN (c_X2_bagOf l dC dI cI cZ cN q_costs q_view q_view_weights q_view_near q_view_behind q_view_ahead q_hand q_hand_posts x_view_posts x_view_roads x_view_weight x_view_near x_hand_size x_hand_posts i1 v5 hv _) vf_X2_bagOf t_679 hP hD [6, 2, 3, 4, 5] rfl rfl rfl rfl ⟨(Nat.le_of_ble_eq_true rfl), (Nat.le_of_ble_eq_true rfl)⟩ rfl hl.1 rfl (Nat.le_of_ble_eq_true rfl) dX10_bag_47 ⟨Nat.zero_le _, Nat.zero_le _⟩) hA hP hD hS [6, 2, 3, 4, 5] [0, 1] [0, 1, 3, 4, 5, 6, 2] rfl rfl rfl rfl ?_
        clear hP hD hS
        intro H locs hP hD hS
        exact hret _ hf _ _ _ _ rfl dX10_bag_50 hP hD hS
      · have hf := ip c4 hf
        refine lv_bipush (v := (-4 : Int32)) hx hb dX10_bag_35 (by decide) ?_
        exact hret _ hf _ _ _ _ rfl dX10_bag_37 hP hD hS
    · have hf := im c2 hf
      refine lv_bipush (v := (-3 : Int32)) hx hb dX10_bag_15 (by decide) ?_
      exact hret _ hf _ _ _ _ rfl dX10_bag_17 hP hD hS
