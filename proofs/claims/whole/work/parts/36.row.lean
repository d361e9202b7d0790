theorem vf_X10_road : VF yX10_road cX10_road 3 (some .int) 2 := ⟨t_401, t_402, t_1, t_403, by decide +kernel, by decide +kernel, by decide +kernel⟩
theorem dX10_road_0 : decode cX10_road 0 = .ok (.aload_n 0, 1) := by decide +kernel
theorem dX10_road_1 : decode cX10_road 1 = .ok (.getfield 12, 3) := by decide +kernel
theorem dX10_road_4 : decode cX10_road 4 = .ok (.iload_n 1, 1) := by decide +kernel
theorem dX10_road_5 : decode cX10_road 5 = .ok (.iload_n 2, 1) := by decide +kernel
theorem dX10_road_6 : decode cX10_road 6 = .ok (.invokevirtual 121, 3) := by decide +kernel
theorem dX10_road_9 : decode cX10_road 9 = .ok (.ifCond .ne 6, 3) := by decide +kernel
theorem dX10_road_12 : decode cX10_road 12 = .ok (.bipush (-3), 2) := by decide +kernel
theorem dX10_road_14 : decode cX10_road 14 = .ok (.ireturn, 1) := by decide +kernel
theorem dX10_road_15 : decode cX10_road 15 = .ok (.aload_n 0, 1) := by decide +kernel
theorem dX10_road_16 : decode cX10_road 16 = .ok (.getfield 19, 3) := by decide +kernel
theorem dX10_road_19 : decode cX10_road 19 = .ok (.iload_n 1, 1) := by decide +kernel
theorem dX10_road_20 : decode cX10_road 20 = .ok (.iload_n 2, 1) := by decide +kernel
theorem dX10_road_21 : decode cX10_road 21 = .ok (.invokevirtual 137, 3) := by decide +kernel
theorem dX10_road_24 : decode cX10_road 24 = .ok (.ireturn, 1) := by decide +kernel
noncomputable def f_X10_road (x_net_posts : Int32) (x_view_weights : Nat → Int32) (i1 : Int32) (i2 : Int32) : Option (Int32) :=
  (f_X4_hasBoth x_net_posts i1 i2).bind fun v1 =>
  if v1 = 0 then (some ((-3 : Int32))) else ((f_X9_weightOf x_view_weights i1 i2).bind fun v3 =>
  some (v3))
set_option maxHeartbeats 4000000 in
set_option maxRecDepth 100000 in
theorem c_X10_road (l : Launch) (dC : Nat → ClassId) (dI : Nat → Nat → Nat) (cI cZ cN : ClassId) (q_ : Nat) (q_net : Nat) (q_view : Nat) (q_history : Nat) (q_hand : Nat) (q_trial : Nat) (q_bags : Nat) (q_chase : Nat) (q_costs : Nat) (q_sets : Nat) (q_trials : Nat) (q_net_widths : Nat) (q_net_lengths : Nat) (q_net_told : Nat) (q_net_behind : Nat) (q_view_weights : Nat) (q_view_near : Nat) (q_view_behind : Nat) (q_view_ahead : Nat) (x_net_posts : Int32) (x_net_pairs : Int32) (x_view_posts : Int32) (x_view_roads : Int32) (x_view_weight : Int32) (x_view_weights : Nat → Int32) (i1 i2 : Int32) (r : Int32) (hf : f_X10_road x_net_posts x_view_weights i1 i2 = some r) : CI l yX10_road cX10_road 3 (some .int) 4 103 (dC, dI) (TY cI cZ cN) [.ref q_, .int i1, .int i2] [(q_, .inr (9, [.ref q_net, .ref q_view, .ref q_history, .ref q_hand, .ref q_trial, .ref q_bags, .ref q_chase, .ref q_costs, .ref q_sets, .ref q_trials])), (q_net, .inr (4, [.int x_net_posts, .int x_net_pairs, .ref q_net_widths, .ref q_net_lengths, .ref q_net_told, .ref q_net_behind])), (q_view, .inr (8, [.int x_view_posts, .int x_view_roads, .int x_view_weight, .ref q_view_weights, .ref q_view_near, .ref q_view_behind, .ref q_view_ahead])), (q_view_weights, .inl (cI, 121, .inl x_view_weights))] [(q_, .inr (9, [.ref q_net, .ref q_view, .ref q_history, .ref q_hand, .ref q_trial, .ref q_bags, .ref q_chase, .ref q_costs, .ref q_sets, .ref q_trials])), (q_net, .inr (4, [.int x_net_posts, .int x_net_pairs, .ref q_net_widths, .ref q_net_lengths, .ref q_net_told, .ref q_net_behind])), (q_view, .inr (8, [.int x_view_posts, .int x_view_roads, .int x_view_weight, .ref q_view_weights, .ref q_view_near, .ref q_view_behind, .ref q_view_ahead])), (q_view_weights, .inl (cI, 121, .inl x_view_weights))] r := by
  refine CI.of rfl (by decide) (Nat.le_of_ble_eq_true rfl) ?_
  intro p e s m args below meth c Q A ls hx hb hml hown htb hK hN hA hP hD hS hl hret
  have hown : s.vm.findClass RX10 = some m.cls := hown
  have hl : lv_has ls 3 [(0, .ref q_), (1, .int i1), (2, .int i2)] := hl
  have hret : ∀ (r9 : Int32), some r9 = some r → ∀ (H : Heap) (locs : List Loc) (pc : Nat) (ls : Array Slot), narrow .int (.int r9) = .int r9 → decode cX10_road pc = .ok (.ireturn, 1) → va_P (dC, dI) vwCl [(q_, .inr (9, [.ref q_net, .ref q_view, .ref q_history, .ref q_hand, .ref q_trial, .ref q_bags, .ref q_chase, .ref q_costs, .ref q_sets, .ref q_trials])), (q_net, .inr (4, [.int x_net_posts, .int x_net_pairs, .ref q_net_widths, .ref q_net_lengths, .ref q_net_told, .ref q_net_behind])), (q_view, .inr (8, [.int x_view_posts, .int x_view_roads, .int x_view_weight, .ref q_view_weights, .ref q_view_near, .ref q_view_behind, .ref q_view_ahead])), (q_view_weights, .inl (cI, 121, .inl x_view_weights))] H → va_D A [(q_, .inr (9, [.ref q_net, .ref q_view, .ref q_history, .ref q_hand, .ref q_trial, .ref q_bags, .ref q_chase, .ref q_costs, .ref q_sets, .ref q_trials])), (q_net, .inr (4, [.int x_net_posts, .int x_net_pairs, .ref q_net_widths, .ref q_net_lengths, .ref q_net_told, .ref q_net_behind])), (q_view, .inr (8, [.int x_view_posts, .int x_view_roads, .int x_view_weight, .ref q_view_weights, .ref q_view_near, .ref q_view_behind, .ref q_view_ahead])), (q_view_weights, .inl (cI, 121, .inl x_view_weights))] → va_S A s.heap H locs → W p l e (rmK 4 103) s m args below meth c H locs 0 0 Q (F0 m pc ls [.int r9]) := by
    intro r9 h9
    cases h9
    exact hret
  unfold f_X10_road at hf
  refine lv_aload_n hx hb dX10_road_0 rfl (lv_at hl 0 rfl) ?_
  refine va_get (D := (dC, dI)) (ci := 9) (v := .ref q_net) (C := RX10) (T := TX10) (N := 10) hx hb htb inX10 hown hK hP 0 rfl rfl 0 (Nat.le_of_ble_eq_true rfl) (htb _ t_278) (fun _ h9 => h9) rfl dX10_road_1 ?_
  refine lv_iload_n hx hb dX10_road_4 rfl (lv_at hl 1 rfl) ?_
  refine lv_iload_n hx hb dX10_road_5 rfl (lv_at hl 2 rfl) ?_
  obtain ⟨v1, hv, hf⟩ := ob hf
  refine k_afterI (wr := [(q_, .inr (9, [.ref q_net, .ref q_view, .ref q_history, .ref q_hand, .ref q_trial, .ref q_bags, .ref q_chase, .ref q_costs, .ref q_sets, .ref q_trials])), (q_view, .inr (8, [.int x_view_posts, .int x_view_roads, .int x_view_weight, .ref q_view_weights, .ref q_view_near, .ref q_view_behind, .ref q_view_ahead])), (q_view_weights, .inl (cI, 121, .inl x_view_weights))]) (wn := [(q_, .inr (9, [.ref q_net, .ref q_view, .ref q_history, .ref q_hand, .ref q_trial, .ref q_bags, .ref q_chase, .ref q_costs, .ref q_sets, .ref q_trials])), (q_net, .inr (4, [.int x_net_posts, .int x_net_pairs, .ref q_net_widths, .ref q_net_lengths, .ref q_net_told, .ref q_net_behind])), (q_view, .inr (8, [.int x_view_posts, .int x_view_roads, .int x_view_weight, .ref q_view_weights, .ref q_view_near, .ref q_view_behind, .ref q_view_ahead])), (q_view_weights, .inl (cI, 121, .inl x_view_weights))]) (k_runV (rest := []) (ci := 4) (q0 := 1) hx hb hml hown htb hK hN (c_X4_hasBoth l dC dI cI cZ cN q_net q_net_widths q_net_lengths q_net_told q_net_behind x_net_posts x_net_pairs i1 i2 v1 hv _) vf_X4_hasBoth t_385 hP hD [1] rfl rfl rfl rfl ⟨(Nat.le_of_ble_eq_true rfl), (Nat.le_of_ble_eq_true rfl)⟩ rfl hl.1 rfl (Nat.le_of_ble_eq_true rfl) dX10_road_6 ⟨Nat.zero_le _, Nat.zero_le _⟩) hA hP hD hS [1] [0, 2, 3] [0, 3, 1, 2] rfl rfl rfl rfl ?_
  clear hP hD hS
  intro H locs hP hD hS
  refine lv_if_ne (tgt := 15) hx hb dX10_road_9 (by decide) (fun c2 => ?_) (fun c2 => ?_)
  · have hf := im c2 hf
    refine lv_aload_n hx hb dX10_road_15 rfl (lv_at hl 0 rfl) ?_
    refine va_get (D := (dC, dI)) (ci := 9) (v := .ref q_view) (C := RX10) (T := TX10) (N := 10) hx hb htb inX10 hown hK hP 0 rfl rfl 1 (Nat.le_of_ble_eq_true rfl) (htb _ t_279) (fun _ h9 => h9) rfl dX10_road_16 ?_
    refine lv_iload_n hx hb dX10_road_19 rfl (lv_at hl 1 rfl) ?_
    refine lv_iload_n hx hb dX10_road_20 rfl (lv_at hl 2 rfl) ?_
    obtain ⟨v3, hv, hf⟩ := ob hf
    refine k_afterI (wr := [(q_, .inr (9, [.ref q_net, .ref q_view, .ref q_history, .ref q_hand, .ref q_trial, .ref q_bags, .ref q_chase, .ref q_costs, .ref q_sets, .ref q_trials])), (q_net, .inr (4, [.int x_net_posts, .int x_net_pairs, .ref q_net_widths, .ref q_net_lengths, .ref q_net_told, .ref q_net_behind]))]) (wn := [(q_, .inr (9, [.ref q_net, .ref q_view, .ref q_history, .ref q_hand, .ref q_trial, .ref q_bags, .ref q_chase, .ref q_costs, .ref q_sets, .ref q_trials])), (q_net, .inr (4, [.int x_net_posts, .int x_net_pairs, .ref q_net_widths, .ref q_net_lengths, .ref q_net_told, .ref q_net_behind])), (q_view, .inr (8, [.int x_view_posts, .int x_view_roads, .int x_view_weight, .ref q_view_weights, .ref q_view_near, .ref q_view_behind, .ref q_view_ahead])), (q_view_weights, .inl (cI, 121, .inl x_view_weights))]) (k_runV (rest := []) (ci := 8) (q0 := 2) hx hb hml hown htb hK hN (c_X9_weightOf l dC dI cI cZ cN q_view q_view_weights q_view_near q_view_behind q_view_ahead x_view_posts x_view_roads x_view_weight x_view_weights i1 i2 v3 hv _) vf_X9_weightOf t_404 hP hD [2, 3] rfl rfl rfl rfl ⟨(Nat.le_of_ble_eq_true rfl), (Nat.le_of_ble_eq_true rfl)⟩ rfl hl.1 rfl (Nat.le_of_ble_eq_true rfl) dX10_road_21 ⟨Nat.zero_le _, Nat.zero_le _⟩) hA hP hD hS [2, 3] [0, 1] [0, 1, 2, 3] rfl rfl rfl rfl ?_
    clear hP hD hS
    intro H locs hP hD hS
    exact hret _ hf _ _ _ _ rfl dX10_road_24 hP hD hS
  · have hf := ip c2 hf
    refine lv_bipush (v := (-3 : Int32)) hx hb dX10_road_12 (by decide) ?_
    exact hret _ hf _ _ _ _ rfl dX10_road_14 hP hD hS
theorem vf_X10_about : VF yX10_about cX10_about 3 (some .int) 2 := ⟨t_409, t_410, t_1, t_411, by decide +kernel, by decide +kernel, by decide +kernel⟩
theorem dX10_about_0 : decode cX10_about 0 = .ok (.aload_n 0, 1) := by decide +kernel
theorem dX10_about_1 : decode cX10_about 1 = .ok (.getfield 12, 3) := by decide +kernel
theorem dX10_about_4 : decode cX10_about 4 = .ok (.iload_n 1, 1) := by decide +kernel
theorem dX10_about_5 : decode cX10_about 5 = .ok (.invokevirtual 90, 3) := by decide +kernel
theorem dX10_about_8 : decode cX10_about 8 = .ok (.ifCond .ne 6, 3) := by decide +kernel
theorem dX10_about_11 : decode cX10_about 11 = .ok (.bipush (-3), 2) := by decide +kernel
theorem dX10_about_13 : decode cX10_about 13 = .ok (.ireturn, 1) := by decide +kernel
theorem dX10_about_14 : decode cX10_about 14 = .ok (.iload_n 2, 1) := by decide +kernel
theorem dX10_about_15 : decode cX10_about 15 = .ok (.tableswitch 87 0 4 #[33, 43, 53, 66, 75], 33) := by decide +kernel
theorem dX10_about_48 : decode cX10_about 48 = .ok (.aload_n 0, 1) := by decide +kernel
theorem dX10_about_49 : decode cX10_about 49 = .ok (.getfield 12, 3) := by decide +kernel
theorem dX10_about_52 : decode cX10_about 52 = .ok (.getfield 105, 3) := by decide +kernel
theorem dX10_about_55 : decode cX10_about 55 = .ok (.iload_n 1, 1) := by decide +kernel
theorem dX10_about_56 : decode cX10_about 56 = .ok (.iaload, 1) := by decide +kernel
theorem dX10_about_57 : decode cX10_about 57 = .ok (.ireturn, 1) := by decide +kernel
theorem dX10_about_58 : decode cX10_about 58 = .ok (.aload_n 0, 1) := by decide +kernel
theorem dX10_about_59 : decode cX10_about 59 = .ok (.getfield 12, 3) := by decide +kernel
theorem dX10_about_62 : decode cX10_about 62 = .ok (.getfield 101, 3) := by decide +kernel
theorem dX10_about_65 : decode cX10_about 65 = .ok (.iload_n 1, 1) := by decide +kernel
theorem dX10_about_66 : decode cX10_about 66 = .ok (.iaload, 1) := by decide +kernel
theorem dX10_about_67 : decode cX10_about 67 = .ok (.ireturn, 1) := by decide +kernel
theorem dX10_about_68 : decode cX10_about 68 = .ok (.aload_n 0, 1) := by decide +kernel
theorem dX10_about_69 : decode cX10_about 69 = .ok (.getfield 19, 3) := by decide +kernel
theorem dX10_about_72 : decode cX10_about 72 = .ok (.getfield 141, 3) := by decide +kernel
theorem dX10_about_75 : decode cX10_about 75 = .ok (.iload_n 1, 1) := by decide +kernel
theorem dX10_about_76 : decode cX10_about 76 = .ok (.iaload, 1) := by decide +kernel
theorem dX10_about_77 : decode cX10_about 77 = .ok (.invokestatic 144, 3) := by decide +kernel
theorem dX10_about_80 : decode cX10_about 80 = .ok (.ireturn, 1) := by decide +kernel
theorem dX10_about_81 : decode cX10_about 81 = .ok (.aload_n 0, 1) := by decide +kernel
theorem dX10_about_82 : decode cX10_about 82 = .ok (.getfield 19, 3) := by decide +kernel
theorem dX10_about_85 : decode cX10_about 85 = .ok (.iload_n 1, 1) := by decide +kernel
theorem dX10_about_86 : decode cX10_about 86 = .ok (.invokevirtual 149, 3) := by decide +kernel
theorem dX10_about_89 : decode cX10_about 89 = .ok (.ireturn, 1) := by decide +kernel
theorem dX10_about_90 : decode cX10_about 90 = .ok (.aload_n 0, 1) := by decide +kernel
theorem dX10_about_91 : decode cX10_about 91 = .ok (.getfield 12, 3) := by decide +kernel
theorem dX10_about_94 : decode cX10_about 94 = .ok (.iload_n 1, 1) := by decide +kernel
theorem dX10_about_95 : decode cX10_about 95 = .ok (.invokevirtual 125, 3) := by decide +kernel
theorem dX10_about_98 : decode cX10_about 98 = .ok (.invokestatic 144, 3) := by decide +kernel
theorem dX10_about_101 : decode cX10_about 101 = .ok (.ireturn, 1) := by decide +kernel
theorem dX10_about_102 : decode cX10_about 102 = .ok (.bipush (-3), 2) := by decide +kernel
theorem dX10_about_104 : decode cX10_about 104 = .ok (.ireturn, 1) := by decide +kernel
noncomputable def f_X10_about (x_net_posts : Int32) (x_net_widths : Nat → Int32) (x_net_lengths : Nat → Int32) (x_net_behind : Nat → Int32) (x_view_posts : Int32) (x_view_weights : Nat → Int32) (x_view_near : Nat → Int32) (i1 : Int32) (i2 : Int32) : Option (Int32) :=
  (f_X4_has x_net_posts i1).bind fun v1 =>
  if v1 = 0 then (some ((-3 : Int32))) else (if i2 = (0 : Int32) then ((gi x_net_widths 11 i1).bind fun v4 =>
  some (v4)) else (if i2 = (1 : Int32) then ((gi x_net_lengths 11 i1).bind fun v6 =>
  some (v6)) else (if i2 = (2 : Int32) then ((gi x_view_near 11 i1).bind fun v8 =>
  (f_J6_bitCount_0f7a4 v8).bind fun v9 =>
  some (v9)) else (if i2 = (3 : Int32) then ((f_X9_weightAt x_view_posts x_view_weights i1).bind fun v11 =>
  some (v11)) else (if i2 = (4 : Int32) then ((f_X4_allBehind x_net_posts x_net_behind i1).bind fun v13 =>
  (f_J6_bitCount_0f7a4 v13).bind fun v14 =>
  some (v14)) else (some ((-3 : Int32))))))))
set_option maxHeartbeats 4000000 in
set_option maxRecDepth 100000 in
theorem c_X10_about (l : Launch) (dC : Nat → ClassId) (dI : Nat → Nat → Nat) (cI cZ cN : ClassId) (q_ : Nat) (q_net : Nat) (q_view : Nat) (q_history : Nat) (q_hand : Nat) (q_trial : Nat) (q_bags : Nat) (q_chase : Nat) (q_costs : Nat) (q_sets : Nat) (q_trials : Nat) (q_net_widths : Nat) (q_net_lengths : Nat) (q_net_told : Nat) (q_net_behind : Nat) (q_view_weights : Nat) (q_view_near : Nat) (q_view_behind : Nat) (q_view_ahead : Nat) (x_net_posts : Int32) (x_net_pairs : Int32) (x_net_widths : Nat → Int32) (x_net_lengths : Nat → Int32) (x_net_behind : Nat → Int32) (x_view_posts : Int32) (x_view_roads : Int32) (x_view_weight : Int32) (x_view_weights : Nat → Int32) (x_view_near : Nat → Int32) (i1 i2 : Int32) (r : Int32) (hf : f_X10_about x_net_posts x_net_widths x_net_lengths x_net_behind x_view_posts x_view_weights x_view_near i1 i2 = some r) : CI l yX10_about cX10_about 3 (some .int) 4 106 (dC, dI) (TY cI cZ cN) [.ref q_, .int i1, .int i2] [(q_, .inr (9, [.ref q_net, .ref q_view, .ref q_history, .ref q_hand, .ref q_trial, .ref q_bags, .ref q_chase, .ref q_costs, .ref q_sets, .ref q_trials])), (q_net, .inr (4, [.int x_net_posts, .int x_net_pairs, .ref q_net_widths, .ref q_net_lengths, .ref q_net_told, .ref q_net_behind])), (q_net_widths, .inl (cI, 11, .inl x_net_widths)), (q_net_lengths, .inl (cI, 11, .inl x_net_lengths)), (q_net_behind, .inl (cI, 11, .inl x_net_behind)), (q_view, .inr (8, [.int x_view_posts, .int x_view_roads, .int x_view_weight, .ref q_view_weights, .ref q_view_near, .ref q_view_behind, .ref q_view_ahead])), (q_view_weights, .inl (cI, 121, .inl x_view_weights)), (q_view_near, .inl (cI, 11, .inl x_view_near))] [(q_, .inr (9, [.ref q_net, .ref q_view, .ref q_history, .ref q_hand, .ref q_trial, .ref q_bags, .ref q_chase, .ref q_costs, .ref q_sets, .ref q_trials])), (q_net, .inr (4, [.int x_net_posts, .int x_net_pairs, .ref q_net_widths, .ref q_net_lengths, .ref q_net_told, .ref q_net_behind])), (q_net_widths, .inl (cI, 11, .inl x_net_widths)), (q_net_lengths, .inl (cI, 11, .inl x_net_lengths)), (q_net_behind, .inl (cI, 11, .inl x_net_behind)), (q_view, .inr (8, [.int x_view_posts, .int x_view_roads, .int x_view_weight, .ref q_view_weights, .ref q_view_near, .ref q_view_behind, .ref q_view_ahead])), (q_view_weights, .inl (cI, 121, .inl x_view_weights)), (q_view_near, .inl (cI, 11, .inl x_view_near))] r := by
  refine CI.of rfl (by decide) (Nat.le_of_ble_eq_true rfl) ?_
  intro p e s m args below meth c Q A ls hx hb hml hown htb hK hN hA hP hD hS hl hret
  have hown : s.vm.findClass RX10 = some m.cls := hown
  have hl : lv_has ls 3 [(0, .ref q_), (1, .int i1), (2, .int i2)] := hl
  have hret : ∀ (r9 : Int32), some r9 = some r → ∀ (H : Heap) (locs : List Loc) (pc : Nat) (ls : Array Slot), narrow .int (.int r9) = .int r9 → decode cX10_about pc = .ok (.ireturn, 1) → va_P (dC, dI) vwCl [(q_, .inr (9, [.ref q_net, .ref q_view, .ref q_history, .ref q_hand, .ref q_trial, .ref q_bags, .ref q_chase, .ref q_costs, .ref q_sets, .ref q_trials])), (q_net, .inr (4, [.int x_net_posts, .int x_net_pairs, .ref q_net_widths, .ref q_net_lengths, .ref q_net_told, .ref q_net_behind])), (q_net_widths, .inl (cI, 11, .inl x_net_widths)), (q_net_lengths, .inl (cI, 11, .inl x_net_lengths)), (q_net_behind, .inl (cI, 11, .inl x_net_behind)), (q_view, .inr (8, [.int x_view_posts, .int x_view_roads, .int x_view_weight, .ref q_view_weights, .ref q_view_near, .ref q_view_behind, .ref q_view_ahead])), (q_view_weights, .inl (cI, 121, .inl x_view_weights)), (q_view_near, .inl (cI, 11, .inl x_view_near))] H → va_D A [(q_, .inr (9, [.ref q_net, .ref q_view, .ref q_history, .ref q_hand, .ref q_trial, .ref q_bags, .ref q_chase, .ref q_costs, .ref q_sets, .ref q_trials])), (q_net, .inr (4, [.int x_net_posts, .int x_net_pairs, .ref q_net_widths, .ref q_net_lengths, .ref q_net_told, .ref q_net_behind])), (q_net_widths, .inl (cI, 11, .inl x_net_widths)), (q_net_lengths, .inl (cI, 11, .inl x_net_lengths)), (q_net_behind, .inl (cI, 11, .inl x_net_behind)), (q_view, .inr (8, [.int x_view_posts, .int x_view_roads, .int x_view_weight, .ref q_view_weights, .ref q_view_near, .ref q_view_behind, .ref q_view_ahead])), (q_view_weights, .inl (cI, 121, .inl x_view_weights)), (q_view_near, .inl (cI, 11, .inl x_view_near))] → va_S A s.heap H locs → W p l e (rmK 4 106) s m args below meth c H locs 0 0 Q (F0 m pc ls [.int r9]) := by
    intro r9 h9
    cases h9
    exact hret
  unfold f_X10_about at hf
  refine lv_aload_n hx hb dX10_about_0 rfl (lv_at hl 0 rfl) ?_
  refine va_get (D := (dC, dI)) (ci := 9) (v := .ref q_net) (C := RX10) (T := TX10) (N := 10) hx hb htb inX10 hown hK hP 0 rfl rfl 0 (Nat.le_of_ble_eq_true rfl) (htb _ t_278) (fun _ h9 => h9) rfl dX10_about_1 ?_
  refine lv_iload_n hx hb dX10_about_4 rfl (lv_at hl 1 rfl) ?_
  obtain ⟨v1, hv, hf⟩ := ob hf
  refine k_afterI (wr := [(q_, .inr (9, [.ref q_net, .ref q_view, .ref q_history, .ref q_hand, .ref q_trial, .ref q_bags, .ref q_chase, .ref q_costs, .ref q_sets, .ref q_trials])), (q_net_widths, .inl (cI, 11, .inl x_net_widths)), (q_net_lengths, .inl (cI, 11, .inl x_net_lengths)), (q_net_behind, .inl (cI, 11, .inl x_net_behind)), (q_view, .inr (8, [.int x_view_posts, .int x_view_roads, .int x_view_weight, .ref q_view_weights, .ref q_view_near, .ref q_view_behind, .ref q_view_ahead])), (q_view_weights, .inl (cI, 121, .inl x_view_weights)), (q_view_near, .inl (cI, 11, .inl x_view_near))]) (wn := [(q_, .inr (9, [.ref q_net, .ref q_view, .ref q_history, .ref q_hand, .ref q_trial, .ref q_bags, .ref q_chase, .ref q_costs, .ref q_sets, .ref q_trials])), (q_net, .inr (4, [.int x_net_posts, .int x_net_pairs, .ref q_net_widths, .ref q_net_lengths, .ref q_net_told, .ref q_net_behind])), (q_net_widths, .inl (cI, 11, .inl x_net_widths)), (q_net_lengths, .inl (cI, 11, .inl x_net_lengths)), (q_net_behind, .inl (cI, 11, .inl x_net_behind)), (q_view, .inr (8, [.int x_view_posts, .int x_view_roads, .int x_view_weight, .ref q_view_weights, .ref q_view_near, .ref q_view_behind, .ref q_view_ahead])), (q_view_weights, .inl (cI, 121, .inl x_view_weights)), (q_view_near, .inl (cI, 11, .inl x_view_near))]) (k_runV (rest := []) (ci := 4) (q0 := 1) hx hb hml hown htb hK hN (c_X4_has l dC dI cI cZ cN q_net q_net_widths q_net_lengths q_net_told q_net_behind x_net_posts x_net_pairs i1 v1 hv _) vf_X4_has t_353 hP hD [1] rfl rfl rfl rfl ⟨(Nat.le_of_ble_eq_true rfl), (Nat.le_of_ble_eq_true rfl)⟩ rfl hl.1 rfl (Nat.le_of_ble_eq_true rfl) dX10_about_5 ⟨Nat.zero_le _, Nat.zero_le _⟩) hA hP hD hS [1] [0, 2, 3, 4, 5, 6, 7] [0, 7, 1, 2, 3, 4, 5, 6] rfl rfl rfl rfl ?_
  clear hP hD hS
  intro H locs hP hD hS
  refine lv_if_ne (tgt := 14) hx hb dX10_about_8 (by decide) (fun c2 => ?_) (fun c2 => ?_)
  · have hf := im c2 hf
    refine lv_iload_n hx hb dX10_about_14 rfl (lv_at hl 2 rfl) ?_
    by_cases c3 : i2 = (0 : Int32)
    · have hf := ip c3 hf
      refine lv_tableIn (off := 33) (tgt := 48) hx hb dX10_about_15 (by rw [c3]; decide) (by rw [c3]; decide) (by rw [c3]; rfl) (by decide) ?_
      refine lv_aload_n hx hb dX10_about_48 rfl (lv_at hl 0 rfl) ?_
      refine va_get (D := (dC, dI)) (ci := 9) (v := .ref q_net) (C := RX10) (T := TX10) (N := 10) hx hb htb inX10 hown hK hP 0 rfl rfl 0 (Nat.le_of_ble_eq_true rfl) (htb _ t_278) (fun _ h9 => h9) rfl dX10_about_49 ?_
      refine va_get (D := (dC, dI)) (ci := 4) (v := .ref q_net_widths) (C := RX4) (T := TX4) (N := 6) hx hb htb inX4 hown hK hP 1 rfl rfl 2 (Nat.le_of_ble_eq_true rfl) (htb _ t_40) (fun _ h9 => h9) rfl dX10_about_52 ?_
      refine lv_iload_n hx hb dX10_about_55 rfl (lv_at hl 1 rfl) ?_
      obtain ⟨v4, hv, hf⟩ := ob hf
      refine k_iald hx hb hK hP 2 0 rfl rfl hv dX10_about_56 ?_
      exact hret _ hf _ _ _ _ rfl dX10_about_57 hP hD hS
    have hf := im c3 hf
    by_cases c5 : i2 = (1 : Int32)
    · have hf := ip c5 hf
      refine lv_tableIn (off := 43) (tgt := 58) hx hb dX10_about_15 (by rw [c5]; decide) (by rw [c5]; decide) (by rw [c5]; rfl) (by decide) ?_
      refine lv_aload_n hx hb dX10_about_58 rfl (lv_at hl 0 rfl) ?_
      refine va_get (D := (dC, dI)) (ci := 9) (v := .ref q_net) (C := RX10) (T := TX10) (N := 10) hx hb htb inX10 hown hK hP 0 rfl rfl 0 (Nat.le_of_ble_eq_true rfl) (htb _ t_278) (fun _ h9 => h9) rfl dX10_about_59 ?_
      refine va_get (D := (dC, dI)) (ci := 4) (v := .ref q_net_lengths) (C := RX4) (T := TX4) (N := 6) hx hb htb inX4 hown hK hP 1 rfl rfl 3 (Nat.le_of_ble_eq_true rfl) (htb _ t_42) (fun _ h9 => h9) rfl dX10_about_62 ?_
      refine lv_iload_n hx hb dX10_about_65 rfl (lv_at hl 1 rfl) ?_
      obtain ⟨v6, hv, hf⟩ := ob hf
      refine k_iald hx hb hK hP 3 0 rfl rfl hv dX10_about_66 ?_
      exact hret _ hf _ _ _ _ rfl dX10_about_67 hP hD hS
    have hf := im c5 hf
    by_cases c7 : i2 = (2 : Int32)
    · have hf := ip c7 hf
      refine lv_tableIn (off := 53) (tgt := 68) hx hb dX10_about_15 (by rw [c7]; decide) (by rw [c7]; decide) (by rw [c7]; rfl) (by decide) ?_
      refine lv_aload_n hx hb dX10_about_68 rfl (lv_at hl 0 rfl) ?_
      refine va_get (D := (dC, dI)) (ci := 9) (v := .ref q_view) (C := RX10) (T := TX10) (N := 10) hx hb htb inX10 hown hK hP 0 rfl rfl 1 (Nat.le_of_ble_eq_true rfl) (htb _ t_279) (fun _ h9 => h9) rfl dX10_about_69 ?_
      refine va_get (D := (dC, dI)) (ci := 8) (v := .ref q_view_near) (C := RX9) (T := TX9) (N := 7) hx hb htb inX9 hown hK hP 5 rfl rfl 4 (Nat.le_of_ble_eq_true rfl) (htb _ t_83) (fun _ h9 => h9) rfl dX10_about_72 ?_
      refine lv_iload_n hx hb dX10_about_75 rfl (lv_at hl 1 rfl) ?_
      obtain ⟨v8, hv, hf⟩ := ob hf
      refine k_iald hx hb hK hP 7 0 rfl rfl hv dX10_about_76 ?_
      obtain ⟨v9, hv, hf⟩ := ob hf
      refine k_afterI (wr := [(q_, .inr (9, [.ref q_net, .ref q_view, .ref q_history, .ref q_hand, .ref q_trial, .ref q_bags, .ref q_chase, .ref q_costs, .ref q_sets, .ref q_trials])), (q_net, .inr (4, [.int x_net_posts, .int x_net_pairs, .ref q_net_widths, .ref q_net_lengths, .ref q_net_told, .ref q_net_behind])), (q_net_widths, .inl (cI, 11, .inl x_net_widths)), (q_net_lengths, .inl (cI, 11, .inl x_net_lengths)), (q_net_behind, .inl (cI, 11, .inl x_net_behind)), (q_view, .inr (8, [.int x_view_posts, .int x_view_roads, .int x_view_weight, .ref q_view_weights, .ref q_view_near, .ref q_view_behind, .ref q_view_ahead])), (q_view_weights, .inl (cI, 121, .inl x_view_weights)), (q_view_near, .inl (cI, 11, .inl x_view_near))]) (wn := [(q_, .inr (9, [.ref q_net, .ref q_view, .ref q_history, .ref q_hand, .ref q_trial, .ref q_bags, .ref q_chase, .ref q_costs, .ref q_sets, .ref q_trials])), (q_net, .inr (4, [.int x_net_posts, .int x_net_pairs, .ref q_net_widths, .ref q_net_lengths, .ref q_net_told, .ref q_net_behind])), (q_net_widths, .inl (cI, 11, .inl x_net_widths)), (q_net_lengths, .inl (cI, 11, .inl x_net_lengths)), (q_net_behind, .inl (cI, 11, .inl x_net_behind)), (q_view, .inr (8, [.int x_view_posts, .int x_view_roads, .int x_view_weight, .ref q_view_weights, .ref q_view_near, .ref q_view_behind, .ref q_view_ahead])), (q_view_weights, .inl (cI, 121, .inl x_view_weights)), (q_view_near, .inl (cI, 11, .inl x_view_near))]) (k_runS (rest := []) hx hb hml hown htb hK hN (c_J6_bitCount_0f7a4 l dC dI cI cZ cN v8 v9 hv _) sf_J6_bitCount_0f7a4 t_412 hP hD [] rfl rfl ⟨(Nat.le_of_ble_eq_true rfl), (Nat.le_of_ble_eq_true rfl)⟩ rfl hl.1 rfl (Nat.le_of_ble_eq_true rfl) dX10_about_77 ⟨Nat.zero_le _, Nat.zero_le _⟩) hA hP hD hS [] [0, 1, 2, 3, 4, 5, 6, 7] [0, 1, 2, 3, 4, 5, 6, 7] rfl rfl rfl rfl ?_
      clear hP hD hS
      intro H locs hP hD hS
      exact hret _ hf _ _ _ _ rfl dX10_about_80 hP hD hS
    have hf := im c7 hf
    by_cases c10 : i2 = (3 : Int32)
    · have hf := ip c10 hf
      refine lv_tableIn (off := 66) (tgt := 81) hx hb dX10_about_15 (by rw [c10]; decide) (by rw [c10]; decide) (by rw [c10]; rfl) (by decide) ?_
      refine lv_aload_n hx hb dX10_about_81 rfl (lv_at hl 0 rfl) ?_
      refine va_get (D := (dC, dI)) (ci := 9) (v := .ref q_view) (C := RX10) (T := TX10) (N := 10) hx hb htb inX10 hown hK hP 0 rfl rfl 1 (Nat.le_of_ble_eq_true rfl) (htb _ t_279) (fun _ h9 => h9) rfl dX10_about_82 ?_
      refine lv_iload_n hx hb dX10_about_85 rfl (lv_at hl 1 rfl) ?_
      obtain ⟨v11, hv, hf⟩ := ob hf
      refine k_afterI (wr := [(q_, .inr (9, [.ref q_net, .ref q_view, .ref q_history, .ref q_hand, .ref q_trial, .ref q_bags, .ref q_chase, .ref q_costs, .ref q_sets, .ref q_trials])), (q_net, .inr (4, [.int x_net_posts, .int x_net_pairs, .ref q_net_widths, .ref q_net_lengths, .ref q_net_told, .ref q_net_behind])), (q_net_widths, .inl (cI, 11, .inl x_net_widths)), (q_net_lengths, .inl (cI, 11, .inl x_net_lengths)), (q_net_behind, .inl (cI, 11, .inl x_net_behind)), (q_view_near, .inl (cI, 11, .inl x_view_near))]) (wn := [(q_, .inr (9, [.ref q_net, .ref q_view, .ref q_history, .ref q_hand, .ref q_trial, .ref q_bags, .ref q_chase, .ref q_costs, .ref q_sets, .ref q_trials])), (q_net, .inr (4, [.int x_net_posts, .int x_net_pairs, .ref q_net_widths, .ref q_net_lengths, .ref q_net_told, .ref q_net_behind])), (q_net_widths, .inl (cI, 11, .inl x_net_widths)), (q_net_lengths, .inl (cI, 11, .inl x_net_lengths)), (q_net_behind, .inl (cI, 11, .inl x_net_behind)), (q_view, .inr (8, [.int x_view_posts, .int x_view_roads, .int x_view_weight, .ref q_view_weights, .ref q_view_near, .ref q_view_behind, .ref q_view_ahead])), (q_view_weights, .inl (cI, 121, .inl x_view_weights)), (q_view_near, .inl (cI, 11, .inl x_view_near))]) (k_runV (rest := []) (ci := 8) (q0 := 5) hx hb hml hown htb hK hN (c_X9_weightAt l dC dI cI cZ cN q_view q_view_weights q_view_near q_view_behind q_view_ahead x_view_posts x_view_roads x_view_weight x_view_weights i1 v11 hv _) vf_X9_weightAt t_418 hP hD [5, 6] rfl rfl rfl rfl ⟨(Nat.le_of_ble_eq_true rfl), (Nat.le_of_ble_eq_true rfl)⟩ rfl hl.1 rfl (Nat.le_of_ble_eq_true rfl) dX10_about_86 ⟨Nat.zero_le _, Nat.zero_le _⟩) hA hP hD hS [5, 6] [0, 1, 2, 3, 4, 7] [0, 1, 2, 3, 4, 6, 7, 5] rfl rfl rfl rfl ?_
      clear hP hD hS
      intro H locs hP hD hS
      exact hret _ hf _ _ _ _ rfl dX10_about_89 hP hD hS
    have hf := im c10 hf
    by_cases c12 : i2 = (4 : Int32)
    · have hf := ip c12 hf
      refine lv_tableIn (off := 75) (tgt := 90) hx hb dX10_about_15 (by rw [c12]; decide) (by rw [c12]; decide) (by rw [c12]; rfl) (by decide) ?_
      refine lv_aload_n hx hb dX10_about_90 rfl (lv_at hl 0 rfl) ?_
      refine va_get (D := (dC, dI)) (ci := 9) (v := .ref q_net) (C := RX10) (T := TX10) (N := 10) hx hb htb inX10 hown hK hP 0 rfl rfl 0 (Nat.le_of_ble_eq_true rfl) (htb _ t_278) (fun _ h9 => h9) rfl dX10_about_91 ?_
      refine lv_iload_n hx hb dX10_about_94 rfl (lv_at hl 1 rfl) ?_
      obtain ⟨v13, hv, hf⟩ := ob hf
      refine k_afterI (wr := [(q_, .inr (9, [.ref q_net, .ref q_view, .ref q_history, .ref q_hand, .ref q_trial, .ref q_bags, .ref q_chase, .ref q_costs, .ref q_sets, .ref q_trials])), (q_net_widths, .inl (cI, 11, .inl x_net_widths)), (q_net_lengths, .inl (cI, 11, .inl x_net_lengths)), (q_view, .inr (8, [.int x_view_posts, .int x_view_roads, .int x_view_weight, .ref q_view_weights, .ref q_view_near, .ref q_view_behind, .ref q_view_ahead])), (q_view_weights, .inl (cI, 121, .inl x_view_weights)), (q_view_near, .inl (cI, 11, .inl x_view_near))]) (wn := [(q_, .inr (9, [.ref q_net, .ref q_view, .ref q_history, .ref q_hand, .ref q_trial, .ref q_bags, .ref q_chase, .ref q_costs, .ref q_sets, .ref q_trials])), (q_net, .inr (4, [.int x_net_posts, .int x_net_pairs, .ref q_net_widths, .ref q_net_lengths, .ref q_net_told, .ref q_net_behind])), (q_net_widths, .inl (cI, 11, .inl x_net_widths)), (q_net_lengths, .inl (cI, 11, .inl x_net_lengths)), (q_net_behind, .inl (cI, 11, .inl x_net_behind)), (q_view, .inr (8, [.int x_view_posts, .int x_view_roads, .int x_view_weight, .ref q_view_weights, .ref q_view_near, .ref q_view_behind, .ref q_view_ahead])), (q_view_weights, .inl (cI, 121, .inl x_view_weights)), (q_view_near, .inl (cI, 11, .inl x_view_near))]) (k_runV (rest := []) (ci := 4) (q0 := 1) hx hb hml hown htb hK hN (c_X4_allBehind l dC dI cI cZ cN q_net q_net_widths q_net_lengths q_net_told q_net_behind x_net_posts x_net_pairs x_net_behind i1 v13 hv _) vf_X4_allBehind t_390 hP hD [1, 4] rfl rfl rfl rfl ⟨(Nat.le_of_ble_eq_true rfl), (Nat.le_of_ble_eq_true rfl)⟩ rfl hl.1 rfl (Nat.le_of_ble_eq_true rfl) dX10_about_95 ⟨Nat.zero_le _, Nat.zero_le _⟩) hA hP hD hS [1, 4] [0, 2, 3, 5, 6, 7] [0, 6, 1, 2, 7, 3, 4, 5] rfl rfl rfl rfl ?_
      clear hP hD hS
      intro H locs hP hD hS
      obtain ⟨v14, hv, hf⟩ := ob hf
      refine k_afterI (wr := [(q_, .inr (9, [.ref q_net, .ref q_view, .ref q_history, .ref q_hand, .ref q_trial, .ref q_bags, .ref q_chase, .ref q_costs, .ref q_sets, .ref q_trials])), (q_net, .inr (4, [.int x_net_posts, .int x_net_pairs, .ref q_net_widths, .ref q_net_lengths, .ref q_net_told, .ref q_net_behind])), (q_net_widths, .inl (cI, 11, .inl x_net_widths)), (q_net_lengths, .inl (cI, 11, .inl x_net_lengths)), (q_net_behind, .inl (cI, 11, .inl x_net_behind)), (q_view, .inr (8, [.int x_view_posts, .int x_view_roads, .int x_view_weight, .ref q_view_weights, .ref q_view_near, .ref q_view_behind, .ref q_view_ahead])), (q_view_weights, .inl (cI, 121, .inl x_view_weights)), (q_view_near, .inl (cI, 11, .inl x_view_near))]) (wn := [(q_, .inr (9, [.ref q_net, .ref q_view, .ref q_history, .ref q_hand, .ref q_trial, .ref q_bags, .ref q_chase, .ref q_costs, .ref q_sets, .ref q_trials])), (q_net, .inr (4, [.int x_net_posts, .int x_net_pairs, .ref q_net_widths, .ref q_net_lengths, .ref q_net_told, .ref q_net_behind])), (q_net_widths, .inl (cI, 11, .inl x_net_widths)), (q_net_lengths, .inl (cI, 11, .inl x_net_lengths)), (q_net_behind, .inl (cI, 11, .inl x_net_behind)), (q_view, .inr (8, [.int x_view_posts, .int x_view_roads, .int x_view_weight, .ref q_view_weights, .ref q_view_near, .ref q_view_behind, .ref q_view_ahead])), (q_view_weights, .inl (cI, 121, .inl x_view_weights)), (q_view_near, .inl (cI, 11, .inl x_view_near))]) (k_runS (rest := []) hx hb hml hown htb hK hN (c_J6_bitCount_0f7a4 l dC dI cI cZ cN v13 v14 hv _) sf_J6_bitCount_0f7a4 t_412 hP hD [] rfl rfl ⟨(Nat.le_of_ble_eq_true rfl), (Nat.le_of_ble_eq_true rfl)⟩ rfl hl.1 rfl (Nat.le_of_ble_eq_true rfl) dX10_about_98 ⟨Nat.zero_le _, Nat.zero_le _⟩) hA hP hD hS [] [0, 1, 2, 3, 4, 5, 6, 7] [0, 1, 2, 3, 4, 5, 6, 7] rfl rfl rfl rfl ?_
      clear hP hD hS
      intro H locs hP hD hS
      exact hret _ hf _ _ _ _ rfl dX10_about_101 hP hD hS
    have hf := im c12 hf
    refine lv_tableOut (tgt := 102) hx hb dX10_about_15 (tab_out 4 (by decide) (fun k hk => by
          rcases (show k = 0 ∨ k = 1 ∨ k = 2 ∨ k = 3 ∨ k = 4 by omega) with rfl | rfl | rfl | rfl | rfl
          · exact c3
          · exact c5
          · exact c7
          · exact c10
          · exact c12)) (by decide) ?_
    refine lv_bipush (v := (-3 : Int32)) hx hb dX10_about_102 (by decide) ?_
    exact hret _ hf _ _ _ _ rfl dX10_about_104 hP hD hS
  · have hf := ip c2 hf
    refine lv_bipush (v := (-3 : Int32)) hx hb dX10_about_11 (by decide) ?_
    exact hret _ hf _ _ _ _ rfl dX10_about_13 hP hD hS
theorem vf_X10_begin : VF yX10_begin cX10_begin 2 (some .int) 0 := ⟨t_424, t_425, t_1, t_426, by decide +kernel, by decide +kernel, by decide +kernel⟩
theorem dX10_begin_0 : decode cX10_begin 0 = .ok (.aload_n 0, 1) := by decide +kernel
theorem dX10_begin_1 : decode cX10_begin 1 = .ok (.getfield 33, 3) := by decide +kernel
theorem dX10_begin_4 : decode cX10_begin 4 = .ok (.getfield 152, 3) := by decide +kernel
theorem dX10_begin_7 : decode cX10_begin 7 = .ok (.istore_n 1, 1) := by decide +kernel
theorem dX10_begin_8 : decode cX10_begin 8 = .ok (.aload_n 0, 1) := by decide +kernel
theorem dX10_begin_9 : decode cX10_begin 9 = .ok (.getfield 33, 3) := by decide +kernel
theorem dX10_begin_12 : decode cX10_begin 12 = .ok (.invokevirtual 155, 3) := by decide +kernel
theorem dX10_begin_15 : decode cX10_begin 15 = .ok (.iload_n 1, 1) := by decide +kernel
theorem dX10_begin_16 : decode cX10_begin 16 = .ok (.ireturn, 1) := by decide +kernel
noncomputable def f_X10_begin (x_hand_size : Int32) : Option (Int32 × Int32) :=
  (f_X5_clear x_hand_size).bind fun o1 =>
  some ((x_hand_size, o1))
set_option maxHeartbeats 4000000 in
set_option maxRecDepth 100000 in
theorem c_X10_begin (l : Launch) (dC : Nat → ClassId) (dI : Nat → Nat → Nat) (cI cZ cN : ClassId) (q_ : Nat) (q_net : Nat) (q_view : Nat) (q_history : Nat) (q_hand : Nat) (q_trial : Nat) (q_bags : Nat) (q_chase : Nat) (q_costs : Nat) (q_sets : Nat) (q_trials : Nat) (q_hand_posts : Nat) (x_hand_size : Int32) (r : Int32) (o_hand_size : Int32) (hf : f_X10_begin x_hand_size = some (r, o_hand_size)) : CI l yX10_begin cX10_begin 2 (some .int) 3 80 (dC, dI) (TY cI cZ cN) [.ref q_] [(q_, .inr (9, [.ref q_net, .ref q_view, .ref q_history, .ref q_hand, .ref q_trial, .ref q_bags, .ref q_chase, .ref q_costs, .ref q_sets, .ref q_trials])), (q_hand, .inr (5, [.ref q_hand_posts, .int x_hand_size]))] [(q_, .inr (9, [.ref q_net, .ref q_view, .ref q_history, .ref q_hand, .ref q_trial, .ref q_bags, .ref q_chase, .ref q_costs, .ref q_sets, .ref q_trials])), (q_hand, .inr (5, [.ref q_hand_posts, .int o_hand_size]))] r := by
  refine CI.of rfl (by decide) (Nat.le_of_ble_eq_true rfl) ?_
  intro p e s m args below meth c Q A ls hx hb hml hown htb hK hN hA hP hD hS hl hret
  have hown : s.vm.findClass RX10 = some m.cls := hown
  have hl : lv_has ls 2 [(0, .ref q_)] := hl
  have hret : ∀ (r9 : Int32) (o9_hand_size : Int32), some (r9, o9_hand_size) = some (r, o_hand_size) → ∀ (H : Heap) (locs : List Loc) (pc : Nat) (ls : Array Slot), narrow .int (.int r9) = .int r9 → decode cX10_begin pc = .ok (.ireturn, 1) → va_P (dC, dI) vwCl [(q_, .inr (9, [.ref q_net, .ref q_view, .ref q_history, .ref q_hand, .ref q_trial, .ref q_bags, .ref q_chase, .ref q_costs, .ref q_sets, .ref q_trials])), (q_hand, .inr (5, [.ref q_hand_posts, .int o9_hand_size]))] H → va_D A [(q_, .inr (9, [.ref q_net, .ref q_view, .ref q_history, .ref q_hand, .ref q_trial, .ref q_bags, .ref q_chase, .ref q_costs, .ref q_sets, .ref q_trials])), (q_hand, .inr (5, [.ref q_hand_posts, .int o9_hand_size]))] → va_S A s.heap H locs → W p l e (rmK 3 80) s m args below meth c H locs 0 0 Q (F0 m pc ls [.int r9]) := by
    intro r9 o9_hand_size h9
    cases h9
    exact hret
  unfold f_X10_begin at hf
  refine lv_aload_n hx hb dX10_begin_0 rfl (lv_at hl 0 rfl) ?_
  refine va_get (D := (dC, dI)) (ci := 9) (v := .ref q_hand) (C := RX10) (T := TX10) (N := 10) hx hb htb inX10 hown hK hP 0 rfl rfl 3 (Nat.le_of_ble_eq_true rfl) (htb _ t_281) (fun _ h9 => h9) rfl dX10_begin_1 ?_
  refine va_get (D := (dC, dI)) (ci := 5) (v := .int x_hand_size) (C := RX5) (T := TX5) (N := 2) hx hb htb inX5 hown hK hP 1 rfl rfl 1 (Nat.le_of_ble_eq_true rfl) (htb _ t_138) (fun _ h9 => h9) rfl dX10_begin_4 ?_
  refine lv_istore_n (lv' := [(1, .int x_hand_size), (0, .ref q_)]) hx hb dX10_begin_7 rfl hl (by decide) rfl (fun ls hl => ?_)
  refine lv_aload_n hx hb dX10_begin_8 rfl (lv_at hl 1 rfl) ?_
  refine va_get (D := (dC, dI)) (ci := 9) (v := .ref q_hand) (C := RX10) (T := TX10) (N := 10) hx hb htb inX10 hown hK hP 0 rfl rfl 3 (Nat.le_of_ble_eq_true rfl) (htb _ t_281) (fun _ h9 => h9) rfl dX10_begin_9 ?_
  obtain ⟨o1, hv, hf⟩ := ob hf
  refine k_afterV (wr := [(q_, .inr (9, [.ref q_net, .ref q_view, .ref q_history, .ref q_hand, .ref q_trial, .ref q_bags, .ref q_chase, .ref q_costs, .ref q_sets, .ref q_trials]))]) (wn := [(q_, .inr (9, [.ref q_net, .ref q_view, .ref q_history, .ref q_hand, .ref q_trial, .ref q_bags, .ref q_chase, .ref q_costs, .ref q_sets, .ref q_trials])), (q_hand, .inr (5, [.ref q_hand_posts, .int o1]))]) (k_runV (rest := []) (ci := 5) (q0 := 1) hx hb hml hown htb hK hN (c_X5_clear l dC dI cI cZ cN q_hand q_hand_posts x_hand_size o1 hv _) vf_X5_clear t_427 hP hD [1] rfl rfl rfl rfl ⟨(Nat.le_of_ble_eq_true rfl), (Nat.le_of_ble_eq_true rfl)⟩ rfl hl.1 rfl (Nat.le_of_ble_eq_true rfl) dX10_begin_12 ⟨Nat.zero_le _, Nat.zero_le _⟩) hA hP hD hS [1] [0] [0, 1] rfl rfl rfl rfl ?_
  clear hP hD hS
  intro H locs hP hD hS
  refine lv_iload_n hx hb dX10_begin_15 rfl (lv_at hl 0 rfl) ?_
  exact hret _ _ hf _ _ _ _ rfl dX10_begin_16 hP hD hS
theorem vf_X10_put : VF yX10_put cX10_put 2 (some .int) 1 := ⟨t_432, t_433, t_1, t_434, by decide +kernel, by decide +kernel, by decide +kernel⟩
theorem dX10_put_0 : decode cX10_put 0 = .ok (.aload_n 0, 1) := by decide +kernel
theorem dX10_put_1 : decode cX10_put 1 = .ok (.getfield 12, 3) := by decide +kernel
theorem dX10_put_4 : decode cX10_put 4 = .ok (.iload_n 1, 1) := by decide +kernel
theorem dX10_put_5 : decode cX10_put 5 = .ok (.invokevirtual 90, 3) := by decide +kernel
theorem dX10_put_8 : decode cX10_put 8 = .ok (.ifCond .eq 15, 3) := by decide +kernel
theorem dX10_put_11 : decode cX10_put 11 = .ok (.aload_n 0, 1) := by decide +kernel
theorem dX10_put_12 : decode cX10_put 12 = .ok (.getfield 33, 3) := by decide +kernel
theorem dX10_put_15 : decode cX10_put 15 = .ok (.iload_n 1, 1) := by decide +kernel
theorem dX10_put_16 : decode cX10_put 16 = .ok (.invokevirtual 158, 3) := by decide +kernel
theorem dX10_put_19 : decode cX10_put 19 = .ok (.iconst (-1), 1) := by decide +kernel
theorem dX10_put_20 : decode cX10_put 20 = .ok (.if_icmp .eq 6, 3) := by decide +kernel
theorem dX10_put_23 : decode cX10_put 23 = .ok (.bipush (-3), 2) := by decide +kernel
theorem dX10_put_25 : decode cX10_put 25 = .ok (.ireturn, 1) := by decide +kernel
theorem dX10_put_26 : decode cX10_put 26 = .ok (.aload_n 0, 1) := by decide +kernel
theorem dX10_put_27 : decode cX10_put 27 = .ok (.getfield 33, 3) := by decide +kernel
theorem dX10_put_30 : decode cX10_put 30 = .ok (.iload_n 1, 1) := by decide +kernel
theorem dX10_put_31 : decode cX10_put 31 = .ok (.invokevirtual 161, 3) := by decide +kernel
theorem dX10_put_34 : decode cX10_put 34 = .ok (.aload_n 0, 1) := by decide +kernel
theorem dX10_put_35 : decode cX10_put 35 = .ok (.getfield 33, 3) := by decide +kernel
theorem dX10_put_38 : decode cX10_put 38 = .ok (.getfield 152, 3) := by decide +kernel
theorem dX10_put_41 : decode cX10_put 41 = .ok (.ireturn, 1) := by decide +kernel
noncomputable def f_X10_put (x_net_posts : Int32) (x_hand_size : Int32) (x_hand_posts : Nat → Int32) (i1 : Int32) : Option (Int32 × Int32 × (Nat → Int32)) :=
  (f_X4_has x_net_posts i1).bind fun v1 =>
  if v1 = 0 then (some (((-3 : Int32), x_hand_size, x_hand_posts))) else ((f_X5_placeOf x_hand_size x_hand_posts i1).bind fun v3 =>
  if v3 = (-1 : Int32) then (b2 (f_X5_append x_hand_size x_hand_posts i1) fun o5 o6 =>
  some ((o5, o5, o6))) else (some (((-3 : Int32), x_hand_size, x_hand_posts))))
set_option maxHeartbeats 4000000 in
set_option maxRecDepth 100000 in
theorem c_X10_put (l : Launch) (dC : Nat → ClassId) (dI : Nat → Nat → Nat) (cI cZ cN : ClassId) (q_ : Nat) (q_net : Nat) (q_view : Nat) (q_history : Nat) (q_hand : Nat) (q_trial : Nat) (q_bags : Nat) (q_chase : Nat) (q_costs : Nat) (q_sets : Nat) (q_trials : Nat) (q_net_widths : Nat) (q_net_lengths : Nat) (q_net_told : Nat) (q_net_behind : Nat) (q_hand_posts : Nat) (x_net_posts : Int32) (x_net_pairs : Int32) (x_hand_size : Int32) (x_hand_posts : Nat → Int32) (i1 : Int32) (r : Int32) (o_hand_size : Int32) (o_hand_posts : Nat → Int32) (hf : f_X10_put x_net_posts x_hand_size x_hand_posts i1 = some (r, o_hand_size, o_hand_posts)) : CI l yX10_put cX10_put 2 (some .int) 3 82 (dC, dI) (TY cI cZ cN) [.ref q_, .int i1] [(q_, .inr (9, [.ref q_net, .ref q_view, .ref q_history, .ref q_hand, .ref q_trial, .ref q_bags, .ref q_chase, .ref q_costs, .ref q_sets, .ref q_trials])), (q_net, .inr (4, [.int x_net_posts, .int x_net_pairs, .ref q_net_widths, .ref q_net_lengths, .ref q_net_told, .ref q_net_behind])), (q_hand, .inr (5, [.ref q_hand_posts, .int x_hand_size])), (q_hand_posts, .inl (cI, 11, .inl x_hand_posts))] [(q_, .inr (9, [.ref q_net, .ref q_view, .ref q_history, .ref q_hand, .ref q_trial, .ref q_bags, .ref q_chase, .ref q_costs, .ref q_sets, .ref q_trials])), (q_net, .inr (4, [.int x_net_posts, .int x_net_pairs, .ref q_net_widths, .ref q_net_lengths, .ref q_net_told, .ref q_net_behind])), (q_hand, .inr (5, [.ref q_hand_posts, .int o_hand_size])), (q_hand_posts, .inl (cI, 11, .inl o_hand_posts))] r := by
  refine CI.of rfl (by decide) (Nat.le_of_ble_eq_true rfl) ?_
  intro p e s m args below meth c Q A ls hx hb hml hown htb hK hN hA hP hD hS hl hret
  have hown : s.vm.findClass RX10 = some m.cls := hown
  have hl : lv_has ls 2 [(0, .ref q_), (1, .int i1)] := hl
  have hret : ∀ (r9 : Int32) (o9_hand_size : Int32) (o9_hand_posts : Nat → Int32), some (r9, o9_hand_size, o9_hand_posts) = some (r, o_hand_size, o_hand_posts) → ∀ (H : Heap) (locs : List Loc) (pc : Nat) (ls : Array Slot), narrow .int (.int r9) = .int r9 → decode cX10_put pc = .ok (.ireturn, 1) → va_P (dC, dI) vwCl [(q_, .inr (9, [.ref q_net, .ref q_view, .ref q_history, .ref q_hand, .ref q_trial, .ref q_bags, .ref q_chase, .ref q_costs, .ref q_sets, .ref q_trials])), (q_net, .inr (4, [.int x_net_posts, .int x_net_pairs, .ref q_net_widths, .ref q_net_lengths, .ref q_net_told, .ref q_net_behind])), (q_hand, .inr (5, [.ref q_hand_posts, .int o9_hand_size])), (q_hand_posts, .inl (cI, 11, .inl o9_hand_posts))] H → va_D A [(q_, .inr (9, [.ref q_net, .ref q_view, .ref q_history, .ref q_hand, .ref q_trial, .ref q_bags, .ref q_chase, .ref q_costs, .ref q_sets, .ref q_trials])), (q_net, .inr (4, [.int x_net_posts, .int x_net_pairs, .ref q_net_widths, .ref q_net_lengths, .ref q_net_told, .ref q_net_behind])), (q_hand, .inr (5, [.ref q_hand_posts, .int o9_hand_size])), (q_hand_posts, .inl (cI, 11, .inl o9_hand_posts))] → va_S A s.heap H locs → W p l e (rmK 3 82) s m args below meth c H locs 0 0 Q (F0 m pc ls [.int r9]) := by
    intro r9 o9_hand_size o9_hand_posts h9
    cases h9
    exact hret
  unfold f_X10_put at hf
  refine lv_aload_n hx hb dX10_put_0 rfl (lv_at hl 0 rfl) ?_
  refine va_get (D := (dC, dI)) (ci := 9) (v := .ref q_net) (C := RX10) (T := TX10) (N := 10) hx hb htb inX10 hown hK hP 0 rfl rfl 0 (Nat.le_of_ble_eq_true rfl) (htb _ t_278) (fun _ h9 => h9) rfl dX10_put_1 ?_
  refine lv_iload_n hx hb dX10_put_4 rfl (lv_at hl 1 rfl) ?_
  obtain ⟨v1, hv, hf⟩ := ob hf
  refine k_afterI (wr := [(q_, .inr (9, [.ref q_net, .ref q_view, .ref q_history, .ref q_hand, .ref q_trial, .ref q_bags, .ref q_chase, .ref q_costs, .ref q_sets, .ref q_trials])), (q_hand, .inr (5, [.ref q_hand_posts, .int x_hand_size])), (q_hand_posts, .inl (cI, 11, .inl x_hand_posts))]) (wn := [(q_, .inr (9, [.ref q_net, .ref q_view, .ref q_history, .ref q_hand, .ref q_trial, .ref q_bags, .ref q_chase, .ref q_costs, .ref q_sets, .ref q_trials])), (q_net, .inr (4, [.int x_net_posts, .int x_net_pairs, .ref q_net_widths, .ref q_net_lengths, .ref q_net_told, .ref q_net_behind])), (q_hand, .inr (5, [.ref q_hand_posts, .int x_hand_size])), (q_hand_posts, .inl (cI, 11, .inl x_hand_posts))]) (k_runV (rest := []) (ci := 4) (q0 := 1) hx hb hml hown htb hK hN (c_X4_has l dC dI cI cZ cN q_net q_net_widths q_net_lengths q_net_told q_net_behind x_net_posts x_net_pairs i1 v1 hv _) vf_X4_has t_353 hP hD [1] rfl rfl rfl rfl ⟨(Nat.le_of_ble_eq_true rfl), (Nat.le_of_ble_eq_true rfl)⟩ rfl hl.1 rfl (Nat.le_of_ble_eq_true rfl) dX10_put_5 ⟨Nat.zero_le _, Nat.zero_le _⟩) hA hP hD hS [1] [0, 2, 3] [0, 3, 1, 2] rfl rfl rfl rfl ?_
  clear hP hD hS
  intro H locs hP hD hS
  refine lv_if_eq (tgt := 23) hx hb dX10_put_8 (by decide) (fun c2 => ?_) (fun c2 => ?_)
  · have hf := ip c2 hf
    refine lv_bipush (v := (-3 : Int32)) hx hb dX10_put_23 (by decide) ?_
    exact hret _ _ _ hf _ _ _ _ rfl dX10_put_25 hP hD hS
  · have hf := im c2 hf
    refine lv_aload_n hx hb dX10_put_11 rfl (lv_at hl 0 rfl) ?_
    refine va_get (D := (dC, dI)) (ci := 9) (v := .ref q_hand) (C := RX10) (T := TX10) (N := 10) hx hb htb inX10 hown hK hP 0 rfl rfl 3 (Nat.le_of_ble_eq_true rfl) (htb _ t_281) (fun _ h9 => h9) rfl dX10_put_12 ?_
    refine lv_iload_n hx hb dX10_put_15 rfl (lv_at hl 1 rfl) ?_
    obtain ⟨v3, hv, hf⟩ := ob hf
    refine k_afterI (wr := [(q_, .inr (9, [.ref q_net, .ref q_view, .ref q_history, .ref q_hand, .ref q_trial, .ref q_bags, .ref q_chase, .ref q_costs, .ref q_sets, .ref q_trials])), (q_net, .inr (4, [.int x_net_posts, .int x_net_pairs, .ref q_net_widths, .ref q_net_lengths, .ref q_net_told, .ref q_net_behind]))]) (wn := [(q_, .inr (9, [.ref q_net, .ref q_view, .ref q_history, .ref q_hand, .ref q_trial, .ref q_bags, .ref q_chase, .ref q_costs, .ref q_sets, .ref q_trials])), (q_net, .inr (4, [.int x_net_posts, .int x_net_pairs, .ref q_net_widths, .ref q_net_lengths, .ref q_net_told, .ref q_net_behind])), (q_hand, .inr (5, [.ref q_hand_posts, .int x_hand_size])), (q_hand_posts, .inl (cI, 11, .inl x_hand_posts))]) (k_runV (rest := []) (ci := 5) (q0 := 2) hx hb hml hown htb hK hN (c_X5_placeOf l dC dI cI cZ cN q_hand q_hand_posts x_hand_size x_hand_posts i1 v3 hv _) vf_X5_placeOf t_435 hP hD [2, 3] rfl rfl rfl rfl ⟨(Nat.le_of_ble_eq_true rfl), (Nat.le_of_ble_eq_true rfl)⟩ rfl hl.1 rfl (Nat.le_of_ble_eq_true rfl) dX10_put_16 ⟨Nat.zero_le _, Nat.zero_le _⟩) hA hP hD hS [2, 3] [0, 1] [0, 1, 2, 3] rfl rfl rfl rfl ?_
    clear hP hD hS
    intro H locs hP hD hS
    refine lv_iconst (v := (-1 : Int32)) hx hb dX10_put_19 (by decide) ?_
    refine lv_icmp_eq (tgt := 26) hx hb dX10_put_20 (by decide) (fun c4 => ?_) (fun c4 => ?_)
    · have hf := ip c4 hf
      refine lv_aload_n hx hb dX10_put_26 rfl (lv_at hl 0 rfl) ?_
      refine va_get (D := (dC, dI)) (ci := 9) (v := .ref q_hand) (C := RX10) (T := TX10) (N := 10) hx hb htb inX10 hown hK hP 0 rfl rfl 3 (Nat.le_of_ble_eq_true rfl) (htb _ t_281) (fun _ h9 => h9) rfl dX10_put_27 ?_
      refine lv_iload_n hx hb dX10_put_30 rfl (lv_at hl 1 rfl) ?_
      obtain ⟨o5, o6, hv, hf⟩ := ob2 hf
      refine k_afterV (wr := [(q_, .inr (9, [.ref q_net, .ref q_view, .ref q_history, .ref q_hand, .ref q_trial, .ref q_bags, .ref q_chase, .ref q_costs, .ref q_sets, .ref q_trials])), (q_net, .inr (4, [.int x_net_posts, .int x_net_pairs, .ref q_net_widths, .ref q_net_lengths, .ref q_net_told, .ref q_net_behind]))]) (wn := [(q_, .inr (9, [.ref q_net, .ref q_view, .ref q_history, .ref q_hand, .ref q_trial, .ref q_bags, .ref q_chase, .ref q_costs, .ref q_sets, .ref q_trials])), (q_net, .inr (4, [.int x_net_posts, .int x_net_pairs, .ref q_net_widths, .ref q_net_lengths, .ref q_net_told, .ref q_net_behind])), (q_hand, .inr (5, [.ref q_hand_posts, .int o5])), (q_hand_posts, .inl (cI, 11, .inl o6))]) (k_runV (rest := []) (ci := 5) (q0 := 2) hx hb hml hown htb hK hN (c_X5_append l dC dI cI cZ cN q_hand q_hand_posts x_hand_size x_hand_posts i1 o5 o6 hv _) vf_X5_append t_439 hP hD [2, 3] rfl rfl rfl rfl ⟨(Nat.le_of_ble_eq_true rfl), (Nat.le_of_ble_eq_true rfl)⟩ rfl hl.1 rfl (Nat.le_of_ble_eq_true rfl) dX10_put_31 ⟨Nat.zero_le _, Nat.zero_le _⟩) hA hP hD hS [2, 3] [0, 1] [0, 1, 2, 3] rfl rfl rfl rfl ?_
      clear hP hD hS
      intro H locs hP hD hS
      refine lv_aload_n hx hb dX10_put_34 rfl (lv_at hl 0 rfl) ?_
      refine va_get (D := (dC, dI)) (ci := 9) (v := .ref q_hand) (C := RX10) (T := TX10) (N := 10) hx hb htb inX10 hown hK hP 0 rfl rfl 3 (Nat.le_of_ble_eq_true rfl) (htb _ t_281) (fun _ h9 => h9) rfl dX10_put_35 ?_
      refine va_get (D := (dC, dI)) (ci := 5) (v := .int o5) (C := RX5) (T := TX5) (N := 2) hx hb htb inX5 hown hK hP 2 rfl rfl 1 (Nat.le_of_ble_eq_true rfl) (htb _ t_138) (fun _ h9 => h9) rfl dX10_put_38 ?_
      exact hret _ _ _ hf _ _ _ _ rfl dX10_put_41 hP hD hS
    · have hf := im c4 hf
      refine lv_bipush (v := (-3 : Int32)) hx hb dX10_put_23 (by decide) ?_
      exact hret _ _ _ hf _ _ _ _ rfl dX10_put_25 hP hD hS
theorem vf_X10_at : VF yX10_at cX10_at 2 (some .int) 1 := ⟨t_444, t_445, t_1, t_446, by decide +kernel, by decide +kernel, by decide +kernel⟩
theorem dX10_at_0 : decode cX10_at 0 = .ok (.aload_n 0, 1) := by decide +kernel
theorem dX10_at_1 : decode cX10_at 1 = .ok (.getfield 33, 3) := by decide +kernel
theorem dX10_at_4 : decode cX10_at 4 = .ok (.iload_n 1, 1) := by decide +kernel
theorem dX10_at_5 : decode cX10_at 5 = .ok (.invokevirtual 165, 3) := by decide +kernel
theorem dX10_at_8 : decode cX10_at 8 = .ok (.ifCond .eq 15, 3) := by decide +kernel
theorem dX10_at_11 : decode cX10_at 11 = .ok (.aload_n 0, 1) := by decide +kernel
theorem dX10_at_12 : decode cX10_at 12 = .ok (.getfield 33, 3) := by decide +kernel
theorem dX10_at_15 : decode cX10_at 15 = .ok (.getfield 168, 3) := by decide +kernel
theorem dX10_at_18 : decode cX10_at 18 = .ok (.iload_n 1, 1) := by decide +kernel
theorem dX10_at_19 : decode cX10_at 19 = .ok (.iaload, 1) := by decide +kernel
theorem dX10_at_20 : decode cX10_at 20 = .ok (.goto 5, 3) := by decide +kernel
theorem dX10_at_23 : decode cX10_at 23 = .ok (.bipush (-3), 2) := by decide +kernel
theorem dX10_at_25 : decode cX10_at 25 = .ok (.ireturn, 1) := by decide +kernel
noncomputable def f_X10_at (x_hand_size : Int32) (x_hand_posts : Nat → Int32) (i1 : Int32) : Option (Int32) :=
  (f_X5_hasPlace x_hand_size i1).bind fun v1 =>
  if v1 = 0 then (some ((-3 : Int32))) else ((gi x_hand_posts 11 i1).bind fun v3 =>
  some (v3))
set_option maxHeartbeats 4000000 in
set_option maxRecDepth 100000 in
theorem c_X10_at (l : Launch) (dC : Nat → ClassId) (dI : Nat → Nat → Nat) (cI cZ cN : ClassId) (q_ : Nat) (q_net : Nat) (q_view : Nat) (q_history : Nat) (q_hand : Nat) (q_trial : Nat) (q_bags : Nat) (q_chase : Nat) (q_costs : Nat) (q_sets : Nat) (q_trials : Nat) (q_hand_posts : Nat) (x_hand_size : Int32) (x_hand_posts : Nat → Int32) (i1 : Int32) (r : Int32) (hf : f_X10_at x_hand_size x_hand_posts i1 = some r) : CI l yX10_at cX10_at 2 (some .int) 3 81 (dC, dI) (TY cI cZ cN) [.ref q_, .int i1] [(q_, .inr (9, [.ref q_net, .ref q_view, .ref q_history, .ref q_hand, .ref q_trial, .ref q_bags, .ref q_chase, .ref q_costs, .ref q_sets, .ref q_trials])), (q_hand, .inr (5, [.ref q_hand_posts, .int x_hand_size])), (q_hand_posts, .inl (cI, 11, .inl x_hand_posts))] [(q_, .inr (9, [.ref q_net, .ref q_view, .ref q_history, .ref q_hand, .ref q_trial, .ref q_bags, .ref q_chase, .ref q_costs, .ref q_sets, .ref q_trials])), (q_hand, .inr (5, [.ref q_hand_posts, .int x_hand_size])), (q_hand_posts, .inl (cI, 11, .inl x_hand_posts))] r := by
  refine CI.of rfl (by decide) (Nat.le_of_ble_eq_true rfl) ?_
  intro p e s m args below meth c Q A ls hx hb hml hown htb hK hN hA hP hD hS hl hret
  have hown : s.vm.findClass RX10 = some m.cls := hown
  have hl : lv_has ls 2 [(0, .ref q_), (1, .int i1)] := hl
  have hret : ∀ (r9 : Int32), some r9 = some r → ∀ (H : Heap) (locs : List Loc) (pc : Nat) (ls : Array Slot), narrow .int (.int r9) = .int r9 → decode cX10_at pc = .ok (.ireturn, 1) → va_P (dC, dI) vwCl [(q_, .inr (9, [.ref q_net, .ref q_view, .ref q_history, .ref q_hand, .ref q_trial, .ref q_bags, .ref q_chase, .ref q_costs, .ref q_sets, .ref q_trials])), (q_hand, .inr (5, [.ref q_hand_posts, .int x_hand_size])), (q_hand_posts, .inl (cI, 11, .inl x_hand_posts))] H → va_D A [(q_, .inr (9, [.ref q_net, .ref q_view, .ref q_history, .ref q_hand, .ref q_trial, .ref q_bags, .ref q_chase, .ref q_costs, .ref q_sets, .ref q_trials])), (q_hand, .inr (5, [.ref q_hand_posts, .int x_hand_size])), (q_hand_posts, .inl (cI, 11, .inl x_hand_posts))] → va_S A s.heap H locs → W p l e (rmK 3 81) s m args below meth c H locs 0 0 Q (F0 m pc ls [.int r9]) := by
    intro r9 h9
    cases h9
    exact hret
  unfold f_X10_at at hf
  refine lv_aload_n hx hb dX10_at_0 rfl (lv_at hl 0 rfl) ?_
  refine va_get (D := (dC, dI)) (ci := 9) (v := .ref q_hand) (C := RX10) (T := TX10) (N := 10) hx hb htb inX10 hown hK hP 0 rfl rfl 3 (Nat.le_of_ble_eq_true rfl) (htb _ t_281) (fun _ h9 => h9) rfl dX10_at_1 ?_
  refine lv_iload_n hx hb dX10_at_4 rfl (lv_at hl 1 rfl) ?_
  obtain ⟨v1, hv, hf⟩ := ob hf
  refine k_afterI (wr := [(q_, .inr (9, [.ref q_net, .ref q_view, .ref q_history, .ref q_hand, .ref q_trial, .ref q_bags, .ref q_chase, .ref q_costs, .ref q_sets, .ref q_trials])), (q_hand_posts, .inl (cI, 11, .inl x_hand_posts))]) (wn := [(q_, .inr (9, [.ref q_net, .ref q_view, .ref q_history, .ref q_hand, .ref q_trial, .ref q_bags, .ref q_chase, .ref q_costs, .ref q_sets, .ref q_trials])), (q_hand, .inr (5, [.ref q_hand_posts, .int x_hand_size])), (q_hand_posts, .inl (cI, 11, .inl x_hand_posts))]) (k_runV (rest := []) (ci := 5) (q0 := 1) hx hb hml hown htb hK hN (c_X5_hasPlace l dC dI cI cZ cN q_hand q_hand_posts x_hand_size i1 v1 hv _) vf_X5_hasPlace t_447 hP hD [1] rfl rfl rfl rfl ⟨(Nat.le_of_ble_eq_true rfl), (Nat.le_of_ble_eq_true rfl)⟩ rfl hl.1 rfl (Nat.le_of_ble_eq_true rfl) dX10_at_5 ⟨Nat.zero_le _, Nat.zero_le _⟩) hA hP hD hS [1] [0, 2] [0, 2, 1] rfl rfl rfl rfl ?_
  clear hP hD hS
  intro H locs hP hD hS
  refine lv_if_eq (tgt := 23) hx hb dX10_at_8 (by decide) (fun c2 => ?_) (fun c2 => ?_)
  · have hf := ip c2 hf
    refine lv_bipush (v := (-3 : Int32)) hx hb dX10_at_23 (by decide) ?_
    exact hret _ hf _ _ _ _ rfl dX10_at_25 hP hD hS
  · have hf := im c2 hf
    refine lv_aload_n hx hb dX10_at_11 rfl (lv_at hl 0 rfl) ?_
    refine va_get (D := (dC, dI)) (ci := 9) (v := .ref q_hand) (C := RX10) (T := TX10) (N := 10) hx hb htb inX10 hown hK hP 0 rfl rfl 3 (Nat.le_of_ble_eq_true rfl) (htb _ t_281) (fun _ h9 => h9) rfl dX10_at_12 ?_
    refine va_get (D := (dC, dI)) (ci := 5) (v := .ref q_hand_posts) (C := RX5) (T := TX5) (N := 2) hx hb htb inX5 hown hK hP 1 rfl rfl 0 (Nat.le_of_ble_eq_true rfl) (htb _ t_132) (fun _ h9 => h9) rfl dX10_at_15 ?_
    refine lv_iload_n hx hb dX10_at_18 rfl (lv_at hl 1 rfl) ?_
    obtain ⟨v3, hv, hf⟩ := ob hf
    refine k_iald hx hb hK hP 2 0 rfl rfl hv dX10_at_19 ?_
    refine lv_goto (tgt := 25) hx hb dX10_at_20 (by decide) ?_
    exact hret _ hf _ _ _ _ rfl dX10_at_25 hP hD hS
theorem vf_X10_move : VF yX10_move cX10_move 3 (some .int) 2 := ⟨t_452, t_453, t_1, t_454, by decide +kernel, by decide +kernel, by decide +kernel⟩
theorem dX10_move_0 : decode cX10_move 0 = .ok (.aload_n 0, 1) := by decide +kernel
theorem dX10_move_1 : decode cX10_move 1 = .ok (.getfield 33, 3) := by decide +kernel
theorem dX10_move_4 : decode cX10_move 4 = .ok (.iload_n 1, 1) := by decide +kernel
theorem dX10_move_5 : decode cX10_move 5 = .ok (.invokevirtual 165, 3) := by decide +kernel
theorem dX10_move_8 : decode cX10_move 8 = .ok (.ifCond .eq 14, 3) := by decide +kernel
theorem dX10_move_11 : decode cX10_move 11 = .ok (.aload_n 0, 1) := by decide +kernel
theorem dX10_move_12 : decode cX10_move 12 = .ok (.getfield 33, 3) := by decide +kernel
theorem dX10_move_15 : decode cX10_move 15 = .ok (.iload_n 2, 1) := by decide +kernel
theorem dX10_move_16 : decode cX10_move 16 = .ok (.invokevirtual 165, 3) := by decide +kernel
theorem dX10_move_19 : decode cX10_move 19 = .ok (.ifCond .ne 6, 3) := by decide +kernel
theorem dX10_move_22 : decode cX10_move 22 = .ok (.bipush (-3), 2) := by decide +kernel
theorem dX10_move_24 : decode cX10_move 24 = .ok (.ireturn, 1) := by decide +kernel
theorem dX10_move_25 : decode cX10_move 25 = .ok (.aload_n 0, 1) := by decide +kernel
theorem dX10_move_26 : decode cX10_move 26 = .ok (.getfield 33, 3) := by decide +kernel
theorem dX10_move_29 : decode cX10_move 29 = .ok (.iload_n 1, 1) := by decide +kernel
theorem dX10_move_30 : decode cX10_move 30 = .ok (.iload_n 2, 1) := by decide +kernel
theorem dX10_move_31 : decode cX10_move 31 = .ok (.invokevirtual 170, 3) := by decide +kernel
theorem dX10_move_34 : decode cX10_move 34 = .ok (.iconst 0, 1) := by decide +kernel
theorem dX10_move_35 : decode cX10_move 35 = .ok (.ireturn, 1) := by decide +kernel
noncomputable def f_X10_move (x_hand_size : Int32) (x_hand_posts : Nat → Int32) (i1 : Int32) (i2 : Int32) : Option (Int32 × (Nat → Int32)) :=
  (f_X5_hasPlace x_hand_size i1).bind fun v1 =>
  if v1 = 0 then (some (((-3 : Int32), x_hand_posts))) else ((f_X5_hasPlace x_hand_size i2).bind fun v3 =>
  if v3 = 0 then (some (((-3 : Int32), x_hand_posts))) else ((f_X5_shift x_hand_posts i1 i2).bind fun o5 =>
  some (((0 : Int32), o5))))
set_option maxHeartbeats 4000000 in
set_option maxRecDepth 100000 in
theorem c_X10_move (l : Launch) (dC : Nat → ClassId) (dI : Nat → Nat → Nat) (cI cZ cN : ClassId) (q_ : Nat) (q_net : Nat) (q_view : Nat) (q_history : Nat) (q_hand : Nat) (q_trial : Nat) (q_bags : Nat) (q_chase : Nat) (q_costs : Nat) (q_sets : Nat) (q_trials : Nat) (q_hand_posts : Nat) (x_hand_size : Int32) (x_hand_posts : Nat → Int32) (i1 i2 : Int32) (r : Int32) (o_hand_posts : Nat → Int32) (hf : f_X10_move x_hand_size x_hand_posts i1 i2 = some (r, o_hand_posts)) : CI l yX10_move cX10_move 3 (some .int) 3 84 (dC, dI) (TY cI cZ cN) [.ref q_, .int i1, .int i2] [(q_, .inr (9, [.ref q_net, .ref q_view, .ref q_history, .ref q_hand, .ref q_trial, .ref q_bags, .ref q_chase, .ref q_costs, .ref q_sets, .ref q_trials])), (q_hand, .inr (5, [.ref q_hand_posts, .int x_hand_size])), (q_hand_posts, .inl (cI, 11, .inl x_hand_posts))] [(q_, .inr (9, [.ref q_net, .ref q_view, .ref q_history, .ref q_hand, .ref q_trial, .ref q_bags, .ref q_chase, .ref q_costs, .ref q_sets, .ref q_trials])), (q_hand, .inr (5, [.ref q_hand_posts, .int x_hand_size])), (q_hand_posts, .inl (cI, 11, .inl o_hand_posts))] r := by
  refine CI.of rfl (by decide) (Nat.le_of_ble_eq_true rfl) ?_
  intro p e s m args below meth c Q A ls hx hb hml hown htb hK hN hA hP hD hS hl hret
  have hown : s.vm.findClass RX10 = some m.cls := hown
  have hl : lv_has ls 3 [(0, .ref q_), (1, .int i1), (2, .int i2)] := hl
  have hret : ∀ (r9 : Int32) (o9_hand_posts : Nat → Int32), some (r9, o9_hand_posts) = some (r, o_hand_posts) → ∀ (H : Heap) (locs : List Loc) (pc : Nat) (ls : Array Slot), narrow .int (.int r9) = .int r9 → decode cX10_move pc = .ok (.ireturn, 1) → va_P (dC, dI) vwCl [(q_, .inr (9, [.ref q_net, .ref q_view, .ref q_history, .ref q_hand, .ref q_trial, .ref q_bags, .ref q_chase, .ref q_costs, .ref q_sets, .ref q_trials])), (q_hand, .inr (5, [.ref q_hand_posts, .int x_hand_size])), (q_hand_posts, .inl (cI, 11, .inl o9_hand_posts))] H → va_D A [(q_, .inr (9, [.ref q_net, .ref q_view, .ref q_history, .ref q_hand, .ref q_trial, .ref q_bags, .ref q_chase, .ref q_costs, .ref q_sets, .ref q_trials])), (q_hand, .inr (5, [.ref q_hand_posts, .int x_hand_size])), (q_hand_posts, .inl (cI, 11, .inl o9_hand_posts))] → va_S A s.heap H locs → W p l e (rmK 3 84) s m args below meth c H locs 0 0 Q (F0 m pc ls [.int r9]) := by
    intro r9 o9_hand_posts h9
    cases h9
    exact hret
  unfold f_X10_move at hf
  refine lv_aload_n hx hb dX10_move_0 rfl (lv_at hl 0 rfl) ?_
  refine va_get (D := (dC, dI)) (ci := 9) (v := .ref q_hand) (C := RX10) (T := TX10) (N := 10) hx hb htb inX10 hown hK hP 0 rfl rfl 3 (Nat.le_of_ble_eq_true rfl) (htb _ t_281) (fun _ h9 => h9) rfl dX10_move_1 ?_
  refine lv_iload_n hx hb dX10_move_4 rfl (lv_at hl 1 rfl) ?_
  obtain ⟨v1, hv, hf⟩ := ob hf
  refine k_afterI (wr := [(q_, .inr (9, [.ref q_net, .ref q_view, .ref q_history, .ref q_hand, .ref q_trial, .ref q_bags, .ref q_chase, .ref q_costs, .ref q_sets, .ref q_trials])), (q_hand_posts, .inl (cI, 11, .inl x_hand_posts))]) (wn := [(q_, .inr (9, [.ref q_net, .ref q_view, .ref q_history, .ref q_hand, .ref q_trial, .ref q_bags, .ref q_chase, .ref q_costs, .ref q_sets, .ref q_trials])), (q_hand, .inr (5, [.ref q_hand_posts, .int x_hand_size])), (q_hand_posts, .inl (cI, 11, .inl x_hand_posts))]) (k_runV (rest := []) (ci := 5) (q0 := 1) hx hb hml hown htb hK hN (c_X5_hasPlace l dC dI cI cZ cN q_hand q_hand_posts x_hand_size i1 v1 hv _) vf_X5_hasPlace t_447 hP hD [1] rfl rfl rfl rfl ⟨(Nat.le_of_ble_eq_true rfl), (Nat.le_of_ble_eq_true rfl)⟩ rfl hl.1 rfl (Nat.le_of_ble_eq_true rfl) dX10_move_5 ⟨Nat.zero_le _, Nat.zero_le _⟩) hA hP hD hS [1] [0, 2] [0, 2, 1] rfl rfl rfl rfl ?_
  clear hP hD hS
  intro H locs hP hD hS
  refine lv_if_eq (tgt := 22) hx hb dX10_move_8 (by decide) (fun c2 => ?_) (fun c2 => ?_)
  · have hf := ip c2 hf
    refine lv_bipush (v := (-3 : Int32)) hx hb dX10_move_22 (by decide) ?_
    exact hret _ _ hf _ _ _ _ rfl dX10_move_24 hP hD hS
  · have hf := im c2 hf
    refine lv_aload_n hx hb dX10_move_11 rfl (lv_at hl 0 rfl) ?_
    refine va_get (D := (dC, dI)) (ci := 9) (v := .ref q_hand) (C := RX10) (T := TX10) (N := 10) hx hb htb inX10 hown hK hP 0 rfl rfl 3 (Nat.le_of_ble_eq_true rfl) (htb _ t_281) (fun _ h9 => h9) rfl dX10_move_12 ?_
    refine lv_iload_n hx hb dX10_move_15 rfl (lv_at hl 2 rfl) ?_
    obtain ⟨v3, hv, hf⟩ := ob hf
    refine k_afterI (wr := [(q_, .inr (9, [.ref q_net, .ref q_view, .ref q_history, .ref q_hand, .ref q_trial, .ref q_bags, .ref q_chase, .ref q_costs, .ref q_sets, .ref q_trials])), (q_hand_posts, .inl (cI, 11, .inl x_hand_posts))]) (wn := [(q_, .inr (9, [.ref q_net, .ref q_view, .ref q_history, .ref q_hand, .ref q_trial, .ref q_bags, .ref q_chase, .ref q_costs, .ref q_sets, .ref q_trials])), (q_hand, .inr (5, [.ref q_hand_posts, .int x_hand_size])), (q_hand_posts, .inl (cI, 11, .inl x_hand_posts))]) (k_runV (rest := []) (ci := 5) (q0 := 1) hx hb hml hown htb hK hN (c_X5_hasPlace l dC dI cI cZ cN q_hand q_hand_posts x_hand_size i2 v3 hv _) vf_X5_hasPlace t_447 hP hD [1] rfl rfl rfl rfl ⟨(Nat.le_of_ble_eq_true rfl), (Nat.le_of_ble_eq_true rfl)⟩ rfl hl.1 rfl (Nat.le_of_ble_eq_true rfl) dX10_move_16 ⟨Nat.zero_le _, Nat.zero_le _⟩) hA hP hD hS [1] [0, 2] [0, 2, 1] rfl rfl rfl rfl ?_
    clear hP hD hS
    intro H locs hP hD hS
    refine lv_if_ne (tgt := 25) hx hb dX10_move_19 (by decide) (fun c4 => ?_) (fun c4 => ?_)
    · have hf := im c4 hf
      refine lv_aload_n hx hb dX10_move_25 rfl (lv_at hl 0 rfl) ?_
      refine va_get (D := (dC, dI)) (ci := 9) (v := .ref q_hand) (C := RX10) (T := TX10) (N := 10) hx hb htb inX10 hown hK hP 0 rfl rfl 3 (Nat.le_of_ble_eq_true rfl) (htb _ t_281) (fun _ h9 => h9) rfl dX10_move_26 ?_
      refine lv_iload_n hx hb dX10_move_29 rfl (lv_at hl 1 rfl) ?_
      refine lv_iload_n hx hb dX10_move_30 rfl (lv_at hl 2 rfl) ?_
      obtain ⟨o5, hv, hf⟩ := ob hf
      refine k_afterV (wr := [(q_, .inr (9, [.ref q_net, .ref q_view, .ref q_history, .ref q_hand, .ref q_trial, .ref q_bags, .ref q_chase, .ref q_costs, .ref q_sets, .ref q_trials]))]) (wn := [(q_, .inr (9, [.ref q_net, .ref q_view, .ref q_history, .ref q_hand, .ref q_trial, .ref q_bags, .ref q_chase, .ref q_costs, .ref q_sets, .ref q_trials])), (q_hand, .inr (5, [.ref q_hand_posts, .int x_hand_size])), (q_hand_posts, .inl (cI, 11, .inl o5))]) (k_runV (rest := []) (ci := 5) (q0 := 1) hx hb hml hown htb hK hN (c_X5_shift l dC dI cI cZ cN q_hand q_hand_posts x_hand_size x_hand_posts i1 i2 o5 hv _) vf_X5_shift t_455 hP hD [1, 2] rfl rfl rfl rfl ⟨(Nat.le_of_ble_eq_true rfl), (Nat.le_of_ble_eq_true rfl)⟩ rfl hl.1 rfl (Nat.le_of_ble_eq_true rfl) dX10_move_31 ⟨Nat.zero_le _, Nat.zero_le _⟩) hA hP hD hS [1, 2] [0] [0, 1, 2] rfl rfl rfl rfl ?_
      clear hP hD hS
      intro H locs hP hD hS
      refine lv_iconst (v := (0 : Int32)) hx hb dX10_move_34 (by decide) ?_
      exact hret _ _ hf _ _ _ _ rfl dX10_move_35 hP hD hS
    · have hf := ip c4 hf
      refine lv_bipush (v := (-3 : Int32)) hx hb dX10_move_22 (by decide) ?_
      exact hret _ _ hf _ _ _ _ rfl dX10_move_24 hP hD hS
theorem vf_X10_cost : VF yX10_cost cX10_cost 2 (some .int) 1 := ⟨t_460, t_461, t_1, t_462, by decide +kernel, by decide +kernel, by decide +kernel⟩
theorem dX10_cost_0 : decode cX10_cost 0 = .ok (.iload_n 1, 1) := by decide +kernel
theorem dX10_cost_1 : decode cX10_cost 1 = .ok (.invokestatic 174, 3) := by decide +kernel
theorem dX10_cost_4 : decode cX10_cost 4 = .ok (.ifCond .ne 6, 3) := by decide +kernel
theorem dX10_cost_7 : decode cX10_cost 7 = .ok (.bipush (-3), 2) := by decide +kernel
theorem dX10_cost_9 : decode cX10_cost 9 = .ok (.ireturn, 1) := by decide +kernel
theorem dX10_cost_10 : decode cX10_cost 10 = .ok (.aload_n 0, 1) := by decide +kernel
theorem dX10_cost_11 : decode cX10_cost 11 = .ok (.getfield 33, 3) := by decide +kernel
theorem dX10_cost_14 : decode cX10_cost 14 = .ok (.aload_n 0, 1) := by decide +kernel
theorem dX10_cost_15 : decode cX10_cost 15 = .ok (.getfield 12, 3) := by decide +kernel
theorem dX10_cost_18 : decode cX10_cost 18 = .ok (.getfield 79, 3) := by decide +kernel
theorem dX10_cost_21 : decode cX10_cost 21 = .ok (.invokevirtual 177, 3) := by decide +kernel
theorem dX10_cost_24 : decode cX10_cost 24 = .ok (.ifCond .ne 6, 3) := by decide +kernel
theorem dX10_cost_27 : decode cX10_cost 27 = .ok (.bipush (-4), 2) := by decide +kernel
theorem dX10_cost_29 : decode cX10_cost 29 = .ok (.ireturn, 1) := by decide +kernel
theorem dX10_cost_30 : decode cX10_cost 30 = .ok (.aload_n 0, 1) := by decide +kernel
theorem dX10_cost_31 : decode cX10_cost 31 = .ok (.getfield 59, 3) := by decide +kernel
theorem dX10_cost_34 : decode cX10_cost 34 = .ok (.iload_n 1, 1) := by decide +kernel
theorem dX10_cost_35 : decode cX10_cost 35 = .ok (.aload_n 0, 1) := by decide +kernel
theorem dX10_cost_36 : decode cX10_cost 36 = .ok (.getfield 33, 3) := by decide +kernel
theorem dX10_cost_39 : decode cX10_cost 39 = .ok (.invokevirtual 180, 3) := by decide +kernel
theorem dX10_cost_42 : decode cX10_cost 42 = .ok (.ireturn, 1) := by decide +kernel
noncomputable def f_X10_cost (x_net_posts : Int32) (x_view_posts : Int32) (x_view_weights : Nat → Int32) (x_view_near : Nat → Int32) (x_view_behind : Nat → Int32) (x_hand_size : Int32) (x_hand_posts : Nat → Int32) (i1 : Int32) : Option (Int32) :=
  (f_X10_isCost i1).bind fun v1 =>
  if v1 = 0 then (some ((-3 : Int32))) else ((f_X5_isWhole x_hand_size x_hand_posts x_net_posts).bind fun v3 =>
  if v3 = 0 then (some ((-4 : Int32))) else ((f_X2_costOf x_view_posts x_view_weights x_view_near x_view_behind x_hand_size x_hand_posts i1).bind fun v5 =>
  some (v5)))
set_option maxHeartbeats 4000000 in
set_option maxRecDepth 100000 in
theorem c_X10_cost (l : Launch) (dC : Nat → ClassId) (dI : Nat → Nat → Nat) (cI cZ cN : ClassId) (q_ : Nat) (q_net : Nat) (q_view : Nat) (q_history : Nat) (q_hand : Nat) (q_trial : Nat) (q_bags : Nat) (q_chase : Nat) (q_costs : Nat) (q_sets : Nat) (q_trials : Nat) (q_net_widths : Nat) (q_net_lengths : Nat) (q_net_told : Nat) (q_net_behind : Nat) (q_view_weights : Nat) (q_view_near : Nat) (q_view_behind : Nat) (q_view_ahead : Nat) (q_hand_posts : Nat) (x_net_posts : Int32) (x_net_pairs : Int32) (x_view_posts : Int32) (x_view_roads : Int32) (x_view_weight : Int32) (x_view_weights : Nat → Int32) (x_view_near : Nat → Int32) (x_view_behind : Nat → Int32) (x_hand_size : Int32) (x_hand_posts : Nat → Int32) (i1 : Int32) (r : Int32) (hf : f_X10_cost x_net_posts x_view_posts x_view_weights x_view_near x_view_behind x_hand_size x_hand_posts i1 = some r) : CI l yX10_cost cX10_cost 2 (some .int) 6 158 (dC, dI) (TY cI cZ cN) [.ref q_, .int i1] [(q_, .inr (9, [.ref q_net, .ref q_view, .ref q_history, .ref q_hand, .ref q_trial, .ref q_bags, .ref q_chase, .ref q_costs, .ref q_sets, .ref q_trials])), (q_net, .inr (4, [.int x_net_posts, .int x_net_pairs, .ref q_net_widths, .ref q_net_lengths, .ref q_net_told, .ref q_net_behind])), (q_view, .inr (8, [.int x_view_posts, .int x_view_roads, .int x_view_weight, .ref q_view_weights, .ref q_view_near, .ref q_view_behind, .ref q_view_ahead])), (q_view_weights, .inl (cI, 121, .inl x_view_weights)), (q_view_near, .inl (cI, 11, .inl x_view_near)), (q_view_behind, .inl (cI, 11, .inl x_view_behind)), (q_hand, .inr (5, [.ref q_hand_posts, .int x_hand_size])), (q_hand_posts, .inl (cI, 11, .inl x_hand_posts)), (q_costs, .inr (2, [.ref q_view]))] [(q_, .inr (9, [.ref q_net, .ref q_view, .ref q_history, .ref q_hand, .ref q_trial, .ref q_bags, .ref q_chase, .ref q_costs, .ref q_sets, .ref q_trials])), (q_net, .inr (4, [.int x_net_posts, .int x_net_pairs, .ref q_net_widths, .ref q_net_lengths, .ref q_net_told, .ref q_net_behind])), (q_view, .inr (8, [.int x_view_posts, .int x_view_roads, .int x_view_weight, .ref q_view_weights, .ref q_view_near, .ref q_view_behind, .ref q_view_ahead])), (q_view_weights, .inl (cI, 121, .inl x_view_weights)), (q_view_near, .inl (cI, 11, .inl x_view_near)), (q_view_behind, .inl (cI, 11, .inl x_view_behind)), (q_hand, .inr (5, [.ref q_hand_posts, .int x_hand_size])), (q_hand_posts, .inl (cI, 11, .inl x_hand_posts)), (q_costs, .inr (2, [.ref q_view]))] r := by
  refine CI.of rfl (by decide) (Nat.le_of_ble_eq_true rfl) ?_
  intro p e s m args below meth c Q A ls hx hb hml hown htb hK hN hA hP hD hS hl hret
  have hown : s.vm.findClass RX10 = some m.cls := hown
  have hl : lv_has ls 2 [(0, .ref q_), (1, .int i1)] := hl
  have hret : ∀ (r9 : Int32), some r9 = some r → ∀ (H : Heap) (locs : List Loc) (pc : Nat) (ls : Array Slot), narrow .int (.int r9) = .int r9 → decode cX10_cost pc = .ok (.ireturn, 1) → va_P (dC, dI) vwCl [(q_, .inr (9, [.ref q_net, .ref q_view, .ref q_history, .ref q_hand, .ref q_trial, .ref q_bags, .ref q_chase, .ref q_costs, .ref q_sets, .ref q_trials])), (q_net, .inr (4, [.int x_net_posts, .int x_net_pairs, .ref q_net_widths, .ref q_net_lengths, .ref q_net_told, .ref q_net_behind])), (q_view, .inr (8, [.int x_view_posts, .int x_view_roads, .int x_view_weight, .ref q_view_weights, .ref q_view_near, .ref q_view_behind, .ref q_view_ahead])), (q_view_weights, .inl (cI, 121, .inl x_view_weights)), (q_view_near, .inl (cI, 11, .inl x_view_near)), (q_view_behind, .inl (cI, 11, .inl x_view_behind)), (q_hand, .inr (5, [.ref q_hand_posts, .int x_hand_size])), (q_hand_posts, .inl (cI, 11, .inl x_hand_posts)), (q_costs, .inr (2, [.ref q_view]))] H → va_D A [(q_, .inr (9, [.ref q_net, .ref q_view, .ref q_history, .ref q_hand, .ref q_trial, .ref q_bags, .ref q_chase, .ref q_costs, .ref q_sets, .ref q_trials])), (q_net, .inr (4, [.int x_net_posts, .int x_net_pairs, .ref q_net_widths, .ref q_net_lengths, .ref q_net_told, .ref q_net_behind])), (q_view, .inr (8, [.int x_view_posts, .int x_view_roads, .int x_view_weight, .ref q_view_weights, .ref q_view_near, .ref q_view_behind, .ref q_view_ahead])), (q_view_weights, .inl (cI, 121, .inl x_view_weights)), (q_view_near, .inl (cI, 11, .inl x_view_near)), (q_view_behind, .inl (cI, 11, .inl x_view_behind)), (q_hand, .inr (5, [.ref q_hand_posts, .int x_hand_size])), (q_hand_posts, .inl (cI, 11, .inl x_hand_posts)), (q_costs, .inr (2, [.ref q_view]))] → va_S A s.heap H locs → W p l e (rmK 6 158) s m args below meth c H locs 0 0 Q (F0 m pc ls [.int r9]) := by
    intro r9 h9
    cases h9
    exact hret
  unfold f_X10_cost at hf
  refine lv_iload_n hx hb dX10_cost_0 rfl (lv_at hl 1 rfl) ?_
  obtain ⟨v1, hv, hf⟩ := ob hf
  refine k_afterI (wr := [(q_, .inr (9, [.ref q_net, .ref q_view, .ref q_history, .ref q_hand, .ref q_trial, .ref q_bags, .ref q_chase, .ref q_costs, .ref q_sets, .ref q_trials])), (q_net, .inr (4, [.int x_net_posts, .int x_net_pairs, .ref q_net_widths, .ref q_net_lengths, .ref q_net_told, .ref q_net_behind])), (q_view, .inr (8, [.int x_view_posts, .int x_view_roads, .int x_view_weight, .ref q_view_weights, .ref q_view_near, .ref q_view_behind, .ref q_view_ahead])), (q_view_weights, .inl (cI, 121, .inl x_view_weights)), (q_view_near, .inl (cI, 11, .inl x_view_near)), (q_view_behind, .inl (cI, 11, .inl x_view_behind)), (q_hand, .inr (5, [.ref q_hand_posts, .int x_hand_size])), (q_hand_posts, .inl (cI, 11, .inl x_hand_posts)), (q_costs, .inr (2, [.ref q_view]))]) (wn := [(q_, .inr (9, [.ref q_net, .ref q_view, .ref q_history, .ref q_hand, .ref q_trial, .ref q_bags, .ref q_chase, .ref q_costs, .ref q_sets, .ref q_trials])), (q_net, .inr (4, [.int x_net_posts, .int x_net_pairs, .ref q_net_widths, .ref q_net_lengths, .ref q_net_told, .ref q_net_behind])), (q_view, .inr (8, [.int x_view_posts, .int x_view_roads, .int x_view_weight, .ref q_view_weights, .ref q_view_near, .ref q_view_behind, .ref q_view_ahead])), (q_view_weights, .inl (cI, 121, .inl x_view_weights)), (q_view_near, .inl (cI, 11, .inl x_view_near)), (q_view_behind, .inl (cI, 11, .inl x_view_behind)), (q_hand, .inr (5, [.ref q_hand_posts, .int x_hand_size])), (q_hand_posts, .inl (cI, 11, .inl x_hand_posts)), (q_costs, .inr (2, [.ref q_view]))]) (k_runS (rest := []) hx hb hml hown htb hK hN (c_X10_isCost l dC dI cI cZ cN i1 v1 hv _) sf_X10_isCost t_463 hP hD [] rfl rfl ⟨(Nat.le_of_ble_eq_true rfl), (Nat.le_of_ble_eq_true rfl)⟩ rfl hl.1 rfl (Nat.le_of_ble_eq_true rfl) dX10_cost_1 ⟨Nat.zero_le _, Nat.zero_le _⟩) hA hP hD hS [] [0, 1, 2, 3, 4, 5, 6, 7, 8] [0, 1, 2, 3, 4, 5, 6, 7, 8] rfl rfl rfl rfl ?_
  clear hP hD hS
  intro H locs hP hD hS
  refine lv_if_ne (tgt := 10) hx hb dX10_cost_4 (by decide) (fun c2 => ?_) (fun c2 => ?_)
  · have hf := im c2 hf
    refine lv_aload_n hx hb dX10_cost_10 rfl (lv_at hl 0 rfl) ?_
    refine va_get (D := (dC, dI)) (ci := 9) (v := .ref q_hand) (C := RX10) (T := TX10) (N := 10) hx hb htb inX10 hown hK hP 0 rfl rfl 3 (Nat.le_of_ble_eq_true rfl) (htb _ t_281) (fun _ h9 => h9) rfl dX10_cost_11 ?_
    refine lv_aload_n hx hb dX10_cost_14 rfl (lv_at hl 0 rfl) ?_
    refine va_get (D := (dC, dI)) (ci := 9) (v := .ref q_net) (C := RX10) (T := TX10) (N := 10) hx hb htb inX10 hown hK hP 0 rfl rfl 0 (Nat.le_of_ble_eq_true rfl) (htb _ t_278) (fun _ h9 => h9) rfl dX10_cost_15 ?_
    refine va_get (D := (dC, dI)) (ci := 4) (v := .int x_net_posts) (C := RX4) (T := TX4) (N := 6) hx hb htb inX4 hown hK hP 1 rfl rfl 0 (Nat.le_of_ble_eq_true rfl) (htb _ t_35) (fun _ h9 => h9) rfl dX10_cost_18 ?_
    obtain ⟨v3, hv, hf⟩ := ob hf
    refine k_afterI (wr := [(q_, .inr (9, [.ref q_net, .ref q_view, .ref q_history, .ref q_hand, .ref q_trial, .ref q_bags, .ref q_chase, .ref q_costs, .ref q_sets, .ref q_trials])), (q_net, .inr (4, [.int x_net_posts, .int x_net_pairs, .ref q_net_widths, .ref q_net_lengths, .ref q_net_told, .ref q_net_behind])), (q_view, .inr (8, [.int x_view_posts, .int x_view_roads, .int x_view_weight, .ref q_view_weights, .ref q_view_near, .ref q_view_behind, .ref q_view_ahead])), (q_view_weights, .inl (cI, 121, .inl x_view_weights)), (q_view_near, .inl (cI, 11, .inl x_view_near)), (q_view_behind, .inl (cI, 11, .inl x_view_behind)), (q_costs, .inr (2, [.ref q_view]))]) (wn := [(q_, .inr (9, [.ref q_net, .ref q_view, .ref q_history, .ref q_hand, .ref q_trial, .ref q_bags, .ref q_chase, .ref q_costs, .ref q_sets, .ref q_trials])), (q_net, .inr (4, [.int x_net_posts, .int x_net_pairs, .ref q_net_widths, .ref q_net_lengths, .ref q_net_told, .ref q_net_behind])), (q_view, .inr (8, [.int x_view_posts, .int x_view_roads, .int x_view_weight, .ref q_view_weights, .ref q_view_near, .ref q_view_behind, .ref q_view_ahead])), (q_view_weights, .inl (cI, 121, .inl x_view_weights)), (q_view_near, .inl (cI, 11, .inl x_view_near)), (q_view_behind, .inl (cI, 11, .inl x_view_behind)), (q_hand, .inr (5, [.ref q_hand_posts, .int x_hand_size])), (q_hand_posts, .inl (cI, 11, .inl x_hand_posts)), (q_costs, .inr (2, [.ref q_view]))]) (k_runV (rest := []) (ci := 5) (q0 := 6) hx hb hml hown htb hK hN (c_X5_isWhole l dC dI cI cZ cN q_hand q_hand_posts x_hand_size x_hand_posts x_net_posts v3 hv _) vf_X5_isWhole t_466 hP hD [6, 7] rfl rfl rfl rfl ⟨(Nat.le_of_ble_eq_true rfl), (Nat.le_of_ble_eq_true rfl)⟩ rfl hl.1 rfl (Nat.le_of_ble_eq_true rfl) dX10_cost_21 ⟨Nat.zero_le _, Nat.zero_le _⟩) hA hP hD hS [6, 7] [0, 1, 2, 3, 4, 5, 8] [0, 1, 2, 3, 4, 5, 7, 8, 6] rfl rfl rfl rfl ?_
    clear hP hD hS
    intro H locs hP hD hS
    refine lv_if_ne (tgt := 30) hx hb dX10_cost_24 (by decide) (fun c4 => ?_) (fun c4 => ?_)
    · have hf := im c4 hf
      refine lv_aload_n hx hb dX10_cost_30 rfl (lv_at hl 0 rfl) ?_
      refine va_get (D := (dC, dI)) (ci := 9) (v := .ref q_costs) (C := RX10) (T := TX10) (N := 10) hx hb htb inX10 hown hK hP 0 rfl rfl 7 (Nat.le_of_ble_eq_true rfl) (htb _ t_285) (fun _ h9 => h9) rfl dX10_cost_31 ?_
      refine lv_iload_n hx hb dX10_cost_34 rfl (lv_at hl 1 rfl) ?_
      refine lv_aload_n hx hb dX10_cost_35 rfl (lv_at hl 0 rfl) ?_
      refine va_get (D := (dC, dI)) (ci := 9) (v := .ref q_hand) (C := RX10) (T := TX10) (N := 10) hx hb htb inX10 hown hK hP 0 rfl rfl 3 (Nat.le_of_ble_eq_true rfl) (htb _ t_281) (fun _ h9 => h9) rfl dX10_cost_36 ?_
      obtain ⟨v5, hv, hf⟩ := ob hf
      refine k_afterI (wr := [(q_, .inr (9, [.ref q_net, .ref q_view, .ref q_history, .ref q_hand, .ref q_trial, .ref q_bags, .ref q_chase, .ref q_costs, .ref q_sets, .ref q_trials])), (q_net, .inr (4, [.int x_net_posts, .int x_net_pairs, .ref q_net_widths, .ref q_net_lengths, .ref q_net_told, .ref q_net_behind]))]) (wn := [(q_, .inr (9, [.ref q_net, .ref q_view, .ref q_history, .ref q_hand, .ref q_trial, .ref q_bags, .ref q_chase, .ref q_costs, .ref q_sets, .ref q_trials])), (q_net, .inr (4, [.int x_net_posts, .int x_net_pairs, .ref q_net_widths, .ref q_net_lengths, .ref q_net_told, .ref q_net_behind])), (q_view, .inr (8, [.int x_view_posts, .int x_view_roads, .int x_view_weight, .ref q_view_weights, .ref q_view_near, .ref q_view_behind, .ref q_view_ahead])), (q_view_weights, .inl (cI, 121, .inl x_view_weights)), (q_view_near, .inl (cI, 11, .inl x_view_near)), (q_view_behind, .inl (cI, 11, .inl x_view_behind)), (q_hand, .inr (5, [.ref q_hand_posts, .int x_hand_size])), (q_hand_posts, .inl (cI, 11, .inl x_hand_posts)), (q_costs, .inr (2, [.ref q_view]))]) (k_runV (rest := []) (ci := 2) (q0 := 8) hx hb hml hown htb hK hN (c_X2_costOf l dC dI cI cZ cN q_costs q_view q_view_weights q_view_near q_view_behind q_view_ahead q_hand q_hand_posts x_view_posts x_view_roads x_view_weight x_view_weights x_view_near x_view_behind x_hand_size x_hand_posts i1 v5 hv _) vf_X2_costOf t_470 hP hD [8, 2, 3, 4, 5, 6, 7] rfl rfl rfl rfl ⟨(Nat.le_of_ble_eq_true rfl), (Nat.le_of_ble_eq_true rfl)⟩ rfl hl.1 rfl (Nat.le_of_ble_eq_true rfl) dX10_cost_39 ⟨Nat.zero_le _, Nat.zero_le _⟩) hA hP hD hS [8, 2, 3, 4, 5, 6, 7] [0, 1] [0, 1, 3, 4, 5, 6, 7, 8, 2] rfl rfl rfl rfl ?_
      clear hP hD hS
      intro H locs hP hD hS
      exact hret _ hf _ _ _ _ rfl dX10_cost_42 hP hD hS
    · have hf := ip c4 hf
      refine lv_bipush (v := (-4 : Int32)) hx hb dX10_cost_27 (by decide) ?_
      exact hret _ hf _ _ _ _ rfl dX10_cost_29 hP hD hS
  · have hf := ip c2 hf
    refine lv_bipush (v := (-3 : Int32)) hx hb dX10_cost_7 (by decide) ?_
    exact hret _ hf _ _ _ _ rfl dX10_cost_9 hP hD hS
theorem vf_X10_where : VF yX10_where cX10_where 2 (some .int) 1 := ⟨t_507, t_508, t_1, t_509, by decide +kernel, by decide +kernel, by decide +kernel⟩
theorem dX10_where_0 : decode cX10_where 0 = .ok (.iload_n 1, 1) := by decide +kernel
theorem dX10_where_1 : decode cX10_where 1 = .ok (.ifCond .eq 21, 3) := by decide +kernel
theorem dX10_where_4 : decode cX10_where 4 = .ok (.iload_n 1, 1) := by decide +kernel
theorem dX10_where_5 : decode cX10_where 5 = .ok (.iconst 1, 1) := by decide +kernel
theorem dX10_where_6 : decode cX10_where 6 = .ok (.if_icmp .eq 16, 3) := by decide +kernel
theorem dX10_where_9 : decode cX10_where 9 = .ok (.iload_n 1, 1) := by decide +kernel
theorem dX10_where_10 : decode cX10_where 10 = .ok (.iconst 2, 1) := by decide +kernel
theorem dX10_where_11 : decode cX10_where 11 = .ok (.if_icmp .eq 11, 3) := by decide +kernel
theorem dX10_where_14 : decode cX10_where 14 = .ok (.iload_n 1, 1) := by decide +kernel
theorem dX10_where_15 : decode cX10_where 15 = .ok (.iconst 5, 1) := by decide +kernel
theorem dX10_where_16 : decode cX10_where 16 = .ok (.if_icmp .eq 6, 3) := by decide +kernel
theorem dX10_where_19 : decode cX10_where 19 = .ok (.bipush (-3), 2) := by decide +kernel
theorem dX10_where_21 : decode cX10_where 21 = .ok (.ireturn, 1) := by decide +kernel
theorem dX10_where_22 : decode cX10_where 22 = .ok (.aload_n 0, 1) := by decide +kernel
theorem dX10_where_23 : decode cX10_where 23 = .ok (.getfield 33, 3) := by decide +kernel
theorem dX10_where_26 : decode cX10_where 26 = .ok (.aload_n 0, 1) := by decide +kernel
theorem dX10_where_27 : decode cX10_where 27 = .ok (.getfield 12, 3) := by decide +kernel
theorem dX10_where_30 : decode cX10_where 30 = .ok (.getfield 79, 3) := by decide +kernel
theorem dX10_where_33 : decode cX10_where 33 = .ok (.invokevirtual 177, 3) := by decide +kernel
theorem dX10_where_36 : decode cX10_where 36 = .ok (.ifCond .ne 6, 3) := by decide +kernel
theorem dX10_where_39 : decode cX10_where 39 = .ok (.bipush (-4), 2) := by decide +kernel
theorem dX10_where_41 : decode cX10_where 41 = .ok (.ireturn, 1) := by decide +kernel
theorem dX10_where_42 : decode cX10_where 42 = .ok (.iload_n 1, 1) := by decide +kernel
theorem dX10_where_43 : decode cX10_where 43 = .ok (.ifCond .ne 17, 3) := by decide +kernel
theorem dX10_where_46 : decode cX10_where 46 = .ok (.aload_n 0, 1) := by decide +kernel
theorem dX10_where_47 : decode cX10_where 47 = .ok (.getfield 59, 3) := by decide +kernel
theorem dX10_where_50 : decode cX10_where 50 = .ok (.aload_n 0, 1) := by decide +kernel
theorem dX10_where_51 : decode cX10_where 51 = .ok (.getfield 33, 3) := by decide +kernel
theorem dX10_where_54 : decode cX10_where 54 = .ok (.invokevirtual 184, 3) := by decide +kernel
theorem dX10_where_57 : decode cX10_where 57 = .ok (.goto 15, 3) := by decide +kernel
theorem dX10_where_60 : decode cX10_where 60 = .ok (.aload_n 0, 1) := by decide +kernel
theorem dX10_where_61 : decode cX10_where 61 = .ok (.getfield 59, 3) := by decide +kernel
theorem dX10_where_64 : decode cX10_where 64 = .ok (.iload_n 1, 1) := by decide +kernel
theorem dX10_where_65 : decode cX10_where 65 = .ok (.aload_n 0, 1) := by decide +kernel
theorem dX10_where_66 : decode cX10_where 66 = .ok (.getfield 33, 3) := by decide +kernel
theorem dX10_where_69 : decode cX10_where 69 = .ok (.invokevirtual 188, 3) := by decide +kernel
theorem dX10_where_72 : decode cX10_where 72 = .ok (.ireturn, 1) := by decide +kernel
noncomputable def f_X10_where (x_net_posts : Int32) (x_view_posts : Int32) (x_view_weights : Nat → Int32) (x_view_near : Nat → Int32) (x_view_behind : Nat → Int32) (x_hand_size : Int32) (x_hand_posts : Nat → Int32) (i1 : Int32) : Option (Int32) :=
  if i1 = 0 then ((f_X5_isWhole x_hand_size x_hand_posts x_net_posts).bind fun v2 =>
  if v2 = 0 then (some ((-4 : Int32))) else (if i1 = 0 then ((f_X2_placeOfSpan x_view_weights x_hand_size x_hand_posts).bind fun v6 =>
  some (v6)) else ((f_X2_placeOfPeak x_view_posts x_view_weights x_view_near x_view_behind x_hand_size x_hand_posts i1).bind fun v5 =>
  some (v5)))) else (if i1 = (1 : Int32) then ((f_X5_isWhole x_hand_size x_hand_posts x_net_posts).bind fun v8 =>
  if v8 = 0 then (some ((-4 : Int32))) else (if i1 = 0 then ((f_X2_placeOfSpan x_view_weights x_hand_size x_hand_posts).bind fun v12 =>
  some (v12)) else ((f_X2_placeOfPeak x_view_posts x_view_weights x_view_near x_view_behind x_hand_size x_hand_posts i1).bind fun v11 =>
  some (v11)))) else (if i1 = (2 : Int32) then ((f_X5_isWhole x_hand_size x_hand_posts x_net_posts).bind fun v14 =>
  if v14 = 0 then (some ((-4 : Int32))) else (if i1 = 0 then ((f_X2_placeOfSpan x_view_weights x_hand_size x_hand_posts).bind fun v18 =>
  some (v18)) else ((f_X2_placeOfPeak x_view_posts x_view_weights x_view_near x_view_behind x_hand_size x_hand_posts i1).bind fun v17 =>
  some (v17)))) else (if i1 = (5 : Int32) then ((f_X5_isWhole x_hand_size x_hand_posts x_net_posts).bind fun v20 =>
  if v20 = 0 then (some ((-4 : Int32))) else (if i1 = 0 then ((f_X2_placeOfSpan x_view_weights x_hand_size x_hand_posts).bind fun v24 =>
  some (v24)) else ((f_X2_placeOfPeak x_view_posts x_view_weights x_view_near x_view_behind x_hand_size x_hand_posts i1).bind fun v23 =>
  some (v23)))) else (some ((-3 : Int32))))))
set_option maxHeartbeats 4000000 in
set_option maxRecDepth 100000 in
theorem c_X10_where (l : Launch) (dC : Nat → ClassId) (dI : Nat → Nat → Nat) (cI cZ cN : ClassId) (q_ : Nat) (q_net : Nat) (q_view : Nat) (q_history : Nat) (q_hand : Nat) (q_trial : Nat) (q_bags : Nat) (q_chase : Nat) (q_costs : Nat) (q_sets : Nat) (q_trials : Nat) (q_net_widths : Nat) (q_net_lengths : Nat) (q_net_told : Nat) (q_net_behind : Nat) (q_view_weights : Nat) (q_view_near : Nat) (q_view_behind : Nat) (q_view_ahead : Nat) (q_hand_posts : Nat) (x_net_posts : Int32) (x_net_pairs : Int32) (x_view_posts : Int32) (x_view_roads : Int32) (x_view_weight : Int32) (x_view_weights : Nat → Int32) (x_view_near : Nat → Int32) (x_view_behind : Nat → Int32) (x_hand_size : Int32) (x_hand_posts : Nat → Int32) (i1 : Int32) (r : Int32) (hf : f_X10_where x_net_posts x_view_posts x_view_weights x_view_near x_view_behind x_hand_size x_hand_posts i1 = some r) : CI l yX10_where cX10_where 2 (some .int) 6 159 (dC, dI) (TY cI cZ cN) [.ref q_, .int i1] [(q_, .inr (9, [.ref q_net, .ref q_view, .ref q_history, .ref q_hand, .ref q_trial, .ref q_bags, .ref q_chase, .ref q_costs, .ref q_sets, .ref q_trials])), (q_net, .inr (4, [.int x_net_posts, .int x_net_pairs, .ref q_net_widths, .ref q_net_lengths, .ref q_net_told, .ref q_net_behind])), (q_view, .inr (8, [.int x_view_posts, .int x_view_roads, .int x_view_weight, .ref q_view_weights, .ref q_view_near, .ref q_view_behind, .ref q_view_ahead])), (q_view_weights, .inl (cI, 121, .inl x_view_weights)), (q_view_near, .inl (cI, 11, .inl x_view_near)), (q_view_behind, .inl (cI, 11, .inl x_view_behind)), (q_hand, .inr (5, [.ref q_hand_posts, .int x_hand_size])), (q_hand_posts, .inl (cI, 11, .inl x_hand_posts)), (q_costs, .inr (2, [.ref q_view]))] [(q_, .inr (9, [.ref q_net, .ref q_view, .ref q_history, .ref q_hand, .ref q_trial, .ref q_bags, .ref q_chase, .ref q_costs, .ref q_sets, .ref q_trials])), (q_net, .inr (4, [.int x_net_posts, .int x_net_pairs, .ref q_net_widths, .ref q_net_lengths, .ref q_net_told, .ref q_net_behind])), (q_view, .inr (8, [.int x_view_posts, .int x_view_roads, .int x_view_weight, .ref q_view_weights, .ref q_view_near, .ref q_view_behind, .ref q_view_ahead])), (q_view_weights, .inl (cI, 121, .inl x_view_weights)), (q_view_near, .inl (cI, 11, .inl x_view_near)), (q_view_behind, .inl (cI, 11, .inl x_view_behind)), (q_hand, .inr (5, [.ref q_hand_posts, .int x_hand_size])), (q_hand_posts, .inl (cI, 11, .inl x_hand_posts)), (q_costs, .inr (2, [.ref q_view]))] r := by
  refine CI.of rfl (by decide) (Nat.le_of_ble_eq_true rfl) ?_
  intro p e s m args below meth c Q A ls hx hb hml hown htb hK hN hA hP hD hS hl hret
  have hown : s.vm.findClass RX10 = some m.cls := hown
  have hl : lv_has ls 2 [(0, .ref q_), (1, .int i1)] := hl
  have hret : ∀ (r9 : Int32), some r9 = some r → ∀ (H : Heap) (locs : List Loc) (pc : Nat) (ls : Array Slot), narrow .int (.int r9) = .int r9 → decode cX10_where pc = .ok (.ireturn, 1) → va_P (dC, dI) vwCl [(q_, .inr (9, [.ref q_net, .ref q_view, .ref q_history, .ref q_hand, .ref q_trial, .ref q_bags, .ref q_chase, .ref q_costs, .ref q_sets, .ref q_trials])), (q_net, .inr (4, [.int x_net_posts, .int x_net_pairs, .ref q_net_widths, .ref q_net_lengths, .ref q_net_told, .ref q_net_behind])), (q_view, .inr (8, [.int x_view_posts, .int x_view_roads, .int x_view_weight, .ref q_view_weights, .ref q_view_near, .ref q_view_behind, .ref q_view_ahead])), (q_view_weights, .inl (cI, 121, .inl x_view_weights)), (q_view_near, .inl (cI, 11, .inl x_view_near)), (q_view_behind, .inl (cI, 11, .inl x_view_behind)), (q_hand, .inr (5, [.ref q_hand_posts, .int x_hand_size])), (q_hand_posts, .inl (cI, 11, .inl x_hand_posts)), (q_costs, .inr (2, [.ref q_view]))] H → va_D A [(q_, .inr (9, [.ref q_net, .ref q_view, .ref q_history, .ref q_hand, .ref q_trial, .ref q_bags, .ref q_chase, .ref q_costs, .ref q_sets, .ref q_trials])), (q_net, .inr (4, [.int x_net_posts, .int x_net_pairs, .ref q_net_widths, .ref q_net_lengths, .ref q_net_told, .ref q_net_behind])), (q_view, .inr (8, [.int x_view_posts, .int x_view_roads, .int x_view_weight, .ref q_view_weights, .ref q_view_near, .ref q_view_behind, .ref q_view_ahead])), (q_view_weights, .inl (cI, 121, .inl x_view_weights)), (q_view_near, .inl (cI, 11, .inl x_view_near)), (q_view_behind, .inl (cI, 11, .inl x_view_behind)), (q_hand, .inr (5, [.ref q_hand_posts, .int x_hand_size])), (q_hand_posts, .inl (cI, 11, .inl x_hand_posts)), (q_costs, .inr (2, [.ref q_view]))] → va_S A s.heap H locs → W p l e (rmK 6 159) s m args below meth c H locs 0 0 Q (F0 m pc ls [.int r9]) := by
    intro r9 h9
    cases h9
    exact hret
  unfold f_X10_where at hf
  refine lv_iload_n hx hb dX10_where_0 rfl (lv_at hl 1 rfl) ?_
  refine lv_if_eq (tgt := 22) hx hb dX10_where_1 (by decide) (fun c1 => ?_) (fun c1 => ?_)
  · have hf := ip c1 hf
    refine lv_aload_n hx hb dX10_where_22 rfl (lv_at hl 0 rfl) ?_
    refine va_get (D := (dC, dI)) (ci := 9) (v := .ref q_hand) (C := RX10) (T := TX10) (N := 10) hx hb htb inX10 hown hK hP 0 rfl rfl 3 (Nat.le_of_ble_eq_true rfl) (htb _ t_281) (fun _ h9 => h9) rfl dX10_where_23 ?_
    refine lv_aload_n hx hb dX10_where_26 rfl (lv_at hl 0 rfl) ?_
    refine va_get (D := (dC, dI)) (ci := 9) (v := .ref q_net) (C := RX10) (T := TX10) (N := 10) hx hb htb inX10 hown hK hP 0 rfl rfl 0 (Nat.le_of_ble_eq_true rfl) (htb _ t_278) (fun _ h9 => h9) rfl dX10_where_27 ?_
    refine va_get (D := (dC, dI)) (ci := 4) (v := .int x_net_posts) (C := RX4) (T := TX4) (N := 6) hx hb htb inX4 hown hK hP 1 rfl rfl 0 (Nat.le_of_ble_eq_true rfl) (htb _ t_35) (fun _ h9 => h9) rfl dX10_where_30 ?_
    obtain ⟨v2, hv, hf⟩ := ob hf
    refine k_afterI (wr := [(q_, .inr (9, [.ref q_net, .ref q_view, .ref q_history, .ref q_hand, .ref q_trial, .ref q_bags, .ref q_chase, .ref q_costs, .ref q_sets, .ref q_trials])), (q_net, .inr (4, [.int x_net_posts, .int x_net_pairs, .ref q_net_widths, .ref q_net_lengths, .ref q_net_told, .ref q_net_behind])), (q_view, .inr (8, [.int x_view_posts, .int x_view_roads, .int x_view_weight, .ref q_view_weights, .ref q_view_near, .ref q_view_behind, .ref q_view_ahead])), (q_view_weights, .inl (cI, 121, .inl x_view_weights)), (q_view_near, .inl (cI, 11, .inl x_view_near)), (q_view_behind, .inl (cI, 11, .inl x_view_behind)), (q_costs, .inr (2, [.ref q_view]))]) (wn := [(q_, .inr (9, [.ref q_net, .ref q_view, .ref q_history, .ref q_hand, .ref q_trial, .ref q_bags, .ref q_chase, .ref q_costs, .ref q_sets, .ref q_trials])), (q_net, .inr (4, [.int x_net_posts, .int x_net_pairs, .ref q_net_widths, .ref q_net_lengths, .ref q_net_told, .ref q_net_behind])), (q_view, .inr (8, [.int x_view_posts, .int x_view_roads, .int x_view_weight, .ref q_view_weights, .ref q_view_near, .ref q_view_behind, .ref q_view_ahead])), (q_view_weights, .inl (cI, 121, .inl x_view_weights)), (q_view_near, .inl (cI, 11, .inl x_view_near)), (q_view_behind, .inl (cI, 11, .inl x_view_behind)), (q_hand, .inr (5, [.ref q_hand_posts, .int x_hand_size])), (q_hand_posts, .inl (cI, 11, .inl x_hand_posts)), (q_costs, .inr (2, [.ref q_view]))]) (k_runV (rest := []) (ci := 5) (q0 := 6) hx hb hml hown htb hK hN (c_X5_isWhole l dC dI cI cZ cN q_hand q_hand_posts x_hand_size x_hand_posts x_net_posts v2 hv _) vf_X5_isWhole t_466 hP hD [6, 7] rfl rfl rfl rfl ⟨(Nat.le_of_ble_eq_true rfl), (Nat.le_of_ble_eq_true rfl)⟩ rfl hl.1 rfl (Nat.le_of_ble_eq_true rfl) dX10_where_33 ⟨Nat.zero_le _, Nat.zero_le _⟩) hA hP hD hS [6, 7] [0, 1, 2, 3, 4, 5, 8] [0, 1, 2, 3, 4, 5, 7, 8, 6] rfl rfl rfl rfl ?_
    clear hP hD hS
    intro H locs hP hD hS
    refine lv_if_ne (tgt := 42) hx hb dX10_where_36 (by decide) (fun c3 => ?_) (fun c3 => ?_)
    · have hf := im c3 hf
      refine lv_iload_n hx hb dX10_where_42 rfl (lv_at hl 1 rfl) ?_
      refine lv_if_ne (tgt := 60) hx hb dX10_where_43 (by decide) (fun c4 => ?_) (fun c4 => ?_)
      · have hf := im c4 hf
        refine lv_aload_n hx hb dX10_where_60 rfl (lv_at hl 0 rfl) ?_
        refine va_get (D := (dC, dI)) (ci := 9) (v := .ref q_costs) (C := RX10) (T := TX10) (N := 10) hx hb htb inX10 hown hK hP 0 rfl rfl 7 (Nat.le_of_ble_eq_true rfl) (htb _ t_285) (fun _ h9 => h9) rfl dX10_where_61 ?_
        refine lv_iload_n hx hb dX10_where_64 rfl (lv_at hl 1 rfl) ?_
        refine lv_aload_n hx hb dX10_where_65 rfl (lv_at hl 0 rfl) ?_
        refine va_get (D := (dC, dI)) (ci := 9) (v := .ref q_hand) (C := RX10) (T := TX10) (N := 10) hx hb htb inX10 hown hK hP 0 rfl rfl 3 (Nat.le_of_ble_eq_true rfl) (htb _ t_281) (fun _ h9 => h9) rfl dX10_where_66 ?_
        obtain ⟨v5, hv, hf⟩ := ob hf
        refine k_afterI (wr := [(q_, .inr (9, [.ref q_net, .ref q_view, .ref q_history, .ref q_hand, .ref q_trial, .ref q_bags, .ref q_chase, .ref q_costs, .ref q_sets, .ref q_trials])), (q_net, .inr (4, [.int x_net_posts, .int x_net_pairs, .ref q_net_widths, .ref q_net_lengths, .ref q_net_told, .ref q_net_behind]))]) (wn := [(q_, .inr (9, [.ref q_net, .ref q_view, .ref q_history, .ref q_hand, .ref q_trial, .ref q_bags, .ref q_chase, .ref q_costs, .ref q_sets, .ref q_trials])), (q_net, .inr (4, [.int x_net_posts, .int x_net_pairs, .ref q_net_widths, .ref q_net_lengths, .ref q_net_told, .ref q_net_behind])), (q_view, .inr (8, [.int x_view_posts, .int x_view_roads, .int x_view_weight, .ref q_view_weights, .ref q_view_near, .ref q_view_behind, .ref q_view_ahead])), (q_view_weights, .inl (cI, 121, .inl x_view_weights)), (q_view_near, .inl (cI, 11, .inl x_view_near)), (q_view_behind, .inl (cI, 11, .inl x_view_behind)), (q_hand, .inr (5, [.ref q_hand_posts, .int x_hand_size])), (q_hand_posts, .inl (cI, 11, .inl x_hand_posts)), (q_costs, .inr (2, [.ref q_view]))]) (k_runV (rest := []) (ci := 2) (q0 := 8) hx hb hml hown htb hK hN (c_X2_placeOfPeak l dC dI cI cZ cN q_costs q_view q_view_weights q_view_near q_view_behind q_view_ahead q_hand q_hand_posts x_view_posts x_view_roads x_view_weight x_view_weights x_view_near x_view_behind x_hand_size x_hand_posts i1 v5 hv _) vf_X2_placeOfPeak t_514 hP hD [8, 2, 3, 4, 5, 6, 7] rfl rfl rfl rfl ⟨(Nat.le_of_ble_eq_true rfl), (Nat.le_of_ble_eq_true rfl)⟩ rfl hl.1 rfl (Nat.le_of_ble_eq_true rfl) dX10_where_69 ⟨Nat.zero_le _, Nat.zero_le _⟩) hA hP hD hS [8, 2, 3, 4, 5, 6, 7] [0, 1] [0, 1, 3, 4, 5, 6, 7, 8, 2] rfl rfl rfl rfl ?_
        clear hP hD hS
        intro H locs hP hD hS
        exact hret _ hf _ _ _ _ rfl dX10_where_72 hP hD hS
      · have hf := ip c4 hf
        refine lv_aload_n hx hb dX10_where_46 rfl (lv_at hl 0 rfl) ?_
        refine va_get (D := (dC, dI)) (ci := 9) (v := .ref q_costs) (C := RX10) (T := TX10) (N := 10) hx hb htb inX10 hown hK hP 0 rfl rfl 7 (Nat.le_of_ble_eq_true rfl) (htb _ t_285) (fun _ h9 => h9) rfl dX10_where_47 ?_
        refine lv_aload_n hx hb dX10_where_50 rfl (lv_at hl 0 rfl) ?_
        refine va_get (D := (dC, dI)) (ci := 9) (v := .ref q_hand) (C := RX10) (T := TX10) (N := 10) hx hb htb inX10 hown hK hP 0 rfl rfl 3 (Nat.le_of_ble_eq_true rfl) (htb _ t_281) (fun _ h9 => h9) rfl dX10_where_51 ?_
        obtain ⟨v6, hv, hf⟩ := ob hf
        refine k_afterI (wr := [(q_, .inr (9, [.ref q_net, .ref q_view, .ref q_history, .ref q_hand, .ref q_trial, .ref q_bags, .ref q_chase, .ref q_costs, .ref q_sets, .ref q_trials])), (q_net, .inr (4, [.int x_net_posts, .int x_net_pairs, .ref q_net_widths, .ref q_net_lengths, .ref q_net_told, .ref q_net_behind])), (q_view_near, .inl (cI, 11, .inl x_view_near)), (q_view_behind, .inl (cI, 11, .inl x_view_behind))]) (wn := [(q_, .inr (9, [.ref q_net, .ref q_view, .ref q_history, .ref q_hand, .ref q_trial, .ref q_bags, .ref q_chase, .ref q_costs, .ref q_sets, .ref q_trials])), (q_net, .inr (4, [.int x_net_posts, .int x_net_pairs, .ref q_net_widths, .ref q_net_lengths, .ref q_net_told, .ref q_net_behind])), (q_view, .inr (8, [.int x_view_posts, .int x_view_roads, .int x_view_weight, .ref q_view_weights, .ref q_view_near, .ref q_view_behind, .ref q_view_ahead])), (q_view_weights, .inl (cI, 121, .inl x_view_weights)), (q_view_near, .inl (cI, 11, .inl x_view_near)), (q_view_behind, .inl (cI, 11, .inl x_view_behind)), (q_hand, .inr (5, [.ref q_hand_posts, .int x_hand_size])), (q_hand_posts, .inl (cI, 11, .inl x_hand_posts)), (q_costs, .inr (2, [.ref q_view]))]) (k_runV (rest := []) (ci := 2) (q0 := 8) hx hb hml hown htb hK hN (c_X2_placeOfSpan l dC dI cI cZ cN q_costs q_view q_view_weights q_view_near q_view_behind q_view_ahead q_hand q_hand_posts x_view_posts x_view_roads x_view_weight x_view_weights x_hand_size x_hand_posts v6 hv _) vf_X2_placeOfSpan t_510 hP hD [8, 2, 3, 6, 7] rfl rfl rfl rfl ⟨(Nat.le_of_ble_eq_true rfl), (Nat.le_of_ble_eq_true rfl)⟩ rfl hl.1 rfl (Nat.le_of_ble_eq_true rfl) dX10_where_54 ⟨Nat.zero_le _, Nat.zero_le _⟩) hA hP hD hS [8, 2, 3, 6, 7] [0, 1, 4, 5] [0, 1, 5, 6, 2, 3, 7, 8, 4] rfl rfl rfl rfl ?_
        clear hP hD hS
        intro H locs hP hD hS
        refine lv_goto (tgt := 72) hx hb dX10_where_57 (by decide) ?_
        exact hret _ hf _ _ _ _ rfl dX10_where_72 hP hD hS
    · have hf := ip c3 hf
      refine lv_bipush (v := (-4 : Int32)) hx hb dX10_where_39 (by decide) ?_
      exact hret _ hf _ _ _ _ rfl dX10_where_41 hP hD hS
  · have hf := im c1 hf
    refine lv_iload_n hx hb dX10_where_4 rfl (lv_at hl 1 rfl) ?_
    refine lv_iconst (v := (1 : Int32)) hx hb dX10_where_5 (by decide) ?_
    refine lv_icmp_eq (tgt := 22) hx hb dX10_where_6 (by decide) (fun c7 => ?_) (fun c7 => ?_)
    · have hf := ip c7 hf
      refine lv_aload_n hx hb dX10_where_22 rfl (lv_at hl 0 rfl) ?_
      refine va_get (D := (dC, dI)) (ci := 9) (v := .ref q_hand) (C := RX10) (T := TX10) (N := 10) hx hb htb inX10 hown hK hP 0 rfl rfl 3 (Nat.le_of_ble_eq_true rfl) (htb _ t_281) (fun _ h9 => h9) rfl dX10_where_23 ?_
      refine lv_aload_n hx hb dX10_where_26 rfl (lv_at hl 0 rfl) ?_
      refine va_get (D := (dC, dI)) (ci := 9) (v := .ref q_net) (C := RX10) (T := TX10) (N := 10) hx hb htb inX10 hown hK hP 0 rfl rfl 0 (Nat.le_of_ble_eq_true rfl) (htb _ t_278) (fun _ h9 => h9) rfl dX10_where_27 ?_
      refine va_get (D := (dC, dI)) (ci := 4) (v := .int x_net_posts) (C := RX4) (T := TX4) (N := 6) hx hb htb inX4 hown hK hP 1 rfl rfl 0 (Nat.le_of_ble_eq_true rfl) (htb _ t_35) (fun _ h9 => h9) rfl dX10_where_30 ?_
      obtain ⟨v8, hv, hf⟩ := ob hf
      refine k_afterI (wr := [(q_, .inr (9, [.ref q_net, .ref q_view, .ref q_history, .ref q_hand, .ref q_trial, .ref q_bags, .ref q_chase, .ref q_costs, .ref q_sets, .ref q_trials])), (q_net, .inr (4, [.int x_net_posts, .int x_net_pairs, .ref q_net_widths, .ref q_net_lengths, .ref q_net_told, .ref q_net_behind])), (q_view, .inr (8, [.int x_view_posts, .int x_view_roads, .int x_view_weight, .ref q_view_weights, .ref q_view_near, .ref q_view_behind, .ref q_view_ahead])), (q_view_weights, .inl (cI, 121, .inl x_view_weights)), (q_view_near, .inl (cI, 11, .inl x_view_near)), (q_view_behind, .inl (cI, 11, .inl x_view_behind)), (q_costs, .inr (2, [.ref q_view]))]) (wn := [(q_, .inr (9, [.ref q_net, .ref q_view, .ref q_history, .ref q_hand, .ref q_trial, .ref q_bags, .ref q_chase, .ref q_costs, .ref q_sets, .ref q_trials])), (q_net, .inr (4, [.int x_net_posts, .int x_net_pairs, .ref q_net_widths, .ref q_net_lengths, .ref q_net_told, .ref q_net_behind])), (q_view, .inr (8, [.int x_view_posts, .int x_view_roads, .int x_view_weight, .ref q_view_weights, .ref q_view_near, .ref q_view_behind, .ref q_view_ahead])), (q_view_weights, .inl (cI, 121, .inl x_view_weights)), (q_view_near, .inl (cI, 11, .inl x_view_near)), (q_view_behind, .inl (cI, 11, .inl x_view_behind)), (q_hand, .inr (5, [.ref q_hand_posts, .int x_hand_size])), (q_hand_posts, .inl (cI, 11, .inl x_hand_posts)), (q_costs, .inr (2, [.ref q_view]))]) (k_runV (rest := []) (ci := 5) (q0 := 6) hx hb hml hown htb hK hN (c_X5_isWhole l dC dI cI cZ cN q_hand q_hand_posts x_hand_size x_hand_posts x_net_posts v8 hv _) vf_X5_isWhole t_466 hP hD [6, 7] rfl rfl rfl rfl ⟨(Nat.le_of_ble_eq_true rfl), (Nat.le_of_ble_eq_true rfl)⟩ rfl hl.1 rfl (Nat.le_of_ble_eq_true rfl) dX10_where_33 ⟨Nat.zero_le _, Nat.zero_le _⟩) hA hP hD hS [6, 7] [0, 1, 2, 3, 4, 5, 8] [0, 1, 2, 3, 4, 5, 7, 8, 6] rfl rfl rfl rfl ?_
      clear hP hD hS
      intro H locs hP hD hS
      refine lv_if_ne (tgt := 42) hx hb dX10_where_36 (by decide) (fun c9 => ?_) (fun c9 => ?_)
      · have hf := im c9 hf
        refine lv_iload_n hx hb dX10_where_42 rfl (lv_at hl 1 rfl) ?_
        refine lv_if_ne (tgt := 60) hx hb dX10_where_43 (by decide) (fun c10 => ?_) (fun c10 => ?_)
        · have hf := im c10 hf
          refine lv_aload_n hx hb dX10_where_60 rfl (lv_at hl 0 rfl) ?_
          refine va_get (D := (dC, dI)) (ci := 9) (v := .ref q_costs) (C := RX10) (T := TX10) (N := 10) hx hb htb inX10 hown hK hP 0 rfl rfl 7 (Nat.le_of_ble_eq_true rfl) (htb _ t_285) (fun _ h9 => h9) rfl dX10_where_61 ?_
          refine lv_iload_n hx hb dX10_where_64 rfl (lv_at hl 1 rfl) ?_
          refine lv_aload_n hx hb dX10_where_65 rfl (lv_at hl 0 rfl) ?_
          refine va_get (D := (dC, dI)) (ci := 9) (v := .ref q_hand) (C := RX10) (T := TX10) (N := 10) hx hb htb inX10 hown hK hP 0 rfl rfl 3 (Nat.le_of_ble_eq_true rfl) (htb _ t_281) (fun _ h9 => h9) rfl dX10_where_66 ?_
          obtain ⟨v11, hv, hf⟩ := ob hf
          refine k_afterI (wr := [(q_, .inr (9, [.ref q_net, .ref q_view, .ref q_history, .ref q_hand, .ref q_trial, .ref q_bags, .ref q_chase, .ref q_costs, .ref q_sets, .ref q_trials])), (q_net, .inr (4, [.int x_net_posts, .int x_net_pairs, .ref q_net_widths, .ref q_net_lengths, .ref q_net_told, .ref q_net_behind]))]) (wn := [(q_, .inr (9, [.ref q_net, .ref q_view, .ref q_history, .ref q_hand, .ref q_trial, .ref q_bags, .ref q_chase, .ref q_costs, .ref q_sets, .ref q_trials])), (q_net, .inr (4, [.int x_net_posts, .int x_net_pairs, .ref q_net_widths, .ref q_net_lengths, .ref q_net_told, .ref q_net_behind])), (q_view, .inr (8, [.int x_view_posts, .int x_view_roads, .int x_view_weight, .ref q_view_weights, .ref q_view_near, .ref q_view_behind, .ref q_view_ahead])), (q_view_weights, .inl (cI, 121, .inl x_view_weights)), (q_view_near, .inl (cI, 11, .inl x_view_near)), (q_view_behind, .inl (cI, 11, .inl x_view_behind)), (q_hand, .inr (5, [.ref q_hand_posts, .int x_hand_size])), (q_hand_posts, .inl (cI, 11, .inl x_hand_posts)), (q_costs, .inr (2, [.ref q_view]))]) (k_runV (rest := []) (ci := 2) (q0 := 8) hx hb hml hown htb hK hN (c_X2_placeOfPeak l dC dI cI cZ cN q_costs q_view q_view_weights q_view_near q_view_behind q_view_ahead q_hand q_hand_posts x_view_posts x_view_roads x_view_weight x_view_weights x_view_near x_view_behind x_hand_size x_hand_posts i1 v11 hv _) vf_X2_placeOfPeak t_514 hP hD [8, 2, 3, 4, 5, 6, 7] rfl rfl rfl rfl ⟨(Nat.le_of_ble_eq_true rfl), (Nat.le_of_ble_eq_true rfl)⟩ rfl hl.1 rfl (Nat.le_of_ble_eq_true rfl) dX10_where_69 ⟨Nat.zero_le _, Nat.zero_le _⟩) hA hP hD hS [8, 2, 3, 4, 5, 6, 7] [0, 1] [0, 1, 3, 4, 5, 6, 7, 8, 2] rfl rfl rfl rfl ?_
          clear hP hD hS
          intro H locs hP hD hS
          exact hret _ hf _ _ _ _ rfl dX10_where_72 hP hD hS
        · have hf := ip c10 hf
          refine lv_aload_n hx hb dX10_where_46 rfl (lv_at hl 0 rfl) ?_
          refine va_get (D := (dC, dI)) (ci := 9) (v := .ref q_costs) (C := RX10) (T := TX10) (N := 10) hx hb htb inX10 hown hK hP 0 rfl rfl 7 (Nat.le_of_ble_eq_true rfl) (htb _ t_285) (fun _ h9 => h9) rfl dX10_where_47 ?_
          refine lv_aload_n hx hb dX10_where_50 rfl (lv_at hl 0 rfl) ?_
          refine va_get (D := (dC, dI)) (ci := 9) (v := .ref q_hand) (C := RX10) (T := TX10) (N := 10) hx hb htb inX10 hown hK hP 0 rfl rfl 3 (Nat.le_of_ble_eq_true rfl) (htb _ t_281) (fun _ h9 => h9) rfl dX10_where_51 ?_
          obtain ⟨v12, hv, hf⟩ := ob hf
          refine k_afterI (wr := [(q_, .inr (9, [.ref q_net, .ref q_view, .ref q_history, .ref q_hand, .ref q_trial, .ref q_bags, .ref q_chase, .ref q_costs, .ref q_sets, .ref q_trials])), (q_net, .inr (4, [.int x_net_posts, .int x_net_pairs, .ref q_net_widths, .ref q_net_lengths, .ref q_net_told, .ref q_net_behind])), (q_view_near, .inl (cI, 11, .inl x_view_near)), (q_view_behind, .inl (cI, 11, .inl x_view_behind))]) (wn := [(q_, .inr (9, [.ref q_net, .ref q_view, .ref q_history, .ref q_hand, .ref q_trial, .ref q_bags, .ref q_chase, .ref q_costs, .ref q_sets, .ref q_trials])), (q_net, .inr (4, [.int x_net_posts, .int x_net_pairs, .ref q_net_widths, .ref q_net_lengths, .ref q_net_told, .ref q_net_behind])), (q_view, .inr (8, [.int x_view_posts, .int x_view_roads, .int x_view_weight, .ref q_view_weights, .ref q_view_near, .ref q_view_behind, .ref q_view_ahead])), (q_view_weights, .inl (cI, 121, .inl x_view_weights)), (q_view_near, .inl (cI, 11, .inl x_view_near)), (q_view_behind, .inl (cI, 11, .inl x_view_behind)), (q_hand, .inr (5, [.ref q_hand_posts, .int x_hand_size])), (q_hand_posts, .inl (cI, 11, .inl x_hand_posts)), (q_costs, .inr (2, [.ref q_view]))]) (k_runV (rest := []) (ci := 2) (q0 := 8) hx hb hml hown htb hK hN (c_X2_placeOfSpan l dC dI cI cZ cN q_costs q_view q_view_weights q_view_near q_view_behind q_view_ahead q_hand q_hand_posts x_view_posts x_view_roads x_view_weight x_view_weights x_hand_size x_hand_posts v12 hv _) vf_X2_placeOfSpan t_510 hP hD [8, 2, 3, 6, 7] rfl rfl rfl rfl ⟨(Nat.le_of_ble_eq_true rfl), (Nat.le_of_ble_eq_true rfl)⟩ rfl hl.1 rfl (Nat.le_of_ble_eq_true rfl) dX10_where_54 ⟨Nat.zero_le _, Nat.zero_le _⟩) hA hP hD hS [8, 2, 3, 6, 7] [0, 1, 4, 5] [0, 1, 5, 6, 2, 3, 7, 8, 4] rfl rfl rfl rfl ?_
          clear hP hD hS
          intro H locs hP hD hS
          refine lv_goto (tgt := 72) hx hb dX10_where_57 (by decide) ?_
          exact hret _ hf _ _ _ _ rfl dX10_where_72 hP hD hS
      · have hf := ip c9 hf
        refine lv_bipush (v := (-4 : Int32)) hx hb dX10_where_39 (by decide) ?_
        exact hret _ hf _ _ _ _ rfl dX10_where_41 hP hD hS
    · have hf := im c7 hf
      refine lv_iload_n hx hb dX10_where_9 rfl (lv_at hl 1 rfl) ?_
      refine lv_iconst (v := (2 : Int32)) hx hb dX10_where_10 (by decide) ?_
      refine lv_icmp_eq (tgt := 22) hx hb dX10_where_11 (by decide) (fun c13 => ?_) (fun c13 => ?_)
      · have hf := ip c13 hf
        refine lv_aload_n hx hb dX10_where_22 rfl (lv_at hl 0 rfl) ?_
        refine va_get (D := (dC, dI)) (ci := 9) (v := .ref q_hand) (C := RX10) (T := TX10) (N := 10) hx hb htb inX10 hown hK hP 0 rfl rfl 3 (Nat.le_of_ble_eq_true rfl) (htb _ t_281) (fun _ h9 => h9) rfl dX10_where_23 ?_
        refine lv_aload_n hx hb dX10_where_26 rfl (lv_at hl 0 rfl) ?_
        refine va_get (D := (dC, dI)) (ci := 9) (v := .ref q_net) (C := RX10) (T := TX10) (N := 10) hx hb htb inX10 hown hK hP 0 rfl rfl 0 (Nat.le_of_ble_eq_true rfl) (htb _ t_278) (fun _ h9 => h9) rfl dX10_where_27 ?_
        refine va_get (D := (dC, dI)) (ci := 4) (v := .int x_net_posts) (C := RX4) (T := TX4) (N := 6) hx hb htb inX4 hown hK hP 1 rfl rfl 0 (Nat.le_of_ble_eq_true rfl) (htb _ t_35) (fun _ h9 => h9) rfl dX10_where_30 ?_
        obtain ⟨v14, hv, hf⟩ := ob hf
        refine k_afterI (wr := [(q_, .inr (9, [.ref q_net, .ref q_view, .ref q_history, .ref q_hand, .ref q_trial, .ref q_bags, .ref q_chase, .ref q_costs, .ref q_sets, .ref q_trials])), (q_net, .inr (4, [.int x_net_posts, .int x_net_pairs, .ref q_net_widths, .ref q_net_lengths, .ref q_net_told, .ref q_net_behind])), (q_view, .inr (8, [.int x_view_posts, .int x_view_roads, .int x_view_weight, .ref q_view_weights, .ref q_view_near, .ref q_view_behind, .ref q_view_ahead])), (q_view_weights, .inl (cI, 121, .inl x_view_weights)), (q_view_near, .inl (cI, 11, .inl x_view_near)), (q_view_behind, .inl (cI, 11, .inl x_view_behind)), (q_costs, .inr (2, [.ref q_view]))]) (wn := [(q_, .inr (9, [.ref q_net, .ref q_view, .ref q_history, .ref q_hand, .ref q_trial, .ref q_bags, .ref q_chase, .ref q_costs, .ref q_sets, .ref q_trials])), (q_net, .inr (4, [.int x_net_posts, .int x_net_pairs, .ref q_net_widths, .ref q_net_lengths, .ref q_net_told, .ref q_net_behind])), (q_view, .inr (8, [.int x_view_posts, .int x_view_roads, .int x_view_weight, .ref q_view_weights, .ref q_view_near, .ref q_view_behind, .ref q_view_ahead])), (q_view_weights, .inl (cI, 121, .inl x_view_weights)), (q_view_near, .inl (cI, 11, .inl x_view_near)), (q_view_behind, .inl (cI, 11, .inl x_view_behind)), (q_hand, .inr (5, [.ref q_hand_posts, .int x_hand_size])), (q_hand_posts, .inl (cI, 11, .inl x_hand_posts)), (q_costs, .inr (2, [.ref q_view]))]) (k_runV (rest := []) (ci := 5) (q0 := 6) hx hb hml hown htb hK hN (c_X5_isWhole l dC dI cI cZ cN q_hand q_hand_posts x_hand_size x_hand_posts x_net_posts v14 hv _) vf_X5_isWhole t_466 hP hD [6, 7] rfl rfl rfl rfl ⟨(Nat.le_of_ble_eq_true rfl), (Nat.le_of_ble_eq_true rfl)⟩ rfl hl.1 rfl (Nat.le_of_ble_eq_true rfl) dX10_where_33 ⟨Nat.zero_le _, Nat.zero_le _⟩) hA hP hD hS [6, 7] [0, 1, 2, 3, 4, 5, 8] [0, 1, 2, 3, 4, 5, 7, 8, 6] rfl rfl rfl rfl ?_
        clear hP hD hS
        intro H locs hP hD hS
        refine lv_if_ne (tgt := 42) hx hb dX10_where_36 (by decide) (fun c15 => ?_) (fun c15 => ?_)
        · have hf := im c15 hf
          refine lv_iload_n hx hb dX10_where_42 rfl (lv_at hl 1 rfl) ?_
          refine lv_if_ne (tgt := 60) hx hb dX10_where_43 (by decide) (fun c16 => ?_) (fun c16 => ?_)
          · have hf := im c16 hf
            refine lv_aload_n hx hb dX10_where_60 rfl (lv_at hl 0 rfl) ?_
            refine va_get (D := (dC, dI)) (ci := 9) (v := .ref q_costs) (C := RX10) (T := TX10) (N := 10) hx hb htb inX10 hown hK hP 0 rfl rfl 7 (Nat.le_of_ble_eq_true rfl) (htb _ t_285) (fun _ h9 => h9) rfl dX10_where_61 ?_
            refine lv_iload_n hx hb dX10_where_64 rfl (lv_at hl 1 rfl) ?_
            refine lv_aload_n hx hb dX10_where_65 rfl (lv_at hl 0 rfl) ?_
            refine va_get (D := (dC, dI)) (ci := 9) (v := .ref q_hand) (C := RX10) (T := TX10) (N := 10) hx hb htb inX10 hown hK hP 0 rfl rfl 3 (Nat.le_of_ble_eq_true rfl) (htb _ t_281) (fun _ h9 => h9) rfl dX10_where_66 ?_
            obtain ⟨v17, hv, hf⟩ := ob hf
            refine k_afterI (wr := [(q_, .inr (9, [.ref q_net, .ref q_view, .ref q_history, .ref q_hand, .ref q_trial, .ref q_bags, .ref q_chase, .ref q_costs, .ref q_sets, .ref q_trials])), (q_net, .inr (4, [.int x_net_posts, .int x_net_pairs, .ref q_net_widths, .ref q_net_lengths, .ref q_net_told, .ref q_net_behind]))]) (wn := [(q_, .inr (9, [.ref q_net, .ref q_view, .ref q_history, .ref q_hand, .ref q_trial, .ref q_bags, .ref q_chase, .ref q_costs, .ref q_sets, .ref q_trials])), (q_net, .inr (4, [.int x_net_posts, .int x_net_pairs, .ref q_net_widths, .ref q_net_lengths, .ref q_net_told, .ref q_net_behind])), (q_view, .inr (8, [.int x_view_posts, .int x_view_roads, .int x_view_weight, .ref q_view_weights, .ref q_view_near, .ref q_view_behind, .ref q_view_ahead])), (q_view_weights, .inl (cI, 121, .inl x_view_weights)), (q_view_near, .inl (cI, 11, .inl x_view_near)), (q_view_behind, .inl (cI, 11, .inl x_view_behind)), (q_hand, .inr (5, [.ref q_hand_posts, .int x_hand_size])), (q_hand_posts, .inl (cI, 11, .inl x_hand_posts)), (q_costs, .inr (2, [.ref q_view]))]) (k_runV (rest := []) (ci := 2) (q0 := 8) hx hb hml hown htb hK hN (c_X2_placeOfPeak l dC dI cI cZ cN q_costs q_view q_view_weights q_view_near q_view_behind q_view_ahead q_hand q_hand_posts x_view_posts x_view_roads x_view_weight x_view_weights x_view_near x_view_behind x_hand_size x_hand_posts i1 v17 hv _) vf_X2_placeOfPeak t_514 hP hD [8, 2, 3, 4, 5, 6, 7] rfl rfl rfl rfl ⟨(Nat.le_of_ble_eq_true rfl), (Nat.le_of_ble_eq_true rfl)⟩ rfl hl.1 rfl (Nat.le_of_ble_eq_true rfl) dX10_where_69 ⟨Nat.zero_le _, Nat.zero_le _⟩) hA hP hD hS [8, 2, 3, 4, 5, 6, 7] [0, 1] [0, 1, 3, 4, 5, 6, 7, 8, 2] rfl rfl rfl rfl ?_
            clear hP hD hS
            intro H locs hP hD hS
            exact hret _ hf _ _ _ _ rfl dX10_where_72 hP hD hS
          · have hf := ip c16 hf
            refine lv_aload_n hx hb dX10_where_46 rfl (lv_at hl 0 rfl) ?_
            refine va_get (D := (dC, dI)) (ci := 9) (v := .ref q_costs) (C := RX10) (T := TX10) (N := 10) hx hb htb inX10 hown hK hP 0 rfl rfl 7 (Nat.le_of_ble_eq_true rfl) (htb _ t_285) (fun _ h9 => h9) rfl dX10_where_47 ?_
            refine lv_aload_n hx hb dX10_where_50 rfl (lv_at hl 0 rfl) ?_
            refine va_get (D := (dC, dI)) (ci := 9) (v := .ref q_hand) (C := RX10) (T := TX10) (N := 10) hx hb htb inX10 hown hK hP 0 rfl rfl 3 (Nat.le_of_ble_eq_true rfl) (htb _ t_281) (fun _ h9 => h9) rfl dX10_where_51 ?_
            obtain ⟨v18, hv, hf⟩ := ob hf
            refine k_afterI (wr := [(q_, .inr (9, [.ref q_net, .ref q_view, .ref q_history, .ref q_hand, .ref q_trial, .ref q_bags, .ref q_chase, .ref q_costs, .ref q_sets, .ref q_trials])), (q_net, .inr (4, [.int x_net_posts, .int x_net_pairs, .ref q_net_widths, .ref q_net_lengths, .ref q_net_told, .ref q_net_behind])), (q_view_near, .inl (cI, 11, .inl x_view_near)), (q_view_behind, .inl (cI, 11, .inl x_view_behind))]) (wn := [(q_, .inr (9, [.ref q_net, .ref q_view, .ref q_history, .ref q_hand, .ref q_trial, .ref q_bags, .ref q_chase, .ref q_costs, .ref q_sets, .ref q_trials])), (q_net, .inr (4, [.int x_net_posts, .int x_net_pairs, .ref q_net_widths, .ref q_net_lengths, .ref q_net_told, .ref q_net_behind])), (q_view, .inr (8, [.int x_view_posts, .int x_view_roads, .int x_view_weight, .ref q_view_weights, .ref q_view_near, .ref q_view_behind, .ref q_view_ahead])), (q_view_weights, .inl (cI, 121, .inl x_view_weights)), (q_view_near, .inl (cI, 11, .inl x_view_near)), (q_view_behind, .inl (cI, 11, .inl x_view_behind)), (q_hand, .inr (5, [.ref q_hand_posts, .int x_hand_size])), (q_hand_posts, .inl (cI, 11, .inl x_hand_posts)), (q_costs, .inr (2, [.ref q_view]))]) (k_runV (rest := []) (ci := 2) (q0 := 8) hx hb hml hown htb hK hN (c_X2_placeOfSpan l dC dI cI cZ cN q_costs q_view q_view_weights q_view_near q_view_behind q_view_ahead q_hand q_hand_posts x_view_posts x_view_roads x_view_weight x_view_weights x_hand_size x_hand_posts v18 hv _) vf_X2_placeOfSpan t_510 hP hD [8, 2, 3, 6, 7] rfl rfl rfl rfl ⟨(Nat.le_of_ble_eq_true rfl), (Nat.le_of_ble_eq_true rfl)⟩ rfl hl.1 rfl (Nat.le_of_ble_eq_true rfl) dX10_where_54 ⟨Nat.zero_le _, Nat.zero_le _⟩) hA hP hD hS [8, 2, 3, 6, 7] [0, 1, 4, 5] [0, 1, 5, 6, 2, 3, 7, 8, 4] rfl rfl rfl rfl ?_
            clear hP hD hS
            intro H locs hP hD hS
            refine lv_goto (tgt := 72) hx hb dX10_where_57 (by decide) ?_
            exact hret _ hf _ _ _ _ rfl dX10_where_72 hP hD hS
        · have hf := ip c15 hf
          refine lv_bipush (v := (-4 : Int32)) hx hb dX10_where_39 (by decide) ?_
          exact hret _ hf _ _ _ _ rfl dX10_where_41 hP hD hS
      · have hf := im c13 hf
        refine lv_iload_n hx hb dX10_where_14 rfl (lv_at hl 1 rfl) ?_
        refine lv_iconst (v := (5 : Int32)) hx hb dX10_where_15 (by decide) ?_
        refine lv_icmp_eq (tgt := 22) hx hb dX10_where_16 (by decide) (fun c19 => ?_) (fun c19 => ?_)
        · have hf := ip c19 hf
          refine lv_aload_n hx hb dX10_where_22 rfl (lv_at hl 0 rfl) ?_
          refine va_get (D := (dC, dI)) (ci := 9) (v := .ref q_hand) (C := RX10) (T := TX10) (N := 10) hx hb htb inX10 hown hK hP 0 rfl rfl 3 (Nat.le_of_ble_eq_true rfl) (htb _ t_281) (fun _ h9 => h9) rfl dX10_where_23 ?_
          refine lv_aload_n hx hb dX10_where_26 rfl (lv_at hl 0 rfl) ?_
          refine va_get (D := (dC, dI)) (ci := 9) (v := .ref q_net) (C := RX10) (T := TX10) (N := 10) hx hb htb inX10 hown hK hP 0 rfl rfl 0 (Nat.le_of_ble_eq_true rfl) (htb _ t_278) (fun _ h9 => h9) rfl dX10_where_27 ?_
          refine va_get (D := (dC, dI)) (ci := 4) (v := .int x_net_posts) (C := RX4) (T := TX4) (N := 6) hx hb htb inX4 hown hK hP 1 rfl rfl 0 (Nat.le_of_ble_eq_true rfl) (htb _ t_35) (fun _ h9 => h9) rfl dX10_where_30 ?_
          obtain ⟨v20, hv, hf⟩ := ob hf
          refine k_afterI (wr := [(q_, .inr (9, [.ref q_net, .ref q_view, .ref q_history, .ref q_hand, .ref q_trial, .ref q_bags, .ref q_chase, .ref q_costs, .ref q_sets, .ref q_trials])), (q_net, .inr (4, [.int x_net_posts, .int x_net_pairs, .ref q_net_widths, .ref q_net_lengths, .ref q_net_told, .ref q_net_behind])), (q_view, .inr (8, [.int x_view_posts, .int x_view_roads, .int x_view_weight, .ref q_view_weights, .ref q_view_near, .ref q_view_behind, .ref q_view_ahead])), (q_view_weights, .inl (cI, 121, .inl x_view_weights)), (q_view_near, .inl (cI, 11, .inl x_view_near)), (q_view_behind, .inl (cI, 11, .inl x_view_behind)), (q_costs, .inr (2, [.ref q_view]))]) (wn := [(q_, .inr (9, [.ref q_net, .ref q_view, .ref q_history, .ref q_hand, .ref q_trial, .ref q_bags, .ref q_chase, .ref q_costs, .ref q_sets, .ref q_trials])), (q_net, .inr (4, [.int x_net_posts, .int x_net_pairs, .ref q_net_widths, .ref q_net_lengths, .ref q_net_told, .ref q_net_behind])), (q_view, .inr (8, [.int x_view_posts, .int x_view_roads, .int x_view_weight, .ref q_view_weights, .ref q_view_near, .ref q_view_behind, .ref q_view_ahead])), (q_view_weights, .inl (cI, 121, .inl x_view_weights)), (q_view_near, .inl (cI, 11, .inl x_view_near)), (q_view_behind, .inl (cI, 11, .inl x_view_behind)), (q_hand, .inr (5, [.ref q_hand_posts, .int x_hand_size])), (q_hand_posts, .inl (cI, 11, .inl x_hand_posts)), (q_costs, .inr (2, [.ref q_view]))]) (k_runV (rest := []) (ci := 5) (q0 := 6) hx hb hml hown htb hK hN (c_X5_isWhole l dC dI cI cZ cN q_hand q_hand_posts x_hand_size x_hand_posts x_net_posts v20 hv _) vf_X5_isWhole t_466 hP hD [6, 7] rfl rfl rfl rfl ⟨(Nat.le_of_ble_eq_true rfl), (Nat.le_of_ble_eq_true rfl)⟩ rfl hl.1 rfl (Nat.le_of_ble_eq_true rfl) dX10_where_33 ⟨Nat.zero_le _, Nat.zero_le _⟩) hA hP hD hS [6, 7] [0, 1, 2, 3, 4, 5, 8] [0, 1, 2, 3, 4, 5, 7, 8, 6] rfl rfl rfl rfl ?_
          clear hP hD hS
          intro H locs hP hD hS
          refine lv_if_ne (tgt := 42) hx hb dX10_where_36 (by decide) (fun c21 => ?_) (fun c21 => ?_)
          · have hf := im c21 hf
            refine lv_iload_n hx hb dX10_where_42 rfl (lv_at hl 1 rfl) ?_
            refine lv_if_ne (tgt := 60) hx hb dX10_where_43 (by decide) (fun c22 => ?_) (fun c22 => ?_)
            · have hf := im c22 hf
              refine lv_aload_n hx hb dX10_where_60 rfl (lv_at hl 0 rfl) ?_
              refine va_get (D := (dC, dI)) (ci := 9) (v := .ref q_costs) (C := RX10) (T := TX10) (N := 10) hx hb htb inX10 hown hK hP 0 rfl rfl 7 (Nat.le_of_ble_eq_true rfl) (htb _ t_285) (fun _ h9 => h9) rfl dX10_where_61 ?_
              refine lv_iload_n hx hb dX10_where_64 rfl (lv_at hl 1 rfl) ?_
              refine lv_aload_n hx hb dX10_where_65 rfl (lv_at hl 0 rfl) ?_
              refine va_get (D := (dC, dI)) (ci := 9) (v := .ref q_hand) (C := RX10) (T := TX10) (N := 10) hx hb htb inX10 hown hK hP 0 rfl rfl 3 (Nat.le_of_ble_eq_true rfl) (htb _ t_281) (fun _ h9 => h9) rfl dX10_where_66 ?_
              obtain ⟨v23, hv, hf⟩ := ob hf
              refine k_afterI (wr := [(q_, .inr (9, [.ref q_net, .ref q_view, .ref q_history, .ref q_hand, .ref q_trial, .ref q_bags, .ref q_chase, .ref q_costs, .ref q_sets, .ref q_trials])), (q_net, .inr (4, [.int x_net_posts, .int x_net_pairs, .ref q_net_widths, .ref q_net_lengths, .ref q_net_told, .ref q_net_behind]))]) (wn := [(q_, .inr (9, [.ref q_net, .ref q_view, .ref q_history, .ref q_hand, .ref q_trial, .ref q_bags, .ref q_chase, .ref q_costs, .ref q_sets, .ref q_trials])), (q_net, .inr (4, [.int x_net_posts, .int x_net_pairs, .ref q_net_widths, .ref q_net_lengths, .ref q_net_told, .ref q_net_behind])), (q_view, .inr (8, [.int x_view_posts, .int x_view_roads, .int x_view_weight, .ref q_view_weights, .ref q_view_near, .ref q_view_behind, .ref q_view_ahead])), (q_view_weights, .inl (cI, 121, .inl x_view_weights)), (q_view_near, .inl (cI, 11, .inl x_view_near)), (q_view_behind, .inl (cI, 11, .inl x_view_behind)), (q_hand, .inr (5, [.ref q_hand_posts, .int x_hand_size])), (q_hand_posts, .inl (cI, 11, .inl x_hand_posts)), (q_costs, .inr (2, [.ref q_view]))]) (k_runV (rest := []) (ci := 2) (q0 := 8) hx hb hml hown htb hK hN (c_X2_placeOfPeak l dC dI cI cZ cN q_costs q_view q_view_weights q_view_near q_view_behind q_view_ahead q_hand q_hand_posts x_view_posts x_view_roads x_view_weight x_view_weights x_view_near x_view_behind x_hand_size x_hand_posts i1 v23 hv _) vf_X2_placeOfPeak t_514 hP hD [8, 2, 3, 4, 5, 6, 7] rfl rfl rfl rfl ⟨(Nat.le_of_ble_eq_true rfl), (Nat.le_of_ble_eq_true rfl)⟩ rfl hl.1 rfl (Nat.le_of_ble_eq_true rfl) dX10_where_69 ⟨Nat.zero_le _, Nat.zero_le _⟩) hA hP hD hS [8, 2, 3, 4, 5, 6, 7] [0, 1] [0, 1, 3, 4, 5, 6, 7, 8, 2] rfl rfl rfl rfl ?_
              clear hP hD hS
              intro H locs hP hD hS
              exact hret _ hf _ _ _ _ rfl dX10_where_72 hP hD hS
            · have hf := ip c22 hf
              refine lv_aload_n hx hb dX10_where_46 rfl (lv_at hl 0 rfl) ?_
              refine va_get (D := (dC, dI)) (ci := 9) (v := .ref q_costs) (C := RX10) (T := TX10) (N := 10) hx hb htb inX10 hown hK hP 0 rfl rfl 7 (Nat.le_of_ble_eq_true rfl) (htb _ t_285) (fun _ h9 => h9) rfl dX10_where_47 ?_
              refine lv_aload_n hx hb dX10_where_50 rfl (lv_at hl 0 rfl) ?_
              refine va_get (D := (dC, dI)) (ci := 9) (v := .ref q_hand) (C := RX10) (T := TX10) (N := 10) hx hb htb inX10 hown hK hP 0 rfl rfl 3 (Nat.le_of_ble_eq_true rfl) (htb _ t_281) (fun _ h9 => h9) rfl dX10_where_51 ?_
              obtain ⟨v24, hv, hf⟩ := ob hf
              refine k_afterI (wr := [(q_, .inr (9, [.ref q_net, .ref q_view, .ref q_history, .ref q_hand, .ref q_trial, .ref q_bags, .ref q_chase, .ref q_costs, .ref q_sets, .ref q_trials])), (q_net, .inr (4, [.int x_net_posts, .int x_net_pairs, .ref q_net_widths, .ref q_net_lengths, .ref q_net_told, .ref q_net_behind])), (q_view_near, .inl (cI, 11, .inl x_view_near)), (q_view_behind, .inl (cI, 11, .inl x_view_behind))]) (wn := [(q_, .inr (9, [.ref q_net, .ref q_view, .ref q_history, .ref q_hand, .ref q_trial, .ref q_bags, .ref q_chase, .ref q_costs, .ref q_sets, .ref q_trials])), (q_net, .inr (4, [.int x_net_posts, .int x_net_pairs, .ref q_net_widths, .ref q_net_lengths, .ref q_net_told, .ref q_net_behind])), (q_view, .inr (8, [.int x_view_posts, .int x_view_roads, .int x_view_weight, .ref q_view_weights, .ref q_view_near, .ref q_view_behind, .ref q_view_ahead])), (q_view_weights, .inl (cI, 121, .inl x_view_weights)), (q_view_near, .inl (cI, 11, .inl x_view_near)), (q_view_behind, .inl (cI, 11, .inl x_view_behind)), (q_hand, .inr (5, [.ref q_hand_posts, .int x_hand_size])), (q_hand_posts, .inl (cI, 11, .inl x_hand_posts)), (q_costs, .inr (2, [.ref q_view]))]) (k_runV (rest := []) (ci := 2) (q0 := 8) hx hb hml hown htb hK hN (c_X2_placeOfSpan l dC dI cI cZ cN q_costs q_view q_view_weights q_view_near q_view_behind q_view_ahead q_hand q_hand_posts x_view_posts x_view_roads x_view_weight x_view_weights x_hand_size x_hand_posts v24 hv _) vf_X2_placeOfSpan t_510 hP hD [8, 2, 3, 6, 7] rfl rfl rfl rfl ⟨(Nat.le_of_ble_eq_true rfl), (Nat.le_of_ble_eq_true rfl)⟩ rfl hl.1 rfl (Nat.le_of_ble_eq_true rfl) dX10_where_54 ⟨Nat.zero_le _, Nat.zero_le _⟩) hA hP hD hS [8, 2, 3, 6, 7] [0, 1, 4, 5] [0, 1, 5, 6, 2, 3, 7, 8, 4] rfl rfl rfl rfl ?_
              clear hP hD hS
              intro H locs hP hD hS
              refine lv_goto (tgt := 72) hx hb dX10_where_57 (by decide) ?_
              exact hret _ hf _ _ _ _ rfl dX10_where_72 hP hD hS
          · have hf := ip c21 hf
            refine lv_bipush (v := (-4 : Int32)) hx hb dX10_where_39 (by decide) ?_
            exact hret _ hf _ _ _ _ rfl dX10_where_41 hP hD hS
        · have hf := im c19 hf
          refine lv_bipush (v := (-3 : Int32)) hx hb dX10_where_19 (by decide) ?_
          exact hret _ hf _ _ _ _ rfl dX10_where_21 hP hD hS
theorem vf_X10_lawful : VF yX10_lawful cX10_lawful 1 (some .int) 0 := ⟨t_519, t_520, t_1, t_521, by decide +kernel, by decide +kernel, by decide +kernel⟩
theorem dX10_lawful_0 : decode cX10_lawful 0 = .ok (.aload_n 0, 1) := by decide +kernel
theorem dX10_lawful_1 : decode cX10_lawful 1 = .ok (.getfield 33, 3) := by decide +kernel
theorem dX10_lawful_4 : decode cX10_lawful 4 = .ok (.aload_n 0, 1) := by decide +kernel
theorem dX10_lawful_5 : decode cX10_lawful 5 = .ok (.getfield 12, 3) := by decide +kernel
theorem dX10_lawful_8 : decode cX10_lawful 8 = .ok (.getfield 79, 3) := by decide +kernel
theorem dX10_lawful_11 : decode cX10_lawful 11 = .ok (.invokevirtual 177, 3) := by decide +kernel
theorem dX10_lawful_14 : decode cX10_lawful 14 = .ok (.ifCond .ne 6, 3) := by decide +kernel
theorem dX10_lawful_17 : decode cX10_lawful 17 = .ok (.bipush (-4), 2) := by decide +kernel
theorem dX10_lawful_19 : decode cX10_lawful 19 = .ok (.ireturn, 1) := by decide +kernel
theorem dX10_lawful_20 : decode cX10_lawful 20 = .ok (.aload_n 0, 1) := by decide +kernel
theorem dX10_lawful_21 : decode cX10_lawful 21 = .ok (.getfield 19, 3) := by decide +kernel
theorem dX10_lawful_24 : decode cX10_lawful 24 = .ok (.aload_n 0, 1) := by decide +kernel
theorem dX10_lawful_25 : decode cX10_lawful 25 = .ok (.getfield 33, 3) := by decide +kernel
theorem dX10_lawful_28 : decode cX10_lawful 28 = .ok (.invokevirtual 191, 3) := by decide +kernel
theorem dX10_lawful_31 : decode cX10_lawful 31 = .ok (.ifCond .eq 7, 3) := by decide +kernel
theorem dX10_lawful_34 : decode cX10_lawful 34 = .ok (.iconst 1, 1) := by decide +kernel
theorem dX10_lawful_35 : decode cX10_lawful 35 = .ok (.goto 4, 3) := by decide +kernel
theorem dX10_lawful_38 : decode cX10_lawful 38 = .ok (.iconst 0, 1) := by decide +kernel
theorem dX10_lawful_39 : decode cX10_lawful 39 = .ok (.ireturn, 1) := by decide +kernel
noncomputable def f_X10_lawful (x_net_posts : Int32) (x_view_ahead : Nat → Int32) (x_hand_size : Int32) (x_hand_posts : Nat → Int32) : Option (Int32) :=
  (f_X5_isWhole x_hand_size x_hand_posts x_net_posts).bind fun v1 =>
  if v1 = 0 then (some ((-4 : Int32))) else ((f_X9_keepsPairs x_view_ahead x_hand_size x_hand_posts).bind fun v3 =>
  if v3 = 0 then (some ((0 : Int32))) else (some ((1 : Int32))))
set_option maxHeartbeats 4000000 in
set_option maxRecDepth 100000 in
theorem c_X10_lawful (l : Launch) (dC : Nat → ClassId) (dI : Nat → Nat → Nat) (cI cZ cN : ClassId) (q_ : Nat) (q_net : Nat) (q_view : Nat) (q_history : Nat) (q_hand : Nat) (q_trial : Nat) (q_bags : Nat) (q_chase : Nat) (q_costs : Nat) (q_sets : Nat) (q_trials : Nat) (q_net_widths : Nat) (q_net_lengths : Nat) (q_net_told : Nat) (q_net_behind : Nat) (q_view_weights : Nat) (q_view_near : Nat) (q_view_behind : Nat) (q_view_ahead : Nat) (q_hand_posts : Nat) (x_net_posts : Int32) (x_net_pairs : Int32) (x_view_posts : Int32) (x_view_roads : Int32) (x_view_weight : Int32) (x_view_ahead : Nat → Int32) (x_hand_size : Int32) (x_hand_posts : Nat → Int32) (r : Int32) (hf : f_X10_lawful x_net_posts x_view_ahead x_hand_size x_hand_posts = some r) : CI l yX10_lawful cX10_lawful 1 (some .int) 4 106 (dC, dI) (TY cI cZ cN) [.ref q_] [(q_, .inr (9, [.ref q_net, .ref q_view, .ref q_history, .ref q_hand, .ref q_trial, .ref q_bags, .ref q_chase, .ref q_costs, .ref q_sets, .ref q_trials])), (q_net, .inr (4, [.int x_net_posts, .int x_net_pairs, .ref q_net_widths, .ref q_net_lengths, .ref q_net_told, .ref q_net_behind])), (q_view, .inr (8, [.int x_view_posts, .int x_view_roads, .int x_view_weight, .ref q_view_weights, .ref q_view_near, .ref q_view_behind, .ref q_view_ahead])), (q_view_ahead, .inl (cI, 11, .inl x_view_ahead)), (q_hand, .inr (5, [.ref q_hand_posts, .int x_hand_size])), (q_hand_posts, .inl (cI, 11, .inl x_hand_posts))] [(q_, .inr (9, [.ref q_net, .ref q_view, .ref q_history, .ref q_hand, .ref q_trial, .ref q_bags, .ref q_chase, .ref q_costs, .ref q_sets, .ref q_trials])), (q_net, .inr (4, [.int x_net_posts, .int x_net_pairs, .ref q_net_widths, .ref q_net_lengths, .ref q_net_told, .ref q_net_behind])), (q_view, .inr (8, [.int x_view_posts, .int x_view_roads, .int x_view_weight, .ref q_view_weights, .ref q_view_near, .ref q_view_behind, .ref q_view_ahead])), (q_view_ahead, .inl (cI, 11, .inl x_view_ahead)), (q_hand, .inr (5, [.ref q_hand_posts, .int x_hand_size])), (q_hand_posts, .inl (cI, 11, .inl x_hand_posts))] r := by
  refine CI.of rfl (by decide) (Nat.le_of_ble_eq_true rfl) ?_
  intro p e s m args below meth c Q A ls hx hb hml hown htb hK hN hA hP hD hS hl hret
  have hown : s.vm.findClass RX10 = some m.cls := hown
  have hl : lv_has ls 1 [(0, .ref q_)] := hl
  have hret : ∀ (r9 : Int32), some r9 = some r → ∀ (H : Heap) (locs : List Loc) (pc : Nat) (ls : Array Slot), narrow .int (.int r9) = .int r9 → decode cX10_lawful pc = .ok (.ireturn, 1) → va_P (dC, dI) vwCl [(q_, .inr (9, [.ref q_net, .ref q_view, .ref q_history, .ref q_hand, .ref q_trial, .ref q_bags, .ref q_chase, .ref q_costs, .ref q_sets, .ref q_trials])), (q_net, .inr (4, [.int x_net_posts, .int x_net_pairs, .ref q_net_widths, .ref q_net_lengths, .ref q_net_told, .ref q_net_behind])), (q_view, .inr (8, [.int x_view_posts, .int x_view_roads, .int x_view_weight, .ref q_view_weights, .ref q_view_near, .ref q_view_behind, .ref q_view_ahead])), (q_view_ahead, .inl (cI, 11, .inl x_view_ahead)), (q_hand, .inr (5, [.ref q_hand_posts, .int x_hand_size])), (q_hand_posts, .inl (cI, 11, .inl x_hand_posts))] H → va_D A [(q_, .inr (9, [.ref q_net, .ref q_view, .ref q_history, .ref q_hand, .ref q_trial, .ref q_bags, .ref q_chase, .ref q_costs, .ref q_sets, .ref q_trials])), (q_net, .inr (4, [.int x_net_posts, .int x_net_pairs, .ref q_net_widths, .ref q_net_lengths, .ref q_net_told, .ref q_net_behind])), (q_view, .inr (8, [.int x_view_posts, .int x_view_roads, .int x_view_weight, .ref q_view_weights, .ref q_view_near, .ref q_view_behind, .ref q_view_ahead])), (q_view_ahead, .inl (cI, 11, .inl x_view_ahead)), (q_hand, .inr (5, [.ref q_hand_posts, .int x_hand_size])), (q_hand_posts, .inl (cI, 11, .inl x_hand_posts))] → va_S A s.heap H locs → W p l e (rmK 4 106) s m args below meth c H locs 0 0 Q (F0 m pc ls [.int r9]) := by
    intro r9 h9
    cases h9
    exact hret
  unfold f_X10_lawful at hf
  refine lv_aload_n hx hb dX10_lawful_0 rfl (lv_at hl 0 rfl) ?_
  refine va_get (D := (dC, dI)) (ci := 9) (v := .ref q_hand) (C := RX10) (T := TX10) (N := 10) hx hb htb inX10 hown hK hP 0 rfl rfl 3 (Nat.le_of_ble_eq_true rfl) (htb _ t_281) (fun _ h9 => h9) rfl dX10_lawful_1 ?_
  refine lv_aload_n hx hb dX10_lawful_4 rfl (lv_at hl 0 rfl) ?_
  refine va_get (D := (dC, dI)) (ci := 9) (v := .ref q_net) (C := RX10) (T := TX10) (N := 10) hx hb htb inX10 hown hK hP 0 rfl rfl 0 (Nat.le_of_ble_eq_true rfl) (htb _ t_278) (fun _ h9 => h9) rfl dX10_lawful_5 ?_
  refine va_get (D := (dC, dI)) (ci := 4) (v := .int x_net_posts) (C := RX4) (T := TX4) (N := 6) hx hb htb inX4 hown hK hP 1 rfl rfl 0 (Nat.le_of_ble_eq_true rfl) (htb _ t_35) (fun _ h9 => h9) rfl dX10_lawful_8 ?_
  obtain ⟨v1, hv, hf⟩ := ob hf
  refine k_afterI (wr := [(q_, .inr (9, [.ref q_net, .ref q_view, .ref q_history, .ref q_hand, .ref q_trial, .ref q_bags, .ref q_chase, .ref q_costs, .ref q_sets, .ref q_trials])), (q_net, .inr (4, [.int x_net_posts, .int x_net_pairs, .ref q_net_widths, .ref q_net_lengths, .ref q_net_told, .ref q_net_behind])), (q_view, .inr (8, [.int x_view_posts, .int x_view_roads, .int x_view_weight, .ref q_view_weights, .ref q_view_near, .ref q_view_behind, .ref q_view_ahead])), (q_view_ahead, .inl (cI, 11, .inl x_view_ahead))]) (wn := [(q_, .inr (9, [.ref q_net, .ref q_view, .ref q_history, .ref q_hand, .ref q_trial, .ref q_bags, .ref q_chase, .ref q_costs, .ref q_sets, .ref q_trials])), (q_net, .inr (4, [.int x_net_posts, .int x_net_pairs, .ref q_net_widths, .ref q_net_lengths, .ref q_net_told, .ref q_net_behind])), (q_view, .inr (8, [.int x_view_posts, .int x_view_roads, .int x_view_weight, .ref q_view_weights, .ref q_view_near, .ref q_view_behind, .ref q_view_ahead])), (q_view_ahead, .inl (cI, 11, .inl x_view_ahead)), (q_hand, .inr (5, [.ref q_hand_posts, .int x_hand_size])), (q_hand_posts, .inl (cI, 11, .inl x_hand_posts))]) (k_runV (rest := []) (ci := 5) (q0 := 4) hx hb hml hown htb hK hN (c_X5_isWhole l dC dI cI cZ cN q_hand q_hand_posts x_hand_size x_hand_posts x_net_posts v1 hv _) vf_X5_isWhole t_466 hP hD [4, 5] rfl rfl rfl rfl ⟨(Nat.le_of_ble_eq_true rfl), (Nat.le_of_ble_eq_true rfl)⟩ rfl hl.1 rfl (Nat.le_of_ble_eq_true rfl) dX10_lawful_11 ⟨Nat.zero_le _, Nat.zero_le _⟩) hA hP hD hS [4, 5] [0, 1, 2, 3] [0, 1, 2, 3, 4, 5] rfl rfl rfl rfl ?_
  clear hP hD hS
  intro H locs hP hD hS
  refine lv_if_ne (tgt := 20) hx hb dX10_lawful_14 (by decide) (fun c2 => ?_) (fun c2 => ?_)
  · have hf := im c2 hf
    refine lv_aload_n hx hb dX10_lawful_20 rfl (lv_at hl 0 rfl) ?_
    refine va_get (D := (dC, dI)) (ci := 9) (v := .ref q_view) (C := RX10) (T := TX10) (N := 10) hx hb htb inX10 hown hK hP 0 rfl rfl 1 (Nat.le_of_ble_eq_true rfl) (htb _ t_279) (fun _ h9 => h9) rfl dX10_lawful_21 ?_
    refine lv_aload_n hx hb dX10_lawful_24 rfl (lv_at hl 0 rfl) ?_
    refine va_get (D := (dC, dI)) (ci := 9) (v := .ref q_hand) (C := RX10) (T := TX10) (N := 10) hx hb htb inX10 hown hK hP 0 rfl rfl 3 (Nat.le_of_ble_eq_true rfl) (htb _ t_281) (fun _ h9 => h9) rfl dX10_lawful_25 ?_
    obtain ⟨v3, hv, hf⟩ := ob hf
    refine k_afterI (wr := [(q_, .inr (9, [.ref q_net, .ref q_view, .ref q_history, .ref q_hand, .ref q_trial, .ref q_bags, .ref q_chase, .ref q_costs, .ref q_sets, .ref q_trials])), (q_net, .inr (4, [.int x_net_posts, .int x_net_pairs, .ref q_net_widths, .ref q_net_lengths, .ref q_net_told, .ref q_net_behind]))]) (wn := [(q_, .inr (9, [.ref q_net, .ref q_view, .ref q_history, .ref q_hand, .ref q_trial, .ref q_bags, .ref q_chase, .ref q_costs, .ref q_sets, .ref q_trials])), (q_net, .inr (4, [.int x_net_posts, .int x_net_pairs, .ref q_net_widths, .ref q_net_lengths, .ref q_net_told, .ref q_net_behind])), (q_view, .inr (8, [.int x_view_posts, .int x_view_roads, .int x_view_weight, .ref q_view_weights, .ref q_view_near, .ref q_view_behind, .ref q_view_ahead])), (q_view_ahead, .inl (cI, 11, .inl x_view_ahead)), (q_hand, .inr (5, [.ref q_hand_posts, .int x_hand_size])), (q_hand_posts, .inl (cI, 11, .inl x_hand_posts))]) (k_runV (rest := []) (ci := 8) (q0 := 2) hx hb hml hown htb hK hN (c_X9_keepsPairs l dC dI cI cZ cN q_view q_view_weights q_view_near q_view_behind q_view_ahead q_hand q_hand_posts x_view_posts x_view_roads x_view_weight x_view_ahead x_hand_size x_hand_posts v3 hv _) vf_X9_keepsPairs t_522 hP hD [2, 3, 4, 5] rfl rfl rfl rfl ⟨(Nat.le_of_ble_eq_true rfl), (Nat.le_of_ble_eq_true rfl)⟩ rfl hl.1 rfl (Nat.le_of_ble_eq_true rfl) dX10_lawful_28 ⟨Nat.zero_le _, Nat.zero_le _⟩) hA hP hD hS [2, 3, 4, 5] [0, 1] [0, 1, 2, 3, 4, 5] rfl rfl rfl rfl ?_
    clear hP hD hS
    intro H locs hP hD hS
    refine lv_if_eq (tgt := 38) hx hb dX10_lawful_31 (by decide) (fun c4 => ?_) (fun c4 => ?_)
    · have hf := ip c4 hf
      refine lv_iconst (v := (0 : Int32)) hx hb dX10_lawful_38 (by decide) ?_
      exact hret _ hf _ _ _ _ rfl dX10_lawful_39 hP hD hS
    · have hf := im c4 hf
      refine lv_iconst (v := (1 : Int32)) hx hb dX10_lawful_34 (by decide) ?_
      refine lv_goto (tgt := 39) hx hb dX10_lawful_35 (by decide) ?_
      exact hret _ hf _ _ _ _ rfl dX10_lawful_39 hP hD hS
  · have hf := ip c2 hf
    refine lv_bipush (v := (-4 : Int32)) hx hb dX10_lawful_17 (by decide) ?_
    exact hret _ hf _ _ _ _ rfl dX10_lawful_19 hP hD hS
