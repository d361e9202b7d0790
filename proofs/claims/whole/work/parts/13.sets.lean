theorem vf_X7_forget : VF yX7_forget cX7_forget 1 none 0 := ⟨t_342, t_343, t_11, t_344, by decide +kernel, by decide +kernel, by decide +kernel⟩
theorem dX7_forget_0 : decode cX7_forget 0 = .ok (.aload_n 0, 1) := by decide +kernel
theorem dX7_forget_1 : decode cX7_forget 1 = .ok (.iconst (-1), 1) := by decide +kernel
theorem dX7_forget_2 : decode cX7_forget 2 = .ok (.putfield 9, 3) := by decide +kernel
theorem dX7_forget_5 : decode cX7_forget 5 = .ok (.aload_n 0, 1) := by decide +kernel
theorem dX7_forget_6 : decode cX7_forget 6 = .ok (.iconst (-1), 1) := by decide +kernel
theorem dX7_forget_7 : decode cX7_forget 7 = .ok (.putfield 25, 3) := by decide +kernel
theorem dX7_forget_10 : decode cX7_forget 10 = .ok (.return_, 1) := by decide +kernel
noncomputable def f_X7_forget (x_solvedFor : Int32) (x_pricedFor : Int32) : Option (Int32 × Int32) :=
  some (((-1 : Int32), (-1 : Int32)))
set_option maxHeartbeats 4000000 in
set_option maxRecDepth 100000 in
theorem c_X7_forget (l : Launch) (dC : Nat → ClassId) (dI : Nat → Nat → Nat) (cI cZ cN : ClassId) (q_ : Nat) (q_view : Nat) (q_costs : Nat) (q_prices : Nat) (q_rests : Nat) (q_ways : Nat) (x_solvedFor : Int32) (x_lowest : Int32) (x_total : Int32) (x_pricedFor : Int32) (o_solvedFor : Int32) (o_pricedFor : Int32) (hf : f_X7_forget x_solvedFor x_pricedFor = some (o_solvedFor, o_pricedFor)) : CV l yX7_forget cX7_forget 1 none 2 60 (dC, dI) (TY cI cZ cN) [.ref q_] [(q_, .inr (6, [.ref q_view, .ref q_costs, .int x_solvedFor, .int x_lowest, .int x_total, .int x_pricedFor, .ref q_prices, .ref q_rests, .ref q_ways]))] [(q_, .inr (6, [.ref q_view, .ref q_costs, .int o_solvedFor, .int x_lowest, .int x_total, .int o_pricedFor, .ref q_prices, .ref q_rests, .ref q_ways]))] := by
  refine CV.of (by decide) (Nat.le_of_ble_eq_true rfl) ?_
  intro p e s m args below meth c Q A ls hx hb hml hown htb hK hN hA hP hD hS hl hret
  have hown : s.vm.findClass RX7 = some m.cls := hown
  have hl : lv_has ls 1 [(0, .ref q_)] := hl
  have hret : ∀ (o9_solvedFor : Int32) (o9_pricedFor : Int32), some (o9_solvedFor, o9_pricedFor) = some (o_solvedFor, o_pricedFor) → ∀ (H : Heap) (locs : List Loc) (pc : Nat) (ls : Array Slot), decode cX7_forget pc = .ok (.return_, 1) → va_P (dC, dI) vwCl [(q_, .inr (6, [.ref q_view, .ref q_costs, .int o9_solvedFor, .int x_lowest, .int x_total, .int o9_pricedFor, .ref q_prices, .ref q_rests, .ref q_ways]))] H → va_D A [(q_, .inr (6, [.ref q_view, .ref q_costs, .int o9_solvedFor, .int x_lowest, .int x_total, .int o9_pricedFor, .ref q_prices, .ref q_rests, .ref q_ways]))] → va_S A s.heap H locs → W p l e (rmK 2 60) s m args below meth c H locs 0 0 Q (F0 m pc ls []) := by
    intro o9_solvedFor o9_pricedFor h9
    cases h9
    exact hret
  unfold f_X7_forget at hf
  refine lv_aload_n hx hb dX7_forget_0 rfl (lv_at hl 0 rfl) ?_
  refine lv_iconst (v := (-1 : Int32)) hx hb dX7_forget_1 (by decide) ?_
  refine k_put (wn := [(q_, .inr (6, [.ref q_view, .ref q_costs, .int x_solvedFor, .int x_lowest, .int x_total, .int (-1 : Int32), .ref q_prices, .ref q_rests, .ref q_ways]))]) (C := RX7) (T := TX7) (N := 9) (ci := 6) hx hb htb inX7 tyX7 tyX7_ok nmX7 hown hK hP hD hS 0 rfl rfl 5 (Nat.le_of_ble_eq_true rfl) t_210 (fun _ h9 => h9) rfl (tyX7_ok 5 (Nat.le_of_ble_eq_true rfl)) (Nat.le_of_ble_eq_true rfl) rfl dX7_forget_2 ?_
  clear hP hD hS
  intro H locs hP hD hS
  refine lv_aload_n hx hb dX7_forget_5 rfl (lv_at hl 0 rfl) ?_
  refine lv_iconst (v := (-1 : Int32)) hx hb dX7_forget_6 (by decide) ?_
  refine k_put (wn := [(q_, .inr (6, [.ref q_view, .ref q_costs, .int (-1 : Int32), .int x_lowest, .int x_total, .int (-1 : Int32), .ref q_prices, .ref q_rests, .ref q_ways]))]) (C := RX7) (T := TX7) (N := 9) (ci := 6) hx hb htb inX7 tyX7 tyX7_ok nmX7 hown hK hP hD hS 0 rfl rfl 2 (Nat.le_of_ble_eq_true rfl) t_227 (u_same (htb _ t_228)) rfl (tyX7_ok 2 (Nat.le_of_ble_eq_true rfl)) (Nat.le_of_ble_eq_true rfl) rfl dX7_forget_7 ?_
  clear hP hD hS
  intro H locs hP hD hS
  exact hret _ _ hf _ _ _ _ dX7_forget_10 hP hD hS
theorem vf_X7_priceSets : VF yX7_priceSets cX7_priceSets 6 none 1 := ⟨t_551, tp_5, t_11, t_552, by decide +kernel, by decide +kernel, by decide +kernel⟩
theorem dX7_priceSets_0 : decode cX7_priceSets 0 = .ok (.iload_n 1, 1) := by decide +kernel
theorem dX7_priceSets_1 : decode cX7_priceSets 1 = .ok (.iconst 3, 1) := by decide +kernel
theorem dX7_priceSets_2 : decode cX7_priceSets 2 = .ok (.if_icmp .ne 7, 3) := by decide +kernel
theorem dX7_priceSets_5 : decode cX7_priceSets 5 = .ok (.iconst 1, 1) := by decide +kernel
theorem dX7_priceSets_6 : decode cX7_priceSets 6 = .ok (.goto 4, 3) := by decide +kernel
theorem dX7_priceSets_9 : decode cX7_priceSets 9 = .ok (.iload_n 1, 1) := by decide +kernel
theorem dX7_priceSets_10 : decode cX7_priceSets 10 = .ok (.istore_n 2, 1) := by decide +kernel
theorem dX7_priceSets_11 : decode cX7_priceSets 11 = .ok (.aload_n 0, 1) := by decide +kernel
theorem dX7_priceSets_12 : decode cX7_priceSets 12 = .ok (.getfield 9, 3) := by decide +kernel
theorem dX7_priceSets_15 : decode cX7_priceSets 15 = .ok (.iload_n 2, 1) := by decide +kernel
theorem dX7_priceSets_16 : decode cX7_priceSets 16 = .ok (.if_icmp .ne 4, 3) := by decide +kernel
theorem dX7_priceSets_19 : decode cX7_priceSets 19 = .ok (.return_, 1) := by decide +kernel
theorem dX7_priceSets_20 : decode cX7_priceSets 20 = .ok (.aload_n 0, 1) := by decide +kernel
theorem dX7_priceSets_21 : decode cX7_priceSets 21 = .ok (.iconst (-1), 1) := by decide +kernel
theorem dX7_priceSets_22 : decode cX7_priceSets 22 = .ok (.putfield 25, 3) := by decide +kernel
theorem dX7_priceSets_25 : decode cX7_priceSets 25 = .ok (.aload_n 0, 1) := by decide +kernel
theorem dX7_priceSets_26 : decode cX7_priceSets 26 = .ok (.getfield 15, 3) := by decide +kernel
theorem dX7_priceSets_29 : decode cX7_priceSets 29 = .ok (.iconst 0, 1) := by decide +kernel
theorem dX7_priceSets_30 : decode cX7_priceSets 30 = .ok (.iconst 0, 1) := by decide +kernel
theorem dX7_priceSets_31 : decode cX7_priceSets 31 = .ok (.iastore, 1) := by decide +kernel
theorem dX7_priceSets_32 : decode cX7_priceSets 32 = .ok (.iconst 0, 1) := by decide +kernel
theorem dX7_priceSets_33 : decode cX7_priceSets 33 = .ok (.istore_n 3, 1) := by decide +kernel
theorem dX7_priceSets_34 : decode cX7_priceSets 34 = .ok (.iload_n 3, 1) := by decide +kernel
theorem dX7_priceSets_35 : decode cX7_priceSets 35 = .ok (.aload_n 0, 1) := by decide +kernel
theorem dX7_priceSets_36 : decode cX7_priceSets 36 = .ok (.getfield 33, 3) := by decide +kernel
theorem dX7_priceSets_39 : decode cX7_priceSets 39 = .ok (.getfield 37, 3) := by decide +kernel
theorem dX7_priceSets_42 : decode cX7_priceSets 42 = .ok (.if_icmp .ge 58, 3) := by decide +kernel
theorem dX7_priceSets_45 : decode cX7_priceSets 45 = .ok (.iconst 1, 1) := by decide +kernel
theorem dX7_priceSets_46 : decode cX7_priceSets 46 = .ok (.iload_n 3, 1) := by decide +kernel
theorem dX7_priceSets_47 : decode cX7_priceSets 47 = .ok (.ishl, 1) := by decide +kernel
theorem dX7_priceSets_48 : decode cX7_priceSets 48 = .ok (.istore 4, 2) := by decide +kernel
theorem dX7_priceSets_50 : decode cX7_priceSets 50 = .ok (.iconst 0, 1) := by decide +kernel
theorem dX7_priceSets_51 : decode cX7_priceSets 51 = .ok (.istore 5, 2) := by decide +kernel
theorem dX7_priceSets_53 : decode cX7_priceSets 53 = .ok (.iload 5, 2) := by decide +kernel
theorem dX7_priceSets_55 : decode cX7_priceSets 55 = .ok (.iload 4, 2) := by decide +kernel
theorem dX7_priceSets_57 : decode cX7_priceSets 57 = .ok (.if_icmp .ge 37, 3) := by decide +kernel
theorem dX7_priceSets_60 : decode cX7_priceSets 60 = .ok (.aload_n 0, 1) := by decide +kernel
theorem dX7_priceSets_61 : decode cX7_priceSets 61 = .ok (.getfield 15, 3) := by decide +kernel
theorem dX7_priceSets_64 : decode cX7_priceSets 64 = .ok (.iload 5, 2) := by decide +kernel
theorem dX7_priceSets_66 : decode cX7_priceSets 66 = .ok (.iload 4, 2) := by decide +kernel
theorem dX7_priceSets_68 : decode cX7_priceSets 68 = .ok (.ior, 1) := by decide +kernel
theorem dX7_priceSets_69 : decode cX7_priceSets 69 = .ok (.aload_n 0, 1) := by decide +kernel
theorem dX7_priceSets_70 : decode cX7_priceSets 70 = .ok (.getfield 48, 3) := by decide +kernel
theorem dX7_priceSets_73 : decode cX7_priceSets 73 = .ok (.iload_n 2, 1) := by decide +kernel
theorem dX7_priceSets_74 : decode cX7_priceSets 74 = .ok (.aload_n 0, 1) := by decide +kernel
theorem dX7_priceSets_75 : decode cX7_priceSets 75 = .ok (.getfield 15, 3) := by decide +kernel
theorem dX7_priceSets_78 : decode cX7_priceSets 78 = .ok (.iload 5, 2) := by decide +kernel
theorem dX7_priceSets_80 : decode cX7_priceSets 80 = .ok (.iaload, 1) := by decide +kernel
theorem dX7_priceSets_81 : decode cX7_priceSets 81 = .ok (.iload 5, 2) := by decide +kernel
theorem dX7_priceSets_83 : decode cX7_priceSets 83 = .ok (.iload_n 3, 1) := by decide +kernel
theorem dX7_priceSets_84 : decode cX7_priceSets 84 = .ok (.invokevirtual 52, 3) := by decide +kernel
theorem dX7_priceSets_87 : decode cX7_priceSets 87 = .ok (.iastore, 1) := by decide +kernel
theorem dX7_priceSets_88 : decode cX7_priceSets 88 = .ok (.iinc 5 1, 3) := by decide +kernel
theorem dX7_priceSets_91 : decode cX7_priceSets 91 = .ok (.goto (-38), 3) := by decide +kernel
theorem dX7_priceSets_94 : decode cX7_priceSets 94 = .ok (.iinc 3 1, 3) := by decide +kernel
theorem dX7_priceSets_97 : decode cX7_priceSets 97 = .ok (.goto (-63), 3) := by decide +kernel
theorem dX7_priceSets_100 : decode cX7_priceSets 100 = .ok (.aload_n 0, 1) := by decide +kernel
theorem dX7_priceSets_101 : decode cX7_priceSets 101 = .ok (.iload_n 2, 1) := by decide +kernel
theorem dX7_priceSets_102 : decode cX7_priceSets 102 = .ok (.putfield 9, 3) := by decide +kernel
theorem dX7_priceSets_105 : decode cX7_priceSets 105 = .ok (.return_, 1) := by decide +kernel
noncomputable def f_X7_priceSets_L53 (i2 : Int32) (i3 : Int32) (i4 : Int32) (x_view_posts : Int32) (x_view_weights : Nat → Int32) (x_view_near : Nat → Int32) (x_view_behind : Nat → Int32) (i5 : Int32) (x_prices : Nat → Int32) : Option ((Int32 × (Nat → Int32)) ⊕ ((Nat → Int32))) :=
  if i4 ≤ i5 then (some (.inr x_prices)) else ((gi x_prices 2048 i5).bind fun v7 =>
  (f_X2_priceWith x_view_posts x_view_weights x_view_near x_view_behind i2 v7 i5 i3).bind fun v8 =>
  (si x_prices 2048 (i5 ||| i4) v8).bind fun v9 =>
  some (.inl ((i5 + (1 : Int32)), v9)))
noncomputable def f_X7_priceSets_L34 (i2 : Int32) (x_view_posts : Int32) (x_view_weights : Nat → Int32) (x_view_near : Nat → Int32) (x_view_behind : Nat → Int32) (i3 : Int32) (x_prices : Nat → Int32) : Option ((Int32 × (Nat → Int32)) ⊕ ((Nat → Int32))) :=
  if x_view_posts ≤ i3 then (some (.inr x_prices)) else ((loopS (fun (s : Int32 × (Nat → Int32)) => f_X7_priceSets_L53 i2 i3 ((1 : Int32) <<< (i3 &&& 31)) x_view_posts x_view_weights x_view_near x_view_behind s.1 s.2) ((0 : Int32), x_prices)).bind fun x6 =>
  some (.inl ((i3 + (1 : Int32)), x6)))
noncomputable def f_X7_priceSets (x_solvedFor : Int32) (x_pricedFor : Int32) (x_view_posts : Int32) (x_view_weights : Nat → Int32) (x_view_near : Nat → Int32) (x_view_behind : Nat → Int32) (x_prices : Nat → Int32) (i1 : Int32) : Option (Int32 × Int32 × (Nat → Int32)) :=
  ((if i1 = (3 : Int32) then (some (1 : Int32)) else (some i1) : Option (Int32))).bind fun t1 =>
  if x_pricedFor = t1 then (some ((x_solvedFor, x_pricedFor, x_prices))) else ((si x_prices 2048 (0 : Int32) (0 : Int32)).bind fun v4 =>
  (loopS (fun (s : Int32 × (Nat → Int32)) => f_X7_priceSets_L34 t1 x_view_posts x_view_weights x_view_near x_view_behind s.1 s.2) ((0 : Int32), v4)).bind fun x5 =>
  some (((-1 : Int32), t1, x5)))
set_option maxHeartbeats 4000000 in
set_option maxRecDepth 100000 in
theorem c_X7_priceSets (l : Launch) (dC : Nat → ClassId) (dI : Nat → Nat → Nat) (cI cZ cN : ClassId) (q_ : Nat) (q_view : Nat) (q_costs : Nat) (q_prices : Nat) (q_rests : Nat) (q_ways : Nat) (q_view_weights : Nat) (q_view_near : Nat) (q_view_behind : Nat) (q_view_ahead : Nat) (x_solvedFor : Int32) (x_lowest : Int32) (x_total : Int32) (x_pricedFor : Int32) (x_view_posts : Int32) (x_view_roads : Int32) (x_view_weight : Int32) (x_view_weights : Nat → Int32) (x_view_near : Nat → Int32) (x_view_behind : Nat → Int32) (x_prices : Nat → Int32) (i1 : Int32) (o_solvedFor : Int32) (o_pricedFor : Int32) (o_prices : Nat → Int32) (hf : f_X7_priceSets x_solvedFor x_pricedFor x_view_posts x_view_weights x_view_near x_view_behind x_prices i1 = some (o_solvedFor, o_pricedFor, o_prices)) : CV l yX7_priceSets cX7_priceSets 6 none 5 132 (dC, dI) (TY cI cZ cN) [.ref q_, .int i1] [(q_, .inr (6, [.ref q_view, .ref q_costs, .int x_solvedFor, .int x_lowest, .int x_total, .int x_pricedFor, .ref q_prices, .ref q_rests, .ref q_ways])), (q_view, .inr (8, [.int x_view_posts, .int x_view_roads, .int x_view_weight, .ref q_view_weights, .ref q_view_near, .ref q_view_behind, .ref q_view_ahead])), (q_view_weights, .inl (cI, 121, .inl x_view_weights)), (q_view_near, .inl (cI, 11, .inl x_view_near)), (q_view_behind, .inl (cI, 11, .inl x_view_behind)), (q_costs, .inr (2, [.ref q_view])), (q_prices, .inl (cI, 2048, .inl x_prices))] [(q_, .inr (6, [.ref q_view, .ref q_costs, .int o_solvedFor, .int x_lowest, .int x_total, .int o_pricedFor, .ref q_prices, .ref q_rests, .ref q_ways])), (q_view, .inr (8, [.int x_view_posts, .int x_view_roads, .int x_view_weight, .ref q_view_weights, .ref q_view_near, .ref q_view_behind, .ref q_view_ahead])), (q_view_weights, .inl (cI, 121, .inl x_view_weights)), (q_view_near, .inl (cI, 11, .inl x_view_near)), (q_view_behind, .inl (cI, 11, .inl x_view_behind)), (q_costs, .inr (2, [.ref q_view])), (q_prices, .inl (cI, 2048, .inl o_prices))] := by
  refine CV.of (by decide) (Nat.le_of_ble_eq_true rfl) ?_
  intro p e s m args below meth c Q A ls hx hb hml hown htb hK hN hA hP hD hS hl hret
  have hown : s.vm.findClass RX7 = some m.cls := hown
  have hl : lv_has ls 6 [(0, .ref q_), (1, .int i1)] := hl
  have hret : ∀ (o9_solvedFor : Int32) (o9_pricedFor : Int32) (o9_prices : Nat → Int32), some (o9_solvedFor, o9_pricedFor, o9_prices) = some (o_solvedFor, o_pricedFor, o_prices) → ∀ (H : Heap) (locs : List Loc) (pc : Nat) (ls : Array Slot), decode cX7_priceSets pc = .ok (.return_, 1) → va_P (dC, dI) vwCl [(q_, .inr (6, [.ref q_view, .ref q_costs, .int o9_solvedFor, .int x_lowest, .int x_total, .int o9_pricedFor, .ref q_prices, .ref q_rests, .ref q_ways])), (q_view, .inr (8, [.int x_view_posts, .int x_view_roads, .int x_view_weight, .ref q_view_weights, .ref q_view_near, .ref q_view_behind, .ref q_view_ahead])), (q_view_weights, .inl (cI, 121, .inl x_view_weights)), (q_view_near, .inl (cI, 11, .inl x_view_near)), (q_view_behind, .inl (cI, 11, .inl x_view_behind)), (q_costs, .inr (2, [.ref q_view])), (q_prices, .inl (cI, 2048, .inl o9_prices))] H → va_D A [(q_, .inr (6, [.ref q_view, .ref q_costs, .int o9_solvedFor, .int x_lowest, .int x_total, .int o9_pricedFor, .ref q_prices, .ref q_rests, .ref q_ways])), (q_view, .inr (8, [.int x_view_posts, .int x_view_roads, .int x_view_weight, .ref q_view_weights, .ref q_view_near, .ref q_view_behind, .ref q_view_ahead])), (q_view_weights, .inl (cI, 121, .inl x_view_weights)), (q_view_near, .inl (cI, 11, .inl x_view_near)), (q_view_behind, .inl (cI, 11, .inl x_view_behind)), (q_costs, .inr (2, [.ref q_view])), (q_prices, .inl (cI, 2048, .inl o9_prices))] → va_S A s.heap H locs → W p l e (rmK 5 132) s m args below meth c H locs 0 0 Q (F0 m pc ls []) := by
    intro o9_solvedFor o9_pricedFor o9_prices h9
    cases h9
    exact hret
  unfold f_X7_priceSets at hf
  refine lv_iload_n hx hb dX7_priceSets_0 rfl (lv_at hl 1 rfl) ?_
  refine lv_iconst (v := (3 : Int32)) hx hb dX7_priceSets_1 (by decide) ?_
  obtain ⟨t1, hv, hf⟩ := ob hf
  have key2 : ∀ (H : Heap) (locs : List Loc) (ls : Array Slot), va_P (dC, dI) vwCl [(q_, .inr (6, [.ref q_view, .ref q_costs, .int x_solvedFor, .int x_lowest, .int x_total, .int x_pricedFor, .ref q_prices, .ref q_rests, .ref q_ways])), (q_view, .inr (8, [.int x_view_posts, .int x_view_roads, .int x_view_weight, .ref q_view_weights, .ref q_view_near, .ref q_view_behind, .ref q_view_ahead])), (q_view_weights, .inl (cI, 121, .inl x_view_weights)), (q_view_near, .inl (cI, 11, .inl x_view_near)), (q_view_behind, .inl (cI, 11, .inl x_view_behind)), (q_costs, .inr (2, [.ref q_view])), (q_prices, .inl (cI, 2048, .inl x_prices))] H → va_D A [(q_, .inr (6, [.ref q_view, .ref q_costs, .int x_solvedFor, .int x_lowest, .int x_total, .int x_pricedFor, .ref q_prices, .ref q_rests, .ref q_ways])), (q_view, .inr (8, [.int x_view_posts, .int x_view_roads, .int x_view_weight, .ref q_view_weights, .ref q_view_near, .ref q_view_behind, .ref q_view_ahead])), (q_view_weights, .inl (cI, 121, .inl x_view_weights)), (q_view_near, .inl (cI, 11, .inl x_view_near)), (q_view_behind, .inl (cI, 11, .inl x_view_behind)), (q_costs, .inr (2, [.ref q_view])), (q_prices, .inl (cI, 2048, .inl x_prices))] → va_S A s.heap H locs → lv_has ls 6 [(0, .ref q_)] → W p l e (rmK 5 132) s m args below meth c H locs 0 0 Q (F0 m 10 ls [.int t1]) := by
    intro H locs ls hP hD hS hl
    refine lv_istore_n (lv' := [(2, .int t1), (0, .ref q_)]) hx hb dX7_priceSets_10 rfl hl (by decide) rfl (fun ls hl => ?_)
    refine lv_aload_n hx hb dX7_priceSets_11 rfl (lv_at hl 1 rfl) ?_
    refine va_get (D := (dC, dI)) (ci := 6) (v := .int x_pricedFor) (C := RX7) (T := TX7) (N := 9) hx hb htb inX7 hown hK hP 0 rfl rfl 5 (Nat.le_of_ble_eq_true rfl) (htb _ t_210) (fun _ h9 => h9) rfl dX7_priceSets_12 ?_
    refine lv_iload_n hx hb dX7_priceSets_15 rfl (lv_at hl 0 rfl) ?_
    refine lv_icmp_ne (tgt := 20) hx hb dX7_priceSets_16 (by decide) (fun c3 => ?_) (fun c3 => ?_)
    · have hf := im c3 hf
      refine lv_aload_n hx hb dX7_priceSets_20 rfl (lv_at hl 1 rfl) ?_
      refine lv_iconst (v := (-1 : Int32)) hx hb dX7_priceSets_21 (by decide) ?_
      refine k_put (wn := [(q_, .inr (6, [.ref q_view, .ref q_costs, .int (-1 : Int32), .int x_lowest, .int x_total, .int x_pricedFor, .ref q_prices, .ref q_rests, .ref q_ways])), (q_view, .inr (8, [.int x_view_posts, .int x_view_roads, .int x_view_weight, .ref q_view_weights, .ref q_view_near, .ref q_view_behind, .ref q_view_ahead])), (q_view_weights, .inl (cI, 121, .inl x_view_weights)), (q_view_near, .inl (cI, 11, .inl x_view_near)), (q_view_behind, .inl (cI, 11, .inl x_view_behind)), (q_costs, .inr (2, [.ref q_view])), (q_prices, .inl (cI, 2048, .inl x_prices))]) (C := RX7) (T := TX7) (N := 9) (ci := 6) hx hb htb inX7 tyX7 tyX7_ok nmX7 hown hK hP hD hS 0 rfl rfl 2 (Nat.le_of_ble_eq_true rfl) t_227 (u_same (htb _ t_228)) rfl (tyX7_ok 2 (Nat.le_of_ble_eq_true rfl)) (Nat.le_of_ble_eq_true rfl) rfl dX7_priceSets_22 ?_
      clear hP hD hS
      intro H locs hP hD hS
      refine lv_aload_n hx hb dX7_priceSets_25 rfl (lv_at hl 1 rfl) ?_
      refine va_get (D := (dC, dI)) (ci := 6) (v := .ref q_prices) (C := RX7) (T := TX7) (N := 9) hx hb htb inX7 hown hK hP 0 rfl rfl 6 (Nat.le_of_ble_eq_true rfl) (htb _ t_211) (fun _ h9 => h9) rfl dX7_priceSets_26 ?_
      refine lv_iconst (v := (0 : Int32)) hx hb dX7_priceSets_29 (by decide) ?_
      refine lv_iconst (v := (0 : Int32)) hx hb dX7_priceSets_30 (by decide) ?_
      obtain ⟨v4, hv, hf⟩ := ob hf
      refine k_iast (wn := [(q_, .inr (6, [.ref q_view, .ref q_costs, .int (-1 : Int32), .int x_lowest, .int x_total, .int x_pricedFor, .ref q_prices, .ref q_rests, .ref q_ways])), (q_view, .inr (8, [.int x_view_posts, .int x_view_roads, .int x_view_weight, .ref q_view_weights, .ref q_view_near, .ref q_view_behind, .ref q_view_ahead])), (q_view_weights, .inl (cI, 121, .inl x_view_weights)), (q_view_near, .inl (cI, 11, .inl x_view_near)), (q_view_behind, .inl (cI, 11, .inl x_view_behind)), (q_costs, .inr (2, [.ref q_view])), (q_prices, .inl (cI, 2048, .inl v4))]) hx hb hK hP hD hS 6 0 rfl rfl hv rfl dX7_priceSets_31 ?_
      clear hP hD hS
      intro H locs hP hD hS
      refine lv_iconst (v := (0 : Int32)) hx hb dX7_priceSets_32 (by decide) ?_
      refine lv_istore_n (lv' := [(3, .int (0 : Int32)), (2, .int t1), (0, .ref q_)]) hx hb dX7_priceSets_33 rfl hl (by decide) rfl (fun ls hl => ?_)
      obtain ⟨x5, hL, hf⟩ := ob hf
      have kx6 : ∀ (H : Heap) (locs : List Loc) (ls : Array Slot), va_P (dC, dI) vwCl [(q_, .inr (6, [.ref q_view, .ref q_costs, .int (-1 : Int32), .int x_lowest, .int x_total, .int x_pricedFor, .ref q_prices, .ref q_rests, .ref q_ways])), (q_view, .inr (8, [.int x_view_posts, .int x_view_roads, .int x_view_weight, .ref q_view_weights, .ref q_view_near, .ref q_view_behind, .ref q_view_ahead])), (q_view_weights, .inl (cI, 121, .inl x_view_weights)), (q_view_near, .inl (cI, 11, .inl x_view_near)), (q_view_behind, .inl (cI, 11, .inl x_view_behind)), (q_costs, .inr (2, [.ref q_view])), (q_prices, .inl (cI, 2048, .inl x5))] H → va_D A [(q_, .inr (6, [.ref q_view, .ref q_costs, .int (-1 : Int32), .int x_lowest, .int x_total, .int x_pricedFor, .ref q_prices, .ref q_rests, .ref q_ways])), (q_view, .inr (8, [.int x_view_posts, .int x_view_roads, .int x_view_weight, .ref q_view_weights, .ref q_view_near, .ref q_view_behind, .ref q_view_ahead])), (q_view_weights, .inl (cI, 121, .inl x_view_weights)), (q_view_near, .inl (cI, 11, .inl x_view_near)), (q_view_behind, .inl (cI, 11, .inl x_view_behind)), (q_costs, .inr (2, [.ref q_view])), (q_prices, .inl (cI, 2048, .inl x5))] → va_S A s.heap H locs → lv_has ls 6 [(0, .ref q_), (2, .int t1)] → W p l e (rmK 5 132) s m args below meth c H locs 0 0 Q (F0 m 100 ls []) := by
        intro H locs ls hP hD hS hl
        refine lv_aload_n hx hb dX7_priceSets_100 rfl (lv_at hl 0 rfl) ?_
        refine lv_iload_n hx hb dX7_priceSets_101 rfl (lv_at hl 1 rfl) ?_
        refine k_put (wn := [(q_, .inr (6, [.ref q_view, .ref q_costs, .int (-1 : Int32), .int x_lowest, .int x_total, .int t1, .ref q_prices, .ref q_rests, .ref q_ways])), (q_view, .inr (8, [.int x_view_posts, .int x_view_roads, .int x_view_weight, .ref q_view_weights, .ref q_view_near, .ref q_view_behind, .ref q_view_ahead])), (q_view_weights, .inl (cI, 121, .inl x_view_weights)), (q_view_near, .inl (cI, 11, .inl x_view_near)), (q_view_behind, .inl (cI, 11, .inl x_view_behind)), (q_costs, .inr (2, [.ref q_view])), (q_prices, .inl (cI, 2048, .inl x5))]) (C := RX7) (T := TX7) (N := 9) (ci := 6) hx hb htb inX7 tyX7 tyX7_ok nmX7 hown hK hP hD hS 0 rfl rfl 5 (Nat.le_of_ble_eq_true rfl) t_210 (fun _ h9 => h9) rfl (tyX7_ok 5 (Nat.le_of_ble_eq_true rfl)) (Nat.le_of_ble_eq_true rfl) rfl dX7_priceSets_102 ?_
        clear hP hD hS
        intro H locs hP hD hS
        exact hret _ _ _ hf _ _ _ _ dX7_priceSets_105 hP hD hS
      obtain ⟨n0, hn0⟩ := loopS_iter hL
      clear hf
      have kl9 : ∀ (n : Nat) (s7 : Int32) (s8 : Nat → Int32), iterS (fun (s : Int32 × (Nat → Int32)) => f_X7_priceSets_L34 t1 x_view_posts x_view_weights x_view_near x_view_behind s.1 s.2) n (s7, s8) = some x5 → ∀ (H : Heap) (locs : List Loc) (ls : Array Slot), va_P (dC, dI) vwCl [(q_, .inr (6, [.ref q_view, .ref q_costs, .int (-1 : Int32), .int x_lowest, .int x_total, .int x_pricedFor, .ref q_prices, .ref q_rests, .ref q_ways])), (q_view, .inr (8, [.int x_view_posts, .int x_view_roads, .int x_view_weight, .ref q_view_weights, .ref q_view_near, .ref q_view_behind, .ref q_view_ahead])), (q_view_weights, .inl (cI, 121, .inl x_view_weights)), (q_view_near, .inl (cI, 11, .inl x_view_near)), (q_view_behind, .inl (cI, 11, .inl x_view_behind)), (q_costs, .inr (2, [.ref q_view])), (q_prices, .inl (cI, 2048, .inl s8))] H → va_D A [(q_, .inr (6, [.ref q_view, .ref q_costs, .int (-1 : Int32), .int x_lowest, .int x_total, .int x_pricedFor, .ref q_prices, .ref q_rests, .ref q_ways])), (q_view, .inr (8, [.int x_view_posts, .int x_view_roads, .int x_view_weight, .ref q_view_weights, .ref q_view_near, .ref q_view_behind, .ref q_view_ahead])), (q_view_weights, .inl (cI, 121, .inl x_view_weights)), (q_view_near, .inl (cI, 11, .inl x_view_near)), (q_view_behind, .inl (cI, 11, .inl x_view_behind)), (q_costs, .inr (2, [.ref q_view])), (q_prices, .inl (cI, 2048, .inl s8))] → va_S A s.heap H locs → lv_has ls 6 [(0, .ref q_), (2, .int t1), (3, .int s7)] → W p l e (rmK 5 132) s m args below meth c H locs 0 0 Q (F0 m 34 ls []) := by
        intro n
        induction n with
        | zero =>
          intro s7 s8 hn1
          cases hn1
        | succ n ih1 =>
          intro s7 s8 hn1 H locs ls hP hD hS hl
          obtain ⟨r10, hf, hn1⟩ := it1 hn1
          replace hf : f_X7_priceSets_L34 t1 x_view_posts x_view_weights x_view_near x_view_behind s7 s8 = some r10 := hf
          unfold f_X7_priceSets_L34 at hf
          refine lv_iload_n hx hb dX7_priceSets_34 rfl (lv_at hl 2 rfl) ?_
          refine lv_aload_n hx hb dX7_priceSets_35 rfl (lv_at hl 0 rfl) ?_
          refine va_get (D := (dC, dI)) (ci := 6) (v := .ref q_view) (C := RX7) (T := TX7) (N := 9) hx hb htb inX7 hown hK hP 0 rfl rfl 0 (Nat.le_of_ble_eq_true rfl) (htb _ t_217) (u_same (htb _ t_218)) rfl dX7_priceSets_36 ?_
          refine va_get (D := (dC, dI)) (ci := 8) (v := .int x_view_posts) (C := RX9) (T := TX9) (N := 7) hx hb htb inX9 hown hK hP 1 rfl rfl 0 (Nat.le_of_ble_eq_true rfl) (htb _ t_73) (fun _ h9 => h9) rfl dX7_priceSets_39 ?_
          refine lv_icmp_ge (tgt := 100) hx hb dX7_priceSets_42 (by decide) (fun c11 => ?_) (fun c11 => ?_)
          · have hf := ip c11 hf
            cases hf
            cases (itr hn1)
            exact kx6 _ _ _ hP hD hS (lv_sub hl [0, 1] rfl)
          · have hf := im c11 hf
            refine lv_iconst (v := (1 : Int32)) hx hb dX7_priceSets_45 (by decide) ?_
            refine lv_iload_n hx hb dX7_priceSets_46 rfl (lv_at hl 2 rfl) ?_
            refine lv_ishl hx hb dX7_priceSets_47 ?_
            refine lv_istore (lv' := [(4, .int ((1 : Int32) <<< (s7 &&& 31))), (0, .ref q_), (2, .int t1), (3, .int s7)]) hx hb dX7_priceSets_48 hl (by decide) rfl (fun ls hl => ?_)
            refine lv_iconst (v := (0 : Int32)) hx hb dX7_priceSets_50 (by decide) ?_
            refine lv_istore (lv' := [(5, .int (0 : Int32)), (4, .int ((1 : Int32) <<< (s7 &&& 31))), (0, .ref q_), (2, .int t1), (3, .int s7)]) hx hb dX7_priceSets_51 hl (by decide) rfl (fun ls hl => ?_)
            obtain ⟨x12, hL, hf⟩ := ob hf
            have kx13 : ∀ (H : Heap) (locs : List Loc) (ls : Array Slot), va_P (dC, dI) vwCl [(q_, .inr (6, [.ref q_view, .ref q_costs, .int (-1 : Int32), .int x_lowest, .int x_total, .int x_pricedFor, .ref q_prices, .ref q_rests, .ref q_ways])), (q_view, .inr (8, [.int x_view_posts, .int x_view_roads, .int x_view_weight, .ref q_view_weights, .ref q_view_near, .ref q_view_behind, .ref q_view_ahead])), (q_view_weights, .inl (cI, 121, .inl x_view_weights)), (q_view_near, .inl (cI, 11, .inl x_view_near)), (q_view_behind, .inl (cI, 11, .inl x_view_behind)), (q_costs, .inr (2, [.ref q_view])), (q_prices, .inl (cI, 2048, .inl x12))] H → va_D A [(q_, .inr (6, [.ref q_view, .ref q_costs, .int (-1 : Int32), .int x_lowest, .int x_total, .int x_pricedFor, .ref q_prices, .ref q_rests, .ref q_ways])), (q_view, .inr (8, [.int x_view_posts, .int x_view_roads, .int x_view_weight, .ref q_view_weights, .ref q_view_near, .ref q_view_behind, .ref q_view_ahead])), (q_view_weights, .inl (cI, 121, .inl x_view_weights)), (q_view_near, .inl (cI, 11, .inl x_view_near)), (q_view_behind, .inl (cI, 11, .inl x_view_behind)), (q_costs, .inr (2, [.ref q_view])), (q_prices, .inl (cI, 2048, .inl x12))] → va_S A s.heap H locs → lv_has ls 6 [(0, .ref q_), (2, .int t1), (3, .int s7)] → W p l e (rmK 5 132) s m args below meth c H locs 0 0 Q (F0 m 94 ls []) := by
              intro H locs ls hP hD hS hl
              refine lv_iinc (v := (s7 + (1 : Int32))) (lv' := [(3, .int (s7 + (1 : Int32))), (0, .ref q_), (2, .int t1)]) hx hb dX7_priceSets_94 hl (k := 2) rfl rfl (by decide) rfl (fun ls hl => ?_)
              refine lv_goto (tgt := 34) hx hb dX7_priceSets_97 (by decide) ?_
              cases hf
              exact ih1 _ _ (itl hn1) _ _ _ hP hD hS (lv_sub hl [1, 2, 0] rfl)
            obtain ⟨n0, hn0⟩ := loopS_iter hL
            clear hf
            have kl16 : ∀ (n : Nat) (s14 : Int32) (s15 : Nat → Int32), iterS (fun (s : Int32 × (Nat → Int32)) => f_X7_priceSets_L53 t1 s7 ((1 : Int32) <<< (s7 &&& 31)) x_view_posts x_view_weights x_view_near x_view_behind s.1 s.2) n (s14, s15) = some x12 → ∀ (H : Heap) (locs : List Loc) (ls : Array Slot), va_P (dC, dI) vwCl [(q_, .inr (6, [.ref q_view, .ref q_costs, .int (-1 : Int32), .int x_lowest, .int x_total, .int x_pricedFor, .ref q_prices, .ref q_rests, .ref q_ways])), (q_view, .inr (8, [.int x_view_posts, .int x_view_roads, .int x_view_weight, .ref q_view_weights, .ref q_view_near, .ref q_view_behind, .ref q_view_ahead])), (q_view_weights, .inl (cI, 121, .inl x_view_weights)), (q_view_near, .inl (cI, 11, .inl x_view_near)), (q_view_behind, .inl (cI, 11, .inl x_view_behind)), (q_costs, .inr (2, [.ref q_view])), (q_prices, .inl (cI, 2048, .inl s15))] H → va_D A [(q_, .inr (6, [.ref q_view, .ref q_costs, .int (-1 : Int32), .int x_lowest, .int x_total, .int x_pricedFor, .ref q_prices, .ref q_rests, .ref q_ways])), (q_view, .inr (8, [.int x_view_posts, .int x_view_roads, .int x_view_weight, .ref q_view_weights, .ref q_view_near, .ref q_view_behind, .ref q_view_ahead])), (q_view_weights, .inl (cI, 121, .inl x_view_weights)), (q_view_near, .inl (cI, 11, .inl x_view_near)), (q_view_behind, .inl (cI, 11, .inl x_view_behind)), (q_costs, .inr (2, [.ref q_view])), (q_prices, .inl (cI, 2048, .inl s15))] → va_S A s.heap H locs → lv_has ls 6 [(0, .ref q_), (2, .int t1), (3, .int s7), (4, .int ((1 : Int32) <<< (s7 &&& 31))), (5, .int s14)] → W p l e (rmK 5 132) s m args below meth c H locs 0 0 Q (F0 m 53 ls []) := by
              intro n
              induction n with
              | zero =>
                intro s14 s15 hn2
                cases hn2
              | succ n ih2 =>
                intro s14 s15 hn2 H locs ls hP hD hS hl
                obtain ⟨r17, hf, hn2⟩ := it1 hn2
                replace hf : f_X7_priceSets_L53 t1 s7 ((1 : Int32) <<< (s7 &&& 31)) x_view_posts x_view_weights x_view_near x_view_behind s14 s15 = some r17 := hf
                unfold f_X7_priceSets_L53 at hf
                refine lv_iload hx hb dX7_priceSets_53 (lv_at hl 4 rfl) ?_
                refine lv_iload hx hb dX7_priceSets_55 (lv_at hl 3 rfl) ?_
                refine lv_icmp_ge (tgt := 94) hx hb dX7_priceSets_57 (by decide) (fun c18 => ?_) (fun c18 => ?_)
                · have hf := ip c18 hf
                  cases hf
                  cases (itr hn2)
                  exact kx13 _ _ _ hP hD hS (lv_sub hl [0, 1, 2] rfl)
                · have hf := im c18 hf
                  refine lv_aload_n hx hb dX7_priceSets_60 rfl (lv_at hl 0 rfl) ?_
                  refine va_get (D := (dC, dI)) (ci := 6) (v := .ref q_prices) (C := RX7) (T := TX7) (N := 9) hx hb htb inX7 hown hK hP 0 rfl rfl 6 (Nat.le_of_ble_eq_true rfl) (htb _ t_211) (fun _ h9 => h9) rfl dX7_priceSets_61 ?_
                  refine lv_iload hx hb dX7_priceSets_64 (lv_at hl 4 rfl) ?_
                  refine lv_iload hx hb dX7_priceSets_66 (lv_at hl 3 rfl) ?_
                  refine lv_ior hx hb dX7_priceSets_68 ?_
                  refine lv_aload_n hx hb dX7_priceSets_69 rfl (lv_at hl 0 rfl) ?_
                  refine va_get (D := (dC, dI)) (ci := 6) (v := .ref q_costs) (C := RX7) (T := TX7) (N := 9) hx hb htb inX7 hown hK hP 0 rfl rfl 1 (Nat.le_of_ble_eq_true rfl) (htb _ t_222) (u_same (htb _ t_223)) rfl dX7_priceSets_70 ?_
                  refine lv_iload_n hx hb dX7_priceSets_73 rfl (lv_at hl 1 rfl) ?_
                  refine lv_aload_n hx hb dX7_priceSets_74 rfl (lv_at hl 0 rfl) ?_
                  refine va_get (D := (dC, dI)) (ci := 6) (v := .ref q_prices) (C := RX7) (T := TX7) (N := 9) hx hb htb inX7 hown hK hP 0 rfl rfl 6 (Nat.le_of_ble_eq_true rfl) (htb _ t_211) (fun _ h9 => h9) rfl dX7_priceSets_75 ?_
                  refine lv_iload hx hb dX7_priceSets_78 (lv_at hl 4 rfl) ?_
                  obtain ⟨v19, hv, hf⟩ := ob hf
                  refine k_iald hx hb hK hP 6 0 rfl rfl hv dX7_priceSets_80 ?_
                  refine lv_iload hx hb dX7_priceSets_81 (lv_at hl 4 rfl) ?_
                  refine lv_iload_n hx hb dX7_priceSets_83 rfl (lv_at hl 2 rfl) ?_
                  obtain ⟨v20, hv, hf⟩ := ob hf
                  refine k_afterI (wr := [(q_, .inr (6, [.ref q_view, .ref q_costs, .int (-1 : Int32), .int x_lowest, .int x_total, .int x_pricedFor, .ref q_prices, .ref q_rests, .ref q_ways])), (q_prices, .inl (cI, 2048, .inl s15))]) (wn := [(q_, .inr (6, [.ref q_view, .ref q_costs, .int (-1 : Int32), .int x_lowest, .int x_total, .int x_pricedFor, .ref q_prices, .ref q_rests, .ref q_ways])), (q_view, .inr (8, [.int x_view_posts, .int x_view_roads, .int x_view_weight, .ref q_view_weights, .ref q_view_near, .ref q_view_behind, .ref q_view_ahead])), (q_view_weights, .inl (cI, 121, .inl x_view_weights)), (q_view_near, .inl (cI, 11, .inl x_view_near)), (q_view_behind, .inl (cI, 11, .inl x_view_behind)), (q_costs, .inr (2, [.ref q_view])), (q_prices, .inl (cI, 2048, .inl s15))]) (k_runV (rest := [.int (s14 ||| ((1 : Int32) <<< (s7 &&& 31))), .ref q_prices]) (ci := 2) (q0 := 5) hx hb hml hown htb hK hN (c_X2_priceWith l dC dI cI cZ cN q_costs q_view q_view_weights q_view_near q_view_behind q_view_ahead x_view_posts x_view_roads x_view_weight x_view_weights x_view_near x_view_behind t1 v19 s14 s7 v20 hv _) vf_X2_priceWith t_553 hP hD [5, 1, 2, 3, 4] rfl rfl rfl rfl ⟨(Nat.le_of_ble_eq_true rfl), (Nat.le_of_ble_eq_true rfl)⟩ rfl hl.1 rfl (Nat.le_of_ble_eq_true rfl) dX7_priceSets_84 ⟨Nat.zero_le _, Nat.zero_le _⟩) hA hP hD hS [5, 1, 2, 3, 4] [0, 6] [0, 3, 4, 5, 6, 2, 1] rfl rfl rfl rfl ?_
                  clear hP hD hS
                  intro H locs hP hD hS
                  obtain ⟨v21, hv, hf⟩ := ob hf
                  refine k_iast (wn := [(q_, .inr (6, [.ref q_view, .ref q_costs, .int (-1 : Int32), .int x_lowest, .int x_total, .int x_pricedFor, .ref q_prices, .ref q_rests, .ref q_ways])), (q_view, .inr (8, [.int x_view_posts, .int x_view_roads, .int x_view_weight, .ref q_view_weights, .ref q_view_near, .ref q_view_behind, .ref q_view_ahead])), (q_view_weights, .inl (cI, 121, .inl x_view_weights)), (q_view_near, .inl (cI, 11, .inl x_view_near)), (q_view_behind, .inl (cI, 11, .inl x_view_behind)), (q_costs, .inr (2, [.ref q_view])), (q_prices, .inl (cI, 2048, .inl v21))]) hx hb hK hP hD hS 6 0 rfl rfl hv rfl dX7_priceSets_87 ?_
                  clear hP hD hS
                  intro H locs hP hD hS
                  refine lv_iinc (v := (s14 + (1 : Int32))) (lv' := [(5, .int (s14 + (1 : Int32))), (0, .ref q_), (2, .int t1), (3, .int s7), (4, .int ((1 : Int32) <<< (s7 &&& 31)))]) hx hb dX7_priceSets_88 hl (k := 4) rfl rfl (by decide) rfl (fun ls hl => ?_)
                  refine lv_goto (tgt := 53) hx hb dX7_priceSets_91 (by decide) ?_
                  cases hf
                  exact ih2 _ _ (itl hn2) _ _ _ hP hD hS (lv_sub hl [1, 2, 3, 4, 0] rfl)
            exact kl16 n0 _ _ hn0 _ _ _ hP hD hS (lv_sub hl [2, 3, 4, 1, 0] rfl)
      exact kl9 n0 _ _ hn0 _ _ _ hP hD hS (lv_sub hl [2, 1, 0] rfl)
    · have hf := ip c3 hf
      exact hret _ _ _ hf _ _ _ _ dX7_priceSets_19 hP hD hS
  replace hf := hv
  refine lv_icmp_ne (tgt := 9) hx hb dX7_priceSets_2 (by decide) (fun c22 => ?_) (fun c22 => ?_)
  · have hf := im c22 hf
    refine lv_iload_n hx hb dX7_priceSets_9 rfl (lv_at hl 1 rfl) ?_
    cases hf
    exact key2 _ _ _ hP hD hS (lv_sub hl [0] rfl)
  · have hf := ip c22 hf
    refine lv_iconst (v := (1 : Int32)) hx hb dX7_priceSets_5 (by decide) ?_
    refine lv_goto (tgt := 10) hx hb dX7_priceSets_6 (by decide) ?_
    cases hf
    exact key2 _ _ _ hP hD hS (lv_sub hl [0] rfl)
theorem vf_X7_priceOf : VF yX7_priceOf cX7_priceOf 3 (some .int) 2 := ⟨t_668, t_669, t_11, t_670, by decide +kernel, by decide +kernel, by decide +kernel⟩
theorem dX7_priceOf_0 : decode cX7_priceOf 0 = .ok (.aload_n 0, 1) := by decide +kernel
theorem dX7_priceOf_1 : decode cX7_priceOf 1 = .ok (.iload_n 1, 1) := by decide +kernel
theorem dX7_priceOf_2 : decode cX7_priceOf 2 = .ok (.invokevirtual 28, 3) := by decide +kernel
theorem dX7_priceOf_5 : decode cX7_priceOf 5 = .ok (.aload_n 0, 1) := by decide +kernel
theorem dX7_priceOf_6 : decode cX7_priceOf 6 = .ok (.getfield 15, 3) := by decide +kernel
theorem dX7_priceOf_9 : decode cX7_priceOf 9 = .ok (.iload_n 2, 1) := by decide +kernel
theorem dX7_priceOf_10 : decode cX7_priceOf 10 = .ok (.iaload, 1) := by decide +kernel
theorem dX7_priceOf_11 : decode cX7_priceOf 11 = .ok (.ireturn, 1) := by decide +kernel
noncomputable def f_X7_priceOf (x_solvedFor : Int32) (x_pricedFor : Int32) (x_view_posts : Int32) (x_view_weights : Nat → Int32) (x_view_near : Nat → Int32) (x_view_behind : Nat → Int32) (x_prices : Nat → Int32) (i1 : Int32) (i2 : Int32) : Option (Int32 × Int32 × Int32 × (Nat → Int32)) :=
  b3 (f_X7_priceSets x_solvedFor x_pricedFor x_view_posts x_view_weights x_view_near x_view_behind x_prices i1) fun o1 o2 o3 =>
  (gi o3 2048 i2).bind fun v4 =>
  some ((v4, o1, o2, o3))
set_option maxHeartbeats 4000000 in
set_option maxRecDepth 100000 in
theorem c_X7_priceOf (l : Launch) (dC : Nat → ClassId) (dI : Nat → Nat → Nat) (cI cZ cN : ClassId) (q_ : Nat) (q_view : Nat) (q_costs : Nat) (q_prices : Nat) (q_rests : Nat) (q_ways : Nat) (q_view_weights : Nat) (q_view_near : Nat) (q_view_behind : Nat) (q_view_ahead : Nat) (x_solvedFor : Int32) (x_lowest : Int32) (x_total : Int32) (x_pricedFor : Int32) (x_view_posts : Int32) (x_view_roads : Int32) (x_view_weight : Int32) (x_view_weights : Nat → Int32) (x_view_near : Nat → Int32) (x_view_behind : Nat → Int32) (x_prices : Nat → Int32) (i1 i2 : Int32) (r : Int32) (o_solvedFor : Int32) (o_pricedFor : Int32) (o_prices : Nat → Int32) (hf : f_X7_priceOf x_solvedFor x_pricedFor x_view_posts x_view_weights x_view_near x_view_behind x_prices i1 i2 = some (r, o_solvedFor, o_pricedFor, o_prices)) : CI l yX7_priceOf cX7_priceOf 3 (some .int) 6 157 (dC, dI) (TY cI cZ cN) [.ref q_, .int i1, .int i2] [(q_, .inr (6, [.ref q_view, .ref q_costs, .int x_solvedFor, .int x_lowest, .int x_total, .int x_pricedFor, .ref q_prices, .ref q_rests, .ref q_ways])), (q_view, .inr (8, [.int x_view_posts, .int x_view_roads, .int x_view_weight, .ref q_view_weights, .ref q_view_near, .ref q_view_behind, .ref q_view_ahead])), (q_view_weights, .inl (cI, 121, .inl x_view_weights)), (q_view_near, .inl (cI, 11, .inl x_view_near)), (q_view_behind, .inl (cI, 11, .inl x_view_behind)), (q_costs, .inr (2, [.ref q_view])), (q_prices, .inl (cI, 2048, .inl x_prices))] [(q_, .inr (6, [.ref q_view, .ref q_costs, .int o_solvedFor, .int x_lowest, .int x_total, .int o_pricedFor, .ref q_prices, .ref q_rests, .ref q_ways])), (q_view, .inr (8, [.int x_view_posts, .int x_view_roads, .int x_view_weight, .ref q_view_weights, .ref q_view_near, .ref q_view_behind, .ref q_view_ahead])), (q_view_weights, .inl (cI, 121, .inl x_view_weights)), (q_view_near, .inl (cI, 11, .inl x_view_near)), (q_view_behind, .inl (cI, 11, .inl x_view_behind)), (q_costs, .inr (2, [.ref q_view])), (q_prices, .inl (cI, 2048, .inl o_prices))] r := by
  refine CI.of rfl (by decide) (Nat.le_of_ble_eq_true rfl) ?_
  intro p e s m args below meth c Q A ls hx hb hml hown htb hK hN hA hP hD hS hl hret
  have hown : s.vm.findClass RX7 = some m.cls := hown
  have hl : lv_has ls 3 [(0, .ref q_), (1, .int i1), (2, .int i2)] := hl
  have hret : ∀ (r9 : Int32) (o9_solvedFor : Int32) (o9_pricedFor : Int32) (o9_prices : Nat → Int32), some (r9, o9_solvedFor, o9_pricedFor, o9_prices) = some (r, o_solvedFor, o_pricedFor, o_prices) → ∀ (H : Heap) (locs : List Loc) (pc : Nat) (ls : Array Slot), narrow .int (.int r9) = .int r9 → decode cX7_priceOf pc = .ok (.ireturn, 1) → va_P (dC, dI) vwCl [(q_, .inr (6, [.ref q_view, .ref q_costs, .int o9_solvedFor, .int x_lowest, .int x_total, .int o9_pricedFor, .ref q_prices, .ref q_rests, .ref q_ways])), (q_view, .inr (8, [.int x_view_posts, .int x_view_roads, .int x_view_weight, .ref q_view_weights, .ref q_view_near, .ref q_view_behind, .ref q_view_ahead])), (q_view_weights, .inl (cI, 121, .inl x_view_weights)), (q_view_near, .inl (cI, 11, .inl x_view_near)), (q_view_behind, .inl (cI, 11, .inl x_view_behind)), (q_costs, .inr (2, [.ref q_view])), (q_prices, .inl (cI, 2048, .inl o9_prices))] H → va_D A [(q_, .inr (6, [.ref q_view, .ref q_costs, .int o9_solvedFor, .int x_lowest, .int x_total, .int o9_pricedFor, .ref q_prices, .ref q_rests, .ref q_ways])), (q_view, .inr (8, [.int x_view_posts, .int x_view_roads, .int x_view_weight, .ref q_view_weights, .ref q_view_near, .ref q_view_behind, .ref q_view_ahead])), (q_view_weights, .inl (cI, 121, .inl x_view_weights)), (q_view_near, .inl (cI, 11, .inl x_view_near)), (q_view_behind, .inl (cI, 11, .inl x_view_behind)), (q_costs, .inr (2, [.ref q_view])), (q_prices, .inl (cI, 2048, .inl o9_prices))] → va_S A s.heap H locs → W p l e (rmK 6 157) s m args below meth c H locs 0 0 Q (F0 m pc ls [.int r9]) := by
    intro r9 o9_solvedFor o9_pricedFor o9_prices h9
    cases h9
    exact hret
  unfold f_X7_priceOf at hf
  refine lv_aload_n hx hb dX7_priceOf_0 rfl (lv_at hl 0 rfl) ?_
  refine lv_iload_n hx hb dX7_priceOf_1 rfl (lv_at hl 1 rfl) ?_
  obtain ⟨o1, o2, o3, hv, hf⟩ := ob3 hf
  refine k_afterV (wr := []) (wn := [(q_, .inr (6, [.ref q_view, .ref q_costs, .int o1, .int x_lowest, .int x_total, .int o2, .ref q_prices, .ref q_rests, .ref q_ways])), (q_view, .inr (8, [.int x_view_posts, .int x_view_roads, .int x_view_weight, .ref q_view_weights, .ref q_view_near, .ref q_view_behind, .ref q_view_ahead])), (q_view_weights, .inl (cI, 121, .inl x_view_weights)), (q_view_near, .inl (cI, 11, .inl x_view_near)), (q_view_behind, .inl (cI, 11, .inl x_view_behind)), (q_costs, .inr (2, [.ref q_view])), (q_prices, .inl (cI, 2048, .inl o3))]) (k_runV (rest := []) (ci := 6) (q0 := 0) hx hb hml hown htb hK hN (c_X7_priceSets l dC dI cI cZ cN q_ q_view q_costs q_prices q_rests q_ways q_view_weights q_view_near q_view_behind q_view_ahead x_solvedFor x_lowest x_total x_pricedFor x_view_posts x_view_roads x_view_weight x_view_weights x_view_near x_view_behind x_prices i1 o1 o2 o3 hv _) vf_X7_priceSets t_549 hP hD [0, 1, 2, 3, 4, 5, 6] rfl rfl rfl rfl ⟨(Nat.le_of_ble_eq_true rfl), (Nat.le_of_ble_eq_true rfl)⟩ rfl hl.1 rfl (Nat.le_of_ble_eq_true rfl) dX7_priceOf_2 ⟨Nat.zero_le _, Nat.zero_le _⟩) hA hP hD hS [0, 1, 2, 3, 4, 5, 6] [] [0, 1, 2, 3, 4, 5, 6] rfl rfl rfl rfl ?_
  clear hP hD hS
  intro H locs hP hD hS
  refine lv_aload_n hx hb dX7_priceOf_5 rfl (lv_at hl 0 rfl) ?_
  refine va_get (D := (dC, dI)) (ci := 6) (v := .ref q_prices) (C := RX7) (T := TX7) (N := 9) hx hb htb inX7 hown hK hP 0 rfl rfl 6 (Nat.le_of_ble_eq_true rfl) (htb _ t_211) (fun _ h9 => h9) rfl dX7_priceOf_6 ?_
  refine lv_iload_n hx hb dX7_priceOf_9 rfl (lv_at hl 2 rfl) ?_
  obtain ⟨v4, hv, hf⟩ := ob hf
  refine k_iald hx hb hK hP 6 0 rfl rfl hv dX7_priceOf_10 ?_
  exact hret _ _ _ _ hf _ _ _ _ rfl dX7_priceOf_11 hP hD hS
theorem vf_X7_cheapest : VF yX7_cheapest cX7_cheapest 6 (some .int) 2 := ⟨t_663, t_664, t_11, t_665, by decide +kernel, by decide +kernel, by decide +kernel⟩
theorem dX7_cheapest_0 : decode cX7_cheapest 0 = .ok (.aload_n 0, 1) := by decide +kernel
theorem dX7_cheapest_1 : decode cX7_cheapest 1 = .ok (.iload_n 1, 1) := by decide +kernel
theorem dX7_cheapest_2 : decode cX7_cheapest 2 = .ok (.invokevirtual 28, 3) := by decide +kernel
theorem dX7_cheapest_5 : decode cX7_cheapest 5 = .ok (.iconst 0, 1) := by decide +kernel
theorem dX7_cheapest_6 : decode cX7_cheapest 6 = .ok (.istore_n 3, 1) := by decide +kernel
theorem dX7_cheapest_7 : decode cX7_cheapest 7 = .ok (.ldc 32, 2) := by decide +kernel
theorem dX7_cheapest_9 : decode cX7_cheapest 9 = .ok (.istore 4, 2) := by decide +kernel
theorem dX7_cheapest_11 : decode cX7_cheapest 11 = .ok (.iconst 0, 1) := by decide +kernel
theorem dX7_cheapest_12 : decode cX7_cheapest 12 = .ok (.istore 5, 2) := by decide +kernel
theorem dX7_cheapest_14 : decode cX7_cheapest 14 = .ok (.iload 5, 2) := by decide +kernel
theorem dX7_cheapest_16 : decode cX7_cheapest 16 = .ok (.iconst 1, 1) := by decide +kernel
theorem dX7_cheapest_17 : decode cX7_cheapest 17 = .ok (.aload_n 0, 1) := by decide +kernel
theorem dX7_cheapest_18 : decode cX7_cheapest 18 = .ok (.getfield 33, 3) := by decide +kernel
theorem dX7_cheapest_21 : decode cX7_cheapest 21 = .ok (.getfield 37, 3) := by decide +kernel
theorem dX7_cheapest_24 : decode cX7_cheapest 24 = .ok (.ishl, 1) := by decide +kernel
theorem dX7_cheapest_25 : decode cX7_cheapest 25 = .ok (.if_icmp .ge 42, 3) := by decide +kernel
theorem dX7_cheapest_28 : decode cX7_cheapest 28 = .ok (.iload 5, 2) := by decide +kernel
theorem dX7_cheapest_30 : decode cX7_cheapest 30 = .ok (.invokestatic 42, 3) := by decide +kernel
theorem dX7_cheapest_33 : decode cX7_cheapest 33 = .ok (.iload_n 2, 1) := by decide +kernel
theorem dX7_cheapest_34 : decode cX7_cheapest 34 = .ok (.if_icmp .ne 27, 3) := by decide +kernel
theorem dX7_cheapest_37 : decode cX7_cheapest 37 = .ok (.aload_n 0, 1) := by decide +kernel
theorem dX7_cheapest_38 : decode cX7_cheapest 38 = .ok (.getfield 15, 3) := by decide +kernel
theorem dX7_cheapest_41 : decode cX7_cheapest 41 = .ok (.iload 5, 2) := by decide +kernel
theorem dX7_cheapest_43 : decode cX7_cheapest 43 = .ok (.iaload, 1) := by decide +kernel
theorem dX7_cheapest_44 : decode cX7_cheapest 44 = .ok (.iload 4, 2) := by decide +kernel
theorem dX7_cheapest_46 : decode cX7_cheapest 46 = .ok (.if_icmp .ge 15, 3) := by decide +kernel
theorem dX7_cheapest_49 : decode cX7_cheapest 49 = .ok (.aload_n 0, 1) := by decide +kernel
theorem dX7_cheapest_50 : decode cX7_cheapest 50 = .ok (.getfield 15, 3) := by decide +kernel
theorem dX7_cheapest_53 : decode cX7_cheapest 53 = .ok (.iload 5, 2) := by decide +kernel
theorem dX7_cheapest_55 : decode cX7_cheapest 55 = .ok (.iaload, 1) := by decide +kernel
theorem dX7_cheapest_56 : decode cX7_cheapest 56 = .ok (.istore 4, 2) := by decide +kernel
theorem dX7_cheapest_58 : decode cX7_cheapest 58 = .ok (.iload 5, 2) := by decide +kernel
theorem dX7_cheapest_60 : decode cX7_cheapest 60 = .ok (.istore_n 3, 1) := by decide +kernel
theorem dX7_cheapest_61 : decode cX7_cheapest 61 = .ok (.iinc 5 1, 3) := by decide +kernel
theorem dX7_cheapest_64 : decode cX7_cheapest 64 = .ok (.goto (-50), 3) := by decide +kernel
theorem dX7_cheapest_67 : decode cX7_cheapest 67 = .ok (.iload_n 3, 1) := by decide +kernel
theorem dX7_cheapest_68 : decode cX7_cheapest 68 = .ok (.ireturn, 1) := by decide +kernel
noncomputable def f_X7_cheapest_L14 (i2 : Int32) (x_view_posts : Int32) (x_prices : Nat → Int32) (i3 : Int32) (i4 : Int32) (i5 : Int32) : Option ((Int32 × Int32 × Int32) ⊕ (Int32)) :=
  if ((1 : Int32) <<< (x_view_posts &&& 31)) ≤ i5 then (some (.inr i3)) else ((f_J6_bitCount_0f7a4 i5).bind fun v5 =>
  b2 ((if v5 = i2 then ((gi x_prices 2048 i5).bind fun v10 =>
  if i4 ≤ v10 then (some (i3, i4)) else ((gi x_prices 2048 i5).bind fun v12 =>
  some (i5, v12))) else (some (i3, i4)) : Option (Int32 × Int32))) fun t6 t7 =>
  some (.inl (t6, t7, (i5 + (1 : Int32)))))
noncomputable def f_X7_cheapest (x_solvedFor : Int32) (x_pricedFor : Int32) (x_view_posts : Int32) (x_view_weights : Nat → Int32) (x_view_near : Nat → Int32) (x_view_behind : Nat → Int32) (x_prices : Nat → Int32) (i1 : Int32) (i2 : Int32) : Option (Int32 × Int32 × Int32 × (Nat → Int32)) :=
  b3 (f_X7_priceSets x_solvedFor x_pricedFor x_view_posts x_view_weights x_view_near x_view_behind x_prices i1) fun o1 o2 o3 =>
  (loopS (fun (s : Int32 × Int32 × Int32) => f_X7_cheapest_L14 i2 x_view_posts o3 s.1 s.2.1 s.2.2) ((0 : Int32), (1073741824 : Int32), (0 : Int32))).bind fun x4 =>
  some ((x4, o1, o2, o3))
set_option maxHeartbeats 4000000 in
set_option maxRecDepth 100000 in
theorem c_X7_cheapest (l : Launch) (dC : Nat → ClassId) (dI : Nat → Nat → Nat) (cI cZ cN : ClassId) (q_ : Nat) (q_view : Nat) (q_costs : Nat) (q_prices : Nat) (q_rests : Nat) (q_ways : Nat) (q_view_weights : Nat) (q_view_near : Nat) (q_view_behind : Nat) (q_view_ahead : Nat) (x_solvedFor : Int32) (x_lowest : Int32) (x_total : Int32) (x_pricedFor : Int32) (x_view_posts : Int32) (x_view_roads : Int32) (x_view_weight : Int32) (x_view_weights : Nat → Int32) (x_view_near : Nat → Int32) (x_view_behind : Nat → Int32) (x_prices : Nat → Int32) (i1 i2 : Int32) (r : Int32) (o_solvedFor : Int32) (o_pricedFor : Int32) (o_prices : Nat → Int32) (hf : f_X7_cheapest x_solvedFor x_pricedFor x_view_posts x_view_weights x_view_near x_view_behind x_prices i1 i2 = some (r, o_solvedFor, o_pricedFor, o_prices)) : CI l yX7_cheapest cX7_cheapest 6 (some .int) 6 157 (dC, dI) (TY cI cZ cN) [.ref q_, .int i1, .int i2] [(q_, .inr (6, [.ref q_view, .ref q_costs, .int x_solvedFor, .int x_lowest, .int x_total, .int x_pricedFor, .ref q_prices, .ref q_rests, .ref q_ways])), (q_view, .inr (8, [.int x_view_posts, .int x_view_roads, .int x_view_weight, .ref q_view_weights, .ref q_view_near, .ref q_view_behind, .ref q_view_ahead])), (q_view_weights, .inl (cI, 121, .inl x_view_weights)), (q_view_near, .inl (cI, 11, .inl x_view_near)), (q_view_behind, .inl (cI, 11, .inl x_view_behind)), (q_costs, .inr (2, [.ref q_view])), (q_prices, .inl (cI, 2048, .inl x_prices))] [(q_, .inr (6, [.ref q_view, .ref q_costs, .int o_solvedFor, .int x_lowest, .int x_total, .int o_pricedFor, .ref q_prices, .ref q_rests, .ref q_ways])), (q_view, .inr (8, [.int x_view_posts, .int x_view_roads, .int x_view_weight, .ref q_view_weights, .ref q_view_near, .ref q_view_behind, .ref q_view_ahead])), (q_view_weights, .inl (cI, 121, .inl x_view_weights)), (q_view_near, .inl (cI, 11, .inl x_view_near)), (q_view_behind, .inl (cI, 11, .inl x_view_behind)), (q_costs, .inr (2, [.ref q_view])), (q_prices, .inl (cI, 2048, .inl o_prices))] r := by
  refine CI.of rfl (by decide) (Nat.le_of_ble_eq_true rfl) ?_
  intro p e s m args below meth c Q A ls hx hb hml hown htb hK hN hA hP hD hS hl hret
  have hown : s.vm.findClass RX7 = some m.cls := hown
  have hl : lv_has ls 6 [(0, .ref q_), (1, .int i1), (2, .int i2)] := hl
  have hret : ∀ (r9 : Int32) (o9_solvedFor : Int32) (o9_pricedFor : Int32) (o9_prices : Nat → Int32), some (r9, o9_solvedFor, o9_pricedFor, o9_prices) = some (r, o_solvedFor, o_pricedFor, o_prices) → ∀ (H : Heap) (locs : List Loc) (pc : Nat) (ls : Array Slot), narrow .int (.int r9) = .int r9 → decode cX7_cheapest pc = .ok (.ireturn, 1) → va_P (dC, dI) vwCl [(q_, .inr (6, [.ref q_view, .ref q_costs, .int o9_solvedFor, .int x_lowest, .int x_total, .int o9_pricedFor, .ref q_prices, .ref q_rests, .ref q_ways])), (q_view, .inr (8, [.int x_view_posts, .int x_view_roads, .int x_view_weight, .ref q_view_weights, .ref q_view_near, .ref q_view_behind, .ref q_view_ahead])), (q_view_weights, .inl (cI, 121, .inl x_view_weights)), (q_view_near, .inl (cI, 11, .inl x_view_near)), (q_view_behind, .inl (cI, 11, .inl x_view_behind)), (q_costs, .inr (2, [.ref q_view])), (q_prices, .inl (cI, 2048, .inl o9_prices))] H → va_D A [(q_, .inr (6, [.ref q_view, .ref q_costs, .int o9_solvedFor, .int x_lowest, .int x_total, .int o9_pricedFor, .ref q_prices, .ref q_rests, .ref q_ways])), (q_view, .inr (8, [.int x_view_posts, .int x_view_roads, .int x_view_weight, .ref q_view_weights, .ref q_view_near, .ref q_view_behind, .ref q_view_ahead])), (q_view_weights, .inl (cI, 121, .inl x_view_weights)), (q_view_near, .inl (cI, 11, .inl x_view_near)), (q_view_behind, .inl (cI, 11, .inl x_view_behind)), (q_costs, .inr (2, [.ref q_view])), (q_prices, .inl (cI, 2048, .inl o9_prices))] → va_S A s.heap H locs → W p l e (rmK 6 157) s m args below meth c H locs 0 0 Q (F0 m pc ls [.int r9]) := by
    intro r9 o9_solvedFor o9_pricedFor o9_prices h9
    cases h9
    exact hret
  unfold f_X7_cheapest at hf
  refine lv_aload_n hx hb dX7_cheapest_0 rfl (lv_at hl 0 rfl) ?_
  refine lv_iload_n hx hb dX7_cheapest_1 rfl (lv_at hl 1 rfl) ?_
  obtain ⟨o1, o2, o3, hv, hf⟩ := ob3 hf
  refine k_afterV (wr := []) (wn := [(q_, .inr (6, [.ref q_view, .ref q_costs, .int o1, .int x_lowest, .int x_total, .int o2, .ref q_prices, .ref q_rests, .ref q_ways])), (q_view, .inr (8, [.int x_view_posts, .int x_view_roads, .int x_view_weight, .ref q_view_weights, .ref q_view_near, .ref q_view_behind, .ref q_view_ahead])), (q_view_weights, .inl (cI, 121, .inl x_view_weights)), (q_view_near, .inl (cI, 11, .inl x_view_near)), (q_view_behind, .inl (cI, 11, .inl x_view_behind)), (q_costs, .inr (2, [.ref q_view])), (q_prices, .inl (cI, 2048, .inl o3))]) (k_runV (rest := []) (ci := 6) (q0 := 0) hx hb hml hown htb hK hN (c_X7_priceSets l dC dI cI cZ cN q_ q_view q_costs q_prices q_rests q_ways q_view_weights q_view_near q_view_behind q_view_ahead x_solvedFor x_lowest x_total x_pricedFor x_view_posts x_view_roads x_view_weight x_view_weights x_view_near x_view_behind x_prices i1 o1 o2 o3 hv _) vf_X7_priceSets t_549 hP hD [0, 1, 2, 3, 4, 5, 6] rfl rfl rfl rfl ⟨(Nat.le_of_ble_eq_true rfl), (Nat.le_of_ble_eq_true rfl)⟩ rfl hl.1 rfl (Nat.le_of_ble_eq_true rfl) dX7_cheapest_2 ⟨Nat.zero_le _, Nat.zero_le _⟩) hA hP hD hS [0, 1, 2, 3, 4, 5, 6] [] [0, 1, 2, 3, 4, 5, 6] rfl rfl rfl rfl ?_
  clear hP hD hS
  intro H locs hP hD hS
  refine lv_iconst (v := (0 : Int32)) hx hb dX7_cheapest_5 (by decide) ?_
  refine lv_istore_n (lv' := [(3, .int (0 : Int32)), (0, .ref q_), (1, .int i1), (2, .int i2)]) hx hb dX7_cheapest_6 rfl hl (by decide) rfl (fun ls hl => ?_)
  refine lv_ldc (v := (1073741824 : Int32)) hx hb hown (htb _ t_558) dX7_cheapest_7 ?_
  refine lv_istore (lv' := [(4, .int (1073741824 : Int32)), (3, .int (0 : Int32)), (0, .ref q_), (1, .int i1), (2, .int i2)]) hx hb dX7_cheapest_9 hl (by decide) rfl (fun ls hl => ?_)
  refine lv_iconst (v := (0 : Int32)) hx hb dX7_cheapest_11 (by decide) ?_
  refine lv_istore (lv' := [(5, .int (0 : Int32)), (4, .int (1073741824 : Int32)), (3, .int (0 : Int32)), (0, .ref q_), (1, .int i1), (2, .int i2)]) hx hb dX7_cheapest_12 hl (by decide) rfl (fun ls hl => ?_)
  obtain ⟨x4, hL, hf⟩ := ob hf
  have kx5 : ∀ (H : Heap) (locs : List Loc) (ls : Array Slot), va_P (dC, dI) vwCl [(q_, .inr (6, [.ref q_view, .ref q_costs, .int o1, .int x_lowest, .int x_total, .int o2, .ref q_prices, .ref q_rests, .ref q_ways])), (q_view, .inr (8, [.int x_view_posts, .int x_view_roads, .int x_view_weight, .ref q_view_weights, .ref q_view_near, .ref q_view_behind, .ref q_view_ahead])), (q_view_weights, .inl (cI, 121, .inl x_view_weights)), (q_view_near, .inl (cI, 11, .inl x_view_near)), (q_view_behind, .inl (cI, 11, .inl x_view_behind)), (q_costs, .inr (2, [.ref q_view])), (q_prices, .inl (cI, 2048, .inl o3))] H → va_D A [(q_, .inr (6, [.ref q_view, .ref q_costs, .int o1, .int x_lowest, .int x_total, .int o2, .ref q_prices, .ref q_rests, .ref q_ways])), (q_view, .inr (8, [.int x_view_posts, .int x_view_roads, .int x_view_weight, .ref q_view_weights, .ref q_view_near, .ref q_view_behind, .ref q_view_ahead])), (q_view_weights, .inl (cI, 121, .inl x_view_weights)), (q_view_near, .inl (cI, 11, .inl x_view_near)), (q_view_behind, .inl (cI, 11, .inl x_view_behind)), (q_costs, .inr (2, [.ref q_view])), (q_prices, .inl (cI, 2048, .inl o3))] → va_S A s.heap H locs → lv_has ls 6 [(3, .int x4)] → W p l e (rmK 6 157) s m args below meth c H locs 0 0 Q (F0 m 67 ls []) := by
    intro H locs ls hP hD hS hl
    refine lv_iload_n hx hb dX7_cheapest_67 rfl (lv_at hl 0 rfl) ?_
    exact hret _ _ _ _ hf _ _ _ _ rfl dX7_cheapest_68 hP hD hS
  obtain ⟨n0, hn0⟩ := loopS_iter hL
  clear hf
  have kl9 : ∀ (n : Nat) (s6 : Int32) (s7 : Int32) (s8 : Int32), iterS (fun (s : Int32 × Int32 × Int32) => f_X7_cheapest_L14 i2 x_view_posts o3 s.1 s.2.1 s.2.2) n (s6, s7, s8) = some x4 → ∀ (H : Heap) (locs : List Loc) (ls : Array Slot), va_P (dC, dI) vwCl [(q_, .inr (6, [.ref q_view, .ref q_costs, .int o1, .int x_lowest, .int x_total, .int o2, .ref q_prices, .ref q_rests, .ref q_ways])), (q_view, .inr (8, [.int x_view_posts, .int x_view_roads, .int x_view_weight, .ref q_view_weights, .ref q_view_near, .ref q_view_behind, .ref q_view_ahead])), (q_view_weights, .inl (cI, 121, .inl x_view_weights)), (q_view_near, .inl (cI, 11, .inl x_view_near)), (q_view_behind, .inl (cI, 11, .inl x_view_behind)), (q_costs, .inr (2, [.ref q_view])), (q_prices, .inl (cI, 2048, .inl o3))] H → va_D A [(q_, .inr (6, [.ref q_view, .ref q_costs, .int o1, .int x_lowest, .int x_total, .int o2, .ref q_prices, .ref q_rests, .ref q_ways])), (q_view, .inr (8, [.int x_view_posts, .int x_view_roads, .int x_view_weight, .ref q_view_weights, .ref q_view_near, .ref q_view_behind, .ref q_view_ahead])), (q_view_weights, .inl (cI, 121, .inl x_view_weights)), (q_view_near, .inl (cI, 11, .inl x_view_near)), (q_view_behind, .inl (cI, 11, .inl x_view_behind)), (q_costs, .inr (2, [.ref q_view])), (q_prices, .inl (cI, 2048, .inl o3))] → va_S A s.heap H locs → lv_has ls 6 [(0, .ref q_), (2, .int i2), (3, .int s6), (4, .int s7), (5, .int s8)] → W p l e (rmK 6 157) s m args below meth c H locs 0 0 Q (F0 m 14 ls []) := by
    intro n
    induction n with
    | zero =>
      intro s6 s7 s8 hn1
      cases hn1
    | succ n ih1 =>
      intro s6 s7 s8 hn1 H locs ls hP hD hS hl
      obtain ⟨r10, hf, hn1⟩ := it1 hn1
      replace hf : f_X7_cheapest_L14 i2 x_view_posts o3 s6 s7 s8 = some r10 := hf
      unfold f_X7_cheapest_L14 at hf
      refine lv_iload hx hb dX7_cheapest_14 (lv_at hl 4 rfl) ?_
      refine lv_iconst (v := (1 : Int32)) hx hb dX7_cheapest_16 (by decide) ?_
      refine lv_aload_n hx hb dX7_cheapest_17 rfl (lv_at hl 0 rfl) ?_
      refine va_get (D := (dC, dI)) (ci := 6) (v := .ref q_view) (C := RX7) (T := TX7) (N := 9) hx hb htb inX7 hown hK hP 0 rfl rfl 0 (Nat.le_of_ble_eq_true rfl) (htb _ t_217) (u_same (htb _ t_218)) rfl dX7_cheapest_18 ?_
      refine va_get (D := (dC, dI)) (ci := 8) (v := .int x_view_posts) (C := RX9) (T := TX9) (N := 7) hx hb htb inX9 hown hK hP 1 rfl rfl 0 (Nat.le_of_ble_eq_true rfl) (htb _ t_73) (fun _ h9 => h9) rfl dX7_cheapest_21 ?_
      refine lv_ishl hx hb dX7_cheapest_24 ?_
      refine lv_icmp_ge (tgt := 67) hx hb dX7_cheapest_25 (by decide) (fun c11 => ?_) (fun c11 => ?_)
      · have hf := ip c11 hf
        cases hf
        cases (itr hn1)
        exact kx5 _ _ _ hP hD hS (lv_sub hl [2] rfl)
      · have hf := im c11 hf
        refine lv_iload hx hb dX7_cheapest_28 (lv_at hl 4 rfl) ?_
        obtain ⟨v12, hv, hf⟩ := ob hf
        refine k_afterI (wr := [(q_, .inr (6, [.ref q_view, .ref q_costs, .int o1, .int x_lowest, .int x_total, .int o2, .ref q_prices, .ref q_rests, .ref q_ways])), (q_view, .inr (8, [.int x_view_posts, .int x_view_roads, .int x_view_weight, .ref q_view_weights, .ref q_view_near, .ref q_view_behind, .ref q_view_ahead])), (q_view_weights, .inl (cI, 121, .inl x_view_weights)), (q_view_near, .inl (cI, 11, .inl x_view_near)), (q_view_behind, .inl (cI, 11, .inl x_view_behind)), (q_costs, .inr (2, [.ref q_view])), (q_prices, .inl (cI, 2048, .inl o3))]) (wn := [(q_, .inr (6, [.ref q_view, .ref q_costs, .int o1, .int x_lowest, .int x_total, .int o2, .ref q_prices, .ref q_rests, .ref q_ways])), (q_view, .inr (8, [.int x_view_posts, .int x_view_roads, .int x_view_weight, .ref q_view_weights, .ref q_view_near, .ref q_view_behind, .ref q_view_ahead])), (q_view_weights, .inl (cI, 121, .inl x_view_weights)), (q_view_near, .inl (cI, 11, .inl x_view_near)), (q_view_behind, .inl (cI, 11, .inl x_view_behind)), (q_costs, .inr (2, [.ref q_view])), (q_prices, .inl (cI, 2048, .inl o3))]) (k_runS (rest := []) hx hb hml hown htb hK hN (c_J6_bitCount_0f7a4 l dC dI cI cZ cN s8 v12 hv _) sf_J6_bitCount_0f7a4 t_666 hP hD [] rfl rfl ⟨(Nat.le_of_ble_eq_true rfl), (Nat.le_of_ble_eq_true rfl)⟩ rfl hl.1 rfl (Nat.le_of_ble_eq_true rfl) dX7_cheapest_30 ⟨Nat.zero_le _, Nat.zero_le _⟩) hA hP hD hS [] [0, 1, 2, 3, 4, 5, 6] [0, 1, 2, 3, 4, 5, 6] rfl rfl rfl rfl ?_
        clear hP hD hS
        intro H locs hP hD hS
        refine lv_iload_n hx hb dX7_cheapest_33 rfl (lv_at hl 1 rfl) ?_
        obtain ⟨t13, t14, hv, hf⟩ := ob2 hf
        have key15 : ∀ (H : Heap) (locs : List Loc) (ls : Array Slot), va_P (dC, dI) vwCl [(q_, .inr (6, [.ref q_view, .ref q_costs, .int o1, .int x_lowest, .int x_total, .int o2, .ref q_prices, .ref q_rests, .ref q_ways])), (q_view, .inr (8, [.int x_view_posts, .int x_view_roads, .int x_view_weight, .ref q_view_weights, .ref q_view_near, .ref q_view_behind, .ref q_view_ahead])), (q_view_weights, .inl (cI, 121, .inl x_view_weights)), (q_view_near, .inl (cI, 11, .inl x_view_near)), (q_view_behind, .inl (cI, 11, .inl x_view_behind)), (q_costs, .inr (2, [.ref q_view])), (q_prices, .inl (cI, 2048, .inl o3))] H → va_D A [(q_, .inr (6, [.ref q_view, .ref q_costs, .int o1, .int x_lowest, .int x_total, .int o2, .ref q_prices, .ref q_rests, .ref q_ways])), (q_view, .inr (8, [.int x_view_posts, .int x_view_roads, .int x_view_weight, .ref q_view_weights, .ref q_view_near, .ref q_view_behind, .ref q_view_ahead])), (q_view_weights, .inl (cI, 121, .inl x_view_weights)), (q_view_near, .inl (cI, 11, .inl x_view_near)), (q_view_behind, .inl (cI, 11, .inl x_view_behind)), (q_costs, .inr (2, [.ref q_view])), (q_prices, .inl (cI, 2048, .inl o3))] → va_S A s.heap H locs → lv_has ls 6 [(0, .ref q_), (2, .int i2), (3, .int t13), (4, .int t14), (5, .int s8)] → W p l e (rmK 6 157) s m args below meth c H locs 0 0 Q (F0 m 61 ls []) := by
          intro H locs ls hP hD hS hl
          refine lv_iinc (v := (s8 + (1 : Int32))) (lv' := [(5, .int (s8 + (1 : Int32))), (0, .ref q_), (2, .int i2), (3, .int t13), (4, .int t14)]) hx hb dX7_cheapest_61 hl (k := 4) rfl rfl (by decide) rfl (fun ls hl => ?_)
          refine lv_goto (tgt := 14) hx hb dX7_cheapest_64 (by decide) ?_
          cases hf
          exact ih1 _ _ _ (itl hn1) _ _ _ hP hD hS (lv_sub hl [1, 2, 3, 4, 0] rfl)
        replace hf := hv
        refine lv_icmp_ne (tgt := 61) hx hb dX7_cheapest_34 (by decide) (fun c16 => ?_) (fun c16 => ?_)
        · have hf := im c16 hf
          cases hf
          exact key15 _ _ _ hP hD hS (lv_sub hl [0, 1, 2, 3, 4] rfl)
        · have hf := ip c16 hf
          refine lv_aload_n hx hb dX7_cheapest_37 rfl (lv_at hl 0 rfl) ?_
          refine va_get (D := (dC, dI)) (ci := 6) (v := .ref q_prices) (C := RX7) (T := TX7) (N := 9) hx hb htb inX7 hown hK hP 0 rfl rfl 6 (Nat.le_of_ble_eq_true rfl) (htb _ t_211) (fun _ h9 => h9) rfl dX7_cheapest_38 ?_
          refine lv_iload hx hb dX7_cheapest_41 (lv_at hl 4 rfl) ?_
          obtain ⟨v17, hv, hf⟩ := ob hf
          refine k_iald hx hb hK hP 6 0 rfl rfl hv dX7_cheapest_43 ?_
          refine lv_iload hx hb dX7_cheapest_44 (lv_at hl 3 rfl) ?_
          refine lv_icmp_ge (tgt := 61) hx hb dX7_cheapest_46 (by decide) (fun c18 => ?_) (fun c18 => ?_)
          · have hf := ip c18 hf
            cases hf
            exact key15 _ _ _ hP hD hS (lv_sub hl [0, 1, 2, 3, 4] rfl)
          · have hf := im c18 hf
            refine lv_aload_n hx hb dX7_cheapest_49 rfl (lv_at hl 0 rfl) ?_
            refine va_get (D := (dC, dI)) (ci := 6) (v := .ref q_prices) (C := RX7) (T := TX7) (N := 9) hx hb htb inX7 hown hK hP 0 rfl rfl 6 (Nat.le_of_ble_eq_true rfl) (htb _ t_211) (fun _ h9 => h9) rfl dX7_cheapest_50 ?_
            refine lv_iload hx hb dX7_cheapest_53 (lv_at hl 4 rfl) ?_
            obtain ⟨v19, hv, hf⟩ := ob hf
            refine k_iald hx hb hK hP 6 0 rfl rfl hv dX7_cheapest_55 ?_
            refine lv_istore (lv' := [(4, .int v19), (0, .ref q_), (2, .int i2), (3, .int s6), (5, .int s8)]) hx hb dX7_cheapest_56 hl (by decide) rfl (fun ls hl => ?_)
            refine lv_iload hx hb dX7_cheapest_58 (lv_at hl 4 rfl) ?_
            refine lv_istore_n (lv' := [(3, .int s8), (4, .int v19), (0, .ref q_), (2, .int i2), (5, .int s8)]) hx hb dX7_cheapest_60 rfl hl (by decide) rfl (fun ls hl => ?_)
            cases hf
            exact key15 _ _ _ hP hD hS (lv_sub hl [2, 3, 0, 1, 4] rfl)
  exact kl9 n0 _ _ _ hn0 _ _ _ hP hD hS (lv_sub hl [3, 5, 2, 1, 0] rfl)
theorem vf_X7_restWith : VF yX7_restWith cX7_restWith 2 (some .int) 1 := ⟨t_563, tp_7, t_11, t_564, by decide +kernel, by decide +kernel, by decide +kernel⟩
theorem dX7_restWith_0 : decode cX7_restWith 0 = .ok (.aload_n 0, 1) := by decide +kernel
theorem dX7_restWith_1 : decode cX7_restWith 1 = .ok (.getfield 48, 3) := by decide +kernel
theorem dX7_restWith_4 : decode cX7_restWith 4 = .ok (.aload_n 0, 1) := by decide +kernel
theorem dX7_restWith_5 : decode cX7_restWith 5 = .ok (.getfield 25, 3) := by decide +kernel
theorem dX7_restWith_8 : decode cX7_restWith 8 = .ok (.aload_n 0, 1) := by decide +kernel
theorem dX7_restWith_9 : decode cX7_restWith 9 = .ok (.getfield 15, 3) := by decide +kernel
theorem dX7_restWith_12 : decode cX7_restWith 12 = .ok (.iload_n 1, 1) := by decide +kernel
theorem dX7_restWith_13 : decode cX7_restWith 13 = .ok (.iaload, 1) := by decide +kernel
theorem dX7_restWith_14 : decode cX7_restWith 14 = .ok (.aload_n 0, 1) := by decide +kernel
theorem dX7_restWith_15 : decode cX7_restWith 15 = .ok (.getfield 19, 3) := by decide +kernel
theorem dX7_restWith_18 : decode cX7_restWith 18 = .ok (.iload_n 1, 1) := by decide +kernel
theorem dX7_restWith_19 : decode cX7_restWith 19 = .ok (.iaload, 1) := by decide +kernel
theorem dX7_restWith_20 : decode cX7_restWith 20 = .ok (.invokevirtual 92, 3) := by decide +kernel
theorem dX7_restWith_23 : decode cX7_restWith 23 = .ok (.ireturn, 1) := by decide +kernel
noncomputable def f_X7_restWith (x_solvedFor : Int32) (x_prices : Nat → Int32) (x_rests : Nat → Int32) (i1 : Int32) : Option (Int32) :=
  (gi x_prices 2048 i1).bind fun v1 =>
  (gi x_rests 2048 i1).bind fun v2 =>
  (f_X2_join x_solvedFor v1 v2).bind fun v3 =>
  some (v3)
set_option maxHeartbeats 4000000 in
set_option maxRecDepth 100000 in
theorem c_X7_restWith (l : Launch) (dC : Nat → ClassId) (dI : Nat → Nat → Nat) (cI cZ cN : ClassId) (q_ : Nat) (q_view : Nat) (q_costs : Nat) (q_prices : Nat) (q_rests : Nat) (q_ways : Nat) (x_solvedFor : Int32) (x_lowest : Int32) (x_total : Int32) (x_pricedFor : Int32) (x_prices : Nat → Int32) (x_rests : Nat → Int32) (i1 : Int32) (r : Int32) (hf : f_X7_restWith x_solvedFor x_prices x_rests i1 = some r) : CI l yX7_restWith cX7_restWith 2 (some .int) 3 83 (dC, dI) (TY cI cZ cN) [.ref q_, .int i1] [(q_, .inr (6, [.ref q_view, .ref q_costs, .int x_solvedFor, .int x_lowest, .int x_total, .int x_pricedFor, .ref q_prices, .ref q_rests, .ref q_ways])), (q_costs, .inr (2, [.ref q_view])), (q_prices, .inl (cI, 2048, .inl x_prices)), (q_rests, .inl (cI, 2048, .inl x_rests))] [(q_, .inr (6, [.ref q_view, .ref q_costs, .int x_solvedFor, .int x_lowest, .int x_total, .int x_pricedFor, .ref q_prices, .ref q_rests, .ref q_ways])), (q_costs, .inr (2, [.ref q_view])), (q_prices, .inl (cI, 2048, .inl x_prices)), (q_rests, .inl (cI, 2048, .inl x_rests))] r := by
  refine CI.of rfl (by decide) (Nat.le_of_ble_eq_true rfl) ?_
  intro p e s m args below meth c Q A ls hx hb hml hown htb hK hN hA hP hD hS hl hret
  have hown : s.vm.findClass RX7 = some m.cls := hown
  have hl : lv_has ls 2 [(0, .ref q_), (1, .int i1)] := hl
  have hret : ∀ (r9 : Int32), some r9 = some r → ∀ (H : Heap) (locs : List Loc) (pc : Nat) (ls : Array Slot), narrow .int (.int r9) = .int r9 → decode cX7_restWith pc = .ok (.ireturn, 1) → va_P (dC, dI) vwCl [(q_, .inr (6, [.ref q_view, .ref q_costs, .int x_solvedFor, .int x_lowest, .int x_total, .int x_pricedFor, .ref q_prices, .ref q_rests, .ref q_ways])), (q_costs, .inr (2, [.ref q_view])), (q_prices, .inl (cI, 2048, .inl x_prices)), (q_rests, .inl (cI, 2048, .inl x_rests))] H → va_D A [(q_, .inr (6, [.ref q_view, .ref q_costs, .int x_solvedFor, .int x_lowest, .int x_total, .int x_pricedFor, .ref q_prices, .ref q_rests, .ref q_ways])), (q_costs, .inr (2, [.ref q_view])), (q_prices, .inl (cI, 2048, .inl x_prices)), (q_rests, .inl (cI, 2048, .inl x_rests))] → va_S A s.heap H locs → W p l e (rmK 3 83) s m args below meth c H locs 0 0 Q (F0 m pc ls [.int r9]) := by
    intro r9 h9
    cases h9
    exact hret
  unfold f_X7_restWith at hf
  refine lv_aload_n hx hb dX7_restWith_0 rfl (lv_at hl 0 rfl) ?_
  refine va_get (D := (dC, dI)) (ci := 6) (v := .ref q_costs) (C := RX7) (T := TX7) (N := 9) hx hb htb inX7 hown hK hP 0 rfl rfl 1 (Nat.le_of_ble_eq_true rfl) (htb _ t_222) (u_same (htb _ t_223)) rfl dX7_restWith_1 ?_
  refine lv_aload_n hx hb dX7_restWith_4 rfl (lv_at hl 0 rfl) ?_
  refine va_get (D := (dC, dI)) (ci := 6) (v := .int x_solvedFor) (C := RX7) (T := TX7) (N := 9) hx hb htb inX7 hown hK hP 0 rfl rfl 2 (Nat.le_of_ble_eq_true rfl) (htb _ t_227) (u_same (htb _ t_228)) rfl dX7_restWith_5 ?_
  refine lv_aload_n hx hb dX7_restWith_8 rfl (lv_at hl 0 rfl) ?_
  refine va_get (D := (dC, dI)) (ci := 6) (v := .ref q_prices) (C := RX7) (T := TX7) (N := 9) hx hb htb inX7 hown hK hP 0 rfl rfl 6 (Nat.le_of_ble_eq_true rfl) (htb _ t_211) (fun _ h9 => h9) rfl dX7_restWith_9 ?_
  refine lv_iload_n hx hb dX7_restWith_12 rfl (lv_at hl 1 rfl) ?_
  obtain ⟨v1, hv, hf⟩ := ob hf
  refine k_iald hx hb hK hP 2 0 rfl rfl hv dX7_restWith_13 ?_
  refine lv_aload_n hx hb dX7_restWith_14 rfl (lv_at hl 0 rfl) ?_
  refine va_get (D := (dC, dI)) (ci := 6) (v := .ref q_rests) (C := RX7) (T := TX7) (N := 9) hx hb htb inX7 hown hK hP 0 rfl rfl 7 (Nat.le_of_ble_eq_true rfl) (htb _ t_212) (fun _ h9 => h9) rfl dX7_restWith_15 ?_
  refine lv_iload_n hx hb dX7_restWith_18 rfl (lv_at hl 1 rfl) ?_
  obtain ⟨v2, hv, hf⟩ := ob hf
  refine k_iald hx hb hK hP 3 0 rfl rfl hv dX7_restWith_19 ?_
  obtain ⟨v3, hv, hf⟩ := ob hf
  refine k_afterI (wr := [(q_, .inr (6, [.ref q_view, .ref q_costs, .int x_solvedFor, .int x_lowest, .int x_total, .int x_pricedFor, .ref q_prices, .ref q_rests, .ref q_ways])), (q_costs, .inr (2, [.ref q_view])), (q_prices, .inl (cI, 2048, .inl x_prices)), (q_rests, .inl (cI, 2048, .inl x_rests))]) (wn := [(q_, .inr (6, [.ref q_view, .ref q_costs, .int x_solvedFor, .int x_lowest, .int x_total, .int x_pricedFor, .ref q_prices, .ref q_rests, .ref q_ways])), (q_costs, .inr (2, [.ref q_view])), (q_prices, .inl (cI, 2048, .inl x_prices)), (q_rests, .inl (cI, 2048, .inl x_rests))]) (k_runV (rest := []) (ci := 2) (q0 := 1) hx hb hml hown htb hK hN (c_X2_join l dC dI cI cZ cN q_costs x_solvedFor v1 v2 v3 hv _) vf_X2_join t_565 hP hD [] rfl rfl rfl rfl ⟨(Nat.le_of_ble_eq_true rfl), (Nat.le_of_ble_eq_true rfl)⟩ rfl hl.1 rfl (Nat.le_of_ble_eq_true rfl) dX7_restWith_20 ⟨Nat.zero_le _, Nat.zero_le _⟩) hA hP hD hS [] [0, 1, 2, 3] [0, 1, 2, 3] rfl rfl rfl rfl ?_
  clear hP hD hS
  intro H locs hP hD hS
  exact hret _ hf _ _ _ _ rfl dX7_restWith_23 hP hD hS
theorem vf_X7_leastRest : VF yX7_leastRest cX7_leastRest 4 (some .int) 1 := ⟨t_556, tp_6, t_11, t_557, by decide +kernel, by decide +kernel, by decide +kernel⟩
theorem dX7_leastRest_0 : decode cX7_leastRest 0 = .ok (.ldc 32, 2) := by decide +kernel
theorem dX7_leastRest_2 : decode cX7_leastRest 2 = .ok (.istore_n 2, 1) := by decide +kernel
theorem dX7_leastRest_3 : decode cX7_leastRest 3 = .ok (.iconst 0, 1) := by decide +kernel
theorem dX7_leastRest_4 : decode cX7_leastRest 4 = .ok (.istore_n 3, 1) := by decide +kernel
theorem dX7_leastRest_5 : decode cX7_leastRest 5 = .ok (.iload_n 3, 1) := by decide +kernel
theorem dX7_leastRest_6 : decode cX7_leastRest 6 = .ok (.aload_n 0, 1) := by decide +kernel
theorem dX7_leastRest_7 : decode cX7_leastRest 7 = .ok (.getfield 33, 3) := by decide +kernel
theorem dX7_leastRest_10 : decode cX7_leastRest 10 = .ok (.getfield 37, 3) := by decide +kernel
theorem dX7_leastRest_13 : decode cX7_leastRest 13 = .ok (.if_icmp .ge 43, 3) := by decide +kernel
theorem dX7_leastRest_16 : decode cX7_leastRest 16 = .ok (.iload_n 1, 1) := by decide +kernel
theorem dX7_leastRest_17 : decode cX7_leastRest 17 = .ok (.iload_n 3, 1) := by decide +kernel
theorem dX7_leastRest_18 : decode cX7_leastRest 18 = .ok (.invokestatic 74, 3) := by decide +kernel
theorem dX7_leastRest_21 : decode cX7_leastRest 21 = .ok (.ifCond .ne 29, 3) := by decide +kernel
theorem dX7_leastRest_24 : decode cX7_leastRest 24 = .ok (.aload_n 0, 1) := by decide +kernel
theorem dX7_leastRest_25 : decode cX7_leastRest 25 = .ok (.getfield 33, 3) := by decide +kernel
theorem dX7_leastRest_28 : decode cX7_leastRest 28 = .ok (.iload_n 3, 1) := by decide +kernel
theorem dX7_leastRest_29 : decode cX7_leastRest 29 = .ok (.iload_n 1, 1) := by decide +kernel
theorem dX7_leastRest_30 : decode cX7_leastRest 30 = .ok (.invokevirtual 78, 3) := by decide +kernel
theorem dX7_leastRest_33 : decode cX7_leastRest 33 = .ok (.ifCond .eq 17, 3) := by decide +kernel
theorem dX7_leastRest_36 : decode cX7_leastRest 36 = .ok (.iload_n 2, 1) := by decide +kernel
theorem dX7_leastRest_37 : decode cX7_leastRest 37 = .ok (.aload_n 0, 1) := by decide +kernel
theorem dX7_leastRest_38 : decode cX7_leastRest 38 = .ok (.iload_n 1, 1) := by decide +kernel
theorem dX7_leastRest_39 : decode cX7_leastRest 39 = .ok (.iconst 1, 1) := by decide +kernel
theorem dX7_leastRest_40 : decode cX7_leastRest 40 = .ok (.iload_n 3, 1) := by decide +kernel
theorem dX7_leastRest_41 : decode cX7_leastRest 41 = .ok (.ishl, 1) := by decide +kernel
theorem dX7_leastRest_42 : decode cX7_leastRest 42 = .ok (.ior, 1) := by decide +kernel
theorem dX7_leastRest_43 : decode cX7_leastRest 43 = .ok (.invokevirtual 81, 3) := by decide +kernel
theorem dX7_leastRest_46 : decode cX7_leastRest 46 = .ok (.invokestatic 84, 3) := by decide +kernel
theorem dX7_leastRest_49 : decode cX7_leastRest 49 = .ok (.istore_n 2, 1) := by decide +kernel
theorem dX7_leastRest_50 : decode cX7_leastRest 50 = .ok (.iinc 3 1, 3) := by decide +kernel
theorem dX7_leastRest_53 : decode cX7_leastRest 53 = .ok (.goto (-48), 3) := by decide +kernel
theorem dX7_leastRest_56 : decode cX7_leastRest 56 = .ok (.iload_n 2, 1) := by decide +kernel
theorem dX7_leastRest_57 : decode cX7_leastRest 57 = .ok (.ireturn, 1) := by decide +kernel
noncomputable def f_X7_leastRest_L5 (i1 : Int32) (x_solvedFor : Int32) (x_view_posts : Int32) (x_view_ahead : Nat → Int32) (x_prices : Nat → Int32) (x_rests : Nat → Int32) (i2 : Int32) (i3 : Int32) : Option ((Int32 × Int32) ⊕ (Int32)) :=
  if x_view_posts ≤ i3 then (some (.inr i2)) else ((f_X10_holds i1 i3).bind fun v2 =>
  ((if v2 = 0 then ((f_X9_mayFollow x_view_ahead i3 i1).bind fun v6 =>
  if v6 = 0 then (some i2) else ((f_X7_restWith x_solvedFor x_prices x_rests (i1 ||| ((1 : Int32) <<< (i3 &&& 31)))).bind fun v8 =>
  some (if v8 < i2 then v8 else i2))) else (some i2) : Option (Int32))).bind fun t3 =>
  some (.inl (t3, (i3 + (1 : Int32)))))
noncomputable def f_X7_leastRest (x_solvedFor : Int32) (x_view_posts : Int32) (x_view_ahead : Nat → Int32) (x_prices : Nat → Int32) (x_rests : Nat → Int32) (i1 : Int32) : Option (Int32) :=
  (loopS (fun (s : Int32 × Int32) => f_X7_leastRest_L5 i1 x_solvedFor x_view_posts x_view_ahead x_prices x_rests s.1 s.2) ((1073741824 : Int32), (0 : Int32))).bind fun x1 =>
  some (x1)
set_option maxHeartbeats 4000000 in
set_option maxRecDepth 100000 in
theorem c_X7_leastRest (l : Launch) (dC : Nat → ClassId) (dI : Nat → Nat → Nat) (cI cZ cN : ClassId) (q_ : Nat) (q_view : Nat) (q_costs : Nat) (q_prices : Nat) (q_rests : Nat) (q_ways : Nat) (q_view_weights : Nat) (q_view_near : Nat) (q_view_behind : Nat) (q_view_ahead : Nat) (x_solvedFor : Int32) (x_lowest : Int32) (x_total : Int32) (x_pricedFor : Int32) (x_view_posts : Int32) (x_view_roads : Int32) (x_view_weight : Int32) (x_view_ahead : Nat → Int32) (x_prices : Nat → Int32) (x_rests : Nat → Int32) (i1 : Int32) (r : Int32) (hf : f_X7_leastRest x_solvedFor x_view_posts x_view_ahead x_prices x_rests i1 = some r) : CI l yX7_leastRest cX7_leastRest 4 (some .int) 4 104 (dC, dI) (TY cI cZ cN) [.ref q_, .int i1] [(q_, .inr (6, [.ref q_view, .ref q_costs, .int x_solvedFor, .int x_lowest, .int x_total, .int x_pricedFor, .ref q_prices, .ref q_rests, .ref q_ways])), (q_view, .inr (8, [.int x_view_posts, .int x_view_roads, .int x_view_weight, .ref q_view_weights, .ref q_view_near, .ref q_view_behind, .ref q_view_ahead])), (q_view_ahead, .inl (cI, 11, .inl x_view_ahead)), (q_costs, .inr (2, [.ref q_view])), (q_prices, .inl (cI, 2048, .inl x_prices)), (q_rests, .inl (cI, 2048, .inl x_rests))] [(q_, .inr (6, [.ref q_view, .ref q_costs, .int x_solvedFor, .int x_lowest, .int x_total, .int x_pricedFor, .ref q_prices, .ref q_rests, .ref q_ways])), (q_view, .inr (8, [.int x_view_posts, .int x_view_roads, .int x_view_weight, .ref q_view_weights, .ref q_view_near, .ref q_view_behind, .ref q_view_ahead])), (q_view_ahead, .inl (cI, 11, .inl x_view_ahead)), (q_costs, .inr (2, [.ref q_view])), (q_prices, .inl (cI, 2048, .inl x_prices)), (q_rests, .inl (cI, 2048, .inl x_rests))] r := by
  refine CI.of rfl (by decide) (Nat.le_of_ble_eq_true rfl) ?_
  intro p e s m args below meth c Q A ls hx hb hml hown htb hK hN hA hP hD hS hl hret
  have hown : s.vm.findClass RX7 = some m.cls := hown
  have hl : lv_has ls 4 [(0, .ref q_), (1, .int i1)] := hl
  have hret : ∀ (r9 : Int32), some r9 = some r → ∀ (H : Heap) (locs : List Loc) (pc : Nat) (ls : Array Slot), narrow .int (.int r9) = .int r9 → decode cX7_leastRest pc = .ok (.ireturn, 1) → va_P (dC, dI) vwCl [(q_, .inr (6, [.ref q_view, .ref q_costs, .int x_solvedFor, .int x_lowest, .int x_total, .int x_pricedFor, .ref q_prices, .ref q_rests, .ref q_ways])), (q_view, .inr (8, [.int x_view_posts, .int x_view_roads, .int x_view_weight, .ref q_view_weights, .ref q_view_near, .ref q_view_behind, .ref q_view_ahead])), (q_view_ahead, .inl (cI, 11, .inl x_view_ahead)), (q_costs, .inr (2, [.ref q_view])), (q_prices, .inl (cI, 2048, .inl x_prices)), (q_rests, .inl (cI, 2048, .inl x_rests))] H → va_D A [(q_, .inr (6, [.ref q_view, .ref q_costs, .int x_solvedFor, .int x_lowest, .int x_total, .int x_pricedFor, .ref q_prices, .ref q_rests, .ref q_ways])), (q_view, .inr (8, [.int x_view_posts, .int x_view_roads, .int x_view_weight, .ref q_view_weights, .ref q_view_near, .ref q_view_behind, .ref q_view_ahead])), (q_view_ahead, .inl (cI, 11, .inl x_view_ahead)), (q_costs, .inr (2, [.ref q_view])), (q_prices, .inl (cI, 2048, .inl x_prices)), (q_rests, .inl (cI, 2048, .inl x_rests))] → va_S A s.heap H locs → W p l e (rmK 4 104) s m args below meth c H locs 0 0 Q (F0 m pc ls [.int r9]) := by
    intro r9 h9
    cases h9
    exact hret
  unfold f_X7_leastRest at hf
  refine lv_ldc (v := (1073741824 : Int32)) hx hb hown (htb _ t_558) dX7_leastRest_0 ?_
  refine lv_istore_n (lv' := [(2, .int (1073741824 : Int32)), (0, .ref q_), (1, .int i1)]) hx hb dX7_leastRest_2 rfl hl (by decide) rfl (fun ls hl => ?_)
  refine lv_iconst (v := (0 : Int32)) hx hb dX7_leastRest_3 (by decide) ?_
  refine lv_istore_n (lv' := [(3, .int (0 : Int32)), (2, .int (1073741824 : Int32)), (0, .ref q_), (1, .int i1)]) hx hb dX7_leastRest_4 rfl hl (by decide) rfl (fun ls hl => ?_)
  obtain ⟨x1, hL, hf⟩ := ob hf
  have kx2 : ∀ (H : Heap) (locs : List Loc) (ls : Array Slot), va_P (dC, dI) vwCl [(q_, .inr (6, [.ref q_view, .ref q_costs, .int x_solvedFor, .int x_lowest, .int x_total, .int x_pricedFor, .ref q_prices, .ref q_rests, .ref q_ways])), (q_view, .inr (8, [.int x_view_posts, .int x_view_roads, .int x_view_weight, .ref q_view_weights, .ref q_view_near, .ref q_view_behind, .ref q_view_ahead])), (q_view_ahead, .inl (cI, 11, .inl x_view_ahead)), (q_costs, .inr (2, [.ref q_view])), (q_prices, .inl (cI, 2048, .inl x_prices)), (q_rests, .inl (cI, 2048, .inl x_rests))] H → va_D A [(q_, .inr (6, [.ref q_view, .ref q_costs, .int x_solvedFor, .int x_lowest, .int x_total, .int x_pricedFor, .ref q_prices, .ref q_rests, .ref q_ways])), (q_view, .inr (8, [.int x_view_posts, .int x_view_roads, .int x_view_weight, .ref q_view_weights, .ref q_view_near, .ref q_view_behind, .ref q_view_ahead])), (q_view_ahead, .inl (cI, 11, .inl x_view_ahead)), (q_costs, .inr (2, [.ref q_view])), (q_prices, .inl (cI, 2048, .inl x_prices)), (q_rests, .inl (cI, 2048, .inl x_rests))] → va_S A s.heap H locs → lv_has ls 4 [(2, .int x1)] → W p l e (rmK 4 104) s m args below meth c H locs 0 0 Q (F0 m 56 ls []) := by
    intro H locs ls hP hD hS hl
    refine lv_iload_n hx hb dX7_leastRest_56 rfl (lv_at hl 0 rfl) ?_
    exact hret _ hf _ _ _ _ rfl dX7_leastRest_57 hP hD hS
  obtain ⟨n0, hn0⟩ := loopS_iter hL
  clear hf
  have kl5 : ∀ (n : Nat) (s3 : Int32) (s4 : Int32), iterS (fun (s : Int32 × Int32) => f_X7_leastRest_L5 i1 x_solvedFor x_view_posts x_view_ahead x_prices x_rests s.1 s.2) n (s3, s4) = some x1 → ∀ (H : Heap) (locs : List Loc) (ls : Array Slot), va_P (dC, dI) vwCl [(q_, .inr (6, [.ref q_view, .ref q_costs, .int x_solvedFor, .int x_lowest, .int x_total, .int x_pricedFor, .ref q_prices, .ref q_rests, .ref q_ways])), (q_view, .inr (8, [.int x_view_posts, .int x_view_roads, .int x_view_weight, .ref q_view_weights, .ref q_view_near, .ref q_view_behind, .ref q_view_ahead])), (q_view_ahead, .inl (cI, 11, .inl x_view_ahead)), (q_costs, .inr (2, [.ref q_view])), (q_prices, .inl (cI, 2048, .inl x_prices)), (q_rests, .inl (cI, 2048, .inl x_rests))] H → va_D A [(q_, .inr (6, [.ref q_view, .ref q_costs, .int x_solvedFor, .int x_lowest, .int x_total, .int x_pricedFor, .ref q_prices, .ref q_rests, .ref q_ways])), (q_view, .inr (8, [.int x_view_posts, .int x_view_roads, .int x_view_weight, .ref q_view_weights, .ref q_view_near, .ref q_view_behind, .ref q_view_ahead])), (q_view_ahead, .inl (cI, 11, .inl x_view_ahead)), (q_costs, .inr (2, [.ref q_view])), (q_prices, .inl (cI, 2048, .inl x_prices)), (q_rests, .inl (cI, 2048, .inl x_rests))] → va_S A s.heap H locs → lv_has ls 4 [(0, .ref q_), (1, .int i1), (2, .int s3), (3, .int s4)] → W p l e (rmK 4 104) s m args below meth c H locs 0 0 Q (F0 m 5 ls []) := by
    intro n
    induction n with
    | zero =>
      intro s3 s4 hn1
      cases hn1
    | succ n ih1 =>
      intro s3 s4 hn1 H locs ls hP hD hS hl
      obtain ⟨r6, hf, hn1⟩ := it1 hn1
      replace hf : f_X7_leastRest_L5 i1 x_solvedFor x_view_posts x_view_ahead x_prices x_rests s3 s4 = some r6 := hf
      unfold f_X7_leastRest_L5 at hf
      refine lv_iload_n hx hb dX7_leastRest_5 rfl (lv_at hl 3 rfl) ?_
      refine lv_aload_n hx hb dX7_leastRest_6 rfl (lv_at hl 0 rfl) ?_
      refine va_get (D := (dC, dI)) (ci := 6) (v := .ref q_view) (C := RX7) (T := TX7) (N := 9) hx hb htb inX7 hown hK hP 0 rfl rfl 0 (Nat.le_of_ble_eq_true rfl) (htb _ t_217) (u_same (htb _ t_218)) rfl dX7_leastRest_7 ?_
      refine va_get (D := (dC, dI)) (ci := 8) (v := .int x_view_posts) (C := RX9) (T := TX9) (N := 7) hx hb htb inX9 hown hK hP 1 rfl rfl 0 (Nat.le_of_ble_eq_true rfl) (htb _ t_73) (fun _ h9 => h9) rfl dX7_leastRest_10 ?_
      refine lv_icmp_ge (tgt := 56) hx hb dX7_leastRest_13 (by decide) (fun c7 => ?_) (fun c7 => ?_)
      · have hf := ip c7 hf
        cases hf
        cases (itr hn1)
        exact kx2 _ _ _ hP hD hS (lv_sub hl [2] rfl)
      · have hf := im c7 hf
        refine lv_iload_n hx hb dX7_leastRest_16 rfl (lv_at hl 1 rfl) ?_
        refine lv_iload_n hx hb dX7_leastRest_17 rfl (lv_at hl 3 rfl) ?_
        obtain ⟨v8, hv, hf⟩ := ob hf
        refine k_afterI (wr := [(q_, .inr (6, [.ref q_view, .ref q_costs, .int x_solvedFor, .int x_lowest, .int x_total, .int x_pricedFor, .ref q_prices, .ref q_rests, .ref q_ways])), (q_view, .inr (8, [.int x_view_posts, .int x_view_roads, .int x_view_weight, .ref q_view_weights, .ref q_view_near, .ref q_view_behind, .ref q_view_ahead])), (q_view_ahead, .inl (cI, 11, .inl x_view_ahead)), (q_costs, .inr (2, [.ref q_view])), (q_prices, .inl (cI, 2048, .inl x_prices)), (q_rests, .inl (cI, 2048, .inl x_rests))]) (wn := [(q_, .inr (6, [.ref q_view, .ref q_costs, .int x_solvedFor, .int x_lowest, .int x_total, .int x_pricedFor, .ref q_prices, .ref q_rests, .ref q_ways])), (q_view, .inr (8, [.int x_view_posts, .int x_view_roads, .int x_view_weight, .ref q_view_weights, .ref q_view_near, .ref q_view_behind, .ref q_view_ahead])), (q_view_ahead, .inl (cI, 11, .inl x_view_ahead)), (q_costs, .inr (2, [.ref q_view])), (q_prices, .inl (cI, 2048, .inl x_prices)), (q_rests, .inl (cI, 2048, .inl x_rests))]) (k_runSN (rest := []) (host := "NarrowRows") hx hb hml hown htb hK hN (c_X10_holds l dC dI cI cZ cN i1 s4 v8 hv _) sf_X10_holds nm_9 hP hD [] rfl rfl ⟨(Nat.le_of_ble_eq_true rfl), (Nat.le_of_ble_eq_true rfl)⟩ rfl hl.1 rfl (Nat.le_of_ble_eq_true rfl) dX7_leastRest_18 ⟨Nat.zero_le _, Nat.zero_le _⟩) hA hP hD hS [] [0, 1, 2, 3, 4, 5] [0, 1, 2, 3, 4, 5] rfl rfl rfl rfl ?_
        clear hP hD hS
        intro H locs hP hD hS
        obtain ⟨t9, hv, hf⟩ := ob hf
        have key10 : ∀ (H : Heap) (locs : List Loc) (ls : Array Slot), va_P (dC, dI) vwCl [(q_, .inr (6, [.ref q_view, .ref q_costs, .int x_solvedFor, .int x_lowest, .int x_total, .int x_pricedFor, .ref q_prices, .ref q_rests, .ref q_ways])), (q_view, .inr (8, [.int x_view_posts, .int x_view_roads, .int x_view_weight, .ref q_view_weights, .ref q_view_near, .ref q_view_behind, .ref q_view_ahead])), (q_view_ahead, .inl (cI, 11, .inl x_view_ahead)), (q_costs, .inr (2, [.ref q_view])), (q_prices, .inl (cI, 2048, .inl x_prices)), (q_rests, .inl (cI, 2048, .inl x_rests))] H → va_D A [(q_, .inr (6, [.ref q_view, .ref q_costs, .int x_solvedFor, .int x_lowest, .int x_total, .int x_pricedFor, .ref q_prices, .ref q_rests, .ref q_ways])), (q_view, .inr (8, [.int x_view_posts, .int x_view_roads, .int x_view_weight, .ref q_view_weights, .ref q_view_near, .ref q_view_behind, .ref q_view_ahead])), (q_view_ahead, .inl (cI, 11, .inl x_view_ahead)), (q_costs, .inr (2, [.ref q_view])), (q_prices, .inl (cI, 2048, .inl x_prices)), (q_rests, .inl (cI, 2048, .inl x_rests))] → va_S A s.heap H locs → lv_has ls 4 [(0, .ref q_), (1, .int i1), (2, .int t9), (3, .int s4)] → W p l e (rmK 4 104) s m args below meth c H locs 0 0 Q (F0 m 50 ls []) := by
          intro H locs ls hP hD hS hl
          refine lv_iinc (v := (s4 + (1 : Int32))) (lv' := [(3, .int (s4 + (1 : Int32))), (0, .ref q_), (1, .int i1), (2, .int t9)]) hx hb dX7_leastRest_50 hl (k := 3) rfl rfl (by decide) rfl (fun ls hl => ?_)
          refine lv_goto (tgt := 5) hx hb dX7_leastRest_53 (by decide) ?_
          cases hf
          exact ih1 _ _ (itl hn1) _ _ _ hP hD hS (lv_sub hl [1, 2, 3, 0] rfl)
        replace hf := hv
        refine lv_if_ne (tgt := 50) hx hb dX7_leastRest_21 (by decide) (fun c11 => ?_) (fun c11 => ?_)
        · have hf := im c11 hf
          cases hf
          exact key10 _ _ _ hP hD hS (lv_sub hl [0, 1, 2, 3] rfl)
        · have hf := ip c11 hf
          refine lv_aload_n hx hb dX7_leastRest_24 rfl (lv_at hl 0 rfl) ?_
          refine va_get (D := (dC, dI)) (ci := 6) (v := .ref q_view) (C := RX7) (T := TX7) (N := 9) hx hb htb inX7 hown hK hP 0 rfl rfl 0 (Nat.le_of_ble_eq_true rfl) (htb _ t_217) (u_same (htb _ t_218)) rfl dX7_leastRest_25 ?_
          refine lv_iload_n hx hb dX7_leastRest_28 rfl (lv_at hl 3 rfl) ?_
          refine lv_iload_n hx hb dX7_leastRest_29 rfl (lv_at hl 1 rfl) ?_
          obtain ⟨v12, hv, hf⟩ := ob hf
          refine k_afterI (wr := [(q_, .inr (6, [.ref q_view, .ref q_costs, .int x_solvedFor, .int x_lowest, .int x_total, .int x_pricedFor, .ref q_prices, .ref q_rests, .ref q_ways])), (q_costs, .inr (2, [.ref q_view])), (q_prices, .inl (cI, 2048, .inl x_prices)), (q_rests, .inl (cI, 2048, .inl x_rests))]) (wn := [(q_, .inr (6, [.ref q_view, .ref q_costs, .int x_solvedFor, .int x_lowest, .int x_total, .int x_pricedFor, .ref q_prices, .ref q_rests, .ref q_ways])), (q_view, .inr (8, [.int x_view_posts, .int x_view_roads, .int x_view_weight, .ref q_view_weights, .ref q_view_near, .ref q_view_behind, .ref q_view_ahead])), (q_view_ahead, .inl (cI, 11, .inl x_view_ahead)), (q_costs, .inr (2, [.ref q_view])), (q_prices, .inl (cI, 2048, .inl x_prices)), (q_rests, .inl (cI, 2048, .inl x_rests))]) (k_runV (rest := []) (ci := 8) (q0 := 1) hx hb hml hown htb hK hN (c_X9_mayFollow l dC dI cI cZ cN q_view q_view_weights q_view_near q_view_behind q_view_ahead x_view_posts x_view_roads x_view_weight x_view_ahead s4 i1 v12 hv _) vf_X9_mayFollow t_560 hP hD [1, 2] rfl rfl rfl rfl ⟨(Nat.le_of_ble_eq_true rfl), (Nat.le_of_ble_eq_true rfl)⟩ rfl hl.1 rfl (Nat.le_of_ble_eq_true rfl) dX7_leastRest_30 ⟨Nat.zero_le _, Nat.zero_le _⟩) hA hP hD hS [1, 2] [0, 3, 4, 5] [0, 4, 5, 1, 2, 3] rfl rfl rfl rfl ?_
          clear hP hD hS
          intro H locs hP hD hS
          refine lv_if_eq (tgt := 50) hx hb dX7_leastRest_33 (by decide) (fun c13 => ?_) (fun c13 => ?_)
          · have hf := ip c13 hf
            cases hf
            exact key10 _ _ _ hP hD hS (lv_sub hl [0, 1, 2, 3] rfl)
          · have hf := im c13 hf
            refine lv_iload_n hx hb dX7_leastRest_36 rfl (lv_at hl 2 rfl) ?_
            refine lv_aload_n hx hb dX7_leastRest_37 rfl (lv_at hl 0 rfl) ?_
            refine lv_iload_n hx hb dX7_leastRest_38 rfl (lv_at hl 1 rfl) ?_
            refine lv_iconst (v := (1 : Int32)) hx hb dX7_leastRest_39 (by decide) ?_
            refine lv_iload_n hx hb dX7_leastRest_40 rfl (lv_at hl 3 rfl) ?_
            refine lv_ishl hx hb dX7_leastRest_41 ?_
            refine lv_ior hx hb dX7_leastRest_42 ?_
            obtain ⟨v14, hv, hf⟩ := ob hf
            refine k_afterI (wr := [(q_view, .inr (8, [.int x_view_posts, .int x_view_roads, .int x_view_weight, .ref q_view_weights, .ref q_view_near, .ref q_view_behind, .ref q_view_ahead])), (q_view_ahead, .inl (cI, 11, .inl x_view_ahead))]) (wn := [(q_, .inr (6, [.ref q_view, .ref q_costs, .int x_solvedFor, .int x_lowest, .int x_total, .int x_pricedFor, .ref q_prices, .ref q_rests, .ref q_ways])), (q_view, .inr (8, [.int x_view_posts, .int x_view_roads, .int x_view_weight, .ref q_view_weights, .ref q_view_near, .ref q_view_behind, .ref q_view_ahead])), (q_view_ahead, .inl (cI, 11, .inl x_view_ahead)), (q_costs, .inr (2, [.ref q_view])), (q_prices, .inl (cI, 2048, .inl x_prices)), (q_rests, .inl (cI, 2048, .inl x_rests))]) (k_runV (rest := [.int s3]) (ci := 6) (q0 := 0) hx hb hml hown htb hK hN (c_X7_restWith l dC dI cI cZ cN q_ q_view q_costs q_prices q_rests q_ways x_solvedFor x_lowest x_total x_pricedFor x_prices x_rests (i1 ||| ((1 : Int32) <<< (s4 &&& 31))) v14 hv _) vf_X7_restWith t_561 hP hD [0, 3, 4, 5] rfl rfl rfl rfl ⟨(Nat.le_of_ble_eq_true rfl), (Nat.le_of_ble_eq_true rfl)⟩ rfl hl.1 rfl (Nat.le_of_ble_eq_true rfl) dX7_leastRest_43 ⟨Nat.zero_le _, Nat.zero_le _⟩) hA hP hD hS [0, 3, 4, 5] [1, 2] [2, 0, 1, 3, 4, 5] rfl rfl rfl rfl ?_
            clear hP hD hS
            intro H locs hP hD hS
            refine va_mmin hx hb (hml.trans hl.1.symm) hown (htb _ t_566) (htb _ t_486) (htb _ t_16) (htb _ t_487) (Nat.le_of_ble_eq_true rfl) (Nat.le_of_ble_eq_true rfl) (Nat.zero_le _) (Nat.zero_le _) dX7_leastRest_46 ?_
            refine lv_istore_n (lv' := [(2, .int (if v14 < s3 then v14 else s3)), (0, .ref q_), (1, .int i1), (3, .int s4)]) hx hb dX7_leastRest_49 rfl hl (by decide) rfl (fun ls hl => ?_)
            cases hf
            exact key10 _ _ _ hP hD hS (lv_sub hl [1, 2, 0, 3] rfl)
  exact kl5 n0 _ _ hn0 _ _ _ hP hD hS (lv_sub hl [2, 3, 1, 0] rfl)
theorem vf_X7_isBestStep : VF yX7_isBestStep cX7_isBestStep 4 (some .boolean) 2 := ⟨t_573, tp_9, t_11, t_574, by decide +kernel, by decide +kernel, by decide +kernel⟩
theorem dX7_isBestStep_0 : decode cX7_isBestStep 0 = .ok (.iload_n 1, 1) := by decide +kernel
theorem dX7_isBestStep_1 : decode cX7_isBestStep 1 = .ok (.iload_n 2, 1) := by decide +kernel
theorem dX7_isBestStep_2 : decode cX7_isBestStep 2 = .ok (.invokestatic 74, 3) := by decide +kernel
theorem dX7_isBestStep_5 : decode cX7_isBestStep 5 = .ok (.ifCond .ne 15, 3) := by decide +kernel
theorem dX7_isBestStep_8 : decode cX7_isBestStep 8 = .ok (.aload_n 0, 1) := by decide +kernel
theorem dX7_isBestStep_9 : decode cX7_isBestStep 9 = .ok (.getfield 33, 3) := by decide +kernel
theorem dX7_isBestStep_12 : decode cX7_isBestStep 12 = .ok (.iload_n 2, 1) := by decide +kernel
theorem dX7_isBestStep_13 : decode cX7_isBestStep 13 = .ok (.iload_n 1, 1) := by decide +kernel
theorem dX7_isBestStep_14 : decode cX7_isBestStep 14 = .ok (.invokevirtual 78, 3) := by decide +kernel
theorem dX7_isBestStep_17 : decode cX7_isBestStep 17 = .ok (.ifCond .ne 5, 3) := by decide +kernel
theorem dX7_isBestStep_20 : decode cX7_isBestStep 20 = .ok (.iconst 0, 1) := by decide +kernel
theorem dX7_isBestStep_21 : decode cX7_isBestStep 21 = .ok (.ireturn, 1) := by decide +kernel
theorem dX7_isBestStep_22 : decode cX7_isBestStep 22 = .ok (.aload_n 0, 1) := by decide +kernel
theorem dX7_isBestStep_23 : decode cX7_isBestStep 23 = .ok (.getfield 25, 3) := by decide +kernel
theorem dX7_isBestStep_26 : decode cX7_isBestStep 26 = .ok (.iconst 3, 1) := by decide +kernel
theorem dX7_isBestStep_27 : decode cX7_isBestStep 27 = .ok (.if_icmp .ne 12, 3) := by decide +kernel
theorem dX7_isBestStep_30 : decode cX7_isBestStep 30 = .ok (.aload_n 0, 1) := by decide +kernel
theorem dX7_isBestStep_31 : decode cX7_isBestStep 31 = .ok (.getfield 19, 3) := by decide +kernel
theorem dX7_isBestStep_34 : decode cX7_isBestStep 34 = .ok (.iload_n 1, 1) := by decide +kernel
theorem dX7_isBestStep_35 : decode cX7_isBestStep 35 = .ok (.iaload, 1) := by decide +kernel
theorem dX7_isBestStep_36 : decode cX7_isBestStep 36 = .ok (.goto 9, 3) := by decide +kernel
theorem dX7_isBestStep_39 : decode cX7_isBestStep 39 = .ok (.aload_n 0, 1) := by decide +kernel
theorem dX7_isBestStep_40 : decode cX7_isBestStep 40 = .ok (.getfield 19, 3) := by decide +kernel
theorem dX7_isBestStep_43 : decode cX7_isBestStep 43 = .ok (.iconst 0, 1) := by decide +kernel
theorem dX7_isBestStep_44 : decode cX7_isBestStep 44 = .ok (.iaload, 1) := by decide +kernel
theorem dX7_isBestStep_45 : decode cX7_isBestStep 45 = .ok (.istore_n 3, 1) := by decide +kernel
theorem dX7_isBestStep_46 : decode cX7_isBestStep 46 = .ok (.aload_n 0, 1) := by decide +kernel
theorem dX7_isBestStep_47 : decode cX7_isBestStep 47 = .ok (.iload_n 1, 1) := by decide +kernel
theorem dX7_isBestStep_48 : decode cX7_isBestStep 48 = .ok (.iconst 1, 1) := by decide +kernel
theorem dX7_isBestStep_49 : decode cX7_isBestStep 49 = .ok (.iload_n 2, 1) := by decide +kernel
theorem dX7_isBestStep_50 : decode cX7_isBestStep 50 = .ok (.ishl, 1) := by decide +kernel
theorem dX7_isBestStep_51 : decode cX7_isBestStep 51 = .ok (.ior, 1) := by decide +kernel
theorem dX7_isBestStep_52 : decode cX7_isBestStep 52 = .ok (.invokevirtual 81, 3) := by decide +kernel
theorem dX7_isBestStep_55 : decode cX7_isBestStep 55 = .ok (.iload_n 3, 1) := by decide +kernel
theorem dX7_isBestStep_56 : decode cX7_isBestStep 56 = .ok (.if_icmp .gt 7, 3) := by decide +kernel
theorem dX7_isBestStep_59 : decode cX7_isBestStep 59 = .ok (.iconst 1, 1) := by decide +kernel
theorem dX7_isBestStep_60 : decode cX7_isBestStep 60 = .ok (.goto 4, 3) := by decide +kernel
theorem dX7_isBestStep_63 : decode cX7_isBestStep 63 = .ok (.iconst 0, 1) := by decide +kernel
theorem dX7_isBestStep_64 : decode cX7_isBestStep 64 = .ok (.ireturn, 1) := by decide +kernel
noncomputable def f_X7_isBestStep (x_solvedFor : Int32) (x_view_ahead : Nat → Int32) (x_prices : Nat → Int32) (x_rests : Nat → Int32) (i1 : Int32) (i2 : Int32) : Option (Int32) :=
  (f_X10_holds i1 i2).bind fun v1 =>
  if v1 = 0 then ((f_X9_mayFollow x_view_ahead i2 i1).bind fun v3 =>
  if v3 = 0 then (some ((0 : Int32))) else (((if x_solvedFor = (3 : Int32) then ((gi x_rests 2048 i1).bind fun v11 =>
  some v11) else ((gi x_rests 2048 (0 : Int32)).bind fun v10 =>
  some v10) : Option (Int32))).bind fun t5 =>
  (f_X7_restWith x_solvedFor x_prices x_rests (i1 ||| ((1 : Int32) <<< (i2 &&& 31)))).bind fun v7 =>
  if t5 < v7 then (some ((0 : Int32))) else (some ((1 : Int32))))) else (some ((0 : Int32)))
set_option maxHeartbeats 4000000 in
set_option maxRecDepth 100000 in
theorem c_X7_isBestStep (l : Launch) (dC : Nat → ClassId) (dI : Nat → Nat → Nat) (cI cZ cN : ClassId) (q_ : Nat) (q_view : Nat) (q_costs : Nat) (q_prices : Nat) (q_rests : Nat) (q_ways : Nat) (q_view_weights : Nat) (q_view_near : Nat) (q_view_behind : Nat) (q_view_ahead : Nat) (x_solvedFor : Int32) (x_lowest : Int32) (x_total : Int32) (x_pricedFor : Int32) (x_view_posts : Int32) (x_view_roads : Int32) (x_view_weight : Int32) (x_view_ahead : Nat → Int32) (x_prices : Nat → Int32) (x_rests : Nat → Int32) (i1 i2 : Int32) (r : Int32) (hf : f_X7_isBestStep x_solvedFor x_view_ahead x_prices x_rests i1 i2 = some r) : CI l yX7_isBestStep cX7_isBestStep 4 (some .boolean) 4 104 (dC, dI) (TY cI cZ cN) [.ref q_, .int i1, .int i2] [(q_, .inr (6, [.ref q_view, .ref q_costs, .int x_solvedFor, .int x_lowest, .int x_total, .int x_pricedFor, .ref q_prices, .ref q_rests, .ref q_ways])), (q_view, .inr (8, [.int x_view_posts, .int x_view_roads, .int x_view_weight, .ref q_view_weights, .ref q_view_near, .ref q_view_behind, .ref q_view_ahead])), (q_view_ahead, .inl (cI, 11, .inl x_view_ahead)), (q_costs, .inr (2, [.ref q_view])), (q_prices, .inl (cI, 2048, .inl x_prices)), (q_rests, .inl (cI, 2048, .inl x_rests))] [(q_, .inr (6, [.ref q_view, .ref q_costs, .int x_solvedFor, .int x_lowest, .int x_total, .int x_pricedFor, .ref q_prices, .ref q_rests, .ref q_ways])), (q_view, .inr (8, [.int x_view_posts, .int x_view_roads, .int x_view_weight, .ref q_view_weights, .ref q_view_near, .ref q_view_behind, .ref q_view_ahead])), (q_view_ahead, .inl (cI, 11, .inl x_view_ahead)), (q_costs, .inr (2, [.ref q_view])), (q_prices, .inl (cI, 2048, .inl x_prices)), (q_rests, .inl (cI, 2048, .inl x_rests))] r := by
  refine CI.of rfl (by decide) (Nat.le_of_ble_eq_true rfl) ?_
  intro p e s m args below meth c Q A ls hx hb hml hown htb hK hN hA hP hD hS hl hret
  have hown : s.vm.findClass RX7 = some m.cls := hown
  have hl : lv_has ls 4 [(0, .ref q_), (1, .int i1), (2, .int i2)] := hl
  have hret : ∀ (r9 : Int32), some r9 = some r → ∀ (H : Heap) (locs : List Loc) (pc : Nat) (ls : Array Slot), narrow .boolean (.int r9) = .int r9 → decode cX7_isBestStep pc = .ok (.ireturn, 1) → va_P (dC, dI) vwCl [(q_, .inr (6, [.ref q_view, .ref q_costs, .int x_solvedFor, .int x_lowest, .int x_total, .int x_pricedFor, .ref q_prices, .ref q_rests, .ref q_ways])), (q_view, .inr (8, [.int x_view_posts, .int x_view_roads, .int x_view_weight, .ref q_view_weights, .ref q_view_near, .ref q_view_behind, .ref q_view_ahead])), (q_view_ahead, .inl (cI, 11, .inl x_view_ahead)), (q_costs, .inr (2, [.ref q_view])), (q_prices, .inl (cI, 2048, .inl x_prices)), (q_rests, .inl (cI, 2048, .inl x_rests))] H → va_D A [(q_, .inr (6, [.ref q_view, .ref q_costs, .int x_solvedFor, .int x_lowest, .int x_total, .int x_pricedFor, .ref q_prices, .ref q_rests, .ref q_ways])), (q_view, .inr (8, [.int x_view_posts, .int x_view_roads, .int x_view_weight, .ref q_view_weights, .ref q_view_near, .ref q_view_behind, .ref q_view_ahead])), (q_view_ahead, .inl (cI, 11, .inl x_view_ahead)), (q_costs, .inr (2, [.ref q_view])), (q_prices, .inl (cI, 2048, .inl x_prices)), (q_rests, .inl (cI, 2048, .inl x_rests))] → va_S A s.heap H locs → W p l e (rmK 4 104) s m args below meth c H locs 0 0 Q (F0 m pc ls [.int r9]) := by
    intro r9 h9
    cases h9
    exact hret
  unfold f_X7_isBestStep at hf
  refine lv_iload_n hx hb dX7_isBestStep_0 rfl (lv_at hl 1 rfl) ?_
  refine lv_iload_n hx hb dX7_isBestStep_1 rfl (lv_at hl 2 rfl) ?_
  obtain ⟨v1, hv, hf⟩ := ob hf
  refine k_afterI (wr := [(q_, .inr (6, [.ref q_view, .ref q_costs, .int x_solvedFor, .int x_lowest, .int x_total, .int x_pricedFor, .ref q_prices, .ref q_rests, .ref q_ways])), (q_view, .inr (8, [.int x_view_posts, .int x_view_roads, .int x_view_weight, .ref q_view_weights, .ref q_view_near, .ref q_view_behind, .ref q_view_ahead])), (q_view_ahead, .inl (cI, 11, .inl x_view_ahead)), (q_costs, .inr (2, [.ref q_view])), (q_prices, .inl (cI, 2048, .inl x_prices)), (q_rests, .inl (cI, 2048, .inl x_rests))]) (wn := [(q_, .inr (6, [.ref q_view, .ref q_costs, .int x_solvedFor, .int x_lowest, .int x_total, .int x_pricedFor, .ref q_prices, .ref q_rests, .ref q_ways])), (q_view, .inr (8, [.int x_view_posts, .int x_view_roads, .int x_view_weight, .ref q_view_weights, .ref q_view_near, .ref q_view_behind, .ref q_view_ahead])), (q_view_ahead, .inl (cI, 11, .inl x_view_ahead)), (q_costs, .inr (2, [.ref q_view])), (q_prices, .inl (cI, 2048, .inl x_prices)), (q_rests, .inl (cI, 2048, .inl x_rests))]) (k_runSN (rest := []) (host := "NarrowRows") hx hb hml hown htb hK hN (c_X10_holds l dC dI cI cZ cN i1 i2 v1 hv _) sf_X10_holds nm_9 hP hD [] rfl rfl ⟨(Nat.le_of_ble_eq_true rfl), (Nat.le_of_ble_eq_true rfl)⟩ rfl hl.1 rfl (Nat.le_of_ble_eq_true rfl) dX7_isBestStep_2 ⟨Nat.zero_le _, Nat.zero_le _⟩) hA hP hD hS [] [0, 1, 2, 3, 4, 5] [0, 1, 2, 3, 4, 5] rfl rfl rfl rfl ?_
  clear hP hD hS
  intro H locs hP hD hS
  refine lv_if_ne (tgt := 20) hx hb dX7_isBestStep_5 (by decide) (fun c2 => ?_) (fun c2 => ?_)
  · have hf := im c2 hf
    refine lv_iconst (v := (0 : Int32)) hx hb dX7_isBestStep_20 (by decide) ?_
    exact hret _ hf _ _ _ _ rfl dX7_isBestStep_21 hP hD hS
  · have hf := ip c2 hf
    refine lv_aload_n hx hb dX7_isBestStep_8 rfl (lv_at hl 0 rfl) ?_
    refine va_get (D := (dC, dI)) (ci := 6) (v := .ref q_view) (C := RX7) (T := TX7) (N := 9) hx hb htb inX7 hown hK hP 0 rfl rfl 0 (Nat.le_of_ble_eq_true rfl) (htb _ t_217) (u_same (htb _ t_218)) rfl dX7_isBestStep_9 ?_
    refine lv_iload_n hx hb dX7_isBestStep_12 rfl (lv_at hl 2 rfl) ?_
    refine lv_iload_n hx hb dX7_isBestStep_13 rfl (lv_at hl 1 rfl) ?_
    obtain ⟨v3, hv, hf⟩ := ob hf
    refine k_afterI (wr := [(q_, .inr (6, [.ref q_view, .ref q_costs, .int x_solvedFor, .int x_lowest, .int x_total, .int x_pricedFor, .ref q_prices, .ref q_rests, .ref q_ways])), (q_costs, .inr (2, [.ref q_view])), (q_prices, .inl (cI, 2048, .inl x_prices)), (q_rests, .inl (cI, 2048, .inl x_rests))]) (wn := [(q_, .inr (6, [.ref q_view, .ref q_costs, .int x_solvedFor, .int x_lowest, .int x_total, .int x_pricedFor, .ref q_prices, .ref q_rests, .ref q_ways])), (q_view, .inr (8, [.int x_view_posts, .int x_view_roads, .int x_view_weight, .ref q_view_weights, .ref q_view_near, .ref q_view_behind, .ref q_view_ahead])), (q_view_ahead, .inl (cI, 11, .inl x_view_ahead)), (q_costs, .inr (2, [.ref q_view])), (q_prices, .inl (cI, 2048, .inl x_prices)), (q_rests, .inl (cI, 2048, .inl x_rests))]) (k_runV (rest := []) (ci := 8) (q0 := 1) hx hb hml hown htb hK hN (c_X9_mayFollow l dC dI cI cZ cN q_view q_view_weights q_view_near q_view_behind q_view_ahead x_view_posts x_view_roads x_view_weight x_view_ahead i2 i1 v3 hv _) vf_X9_mayFollow t_560 hP hD [1, 2] rfl rfl rfl rfl ⟨(Nat.le_of_ble_eq_true rfl), (Nat.le_of_ble_eq_true rfl)⟩ rfl hl.1 rfl (Nat.le_of_ble_eq_true rfl) dX7_isBestStep_14 ⟨Nat.zero_le _, Nat.zero_le _⟩) hA hP hD hS [1, 2] [0, 3, 4, 5] [0, 4, 5, 1, 2, 3] rfl rfl rfl rfl ?_
    clear hP hD hS
    intro H locs hP hD hS
    refine lv_if_ne (tgt := 22) hx hb dX7_isBestStep_17 (by decide) (fun c4 => ?_) (fun c4 => ?_)
    · have hf := im c4 hf
      refine lv_aload_n hx hb dX7_isBestStep_22 rfl (lv_at hl 0 rfl) ?_
      refine va_get (D := (dC, dI)) (ci := 6) (v := .int x_solvedFor) (C := RX7) (T := TX7) (N := 9) hx hb htb inX7 hown hK hP 0 rfl rfl 2 (Nat.le_of_ble_eq_true rfl) (htb _ t_227) (u_same (htb _ t_228)) rfl dX7_isBestStep_23 ?_
      refine lv_iconst (v := (3 : Int32)) hx hb dX7_isBestStep_26 (by decide) ?_
      obtain ⟨t5, hv, hf⟩ := ob hf
      have key6 : ∀ (H : Heap) (locs : List Loc) (ls : Array Slot), va_P (dC, dI) vwCl [(q_, .inr (6, [.ref q_view, .ref q_costs, .int x_solvedFor, .int x_lowest, .int x_total, .int x_pricedFor, .ref q_prices, .ref q_rests, .ref q_ways])), (q_view, .inr (8, [.int x_view_posts, .int x_view_roads, .int x_view_weight, .ref q_view_weights, .ref q_view_near, .ref q_view_behind, .ref q_view_ahead])), (q_view_ahead, .inl (cI, 11, .inl x_view_ahead)), (q_costs, .inr (2, [.ref q_view])), (q_prices, .inl (cI, 2048, .inl x_prices)), (q_rests, .inl (cI, 2048, .inl x_rests))] H → va_D A [(q_, .inr (6, [.ref q_view, .ref q_costs, .int x_solvedFor, .int x_lowest, .int x_total, .int x_pricedFor, .ref q_prices, .ref q_rests, .ref q_ways])), (q_view, .inr (8, [.int x_view_posts, .int x_view_roads, .int x_view_weight, .ref q_view_weights, .ref q_view_near, .ref q_view_behind, .ref q_view_ahead])), (q_view_ahead, .inl (cI, 11, .inl x_view_ahead)), (q_costs, .inr (2, [.ref q_view])), (q_prices, .inl (cI, 2048, .inl x_prices)), (q_rests, .inl (cI, 2048, .inl x_rests))] → va_S A s.heap H locs → lv_has ls 4 [(0, .ref q_), (1, .int i1), (2, .int i2)] → W p l e (rmK 4 104) s m args below meth c H locs 0 0 Q (F0 m 45 ls [.int t5]) := by
        intro H locs ls hP hD hS hl
        refine lv_istore_n (lv' := [(3, .int t5), (0, .ref q_), (1, .int i1), (2, .int i2)]) hx hb dX7_isBestStep_45 rfl hl (by decide) rfl (fun ls hl => ?_)
        refine lv_aload_n hx hb dX7_isBestStep_46 rfl (lv_at hl 1 rfl) ?_
        refine lv_iload_n hx hb dX7_isBestStep_47 rfl (lv_at hl 2 rfl) ?_
        refine lv_iconst (v := (1 : Int32)) hx hb dX7_isBestStep_48 (by decide) ?_
        refine lv_iload_n hx hb dX7_isBestStep_49 rfl (lv_at hl 3 rfl) ?_
        refine lv_ishl hx hb dX7_isBestStep_50 ?_
        refine lv_ior hx hb dX7_isBestStep_51 ?_
        obtain ⟨v7, hv, hf⟩ := ob hf
        refine k_afterI (wr := [(q_view, .inr (8, [.int x_view_posts, .int x_view_roads, .int x_view_weight, .ref q_view_weights, .ref q_view_near, .ref q_view_behind, .ref q_view_ahead])), (q_view_ahead, .inl (cI, 11, .inl x_view_ahead))]) (wn := [(q_, .inr (6, [.ref q_view, .ref q_costs, .int x_solvedFor, .int x_lowest, .int x_total, .int x_pricedFor, .ref q_prices, .ref q_rests, .ref q_ways])), (q_view, .inr (8, [.int x_view_posts, .int x_view_roads, .int x_view_weight, .ref q_view_weights, .ref q_view_near, .ref q_view_behind, .ref q_view_ahead])), (q_view_ahead, .inl (cI, 11, .inl x_view_ahead)), (q_costs, .inr (2, [.ref q_view])), (q_prices, .inl (cI, 2048, .inl x_prices)), (q_rests, .inl (cI, 2048, .inl x_rests))]) (k_runV (rest := []) (ci := 6) (q0 := 0) hx hb hml hown htb hK hN (c_X7_restWith l dC dI cI cZ cN q_ q_view q_costs q_prices q_rests q_ways x_solvedFor x_lowest x_total x_pricedFor x_prices x_rests (i1 ||| ((1 : Int32) <<< (i2 &&& 31))) v7 hv _) vf_X7_restWith t_561 hP hD [0, 3, 4, 5] rfl rfl rfl rfl ⟨(Nat.le_of_ble_eq_true rfl), (Nat.le_of_ble_eq_true rfl)⟩ rfl hl.1 rfl (Nat.le_of_ble_eq_true rfl) dX7_isBestStep_52 ⟨Nat.zero_le _, Nat.zero_le _⟩) hA hP hD hS [0, 3, 4, 5] [1, 2] [2, 0, 1, 3, 4, 5] rfl rfl rfl rfl ?_
        clear hP hD hS
        intro H locs hP hD hS
        refine lv_iload_n hx hb dX7_isBestStep_55 rfl (lv_at hl 0 rfl) ?_
        refine lv_icmp_gt (tgt := 63) hx hb dX7_isBestStep_56 (by decide) (fun c8 => ?_) (fun c8 => ?_)
        · have hf := ip c8 hf
          refine lv_iconst (v := (0 : Int32)) hx hb dX7_isBestStep_63 (by decide) ?_
          exact hret _ hf _ _ _ _ rfl dX7_isBestStep_64 hP hD hS
        · have hf := im c8 hf
          refine lv_iconst (v := (1 : Int32)) hx hb dX7_isBestStep_59 (by decide) ?_
          refine lv_goto (tgt := 64) hx hb dX7_isBestStep_60 (by decide) ?_
          exact hret _ hf _ _ _ _ rfl dX7_isBestStep_64 hP hD hS
      replace hf := hv
      refine lv_icmp_ne (tgt := 39) hx hb dX7_isBestStep_27 (by decide) (fun c9 => ?_) (fun c9 => ?_)
      · have hf := im c9 hf
        refine lv_aload_n hx hb dX7_isBestStep_39 rfl (lv_at hl 0 rfl) ?_
        refine va_get (D := (dC, dI)) (ci := 6) (v := .ref q_rests) (C := RX7) (T := TX7) (N := 9) hx hb htb inX7 hown hK hP 0 rfl rfl 7 (Nat.le_of_ble_eq_true rfl) (htb _ t_212) (fun _ h9 => h9) rfl dX7_isBestStep_40 ?_
        refine lv_iconst (v := (0 : Int32)) hx hb dX7_isBestStep_43 (by decide) ?_
        obtain ⟨v10, hv, hf⟩ := ob hf
        refine k_iald hx hb hK hP 5 0 rfl rfl hv dX7_isBestStep_44 ?_
        cases hf
        exact key6 _ _ _ hP hD hS (lv_sub hl [0, 1, 2] rfl)
      · have hf := ip c9 hf
        refine lv_aload_n hx hb dX7_isBestStep_30 rfl (lv_at hl 0 rfl) ?_
        refine va_get (D := (dC, dI)) (ci := 6) (v := .ref q_rests) (C := RX7) (T := TX7) (N := 9) hx hb htb inX7 hown hK hP 0 rfl rfl 7 (Nat.le_of_ble_eq_true rfl) (htb _ t_212) (fun _ h9 => h9) rfl dX7_isBestStep_31 ?_
        refine lv_iload_n hx hb dX7_isBestStep_34 rfl (lv_at hl 1 rfl) ?_
        obtain ⟨v11, hv, hf⟩ := ob hf
        refine k_iald hx hb hK hP 5 0 rfl rfl hv dX7_isBestStep_35 ?_
        refine lv_goto (tgt := 45) hx hb dX7_isBestStep_36 (by decide) ?_
        cases hf
        exact key6 _ _ _ hP hD hS (lv_sub hl [0, 1, 2] rfl)
    · have hf := ip c4 hf
      refine lv_iconst (v := (0 : Int32)) hx hb dX7_isBestStep_20 (by decide) ?_
      exact hret _ hf _ _ _ _ rfl dX7_isBestStep_21 hP hD hS
theorem vf_X7_waysOn : VF yX7_waysOn cX7_waysOn 4 (some .int) 1 := ⟨t_569, tp_8, t_11, t_570, by decide +kernel, by decide +kernel, by decide +kernel⟩
theorem dX7_waysOn_0 : decode cX7_waysOn 0 = .ok (.iconst 0, 1) := by decide +kernel
theorem dX7_waysOn_1 : decode cX7_waysOn 1 = .ok (.istore_n 2, 1) := by decide +kernel
theorem dX7_waysOn_2 : decode cX7_waysOn 2 = .ok (.iconst 0, 1) := by decide +kernel
theorem dX7_waysOn_3 : decode cX7_waysOn 3 = .ok (.istore_n 3, 1) := by decide +kernel
theorem dX7_waysOn_4 : decode cX7_waysOn 4 = .ok (.iload_n 3, 1) := by decide +kernel
theorem dX7_waysOn_5 : decode cX7_waysOn 5 = .ok (.aload_n 0, 1) := by decide +kernel
theorem dX7_waysOn_6 : decode cX7_waysOn 6 = .ok (.getfield 33, 3) := by decide +kernel
theorem dX7_waysOn_9 : decode cX7_waysOn 9 = .ok (.getfield 37, 3) := by decide +kernel
theorem dX7_waysOn_12 : decode cX7_waysOn 12 = .ok (.if_icmp .ge 31, 3) := by decide +kernel
theorem dX7_waysOn_15 : decode cX7_waysOn 15 = .ok (.aload_n 0, 1) := by decide +kernel
theorem dX7_waysOn_16 : decode cX7_waysOn 16 = .ok (.iload_n 1, 1) := by decide +kernel
theorem dX7_waysOn_17 : decode cX7_waysOn 17 = .ok (.iload_n 3, 1) := by decide +kernel
theorem dX7_waysOn_18 : decode cX7_waysOn 18 = .ok (.invokevirtual 89, 3) := by decide +kernel
theorem dX7_waysOn_21 : decode cX7_waysOn 21 = .ok (.ifCond .eq 16, 3) := by decide +kernel
theorem dX7_waysOn_24 : decode cX7_waysOn 24 = .ok (.iload_n 2, 1) := by decide +kernel
theorem dX7_waysOn_25 : decode cX7_waysOn 25 = .ok (.aload_n 0, 1) := by decide +kernel
theorem dX7_waysOn_26 : decode cX7_waysOn 26 = .ok (.getfield 22, 3) := by decide +kernel
theorem dX7_waysOn_29 : decode cX7_waysOn 29 = .ok (.iload_n 1, 1) := by decide +kernel
theorem dX7_waysOn_30 : decode cX7_waysOn 30 = .ok (.iconst 1, 1) := by decide +kernel
theorem dX7_waysOn_31 : decode cX7_waysOn 31 = .ok (.iload_n 3, 1) := by decide +kernel
theorem dX7_waysOn_32 : decode cX7_waysOn 32 = .ok (.ishl, 1) := by decide +kernel
theorem dX7_waysOn_33 : decode cX7_waysOn 33 = .ok (.ior, 1) := by decide +kernel
theorem dX7_waysOn_34 : decode cX7_waysOn 34 = .ok (.iaload, 1) := by decide +kernel
theorem dX7_waysOn_35 : decode cX7_waysOn 35 = .ok (.iadd, 1) := by decide +kernel
theorem dX7_waysOn_36 : decode cX7_waysOn 36 = .ok (.istore_n 2, 1) := by decide +kernel
theorem dX7_waysOn_37 : decode cX7_waysOn 37 = .ok (.iinc 3 1, 3) := by decide +kernel
theorem dX7_waysOn_40 : decode cX7_waysOn 40 = .ok (.goto (-36), 3) := by decide +kernel
theorem dX7_waysOn_43 : decode cX7_waysOn 43 = .ok (.iload_n 2, 1) := by decide +kernel
theorem dX7_waysOn_44 : decode cX7_waysOn 44 = .ok (.ireturn, 1) := by decide +kernel
noncomputable def f_X7_waysOn_L4 (i1 : Int32) (x_solvedFor : Int32) (x_view_posts : Int32) (x_view_ahead : Nat → Int32) (x_prices : Nat → Int32) (x_rests : Nat → Int32) (x_ways : Nat → Int32) (i2 : Int32) (i3 : Int32) : Option ((Int32 × Int32) ⊕ (Int32)) :=
  if x_view_posts ≤ i3 then (some (.inr i2)) else ((f_X7_isBestStep x_solvedFor x_view_ahead x_prices x_rests i1 i3).bind fun v2 =>
  ((if v2 = 0 then (some i2) else ((gi x_ways 2048 (i1 ||| ((1 : Int32) <<< (i3 &&& 31)))).bind fun v6 =>
  some (i2 + v6)) : Option (Int32))).bind fun t3 =>
  some (.inl (t3, (i3 + (1 : Int32)))))
noncomputable def f_X7_waysOn (x_solvedFor : Int32) (x_view_posts : Int32) (x_view_ahead : Nat → Int32) (x_prices : Nat → Int32) (x_rests : Nat → Int32) (x_ways : Nat → Int32) (i1 : Int32) : Option (Int32) :=
  (loopS (fun (s : Int32 × Int32) => f_X7_waysOn_L4 i1 x_solvedFor x_view_posts x_view_ahead x_prices x_rests x_ways s.1 s.2) ((0 : Int32), (0 : Int32))).bind fun x1 =>
  some (x1)
set_option maxHeartbeats 4000000 in
set_option maxRecDepth 100000 in
theorem c_X7_waysOn (l : Launch) (dC : Nat → ClassId) (dI : Nat → Nat → Nat) (cI cZ cN : ClassId) (q_ : Nat) (q_view : Nat) (q_costs : Nat) (q_prices : Nat) (q_rests : Nat) (q_ways : Nat) (q_view_weights : Nat) (q_view_near : Nat) (q_view_behind : Nat) (q_view_ahead : Nat) (x_solvedFor : Int32) (x_lowest : Int32) (x_total : Int32) (x_pricedFor : Int32) (x_view_posts : Int32) (x_view_roads : Int32) (x_view_weight : Int32) (x_view_ahead : Nat → Int32) (x_prices : Nat → Int32) (x_rests : Nat → Int32) (x_ways : Nat → Int32) (i1 : Int32) (r : Int32) (hf : f_X7_waysOn x_solvedFor x_view_posts x_view_ahead x_prices x_rests x_ways i1 = some r) : CI l yX7_waysOn cX7_waysOn 4 (some .int) 5 127 (dC, dI) (TY cI cZ cN) [.ref q_, .int i1] [(q_, .inr (6, [.ref q_view, .ref q_costs, .int x_solvedFor, .int x_lowest, .int x_total, .int x_pricedFor, .ref q_prices, .ref q_rests, .ref q_ways])), (q_view, .inr (8, [.int x_view_posts, .int x_view_roads, .int x_view_weight, .ref q_view_weights, .ref q_view_near, .ref q_view_behind, .ref q_view_ahead])), (q_view_ahead, .inl (cI, 11, .inl x_view_ahead)), (q_costs, .inr (2, [.ref q_view])), (q_prices, .inl (cI, 2048, .inl x_prices)), (q_rests, .inl (cI, 2048, .inl x_rests)), (q_ways, .inl (cI, 2048, .inl x_ways))] [(q_, .inr (6, [.ref q_view, .ref q_costs, .int x_solvedFor, .int x_lowest, .int x_total, .int x_pricedFor, .ref q_prices, .ref q_rests, .ref q_ways])), (q_view, .inr (8, [.int x_view_posts, .int x_view_roads, .int x_view_weight, .ref q_view_weights, .ref q_view_near, .ref q_view_behind, .ref q_view_ahead])), (q_view_ahead, .inl (cI, 11, .inl x_view_ahead)), (q_costs, .inr (2, [.ref q_view])), (q_prices, .inl (cI, 2048, .inl x_prices)), (q_rests, .inl (cI, 2048, .inl x_rests)), (q_ways, .inl (cI, 2048, .inl x_ways))] r := by
  refine CI.of rfl (by decide) (Nat.le_of_ble_eq_true rfl) ?_
  intro p e s m args below meth c Q A ls hx hb hml hown htb hK hN hA hP hD hS hl hret
  have hown : s.vm.findClass RX7 = some m.cls := hown
  have hl : lv_has ls 4 [(0, .ref q_), (1, .int i1)] := hl
  have hret : ∀ (r9 : Int32), some r9 = some r → ∀ (H : Heap) (locs : List Loc) (pc : Nat) (ls : Array Slot), narrow .int (.int r9) = .int r9 → decode cX7_waysOn pc = .ok (.ireturn, 1) → va_P (dC, dI) vwCl [(q_, .inr (6, [.ref q_view, .ref q_costs, .int x_solvedFor, .int x_lowest, .int x_total, .int x_pricedFor, .ref q_prices, .ref q_rests, .ref q_ways])), (q_view, .inr (8, [.int x_view_posts, .int x_view_roads, .int x_view_weight, .ref q_view_weights, .ref q_view_near, .ref q_view_behind, .ref q_view_ahead])), (q_view_ahead, .inl (cI, 11, .inl x_view_ahead)), (q_costs, .inr (2, [.ref q_view])), (q_prices, .inl (cI, 2048, .inl x_prices)), (q_rests, .inl (cI, 2048, .inl x_rests)), (q_ways, .inl (cI, 2048, .inl x_ways))] H → va_D A [(q_, .inr (6, [.ref q_view, .ref q_costs, .int x_solvedFor, .int x_lowest, .int x_total, .int x_pricedFor, .ref q_prices, .ref q_rests, .ref q_ways])), (q_view, .inr (8, [.int x_view_posts, .int x_view_roads, .int x_view_weight, .ref q_view_weights, .ref q_view_near, .ref q_view_behind, .ref q_view_ahead])), (q_view_ahead, .inl (cI, 11, .inl x_view_ahead)), (q_costs, .inr (2, [.ref q_view])), (q_prices, .inl (cI, 2048, .inl x_prices)), (q_rests, .inl (cI, 2048, .inl x_rests)), (q_ways, .inl (cI, 2048, .inl x_ways))] → va_S A s.heap H locs → W p l e (rmK 5 127) s m args below meth c H locs 0 0 Q (F0 m pc ls [.int r9]) := by
    intro r9 h9
    cases h9
    exact hret
  unfold f_X7_waysOn at hf
  refine lv_iconst (v := (0 : Int32)) hx hb dX7_waysOn_0 (by decide) ?_
  refine lv_istore_n (lv' := [(2, .int (0 : Int32)), (0, .ref q_), (1, .int i1)]) hx hb dX7_waysOn_1 rfl hl (by decide) rfl (fun ls hl => ?_)
  refine lv_iconst (v := (0 : Int32)) hx hb dX7_waysOn_2 (by decide) ?_
  refine lv_istore_n (lv' := [(3, .int (0 : Int32)), (2, .int (0 : Int32)), (0, .ref q_), (1, .int i1)]) hx hb dX7_waysOn_3 rfl hl (by decide) rfl (fun ls hl => ?_)
  obtain ⟨x1, hL, hf⟩ := ob hf
  have kx2 : ∀ (H : Heap) (locs : List Loc) (ls : Array Slot), va_P (dC, dI) vwCl [(q_, .inr (6, [.ref q_view, .ref q_costs, .int x_solvedFor, .int x_lowest, .int x_total, .int x_pricedFor, .ref q_prices, .ref q_rests, .ref q_ways])), (q_view, .inr (8, [.int x_view_posts, .int x_view_roads, .int x_view_weight, .ref q_view_weights, .ref q_view_near, .ref q_view_behind, .ref q_view_ahead])), (q_view_ahead, .inl (cI, 11, .inl x_view_ahead)), (q_costs, .inr (2, [.ref q_view])), (q_prices, .inl (cI, 2048, .inl x_prices)), (q_rests, .inl (cI, 2048, .inl x_rests)), (q_ways, .inl (cI, 2048, .inl x_ways))] H → va_D A [(q_, .inr (6, [.ref q_view, .ref q_costs, .int x_solvedFor, .int x_lowest, .int x_total, .int x_pricedFor, .ref q_prices, .ref q_rests, .ref q_ways])), (q_view, .inr (8, [.int x_view_posts, .int x_view_roads, .int x_view_weight, .ref q_view_weights, .ref q_view_near, .ref q_view_behind, .ref q_view_ahead])), (q_view_ahead, .inl (cI, 11, .inl x_view_ahead)), (q_costs, .inr (2, [.ref q_view])), (q_prices, .inl (cI, 2048, .inl x_prices)), (q_rests, .inl (cI, 2048, .inl x_rests)), (q_ways, .inl (cI, 2048, .inl x_ways))] → va_S A s.heap H locs → lv_has ls 4 [(2, .int x1)] → W p l e (rmK 5 127) s m args below meth c H locs 0 0 Q (F0 m 43 ls []) := by
    intro H locs ls hP hD hS hl
    refine lv_iload_n hx hb dX7_waysOn_43 rfl (lv_at hl 0 rfl) ?_
    exact hret _ hf _ _ _ _ rfl dX7_waysOn_44 hP hD hS
  obtain ⟨n0, hn0⟩ := loopS_iter hL
  clear hf
  have kl5 : ∀ (n : Nat) (s3 : Int32) (s4 : Int32), iterS (fun (s : Int32 × Int32) => f_X7_waysOn_L4 i1 x_solvedFor x_view_posts x_view_ahead x_prices x_rests x_ways s.1 s.2) n (s3, s4) = some x1 → ∀ (H : Heap) (locs : List Loc) (ls : Array Slot), va_P (dC, dI) vwCl [(q_, .inr (6, [.ref q_view, .ref q_costs, .int x_solvedFor, .int x_lowest, .int x_total, .int x_pricedFor, .ref q_prices, .ref q_rests, .ref q_ways])), (q_view, .inr (8, [.int x_view_posts, .int x_view_roads, .int x_view_weight, .ref q_view_weights, .ref q_view_near, .ref q_view_behind, .ref q_view_ahead])), (q_view_ahead, .inl (cI, 11, .inl x_view_ahead)), (q_costs, .inr (2, [.ref q_view])), (q_prices, .inl (cI, 2048, .inl x_prices)), (q_rests, .inl (cI, 2048, .inl x_rests)), (q_ways, .inl (cI, 2048, .inl x_ways))] H → va_D A [(q_, .inr (6, [.ref q_view, .ref q_costs, .int x_solvedFor, .int x_lowest, .int x_total, .int x_pricedFor, .ref q_prices, .ref q_rests, .ref q_ways])), (q_view, .inr (8, [.int x_view_posts, .int x_view_roads, .int x_view_weight, .ref q_view_weights, .ref q_view_near, .ref q_view_behind, .ref q_view_ahead])), (q_view_ahead, .inl (cI, 11, .inl x_view_ahead)), (q_costs, .inr (2, [.ref q_view])), (q_prices, .inl (cI, 2048, .inl x_prices)), (q_rests, .inl (cI, 2048, .inl x_rests)), (q_ways, .inl (cI, 2048, .inl x_ways))] → va_S A s.heap H locs → lv_has ls 4 [(0, .ref q_), (1, .int i1), (2, .int s3), (3, .int s4)] → W p l e (rmK 5 127) s m args below meth c H locs 0 0 Q (F0 m 4 ls []) := by
    intro n
    induction n with
    | zero =>
      intro s3 s4 hn1
      cases hn1
    | succ n ih1 =>
      intro s3 s4 hn1 H locs ls hP hD hS hl
      obtain ⟨r6, hf, hn1⟩ := it1 hn1
      replace hf : f_X7_waysOn_L4 i1 x_solvedFor x_view_posts x_view_ahead x_prices x_rests x_ways s3 s4 = some r6 := hf
      unfold f_X7_waysOn_L4 at hf
      refine lv_iload_n hx hb dX7_waysOn_4 rfl (lv_at hl 3 rfl) ?_
      refine lv_aload_n hx hb dX7_waysOn_5 rfl (lv_at hl 0 rfl) ?_
      refine va_get (D := (dC, dI)) (ci := 6) (v := .ref q_view) (C := RX7) (T := TX7) (N := 9) hx hb htb inX7 hown hK hP 0 rfl rfl 0 (Nat.le_of_ble_eq_true rfl) (htb _ t_217) (u_same (htb _ t_218)) rfl dX7_waysOn_6 ?_
      refine va_get (D := (dC, dI)) (ci := 8) (v := .int x_view_posts) (C := RX9) (T := TX9) (N := 7) hx hb htb inX9 hown hK hP 1 rfl rfl 0 (Nat.le_of_ble_eq_true rfl) (htb _ t_73) (fun _ h9 => h9) rfl dX7_waysOn_9 ?_
      refine lv_icmp_ge (tgt := 43) hx hb dX7_waysOn_12 (by decide) (fun c7 => ?_) (fun c7 => ?_)
      · have hf := ip c7 hf
        cases hf
        cases (itr hn1)
        exact kx2 _ _ _ hP hD hS (lv_sub hl [2] rfl)
      · have hf := im c7 hf
        refine lv_aload_n hx hb dX7_waysOn_15 rfl (lv_at hl 0 rfl) ?_
        refine lv_iload_n hx hb dX7_waysOn_16 rfl (lv_at hl 1 rfl) ?_
        refine lv_iload_n hx hb dX7_waysOn_17 rfl (lv_at hl 3 rfl) ?_
        obtain ⟨v8, hv, hf⟩ := ob hf
        refine k_afterI (wr := [(q_ways, .inl (cI, 2048, .inl x_ways))]) (wn := [(q_, .inr (6, [.ref q_view, .ref q_costs, .int x_solvedFor, .int x_lowest, .int x_total, .int x_pricedFor, .ref q_prices, .ref q_rests, .ref q_ways])), (q_view, .inr (8, [.int x_view_posts, .int x_view_roads, .int x_view_weight, .ref q_view_weights, .ref q_view_near, .ref q_view_behind, .ref q_view_ahead])), (q_view_ahead, .inl (cI, 11, .inl x_view_ahead)), (q_costs, .inr (2, [.ref q_view])), (q_prices, .inl (cI, 2048, .inl x_prices)), (q_rests, .inl (cI, 2048, .inl x_rests)), (q_ways, .inl (cI, 2048, .inl x_ways))]) (k_runV (rest := []) (ci := 6) (q0 := 0) hx hb hml hown htb hK hN (c_X7_isBestStep l dC dI cI cZ cN q_ q_view q_costs q_prices q_rests q_ways q_view_weights q_view_near q_view_behind q_view_ahead x_solvedFor x_lowest x_total x_pricedFor x_view_posts x_view_roads x_view_weight x_view_ahead x_prices x_rests i1 s4 v8 hv _) vf_X7_isBestStep t_571 hP hD [0, 1, 2, 3, 4, 5] rfl rfl rfl rfl ⟨(Nat.le_of_ble_eq_true rfl), (Nat.le_of_ble_eq_true rfl)⟩ rfl hl.1 rfl (Nat.le_of_ble_eq_true rfl) dX7_waysOn_18 ⟨Nat.zero_le _, Nat.zero_le _⟩) hA hP hD hS [0, 1, 2, 3, 4, 5] [6] [1, 2, 3, 4, 5, 6, 0] rfl rfl rfl rfl ?_
        clear hP hD hS
        intro H locs hP hD hS
        obtain ⟨t9, hv, hf⟩ := ob hf
        have key10 : ∀ (H : Heap) (locs : List Loc) (ls : Array Slot), va_P (dC, dI) vwCl [(q_, .inr (6, [.ref q_view, .ref q_costs, .int x_solvedFor, .int x_lowest, .int x_total, .int x_pricedFor, .ref q_prices, .ref q_rests, .ref q_ways])), (q_view, .inr (8, [.int x_view_posts, .int x_view_roads, .int x_view_weight, .ref q_view_weights, .ref q_view_near, .ref q_view_behind, .ref q_view_ahead])), (q_view_ahead, .inl (cI, 11, .inl x_view_ahead)), (q_costs, .inr (2, [.ref q_view])), (q_prices, .inl (cI, 2048, .inl x_prices)), (q_rests, .inl (cI, 2048, .inl x_rests)), (q_ways, .inl (cI, 2048, .inl x_ways))] H → va_D A [(q_, .inr (6, [.ref q_view, .ref q_costs, .int x_solvedFor, .int x_lowest, .int x_total, .int x_pricedFor, .ref q_prices, .ref q_rests, .ref q_ways])), (q_view, .inr (8, [.int x_view_posts, .int x_view_roads, .int x_view_weight, .ref q_view_weights, .ref q_view_near, .ref q_view_behind, .ref q_view_ahead])), (q_view_ahead, .inl (cI, 11, .inl x_view_ahead)), (q_costs, .inr (2, [.ref q_view])), (q_prices, .inl (cI, 2048, .inl x_prices)), (q_rests, .inl (cI, 2048, .inl x_rests)), (q_ways, .inl (cI, 2048, .inl x_ways))] → va_S A s.heap H locs → lv_has ls 4 [(0, .ref q_), (1, .int i1), (2, .int t9), (3, .int s4)] → W p l e (rmK 5 127) s m args below meth c H locs 0 0 Q (F0 m 37 ls []) := by
          intro H locs ls hP hD hS hl
          refine lv_iinc (v := (s4 + (1 : Int32))) (lv' := [(3, .int (s4 + (1 : Int32))), (0, .ref q_), (1, .int i1), (2, .int t9)]) hx hb dX7_waysOn_37 hl (k := 3) rfl rfl (by decide) rfl (fun ls hl => ?_)
          refine lv_goto (tgt := 4) hx hb dX7_waysOn_40 (by decide) ?_
          cases hf
          exact ih1 _ _ (itl hn1) _ _ _ hP hD hS (lv_sub hl [1, 2, 3, 0] rfl)
        replace hf := hv
        refine lv_if_eq (tgt := 37) hx hb dX7_waysOn_21 (by decide) (fun c11 => ?_) (fun c11 => ?_)
        · have hf := ip c11 hf
          cases hf
          exact key10 _ _ _ hP hD hS (lv_sub hl [0, 1, 2, 3] rfl)
        · have hf := im c11 hf
          refine lv_iload_n hx hb dX7_waysOn_24 rfl (lv_at hl 2 rfl) ?_
          refine lv_aload_n hx hb dX7_waysOn_25 rfl (lv_at hl 0 rfl) ?_
          refine va_get (D := (dC, dI)) (ci := 6) (v := .ref q_ways) (C := RX7) (T := TX7) (N := 9) hx hb htb inX7 hown hK hP 0 rfl rfl 8 (Nat.le_of_ble_eq_true rfl) (htb _ t_213) (fun _ h9 => h9) rfl dX7_waysOn_26 ?_
          refine lv_iload_n hx hb dX7_waysOn_29 rfl (lv_at hl 1 rfl) ?_
          refine lv_iconst (v := (1 : Int32)) hx hb dX7_waysOn_30 (by decide) ?_
          refine lv_iload_n hx hb dX7_waysOn_31 rfl (lv_at hl 3 rfl) ?_
          refine lv_ishl hx hb dX7_waysOn_32 ?_
          refine lv_ior hx hb dX7_waysOn_33 ?_
          obtain ⟨v12, hv, hf⟩ := ob hf
          refine k_iald hx hb hK hP 6 0 rfl rfl hv dX7_waysOn_34 ?_
          refine lv_iadd hx hb dX7_waysOn_35 ?_
          refine lv_istore_n (lv' := [(2, .int (s3 + v12)), (0, .ref q_), (1, .int i1), (3, .int s4)]) hx hb dX7_waysOn_36 rfl hl (by decide) rfl (fun ls hl => ?_)
          cases hf
          exact key10 _ _ _ hP hD hS (lv_sub hl [1, 2, 0, 3] rfl)
  exact kl5 n0 _ _ hn0 _ _ _ hP hD hS (lv_sub hl [2, 3, 1, 0] rfl)
theorem uf_X7_solve : UF yX7_solve cX7_solve 4 none 1 := ⟨t_547, t_11, t_548, by decide +kernel, by decide +kernel, by decide +kernel⟩
theorem dX7_solve_0 : decode cX7_solve 0 = .ok (.aload_n 0, 1) := by decide +kernel
theorem dX7_solve_1 : decode cX7_solve 1 = .ok (.getfield 25, 3) := by decide +kernel
theorem dX7_solve_4 : decode cX7_solve 4 = .ok (.iload_n 1, 1) := by decide +kernel
theorem dX7_solve_5 : decode cX7_solve 5 = .ok (.if_icmp .ne 4, 3) := by decide +kernel
theorem dX7_solve_8 : decode cX7_solve 8 = .ok (.return_, 1) := by decide +kernel
theorem dX7_solve_9 : decode cX7_solve 9 = .ok (.aload_n 0, 1) := by decide +kernel
theorem dX7_solve_10 : decode cX7_solve 10 = .ok (.iload_n 1, 1) := by decide +kernel
theorem dX7_solve_11 : decode cX7_solve 11 = .ok (.invokevirtual 28, 3) := by decide +kernel
theorem dX7_solve_14 : decode cX7_solve 14 = .ok (.aload_n 0, 1) := by decide +kernel
theorem dX7_solve_15 : decode cX7_solve 15 = .ok (.iload_n 1, 1) := by decide +kernel
theorem dX7_solve_16 : decode cX7_solve 16 = .ok (.putfield 25, 3) := by decide +kernel
theorem dX7_solve_19 : decode cX7_solve 19 = .ok (.iconst 1, 1) := by decide +kernel
theorem dX7_solve_20 : decode cX7_solve 20 = .ok (.aload_n 0, 1) := by decide +kernel
theorem dX7_solve_21 : decode cX7_solve 21 = .ok (.getfield 33, 3) := by decide +kernel
theorem dX7_solve_24 : decode cX7_solve 24 = .ok (.getfield 37, 3) := by decide +kernel
theorem dX7_solve_27 : decode cX7_solve 27 = .ok (.ishl, 1) := by decide +kernel
theorem dX7_solve_28 : decode cX7_solve 28 = .ok (.iconst 1, 1) := by decide +kernel
theorem dX7_solve_29 : decode cX7_solve 29 = .ok (.isub, 1) := by decide +kernel
theorem dX7_solve_30 : decode cX7_solve 30 = .ok (.istore_n 2, 1) := by decide +kernel
theorem dX7_solve_31 : decode cX7_solve 31 = .ok (.aload_n 0, 1) := by decide +kernel
theorem dX7_solve_32 : decode cX7_solve 32 = .ok (.getfield 19, 3) := by decide +kernel
theorem dX7_solve_35 : decode cX7_solve 35 = .ok (.iload_n 2, 1) := by decide +kernel
theorem dX7_solve_36 : decode cX7_solve 36 = .ok (.iconst 0, 1) := by decide +kernel
theorem dX7_solve_37 : decode cX7_solve 37 = .ok (.iastore, 1) := by decide +kernel
theorem dX7_solve_38 : decode cX7_solve 38 = .ok (.iload_n 2, 1) := by decide +kernel
theorem dX7_solve_39 : decode cX7_solve 39 = .ok (.iconst 1, 1) := by decide +kernel
theorem dX7_solve_40 : decode cX7_solve 40 = .ok (.isub, 1) := by decide +kernel
theorem dX7_solve_41 : decode cX7_solve 41 = .ok (.istore_n 3, 1) := by decide +kernel
theorem dX7_solve_42 : decode cX7_solve 42 = .ok (.iload_n 3, 1) := by decide +kernel
theorem dX7_solve_43 : decode cX7_solve 43 = .ok (.ifCond .lt 20, 3) := by decide +kernel
theorem dX7_solve_46 : decode cX7_solve 46 = .ok (.aload_n 0, 1) := by decide +kernel
theorem dX7_solve_47 : decode cX7_solve 47 = .ok (.getfield 19, 3) := by decide +kernel
theorem dX7_solve_50 : decode cX7_solve 50 = .ok (.iload_n 3, 1) := by decide +kernel
theorem dX7_solve_51 : decode cX7_solve 51 = .ok (.aload_n 0, 1) := by decide +kernel
theorem dX7_solve_52 : decode cX7_solve 52 = .ok (.iload_n 3, 1) := by decide +kernel
theorem dX7_solve_53 : decode cX7_solve 53 = .ok (.invokevirtual 58, 3) := by decide +kernel
theorem dX7_solve_56 : decode cX7_solve 56 = .ok (.iastore, 1) := by decide +kernel
theorem dX7_solve_57 : decode cX7_solve 57 = .ok (.iinc 3 (-1), 3) := by decide +kernel
theorem dX7_solve_60 : decode cX7_solve 60 = .ok (.goto (-18), 3) := by decide +kernel
theorem dX7_solve_63 : decode cX7_solve 63 = .ok (.aload_n 0, 1) := by decide +kernel
theorem dX7_solve_64 : decode cX7_solve 64 = .ok (.getfield 22, 3) := by decide +kernel
theorem dX7_solve_67 : decode cX7_solve 67 = .ok (.iload_n 2, 1) := by decide +kernel
theorem dX7_solve_68 : decode cX7_solve 68 = .ok (.iconst 1, 1) := by decide +kernel
theorem dX7_solve_69 : decode cX7_solve 69 = .ok (.iastore, 1) := by decide +kernel
theorem dX7_solve_70 : decode cX7_solve 70 = .ok (.iload_n 2, 1) := by decide +kernel
theorem dX7_solve_71 : decode cX7_solve 71 = .ok (.iconst 1, 1) := by decide +kernel
theorem dX7_solve_72 : decode cX7_solve 72 = .ok (.isub, 1) := by decide +kernel
theorem dX7_solve_73 : decode cX7_solve 73 = .ok (.istore_n 3, 1) := by decide +kernel
theorem dX7_solve_74 : decode cX7_solve 74 = .ok (.iload_n 3, 1) := by decide +kernel
theorem dX7_solve_75 : decode cX7_solve 75 = .ok (.ifCond .lt 20, 3) := by decide +kernel
theorem dX7_solve_78 : decode cX7_solve 78 = .ok (.aload_n 0, 1) := by decide +kernel
theorem dX7_solve_79 : decode cX7_solve 79 = .ok (.getfield 22, 3) := by decide +kernel
theorem dX7_solve_82 : decode cX7_solve 82 = .ok (.iload_n 3, 1) := by decide +kernel
theorem dX7_solve_83 : decode cX7_solve 83 = .ok (.aload_n 0, 1) := by decide +kernel
theorem dX7_solve_84 : decode cX7_solve 84 = .ok (.iload_n 3, 1) := by decide +kernel
theorem dX7_solve_85 : decode cX7_solve 85 = .ok (.invokevirtual 61, 3) := by decide +kernel
theorem dX7_solve_88 : decode cX7_solve 88 = .ok (.iastore, 1) := by decide +kernel
theorem dX7_solve_89 : decode cX7_solve 89 = .ok (.iinc 3 (-1), 3) := by decide +kernel
theorem dX7_solve_92 : decode cX7_solve 92 = .ok (.goto (-18), 3) := by decide +kernel
theorem dX7_solve_95 : decode cX7_solve 95 = .ok (.aload_n 0, 1) := by decide +kernel
theorem dX7_solve_96 : decode cX7_solve 96 = .ok (.aload_n 0, 1) := by decide +kernel
theorem dX7_solve_97 : decode cX7_solve 97 = .ok (.getfield 48, 3) := by decide +kernel
theorem dX7_solve_100 : decode cX7_solve 100 = .ok (.iload_n 1, 1) := by decide +kernel
theorem dX7_solve_101 : decode cX7_solve 101 = .ok (.aload_n 0, 1) := by decide +kernel
theorem dX7_solve_102 : decode cX7_solve 102 = .ok (.getfield 19, 3) := by decide +kernel
theorem dX7_solve_105 : decode cX7_solve 105 = .ok (.iconst 0, 1) := by decide +kernel
theorem dX7_solve_106 : decode cX7_solve 106 = .ok (.iaload, 1) := by decide +kernel
theorem dX7_solve_107 : decode cX7_solve 107 = .ok (.invokevirtual 64, 3) := by decide +kernel
theorem dX7_solve_110 : decode cX7_solve 110 = .ok (.putfield 68, 3) := by decide +kernel
theorem dX7_solve_113 : decode cX7_solve 113 = .ok (.aload_n 0, 1) := by decide +kernel
theorem dX7_solve_114 : decode cX7_solve 114 = .ok (.aload_n 0, 1) := by decide +kernel
theorem dX7_solve_115 : decode cX7_solve 115 = .ok (.getfield 22, 3) := by decide +kernel
theorem dX7_solve_118 : decode cX7_solve 118 = .ok (.iconst 0, 1) := by decide +kernel
theorem dX7_solve_119 : decode cX7_solve 119 = .ok (.iaload, 1) := by decide +kernel
theorem dX7_solve_120 : decode cX7_solve 120 = .ok (.putfield 71, 3) := by decide +kernel
theorem dX7_solve_123 : decode cX7_solve 123 = .ok (.return_, 1) := by decide +kernel
noncomputable def f_X7_solve_L42 (x_solvedFor : Int32) (x_view_posts : Int32) (x_view_ahead : Nat → Int32) (x_prices : Nat → Int32) (i3 : Int32) (x_rests : Nat → Int32) : Option ((Int32 × (Nat → Int32)) ⊕ ((Nat → Int32))) :=
  if i3 < 0 then (some (.inr x_rests)) else ((f_X7_leastRest x_solvedFor x_view_posts x_view_ahead x_prices x_rests i3).bind fun v7 =>
  (si x_rests 2048 i3 v7).bind fun v8 =>
  some (.inl ((i3 + (-1 : Int32)), v8)))
noncomputable def f_X7_solve_L74 (x_solvedFor : Int32) (x_view_posts : Int32) (x_view_ahead : Nat → Int32) (x_prices : Nat → Int32) (x_rests : Nat → Int32) (i3 : Int32) (x_ways : Nat → Int32) : Option ((Int32 × (Nat → Int32)) ⊕ ((Nat → Int32))) :=
  if i3 < 0 then (some (.inr x_ways)) else ((f_X7_waysOn x_solvedFor x_view_posts x_view_ahead x_prices x_rests x_ways i3).bind fun v10 =>
  (si x_ways 2048 i3 v10).bind fun v11 =>
  some (.inl ((i3 + (-1 : Int32)), v11)))
noncomputable def f_X7_solve (x_solvedFor : Int32) (x_lowest : Int32) (x_total : Int32) (x_pricedFor : Int32) (x_view_posts : Int32) (x_view_weights : Nat → Int32) (x_view_near : Nat → Int32) (x_view_behind : Nat → Int32) (x_view_ahead : Nat → Int32) (x_prices : Nat → Int32) (x_rests : Nat → Int32) (x_ways : Nat → Int32) (i1 : Int32) : Option (Int32 × Int32 × Int32 × Int32 × (Nat → Int32) × (Nat → Int32) × (Nat → Int32)) :=
  if x_solvedFor = i1 then (some ((x_solvedFor, x_lowest, x_total, x_pricedFor, x_prices, x_rests, x_ways))) else (b3 (f_X7_priceSets x_solvedFor x_pricedFor x_view_posts x_view_weights x_view_near x_view_behind x_prices i1) fun o2 o3 o4 =>
  (si x_rests 2048 (((1 : Int32) <<< (x_view_posts &&& 31)) - (1 : Int32)) (0 : Int32)).bind fun v5 =>
  (loopS (fun (s : Int32 × (Nat → Int32)) => f_X7_solve_L42 i1 x_view_posts x_view_ahead o4 s.1 s.2) (((((1 : Int32) <<< (x_view_posts &&& 31)) - (1 : Int32)) - (1 : Int32)), v5)).bind fun x6 =>
  (si x_ways 2048 (((1 : Int32) <<< (x_view_posts &&& 31)) - (1 : Int32)) (1 : Int32)).bind fun v8 =>
  (loopS (fun (s : Int32 × (Nat → Int32)) => f_X7_solve_L74 i1 x_view_posts x_view_ahead o4 x6 s.1 s.2) (((((1 : Int32) <<< (x_view_posts &&& 31)) - (1 : Int32)) - (1 : Int32)), v8)).bind fun x9 =>
  (gi x6 2048 (0 : Int32)).bind fun v11 =>
  (f_X2_finish x_view_posts i1 v11).bind fun v12 =>
  (gi x9 2048 (0 : Int32)).bind fun v13 =>
  some ((i1, v12, v13, o3, o4, x6, x9)))
set_option maxHeartbeats 4000000 in
set_option maxRecDepth 100000 in
theorem c_X7_solve (l : Launch) (dC : Nat → ClassId) (dI : Nat → Nat → Nat) (cI cZ cN : ClassId) (q_ : Nat) (q_view : Nat) (q_costs : Nat) (q_prices : Nat) (q_rests : Nat) (q_ways : Nat) (q_view_weights : Nat) (q_view_near : Nat) (q_view_behind : Nat) (q_view_ahead : Nat) (x_solvedFor : Int32) (x_lowest : Int32) (x_total : Int32) (x_pricedFor : Int32) (x_view_posts : Int32) (x_view_roads : Int32) (x_view_weight : Int32) (x_view_weights : Nat → Int32) (x_view_near : Nat → Int32) (x_view_behind : Nat → Int32) (x_view_ahead : Nat → Int32) (x_prices : Nat → Int32) (x_rests : Nat → Int32) (x_ways : Nat → Int32) (i1 : Int32) (o_solvedFor : Int32) (o_lowest : Int32) (o_total : Int32) (o_pricedFor : Int32) (o_prices : Nat → Int32) (o_rests : Nat → Int32) (o_ways : Nat → Int32) (hf : f_X7_solve x_solvedFor x_lowest x_total x_pricedFor x_view_posts x_view_weights x_view_near x_view_behind x_view_ahead x_prices x_rests x_ways i1 = some (o_solvedFor, o_lowest, o_total, o_pricedFor, o_prices, o_rests, o_ways)) : CV l yX7_solve cX7_solve 4 none 6 157 (dC, dI) (TY cI cZ cN) [.ref q_, .int i1] [(q_, .inr (6, [.ref q_view, .ref q_costs, .int x_solvedFor, .int x_lowest, .int x_total, .int x_pricedFor, .ref q_prices, .ref q_rests, .ref q_ways])), (q_view, .inr (8, [.int x_view_posts, .int x_view_roads, .int x_view_weight, .ref q_view_weights, .ref q_view_near, .ref q_view_behind, .ref q_view_ahead])), (q_view_weights, .inl (cI, 121, .inl x_view_weights)), (q_view_near, .inl (cI, 11, .inl x_view_near)), (q_view_behind, .inl (cI, 11, .inl x_view_behind)), (q_view_ahead, .inl (cI, 11, .inl x_view_ahead)), (q_costs, .inr (2, [.ref q_view])), (q_prices, .inl (cI, 2048, .inl x_prices)), (q_rests, .inl (cI, 2048, .inl x_rests)), (q_ways, .inl (cI, 2048, .inl x_ways))] [(q_, .inr (6, [.ref q_view, .ref q_costs, .int o_solvedFor, .int o_lowest, .int o_total, .int o_pricedFor, .ref q_prices, .ref q_rests, .ref q_ways])), (q_view, .inr (8, [.int x_view_posts, .int x_view_roads, .int x_view_weight, .ref q_view_weights, .ref q_view_near, .ref q_view_behind, .ref q_view_ahead])), (q_view_weights, .inl (cI, 121, .inl x_view_weights)), (q_view_near, .inl (cI, 11, .inl x_view_near)), (q_view_behind, .inl (cI, 11, .inl x_view_behind)), (q_view_ahead, .inl (cI, 11, .inl x_view_ahead)), (q_costs, .inr (2, [.ref q_view])), (q_prices, .inl (cI, 2048, .inl o_prices)), (q_rests, .inl (cI, 2048, .inl o_rests)), (q_ways, .inl (cI, 2048, .inl o_ways))] := by
  refine CV.of (by decide) (Nat.le_of_ble_eq_true rfl) ?_
  intro p e s m args below meth c Q A ls hx hb hml hown htb hK hN hA hP hD hS hl hret
  have hown : s.vm.findClass RX7 = some m.cls := hown
  have hl : lv_has ls 4 [(0, .ref q_), (1, .int i1)] := hl
  have hret : ∀ (o9_solvedFor : Int32) (o9_lowest : Int32) (o9_total : Int32) (o9_pricedFor : Int32) (o9_prices : Nat → Int32) (o9_rests : Nat → Int32) (o9_ways : Nat → Int32), some (o9_solvedFor, o9_lowest, o9_total, o9_pricedFor, o9_prices, o9_rests, o9_ways) = some (o_solvedFor, o_lowest, o_total, o_pricedFor, o_prices, o_rests, o_ways) → ∀ (H : Heap) (locs : List Loc) (pc : Nat) (ls : Array Slot), decode cX7_solve pc = .ok (.return_, 1) → va_P (dC, dI) vwCl [(q_, .inr (6, [.ref q_view, .ref q_costs, .int o9_solvedFor, .int o9_lowest, .int o9_total, .int o9_pricedFor, .ref q_prices, .ref q_rests, .ref q_ways])), (q_view, .inr (8, [.int x_view_posts, .int x_view_roads, .int x_view_weight, .ref q_view_weights, .ref q_view_near, .ref q_view_behind, .ref q_view_ahead])), (q_view_weights, .inl (cI, 121, .inl x_view_weights)), (q_view_near, .inl (cI, 11, .inl x_view_near)), (q_view_behind, .inl (cI, 11, .inl x_view_behind)), (q_view_ahead, .inl (cI, 11, .inl x_view_ahead)), (q_costs, .inr (2, [.ref q_view])), (q_prices, .inl (cI, 2048, .inl o9_prices)), (q_rests, .inl (cI, 2048, .inl o9_rests)), (q_ways, .inl (cI, 2048, .inl o9_ways))] H → va_D A [(q_, .inr (6, [.ref q_view, .ref q_costs, .int o9_solvedFor, .int o9_lowest, .int o9_total, .int o9_pricedFor, .ref q_prices, .ref q_rests, .ref q_ways])), (q_view, .inr (8, [.int x_view_posts, .int x_view_roads, .int x_view_weight, .ref q_view_weights, .ref q_view_near, .ref q_view_behind, .ref q_view_ahead])), (q_view_weights, .inl (cI, 121, .inl x_view_weights)), (q_view_near, .inl (cI, 11, .inl x_view_near)), (q_view_behind, .inl (cI, 11, .inl x_view_behind)), (q_view_ahead, .inl (cI, 11, .inl x_view_ahead)), (q_costs, .inr (2, [.ref q_view])), (q_prices, .inl (cI, 2048, .inl o9_prices)), (q_rests, .inl (cI, 2048, .inl o9_rests)), (q_ways, .inl (cI, 2048, .inl o9_ways))] → va_S A s.heap H locs → W p l e (rmK 6 157) s m args below meth c H locs 0 0 Q (F0 m pc ls []) := by
    intro o9_solvedFor o9_lowest o9_total o9_pricedFor o9_prices o9_rests o9_ways h9
    cases h9
    exact hret
  unfold f_X7_solve at hf
  refine lv_aload_n hx hb dX7_solve_0 rfl (lv_at hl 0 rfl) ?_
  refine va_get (D := (dC, dI)) (ci := 6) (v := .int x_solvedFor) (C := RX7) (T := TX7) (N := 9) hx hb htb inX7 hown hK hP 0 rfl rfl 2 (Nat.le_of_ble_eq_true rfl) (htb _ t_227) (u_same (htb _ t_228)) rfl dX7_solve_1 ?_
  refine lv_iload_n hx hb dX7_solve_4 rfl (lv_at hl 1 rfl) ?_
  refine lv_icmp_ne (tgt := 9) hx hb dX7_solve_5 (by decide) (fun c1 => ?_) (fun c1 => ?_)
  · have hf := im c1 hf
    refine lv_aload_n hx hb dX7_solve_9 rfl (lv_at hl 0 rfl) ?_
    refine lv_iload_n hx hb dX7_solve_10 rfl (lv_at hl 1 rfl) ?_
    obtain ⟨o2, o3, o4, hv, hf⟩ := ob3 hf
    refine k_afterV (wr := [(q_view_ahead, .inl (cI, 11, .inl x_view_ahead)), (q_rests, .inl (cI, 2048, .inl x_rests)), (q_ways, .inl (cI, 2048, .inl x_ways))]) (wn := [(q_, .inr (6, [.ref q_view, .ref q_costs, .int o2, .int x_lowest, .int x_total, .int o3, .ref q_prices, .ref q_rests, .ref q_ways])), (q_view, .inr (8, [.int x_view_posts, .int x_view_roads, .int x_view_weight, .ref q_view_weights, .ref q_view_near, .ref q_view_behind, .ref q_view_ahead])), (q_view_weights, .inl (cI, 121, .inl x_view_weights)), (q_view_near, .inl (cI, 11, .inl x_view_near)), (q_view_behind, .inl (cI, 11, .inl x_view_behind)), (q_view_ahead, .inl (cI, 11, .inl x_view_ahead)), (q_costs, .inr (2, [.ref q_view])), (q_prices, .inl (cI, 2048, .inl o4)), (q_rests, .inl (cI, 2048, .inl x_rests)), (q_ways, .inl (cI, 2048, .inl x_ways))]) (k_runV (rest := []) (ci := 6) (q0 := 0) hx hb hml hown htb hK hN (c_X7_priceSets l dC dI cI cZ cN q_ q_view q_costs q_prices q_rests q_ways q_view_weights q_view_near q_view_behind q_view_ahead x_solvedFor x_lowest x_total x_pricedFor x_view_posts x_view_roads x_view_weight x_view_weights x_view_near x_view_behind x_prices i1 o2 o3 o4 hv _) vf_X7_priceSets t_549 hP hD [0, 1, 2, 3, 4, 6, 7] rfl rfl rfl rfl ⟨(Nat.le_of_ble_eq_true rfl), (Nat.le_of_ble_eq_true rfl)⟩ rfl hl.1 rfl (Nat.le_of_ble_eq_true rfl) dX7_solve_11 ⟨Nat.zero_le _, Nat.zero_le _⟩) hA hP hD hS [0, 1, 2, 3, 4, 6, 7] [5, 8, 9] [3, 4, 5, 6, 7, 0, 8, 9, 1, 2] rfl rfl rfl rfl ?_
    clear hP hD hS
    intro H locs hP hD hS
    refine lv_aload_n hx hb dX7_solve_14 rfl (lv_at hl 0 rfl) ?_
    refine lv_iload_n hx hb dX7_solve_15 rfl (lv_at hl 1 rfl) ?_
    refine k_put (wn := [(q_, .inr (6, [.ref q_view, .ref q_costs, .int i1, .int x_lowest, .int x_total, .int o3, .ref q_prices, .ref q_rests, .ref q_ways])), (q_view, .inr (8, [.int x_view_posts, .int x_view_roads, .int x_view_weight, .ref q_view_weights, .ref q_view_near, .ref q_view_behind, .ref q_view_ahead])), (q_view_weights, .inl (cI, 121, .inl x_view_weights)), (q_view_near, .inl (cI, 11, .inl x_view_near)), (q_view_behind, .inl (cI, 11, .inl x_view_behind)), (q_view_ahead, .inl (cI, 11, .inl x_view_ahead)), (q_costs, .inr (2, [.ref q_view])), (q_prices, .inl (cI, 2048, .inl o4)), (q_rests, .inl (cI, 2048, .inl x_rests)), (q_ways, .inl (cI, 2048, .inl x_ways))]) (C := RX7) (T := TX7) (N := 9) (ci := 6) hx hb htb inX7 tyX7 tyX7_ok nmX7 hown hK hP hD hS 0 rfl rfl 2 (Nat.le_of_ble_eq_true rfl) t_227 (u_same (htb _ t_228)) rfl (tyX7_ok 2 (Nat.le_of_ble_eq_true rfl)) (Nat.le_of_ble_eq_true rfl) rfl dX7_solve_16 ?_
    clear hP hD hS
    intro H locs hP hD hS
    refine lv_iconst (v := (1 : Int32)) hx hb dX7_solve_19 (by decide) ?_
    refine lv_aload_n hx hb dX7_solve_20 rfl (lv_at hl 0 rfl) ?_
    refine va_get (D := (dC, dI)) (ci := 6) (v := .ref q_view) (C := RX7) (T := TX7) (N := 9) hx hb htb inX7 hown hK hP 0 rfl rfl 0 (Nat.le_of_ble_eq_true rfl) (htb _ t_217) (u_same (htb _ t_218)) rfl dX7_solve_21 ?_
    refine va_get (D := (dC, dI)) (ci := 8) (v := .int x_view_posts) (C := RX9) (T := TX9) (N := 7) hx hb htb inX9 hown hK hP 1 rfl rfl 0 (Nat.le_of_ble_eq_true rfl) (htb _ t_73) (fun _ h9 => h9) rfl dX7_solve_24 ?_
    refine lv_ishl hx hb dX7_solve_27 ?_
    refine lv_iconst (v := (1 : Int32)) hx hb dX7_solve_28 (by decide) ?_
    refine lv_isub hx hb dX7_solve_29 ?_
    refine lv_istore_n (lv' := [(2, .int (((1 : Int32) <<< (x_view_posts &&& 31)) - (1 : Int32))), (0, .ref q_), (1, .int i1)]) hx hb dX7_solve_30 rfl hl (by decide) rfl (fun ls hl => ?_)
    refine lv_aload_n hx hb dX7_solve_31 rfl (lv_at hl 1 rfl) ?_
    refine va_get (D := (dC, dI)) (ci := 6) (v := .ref q_rests) (C := RX7) (T := TX7) (N := 9) hx hb htb inX7 hown hK hP 0 rfl rfl 7 (Nat.le_of_ble_eq_true rfl) (htb _ t_212) (fun _ h9 => h9) rfl dX7_solve_32 ?_
    refine lv_iload_n hx hb dX7_solve_35 rfl (lv_at hl 0 rfl) ?_
    refine lv_iconst (v := (0 : Int32)) hx hb dX7_solve_36 (by decide) ?_
    obtain ⟨v5, hv, hf⟩ := ob hf
    refine k_iast (wn := [(q_, .inr (6, [.ref q_view, .ref q_costs, .int i1, .int x_lowest, .int x_total, .int o3, .ref q_prices, .ref q_rests, .ref q_ways])), (q_view, .inr (8, [.int x_view_posts, .int x_view_roads, .int x_view_weight, .ref q_view_weights, .ref q_view_near, .ref q_view_behind, .ref q_view_ahead])), (q_view_weights, .inl (cI, 121, .inl x_view_weights)), (q_view_near, .inl (cI, 11, .inl x_view_near)), (q_view_behind, .inl (cI, 11, .inl x_view_behind)), (q_view_ahead, .inl (cI, 11, .inl x_view_ahead)), (q_costs, .inr (2, [.ref q_view])), (q_prices, .inl (cI, 2048, .inl o4)), (q_rests, .inl (cI, 2048, .inl v5)), (q_ways, .inl (cI, 2048, .inl x_ways))]) hx hb hK hP hD hS 8 0 rfl rfl hv rfl dX7_solve_37 ?_
    clear hP hD hS
    intro H locs hP hD hS
    refine lv_iload_n hx hb dX7_solve_38 rfl (lv_at hl 0 rfl) ?_
    refine lv_iconst (v := (1 : Int32)) hx hb dX7_solve_39 (by decide) ?_
    refine lv_isub hx hb dX7_solve_40 ?_
    refine lv_istore_n (lv' := [(3, .int ((((1 : Int32) <<< (x_view_posts &&& 31)) - (1 : Int32)) - (1 : Int32))), (2, .int (((1 : Int32) <<< (x_view_posts &&& 31)) - (1 : Int32))), (0, .ref q_), (1, .int i1)]) hx hb dX7_solve_41 rfl hl (by decide) rfl (fun ls hl => ?_)
    obtain ⟨x6, hL, hf⟩ := ob hf
    have kx7 : ∀ (H : Heap) (locs : List Loc) (ls : Array Slot), va_P (dC, dI) vwCl [(q_, .inr (6, [.ref q_view, .ref q_costs, .int i1, .int x_lowest, .int x_total, .int o3, .ref q_prices, .ref q_rests, .ref q_ways])), (q_view, .inr (8, [.int x_view_posts, .int x_view_roads, .int x_view_weight, .ref q_view_weights, .ref q_view_near, .ref q_view_behind, .ref q_view_ahead])), (q_view_weights, .inl (cI, 121, .inl x_view_weights)), (q_view_near, .inl (cI, 11, .inl x_view_near)), (q_view_behind, .inl (cI, 11, .inl x_view_behind)), (q_view_ahead, .inl (cI, 11, .inl x_view_ahead)), (q_costs, .inr (2, [.ref q_view])), (q_prices, .inl (cI, 2048, .inl o4)), (q_rests, .inl (cI, 2048, .inl x6)), (q_ways, .inl (cI, 2048, .inl x_ways))] H → va_D A [(q_, .inr (6, [.ref q_view, .ref q_costs, .int i1, .int x_lowest, .int x_total, .int o3, .ref q_prices, .ref q_rests, .ref q_ways])), (q_view, .inr (8, [.int x_view_posts, .int x_view_roads, .int x_view_weight, .ref q_view_weights, .ref q_view_near, .ref q_view_behind, .ref q_view_ahead])), (q_view_weights, .inl (cI, 121, .inl x_view_weights)), (q_view_near, .inl (cI, 11, .inl x_view_near)), (q_view_behind, .inl (cI, 11, .inl x_view_behind)), (q_view_ahead, .inl (cI, 11, .inl x_view_ahead)), (q_costs, .inr (2, [.ref q_view])), (q_prices, .inl (cI, 2048, .inl o4)), (q_rests, .inl (cI, 2048, .inl x6)), (q_ways, .inl (cI, 2048, .inl x_ways))] → va_S A s.heap H locs → lv_has ls 4 [(0, .ref q_), (1, .int i1), (2, .int (((1 : Int32) <<< (x_view_posts &&& 31)) - (1 : Int32)))] → W p l e (rmK 6 157) s m args below meth c H locs 0 0 Q (F0 m 63 ls []) := by
      intro H locs ls hP hD hS hl
      refine lv_aload_n hx hb dX7_solve_63 rfl (lv_at hl 0 rfl) ?_
      refine va_get (D := (dC, dI)) (ci := 6) (v := .ref q_ways) (C := RX7) (T := TX7) (N := 9) hx hb htb inX7 hown hK hP 0 rfl rfl 8 (Nat.le_of_ble_eq_true rfl) (htb _ t_213) (fun _ h9 => h9) rfl dX7_solve_64 ?_
      refine lv_iload_n hx hb dX7_solve_67 rfl (lv_at hl 2 rfl) ?_
      refine lv_iconst (v := (1 : Int32)) hx hb dX7_solve_68 (by decide) ?_
      obtain ⟨v8, hv, hf⟩ := ob hf
      refine k_iast (wn := [(q_, .inr (6, [.ref q_view, .ref q_costs, .int i1, .int x_lowest, .int x_total, .int o3, .ref q_prices, .ref q_rests, .ref q_ways])), (q_view, .inr (8, [.int x_view_posts, .int x_view_roads, .int x_view_weight, .ref q_view_weights, .ref q_view_near, .ref q_view_behind, .ref q_view_ahead])), (q_view_weights, .inl (cI, 121, .inl x_view_weights)), (q_view_near, .inl (cI, 11, .inl x_view_near)), (q_view_behind, .inl (cI, 11, .inl x_view_behind)), (q_view_ahead, .inl (cI, 11, .inl x_view_ahead)), (q_costs, .inr (2, [.ref q_view])), (q_prices, .inl (cI, 2048, .inl o4)), (q_rests, .inl (cI, 2048, .inl x6)), (q_ways, .inl (cI, 2048, .inl v8))]) hx hb hK hP hD hS 9 0 rfl rfl hv rfl dX7_solve_69 ?_
      clear hP hD hS
      intro H locs hP hD hS
      refine lv_iload_n hx hb dX7_solve_70 rfl (lv_at hl 2 rfl) ?_
      refine lv_iconst (v := (1 : Int32)) hx hb dX7_solve_71 (by decide) ?_
      refine lv_isub hx hb dX7_solve_72 ?_
      refine lv_istore_n (lv' := [(3, .int ((((1 : Int32) <<< (x_view_posts &&& 31)) - (1 : Int32)) - (1 : Int32))), (0, .ref q_), (1, .int i1), (2, .int (((1 : Int32) <<< (x_view_posts &&& 31)) - (1 : Int32)))]) hx hb dX7_solve_73 rfl hl (by decide) rfl (fun ls hl => ?_)
      obtain ⟨x9, hL, hf⟩ := ob hf
      have kx10 : ∀ (H : Heap) (locs : List Loc) (ls : Array Slot), va_P (dC, dI) vwCl [(q_, .inr (6, [.ref q_view, .ref q_costs, .int i1, .int x_lowest, .int x_total, .int o3, .ref q_prices, .ref q_rests, .ref q_ways])), (q_view, .inr (8, [.int x_view_posts, .int x_view_roads, .int x_view_weight, .ref q_view_weights, .ref q_view_near, .ref q_view_behind, .ref q_view_ahead])), (q_view_weights, .inl (cI, 121, .inl x_view_weights)), (q_view_near, .inl (cI, 11, .inl x_view_near)), (q_view_behind, .inl (cI, 11, .inl x_view_behind)), (q_view_ahead, .inl (cI, 11, .inl x_view_ahead)), (q_costs, .inr (2, [.ref q_view])), (q_prices, .inl (cI, 2048, .inl o4)), (q_rests, .inl (cI, 2048, .inl x6)), (q_ways, .inl (cI, 2048, .inl x9))] H → va_D A [(q_, .inr (6, [.ref q_view, .ref q_costs, .int i1, .int x_lowest, .int x_total, .int o3, .ref q_prices, .ref q_rests, .ref q_ways])), (q_view, .inr (8, [.int x_view_posts, .int x_view_roads, .int x_view_weight, .ref q_view_weights, .ref q_view_near, .ref q_view_behind, .ref q_view_ahead])), (q_view_weights, .inl (cI, 121, .inl x_view_weights)), (q_view_near, .inl (cI, 11, .inl x_view_near)), (q_view_behind, .inl (cI, 11, .inl x_view_behind)), (q_view_ahead, .inl (cI, 11, .inl x_view_ahead)), (q_costs, .inr (2, [.ref q_view])), (q_prices, .inl (cI, 2048, .inl o4)), (q_rests, .inl (cI, 2048, .inl x6)), (q_ways, .inl (cI, 2048, .inl x9))] → va_S A s.heap H locs → lv_has ls 4 [(0, .ref q_), (1, .int i1)] → W p l e (rmK 6 157) s m args below meth c H locs 0 0 Q (F0 m 95 ls []) := by
        intro H locs ls hP hD hS hl
        refine lv_aload_n hx hb dX7_solve_95 rfl (lv_at hl 0 rfl) ?_
        refine lv_aload_n hx hb dX7_solve_96 rfl (lv_at hl 0 rfl) ?_
        refine va_get (D := (dC, dI)) (ci := 6) (v := .ref q_costs) (C := RX7) (T := TX7) (N := 9) hx hb htb inX7 hown hK hP 0 rfl rfl 1 (Nat.le_of_ble_eq_true rfl) (htb _ t_222) (u_same (htb _ t_223)) rfl dX7_solve_97 ?_
        refine lv_iload_n hx hb dX7_solve_100 rfl (lv_at hl 1 rfl) ?_
        refine lv_aload_n hx hb dX7_solve_101 rfl (lv_at hl 0 rfl) ?_
        refine va_get (D := (dC, dI)) (ci := 6) (v := .ref q_rests) (C := RX7) (T := TX7) (N := 9) hx hb htb inX7 hown hK hP 0 rfl rfl 7 (Nat.le_of_ble_eq_true rfl) (htb _ t_212) (fun _ h9 => h9) rfl dX7_solve_102 ?_
        refine lv_iconst (v := (0 : Int32)) hx hb dX7_solve_105 (by decide) ?_
        obtain ⟨v11, hv, hf⟩ := ob hf
        refine k_iald hx hb hK hP 8 0 rfl rfl hv dX7_solve_106 ?_
        obtain ⟨v12, hv, hf⟩ := ob hf
        refine k_afterI (wr := [(q_, .inr (6, [.ref q_view, .ref q_costs, .int i1, .int x_lowest, .int x_total, .int o3, .ref q_prices, .ref q_rests, .ref q_ways])), (q_view_weights, .inl (cI, 121, .inl x_view_weights)), (q_view_near, .inl (cI, 11, .inl x_view_near)), (q_view_behind, .inl (cI, 11, .inl x_view_behind)), (q_view_ahead, .inl (cI, 11, .inl x_view_ahead)), (q_prices, .inl (cI, 2048, .inl o4)), (q_rests, .inl (cI, 2048, .inl x6)), (q_ways, .inl (cI, 2048, .inl x9))]) (wn := [(q_, .inr (6, [.ref q_view, .ref q_costs, .int i1, .int x_lowest, .int x_total, .int o3, .ref q_prices, .ref q_rests, .ref q_ways])), (q_view, .inr (8, [.int x_view_posts, .int x_view_roads, .int x_view_weight, .ref q_view_weights, .ref q_view_near, .ref q_view_behind, .ref q_view_ahead])), (q_view_weights, .inl (cI, 121, .inl x_view_weights)), (q_view_near, .inl (cI, 11, .inl x_view_near)), (q_view_behind, .inl (cI, 11, .inl x_view_behind)), (q_view_ahead, .inl (cI, 11, .inl x_view_ahead)), (q_costs, .inr (2, [.ref q_view])), (q_prices, .inl (cI, 2048, .inl o4)), (q_rests, .inl (cI, 2048, .inl x6)), (q_ways, .inl (cI, 2048, .inl x9))]) (k_runV (rest := [.ref q_]) (ci := 2) (q0 := 6) hx hb hml hown htb hK hN (c_X2_finish l dC dI cI cZ cN q_costs q_view q_view_weights q_view_near q_view_behind q_view_ahead x_view_posts x_view_roads x_view_weight i1 v11 v12 hv _) vf_X2_finish t_575 hP hD [6, 1] rfl rfl rfl rfl ⟨(Nat.le_of_ble_eq_true rfl), (Nat.le_of_ble_eq_true rfl)⟩ rfl hl.1 rfl (Nat.le_of_ble_eq_true rfl) dX7_solve_107 ⟨Nat.zero_le _, Nat.zero_le _⟩) hA hP hD hS [6, 1] [0, 2, 3, 4, 5, 7, 8, 9] [0, 9, 1, 2, 3, 4, 8, 5, 6, 7] rfl rfl rfl rfl ?_
        clear hP hD hS
        intro H locs hP hD hS
        refine k_put (wn := [(q_, .inr (6, [.ref q_view, .ref q_costs, .int i1, .int v12, .int x_total, .int o3, .ref q_prices, .ref q_rests, .ref q_ways])), (q_view, .inr (8, [.int x_view_posts, .int x_view_roads, .int x_view_weight, .ref q_view_weights, .ref q_view_near, .ref q_view_behind, .ref q_view_ahead])), (q_view_weights, .inl (cI, 121, .inl x_view_weights)), (q_view_near, .inl (cI, 11, .inl x_view_near)), (q_view_behind, .inl (cI, 11, .inl x_view_behind)), (q_view_ahead, .inl (cI, 11, .inl x_view_ahead)), (q_costs, .inr (2, [.ref q_view])), (q_prices, .inl (cI, 2048, .inl o4)), (q_rests, .inl (cI, 2048, .inl x6)), (q_ways, .inl (cI, 2048, .inl x9))]) (C := RX7) (T := TX7) (N := 9) (ci := 6) hx hb htb inX7 tyX7 tyX7_ok nmX7 hown hK hP hD hS 0 rfl rfl 3 (Nat.le_of_ble_eq_true rfl) t_231 (u_same (htb _ t_232)) rfl (tyX7_ok 3 (Nat.le_of_ble_eq_true rfl)) (Nat.le_of_ble_eq_true rfl) rfl dX7_solve_110 ?_
        clear hP hD hS
        intro H locs hP hD hS
        refine lv_aload_n hx hb dX7_solve_113 rfl (lv_at hl 0 rfl) ?_
        refine lv_aload_n hx hb dX7_solve_114 rfl (lv_at hl 0 rfl) ?_
        refine va_get (D := (dC, dI)) (ci := 6) (v := .ref q_ways) (C := RX7) (T := TX7) (N := 9) hx hb htb inX7 hown hK hP 0 rfl rfl 8 (Nat.le_of_ble_eq_true rfl) (htb _ t_213) (fun _ h9 => h9) rfl dX7_solve_115 ?_
        refine lv_iconst (v := (0 : Int32)) hx hb dX7_solve_118 (by decide) ?_
        obtain ⟨v13, hv, hf⟩ := ob hf
        refine k_iald hx hb hK hP 9 0 rfl rfl hv dX7_solve_119 ?_
        refine k_put (wn := [(q_, .inr (6, [.ref q_view, .ref q_costs, .int i1, .int v12, .int v13, .int o3, .ref q_prices, .ref q_rests, .ref q_ways])), (q_view, .inr (8, [.int x_view_posts, .int x_view_roads, .int x_view_weight, .ref q_view_weights, .ref q_view_near, .ref q_view_behind, .ref q_view_ahead])), (q_view_weights, .inl (cI, 121, .inl x_view_weights)), (q_view_near, .inl (cI, 11, .inl x_view_near)), (q_view_behind, .inl (cI, 11, .inl x_view_behind)), (q_view_ahead, .inl (cI, 11, .inl x_view_ahead)), (q_costs, .inr (2, [.ref q_view])), (q_prices, .inl (cI, 2048, .inl o4)), (q_rests, .inl (cI, 2048, .inl x6)), (q_ways, .inl (cI, 2048, .inl x9))]) (C := RX7) (T := TX7) (N := 9) (ci := 6) hx hb htb inX7 tyX7 tyX7_ok nmX7 hown hK hP hD hS 0 rfl rfl 4 (Nat.le_of_ble_eq_true rfl) t_236 (u_same (htb _ t_237)) rfl (tyX7_ok 4 (Nat.le_of_ble_eq_true rfl)) (Nat.le_of_ble_eq_true rfl) rfl dX7_solve_120 ?_
        clear hP hD hS
        intro H locs hP hD hS
        exact hret _ _ _ _ _ _ _ hf _ _ _ _ dX7_solve_123 hP hD hS
      obtain ⟨n0, hn0⟩ := loopS_iter hL
      clear hf
      have kl16 : ∀ (n : Nat) (s14 : Int32) (s15 : Nat → Int32), iterS (fun (s : Int32 × (Nat → Int32)) => f_X7_solve_L74 i1 x_view_posts x_view_ahead o4 x6 s.1 s.2) n (s14, s15) = some x9 → ∀ (H : Heap) (locs : List Loc) (ls : Array Slot), va_P (dC, dI) vwCl [(q_, .inr (6, [.ref q_view, .ref q_costs, .int i1, .int x_lowest, .int x_total, .int o3, .ref q_prices, .ref q_rests, .ref q_ways])), (q_view, .inr (8, [.int x_view_posts, .int x_view_roads, .int x_view_weight, .ref q_view_weights, .ref q_view_near, .ref q_view_behind, .ref q_view_ahead])), (q_view_weights, .inl (cI, 121, .inl x_view_weights)), (q_view_near, .inl (cI, 11, .inl x_view_near)), (q_view_behind, .inl (cI, 11, .inl x_view_behind)), (q_view_ahead, .inl (cI, 11, .inl x_view_ahead)), (q_costs, .inr (2, [.ref q_view])), (q_prices, .inl (cI, 2048, .inl o4)), (q_rests, .inl (cI, 2048, .inl x6)), (q_ways, .inl (cI, 2048, .inl s15))] H → va_D A [(q_, .inr (6, [.ref q_view, .ref q_costs, .int i1, .int x_lowest, .int x_total, .int o3, .ref q_prices, .ref q_rests, .ref q_ways])), (q_view, .inr (8, [.int x_view_posts, .int x_view_roads, .int x_view_weight, .ref q_view_weights, .ref q_view_near, .ref q_view_behind, .ref q_view_ahead])), (q_view_weights, .inl (cI, 121, .inl x_view_weights)), (q_view_near, .inl (cI, 11, .inl x_view_near)), (q_view_behind, .inl (cI, 11, .inl x_view_behind)), (q_view_ahead, .inl (cI, 11, .inl x_view_ahead)), (q_costs, .inr (2, [.ref q_view])), (q_prices, .inl (cI, 2048, .inl o4)), (q_rests, .inl (cI, 2048, .inl x6)), (q_ways, .inl (cI, 2048, .inl s15))] → va_S A s.heap H locs → lv_has ls 4 [(0, .ref q_), (1, .int i1), (3, .int s14)] → W p l e (rmK 6 157) s m args below meth c H locs 0 0 Q (F0 m 74 ls []) := by
        intro n
        induction n with
        | zero =>
          intro s14 s15 hn1
          cases hn1
        | succ n ih1 =>
          intro s14 s15 hn1 H locs ls hP hD hS hl
          obtain ⟨r17, hf, hn1⟩ := it1 hn1
          replace hf : f_X7_solve_L74 i1 x_view_posts x_view_ahead o4 x6 s14 s15 = some r17 := hf
          unfold f_X7_solve_L74 at hf
          refine lv_iload_n hx hb dX7_solve_74 rfl (lv_at hl 2 rfl) ?_
          refine lv_if_lt (tgt := 95) hx hb dX7_solve_75 (by decide) (fun c18 => ?_) (fun c18 => ?_)
          · have hf := ip c18 hf
            cases hf
            cases (itr hn1)
            exact kx10 _ _ _ hP hD hS (lv_sub hl [0, 1] rfl)
          · have hf := im c18 hf
            refine lv_aload_n hx hb dX7_solve_78 rfl (lv_at hl 0 rfl) ?_
            refine va_get (D := (dC, dI)) (ci := 6) (v := .ref q_ways) (C := RX7) (T := TX7) (N := 9) hx hb htb inX7 hown hK hP 0 rfl rfl 8 (Nat.le_of_ble_eq_true rfl) (htb _ t_213) (fun _ h9 => h9) rfl dX7_solve_79 ?_
            refine lv_iload_n hx hb dX7_solve_82 rfl (lv_at hl 2 rfl) ?_
            refine lv_aload_n hx hb dX7_solve_83 rfl (lv_at hl 0 rfl) ?_
            refine lv_iload_n hx hb dX7_solve_84 rfl (lv_at hl 2 rfl) ?_
            obtain ⟨v19, hv, hf⟩ := ob hf
            refine k_afterI (wr := [(q_view_weights, .inl (cI, 121, .inl x_view_weights)), (q_view_near, .inl (cI, 11, .inl x_view_near)), (q_view_behind, .inl (cI, 11, .inl x_view_behind))]) (wn := [(q_, .inr (6, [.ref q_view, .ref q_costs, .int i1, .int x_lowest, .int x_total, .int o3, .ref q_prices, .ref q_rests, .ref q_ways])), (q_view, .inr (8, [.int x_view_posts, .int x_view_roads, .int x_view_weight, .ref q_view_weights, .ref q_view_near, .ref q_view_behind, .ref q_view_ahead])), (q_view_weights, .inl (cI, 121, .inl x_view_weights)), (q_view_near, .inl (cI, 11, .inl x_view_near)), (q_view_behind, .inl (cI, 11, .inl x_view_behind)), (q_view_ahead, .inl (cI, 11, .inl x_view_ahead)), (q_costs, .inr (2, [.ref q_view])), (q_prices, .inl (cI, 2048, .inl o4)), (q_rests, .inl (cI, 2048, .inl x6)), (q_ways, .inl (cI, 2048, .inl s15))]) (k_runV (rest := [.int s14, .ref q_ways]) (ci := 6) (q0 := 0) hx hb hml hown htb hK hN (c_X7_waysOn l dC dI cI cZ cN q_ q_view q_costs q_prices q_rests q_ways q_view_weights q_view_near q_view_behind q_view_ahead i1 x_lowest x_total o3 x_view_posts x_view_roads x_view_weight x_view_ahead o4 x6 s15 s14 v19 hv _) vf_X7_waysOn t_567 hP hD [0, 1, 5, 6, 7, 8, 9] rfl rfl rfl rfl ⟨(Nat.le_of_ble_eq_true rfl), (Nat.le_of_ble_eq_true rfl)⟩ rfl hl.1 rfl (Nat.le_of_ble_eq_true rfl) dX7_solve_85 ⟨Nat.zero_le _, Nat.zero_le _⟩) hA hP hD hS [0, 1, 5, 6, 7, 8, 9] [2, 3, 4] [3, 4, 0, 1, 2, 5, 6, 7, 8, 9] rfl rfl rfl rfl ?_
            clear hP hD hS
            intro H locs hP hD hS
            obtain ⟨v20, hv, hf⟩ := ob hf
            refine k_iast (wn := [(q_, .inr (6, [.ref q_view, .ref q_costs, .int i1, .int x_lowest, .int x_total, .int o3, .ref q_prices, .ref q_rests, .ref q_ways])), (q_view, .inr (8, [.int x_view_posts, .int x_view_roads, .int x_view_weight, .ref q_view_weights, .ref q_view_near, .ref q_view_behind, .ref q_view_ahead])), (q_view_weights, .inl (cI, 121, .inl x_view_weights)), (q_view_near, .inl (cI, 11, .inl x_view_near)), (q_view_behind, .inl (cI, 11, .inl x_view_behind)), (q_view_ahead, .inl (cI, 11, .inl x_view_ahead)), (q_costs, .inr (2, [.ref q_view])), (q_prices, .inl (cI, 2048, .inl o4)), (q_rests, .inl (cI, 2048, .inl x6)), (q_ways, .inl (cI, 2048, .inl v20))]) hx hb hK hP hD hS 9 0 rfl rfl hv rfl dX7_solve_88 ?_
            clear hP hD hS
            intro H locs hP hD hS
            refine lv_iinc (v := (s14 + (-1 : Int32))) (lv' := [(3, .int (s14 + (-1 : Int32))), (0, .ref q_), (1, .int i1)]) hx hb dX7_solve_89 hl (k := 2) rfl rfl (by decide) rfl (fun ls hl => ?_)
            refine lv_goto (tgt := 74) hx hb dX7_solve_92 (by decide) ?_
            cases hf
            exact ih1 _ _ (itl hn1) _ _ _ hP hD hS (lv_sub hl [1, 2, 0] rfl)
      exact kl16 n0 _ _ hn0 _ _ _ hP hD hS (lv_sub hl [1, 2, 0] rfl)
    obtain ⟨n0, hn0⟩ := loopS_iter hL
    clear hf
    have kl23 : ∀ (n : Nat) (s21 : Int32) (s22 : Nat → Int32), iterS (fun (s : Int32 × (Nat → Int32)) => f_X7_solve_L42 i1 x_view_posts x_view_ahead o4 s.1 s.2) n (s21, s22) = some x6 → ∀ (H : Heap) (locs : List Loc) (ls : Array Slot), va_P (dC, dI) vwCl [(q_, .inr (6, [.ref q_view, .ref q_costs, .int i1, .int x_lowest, .int x_total, .int o3, .ref q_prices, .ref q_rests, .ref q_ways])), (q_view, .inr (8, [.int x_view_posts, .int x_view_roads, .int x_view_weight, .ref q_view_weights, .ref q_view_near, .ref q_view_behind, .ref q_view_ahead])), (q_view_weights, .inl (cI, 121, .inl x_view_weights)), (q_view_near, .inl (cI, 11, .inl x_view_near)), (q_view_behind, .inl (cI, 11, .inl x_view_behind)), (q_view_ahead, .inl (cI, 11, .inl x_view_ahead)), (q_costs, .inr (2, [.ref q_view])), (q_prices, .inl (cI, 2048, .inl o4)), (q_rests, .inl (cI, 2048, .inl s22)), (q_ways, .inl (cI, 2048, .inl x_ways))] H → va_D A [(q_, .inr (6, [.ref q_view, .ref q_costs, .int i1, .int x_lowest, .int x_total, .int o3, .ref q_prices, .ref q_rests, .ref q_ways])), (q_view, .inr (8, [.int x_view_posts, .int x_view_roads, .int x_view_weight, .ref q_view_weights, .ref q_view_near, .ref q_view_behind, .ref q_view_ahead])), (q_view_weights, .inl (cI, 121, .inl x_view_weights)), (q_view_near, .inl (cI, 11, .inl x_view_near)), (q_view_behind, .inl (cI, 11, .inl x_view_behind)), (q_view_ahead, .inl (cI, 11, .inl x_view_ahead)), (q_costs, .inr (2, [.ref q_view])), (q_prices, .inl (cI, 2048, .inl o4)), (q_rests, .inl (cI, 2048, .inl s22)), (q_ways, .inl (cI, 2048, .inl x_ways))] → va_S A s.heap H locs → lv_has ls 4 [(0, .ref q_), (1, .int i1), (2, .int (((1 : Int32) <<< (x_view_posts &&& 31)) - (1 : Int32))), (3, .int s21)] → W p l e (rmK 6 157) s m args below meth c H locs 0 0 Q (F0 m 42 ls []) := by
      intro n
      induction n with
      | zero =>
        intro s21 s22 hn1
        cases hn1
      | succ n ih1 =>
        intro s21 s22 hn1 H locs ls hP hD hS hl
        obtain ⟨r24, hf, hn1⟩ := it1 hn1
        replace hf : f_X7_solve_L42 i1 x_view_posts x_view_ahead o4 s21 s22 = some r24 := hf
        unfold f_X7_solve_L42 at hf
        refine lv_iload_n hx hb dX7_solve_42 rfl (lv_at hl 3 rfl) ?_
        refine lv_if_lt (tgt := 63) hx hb dX7_solve_43 (by decide) (fun c25 => ?_) (fun c25 => ?_)
        · have hf := ip c25 hf
          cases hf
          cases (itr hn1)
          exact kx7 _ _ _ hP hD hS (lv_sub hl [0, 1, 2] rfl)
        · have hf := im c25 hf
          refine lv_aload_n hx hb dX7_solve_46 rfl (lv_at hl 0 rfl) ?_
          refine va_get (D := (dC, dI)) (ci := 6) (v := .ref q_rests) (C := RX7) (T := TX7) (N := 9) hx hb htb inX7 hown hK hP 0 rfl rfl 7 (Nat.le_of_ble_eq_true rfl) (htb _ t_212) (fun _ h9 => h9) rfl dX7_solve_47 ?_
          refine lv_iload_n hx hb dX7_solve_50 rfl (lv_at hl 3 rfl) ?_
          refine lv_aload_n hx hb dX7_solve_51 rfl (lv_at hl 0 rfl) ?_
          refine lv_iload_n hx hb dX7_solve_52 rfl (lv_at hl 3 rfl) ?_
          obtain ⟨v26, hv, hf⟩ := ob hf
          refine k_afterI (wr := [(q_view_weights, .inl (cI, 121, .inl x_view_weights)), (q_view_near, .inl (cI, 11, .inl x_view_near)), (q_view_behind, .inl (cI, 11, .inl x_view_behind)), (q_ways, .inl (cI, 2048, .inl x_ways))]) (wn := [(q_, .inr (6, [.ref q_view, .ref q_costs, .int i1, .int x_lowest, .int x_total, .int o3, .ref q_prices, .ref q_rests, .ref q_ways])), (q_view, .inr (8, [.int x_view_posts, .int x_view_roads, .int x_view_weight, .ref q_view_weights, .ref q_view_near, .ref q_view_behind, .ref q_view_ahead])), (q_view_weights, .inl (cI, 121, .inl x_view_weights)), (q_view_near, .inl (cI, 11, .inl x_view_near)), (q_view_behind, .inl (cI, 11, .inl x_view_behind)), (q_view_ahead, .inl (cI, 11, .inl x_view_ahead)), (q_costs, .inr (2, [.ref q_view])), (q_prices, .inl (cI, 2048, .inl o4)), (q_rests, .inl (cI, 2048, .inl s22)), (q_ways, .inl (cI, 2048, .inl x_ways))]) (k_runV (rest := [.int s21, .ref q_rests]) (ci := 6) (q0 := 0) hx hb hml hown htb hK hN (c_X7_leastRest l dC dI cI cZ cN q_ q_view q_costs q_prices q_rests q_ways q_view_weights q_view_near q_view_behind q_view_ahead i1 x_lowest x_total o3 x_view_posts x_view_roads x_view_weight x_view_ahead o4 s22 s21 v26 hv _) vf_X7_leastRest t_554 hP hD [0, 1, 5, 6, 7, 8] rfl rfl rfl rfl ⟨(Nat.le_of_ble_eq_true rfl), (Nat.le_of_ble_eq_true rfl)⟩ rfl hl.1 rfl (Nat.le_of_ble_eq_true rfl) dX7_solve_53 ⟨Nat.zero_le _, Nat.zero_le _⟩) hA hP hD hS [0, 1, 5, 6, 7, 8] [2, 3, 4, 9] [4, 5, 0, 1, 2, 6, 7, 8, 9, 3] rfl rfl rfl rfl ?_
          clear hP hD hS
          intro H locs hP hD hS
          obtain ⟨v27, hv, hf⟩ := ob hf
          refine k_iast (wn := [(q_, .inr (6, [.ref q_view, .ref q_costs, .int i1, .int x_lowest, .int x_total, .int o3, .ref q_prices, .ref q_rests, .ref q_ways])), (q_view, .inr (8, [.int x_view_posts, .int x_view_roads, .int x_view_weight, .ref q_view_weights, .ref q_view_near, .ref q_view_behind, .ref q_view_ahead])), (q_view_weights, .inl (cI, 121, .inl x_view_weights)), (q_view_near, .inl (cI, 11, .inl x_view_near)), (q_view_behind, .inl (cI, 11, .inl x_view_behind)), (q_view_ahead, .inl (cI, 11, .inl x_view_ahead)), (q_costs, .inr (2, [.ref q_view])), (q_prices, .inl (cI, 2048, .inl o4)), (q_rests, .inl (cI, 2048, .inl v27)), (q_ways, .inl (cI, 2048, .inl x_ways))]) hx hb hK hP hD hS 8 0 rfl rfl hv rfl dX7_solve_56 ?_
          clear hP hD hS
          intro H locs hP hD hS
          refine lv_iinc (v := (s21 + (-1 : Int32))) (lv' := [(3, .int (s21 + (-1 : Int32))), (0, .ref q_), (1, .int i1), (2, .int (((1 : Int32) <<< (x_view_posts &&& 31)) - (1 : Int32)))]) hx hb dX7_solve_57 hl (k := 3) rfl rfl (by decide) rfl (fun ls hl => ?_)
          refine lv_goto (tgt := 42) hx hb dX7_solve_60 (by decide) ?_
          cases hf
          exact ih1 _ _ (itl hn1) _ _ _ hP hD hS (lv_sub hl [1, 2, 3, 0] rfl)
    exact kl23 n0 _ _ hn0 _ _ _ hP hD hS (lv_sub hl [2, 3, 1, 0] rfl)
  · have hf := ip c1 hf
    exact hret _ _ _ _ _ _ _ hf _ _ _ _ dX7_solve_8 hP hD hS
theorem vf_X7_waysWith : VF yX7_waysWith cX7_waysWith 3 (some .int) 2 := ⟨t_617, tp_12, t_11, t_618, by decide +kernel, by decide +kernel, by decide +kernel⟩
theorem dX7_waysWith_0 : decode cX7_waysWith 0 = .ok (.aload_n 0, 1) := by decide +kernel
theorem dX7_waysWith_1 : decode cX7_waysWith 1 = .ok (.iload_n 1, 1) := by decide +kernel
theorem dX7_waysWith_2 : decode cX7_waysWith 2 = .ok (.iload_n 2, 1) := by decide +kernel
theorem dX7_waysWith_3 : decode cX7_waysWith 3 = .ok (.invokevirtual 89, 3) := by decide +kernel
theorem dX7_waysWith_6 : decode cX7_waysWith 6 = .ok (.ifCond .eq 16, 3) := by decide +kernel
theorem dX7_waysWith_9 : decode cX7_waysWith 9 = .ok (.aload_n 0, 1) := by decide +kernel
theorem dX7_waysWith_10 : decode cX7_waysWith 10 = .ok (.getfield 22, 3) := by decide +kernel
theorem dX7_waysWith_13 : decode cX7_waysWith 13 = .ok (.iload_n 1, 1) := by decide +kernel
theorem dX7_waysWith_14 : decode cX7_waysWith 14 = .ok (.iconst 1, 1) := by decide +kernel
theorem dX7_waysWith_15 : decode cX7_waysWith 15 = .ok (.iload_n 2, 1) := by decide +kernel
theorem dX7_waysWith_16 : decode cX7_waysWith 16 = .ok (.ishl, 1) := by decide +kernel
theorem dX7_waysWith_17 : decode cX7_waysWith 17 = .ok (.ior, 1) := by decide +kernel
theorem dX7_waysWith_18 : decode cX7_waysWith 18 = .ok (.iaload, 1) := by decide +kernel
theorem dX7_waysWith_19 : decode cX7_waysWith 19 = .ok (.goto 4, 3) := by decide +kernel
theorem dX7_waysWith_22 : decode cX7_waysWith 22 = .ok (.iconst 0, 1) := by decide +kernel
theorem dX7_waysWith_23 : decode cX7_waysWith 23 = .ok (.ireturn, 1) := by decide +kernel
noncomputable def f_X7_waysWith (x_solvedFor : Int32) (x_view_ahead : Nat → Int32) (x_prices : Nat → Int32) (x_rests : Nat → Int32) (x_ways : Nat → Int32) (i1 : Int32) (i2 : Int32) : Option (Int32) :=
  (f_X7_isBestStep x_solvedFor x_view_ahead x_prices x_rests i1 i2).bind fun v1 =>
  if v1 = 0 then (some ((0 : Int32))) else ((gi x_ways 2048 (i1 ||| ((1 : Int32) <<< (i2 &&& 31)))).bind fun v3 =>
  some (v3))
set_option maxHeartbeats 4000000 in
set_option maxRecDepth 100000 in
theorem c_X7_waysWith (l : Launch) (dC : Nat → ClassId) (dI : Nat → Nat → Nat) (cI cZ cN : ClassId) (q_ : Nat) (q_view : Nat) (q_costs : Nat) (q_prices : Nat) (q_rests : Nat) (q_ways : Nat) (q_view_weights : Nat) (q_view_near : Nat) (q_view_behind : Nat) (q_view_ahead : Nat) (x_solvedFor : Int32) (x_lowest : Int32) (x_total : Int32) (x_pricedFor : Int32) (x_view_posts : Int32) (x_view_roads : Int32) (x_view_weight : Int32) (x_view_ahead : Nat → Int32) (x_prices : Nat → Int32) (x_rests : Nat → Int32) (x_ways : Nat → Int32) (i1 i2 : Int32) (r : Int32) (hf : f_X7_waysWith x_solvedFor x_view_ahead x_prices x_rests x_ways i1 i2 = some r) : CI l yX7_waysWith cX7_waysWith 3 (some .int) 5 127 (dC, dI) (TY cI cZ cN) [.ref q_, .int i1, .int i2] [(q_, .inr (6, [.ref q_view, .ref q_costs, .int x_solvedFor, .int x_lowest, .int x_total, .int x_pricedFor, .ref q_prices, .ref q_rests, .ref q_ways])), (q_view, .inr (8, [.int x_view_posts, .int x_view_roads, .int x_view_weight, .ref q_view_weights, .ref q_view_near, .ref q_view_behind, .ref q_view_ahead])), (q_view_ahead, .inl (cI, 11, .inl x_view_ahead)), (q_costs, .inr (2, [.ref q_view])), (q_prices, .inl (cI, 2048, .inl x_prices)), (q_rests, .inl (cI, 2048, .inl x_rests)), (q_ways, .inl (cI, 2048, .inl x_ways))] [(q_, .inr (6, [.ref q_view, .ref q_costs, .int x_solvedFor, .int x_lowest, .int x_total, .int x_pricedFor, .ref q_prices, .ref q_rests, .ref q_ways])), (q_view, .inr (8, [.int x_view_posts, .int x_view_roads, .int x_view_weight, .ref q_view_weights, .ref q_view_near, .ref q_view_behind, .ref q_view_ahead])), (q_view_ahead, .inl (cI, 11, .inl x_view_ahead)), (q_costs, .inr (2, [.ref q_view])), (q_prices, .inl (cI, 2048, .inl x_prices)), (q_rests, .inl (cI, 2048, .inl x_rests)), (q_ways, .inl (cI, 2048, .inl x_ways))] r := by
  refine CI.of rfl (by decide) (Nat.le_of_ble_eq_true rfl) ?_
  intro p e s m args below meth c Q A ls hx hb hml hown htb hK hN hA hP hD hS hl hret
  have hown : s.vm.findClass RX7 = some m.cls := hown
  have hl : lv_has ls 3 [(0, .ref q_), (1, .int i1), (2, .int i2)] := hl
  have hret : ∀ (r9 : Int32), some r9 = some r → ∀ (H : Heap) (locs : List Loc) (pc : Nat) (ls : Array Slot), narrow .int (.int r9) = .int r9 → decode cX7_waysWith pc = .ok (.ireturn, 1) → va_P (dC, dI) vwCl [(q_, .inr (6, [.ref q_view, .ref q_costs, .int x_solvedFor, .int x_lowest, .int x_total, .int x_pricedFor, .ref q_prices, .ref q_rests, .ref q_ways])), (q_view, .inr (8, [.int x_view_posts, .int x_view_roads, .int x_view_weight, .ref q_view_weights, .ref q_view_near, .ref q_view_behind, .ref q_view_ahead])), (q_view_ahead, .inl (cI, 11, .inl x_view_ahead)), (q_costs, .inr (2, [.ref q_view])), (q_prices, .inl (cI, 2048, .inl x_prices)), (q_rests, .inl (cI, 2048, .inl x_rests)), (q_ways, .inl (cI, 2048, .inl x_ways))] H → va_D A [(q_, .inr (6, [.ref q_view, .ref q_costs, .int x_solvedFor, .int x_lowest, .int x_total, .int x_pricedFor, .ref q_prices, .ref q_rests, .ref q_ways])), (q_view, .inr (8, [.int x_view_posts, .int x_view_roads, .int x_view_weight, .ref q_view_weights, .ref q_view_near, .ref q_view_behind, .ref q_view_ahead])), (q_view_ahead, .inl (cI, 11, .inl x_view_ahead)), (q_costs, .inr (2, [.ref q_view])), (q_prices, .inl (cI, 2048, .inl x_prices)), (q_rests, .inl (cI, 2048, .inl x_rests)), (q_ways, .inl (cI, 2048, .inl x_ways))] → va_S A s.heap H locs → W p l e (rmK 5 127) s m args below meth c H locs 0 0 Q (F0 m pc ls [.int r9]) := by
    intro r9 h9
    cases h9
    exact hret
  unfold f_X7_waysWith at hf
  refine lv_aload_n hx hb dX7_waysWith_0 rfl (lv_at hl 0 rfl) ?_
  refine lv_iload_n hx hb dX7_waysWith_1 rfl (lv_at hl 1 rfl) ?_
  refine lv_iload_n hx hb dX7_waysWith_2 rfl (lv_at hl 2 rfl) ?_
  obtain ⟨v1, hv, hf⟩ := ob hf
  refine k_afterI (wr := [(q_ways, .inl (cI, 2048, .inl x_ways))]) (wn := [(q_, .inr (6, [.ref q_view, .ref q_costs, .int x_solvedFor, .int x_lowest, .int x_total, .int x_pricedFor, .ref q_prices, .ref q_rests, .ref q_ways])), (q_view, .inr (8, [.int x_view_posts, .int x_view_roads, .int x_view_weight, .ref q_view_weights, .ref q_view_near, .ref q_view_behind, .ref q_view_ahead])), (q_view_ahead, .inl (cI, 11, .inl x_view_ahead)), (q_costs, .inr (2, [.ref q_view])), (q_prices, .inl (cI, 2048, .inl x_prices)), (q_rests, .inl (cI, 2048, .inl x_rests)), (q_ways, .inl (cI, 2048, .inl x_ways))]) (k_runV (rest := []) (ci := 6) (q0 := 0) hx hb hml hown htb hK hN (c_X7_isBestStep l dC dI cI cZ cN q_ q_view q_costs q_prices q_rests q_ways q_view_weights q_view_near q_view_behind q_view_ahead x_solvedFor x_lowest x_total x_pricedFor x_view_posts x_view_roads x_view_weight x_view_ahead x_prices x_rests i1 i2 v1 hv _) vf_X7_isBestStep t_571 hP hD [0, 1, 2, 3, 4, 5] rfl rfl rfl rfl ⟨(Nat.le_of_ble_eq_true rfl), (Nat.le_of_ble_eq_true rfl)⟩ rfl hl.1 rfl (Nat.le_of_ble_eq_true rfl) dX7_waysWith_3 ⟨Nat.zero_le _, Nat.zero_le _⟩) hA hP hD hS [0, 1, 2, 3, 4, 5] [6] [1, 2, 3, 4, 5, 6, 0] rfl rfl rfl rfl ?_
  clear hP hD hS
  intro H locs hP hD hS
  refine lv_if_eq (tgt := 22) hx hb dX7_waysWith_6 (by decide) (fun c2 => ?_) (fun c2 => ?_)
  · have hf := ip c2 hf
    refine lv_iconst (v := (0 : Int32)) hx hb dX7_waysWith_22 (by decide) ?_
    exact hret _ hf _ _ _ _ rfl dX7_waysWith_23 hP hD hS
  · have hf := im c2 hf
    refine lv_aload_n hx hb dX7_waysWith_9 rfl (lv_at hl 0 rfl) ?_
    refine va_get (D := (dC, dI)) (ci := 6) (v := .ref q_ways) (C := RX7) (T := TX7) (N := 9) hx hb htb inX7 hown hK hP 0 rfl rfl 8 (Nat.le_of_ble_eq_true rfl) (htb _ t_213) (fun _ h9 => h9) rfl dX7_waysWith_10 ?_
    refine lv_iload_n hx hb dX7_waysWith_13 rfl (lv_at hl 1 rfl) ?_
    refine lv_iconst (v := (1 : Int32)) hx hb dX7_waysWith_14 (by decide) ?_
    refine lv_iload_n hx hb dX7_waysWith_15 rfl (lv_at hl 2 rfl) ?_
    refine lv_ishl hx hb dX7_waysWith_16 ?_
    refine lv_ior hx hb dX7_waysWith_17 ?_
    obtain ⟨v3, hv, hf⟩ := ob hf
    refine k_iald hx hb hK hP 6 0 rfl rfl hv dX7_waysWith_18 ?_
    refine lv_goto (tgt := 23) hx hb dX7_waysWith_19 (by decide) ?_
    exact hret _ hf _ _ _ _ rfl dX7_waysWith_23 hP hD hS
theorem uf_X7_pick : UF yX7_pick cX7_pick 9 none 2 := ⟨t_612, t_11, t_613, by decide +kernel, by decide +kernel, by decide +kernel⟩
theorem dX7_pick_0 : decode cX7_pick 0 = .ok (.aload_n 2, 1) := by decide +kernel
theorem dX7_pick_1 : decode cX7_pick 1 = .ok (.invokevirtual 96, 3) := by decide +kernel
theorem dX7_pick_4 : decode cX7_pick 4 = .ok (.iload_n 1, 1) := by decide +kernel
theorem dX7_pick_5 : decode cX7_pick 5 = .ok (.istore_n 3, 1) := by decide +kernel
theorem dX7_pick_6 : decode cX7_pick 6 = .ok (.iconst 0, 1) := by decide +kernel
theorem dX7_pick_7 : decode cX7_pick 7 = .ok (.istore 4, 2) := by decide +kernel
theorem dX7_pick_9 : decode cX7_pick 9 = .ok (.iconst 0, 1) := by decide +kernel
theorem dX7_pick_10 : decode cX7_pick 10 = .ok (.istore 5, 2) := by decide +kernel
theorem dX7_pick_12 : decode cX7_pick 12 = .ok (.iload 5, 2) := by decide +kernel
theorem dX7_pick_14 : decode cX7_pick 14 = .ok (.aload_n 0, 1) := by decide +kernel
theorem dX7_pick_15 : decode cX7_pick 15 = .ok (.getfield 33, 3) := by decide +kernel
theorem dX7_pick_18 : decode cX7_pick 18 = .ok (.getfield 37, 3) := by decide +kernel
theorem dX7_pick_21 : decode cX7_pick 21 = .ok (.if_icmp .ge 88, 3) := by decide +kernel
theorem dX7_pick_24 : decode cX7_pick 24 = .ok (.iconst (-1), 1) := by decide +kernel
theorem dX7_pick_25 : decode cX7_pick 25 = .ok (.istore 6, 2) := by decide +kernel
theorem dX7_pick_27 : decode cX7_pick 27 = .ok (.iconst 0, 1) := by decide +kernel
theorem dX7_pick_28 : decode cX7_pick 28 = .ok (.istore 7, 2) := by decide +kernel
theorem dX7_pick_30 : decode cX7_pick 30 = .ok (.iload 7, 2) := by decide +kernel
theorem dX7_pick_32 : decode cX7_pick 32 = .ok (.aload_n 0, 1) := by decide +kernel
theorem dX7_pick_33 : decode cX7_pick 33 = .ok (.getfield 33, 3) := by decide +kernel
theorem dX7_pick_36 : decode cX7_pick 36 = .ok (.getfield 37, 3) := by decide +kernel
theorem dX7_pick_39 : decode cX7_pick 39 = .ok (.if_icmp .ge 43, 3) := by decide +kernel
theorem dX7_pick_42 : decode cX7_pick 42 = .ok (.iload 6, 2) := by decide +kernel
theorem dX7_pick_44 : decode cX7_pick 44 = .ok (.iconst (-1), 1) := by decide +kernel
theorem dX7_pick_45 : decode cX7_pick 45 = .ok (.if_icmp .ne 37, 3) := by decide +kernel
theorem dX7_pick_48 : decode cX7_pick 48 = .ok (.aload_n 0, 1) := by decide +kernel
theorem dX7_pick_49 : decode cX7_pick 49 = .ok (.iload 4, 2) := by decide +kernel
theorem dX7_pick_51 : decode cX7_pick 51 = .ok (.iload 7, 2) := by decide +kernel
theorem dX7_pick_53 : decode cX7_pick 53 = .ok (.invokevirtual 102, 3) := by decide +kernel
theorem dX7_pick_56 : decode cX7_pick 56 = .ok (.istore 8, 2) := by decide +kernel
theorem dX7_pick_58 : decode cX7_pick 58 = .ok (.iload_n 3, 1) := by decide +kernel
theorem dX7_pick_59 : decode cX7_pick 59 = .ok (.iload 8, 2) := by decide +kernel
theorem dX7_pick_61 : decode cX7_pick 61 = .ok (.if_icmp .ge 10, 3) := by decide +kernel
theorem dX7_pick_64 : decode cX7_pick 64 = .ok (.iload 7, 2) := by decide +kernel
theorem dX7_pick_66 : decode cX7_pick 66 = .ok (.istore 6, 2) := by decide +kernel
theorem dX7_pick_68 : decode cX7_pick 68 = .ok (.goto 8, 3) := by decide +kernel
theorem dX7_pick_71 : decode cX7_pick 71 = .ok (.iload_n 3, 1) := by decide +kernel
theorem dX7_pick_72 : decode cX7_pick 72 = .ok (.iload 8, 2) := by decide +kernel
theorem dX7_pick_74 : decode cX7_pick 74 = .ok (.isub, 1) := by decide +kernel
theorem dX7_pick_75 : decode cX7_pick 75 = .ok (.istore_n 3, 1) := by decide +kernel
theorem dX7_pick_76 : decode cX7_pick 76 = .ok (.iinc 7 1, 3) := by decide +kernel
theorem dX7_pick_79 : decode cX7_pick 79 = .ok (.goto (-49), 3) := by decide +kernel
theorem dX7_pick_82 : decode cX7_pick 82 = .ok (.iload 6, 2) := by decide +kernel
theorem dX7_pick_84 : decode cX7_pick 84 = .ok (.iconst (-1), 1) := by decide +kernel
theorem dX7_pick_85 : decode cX7_pick 85 = .ok (.if_icmp .eq 18, 3) := by decide +kernel
theorem dX7_pick_88 : decode cX7_pick 88 = .ok (.aload_n 2, 1) := by decide +kernel
theorem dX7_pick_89 : decode cX7_pick 89 = .ok (.iload 6, 2) := by decide +kernel
theorem dX7_pick_91 : decode cX7_pick 91 = .ok (.invokevirtual 105, 3) := by decide +kernel
theorem dX7_pick_94 : decode cX7_pick 94 = .ok (.iload 4, 2) := by decide +kernel
theorem dX7_pick_96 : decode cX7_pick 96 = .ok (.iconst 1, 1) := by decide +kernel
theorem dX7_pick_97 : decode cX7_pick 97 = .ok (.iload 6, 2) := by decide +kernel
theorem dX7_pick_99 : decode cX7_pick 99 = .ok (.ishl, 1) := by decide +kernel
theorem dX7_pick_100 : decode cX7_pick 100 = .ok (.ior, 1) := by decide +kernel
theorem dX7_pick_101 : decode cX7_pick 101 = .ok (.istore 4, 2) := by decide +kernel
theorem dX7_pick_103 : decode cX7_pick 103 = .ok (.iinc 5 1, 3) := by decide +kernel
theorem dX7_pick_106 : decode cX7_pick 106 = .ok (.goto (-94), 3) := by decide +kernel
theorem dX7_pick_109 : decode cX7_pick 109 = .ok (.return_, 1) := by decide +kernel
noncomputable def f_X7_pick_L30 (i4 : Int32) (x_solvedFor : Int32) (x_view_posts : Int32) (x_view_ahead : Nat → Int32) (x_prices : Nat → Int32) (x_rests : Nat → Int32) (x_ways : Nat → Int32) (i3 : Int32) (i6 : Int32) (i7 : Int32) : Option ((Int32 × Int32 × Int32) ⊕ (Int32 × Int32)) :=
  if x_view_posts ≤ i7 then (some (.inr (i3, i6))) else (if i6 = (-1 : Int32) then ((f_X7_waysWith x_solvedFor x_view_ahead x_prices x_rests x_ways i4 i7).bind fun v5 =>
  b2 ((if v5 ≤ i3 then (some ((i3 - v5), i6)) else (some (i3, i7)) : Option (Int32 × Int32))) fun t6 t7 =>
  some (.inl (t6, t7, (i7 + (1 : Int32))))) else (some (.inr (i3, i6))))
noncomputable def f_X7_pick_L12 (x_solvedFor : Int32) (x_view_posts : Int32) (x_view_ahead : Nat → Int32) (x_prices : Nat → Int32) (x_rests : Nat → Int32) (x_ways : Nat → Int32) (i3 : Int32) (i4 : Int32) (i5 : Int32) (x_p2_size : Int32) (x_p2_posts : Nat → Int32) : Option ((Int32 × Int32 × Int32 × Int32 × (Nat → Int32)) ⊕ (Int32 × (Nat → Int32))) :=
  if x_view_posts ≤ i5 then (some (.inr (x_p2_size, x_p2_posts))) else (b2 (loopS (fun (s : Int32 × Int32 × Int32) => f_X7_pick_L30 i4 x_solvedFor x_view_posts x_view_ahead x_prices x_rests x_ways s.1 s.2.1 s.2.2) (i3, (-1 : Int32), (0 : Int32))) fun x3 x4 =>
  b3 ((if x4 = (-1 : Int32) then (some (i4, x_p2_size, x_p2_posts)) else (b2 (f_X5_append x_p2_size x_p2_posts x4) fun o11 o12 =>
  some ((i4 ||| ((1 : Int32) <<< (x4 &&& 31))), o11, o12)) : Option (Int32 × Int32 × (Nat → Int32)))) fun t6 t7 t8 =>
  some (.inl (x3, t6, (i5 + (1 : Int32)), t7, t8)))
noncomputable def f_X7_pick (x_solvedFor : Int32) (x_view_posts : Int32) (x_view_ahead : Nat → Int32) (x_prices : Nat → Int32) (x_rests : Nat → Int32) (x_ways : Nat → Int32) (x_p2_size : Int32) (x_p2_posts : Nat → Int32) (i1 : Int32) : Option (Int32 × (Nat → Int32)) :=
  (f_X5_clear x_p2_size).bind fun o1 =>
  b2 (loopS (fun (s : Int32 × Int32 × Int32 × Int32 × (Nat → Int32)) => f_X7_pick_L12 x_solvedFor x_view_posts x_view_ahead x_prices x_rests x_ways s.1 s.2.1 s.2.2.1 s.2.2.2.1 s.2.2.2.2) (i1, (0 : Int32), (0 : Int32), o1, x_p2_posts)) fun x2 x3 =>
  some ((x2, x3))
set_option maxHeartbeats 4000000 in
set_option maxRecDepth 100000 in
theorem c_X7_pick (l : Launch) (dC : Nat → ClassId) (dI : Nat → Nat → Nat) (cI cZ cN : ClassId) (q_ : Nat) (q_view : Nat) (q_costs : Nat) (q_prices : Nat) (q_rests : Nat) (q_ways : Nat) (q_view_weights : Nat) (q_view_near : Nat) (q_view_behind : Nat) (q_view_ahead : Nat) (q_p2 : Nat) (q_p2_posts : Nat) (x_solvedFor : Int32) (x_lowest : Int32) (x_total : Int32) (x_pricedFor : Int32) (x_view_posts : Int32) (x_view_roads : Int32) (x_view_weight : Int32) (x_view_ahead : Nat → Int32) (x_prices : Nat → Int32) (x_rests : Nat → Int32) (x_ways : Nat → Int32) (x_p2_size : Int32) (x_p2_posts : Nat → Int32) (i1 : Int32) (o_p2_size : Int32) (o_p2_posts : Nat → Int32) (hf : f_X7_pick x_solvedFor x_view_posts x_view_ahead x_prices x_rests x_ways x_p2_size x_p2_posts i1 = some (o_p2_size, o_p2_posts)) : CV l yX7_pick cX7_pick 9 none 6 149 (dC, dI) (TY cI cZ cN) [.ref q_, .int i1, .ref q_p2] [(q_, .inr (6, [.ref q_view, .ref q_costs, .int x_solvedFor, .int x_lowest, .int x_total, .int x_pricedFor, .ref q_prices, .ref q_rests, .ref q_ways])), (q_view, .inr (8, [.int x_view_posts, .int x_view_roads, .int x_view_weight, .ref q_view_weights, .ref q_view_near, .ref q_view_behind, .ref q_view_ahead])), (q_view_ahead, .inl (cI, 11, .inl x_view_ahead)), (q_costs, .inr (2, [.ref q_view])), (q_prices, .inl (cI, 2048, .inl x_prices)), (q_rests, .inl (cI, 2048, .inl x_rests)), (q_ways, .inl (cI, 2048, .inl x_ways)), (q_p2, .inr (5, [.ref q_p2_posts, .int x_p2_size])), (q_p2_posts, .inl (cI, 11, .inl x_p2_posts))] [(q_, .inr (6, [.ref q_view, .ref q_costs, .int x_solvedFor, .int x_lowest, .int x_total, .int x_pricedFor, .ref q_prices, .ref q_rests, .ref q_ways])), (q_view, .inr (8, [.int x_view_posts, .int x_view_roads, .int x_view_weight, .ref q_view_weights, .ref q_view_near, .ref q_view_behind, .ref q_view_ahead])), (q_view_ahead, .inl (cI, 11, .inl x_view_ahead)), (q_costs, .inr (2, [.ref q_view])), (q_prices, .inl (cI, 2048, .inl x_prices)), (q_rests, .inl (cI, 2048, .inl x_rests)), (q_ways, .inl (cI, 2048, .inl x_ways)), (q_p2, .inr (5, [.ref q_p2_posts, .int o_p2_size])), (q_p2_posts, .inl (cI, 11, .inl o_p2_posts))] := by
  refine CV.of (by decide) (Nat.le_of_ble_eq_true rfl) ?_
  intro p e s m args below meth c Q A ls hx hb hml hown htb hK hN hA hP hD hS hl hret
  have hown : s.vm.findClass RX7 = some m.cls := hown
  have hl : lv_has ls 9 [(0, .ref q_), (1, .int i1), (2, .ref q_p2)] := hl
  have hret : ∀ (o9_p2_size : Int32) (o9_p2_posts : Nat → Int32), some (o9_p2_size, o9_p2_posts) = some (o_p2_size, o_p2_posts) → ∀ (H : Heap) (locs : List Loc) (pc : Nat) (ls : Array Slot), decode cX7_pick pc = .ok (.return_, 1) → va_P (dC, dI) vwCl [(q_, .inr (6, [.ref q_view, .ref q_costs, .int x_solvedFor, .int x_lowest, .int x_total, .int x_pricedFor, .ref q_prices, .ref q_rests, .ref q_ways])), (q_view, .inr (8, [.int x_view_posts, .int x_view_roads, .int x_view_weight, .ref q_view_weights, .ref q_view_near, .ref q_view_behind, .ref q_view_ahead])), (q_view_ahead, .inl (cI, 11, .inl x_view_ahead)), (q_costs, .inr (2, [.ref q_view])), (q_prices, .inl (cI, 2048, .inl x_prices)), (q_rests, .inl (cI, 2048, .inl x_rests)), (q_ways, .inl (cI, 2048, .inl x_ways)), (q_p2, .inr (5, [.ref q_p2_posts, .int o9_p2_size])), (q_p2_posts, .inl (cI, 11, .inl o9_p2_posts))] H → va_D A [(q_, .inr (6, [.ref q_view, .ref q_costs, .int x_solvedFor, .int x_lowest, .int x_total, .int x_pricedFor, .ref q_prices, .ref q_rests, .ref q_ways])), (q_view, .inr (8, [.int x_view_posts, .int x_view_roads, .int x_view_weight, .ref q_view_weights, .ref q_view_near, .ref q_view_behind, .ref q_view_ahead])), (q_view_ahead, .inl (cI, 11, .inl x_view_ahead)), (q_costs, .inr (2, [.ref q_view])), (q_prices, .inl (cI, 2048, .inl x_prices)), (q_rests, .inl (cI, 2048, .inl x_rests)), (q_ways, .inl (cI, 2048, .inl x_ways)), (q_p2, .inr (5, [.ref q_p2_posts, .int o9_p2_size])), (q_p2_posts, .inl (cI, 11, .inl o9_p2_posts))] → va_S A s.heap H locs → W p l e (rmK 6 149) s m args below meth c H locs 0 0 Q (F0 m pc ls []) := by
    intro o9_p2_size o9_p2_posts h9
    cases h9
    exact hret
  unfold f_X7_pick at hf
  refine lv_aload_n hx hb dX7_pick_0 rfl (lv_at hl 2 rfl) ?_
  obtain ⟨o1, hv, hf⟩ := ob hf
  refine k_afterV (wr := [(q_, .inr (6, [.ref q_view, .ref q_costs, .int x_solvedFor, .int x_lowest, .int x_total, .int x_pricedFor, .ref q_prices, .ref q_rests, .ref q_ways])), (q_view, .inr (8, [.int x_view_posts, .int x_view_roads, .int x_view_weight, .ref q_view_weights, .ref q_view_near, .ref q_view_behind, .ref q_view_ahead])), (q_view_ahead, .inl (cI, 11, .inl x_view_ahead)), (q_costs, .inr (2, [.ref q_view])), (q_prices, .inl (cI, 2048, .inl x_prices)), (q_rests, .inl (cI, 2048, .inl x_rests)), (q_ways, .inl (cI, 2048, .inl x_ways)), (q_p2_posts, .inl (cI, 11, .inl x_p2_posts))]) (wn := [(q_, .inr (6, [.ref q_view, .ref q_costs, .int x_solvedFor, .int x_lowest, .int x_total, .int x_pricedFor, .ref q_prices, .ref q_rests, .ref q_ways])), (q_view, .inr (8, [.int x_view_posts, .int x_view_roads, .int x_view_weight, .ref q_view_weights, .ref q_view_near, .ref q_view_behind, .ref q_view_ahead])), (q_view_ahead, .inl (cI, 11, .inl x_view_ahead)), (q_costs, .inr (2, [.ref q_view])), (q_prices, .inl (cI, 2048, .inl x_prices)), (q_rests, .inl (cI, 2048, .inl x_rests)), (q_ways, .inl (cI, 2048, .inl x_ways)), (q_p2, .inr (5, [.ref q_p2_posts, .int o1])), (q_p2_posts, .inl (cI, 11, .inl x_p2_posts))]) (k_runV (rest := []) (ci := 5) (q0 := 7) hx hb hml hown htb hK hN (c_X5_clear l dC dI cI cZ cN q_p2 q_p2_posts x_p2_size o1 hv _) vf_X5_clear t_614 hP hD [7] rfl rfl rfl rfl ⟨(Nat.le_of_ble_eq_true rfl), (Nat.le_of_ble_eq_true rfl)⟩ rfl hl.1 rfl (Nat.le_of_ble_eq_true rfl) dX7_pick_1 ⟨Nat.zero_le _, Nat.zero_le _⟩) hA hP hD hS [7] [0, 1, 2, 3, 4, 5, 6, 8] [0, 1, 2, 3, 4, 5, 6, 8, 7] rfl rfl rfl rfl ?_
  clear hP hD hS
  intro H locs hP hD hS
  refine lv_iload_n hx hb dX7_pick_4 rfl (lv_at hl 1 rfl) ?_
  refine lv_istore_n (lv' := [(3, .int i1), (0, .ref q_), (1, .int i1), (2, .ref q_p2)]) hx hb dX7_pick_5 rfl hl (by decide) rfl (fun ls hl => ?_)
  refine lv_iconst (v := (0 : Int32)) hx hb dX7_pick_6 (by decide) ?_
  refine lv_istore (lv' := [(4, .int (0 : Int32)), (3, .int i1), (0, .ref q_), (1, .int i1), (2, .ref q_p2)]) hx hb dX7_pick_7 hl (by decide) rfl (fun ls hl => ?_)
  refine lv_iconst (v := (0 : Int32)) hx hb dX7_pick_9 (by decide) ?_
  refine lv_istore (lv' := [(5, .int (0 : Int32)), (4, .int (0 : Int32)), (3, .int i1), (0, .ref q_), (1, .int i1), (2, .ref q_p2)]) hx hb dX7_pick_10 hl (by decide) rfl (fun ls hl => ?_)
  obtain ⟨x2, x3, hL, hf⟩ := ob2 hf
  have kx4 : ∀ (H : Heap) (locs : List Loc) (ls : Array Slot), va_P (dC, dI) vwCl [(q_, .inr (6, [.ref q_view, .ref q_costs, .int x_solvedFor, .int x_lowest, .int x_total, .int x_pricedFor, .ref q_prices, .ref q_rests, .ref q_ways])), (q_view, .inr (8, [.int x_view_posts, .int x_view_roads, .int x_view_weight, .ref q_view_weights, .ref q_view_near, .ref q_view_behind, .ref q_view_ahead])), (q_view_ahead, .inl (cI, 11, .inl x_view_ahead)), (q_costs, .inr (2, [.ref q_view])), (q_prices, .inl (cI, 2048, .inl x_prices)), (q_rests, .inl (cI, 2048, .inl x_rests)), (q_ways, .inl (cI, 2048, .inl x_ways)), (q_p2, .inr (5, [.ref q_p2_posts, .int x2])), (q_p2_posts, .inl (cI, 11, .inl x3))] H → va_D A [(q_, .inr (6, [.ref q_view, .ref q_costs, .int x_solvedFor, .int x_lowest, .int x_total, .int x_pricedFor, .ref q_prices, .ref q_rests, .ref q_ways])), (q_view, .inr (8, [.int x_view_posts, .int x_view_roads, .int x_view_weight, .ref q_view_weights, .ref q_view_near, .ref q_view_behind, .ref q_view_ahead])), (q_view_ahead, .inl (cI, 11, .inl x_view_ahead)), (q_costs, .inr (2, [.ref q_view])), (q_prices, .inl (cI, 2048, .inl x_prices)), (q_rests, .inl (cI, 2048, .inl x_rests)), (q_ways, .inl (cI, 2048, .inl x_ways)), (q_p2, .inr (5, [.ref q_p2_posts, .int x2])), (q_p2_posts, .inl (cI, 11, .inl x3))] → va_S A s.heap H locs → lv_has ls 9 [] → W p l e (rmK 6 149) s m args below meth c H locs 0 0 Q (F0 m 109 ls []) := by
    intro H locs ls hP hD hS hl
    exact hret _ _ hf _ _ _ _ dX7_pick_109 hP hD hS
  obtain ⟨n0, hn0⟩ := loopS_iter hL
  clear hf
  have kl10 : ∀ (n : Nat) (s5 : Int32) (s6 : Int32) (s7 : Int32) (s8 : Int32) (s9 : Nat → Int32), iterS (fun (s : Int32 × Int32 × Int32 × Int32 × (Nat → Int32)) => f_X7_pick_L12 x_solvedFor x_view_posts x_view_ahead x_prices x_rests x_ways s.1 s.2.1 s.2.2.1 s.2.2.2.1 s.2.2.2.2) n (s5, s6, s7, s8, s9) = some (x2, x3) → ∀ (H : Heap) (locs : List Loc) (ls : Array Slot), va_P (dC, dI) vwCl [(q_, .inr (6, [.ref q_view, .ref q_costs, .int x_solvedFor, .int x_lowest, .int x_total, .int x_pricedFor, .ref q_prices, .ref q_rests, .ref q_ways])), (q_view, .inr (8, [.int x_view_posts, .int x_view_roads, .int x_view_weight, .ref q_view_weights, .ref q_view_near, .ref q_view_behind, .ref q_view_ahead])), (q_view_ahead, .inl (cI, 11, .inl x_view_ahead)), (q_costs, .inr (2, [.ref q_view])), (q_prices, .inl (cI, 2048, .inl x_prices)), (q_rests, .inl (cI, 2048, .inl x_rests)), (q_ways, .inl (cI, 2048, .inl x_ways)), (q_p2, .inr (5, [.ref q_p2_posts, .int s8])), (q_p2_posts, .inl (cI, 11, .inl s9))] H → va_D A [(q_, .inr (6, [.ref q_view, .ref q_costs, .int x_solvedFor, .int x_lowest, .int x_total, .int x_pricedFor, .ref q_prices, .ref q_rests, .ref q_ways])), (q_view, .inr (8, [.int x_view_posts, .int x_view_roads, .int x_view_weight, .ref q_view_weights, .ref q_view_near, .ref q_view_behind, .ref q_view_ahead])), (q_view_ahead, .inl (cI, 11, .inl x_view_ahead)), (q_costs, .inr (2, [.ref q_view])), (q_prices, .inl (cI, 2048, .inl x_prices)), (q_rests, .inl (cI, 2048, .inl x_rests)), (q_ways, .inl (cI, 2048, .inl x_ways)), (q_p2, .inr (5, [.ref q_p2_posts, .int s8])), (q_p2_posts, .inl (cI, 11, .inl s9))] → va_S A s.heap H locs → lv_has ls 9 [(0, .ref q_), (2, .ref q_p2), (3, .int s5), (4, .int s6), (5, .int s7)] → W p l e (rmK 6 149) s m args below meth c H locs 0 0 Q (F0 m 12 ls []) := by
    intro n
    induction n with
    | zero =>
      intro s5 s6 s7 s8 s9 hn1
      cases hn1
    | succ n ih1 =>
      intro s5 s6 s7 s8 s9 hn1 H locs ls hP hD hS hl
      obtain ⟨r11, hf, hn1⟩ := it1 hn1
      replace hf : f_X7_pick_L12 x_solvedFor x_view_posts x_view_ahead x_prices x_rests x_ways s5 s6 s7 s8 s9 = some r11 := hf
      unfold f_X7_pick_L12 at hf
      refine lv_iload hx hb dX7_pick_12 (lv_at hl 4 rfl) ?_
      refine lv_aload_n hx hb dX7_pick_14 rfl (lv_at hl 0 rfl) ?_
      refine va_get (D := (dC, dI)) (ci := 6) (v := .ref q_view) (C := RX7) (T := TX7) (N := 9) hx hb htb inX7 hown hK hP 0 rfl rfl 0 (Nat.le_of_ble_eq_true rfl) (htb _ t_217) (u_same (htb _ t_218)) rfl dX7_pick_15 ?_
      refine va_get (D := (dC, dI)) (ci := 8) (v := .int x_view_posts) (C := RX9) (T := TX9) (N := 7) hx hb htb inX9 hown hK hP 1 rfl rfl 0 (Nat.le_of_ble_eq_true rfl) (htb _ t_73) (fun _ h9 => h9) rfl dX7_pick_18 ?_
      refine lv_icmp_ge (tgt := 109) hx hb dX7_pick_21 (by decide) (fun c12 => ?_) (fun c12 => ?_)
      · have hf := ip c12 hf
        cases hf
        cases (itr hn1)
        exact kx4 _ _ _ hP hD hS (lv_sub hl [] rfl)
      · have hf := im c12 hf
        refine lv_iconst (v := (-1 : Int32)) hx hb dX7_pick_24 (by decide) ?_
        refine lv_istore (lv' := [(6, .int (-1 : Int32)), (0, .ref q_), (2, .ref q_p2), (3, .int s5), (4, .int s6), (5, .int s7)]) hx hb dX7_pick_25 hl (by decide) rfl (fun ls hl => ?_)
        refine lv_iconst (v := (0 : Int32)) hx hb dX7_pick_27 (by decide) ?_
        refine lv_istore (lv' := [(7, .int (0 : Int32)), (6, .int (-1 : Int32)), (0, .ref q_), (2, .ref q_p2), (3, .int s5), (4, .int s6), (5, .int s7)]) hx hb dX7_pick_28 hl (by decide) rfl (fun ls hl => ?_)
        obtain ⟨x13, x14, hL, hf⟩ := ob2 hf
        have kx15 : ∀ (H : Heap) (locs : List Loc) (ls : Array Slot), va_P (dC, dI) vwCl [(q_, .inr (6, [.ref q_view, .ref q_costs, .int x_solvedFor, .int x_lowest, .int x_total, .int x_pricedFor, .ref q_prices, .ref q_rests, .ref q_ways])), (q_view, .inr (8, [.int x_view_posts, .int x_view_roads, .int x_view_weight, .ref q_view_weights, .ref q_view_near, .ref q_view_behind, .ref q_view_ahead])), (q_view_ahead, .inl (cI, 11, .inl x_view_ahead)), (q_costs, .inr (2, [.ref q_view])), (q_prices, .inl (cI, 2048, .inl x_prices)), (q_rests, .inl (cI, 2048, .inl x_rests)), (q_ways, .inl (cI, 2048, .inl x_ways)), (q_p2, .inr (5, [.ref q_p2_posts, .int s8])), (q_p2_posts, .inl (cI, 11, .inl s9))] H → va_D A [(q_, .inr (6, [.ref q_view, .ref q_costs, .int x_solvedFor, .int x_lowest, .int x_total, .int x_pricedFor, .ref q_prices, .ref q_rests, .ref q_ways])), (q_view, .inr (8, [.int x_view_posts, .int x_view_roads, .int x_view_weight, .ref q_view_weights, .ref q_view_near, .ref q_view_behind, .ref q_view_ahead])), (q_view_ahead, .inl (cI, 11, .inl x_view_ahead)), (q_costs, .inr (2, [.ref q_view])), (q_prices, .inl (cI, 2048, .inl x_prices)), (q_rests, .inl (cI, 2048, .inl x_rests)), (q_ways, .inl (cI, 2048, .inl x_ways)), (q_p2, .inr (5, [.ref q_p2_posts, .int s8])), (q_p2_posts, .inl (cI, 11, .inl s9))] → va_S A s.heap H locs → lv_has ls 9 [(0, .ref q_), (2, .ref q_p2), (3, .int x13), (4, .int s6), (5, .int s7), (6, .int x14)] → W p l e (rmK 6 149) s m args below meth c H locs 0 0 Q (F0 m 82 ls []) := by
          intro H locs ls hP hD hS hl
          refine lv_iload hx hb dX7_pick_82 (lv_at hl 5 rfl) ?_
          refine lv_iconst (v := (-1 : Int32)) hx hb dX7_pick_84 (by decide) ?_
          obtain ⟨t16, t17, t18, hv, hf⟩ := ob3 hf
          have key19 : ∀ (H : Heap) (locs : List Loc) (ls : Array Slot), va_P (dC, dI) vwCl [(q_, .inr (6, [.ref q_view, .ref q_costs, .int x_solvedFor, .int x_lowest, .int x_total, .int x_pricedFor, .ref q_prices, .ref q_rests, .ref q_ways])), (q_view, .inr (8, [.int x_view_posts, .int x_view_roads, .int x_view_weight, .ref q_view_weights, .ref q_view_near, .ref q_view_behind, .ref q_view_ahead])), (q_view_ahead, .inl (cI, 11, .inl x_view_ahead)), (q_costs, .inr (2, [.ref q_view])), (q_prices, .inl (cI, 2048, .inl x_prices)), (q_rests, .inl (cI, 2048, .inl x_rests)), (q_ways, .inl (cI, 2048, .inl x_ways)), (q_p2, .inr (5, [.ref q_p2_posts, .int t17])), (q_p2_posts, .inl (cI, 11, .inl t18))] H → va_D A [(q_, .inr (6, [.ref q_view, .ref q_costs, .int x_solvedFor, .int x_lowest, .int x_total, .int x_pricedFor, .ref q_prices, .ref q_rests, .ref q_ways])), (q_view, .inr (8, [.int x_view_posts, .int x_view_roads, .int x_view_weight, .ref q_view_weights, .ref q_view_near, .ref q_view_behind, .ref q_view_ahead])), (q_view_ahead, .inl (cI, 11, .inl x_view_ahead)), (q_costs, .inr (2, [.ref q_view])), (q_prices, .inl (cI, 2048, .inl x_prices)), (q_rests, .inl (cI, 2048, .inl x_rests)), (q_ways, .inl (cI, 2048, .inl x_ways)), (q_p2, .inr (5, [.ref q_p2_posts, .int t17])), (q_p2_posts, .inl (cI, 11, .inl t18))] → va_S A s.heap H locs → lv_has ls 9 [(0, .ref q_), (2, .ref q_p2), (3, .int x13), (4, .int t16), (5, .int s7)] → W p l e (rmK 6 149) s m args below meth c H locs 0 0 Q (F0 m 103 ls []) := by
            intro H locs ls hP hD hS hl
            refine lv_iinc (v := (s7 + (1 : Int32))) (lv' := [(5, .int (s7 + (1 : Int32))), (0, .ref q_), (2, .ref q_p2), (3, .int x13), (4, .int t16)]) hx hb dX7_pick_103 hl (k := 4) rfl rfl (by decide) rfl (fun ls hl => ?_)
            refine lv_goto (tgt := 12) hx hb dX7_pick_106 (by decide) ?_
            cases hf
            exact ih1 _ _ _ _ _ (itl hn1) _ _ _ hP hD hS (lv_sub hl [1, 2, 3, 4, 0] rfl)
          replace hf := hv
          refine lv_icmp_eq (tgt := 103) hx hb dX7_pick_85 (by decide) (fun c20 => ?_) (fun c20 => ?_)
          · have hf := ip c20 hf
            cases hf
            exact key19 _ _ _ hP hD hS (lv_sub hl [0, 1, 2, 3, 4] rfl)
          · have hf := im c20 hf
            refine lv_aload_n hx hb dX7_pick_88 rfl (lv_at hl 1 rfl) ?_
            refine lv_iload hx hb dX7_pick_89 (lv_at hl 5 rfl) ?_
            obtain ⟨o21, o22, hv, hf⟩ := ob2 hf
            refine k_afterV (wr := [(q_, .inr (6, [.ref q_view, .ref q_costs, .int x_solvedFor, .int x_lowest, .int x_total, .int x_pricedFor, .ref q_prices, .ref q_rests, .ref q_ways])), (q_view, .inr (8, [.int x_view_posts, .int x_view_roads, .int x_view_weight, .ref q_view_weights, .ref q_view_near, .ref q_view_behind, .ref q_view_ahead])), (q_view_ahead, .inl (cI, 11, .inl x_view_ahead)), (q_costs, .inr (2, [.ref q_view])), (q_prices, .inl (cI, 2048, .inl x_prices)), (q_rests, .inl (cI, 2048, .inl x_rests)), (q_ways, .inl (cI, 2048, .inl x_ways))]) (wn := [(q_, .inr (6, [.ref q_view, .ref q_costs, .int x_solvedFor, .int x_lowest, .int x_total, .int x_pricedFor, .ref q_prices, .ref q_rests, .ref q_ways])), (q_view, .inr (8, [.int x_view_posts, .int x_view_roads, .int x_view_weight, .ref q_view_weights, .ref q_view_near, .ref q_view_behind, .ref q_view_ahead])), (q_view_ahead, .inl (cI, 11, .inl x_view_ahead)), (q_costs, .inr (2, [.ref q_view])), (q_prices, .inl (cI, 2048, .inl x_prices)), (q_rests, .inl (cI, 2048, .inl x_rests)), (q_ways, .inl (cI, 2048, .inl x_ways)), (q_p2, .inr (5, [.ref q_p2_posts, .int o21])), (q_p2_posts, .inl (cI, 11, .inl o22))]) (k_runV (rest := []) (ci := 5) (q0 := 7) hx hb hml hown htb hK hN (c_X5_append l dC dI cI cZ cN q_p2 q_p2_posts s8 s9 x14 o21 o22 hv _) vf_X5_append t_619 hP hD [7, 8] rfl rfl rfl rfl ⟨(Nat.le_of_ble_eq_true rfl), (Nat.le_of_ble_eq_true rfl)⟩ rfl hl.1 rfl (Nat.le_of_ble_eq_true rfl) dX7_pick_91 ⟨Nat.zero_le _, Nat.zero_le _⟩) hA hP hD hS [7, 8] [0, 1, 2, 3, 4, 5, 6] [0, 1, 2, 3, 4, 5, 6, 7, 8] rfl rfl rfl rfl ?_
            clear hP hD hS
            intro H locs hP hD hS
            refine lv_iload hx hb dX7_pick_94 (lv_at hl 3 rfl) ?_
            refine lv_iconst (v := (1 : Int32)) hx hb dX7_pick_96 (by decide) ?_
            refine lv_iload hx hb dX7_pick_97 (lv_at hl 5 rfl) ?_
            refine lv_ishl hx hb dX7_pick_99 ?_
            refine lv_ior hx hb dX7_pick_100 ?_
            refine lv_istore (lv' := [(4, .int (s6 ||| ((1 : Int32) <<< (x14 &&& 31)))), (0, .ref q_), (2, .ref q_p2), (3, .int x13), (5, .int s7), (6, .int x14)]) hx hb dX7_pick_101 hl (by decide) rfl (fun ls hl => ?_)
            cases hf
            exact key19 _ _ _ hP hD hS (lv_sub hl [1, 2, 3, 0, 4] rfl)
        obtain ⟨n0, hn0⟩ := loopS_iter hL
        clear hf
        have kl26 : ∀ (n : Nat) (s23 : Int32) (s24 : Int32) (s25 : Int32), iterS (fun (s : Int32 × Int32 × Int32) => f_X7_pick_L30 s6 x_solvedFor x_view_posts x_view_ahead x_prices x_rests x_ways s.1 s.2.1 s.2.2) n (s23, s24, s25) = some (x13, x14) → ∀ (H : Heap) (locs : List Loc) (ls : Array Slot), va_P (dC, dI) vwCl [(q_, .inr (6, [.ref q_view, .ref q_costs, .int x_solvedFor, .int x_lowest, .int x_total, .int x_pricedFor, .ref q_prices, .ref q_rests, .ref q_ways])), (q_view, .inr (8, [.int x_view_posts, .int x_view_roads, .int x_view_weight, .ref q_view_weights, .ref q_view_near, .ref q_view_behind, .ref q_view_ahead])), (q_view_ahead, .inl (cI, 11, .inl x_view_ahead)), (q_costs, .inr (2, [.ref q_view])), (q_prices, .inl (cI, 2048, .inl x_prices)), (q_rests, .inl (cI, 2048, .inl x_rests)), (q_ways, .inl (cI, 2048, .inl x_ways)), (q_p2, .inr (5, [.ref q_p2_posts, .int s8])), (q_p2_posts, .inl (cI, 11, .inl s9))] H → va_D A [(q_, .inr (6, [.ref q_view, .ref q_costs, .int x_solvedFor, .int x_lowest, .int x_total, .int x_pricedFor, .ref q_prices, .ref q_rests, .ref q_ways])), (q_view, .inr (8, [.int x_view_posts, .int x_view_roads, .int x_view_weight, .ref q_view_weights, .ref q_view_near, .ref q_view_behind, .ref q_view_ahead])), (q_view_ahead, .inl (cI, 11, .inl x_view_ahead)), (q_costs, .inr (2, [.ref q_view])), (q_prices, .inl (cI, 2048, .inl x_prices)), (q_rests, .inl (cI, 2048, .inl x_rests)), (q_ways, .inl (cI, 2048, .inl x_ways)), (q_p2, .inr (5, [.ref q_p2_posts, .int s8])), (q_p2_posts, .inl (cI, 11, .inl s9))] → va_S A s.heap H locs → lv_has ls 9 [(0, .ref q_), (2, .ref q_p2), (3, .int s23), (4, .int s6), (5, .int s7), (6, .int s24), (7, .int s25)] → W p l e (rmK 6 149) s m args below meth c H locs 0 0 Q (F0 m 30 ls []) := by
          intro n
          induction n with
          | zero =>
            intro s23 s24 s25 hn2
            cases hn2
          | succ n ih2 =>
            intro s23 s24 s25 hn2 H locs ls hP hD hS hl
            obtain ⟨r27, hf, hn2⟩ := it1 hn2
            replace hf : f_X7_pick_L30 s6 x_solvedFor x_view_posts x_view_ahead x_prices x_rests x_ways s23 s24 s25 = some r27 := hf
            unfold f_X7_pick_L30 at hf
            refine lv_iload hx hb dX7_pick_30 (lv_at hl 6 rfl) ?_
            refine lv_aload_n hx hb dX7_pick_32 rfl (lv_at hl 0 rfl) ?_
            refine va_get (D := (dC, dI)) (ci := 6) (v := .ref q_view) (C := RX7) (T := TX7) (N := 9) hx hb htb inX7 hown hK hP 0 rfl rfl 0 (Nat.le_of_ble_eq_true rfl) (htb _ t_217) (u_same (htb _ t_218)) rfl dX7_pick_33 ?_
            refine va_get (D := (dC, dI)) (ci := 8) (v := .int x_view_posts) (C := RX9) (T := TX9) (N := 7) hx hb htb inX9 hown hK hP 1 rfl rfl 0 (Nat.le_of_ble_eq_true rfl) (htb _ t_73) (fun _ h9 => h9) rfl dX7_pick_36 ?_
            refine lv_icmp_ge (tgt := 82) hx hb dX7_pick_39 (by decide) (fun c28 => ?_) (fun c28 => ?_)
            · have hf := ip c28 hf
              cases hf
              cases (itr hn2)
              exact kx15 _ _ _ hP hD hS (lv_sub hl [0, 1, 2, 3, 4, 5] rfl)
            · have hf := im c28 hf
              refine lv_iload hx hb dX7_pick_42 (lv_at hl 5 rfl) ?_
              refine lv_iconst (v := (-1 : Int32)) hx hb dX7_pick_44 (by decide) ?_
              refine lv_icmp_ne (tgt := 82) hx hb dX7_pick_45 (by decide) (fun c29 => ?_) (fun c29 => ?_)
              · have hf := im c29 hf
                cases hf
                cases (itr hn2)
                exact kx15 _ _ _ hP hD hS (lv_sub hl [0, 1, 2, 3, 4, 5] rfl)
              · have hf := ip c29 hf
                refine lv_aload_n hx hb dX7_pick_48 rfl (lv_at hl 0 rfl) ?_
                refine lv_iload hx hb dX7_pick_49 (lv_at hl 3 rfl) ?_
                refine lv_iload hx hb dX7_pick_51 (lv_at hl 6 rfl) ?_
                obtain ⟨v30, hv, hf⟩ := ob hf
                refine k_afterI (wr := [(q_p2, .inr (5, [.ref q_p2_posts, .int s8])), (q_p2_posts, .inl (cI, 11, .inl s9))]) (wn := [(q_, .inr (6, [.ref q_view, .ref q_costs, .int x_solvedFor, .int x_lowest, .int x_total, .int x_pricedFor, .ref q_prices, .ref q_rests, .ref q_ways])), (q_view, .inr (8, [.int x_view_posts, .int x_view_roads, .int x_view_weight, .ref q_view_weights, .ref q_view_near, .ref q_view_behind, .ref q_view_ahead])), (q_view_ahead, .inl (cI, 11, .inl x_view_ahead)), (q_costs, .inr (2, [.ref q_view])), (q_prices, .inl (cI, 2048, .inl x_prices)), (q_rests, .inl (cI, 2048, .inl x_rests)), (q_ways, .inl (cI, 2048, .inl x_ways)), (q_p2, .inr (5, [.ref q_p2_posts, .int s8])), (q_p2_posts, .inl (cI, 11, .inl s9))]) (k_runV (rest := []) (ci := 6) (q0 := 0) hx hb hml hown htb hK hN (c_X7_waysWith l dC dI cI cZ cN q_ q_view q_costs q_prices q_rests q_ways q_view_weights q_view_near q_view_behind q_view_ahead x_solvedFor x_lowest x_total x_pricedFor x_view_posts x_view_roads x_view_weight x_view_ahead x_prices x_rests x_ways s6 s25 v30 hv _) vf_X7_waysWith t_615 hP hD [0, 1, 2, 3, 4, 5, 6] rfl rfl rfl rfl ⟨(Nat.le_of_ble_eq_true rfl), (Nat.le_of_ble_eq_true rfl)⟩ rfl hl.1 rfl (Nat.le_of_ble_eq_true rfl) dX7_pick_53 ⟨Nat.zero_le _, Nat.zero_le _⟩) hA hP hD hS [0, 1, 2, 3, 4, 5, 6] [7, 8] [2, 3, 4, 5, 6, 7, 8, 0, 1] rfl rfl rfl rfl ?_
                clear hP hD hS
                intro H locs hP hD hS
                refine lv_istore (lv' := [(8, .int v30), (0, .ref q_), (2, .ref q_p2), (3, .int s23), (4, .int s6), (5, .int s7), (6, .int s24), (7, .int s25)]) hx hb dX7_pick_56 hl (by decide) rfl (fun ls hl => ?_)
                refine lv_iload_n hx hb dX7_pick_58 rfl (lv_at hl 3 rfl) ?_
                refine lv_iload hx hb dX7_pick_59 (lv_at hl 0 rfl) ?_
                obtain ⟨t31, t32, hv, hf⟩ := ob2 hf
                have key33 : ∀ (H : Heap) (locs : List Loc) (ls : Array Slot), va_P (dC, dI) vwCl [(q_, .inr (6, [.ref q_view, .ref q_costs, .int x_solvedFor, .int x_lowest, .int x_total, .int x_pricedFor, .ref q_prices, .ref q_rests, .ref q_ways])), (q_view, .inr (8, [.int x_view_posts, .int x_view_roads, .int x_view_weight, .ref q_view_weights, .ref q_view_near, .ref q_view_behind, .ref q_view_ahead])), (q_view_ahead, .inl (cI, 11, .inl x_view_ahead)), (q_costs, .inr (2, [.ref q_view])), (q_prices, .inl (cI, 2048, .inl x_prices)), (q_rests, .inl (cI, 2048, .inl x_rests)), (q_ways, .inl (cI, 2048, .inl x_ways)), (q_p2, .inr (5, [.ref q_p2_posts, .int s8])), (q_p2_posts, .inl (cI, 11, .inl s9))] H → va_D A [(q_, .inr (6, [.ref q_view, .ref q_costs, .int x_solvedFor, .int x_lowest, .int x_total, .int x_pricedFor, .ref q_prices, .ref q_rests, .ref q_ways])), (q_view, .inr (8, [.int x_view_posts, .int x_view_roads, .int x_view_weight, .ref q_view_weights, .ref q_view_near, .ref q_view_behind, .ref q_view_ahead])), (q_view_ahead, .inl (cI, 11, .inl x_view_ahead)), (q_costs, .inr (2, [.ref q_view])), (q_prices, .inl (cI, 2048, .inl x_prices)), (q_rests, .inl (cI, 2048, .inl x_rests)), (q_ways, .inl (cI, 2048, .inl x_ways)), (q_p2, .inr (5, [.ref q_p2_posts, .int s8])), (q_p2_posts, .inl (cI, 11, .inl s9))] → va_S A s.heap H locs → lv_has ls 9 [(0, .ref q_), (2, .ref q_p2), (3, .int t31), (4, .int s6), (5, .int s7), (6, .int t32), (7, .int s25)] → W p l e (rmK 6 149) s m args below meth c H locs 0 0 Q (F0 m 76 ls []) := by
                  intro H locs ls hP hD hS hl
                  refine lv_iinc (v := (s25 + (1 : Int32))) (lv' := [(7, .int (s25 + (1 : Int32))), (0, .ref q_), (2, .ref q_p2), (3, .int t31), (4, .int s6), (5, .int s7), (6, .int t32)]) hx hb dX7_pick_76 hl (k := 6) rfl rfl (by decide) rfl (fun ls hl => ?_)
                  refine lv_goto (tgt := 30) hx hb dX7_pick_79 (by decide) ?_
                  cases hf
                  exact ih2 _ _ _ (itl hn2) _ _ _ hP hD hS (lv_sub hl [1, 2, 3, 4, 5, 6, 0] rfl)
                replace hf := hv
                refine lv_icmp_ge (tgt := 71) hx hb dX7_pick_61 (by decide) (fun c34 => ?_) (fun c34 => ?_)
                · have hf := ip c34 hf
                  refine lv_iload_n hx hb dX7_pick_71 rfl (lv_at hl 3 rfl) ?_
                  refine lv_iload hx hb dX7_pick_72 (lv_at hl 0 rfl) ?_
                  refine lv_isub hx hb dX7_pick_74 ?_
                  refine lv_istore_n (lv' := [(3, .int (s23 - v30)), (8, .int v30), (0, .ref q_), (2, .ref q_p2), (4, .int s6), (5, .int s7), (6, .int s24), (7, .int s25)]) hx hb dX7_pick_75 rfl hl (by decide) rfl (fun ls hl => ?_)
                  cases hf
                  exact key33 _ _ _ hP hD hS (lv_sub hl [2, 3, 0, 4, 5, 6, 7] rfl)
                · have hf := im c34 hf
                  refine lv_iload hx hb dX7_pick_64 (lv_at hl 7 rfl) ?_
                  refine lv_istore (lv' := [(6, .int s25), (8, .int v30), (0, .ref q_), (2, .ref q_p2), (3, .int s23), (4, .int s6), (5, .int s7), (7, .int s25)]) hx hb dX7_pick_66 hl (by decide) rfl (fun ls hl => ?_)
                  refine lv_goto (tgt := 76) hx hb dX7_pick_68 (by decide) ?_
                  cases hf
                  exact key33 _ _ _ hP hD hS (lv_sub hl [2, 3, 4, 5, 6, 0, 7] rfl)
        exact kl26 n0 _ _ _ hn0 _ _ _ hP hD hS (lv_sub hl [2, 3, 4, 5, 6, 1, 0] rfl)
  exact kl10 n0 _ _ _ _ _ hn0 _ _ _ hP hD hS (lv_sub hl [3, 5, 2, 1, 0] rfl)
theorem uf_X7_numberOf : UF yX7_numberOf cX7_numberOf 7 (some .int) 1 := ⟨t_631, t_11, t_632, by decide +kernel, by decide +kernel, by decide +kernel⟩
theorem dX7_numberOf_0 : decode cX7_numberOf 0 = .ok (.iconst 0, 1) := by decide +kernel
theorem dX7_numberOf_1 : decode cX7_numberOf 1 = .ok (.istore_n 2, 1) := by decide +kernel
theorem dX7_numberOf_2 : decode cX7_numberOf 2 = .ok (.iconst 0, 1) := by decide +kernel
theorem dX7_numberOf_3 : decode cX7_numberOf 3 = .ok (.istore_n 3, 1) := by decide +kernel
theorem dX7_numberOf_4 : decode cX7_numberOf 4 = .ok (.iconst 0, 1) := by decide +kernel
theorem dX7_numberOf_5 : decode cX7_numberOf 5 = .ok (.istore 4, 2) := by decide +kernel
theorem dX7_numberOf_7 : decode cX7_numberOf 7 = .ok (.iload 4, 2) := by decide +kernel
theorem dX7_numberOf_9 : decode cX7_numberOf 9 = .ok (.aload_n 1, 1) := by decide +kernel
theorem dX7_numberOf_10 : decode cX7_numberOf 10 = .ok (.getfield 108, 3) := by decide +kernel
theorem dX7_numberOf_13 : decode cX7_numberOf 13 = .ok (.if_icmp .ge 63, 3) := by decide +kernel
theorem dX7_numberOf_16 : decode cX7_numberOf 16 = .ok (.aload_n 1, 1) := by decide +kernel
theorem dX7_numberOf_17 : decode cX7_numberOf 17 = .ok (.getfield 111, 3) := by decide +kernel
theorem dX7_numberOf_20 : decode cX7_numberOf 20 = .ok (.iload 4, 2) := by decide +kernel
theorem dX7_numberOf_22 : decode cX7_numberOf 22 = .ok (.iaload, 1) := by decide +kernel
theorem dX7_numberOf_23 : decode cX7_numberOf 23 = .ok (.istore 5, 2) := by decide +kernel
theorem dX7_numberOf_25 : decode cX7_numberOf 25 = .ok (.aload_n 0, 1) := by decide +kernel
theorem dX7_numberOf_26 : decode cX7_numberOf 26 = .ok (.iload_n 3, 1) := by decide +kernel
theorem dX7_numberOf_27 : decode cX7_numberOf 27 = .ok (.iload 5, 2) := by decide +kernel
theorem dX7_numberOf_29 : decode cX7_numberOf 29 = .ok (.invokevirtual 89, 3) := by decide +kernel
theorem dX7_numberOf_32 : decode cX7_numberOf 32 = .ok (.ifCond .ne 5, 3) := by decide +kernel
theorem dX7_numberOf_35 : decode cX7_numberOf 35 = .ok (.iconst (-1), 1) := by decide +kernel
theorem dX7_numberOf_36 : decode cX7_numberOf 36 = .ok (.ireturn, 1) := by decide +kernel
theorem dX7_numberOf_37 : decode cX7_numberOf 37 = .ok (.iconst 0, 1) := by decide +kernel
theorem dX7_numberOf_38 : decode cX7_numberOf 38 = .ok (.istore 6, 2) := by decide +kernel
theorem dX7_numberOf_40 : decode cX7_numberOf 40 = .ok (.iload 6, 2) := by decide +kernel
theorem dX7_numberOf_42 : decode cX7_numberOf 42 = .ok (.iload 5, 2) := by decide +kernel
theorem dX7_numberOf_44 : decode cX7_numberOf 44 = .ok (.if_icmp .ge 19, 3) := by decide +kernel
theorem dX7_numberOf_47 : decode cX7_numberOf 47 = .ok (.iload_n 2, 1) := by decide +kernel
theorem dX7_numberOf_48 : decode cX7_numberOf 48 = .ok (.aload_n 0, 1) := by decide +kernel
theorem dX7_numberOf_49 : decode cX7_numberOf 49 = .ok (.iload_n 3, 1) := by decide +kernel
theorem dX7_numberOf_50 : decode cX7_numberOf 50 = .ok (.iload 6, 2) := by decide +kernel
theorem dX7_numberOf_52 : decode cX7_numberOf 52 = .ok (.invokevirtual 102, 3) := by decide +kernel
theorem dX7_numberOf_55 : decode cX7_numberOf 55 = .ok (.iadd, 1) := by decide +kernel
theorem dX7_numberOf_56 : decode cX7_numberOf 56 = .ok (.istore_n 2, 1) := by decide +kernel
theorem dX7_numberOf_57 : decode cX7_numberOf 57 = .ok (.iinc 6 1, 3) := by decide +kernel
theorem dX7_numberOf_60 : decode cX7_numberOf 60 = .ok (.goto (-20), 3) := by decide +kernel
theorem dX7_numberOf_63 : decode cX7_numberOf 63 = .ok (.iload_n 3, 1) := by decide +kernel
theorem dX7_numberOf_64 : decode cX7_numberOf 64 = .ok (.iconst 1, 1) := by decide +kernel
theorem dX7_numberOf_65 : decode cX7_numberOf 65 = .ok (.iload 5, 2) := by decide +kernel
theorem dX7_numberOf_67 : decode cX7_numberOf 67 = .ok (.ishl, 1) := by decide +kernel
theorem dX7_numberOf_68 : decode cX7_numberOf 68 = .ok (.ior, 1) := by decide +kernel
theorem dX7_numberOf_69 : decode cX7_numberOf 69 = .ok (.istore_n 3, 1) := by decide +kernel
theorem dX7_numberOf_70 : decode cX7_numberOf 70 = .ok (.iinc 4 1, 3) := by decide +kernel
theorem dX7_numberOf_73 : decode cX7_numberOf 73 = .ok (.goto (-66), 3) := by decide +kernel
theorem dX7_numberOf_76 : decode cX7_numberOf 76 = .ok (.iload_n 2, 1) := by decide +kernel
theorem dX7_numberOf_77 : decode cX7_numberOf 77 = .ok (.ireturn, 1) := by decide +kernel
noncomputable def f_X7_numberOf_L40 (i3 : Int32) (i5 : Int32) (x_solvedFor : Int32) (x_view_ahead : Nat → Int32) (x_prices : Nat → Int32) (x_rests : Nat → Int32) (x_ways : Nat → Int32) (i2 : Int32) (i6 : Int32) : Option ((Int32 × Int32) ⊕ (Int32)) :=
  if i5 ≤ i6 then (some (.inr i2)) else ((f_X7_waysWith x_solvedFor x_view_ahead x_prices x_rests x_ways i3 i6).bind fun v6 =>
  some (.inl ((i2 + v6), (i6 + (1 : Int32)))))
noncomputable def f_X7_numberOf_L7 (x_solvedFor : Int32) (x_view_ahead : Nat → Int32) (x_prices : Nat → Int32) (x_rests : Nat → Int32) (x_ways : Nat → Int32) (x_p1_size : Int32) (x_p1_posts : Nat → Int32) (i2 : Int32) (i3 : Int32) (i4 : Int32) : Option ((Int32 × Int32 × Int32) ⊕ (Int32)) :=
  if x_p1_size ≤ i4 then (some (.inr (i2))) else ((gi x_p1_posts 11 i4).bind fun v2 =>
  (f_X7_isBestStep x_solvedFor x_view_ahead x_prices x_rests i3 v2).bind fun v3 =>
  if v3 = 0 then (some (.inr ((-1 : Int32)))) else ((loopS (fun (s : Int32 × Int32) => f_X7_numberOf_L40 i3 v2 x_solvedFor x_view_ahead x_prices x_rests x_ways s.1 s.2) (i2, (0 : Int32))).bind fun x5 =>
  some (.inl (x5, (i3 ||| ((1 : Int32) <<< (v2 &&& 31))), (i4 + (1 : Int32))))))
noncomputable def f_X7_numberOf (x_solvedFor : Int32) (x_view_ahead : Nat → Int32) (x_prices : Nat → Int32) (x_rests : Nat → Int32) (x_ways : Nat → Int32) (x_p1_size : Int32) (x_p1_posts : Nat → Int32) : Option (Int32) :=
  loopS (fun (s : Int32 × Int32 × Int32) => f_X7_numberOf_L7 x_solvedFor x_view_ahead x_prices x_rests x_ways x_p1_size x_p1_posts s.1 s.2.1 s.2.2) ((0 : Int32), (0 : Int32), (0 : Int32))
set_option maxHeartbeats 4000000 in
set_option maxRecDepth 100000 in
theorem c_X7_numberOf (l : Launch) (dC : Nat → ClassId) (dI : Nat → Nat → Nat) (cI cZ cN : ClassId) (q_ : Nat) (q_view : Nat) (q_costs : Nat) (q_prices : Nat) (q_rests : Nat) (q_ways : Nat) (q_view_weights : Nat) (q_view_near : Nat) (q_view_behind : Nat) (q_view_ahead : Nat) (q_p1 : Nat) (q_p1_posts : Nat) (x_solvedFor : Int32) (x_lowest : Int32) (x_total : Int32) (x_pricedFor : Int32) (x_view_posts : Int32) (x_view_roads : Int32) (x_view_weight : Int32) (x_view_ahead : Nat → Int32) (x_prices : Nat → Int32) (x_rests : Nat → Int32) (x_ways : Nat → Int32) (x_p1_size : Int32) (x_p1_posts : Nat → Int32) (r : Int32) (hf : f_X7_numberOf x_solvedFor x_view_ahead x_prices x_rests x_ways x_p1_size x_p1_posts = some r) : CI l yX7_numberOf cX7_numberOf 7 (some .int) 6 149 (dC, dI) (TY cI cZ cN) [.ref q_, .ref q_p1] [(q_, .inr (6, [.ref q_view, .ref q_costs, .int x_solvedFor, .int x_lowest, .int x_total, .int x_pricedFor, .ref q_prices, .ref q_rests, .ref q_ways])), (q_view, .inr (8, [.int x_view_posts, .int x_view_roads, .int x_view_weight, .ref q_view_weights, .ref q_view_near, .ref q_view_behind, .ref q_view_ahead])), (q_view_ahead, .inl (cI, 11, .inl x_view_ahead)), (q_costs, .inr (2, [.ref q_view])), (q_prices, .inl (cI, 2048, .inl x_prices)), (q_rests, .inl (cI, 2048, .inl x_rests)), (q_ways, .inl (cI, 2048, .inl x_ways)), (q_p1, .inr (5, [.ref q_p1_posts, .int x_p1_size])), (q_p1_posts, .inl (cI, 11, .inl x_p1_posts))] [(q_, .inr (6, [.ref q_view, .ref q_costs, .int x_solvedFor, .int x_lowest, .int x_total, .int x_pricedFor, .ref q_prices, .ref q_rests, .ref q_ways])), (q_view, .inr (8, [.int x_view_posts, .int x_view_roads, .int x_view_weight, .ref q_view_weights, .ref q_view_near, .ref q_view_behind, .ref q_view_ahead])), (q_view_ahead, .inl (cI, 11, .inl x_view_ahead)), (q_costs, .inr (2, [.ref q_view])), (q_prices, .inl (cI, 2048, .inl x_prices)), (q_rests, .inl (cI, 2048, .inl x_rests)), (q_ways, .inl (cI, 2048, .inl x_ways)), (q_p1, .inr (5, [.ref q_p1_posts, .int x_p1_size])), (q_p1_posts, .inl (cI, 11, .inl x_p1_posts))] r := by
  refine CI.of rfl (by decide) (Nat.le_of_ble_eq_true rfl) ?_
  intro p e s m args below meth c Q A ls hx hb hml hown htb hK hN hA hP hD hS hl hret
  have hown : s.vm.findClass RX7 = some m.cls := hown
  have hl : lv_has ls 7 [(0, .ref q_), (1, .ref q_p1)] := hl
  have hret : ∀ (r9 : Int32), some r9 = some r → ∀ (H : Heap) (locs : List Loc) (pc : Nat) (ls : Array Slot), narrow .int (.int r9) = .int r9 → decode cX7_numberOf pc = .ok (.ireturn, 1) → va_P (dC, dI) vwCl [(q_, .inr (6, [.ref q_view, .ref q_costs, .int x_solvedFor, .int x_lowest, .int x_total, .int x_pricedFor, .ref q_prices, .ref q_rests, .ref q_ways])), (q_view, .inr (8, [.int x_view_posts, .int x_view_roads, .int x_view_weight, .ref q_view_weights, .ref q_view_near, .ref q_view_behind, .ref q_view_ahead])), (q_view_ahead, .inl (cI, 11, .inl x_view_ahead)), (q_costs, .inr (2, [.ref q_view])), (q_prices, .inl (cI, 2048, .inl x_prices)), (q_rests, .inl (cI, 2048, .inl x_rests)), (q_ways, .inl (cI, 2048, .inl x_ways)), (q_p1, .inr (5, [.ref q_p1_posts, .int x_p1_size])), (q_p1_posts, .inl (cI, 11, .inl x_p1_posts))] H → va_D A [(q_, .inr (6, [.ref q_view, .ref q_costs, .int x_solvedFor, .int x_lowest, .int x_total, .int x_pricedFor, .ref q_prices, .ref q_rests, .ref q_ways])), (q_view, .inr (8, [.int x_view_posts, .int x_view_roads, .int x_view_weight, .ref q_view_weights, .ref q_view_near, .ref q_view_behind, .ref q_view_ahead])), (q_view_ahead, .inl (cI, 11, .inl x_view_ahead)), (q_costs, .inr (2, [.ref q_view])), (q_prices, .inl (cI, 2048, .inl x_prices)), (q_rests, .inl (cI, 2048, .inl x_rests)), (q_ways, .inl (cI, 2048, .inl x_ways)), (q_p1, .inr (5, [.ref q_p1_posts, .int x_p1_size])), (q_p1_posts, .inl (cI, 11, .inl x_p1_posts))] → va_S A s.heap H locs → W p l e (rmK 6 149) s m args below meth c H locs 0 0 Q (F0 m pc ls [.int r9]) := by
    intro r9 h9
    cases h9
    exact hret
  unfold f_X7_numberOf at hf
  refine lv_iconst (v := (0 : Int32)) hx hb dX7_numberOf_0 (by decide) ?_
  refine lv_istore_n (lv' := [(2, .int (0 : Int32)), (0, .ref q_), (1, .ref q_p1)]) hx hb dX7_numberOf_1 rfl hl (by decide) rfl (fun ls hl => ?_)
  refine lv_iconst (v := (0 : Int32)) hx hb dX7_numberOf_2 (by decide) ?_
  refine lv_istore_n (lv' := [(3, .int (0 : Int32)), (2, .int (0 : Int32)), (0, .ref q_), (1, .ref q_p1)]) hx hb dX7_numberOf_3 rfl hl (by decide) rfl (fun ls hl => ?_)
  refine lv_iconst (v := (0 : Int32)) hx hb dX7_numberOf_4 (by decide) ?_
  refine lv_istore (lv' := [(4, .int (0 : Int32)), (3, .int (0 : Int32)), (2, .int (0 : Int32)), (0, .ref q_), (1, .ref q_p1)]) hx hb dX7_numberOf_5 hl (by decide) rfl (fun ls hl => ?_)
  obtain ⟨n0, hn0⟩ := loopS_iter hf
  clear hf
  have kl4 : ∀ (n : Nat) (s1 : Int32) (s2 : Int32) (s3 : Int32), iterS (fun (s : Int32 × Int32 × Int32) => f_X7_numberOf_L7 x_solvedFor x_view_ahead x_prices x_rests x_ways x_p1_size x_p1_posts s.1 s.2.1 s.2.2) n (s1, s2, s3) = some r → ∀ (H : Heap) (locs : List Loc) (ls : Array Slot), va_P (dC, dI) vwCl [(q_, .inr (6, [.ref q_view, .ref q_costs, .int x_solvedFor, .int x_lowest, .int x_total, .int x_pricedFor, .ref q_prices, .ref q_rests, .ref q_ways])), (q_view, .inr (8, [.int x_view_posts, .int x_view_roads, .int x_view_weight, .ref q_view_weights, .ref q_view_near, .ref q_view_behind, .ref q_view_ahead])), (q_view_ahead, .inl (cI, 11, .inl x_view_ahead)), (q_costs, .inr (2, [.ref q_view])), (q_prices, .inl (cI, 2048, .inl x_prices)), (q_rests, .inl (cI, 2048, .inl x_rests)), (q_ways, .inl (cI, 2048, .inl x_ways)), (q_p1, .inr (5, [.ref q_p1_posts, .int x_p1_size])), (q_p1_posts, .inl (cI, 11, .inl x_p1_posts))] H → va_D A [(q_, .inr (6, [.ref q_view, .ref q_costs, .int x_solvedFor, .int x_lowest, .int x_total, .int x_pricedFor, .ref q_prices, .ref q_rests, .ref q_ways])), (q_view, .inr (8, [.int x_view_posts, .int x_view_roads, .int x_view_weight, .ref q_view_weights, .ref q_view_near, .ref q_view_behind, .ref q_view_ahead])), (q_view_ahead, .inl (cI, 11, .inl x_view_ahead)), (q_costs, .inr (2, [.ref q_view])), (q_prices, .inl (cI, 2048, .inl x_prices)), (q_rests, .inl (cI, 2048, .inl x_rests)), (q_ways, .inl (cI, 2048, .inl x_ways)), (q_p1, .inr (5, [.ref q_p1_posts, .int x_p1_size])), (q_p1_posts, .inl (cI, 11, .inl x_p1_posts))] → va_S A s.heap H locs → lv_has ls 7 [(0, .ref q_), (1, .ref q_p1), (2, .int s1), (3, .int s2), (4, .int s3)] → W p l e (rmK 6 149) s m args below meth c H locs 0 0 Q (F0 m 7 ls []) := by
    intro n
    induction n with
    | zero =>
      intro s1 s2 s3 hn1
      cases hn1
    | succ n ih1 =>
      intro s1 s2 s3 hn1 H locs ls hP hD hS hl
      obtain ⟨r5, hf, hn1⟩ := it1 hn1
      replace hf : f_X7_numberOf_L7 x_solvedFor x_view_ahead x_prices x_rests x_ways x_p1_size x_p1_posts s1 s2 s3 = some r5 := hf
      unfold f_X7_numberOf_L7 at hf
      refine lv_iload hx hb dX7_numberOf_7 (lv_at hl 4 rfl) ?_
      refine lv_aload_n hx hb dX7_numberOf_9 rfl (lv_at hl 1 rfl) ?_
      refine va_get (D := (dC, dI)) (ci := 5) (v := .int x_p1_size) (C := RX5) (T := TX5) (N := 2) hx hb htb inX5 hown hK hP 7 rfl rfl 1 (Nat.le_of_ble_eq_true rfl) (htb _ t_139) (fun _ h9 => h9) rfl dX7_numberOf_10 ?_
      refine lv_icmp_ge (tgt := 76) hx hb dX7_numberOf_13 (by decide) (fun c6 => ?_) (fun c6 => ?_)
      · have hf := ip c6 hf
        refine lv_iload_n hx hb dX7_numberOf_76 rfl (lv_at hl 2 rfl) ?_
        cases hf
        have hf := congrArg some (itr hn1)
        exact hret _ hf _ _ _ _ rfl dX7_numberOf_77 hP hD hS
      · have hf := im c6 hf
        refine lv_aload_n hx hb dX7_numberOf_16 rfl (lv_at hl 1 rfl) ?_
        refine va_get (D := (dC, dI)) (ci := 5) (v := .ref q_p1_posts) (C := RX5) (T := TX5) (N := 2) hx hb htb inX5 hown hK hP 7 rfl rfl 0 (Nat.le_of_ble_eq_true rfl) (htb _ t_133) (fun _ h9 => h9) rfl dX7_numberOf_17 ?_
        refine lv_iload hx hb dX7_numberOf_20 (lv_at hl 4 rfl) ?_
        obtain ⟨v7, hv, hf⟩ := ob hf
        refine k_iald hx hb hK hP 8 0 rfl rfl hv dX7_numberOf_22 ?_
        refine lv_istore (lv' := [(5, .int v7), (0, .ref q_), (1, .ref q_p1), (2, .int s1), (3, .int s2), (4, .int s3)]) hx hb dX7_numberOf_23 hl (by decide) rfl (fun ls hl => ?_)
        refine lv_aload_n hx hb dX7_numberOf_25 rfl (lv_at hl 1 rfl) ?_
        refine lv_iload_n hx hb dX7_numberOf_26 rfl (lv_at hl 4 rfl) ?_
        refine lv_iload hx hb dX7_numberOf_27 (lv_at hl 0 rfl) ?_
        obtain ⟨v8, hv, hf⟩ := ob hf
        refine k_afterI (wr := [(q_ways, .inl (cI, 2048, .inl x_ways)), (q_p1, .inr (5, [.ref q_p1_posts, .int x_p1_size])), (q_p1_posts, .inl (cI, 11, .inl x_p1_posts))]) (wn := [(q_, .inr (6, [.ref q_view, .ref q_costs, .int x_solvedFor, .int x_lowest, .int x_total, .int x_pricedFor, .ref q_prices, .ref q_rests, .ref q_ways])), (q_view, .inr (8, [.int x_view_posts, .int x_view_roads, .int x_view_weight, .ref q_view_weights, .ref q_view_near, .ref q_view_behind, .ref q_view_ahead])), (q_view_ahead, .inl (cI, 11, .inl x_view_ahead)), (q_costs, .inr (2, [.ref q_view])), (q_prices, .inl (cI, 2048, .inl x_prices)), (q_rests, .inl (cI, 2048, .inl x_rests)), (q_ways, .inl (cI, 2048, .inl x_ways)), (q_p1, .inr (5, [.ref q_p1_posts, .int x_p1_size])), (q_p1_posts, .inl (cI, 11, .inl x_p1_posts))]) (k_runV (rest := []) (ci := 6) (q0 := 0) hx hb hml hown htb hK hN (c_X7_isBestStep l dC dI cI cZ cN q_ q_view q_costs q_prices q_rests q_ways q_view_weights q_view_near q_view_behind q_view_ahead x_solvedFor x_lowest x_total x_pricedFor x_view_posts x_view_roads x_view_weight x_view_ahead x_prices x_rests s2 v7 v8 hv _) vf_X7_isBestStep t_571 hP hD [0, 1, 2, 3, 4, 5] rfl rfl rfl rfl ⟨(Nat.le_of_ble_eq_true rfl), (Nat.le_of_ble_eq_true rfl)⟩ rfl hl.1 rfl (Nat.le_of_ble_eq_true rfl) dX7_numberOf_29 ⟨Nat.zero_le _, Nat.zero_le _⟩) hA hP hD hS [0, 1, 2, 3, 4, 5] [6, 7, 8] [3, 4, 5, 6, 7, 8, 0, 1, 2] rfl rfl rfl rfl ?_
        clear hP hD hS
        intro H locs hP hD hS
        refine lv_if_ne (tgt := 37) hx hb dX7_numberOf_32 (by decide) (fun c9 => ?_) (fun c9 => ?_)
        · have hf := im c9 hf
          refine lv_iconst (v := (0 : Int32)) hx hb dX7_numberOf_37 (by decide) ?_
          refine lv_istore (lv' := [(6, .int (0 : Int32)), (5, .int v7), (0, .ref q_), (1, .ref q_p1), (2, .int s1), (3, .int s2), (4, .int s3)]) hx hb dX7_numberOf_38 hl (by decide) rfl (fun ls hl => ?_)
          obtain ⟨x10, hL, hf⟩ := ob hf
          have kx11 : ∀ (H : Heap) (locs : List Loc) (ls : Array Slot), va_P (dC, dI) vwCl [(q_, .inr (6, [.ref q_view, .ref q_costs, .int x_solvedFor, .int x_lowest, .int x_total, .int x_pricedFor, .ref q_prices, .ref q_rests, .ref q_ways])), (q_view, .inr (8, [.int x_view_posts, .int x_view_roads, .int x_view_weight, .ref q_view_weights, .ref q_view_near, .ref q_view_behind, .ref q_view_ahead])), (q_view_ahead, .inl (cI, 11, .inl x_view_ahead)), (q_costs, .inr (2, [.ref q_view])), (q_prices, .inl (cI, 2048, .inl x_prices)), (q_rests, .inl (cI, 2048, .inl x_rests)), (q_ways, .inl (cI, 2048, .inl x_ways)), (q_p1, .inr (5, [.ref q_p1_posts, .int x_p1_size])), (q_p1_posts, .inl (cI, 11, .inl x_p1_posts))] H → va_D A [(q_, .inr (6, [.ref q_view, .ref q_costs, .int x_solvedFor, .int x_lowest, .int x_total, .int x_pricedFor, .ref q_prices, .ref q_rests, .ref q_ways])), (q_view, .inr (8, [.int x_view_posts, .int x_view_roads, .int x_view_weight, .ref q_view_weights, .ref q_view_near, .ref q_view_behind, .ref q_view_ahead])), (q_view_ahead, .inl (cI, 11, .inl x_view_ahead)), (q_costs, .inr (2, [.ref q_view])), (q_prices, .inl (cI, 2048, .inl x_prices)), (q_rests, .inl (cI, 2048, .inl x_rests)), (q_ways, .inl (cI, 2048, .inl x_ways)), (q_p1, .inr (5, [.ref q_p1_posts, .int x_p1_size])), (q_p1_posts, .inl (cI, 11, .inl x_p1_posts))] → va_S A s.heap H locs → lv_has ls 7 [(0, .ref q_), (1, .ref q_p1), (2, .int x10), (3, .int s2), (4, .int s3), (5, .int v7)] → W p l e (rmK 6 149) s m args below meth c H locs 0 0 Q (F0 m 63 ls []) := by
            intro H locs ls hP hD hS hl
            refine lv_iload_n hx hb dX7_numberOf_63 rfl (lv_at hl 3 rfl) ?_
            refine lv_iconst (v := (1 : Int32)) hx hb dX7_numberOf_64 (by decide) ?_
            refine lv_iload hx hb dX7_numberOf_65 (lv_at hl 5 rfl) ?_
            refine lv_ishl hx hb dX7_numberOf_67 ?_
            refine lv_ior hx hb dX7_numberOf_68 ?_
            refine lv_istore_n (lv' := [(3, .int (s2 ||| ((1 : Int32) <<< (v7 &&& 31)))), (0, .ref q_), (1, .ref q_p1), (2, .int x10), (4, .int s3), (5, .int v7)]) hx hb dX7_numberOf_69 rfl hl (by decide) rfl (fun ls hl => ?_)
            refine lv_iinc (v := (s3 + (1 : Int32))) (lv' := [(4, .int (s3 + (1 : Int32))), (3, .int (s2 ||| ((1 : Int32) <<< (v7 &&& 31)))), (0, .ref q_), (1, .ref q_p1), (2, .int x10), (5, .int v7)]) hx hb dX7_numberOf_70 hl (k := 4) rfl rfl (by decide) rfl (fun ls hl => ?_)
            refine lv_goto (tgt := 7) hx hb dX7_numberOf_73 (by decide) ?_
            cases hf
            exact ih1 _ _ _ (itl hn1) _ _ _ hP hD hS (lv_sub hl [2, 3, 4, 1, 0] rfl)
          obtain ⟨n0, hn0⟩ := loopS_iter hL
          clear hf
          have kl14 : ∀ (n : Nat) (s12 : Int32) (s13 : Int32), iterS (fun (s : Int32 × Int32) => f_X7_numberOf_L40 s2 v7 x_solvedFor x_view_ahead x_prices x_rests x_ways s.1 s.2) n (s12, s13) = some x10 → ∀ (H : Heap) (locs : List Loc) (ls : Array Slot), va_P (dC, dI) vwCl [(q_, .inr (6, [.ref q_view, .ref q_costs, .int x_solvedFor, .int x_lowest, .int x_total, .int x_pricedFor, .ref q_prices, .ref q_rests, .ref q_ways])), (q_view, .inr (8, [.int x_view_posts, .int x_view_roads, .int x_view_weight, .ref q_view_weights, .ref q_view_near, .ref q_view_behind, .ref q_view_ahead])), (q_view_ahead, .inl (cI, 11, .inl x_view_ahead)), (q_costs, .inr (2, [.ref q_view])), (q_prices, .inl (cI, 2048, .inl x_prices)), (q_rests, .inl (cI, 2048, .inl x_rests)), (q_ways, .inl (cI, 2048, .inl x_ways)), (q_p1, .inr (5, [.ref q_p1_posts, .int x_p1_size])), (q_p1_posts, .inl (cI, 11, .inl x_p1_posts))] H → va_D A [(q_, .inr (6, [.ref q_view, .ref q_costs, .int x_solvedFor, .int x_lowest, .int x_total, .int x_pricedFor, .ref q_prices, .ref q_rests, .ref q_ways])), (q_view, .inr (8, [.int x_view_posts, .int x_view_roads, .int x_view_weight, .ref q_view_weights, .ref q_view_near, .ref q_view_behind, .ref q_view_ahead])), (q_view_ahead, .inl (cI, 11, .inl x_view_ahead)), (q_costs, .inr (2, [.ref q_view])), (q_prices, .inl (cI, 2048, .inl x_prices)), (q_rests, .inl (cI, 2048, .inl x_rests)), (q_ways, .inl (cI, 2048, .inl x_ways)), (q_p1, .inr (5, [.ref q_p1_posts, .int x_p1_size])), (q_p1_posts, .inl (cI, 11, .inl x_p1_posts))] → va_S A s.heap H locs → lv_has ls 7 [(0, .ref q_), (1, .ref q_p1), (2, .int s12), (3, .int s2), (4, .int s3), (5, .int v7), (6, .int s13)] → W p l e (rmK 6 149) s m args below meth c H locs 0 0 Q (F0 m 40 ls []) := by
            intro n
            induction n with
            | zero =>
              intro s12 s13 hn2
              cases hn2
            | succ n ih2 =>
              intro s12 s13 hn2 H locs ls hP hD hS hl
              obtain ⟨r15, hf, hn2⟩ := it1 hn2
              replace hf : f_X7_numberOf_L40 s2 v7 x_solvedFor x_view_ahead x_prices x_rests x_ways s12 s13 = some r15 := hf
              unfold f_X7_numberOf_L40 at hf
              refine lv_iload hx hb dX7_numberOf_40 (lv_at hl 6 rfl) ?_
              refine lv_iload hx hb dX7_numberOf_42 (lv_at hl 5 rfl) ?_
              refine lv_icmp_ge (tgt := 63) hx hb dX7_numberOf_44 (by decide) (fun c16 => ?_) (fun c16 => ?_)
              · have hf := ip c16 hf
                cases hf
                cases (itr hn2)
                exact kx11 _ _ _ hP hD hS (lv_sub hl [0, 1, 2, 3, 4, 5] rfl)
              · have hf := im c16 hf
                refine lv_iload_n hx hb dX7_numberOf_47 rfl (lv_at hl 2 rfl) ?_
                refine lv_aload_n hx hb dX7_numberOf_48 rfl (lv_at hl 0 rfl) ?_
                refine lv_iload_n hx hb dX7_numberOf_49 rfl (lv_at hl 3 rfl) ?_
                refine lv_iload hx hb dX7_numberOf_50 (lv_at hl 6 rfl) ?_
                obtain ⟨v17, hv, hf⟩ := ob hf
                refine k_afterI (wr := [(q_p1, .inr (5, [.ref q_p1_posts, .int x_p1_size])), (q_p1_posts, .inl (cI, 11, .inl x_p1_posts))]) (wn := [(q_, .inr (6, [.ref q_view, .ref q_costs, .int x_solvedFor, .int x_lowest, .int x_total, .int x_pricedFor, .ref q_prices, .ref q_rests, .ref q_ways])), (q_view, .inr (8, [.int x_view_posts, .int x_view_roads, .int x_view_weight, .ref q_view_weights, .ref q_view_near, .ref q_view_behind, .ref q_view_ahead])), (q_view_ahead, .inl (cI, 11, .inl x_view_ahead)), (q_costs, .inr (2, [.ref q_view])), (q_prices, .inl (cI, 2048, .inl x_prices)), (q_rests, .inl (cI, 2048, .inl x_rests)), (q_ways, .inl (cI, 2048, .inl x_ways)), (q_p1, .inr (5, [.ref q_p1_posts, .int x_p1_size])), (q_p1_posts, .inl (cI, 11, .inl x_p1_posts))]) (k_runV (rest := [.int s12]) (ci := 6) (q0 := 0) hx hb hml hown htb hK hN (c_X7_waysWith l dC dI cI cZ cN q_ q_view q_costs q_prices q_rests q_ways q_view_weights q_view_near q_view_behind q_view_ahead x_solvedFor x_lowest x_total x_pricedFor x_view_posts x_view_roads x_view_weight x_view_ahead x_prices x_rests x_ways s2 s13 v17 hv _) vf_X7_waysWith t_615 hP hD [0, 1, 2, 3, 4, 5, 6] rfl rfl rfl rfl ⟨(Nat.le_of_ble_eq_true rfl), (Nat.le_of_ble_eq_true rfl)⟩ rfl hl.1 rfl (Nat.le_of_ble_eq_true rfl) dX7_numberOf_52 ⟨Nat.zero_le _, Nat.zero_le _⟩) hA hP hD hS [0, 1, 2, 3, 4, 5, 6] [7, 8] [2, 3, 4, 5, 6, 7, 8, 0, 1] rfl rfl rfl rfl ?_
                clear hP hD hS
                intro H locs hP hD hS
                refine lv_iadd hx hb dX7_numberOf_55 ?_
                refine lv_istore_n (lv' := [(2, .int (s12 + v17)), (0, .ref q_), (1, .ref q_p1), (3, .int s2), (4, .int s3), (5, .int v7), (6, .int s13)]) hx hb dX7_numberOf_56 rfl hl (by decide) rfl (fun ls hl => ?_)
                refine lv_iinc (v := (s13 + (1 : Int32))) (lv' := [(6, .int (s13 + (1 : Int32))), (2, .int (s12 + v17)), (0, .ref q_), (1, .ref q_p1), (3, .int s2), (4, .int s3), (5, .int v7)]) hx hb dX7_numberOf_57 hl (k := 6) rfl rfl (by decide) rfl (fun ls hl => ?_)
                refine lv_goto (tgt := 40) hx hb dX7_numberOf_60 (by decide) ?_
                cases hf
                exact ih2 _ _ (itl hn2) _ _ _ hP hD hS (lv_sub hl [2, 3, 1, 4, 5, 6, 0] rfl)
          exact kl14 n0 _ _ hn0 _ _ _ hP hD hS (lv_sub hl [2, 3, 4, 5, 6, 1, 0] rfl)
        · have hf := ip c9 hf
          refine lv_iconst (v := (-1 : Int32)) hx hb dX7_numberOf_35 (by decide) ?_
          cases hf
          have hf := congrArg some (itr hn1)
          exact hret _ hf _ _ _ _ rfl dX7_numberOf_36 hP hD hS
  exact kl4 n0 _ _ _ hn0 _ _ _ hP hD hS (lv_sub hl [3, 4, 2, 1, 0] rfl)
