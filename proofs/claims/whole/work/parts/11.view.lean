theorem vf_X5_clear : VF yX5_clear cX5_clear 1 none 0 := ⟨t_428, t_429, t_6, t_430, by decide +kernel, by decide +kernel, by decide +kernel⟩
theorem dX5_clear_0 : decode cX5_clear 0 = .ok (.aload_n 0, 1) := by decide +kernel
theorem dX5_clear_1 : decode cX5_clear 1 = .ok (.iconst 0, 1) := by decide +kernel
theorem dX5_clear_2 : decode cX5_clear 2 = .ok (.putfield 15, 3) := by decide +kernel
theorem dX5_clear_5 : decode cX5_clear 5 = .ok (.return_, 1) := by decide +kernel
noncomputable def f_X5_clear (x_size : Int32) : Option (Int32) :=
  some ((0 : Int32))
set_option maxHeartbeats 4000000 in
set_option maxRecDepth 100000 in
theorem c_X5_clear (l : Launch) (dC : Nat → ClassId) (dI : Nat → Nat → Nat) (cI cZ cN : ClassId) (q_ : Nat) (q_posts : Nat) (x_size : Int32) (o_size : Int32) (hf : f_X5_clear x_size = some o_size) : CV l yX5_clear cX5_clear 1 none 2 60 (dC, dI) (TY cI cZ cN) [.ref q_] [(q_, .inr (5, [.ref q_posts, .int x_size]))] [(q_, .inr (5, [.ref q_posts, .int o_size]))] := by
  refine CV.of (by decide) (Nat.le_of_ble_eq_true rfl) ?_
  intro p e s m args below meth c Q A ls hx hb hml hown htb hK hN hA hP hD hS hl hret
  have hown : s.vm.findClass RX5 = some m.cls := hown
  have hl : lv_has ls 1 [(0, .ref q_)] := hl
  have hret : ∀ (o9_size : Int32), some o9_size = some o_size → ∀ (H : Heap) (locs : List Loc) (pc : Nat) (ls : Array Slot), decode cX5_clear pc = .ok (.return_, 1) → va_P (dC, dI) vwCl [(q_, .inr (5, [.ref q_posts, .int o9_size]))] H → va_D A [(q_, .inr (5, [.ref q_posts, .int o9_size]))] → va_S A s.heap H locs → W p l e (rmK 2 60) s m args below meth c H locs 0 0 Q (F0 m pc ls []) := by
    intro o9_size h9
    cases h9
    exact hret
  unfold f_X5_clear at hf
  refine lv_aload_n hx hb dX5_clear_0 rfl (lv_at hl 0 rfl) ?_
  refine lv_iconst (v := (0 : Int32)) hx hb dX5_clear_1 (by decide) ?_
  refine k_put (wn := [(q_, .inr (5, [.ref q_posts, .int (0 : Int32)]))]) (C := RX5) (T := TX5) (N := 2) (ci := 5) hx hb htb inX5 tyX5 tyX5_ok nmX5 hown hK hP hD hS 0 rfl rfl 1 (Nat.le_of_ble_eq_true rfl) t_134 (fun _ h9 => h9) rfl (tyX5_ok 1 (Nat.le_of_ble_eq_true rfl)) (Nat.le_of_ble_eq_true rfl) rfl dX5_clear_2 ?_
  clear hP hD hS
  intro H locs hP hD hS
  exact hret _ hf _ _ _ _ dX5_clear_5 hP hD hS
theorem vf_X5_append : VF yX5_append cX5_append 2 none 1 := ⟨t_440, t_441, t_6, t_442, by decide +kernel, by decide +kernel, by decide +kernel⟩
theorem dX5_append_0 : decode cX5_append 0 = .ok (.aload_n 0, 1) := by decide +kernel
theorem dX5_append_1 : decode cX5_append 1 = .ok (.getfield 15, 3) := by decide +kernel
theorem dX5_append_4 : decode cX5_append 4 = .ok (.bipush 11, 2) := by decide +kernel
theorem dX5_append_6 : decode cX5_append 6 = .ok (.if_icmp .ge 23, 3) := by decide +kernel
theorem dX5_append_9 : decode cX5_append 9 = .ok (.aload_n 0, 1) := by decide +kernel
theorem dX5_append_10 : decode cX5_append 10 = .ok (.getfield 9, 3) := by decide +kernel
theorem dX5_append_13 : decode cX5_append 13 = .ok (.aload_n 0, 1) := by decide +kernel
theorem dX5_append_14 : decode cX5_append 14 = .ok (.getfield 15, 3) := by decide +kernel
theorem dX5_append_17 : decode cX5_append 17 = .ok (.iload_n 1, 1) := by decide +kernel
theorem dX5_append_18 : decode cX5_append 18 = .ok (.iastore, 1) := by decide +kernel
theorem dX5_append_19 : decode cX5_append 19 = .ok (.aload_n 0, 1) := by decide +kernel
theorem dX5_append_20 : decode cX5_append 20 = .ok (.dup, 1) := by decide +kernel
theorem dX5_append_21 : decode cX5_append 21 = .ok (.getfield 15, 3) := by decide +kernel
theorem dX5_append_24 : decode cX5_append 24 = .ok (.iconst 1, 1) := by decide +kernel
theorem dX5_append_25 : decode cX5_append 25 = .ok (.iadd, 1) := by decide +kernel
theorem dX5_append_26 : decode cX5_append 26 = .ok (.putfield 15, 3) := by decide +kernel
theorem dX5_append_29 : decode cX5_append 29 = .ok (.return_, 1) := by decide +kernel
noncomputable def f_X5_append (x_size : Int32) (x_posts : Nat → Int32) (i1 : Int32) : Option (Int32 × (Nat → Int32)) :=
  if (11 : Int32) ≤ x_size then (some ((x_size, x_posts))) else ((si x_posts 11 x_size i1).bind fun v2 =>
  some (((x_size + (1 : Int32)), v2)))
set_option maxHeartbeats 4000000 in
set_option maxRecDepth 100000 in
theorem c_X5_append (l : Launch) (dC : Nat → ClassId) (dI : Nat → Nat → Nat) (cI cZ cN : ClassId) (q_ : Nat) (q_posts : Nat) (x_size : Int32) (x_posts : Nat → Int32) (i1 : Int32) (o_size : Int32) (o_posts : Nat → Int32) (hf : f_X5_append x_size x_posts i1 = some (o_size, o_posts)) : CV l yX5_append cX5_append 2 none 2 60 (dC, dI) (TY cI cZ cN) [.ref q_, .int i1] [(q_, .inr (5, [.ref q_posts, .int x_size])), (q_posts, .inl (cI, 11, .inl x_posts))] [(q_, .inr (5, [.ref q_posts, .int o_size])), (q_posts, .inl (cI, 11, .inl o_posts))] := by
  refine CV.of (by decide) (Nat.le_of_ble_eq_true rfl) ?_
  intro p e s m args below meth c Q A ls hx hb hml hown htb hK hN hA hP hD hS hl hret
  have hown : s.vm.findClass RX5 = some m.cls := hown
  have hl : lv_has ls 2 [(0, .ref q_), (1, .int i1)] := hl
  have hret : ∀ (o9_size : Int32) (o9_posts : Nat → Int32), some (o9_size, o9_posts) = some (o_size, o_posts) → ∀ (H : Heap) (locs : List Loc) (pc : Nat) (ls : Array Slot), decode cX5_append pc = .ok (.return_, 1) → va_P (dC, dI) vwCl [(q_, .inr (5, [.ref q_posts, .int o9_size])), (q_posts, .inl (cI, 11, .inl o9_posts))] H → va_D A [(q_, .inr (5, [.ref q_posts, .int o9_size])), (q_posts, .inl (cI, 11, .inl o9_posts))] → va_S A s.heap H locs → W p l e (rmK 2 60) s m args below meth c H locs 0 0 Q (F0 m pc ls []) := by
    intro o9_size o9_posts h9
    cases h9
    exact hret
  unfold f_X5_append at hf
  refine lv_aload_n hx hb dX5_append_0 rfl (lv_at hl 0 rfl) ?_
  refine va_get (D := (dC, dI)) (ci := 5) (v := .int x_size) (C := RX5) (T := TX5) (N := 2) hx hb htb inX5 hown hK hP 0 rfl rfl 1 (Nat.le_of_ble_eq_true rfl) (htb _ t_134) (fun _ h9 => h9) rfl dX5_append_1 ?_
  refine lv_bipush (v := (11 : Int32)) hx hb dX5_append_4 (by decide) ?_
  refine lv_icmp_ge (tgt := 29) hx hb dX5_append_6 (by decide) (fun c1 => ?_) (fun c1 => ?_)
  · have hf := ip c1 hf
    exact hret _ _ hf _ _ _ _ dX5_append_29 hP hD hS
  · have hf := im c1 hf
    refine lv_aload_n hx hb dX5_append_9 rfl (lv_at hl 0 rfl) ?_
    refine va_get (D := (dC, dI)) (ci := 5) (v := .ref q_posts) (C := RX5) (T := TX5) (N := 2) hx hb htb inX5 hown hK hP 0 rfl rfl 0 (Nat.le_of_ble_eq_true rfl) (htb _ t_128) (fun _ h9 => h9) rfl dX5_append_10 ?_
    refine lv_aload_n hx hb dX5_append_13 rfl (lv_at hl 0 rfl) ?_
    refine va_get (D := (dC, dI)) (ci := 5) (v := .int x_size) (C := RX5) (T := TX5) (N := 2) hx hb htb inX5 hown hK hP 0 rfl rfl 1 (Nat.le_of_ble_eq_true rfl) (htb _ t_134) (fun _ h9 => h9) rfl dX5_append_14 ?_
    refine lv_iload_n hx hb dX5_append_17 rfl (lv_at hl 1 rfl) ?_
    obtain ⟨v2, hv, hf⟩ := ob hf
    refine k_iast (wn := [(q_, .inr (5, [.ref q_posts, .int x_size])), (q_posts, .inl (cI, 11, .inl v2))]) hx hb hK hP hD hS 1 0 rfl rfl hv rfl dX5_append_18 ?_
    clear hP hD hS
    intro H locs hP hD hS
    refine lv_aload_n hx hb dX5_append_19 rfl (lv_at hl 0 rfl) ?_
    refine lv_dup hx hb dX5_append_20 rfl ?_
    refine va_get (D := (dC, dI)) (ci := 5) (v := .int x_size) (C := RX5) (T := TX5) (N := 2) hx hb htb inX5 hown hK hP 0 rfl rfl 1 (Nat.le_of_ble_eq_true rfl) (htb _ t_134) (fun _ h9 => h9) rfl dX5_append_21 ?_
    refine lv_iconst (v := (1 : Int32)) hx hb dX5_append_24 (by decide) ?_
    refine lv_iadd hx hb dX5_append_25 ?_
    refine k_put (wn := [(q_, .inr (5, [.ref q_posts, .int (x_size + (1 : Int32))])), (q_posts, .inl (cI, 11, .inl v2))]) (C := RX5) (T := TX5) (N := 2) (ci := 5) hx hb htb inX5 tyX5 tyX5_ok nmX5 hown hK hP hD hS 0 rfl rfl 1 (Nat.le_of_ble_eq_true rfl) t_134 (fun _ h9 => h9) rfl (tyX5_ok 1 (Nat.le_of_ble_eq_true rfl)) (Nat.le_of_ble_eq_true rfl) rfl dX5_append_26 ?_
    clear hP hD hS
    intro H locs hP hD hS
    exact hret _ _ hf _ _ _ _ dX5_append_29 hP hD hS
theorem vf_X5_dropLast : VF yX5_dropLast cX5_dropLast 1 none 0 := ⟨t_597, t_598, t_6, t_599, by decide +kernel, by decide +kernel, by decide +kernel⟩
theorem dX5_dropLast_0 : decode cX5_dropLast 0 = .ok (.aload_n 0, 1) := by decide +kernel
theorem dX5_dropLast_1 : decode cX5_dropLast 1 = .ok (.getfield 15, 3) := by decide +kernel
theorem dX5_dropLast_4 : decode cX5_dropLast 4 = .ok (.ifCond .le 13, 3) := by decide +kernel
theorem dX5_dropLast_7 : decode cX5_dropLast 7 = .ok (.aload_n 0, 1) := by decide +kernel
theorem dX5_dropLast_8 : decode cX5_dropLast 8 = .ok (.dup, 1) := by decide +kernel
theorem dX5_dropLast_9 : decode cX5_dropLast 9 = .ok (.getfield 15, 3) := by decide +kernel
theorem dX5_dropLast_12 : decode cX5_dropLast 12 = .ok (.iconst 1, 1) := by decide +kernel
theorem dX5_dropLast_13 : decode cX5_dropLast 13 = .ok (.isub, 1) := by decide +kernel
theorem dX5_dropLast_14 : decode cX5_dropLast 14 = .ok (.putfield 15, 3) := by decide +kernel
theorem dX5_dropLast_17 : decode cX5_dropLast 17 = .ok (.return_, 1) := by decide +kernel
noncomputable def f_X5_dropLast (x_size : Int32) : Option (Int32) :=
  if x_size ≤ 0 then (some (x_size)) else (some ((x_size - (1 : Int32))))
set_option maxHeartbeats 4000000 in
set_option maxRecDepth 100000 in
theorem c_X5_dropLast (l : Launch) (dC : Nat → ClassId) (dI : Nat → Nat → Nat) (cI cZ cN : ClassId) (q_ : Nat) (q_posts : Nat) (x_size : Int32) (o_size : Int32) (hf : f_X5_dropLast x_size = some o_size) : CV l yX5_dropLast cX5_dropLast 1 none 2 60 (dC, dI) (TY cI cZ cN) [.ref q_] [(q_, .inr (5, [.ref q_posts, .int x_size]))] [(q_, .inr (5, [.ref q_posts, .int o_size]))] := by
  refine CV.of (by decide) (Nat.le_of_ble_eq_true rfl) ?_
  intro p e s m args below meth c Q A ls hx hb hml hown htb hK hN hA hP hD hS hl hret
  have hown : s.vm.findClass RX5 = some m.cls := hown
  have hl : lv_has ls 1 [(0, .ref q_)] := hl
  have hret : ∀ (o9_size : Int32), some o9_size = some o_size → ∀ (H : Heap) (locs : List Loc) (pc : Nat) (ls : Array Slot), decode cX5_dropLast pc = .ok (.return_, 1) → va_P (dC, dI) vwCl [(q_, .inr (5, [.ref q_posts, .int o9_size]))] H → va_D A [(q_, .inr (5, [.ref q_posts, .int o9_size]))] → va_S A s.heap H locs → W p l e (rmK 2 60) s m args below meth c H locs 0 0 Q (F0 m pc ls []) := by
    intro o9_size h9
    cases h9
    exact hret
  unfold f_X5_dropLast at hf
  refine lv_aload_n hx hb dX5_dropLast_0 rfl (lv_at hl 0 rfl) ?_
  refine va_get (D := (dC, dI)) (ci := 5) (v := .int x_size) (C := RX5) (T := TX5) (N := 2) hx hb htb inX5 hown hK hP 0 rfl rfl 1 (Nat.le_of_ble_eq_true rfl) (htb _ t_134) (fun _ h9 => h9) rfl dX5_dropLast_1 ?_
  refine lv_if_le (tgt := 17) hx hb dX5_dropLast_4 (by decide) (fun c1 => ?_) (fun c1 => ?_)
  · have hf := ip c1 hf
    exact hret _ hf _ _ _ _ dX5_dropLast_17 hP hD hS
  · have hf := im c1 hf
    refine lv_aload_n hx hb dX5_dropLast_7 rfl (lv_at hl 0 rfl) ?_
    refine lv_dup hx hb dX5_dropLast_8 rfl ?_
    refine va_get (D := (dC, dI)) (ci := 5) (v := .int x_size) (C := RX5) (T := TX5) (N := 2) hx hb htb inX5 hown hK hP 0 rfl rfl 1 (Nat.le_of_ble_eq_true rfl) (htb _ t_134) (fun _ h9 => h9) rfl dX5_dropLast_9 ?_
    refine lv_iconst (v := (1 : Int32)) hx hb dX5_dropLast_12 (by decide) ?_
    refine lv_isub hx hb dX5_dropLast_13 ?_
    refine k_put (wn := [(q_, .inr (5, [.ref q_posts, .int (x_size - (1 : Int32))]))]) (C := RX5) (T := TX5) (N := 2) (ci := 5) hx hb htb inX5 tyX5 tyX5_ok nmX5 hown hK hP hD hS 0 rfl rfl 1 (Nat.le_of_ble_eq_true rfl) t_134 (fun _ h9 => h9) rfl (tyX5_ok 1 (Nat.le_of_ble_eq_true rfl)) (Nat.le_of_ble_eq_true rfl) rfl dX5_dropLast_14 ?_
    clear hP hD hS
    intro H locs hP hD hS
    exact hret _ hf _ _ _ _ dX5_dropLast_17 hP hD hS
theorem vf_X5_hasPlace : VF yX5_hasPlace cX5_hasPlace 2 (some .boolean) 1 := ⟨t_448, t_449, t_6, t_450, by decide +kernel, by decide +kernel, by decide +kernel⟩
theorem dX5_hasPlace_0 : decode cX5_hasPlace 0 = .ok (.iload_n 1, 1) := by decide +kernel
theorem dX5_hasPlace_1 : decode cX5_hasPlace 1 = .ok (.ifCond .lt 15, 3) := by decide +kernel
theorem dX5_hasPlace_4 : decode cX5_hasPlace 4 = .ok (.iload_n 1, 1) := by decide +kernel
theorem dX5_hasPlace_5 : decode cX5_hasPlace 5 = .ok (.aload_n 0, 1) := by decide +kernel
theorem dX5_hasPlace_6 : decode cX5_hasPlace 6 = .ok (.getfield 15, 3) := by decide +kernel
theorem dX5_hasPlace_9 : decode cX5_hasPlace 9 = .ok (.if_icmp .ge 7, 3) := by decide +kernel
theorem dX5_hasPlace_12 : decode cX5_hasPlace 12 = .ok (.iconst 1, 1) := by decide +kernel
theorem dX5_hasPlace_13 : decode cX5_hasPlace 13 = .ok (.goto 4, 3) := by decide +kernel
theorem dX5_hasPlace_16 : decode cX5_hasPlace 16 = .ok (.iconst 0, 1) := by decide +kernel
theorem dX5_hasPlace_17 : decode cX5_hasPlace 17 = .ok (.ireturn, 1) := by decide +kernel
noncomputable def f_X5_hasPlace (x_size : Int32) (i1 : Int32) : Option (Int32) :=
  if i1 < 0 then (some ((0 : Int32))) else (if x_size ≤ i1 then (some ((0 : Int32))) else (some ((1 : Int32))))
set_option maxHeartbeats 4000000 in
set_option maxRecDepth 100000 in
theorem c_X5_hasPlace (l : Launch) (dC : Nat → ClassId) (dI : Nat → Nat → Nat) (cI cZ cN : ClassId) (q_ : Nat) (q_posts : Nat) (x_size : Int32) (i1 : Int32) (r : Int32) (hf : f_X5_hasPlace x_size i1 = some r) : CI l yX5_hasPlace cX5_hasPlace 2 (some .boolean) 2 60 (dC, dI) (TY cI cZ cN) [.ref q_, .int i1] [(q_, .inr (5, [.ref q_posts, .int x_size]))] [(q_, .inr (5, [.ref q_posts, .int x_size]))] r := by
  refine CI.of rfl (by decide) (Nat.le_of_ble_eq_true rfl) ?_
  intro p e s m args below meth c Q A ls hx hb hml hown htb hK hN hA hP hD hS hl hret
  have hown : s.vm.findClass RX5 = some m.cls := hown
  have hl : lv_has ls 2 [(0, .ref q_), (1, .int i1)] := hl
  have hret : ∀ (r9 : Int32), some r9 = some r → ∀ (H : Heap) (locs : List Loc) (pc : Nat) (ls : Array Slot), narrow .boolean (.int r9) = .int r9 → decode cX5_hasPlace pc = .ok (.ireturn, 1) → va_P (dC, dI) vwCl [(q_, .inr (5, [.ref q_posts, .int x_size]))] H → va_D A [(q_, .inr (5, [.ref q_posts, .int x_size]))] → va_S A s.heap H locs → W p l e (rmK 2 60) s m args below meth c H locs 0 0 Q (F0 m pc ls [.int r9]) := by
    intro r9 h9
    cases h9
    exact hret
  unfold f_X5_hasPlace at hf
  refine lv_iload_n hx hb dX5_hasPlace_0 rfl (lv_at hl 1 rfl) ?_
  refine lv_if_lt (tgt := 16) hx hb dX5_hasPlace_1 (by decide) (fun c1 => ?_) (fun c1 => ?_)
  · have hf := ip c1 hf
    refine lv_iconst (v := (0 : Int32)) hx hb dX5_hasPlace_16 (by decide) ?_
    exact hret _ hf _ _ _ _ rfl dX5_hasPlace_17 hP hD hS
  · have hf := im c1 hf
    refine lv_iload_n hx hb dX5_hasPlace_4 rfl (lv_at hl 1 rfl) ?_
    refine lv_aload_n hx hb dX5_hasPlace_5 rfl (lv_at hl 0 rfl) ?_
    refine va_get (D := (dC, dI)) (ci := 5) (v := .int x_size) (C := RX5) (T := TX5) (N := 2) hx hb htb inX5 hown hK hP 0 rfl rfl 1 (Nat.le_of_ble_eq_true rfl) (htb _ t_134) (fun _ h9 => h9) rfl dX5_hasPlace_6 ?_
    refine lv_icmp_ge (tgt := 16) hx hb dX5_hasPlace_9 (by decide) (fun c2 => ?_) (fun c2 => ?_)
    · have hf := ip c2 hf
      refine lv_iconst (v := (0 : Int32)) hx hb dX5_hasPlace_16 (by decide) ?_
      exact hret _ hf _ _ _ _ rfl dX5_hasPlace_17 hP hD hS
    · have hf := im c2 hf
      refine lv_iconst (v := (1 : Int32)) hx hb dX5_hasPlace_12 (by decide) ?_
      refine lv_goto (tgt := 17) hx hb dX5_hasPlace_13 (by decide) ?_
      exact hret _ hf _ _ _ _ rfl dX5_hasPlace_17 hP hD hS
theorem vf_X5_placeOf : VF yX5_placeOf cX5_placeOf 3 (some .int) 1 := ⟨t_436, t_437, t_6, t_438, by decide +kernel, by decide +kernel, by decide +kernel⟩
theorem dX5_placeOf_0 : decode cX5_placeOf 0 = .ok (.iconst 0, 1) := by decide +kernel
theorem dX5_placeOf_1 : decode cX5_placeOf 1 = .ok (.istore_n 2, 1) := by decide +kernel
theorem dX5_placeOf_2 : decode cX5_placeOf 2 = .ok (.iload_n 2, 1) := by decide +kernel
theorem dX5_placeOf_3 : decode cX5_placeOf 3 = .ok (.aload_n 0, 1) := by decide +kernel
theorem dX5_placeOf_4 : decode cX5_placeOf 4 = .ok (.getfield 15, 3) := by decide +kernel
theorem dX5_placeOf_7 : decode cX5_placeOf 7 = .ok (.if_icmp .ge 21, 3) := by decide +kernel
theorem dX5_placeOf_10 : decode cX5_placeOf 10 = .ok (.aload_n 0, 1) := by decide +kernel
theorem dX5_placeOf_11 : decode cX5_placeOf 11 = .ok (.getfield 9, 3) := by decide +kernel
theorem dX5_placeOf_14 : decode cX5_placeOf 14 = .ok (.iload_n 2, 1) := by decide +kernel
theorem dX5_placeOf_15 : decode cX5_placeOf 15 = .ok (.iaload, 1) := by decide +kernel
theorem dX5_placeOf_16 : decode cX5_placeOf 16 = .ok (.iload_n 1, 1) := by decide +kernel
theorem dX5_placeOf_17 : decode cX5_placeOf 17 = .ok (.if_icmp .ne 5, 3) := by decide +kernel
theorem dX5_placeOf_20 : decode cX5_placeOf 20 = .ok (.iload_n 2, 1) := by decide +kernel
theorem dX5_placeOf_21 : decode cX5_placeOf 21 = .ok (.ireturn, 1) := by decide +kernel
theorem dX5_placeOf_22 : decode cX5_placeOf 22 = .ok (.iinc 2 1, 3) := by decide +kernel
theorem dX5_placeOf_25 : decode cX5_placeOf 25 = .ok (.goto (-23), 3) := by decide +kernel
theorem dX5_placeOf_28 : decode cX5_placeOf 28 = .ok (.iconst (-1), 1) := by decide +kernel
theorem dX5_placeOf_29 : decode cX5_placeOf 29 = .ok (.ireturn, 1) := by decide +kernel
noncomputable def f_X5_placeOf_L2 (i1 : Int32) (x_size : Int32) (x_posts : Nat → Int32) (i2 : Int32) : Option ((Int32) ⊕ (Int32)) :=
  if x_size ≤ i2 then (some (.inr ((-1 : Int32)))) else ((gi x_posts 11 i2).bind fun v2 =>
  if v2 = i1 then (some (.inr (i2))) else (some (.inl (i2 + (1 : Int32)))))
noncomputable def f_X5_placeOf (x_size : Int32) (x_posts : Nat → Int32) (i1 : Int32) : Option (Int32) :=
  loopS (fun (s : Int32) => f_X5_placeOf_L2 i1 x_size x_posts s) (0 : Int32)
set_option maxHeartbeats 4000000 in
set_option maxRecDepth 100000 in
theorem c_X5_placeOf (l : Launch) (dC : Nat → ClassId) (dI : Nat → Nat → Nat) (cI cZ cN : ClassId) (q_ : Nat) (q_posts : Nat) (x_size : Int32) (x_posts : Nat → Int32) (i1 : Int32) (r : Int32) (hf : f_X5_placeOf x_size x_posts i1 = some r) : CI l yX5_placeOf cX5_placeOf 3 (some .int) 2 60 (dC, dI) (TY cI cZ cN) [.ref q_, .int i1] [(q_, .inr (5, [.ref q_posts, .int x_size])), (q_posts, .inl (cI, 11, .inl x_posts))] [(q_, .inr (5, [.ref q_posts, .int x_size])), (q_posts, .inl (cI, 11, .inl x_posts))] r := by
  refine CI.of rfl (by decide) (Nat.le_of_ble_eq_true rfl) ?_
  intro p e s m args below meth c Q A ls hx hb hml hown htb hK hN hA hP hD hS hl hret
  have hown : s.vm.findClass RX5 = some m.cls := hown
  have hl : lv_has ls 3 [(0, .ref q_), (1, .int i1)] := hl
  have hret : ∀ (r9 : Int32), some r9 = some r → ∀ (H : Heap) (locs : List Loc) (pc : Nat) (ls : Array Slot), narrow .int (.int r9) = .int r9 → decode cX5_placeOf pc = .ok (.ireturn, 1) → va_P (dC, dI) vwCl [(q_, .inr (5, [.ref q_posts, .int x_size])), (q_posts, .inl (cI, 11, .inl x_posts))] H → va_D A [(q_, .inr (5, [.ref q_posts, .int x_size])), (q_posts, .inl (cI, 11, .inl x_posts))] → va_S A s.heap H locs → W p l e (rmK 2 60) s m args below meth c H locs 0 0 Q (F0 m pc ls [.int r9]) := by
    intro r9 h9
    cases h9
    exact hret
  unfold f_X5_placeOf at hf
  refine lv_iconst (v := (0 : Int32)) hx hb dX5_placeOf_0 (by decide) ?_
  refine lv_istore_n (lv' := [(2, .int (0 : Int32)), (0, .ref q_), (1, .int i1)]) hx hb dX5_placeOf_1 rfl hl (by decide) rfl (fun ls hl => ?_)
  obtain ⟨n0, hn0⟩ := loopS_iter hf
  clear hf
  have kl2 : ∀ (n : Nat) (s1 : Int32), iterS (fun (s : Int32) => f_X5_placeOf_L2 i1 x_size x_posts s) n s1 = some r → ∀ (H : Heap) (locs : List Loc) (ls : Array Slot), va_P (dC, dI) vwCl [(q_, .inr (5, [.ref q_posts, .int x_size])), (q_posts, .inl (cI, 11, .inl x_posts))] H → va_D A [(q_, .inr (5, [.ref q_posts, .int x_size])), (q_posts, .inl (cI, 11, .inl x_posts))] → va_S A s.heap H locs → lv_has ls 3 [(0, .ref q_), (1, .int i1), (2, .int s1)] → W p l e (rmK 2 60) s m args below meth c H locs 0 0 Q (F0 m 2 ls []) := by
    intro n
    induction n with
    | zero =>
      intro s1 hn1
      cases hn1
    | succ n ih1 =>
      intro s1 hn1 H locs ls hP hD hS hl
      obtain ⟨r3, hf, hn1⟩ := it1 hn1
      replace hf : f_X5_placeOf_L2 i1 x_size x_posts s1 = some r3 := hf
      unfold f_X5_placeOf_L2 at hf
      refine lv_iload_n hx hb dX5_placeOf_2 rfl (lv_at hl 2 rfl) ?_
      refine lv_aload_n hx hb dX5_placeOf_3 rfl (lv_at hl 0 rfl) ?_
      refine va_get (D := (dC, dI)) (ci := 5) (v := .int x_size) (C := RX5) (T := TX5) (N := 2) hx hb htb inX5 hown hK hP 0 rfl rfl 1 (Nat.le_of_ble_eq_true rfl) (htb _ t_134) (fun _ h9 => h9) rfl dX5_placeOf_4 ?_
      refine lv_icmp_ge (tgt := 28) hx hb dX5_placeOf_7 (by decide) (fun c4 => ?_) (fun c4 => ?_)
      · have hf := ip c4 hf
        refine lv_iconst (v := (-1 : Int32)) hx hb dX5_placeOf_28 (by decide) ?_
        cases hf
        have hf := congrArg some (itr hn1)
        exact hret _ hf _ _ _ _ rfl dX5_placeOf_29 hP hD hS
      · have hf := im c4 hf
        refine lv_aload_n hx hb dX5_placeOf_10 rfl (lv_at hl 0 rfl) ?_
        refine va_get (D := (dC, dI)) (ci := 5) (v := .ref q_posts) (C := RX5) (T := TX5) (N := 2) hx hb htb inX5 hown hK hP 0 rfl rfl 0 (Nat.le_of_ble_eq_true rfl) (htb _ t_128) (fun _ h9 => h9) rfl dX5_placeOf_11 ?_
        refine lv_iload_n hx hb dX5_placeOf_14 rfl (lv_at hl 2 rfl) ?_
        obtain ⟨v5, hv, hf⟩ := ob hf
        refine k_iald hx hb hK hP 1 0 rfl rfl hv dX5_placeOf_15 ?_
        refine lv_iload_n hx hb dX5_placeOf_16 rfl (lv_at hl 1 rfl) ?_
        refine lv_icmp_ne (tgt := 22) hx hb dX5_placeOf_17 (by decide) (fun c6 => ?_) (fun c6 => ?_)
        · have hf := im c6 hf
          refine lv_iinc (v := (s1 + (1 : Int32))) (lv' := [(2, .int (s1 + (1 : Int32))), (0, .ref q_), (1, .int i1)]) hx hb dX5_placeOf_22 hl (k := 2) rfl rfl (by decide) rfl (fun ls hl => ?_)
          refine lv_goto (tgt := 2) hx hb dX5_placeOf_25 (by decide) ?_
          cases hf
          exact ih1 _ (itl hn1) _ _ _ hP hD hS (lv_sub hl [1, 2, 0] rfl)
        · have hf := ip c6 hf
          refine lv_iload_n hx hb dX5_placeOf_20 rfl (lv_at hl 2 rfl) ?_
          cases hf
          have hf := congrArg some (itr hn1)
          exact hret _ hf _ _ _ _ rfl dX5_placeOf_21 hP hD hS
  exact kl2 n0 _ hn0 _ _ _ hP hD hS (lv_sub hl [1, 2, 0] rfl)
theorem vf_X5_isWhole : VF yX5_isWhole cX5_isWhole 3 (some .boolean) 1 := ⟨t_467, t_468, t_6, t_469, by decide +kernel, by decide +kernel, by decide +kernel⟩
theorem dX5_isWhole_0 : decode cX5_isWhole 0 = .ok (.iconst 0, 1) := by decide +kernel
theorem dX5_isWhole_1 : decode cX5_isWhole 1 = .ok (.istore_n 2, 1) := by decide +kernel
theorem dX5_isWhole_2 : decode cX5_isWhole 2 = .ok (.iload_n 2, 1) := by decide +kernel
theorem dX5_isWhole_3 : decode cX5_isWhole 3 = .ok (.aload_n 0, 1) := by decide +kernel
theorem dX5_isWhole_4 : decode cX5_isWhole 4 = .ok (.getfield 15, 3) := by decide +kernel
theorem dX5_isWhole_7 : decode cX5_isWhole 7 = .ok (.if_icmp .ge 21, 3) := by decide +kernel
theorem dX5_isWhole_10 : decode cX5_isWhole 10 = .ok (.aload_n 0, 1) := by decide +kernel
theorem dX5_isWhole_11 : decode cX5_isWhole 11 = .ok (.getfield 9, 3) := by decide +kernel
theorem dX5_isWhole_14 : decode cX5_isWhole 14 = .ok (.iload_n 2, 1) := by decide +kernel
theorem dX5_isWhole_15 : decode cX5_isWhole 15 = .ok (.iaload, 1) := by decide +kernel
theorem dX5_isWhole_16 : decode cX5_isWhole 16 = .ok (.iload_n 1, 1) := by decide +kernel
theorem dX5_isWhole_17 : decode cX5_isWhole 17 = .ok (.if_icmp .lt 5, 3) := by decide +kernel
theorem dX5_isWhole_20 : decode cX5_isWhole 20 = .ok (.iconst 0, 1) := by decide +kernel
theorem dX5_isWhole_21 : decode cX5_isWhole 21 = .ok (.ireturn, 1) := by decide +kernel
theorem dX5_isWhole_22 : decode cX5_isWhole 22 = .ok (.iinc 2 1, 3) := by decide +kernel
theorem dX5_isWhole_25 : decode cX5_isWhole 25 = .ok (.goto (-23), 3) := by decide +kernel
theorem dX5_isWhole_28 : decode cX5_isWhole 28 = .ok (.aload_n 0, 1) := by decide +kernel
theorem dX5_isWhole_29 : decode cX5_isWhole 29 = .ok (.getfield 15, 3) := by decide +kernel
theorem dX5_isWhole_32 : decode cX5_isWhole 32 = .ok (.iload_n 1, 1) := by decide +kernel
theorem dX5_isWhole_33 : decode cX5_isWhole 33 = .ok (.if_icmp .ne 7, 3) := by decide +kernel
theorem dX5_isWhole_36 : decode cX5_isWhole 36 = .ok (.iconst 1, 1) := by decide +kernel
theorem dX5_isWhole_37 : decode cX5_isWhole 37 = .ok (.goto 4, 3) := by decide +kernel
theorem dX5_isWhole_40 : decode cX5_isWhole 40 = .ok (.iconst 0, 1) := by decide +kernel
theorem dX5_isWhole_41 : decode cX5_isWhole 41 = .ok (.ireturn, 1) := by decide +kernel
noncomputable def f_X5_isWhole_L2 (i1 : Int32) (x_size : Int32) (x_posts : Nat → Int32) (i2 : Int32) : Option ((Int32) ⊕ (Int32)) :=
  if x_size ≤ i2 then (if x_size = i1 then (some (.inr ((1 : Int32)))) else (some (.inr ((0 : Int32))))) else ((gi x_posts 11 i2).bind fun v3 =>
  if v3 < i1 then (some (.inl (i2 + (1 : Int32)))) else (some (.inr ((0 : Int32)))))
noncomputable def f_X5_isWhole (x_size : Int32) (x_posts : Nat → Int32) (i1 : Int32) : Option (Int32) :=
  loopS (fun (s : Int32) => f_X5_isWhole_L2 i1 x_size x_posts s) (0 : Int32)
set_option maxHeartbeats 4000000 in
set_option maxRecDepth 100000 in
theorem c_X5_isWhole (l : Launch) (dC : Nat → ClassId) (dI : Nat → Nat → Nat) (cI cZ cN : ClassId) (q_ : Nat) (q_posts : Nat) (x_size : Int32) (x_posts : Nat → Int32) (i1 : Int32) (r : Int32) (hf : f_X5_isWhole x_size x_posts i1 = some r) : CI l yX5_isWhole cX5_isWhole 3 (some .boolean) 2 60 (dC, dI) (TY cI cZ cN) [.ref q_, .int i1] [(q_, .inr (5, [.ref q_posts, .int x_size])), (q_posts, .inl (cI, 11, .inl x_posts))] [(q_, .inr (5, [.ref q_posts, .int x_size])), (q_posts, .inl (cI, 11, .inl x_posts))] r := by
  refine CI.of rfl (by decide) (Nat.le_of_ble_eq_true rfl) ?_
  intro p e s m args below meth c Q A ls hx hb hml hown htb hK hN hA hP hD hS hl hret
  have hown : s.vm.findClass RX5 = some m.cls := hown
  have hl : lv_has ls 3 [(0, .ref q_), (1, .int i1)] := hl
  have hret : ∀ (r9 : Int32), some r9 = some r → ∀ (H : Heap) (locs : List Loc) (pc : Nat) (ls : Array Slot), narrow .boolean (.int r9) = .int r9 → decode cX5_isWhole pc = .ok (.ireturn, 1) → va_P (dC, dI) vwCl [(q_, .inr (5, [.ref q_posts, .int x_size])), (q_posts, .inl (cI, 11, .inl x_posts))] H → va_D A [(q_, .inr (5, [.ref q_posts, .int x_size])), (q_posts, .inl (cI, 11, .inl x_posts))] → va_S A s.heap H locs → W p l e (rmK 2 60) s m args below meth c H locs 0 0 Q (F0 m pc ls [.int r9]) := by
    intro r9 h9
    cases h9
    exact hret
  unfold f_X5_isWhole at hf
  refine lv_iconst (v := (0 : Int32)) hx hb dX5_isWhole_0 (by decide) ?_
  refine lv_istore_n (lv' := [(2, .int (0 : Int32)), (0, .ref q_), (1, .int i1)]) hx hb dX5_isWhole_1 rfl hl (by decide) rfl (fun ls hl => ?_)
  obtain ⟨n0, hn0⟩ := loopS_iter hf
  clear hf
  have kl2 : ∀ (n : Nat) (s1 : Int32), iterS (fun (s : Int32) => f_X5_isWhole_L2 i1 x_size x_posts s) n s1 = some r → ∀ (H : Heap) (locs : List Loc) (ls : Array Slot), va_P (dC, dI) vwCl [(q_, .inr (5, [.ref q_posts, .int x_size])), (q_posts, .inl (cI, 11, .inl x_posts))] H → va_D A [(q_, .inr (5, [.ref q_posts, .int x_size])), (q_posts, .inl (cI, 11, .inl x_posts))] → va_S A s.heap H locs → lv_has ls 3 [(0, .ref q_), (1, .int i1), (2, .int s1)] → W p l e (rmK 2 60) s m args below meth c H locs 0 0 Q (F0 m 2 ls []) := by
    intro n
    induction n with
    | zero =>
      intro s1 hn1
      cases hn1
    | succ n ih1 =>
      intro s1 hn1 H locs ls hP hD hS hl
      obtain ⟨r3, hf, hn1⟩ := it1 hn1
      replace hf : f_X5_isWhole_L2 i1 x_size x_posts s1 = some r3 := hf
      unfold f_X5_isWhole_L2 at hf
      refine lv_iload_n hx hb dX5_isWhole_2 rfl (lv_at hl 2 rfl) ?_
      refine lv_aload_n hx hb dX5_isWhole_3 rfl (lv_at hl 0 rfl) ?_
      refine va_get (D := (dC, dI)) (ci := 5) (v := .int x_size) (C := RX5) (T := TX5) (N := 2) hx hb htb inX5 hown hK hP 0 rfl rfl 1 (Nat.le_of_ble_eq_true rfl) (htb _ t_134) (fun _ h9 => h9) rfl dX5_isWhole_4 ?_
      refine lv_icmp_ge (tgt := 28) hx hb dX5_isWhole_7 (by decide) (fun c4 => ?_) (fun c4 => ?_)
      · have hf := ip c4 hf
        refine lv_aload_n hx hb dX5_isWhole_28 rfl (lv_at hl 0 rfl) ?_
        refine va_get (D := (dC, dI)) (ci := 5) (v := .int x_size) (C := RX5) (T := TX5) (N := 2) hx hb htb inX5 hown hK hP 0 rfl rfl 1 (Nat.le_of_ble_eq_true rfl) (htb _ t_134) (fun _ h9 => h9) rfl dX5_isWhole_29 ?_
        refine lv_iload_n hx hb dX5_isWhole_32 rfl (lv_at hl 1 rfl) ?_
        refine lv_icmp_ne (tgt := 40) hx hb dX5_isWhole_33 (by decide) (fun c5 => ?_) (fun c5 => ?_)
        · have hf := im c5 hf
          refine lv_iconst (v := (0 : Int32)) hx hb dX5_isWhole_40 (by decide) ?_
          cases hf
          have hf := congrArg some (itr hn1)
          exact hret _ hf _ _ _ _ rfl dX5_isWhole_41 hP hD hS
        · have hf := ip c5 hf
          refine lv_iconst (v := (1 : Int32)) hx hb dX5_isWhole_36 (by decide) ?_
          refine lv_goto (tgt := 41) hx hb dX5_isWhole_37 (by decide) ?_
          cases hf
          have hf := congrArg some (itr hn1)
          exact hret _ hf _ _ _ _ rfl dX5_isWhole_41 hP hD hS
      · have hf := im c4 hf
        refine lv_aload_n hx hb dX5_isWhole_10 rfl (lv_at hl 0 rfl) ?_
        refine va_get (D := (dC, dI)) (ci := 5) (v := .ref q_posts) (C := RX5) (T := TX5) (N := 2) hx hb htb inX5 hown hK hP 0 rfl rfl 0 (Nat.le_of_ble_eq_true rfl) (htb _ t_128) (fun _ h9 => h9) rfl dX5_isWhole_11 ?_
        refine lv_iload_n hx hb dX5_isWhole_14 rfl (lv_at hl 2 rfl) ?_
        obtain ⟨v6, hv, hf⟩ := ob hf
        refine k_iald hx hb hK hP 1 0 rfl rfl hv dX5_isWhole_15 ?_
        refine lv_iload_n hx hb dX5_isWhole_16 rfl (lv_at hl 1 rfl) ?_
        refine lv_icmp_lt (tgt := 22) hx hb dX5_isWhole_17 (by decide) (fun c7 => ?_) (fun c7 => ?_)
        · have hf := ip c7 hf
          refine lv_iinc (v := (s1 + (1 : Int32))) (lv' := [(2, .int (s1 + (1 : Int32))), (0, .ref q_), (1, .int i1)]) hx hb dX5_isWhole_22 hl (k := 2) rfl rfl (by decide) rfl (fun ls hl => ?_)
          refine lv_goto (tgt := 2) hx hb dX5_isWhole_25 (by decide) ?_
          cases hf
          exact ih1 _ (itl hn1) _ _ _ hP hD hS (lv_sub hl [1, 2, 0] rfl)
        · have hf := im c7 hf
          refine lv_iconst (v := (0 : Int32)) hx hb dX5_isWhole_20 (by decide) ?_
          cases hf
          have hf := congrArg some (itr hn1)
          exact hret _ hf _ _ _ _ rfl dX5_isWhole_21 hP hD hS
  exact kl2 n0 _ hn0 _ _ _ hP hD hS (lv_sub hl [1, 2, 0] rfl)
theorem vf_X5_shift : VF yX5_shift cX5_shift 5 none 2 := ⟨t_456, t_457, t_6, t_458, by decide +kernel, by decide +kernel, by decide +kernel⟩
theorem dX5_shift_0 : decode cX5_shift 0 = .ok (.aload_n 0, 1) := by decide +kernel
theorem dX5_shift_1 : decode cX5_shift 1 = .ok (.getfield 9, 3) := by decide +kernel
theorem dX5_shift_4 : decode cX5_shift 4 = .ok (.iload_n 1, 1) := by decide +kernel
theorem dX5_shift_5 : decode cX5_shift 5 = .ok (.iaload, 1) := by decide +kernel
theorem dX5_shift_6 : decode cX5_shift 6 = .ok (.istore_n 3, 1) := by decide +kernel
theorem dX5_shift_7 : decode cX5_shift 7 = .ok (.iload_n 1, 1) := by decide +kernel
theorem dX5_shift_8 : decode cX5_shift 8 = .ok (.istore 4, 2) := by decide +kernel
theorem dX5_shift_10 : decode cX5_shift 10 = .ok (.iload 4, 2) := by decide +kernel
theorem dX5_shift_12 : decode cX5_shift 12 = .ok (.iload_n 2, 1) := by decide +kernel
theorem dX5_shift_13 : decode cX5_shift 13 = .ok (.if_icmp .ge 25, 3) := by decide +kernel
theorem dX5_shift_16 : decode cX5_shift 16 = .ok (.aload_n 0, 1) := by decide +kernel
theorem dX5_shift_17 : decode cX5_shift 17 = .ok (.getfield 9, 3) := by decide +kernel
theorem dX5_shift_20 : decode cX5_shift 20 = .ok (.iload 4, 2) := by decide +kernel
theorem dX5_shift_22 : decode cX5_shift 22 = .ok (.aload_n 0, 1) := by decide +kernel
theorem dX5_shift_23 : decode cX5_shift 23 = .ok (.getfield 9, 3) := by decide +kernel
theorem dX5_shift_26 : decode cX5_shift 26 = .ok (.iload 4, 2) := by decide +kernel
theorem dX5_shift_28 : decode cX5_shift 28 = .ok (.iconst 1, 1) := by decide +kernel
theorem dX5_shift_29 : decode cX5_shift 29 = .ok (.iadd, 1) := by decide +kernel
theorem dX5_shift_30 : decode cX5_shift 30 = .ok (.iaload, 1) := by decide +kernel
theorem dX5_shift_31 : decode cX5_shift 31 = .ok (.iastore, 1) := by decide +kernel
theorem dX5_shift_32 : decode cX5_shift 32 = .ok (.iinc 4 1, 3) := by decide +kernel
theorem dX5_shift_35 : decode cX5_shift 35 = .ok (.goto (-25), 3) := by decide +kernel
theorem dX5_shift_38 : decode cX5_shift 38 = .ok (.iload_n 1, 1) := by decide +kernel
theorem dX5_shift_39 : decode cX5_shift 39 = .ok (.istore 4, 2) := by decide +kernel
theorem dX5_shift_41 : decode cX5_shift 41 = .ok (.iload 4, 2) := by decide +kernel
theorem dX5_shift_43 : decode cX5_shift 43 = .ok (.iload_n 2, 1) := by decide +kernel
theorem dX5_shift_44 : decode cX5_shift 44 = .ok (.if_icmp .le 25, 3) := by decide +kernel
theorem dX5_shift_47 : decode cX5_shift 47 = .ok (.aload_n 0, 1) := by decide +kernel
theorem dX5_shift_48 : decode cX5_shift 48 = .ok (.getfield 9, 3) := by decide +kernel
theorem dX5_shift_51 : decode cX5_shift 51 = .ok (.iload 4, 2) := by decide +kernel
theorem dX5_shift_53 : decode cX5_shift 53 = .ok (.aload_n 0, 1) := by decide +kernel
theorem dX5_shift_54 : decode cX5_shift 54 = .ok (.getfield 9, 3) := by decide +kernel
theorem dX5_shift_57 : decode cX5_shift 57 = .ok (.iload 4, 2) := by decide +kernel
theorem dX5_shift_59 : decode cX5_shift 59 = .ok (.iconst 1, 1) := by decide +kernel
theorem dX5_shift_60 : decode cX5_shift 60 = .ok (.isub, 1) := by decide +kernel
theorem dX5_shift_61 : decode cX5_shift 61 = .ok (.iaload, 1) := by decide +kernel
theorem dX5_shift_62 : decode cX5_shift 62 = .ok (.iastore, 1) := by decide +kernel
theorem dX5_shift_63 : decode cX5_shift 63 = .ok (.iinc 4 (-1), 3) := by decide +kernel
theorem dX5_shift_66 : decode cX5_shift 66 = .ok (.goto (-25), 3) := by decide +kernel
theorem dX5_shift_69 : decode cX5_shift 69 = .ok (.aload_n 0, 1) := by decide +kernel
theorem dX5_shift_70 : decode cX5_shift 70 = .ok (.getfield 9, 3) := by decide +kernel
theorem dX5_shift_73 : decode cX5_shift 73 = .ok (.iload_n 2, 1) := by decide +kernel
theorem dX5_shift_74 : decode cX5_shift 74 = .ok (.iload_n 3, 1) := by decide +kernel
theorem dX5_shift_75 : decode cX5_shift 75 = .ok (.iastore, 1) := by decide +kernel
theorem dX5_shift_76 : decode cX5_shift 76 = .ok (.return_, 1) := by decide +kernel
noncomputable def f_X5_shift_L10 (i2 : Int32) (i4 : Int32) (x_posts : Nat → Int32) : Option ((Int32 × (Nat → Int32)) ⊕ ((Nat → Int32))) :=
  if i2 ≤ i4 then (some (.inr x_posts)) else ((gi x_posts 11 (i4 + (1 : Int32))).bind fun v3 =>
  (si x_posts 11 i4 v3).bind fun v4 =>
  some (.inl ((i4 + (1 : Int32)), v4)))
noncomputable def f_X5_shift_L41 (i2 : Int32) (i4 : Int32) (x_posts : Nat → Int32) : Option ((Int32 × (Nat → Int32)) ⊕ ((Nat → Int32))) :=
  if i4 ≤ i2 then (some (.inr x_posts)) else ((gi x_posts 11 (i4 - (1 : Int32))).bind fun v5 =>
  (si x_posts 11 i4 v5).bind fun v6 =>
  some (.inl ((i4 + (-1 : Int32)), v6)))
noncomputable def f_X5_shift (x_posts : Nat → Int32) (i1 : Int32) (i2 : Int32) : Option ((Nat → Int32)) :=
  (gi x_posts 11 i1).bind fun v1 =>
  (loopS (fun (s : Int32 × (Nat → Int32)) => f_X5_shift_L10 i2 s.1 s.2) (i1, x_posts)).bind fun x2 =>
  (loopS (fun (s : Int32 × (Nat → Int32)) => f_X5_shift_L41 i2 s.1 s.2) (i1, x2)).bind fun x4 =>
  (si x4 11 i2 v1).bind fun v6 =>
  some (v6)
set_option maxHeartbeats 4000000 in
set_option maxRecDepth 100000 in
theorem c_X5_shift (l : Launch) (dC : Nat → ClassId) (dI : Nat → Nat → Nat) (cI cZ cN : ClassId) (q_ : Nat) (q_posts : Nat) (x_size : Int32) (x_posts : Nat → Int32) (i1 i2 : Int32) (o_posts : Nat → Int32) (hf : f_X5_shift x_posts i1 i2 = some o_posts) : CV l yX5_shift cX5_shift 5 none 2 60 (dC, dI) (TY cI cZ cN) [.ref q_, .int i1, .int i2] [(q_, .inr (5, [.ref q_posts, .int x_size])), (q_posts, .inl (cI, 11, .inl x_posts))] [(q_, .inr (5, [.ref q_posts, .int x_size])), (q_posts, .inl (cI, 11, .inl o_posts))] := by
  refine CV.of (by decide) (Nat.le_of_ble_eq_true rfl) ?_
  intro p e s m args below meth c Q A ls hx hb hml hown htb hK hN hA hP hD hS hl hret
  have hown : s.vm.findClass RX5 = some m.cls := hown
  have hl : lv_has ls 5 [(0, .ref q_), (1, .int i1), (2, .int i2)] := hl
  have hret : ∀ (o9_posts : Nat → Int32), some o9_posts = some o_posts → ∀ (H : Heap) (locs : List Loc) (pc : Nat) (ls : Array Slot), decode cX5_shift pc = .ok (.return_, 1) → va_P (dC, dI) vwCl [(q_, .inr (5, [.ref q_posts, .int x_size])), (q_posts, .inl (cI, 11, .inl o9_posts))] H → va_D A [(q_, .inr (5, [.ref q_posts, .int x_size])), (q_posts, .inl (cI, 11, .inl o9_posts))] → va_S A s.heap H locs → W p l e (rmK 2 60) s m args below meth c H locs 0 0 Q (F0 m pc ls []) := by
    intro o9_posts h9
    cases h9
    exact hret
  unfold f_X5_shift at hf
  refine lv_aload_n hx hb dX5_shift_0 rfl (lv_at hl 0 rfl) ?_
  refine va_get (D := (dC, dI)) (ci := 5) (v := .ref q_posts) (C := RX5) (T := TX5) (N := 2) hx hb htb inX5 hown hK hP 0 rfl rfl 0 (Nat.le_of_ble_eq_true rfl) (htb _ t_128) (fun _ h9 => h9) rfl dX5_shift_1 ?_
  refine lv_iload_n hx hb dX5_shift_4 rfl (lv_at hl 1 rfl) ?_
  obtain ⟨v1, hv, hf⟩ := ob hf
  refine k_iald hx hb hK hP 1 0 rfl rfl hv dX5_shift_5 ?_
  refine lv_istore_n (lv' := [(3, .int v1), (0, .ref q_), (1, .int i1), (2, .int i2)]) hx hb dX5_shift_6 rfl hl (by decide) rfl (fun ls hl => ?_)
  refine lv_iload_n hx hb dX5_shift_7 rfl (lv_at hl 2 rfl) ?_
  refine lv_istore (lv' := [(4, .int i1), (3, .int v1), (0, .ref q_), (1, .int i1), (2, .int i2)]) hx hb dX5_shift_8 hl (by decide) rfl (fun ls hl => ?_)
  obtain ⟨x2, hL, hf⟩ := ob hf
  have kx3 : ∀ (H : Heap) (locs : List Loc) (ls : Array Slot), va_P (dC, dI) vwCl [(q_, .inr (5, [.ref q_posts, .int x_size])), (q_posts, .inl (cI, 11, .inl x2))] H → va_D A [(q_, .inr (5, [.ref q_posts, .int x_size])), (q_posts, .inl (cI, 11, .inl x2))] → va_S A s.heap H locs → lv_has ls 5 [(0, .ref q_), (1, .int i1), (2, .int i2), (3, .int v1)] → W p l e (rmK 2 60) s m args below meth c H locs 0 0 Q (F0 m 38 ls []) := by
    intro H locs ls hP hD hS hl
    refine lv_iload_n hx hb dX5_shift_38 rfl (lv_at hl 1 rfl) ?_
    refine lv_istore (lv' := [(4, .int i1), (0, .ref q_), (1, .int i1), (2, .int i2), (3, .int v1)]) hx hb dX5_shift_39 hl (by decide) rfl (fun ls hl => ?_)
    obtain ⟨x4, hL, hf⟩ := ob hf
    have kx5 : ∀ (H : Heap) (locs : List Loc) (ls : Array Slot), va_P (dC, dI) vwCl [(q_, .inr (5, [.ref q_posts, .int x_size])), (q_posts, .inl (cI, 11, .inl x4))] H → va_D A [(q_, .inr (5, [.ref q_posts, .int x_size])), (q_posts, .inl (cI, 11, .inl x4))] → va_S A s.heap H locs → lv_has ls 5 [(0, .ref q_), (2, .int i2), (3, .int v1)] → W p l e (rmK 2 60) s m args below meth c H locs 0 0 Q (F0 m 69 ls []) := by
      intro H locs ls hP hD hS hl
      refine lv_aload_n hx hb dX5_shift_69 rfl (lv_at hl 0 rfl) ?_
      refine va_get (D := (dC, dI)) (ci := 5) (v := .ref q_posts) (C := RX5) (T := TX5) (N := 2) hx hb htb inX5 hown hK hP 0 rfl rfl 0 (Nat.le_of_ble_eq_true rfl) (htb _ t_128) (fun _ h9 => h9) rfl dX5_shift_70 ?_
      refine lv_iload_n hx hb dX5_shift_73 rfl (lv_at hl 1 rfl) ?_
      refine lv_iload_n hx hb dX5_shift_74 rfl (lv_at hl 2 rfl) ?_
      obtain ⟨v6, hv, hf⟩ := ob hf
      refine k_iast (wn := [(q_, .inr (5, [.ref q_posts, .int x_size])), (q_posts, .inl (cI, 11, .inl v6))]) hx hb hK hP hD hS 1 0 rfl rfl hv rfl dX5_shift_75 ?_
      clear hP hD hS
      intro H locs hP hD hS
      exact hret _ hf _ _ _ _ dX5_shift_76 hP hD hS
    obtain ⟨n0, hn0⟩ := loopS_iter hL
    clear hf
    have kl9 : ∀ (n : Nat) (s7 : Int32) (s8 : Nat → Int32), iterS (fun (s : Int32 × (Nat → Int32)) => f_X5_shift_L41 i2 s.1 s.2) n (s7, s8) = some x4 → ∀ (H : Heap) (locs : List Loc) (ls : Array Slot), va_P (dC, dI) vwCl [(q_, .inr (5, [.ref q_posts, .int x_size])), (q_posts, .inl (cI, 11, .inl s8))] H → va_D A [(q_, .inr (5, [.ref q_posts, .int x_size])), (q_posts, .inl (cI, 11, .inl s8))] → va_S A s.heap H locs → lv_has ls 5 [(0, .ref q_), (2, .int i2), (3, .int v1), (4, .int s7)] → W p l e (rmK 2 60) s m args below meth c H locs 0 0 Q (F0 m 41 ls []) := by
      intro n
      induction n with
      | zero =>
        intro s7 s8 hn1
        cases hn1
      | succ n ih1 =>
        intro s7 s8 hn1 H locs ls hP hD hS hl
        obtain ⟨r10, hf, hn1⟩ := it1 hn1
        replace hf : f_X5_shift_L41 i2 s7 s8 = some r10 := hf
        unfold f_X5_shift_L41 at hf
        refine lv_iload hx hb dX5_shift_41 (lv_at hl 3 rfl) ?_
        refine lv_iload_n hx hb dX5_shift_43 rfl (lv_at hl 1 rfl) ?_
        refine lv_icmp_le (tgt := 69) hx hb dX5_shift_44 (by decide) (fun c11 => ?_) (fun c11 => ?_)
        · have hf := ip c11 hf
          cases hf
          cases (itr hn1)
          exact kx5 _ _ _ hP hD hS (lv_sub hl [0, 1, 2] rfl)
        · have hf := im c11 hf
          refine lv_aload_n hx hb dX5_shift_47 rfl (lv_at hl 0 rfl) ?_
          refine va_get (D := (dC, dI)) (ci := 5) (v := .ref q_posts) (C := RX5) (T := TX5) (N := 2) hx hb htb inX5 hown hK hP 0 rfl rfl 0 (Nat.le_of_ble_eq_true rfl) (htb _ t_128) (fun _ h9 => h9) rfl dX5_shift_48 ?_
          refine lv_iload hx hb dX5_shift_51 (lv_at hl 3 rfl) ?_
          refine lv_aload_n hx hb dX5_shift_53 rfl (lv_at hl 0 rfl) ?_
          refine va_get (D := (dC, dI)) (ci := 5) (v := .ref q_posts) (C := RX5) (T := TX5) (N := 2) hx hb htb inX5 hown hK hP 0 rfl rfl 0 (Nat.le_of_ble_eq_true rfl) (htb _ t_128) (fun _ h9 => h9) rfl dX5_shift_54 ?_
          refine lv_iload hx hb dX5_shift_57 (lv_at hl 3 rfl) ?_
          refine lv_iconst (v := (1 : Int32)) hx hb dX5_shift_59 (by decide) ?_
          refine lv_isub hx hb dX5_shift_60 ?_
          obtain ⟨v12, hv, hf⟩ := ob hf
          refine k_iald hx hb hK hP 1 0 rfl rfl hv dX5_shift_61 ?_
          obtain ⟨v13, hv, hf⟩ := ob hf
          refine k_iast (wn := [(q_, .inr (5, [.ref q_posts, .int x_size])), (q_posts, .inl (cI, 11, .inl v13))]) hx hb hK hP hD hS 1 0 rfl rfl hv rfl dX5_shift_62 ?_
          clear hP hD hS
          intro H locs hP hD hS
          refine lv_iinc (v := (s7 + (-1 : Int32))) (lv' := [(4, .int (s7 + (-1 : Int32))), (0, .ref q_), (2, .int i2), (3, .int v1)]) hx hb dX5_shift_63 hl (k := 3) rfl rfl (by decide) rfl (fun ls hl => ?_)
          refine lv_goto (tgt := 41) hx hb dX5_shift_66 (by decide) ?_
          cases hf
          exact ih1 _ _ (itl hn1) _ _ _ hP hD hS (lv_sub hl [1, 2, 3, 0] rfl)
    exact kl9 n0 _ _ hn0 _ _ _ hP hD hS (lv_sub hl [1, 3, 4, 0] rfl)
  obtain ⟨n0, hn0⟩ := loopS_iter hL
  clear hf
  have kl16 : ∀ (n : Nat) (s14 : Int32) (s15 : Nat → Int32), iterS (fun (s : Int32 × (Nat → Int32)) => f_X5_shift_L10 i2 s.1 s.2) n (s14, s15) = some x2 → ∀ (H : Heap) (locs : List Loc) (ls : Array Slot), va_P (dC, dI) vwCl [(q_, .inr (5, [.ref q_posts, .int x_size])), (q_posts, .inl (cI, 11, .inl s15))] H → va_D A [(q_, .inr (5, [.ref q_posts, .int x_size])), (q_posts, .inl (cI, 11, .inl s15))] → va_S A s.heap H locs → lv_has ls 5 [(0, .ref q_), (1, .int i1), (2, .int i2), (3, .int v1), (4, .int s14)] → W p l e (rmK 2 60) s m args below meth c H locs 0 0 Q (F0 m 10 ls []) := by
    intro n
    induction n with
    | zero =>
      intro s14 s15 hn1
      cases hn1
    | succ n ih1 =>
      intro s14 s15 hn1 H locs ls hP hD hS hl
      obtain ⟨r17, hf, hn1⟩ := it1 hn1
      replace hf : f_X5_shift_L10 i2 s14 s15 = some r17 := hf
      unfold f_X5_shift_L10 at hf
      refine lv_iload hx hb dX5_shift_10 (lv_at hl 4 rfl) ?_
      refine lv_iload_n hx hb dX5_shift_12 rfl (lv_at hl 2 rfl) ?_
      refine lv_icmp_ge (tgt := 38) hx hb dX5_shift_13 (by decide) (fun c18 => ?_) (fun c18 => ?_)
      · have hf := ip c18 hf
        cases hf
        cases (itr hn1)
        exact kx3 _ _ _ hP hD hS (lv_sub hl [0, 1, 2, 3] rfl)
      · have hf := im c18 hf
        refine lv_aload_n hx hb dX5_shift_16 rfl (lv_at hl 0 rfl) ?_
        refine va_get (D := (dC, dI)) (ci := 5) (v := .ref q_posts) (C := RX5) (T := TX5) (N := 2) hx hb htb inX5 hown hK hP 0 rfl rfl 0 (Nat.le_of_ble_eq_true rfl) (htb _ t_128) (fun _ h9 => h9) rfl dX5_shift_17 ?_
        refine lv_iload hx hb dX5_shift_20 (lv_at hl 4 rfl) ?_
        refine lv_aload_n hx hb dX5_shift_22 rfl (lv_at hl 0 rfl) ?_
        refine va_get (D := (dC, dI)) (ci := 5) (v := .ref q_posts) (C := RX5) (T := TX5) (N := 2) hx hb htb inX5 hown hK hP 0 rfl rfl 0 (Nat.le_of_ble_eq_true rfl) (htb _ t_128) (fun _ h9 => h9) rfl dX5_shift_23 ?_
        refine lv_iload hx hb dX5_shift_26 (lv_at hl 4 rfl) ?_
        refine lv_iconst (v := (1 : Int32)) hx hb dX5_shift_28 (by decide) ?_
        refine lv_iadd hx hb dX5_shift_29 ?_
        obtain ⟨v19, hv, hf⟩ := ob hf
        refine k_iald hx hb hK hP 1 0 rfl rfl hv dX5_shift_30 ?_
        obtain ⟨v20, hv, hf⟩ := ob hf
        refine k_iast (wn := [(q_, .inr (5, [.ref q_posts, .int x_size])), (q_posts, .inl (cI, 11, .inl v20))]) hx hb hK hP hD hS 1 0 rfl rfl hv rfl dX5_shift_31 ?_
        clear hP hD hS
        intro H locs hP hD hS
        refine lv_iinc (v := (s14 + (1 : Int32))) (lv' := [(4, .int (s14 + (1 : Int32))), (0, .ref q_), (1, .int i1), (2, .int i2), (3, .int v1)]) hx hb dX5_shift_32 hl (k := 4) rfl rfl (by decide) rfl (fun ls hl => ?_)
        refine lv_goto (tgt := 10) hx hb dX5_shift_35 (by decide) ?_
        cases hf
        exact ih1 _ _ (itl hn1) _ _ _ hP hD hS (lv_sub hl [1, 2, 3, 4, 0] rfl)
  exact kl16 n0 _ _ hn0 _ _ _ hP hD hS (lv_sub hl [2, 3, 4, 1, 0] rfl)
theorem vf_X5_takeFrom : VF yX5_takeFrom cX5_takeFrom 2 none 1 := ⟨t_649, t_650, t_6, t_651, by decide +kernel, by decide +kernel, by decide +kernel⟩
theorem dX5_takeFrom_0 : decode cX5_takeFrom 0 = .ok (.aload_n 1, 1) := by decide +kernel
theorem dX5_takeFrom_1 : decode cX5_takeFrom 1 = .ok (.getfield 9, 3) := by decide +kernel
theorem dX5_takeFrom_4 : decode cX5_takeFrom 4 = .ok (.iconst 0, 1) := by decide +kernel
theorem dX5_takeFrom_5 : decode cX5_takeFrom 5 = .ok (.aload_n 0, 1) := by decide +kernel
theorem dX5_takeFrom_6 : decode cX5_takeFrom 6 = .ok (.getfield 9, 3) := by decide +kernel
theorem dX5_takeFrom_9 : decode cX5_takeFrom 9 = .ok (.iconst 0, 1) := by decide +kernel
theorem dX5_takeFrom_10 : decode cX5_takeFrom 10 = .ok (.bipush 11, 2) := by decide +kernel
theorem dX5_takeFrom_12 : decode cX5_takeFrom 12 = .ok (.invokestatic 19, 3) := by decide +kernel
theorem dX5_takeFrom_15 : decode cX5_takeFrom 15 = .ok (.aload_n 0, 1) := by decide +kernel
theorem dX5_takeFrom_16 : decode cX5_takeFrom 16 = .ok (.aload_n 1, 1) := by decide +kernel
theorem dX5_takeFrom_17 : decode cX5_takeFrom 17 = .ok (.getfield 15, 3) := by decide +kernel
theorem dX5_takeFrom_20 : decode cX5_takeFrom 20 = .ok (.putfield 15, 3) := by decide +kernel
theorem dX5_takeFrom_23 : decode cX5_takeFrom 23 = .ok (.return_, 1) := by decide +kernel
noncomputable def f_X5_takeFrom (x_size : Int32) (x_posts : Nat → Int32) (x_p1_size : Int32) (x_p1_posts : Nat → Int32) : Option (Int32 × (Nat → Int32)) :=
  (cp x_p1_posts 11 x_posts 11 (0 : Int32) (0 : Int32) (11 : Int32)).bind fun v1 =>
  some ((x_p1_size, v1))
set_option maxHeartbeats 4000000 in
set_option maxRecDepth 100000 in
theorem c_X5_takeFrom (l : Launch) (dC : Nat → ClassId) (dI : Nat → Nat → Nat) (cI cZ cN : ClassId) (q_ : Nat) (q_posts : Nat) (q_p1 : Nat) (q_p1_posts : Nat) (x_size : Int32) (x_posts : Nat → Int32) (x_p1_size : Int32) (x_p1_posts : Nat → Int32) (o_size : Int32) (o_posts : Nat → Int32) (hf : f_X5_takeFrom x_size x_posts x_p1_size x_p1_posts = some (o_size, o_posts)) : CV l yX5_takeFrom cX5_takeFrom 2 none 2 60 (dC, dI) (TY cI cZ cN) [.ref q_, .ref q_p1] [(q_, .inr (5, [.ref q_posts, .int x_size])), (q_posts, .inl (cI, 11, .inl x_posts)), (q_p1, .inr (5, [.ref q_p1_posts, .int x_p1_size])), (q_p1_posts, .inl (cI, 11, .inl x_p1_posts))] [(q_, .inr (5, [.ref q_posts, .int o_size])), (q_posts, .inl (cI, 11, .inl o_posts)), (q_p1, .inr (5, [.ref q_p1_posts, .int x_p1_size])), (q_p1_posts, .inl (cI, 11, .inl x_p1_posts))] := by
  refine CV.of (by decide) (Nat.le_of_ble_eq_true rfl) ?_
  intro p e s m args below meth c Q A ls hx hb hml hown htb hK hN hA hP hD hS hl hret
  have hown : s.vm.findClass RX5 = some m.cls := hown
  have hl : lv_has ls 2 [(0, .ref q_), (1, .ref q_p1)] := hl
  have hret : ∀ (o9_size : Int32) (o9_posts : Nat → Int32), some (o9_size, o9_posts) = some (o_size, o_posts) → ∀ (H : Heap) (locs : List Loc) (pc : Nat) (ls : Array Slot), decode cX5_takeFrom pc = .ok (.return_, 1) → va_P (dC, dI) vwCl [(q_, .inr (5, [.ref q_posts, .int o9_size])), (q_posts, .inl (cI, 11, .inl o9_posts)), (q_p1, .inr (5, [.ref q_p1_posts, .int x_p1_size])), (q_p1_posts, .inl (cI, 11, .inl x_p1_posts))] H → va_D A [(q_, .inr (5, [.ref q_posts, .int o9_size])), (q_posts, .inl (cI, 11, .inl o9_posts)), (q_p1, .inr (5, [.ref q_p1_posts, .int x_p1_size])), (q_p1_posts, .inl (cI, 11, .inl x_p1_posts))] → va_S A s.heap H locs → W p l e (rmK 2 60) s m args below meth c H locs 0 0 Q (F0 m pc ls []) := by
    intro o9_size o9_posts h9
    cases h9
    exact hret
  unfold f_X5_takeFrom at hf
  refine lv_aload_n hx hb dX5_takeFrom_0 rfl (lv_at hl 1 rfl) ?_
  refine va_get (D := (dC, dI)) (ci := 5) (v := .ref q_p1_posts) (C := RX5) (T := TX5) (N := 2) hx hb htb inX5 hown hK hP 2 rfl rfl 0 (Nat.le_of_ble_eq_true rfl) (htb _ t_128) (fun _ h9 => h9) rfl dX5_takeFrom_1 ?_
  refine lv_iconst (v := (0 : Int32)) hx hb dX5_takeFrom_4 (by decide) ?_
  refine lv_aload_n hx hb dX5_takeFrom_5 rfl (lv_at hl 0 rfl) ?_
  refine va_get (D := (dC, dI)) (ci := 5) (v := .ref q_posts) (C := RX5) (T := TX5) (N := 2) hx hb htb inX5 hown hK hP 0 rfl rfl 0 (Nat.le_of_ble_eq_true rfl) (htb _ t_128) (fun _ h9 => h9) rfl dX5_takeFrom_6 ?_
  refine lv_iconst (v := (0 : Int32)) hx hb dX5_takeFrom_9 (by decide) ?_
  refine lv_bipush (v := (11 : Int32)) hx hb dX5_takeFrom_10 (by decide) ?_
  obtain ⟨v1, hv, hf⟩ := ob hf
  refine k_copy (wn := [(q_, .inr (5, [.ref q_posts, .int x_size])), (q_posts, .inl (cI, 11, .inl v1)), (q_p1, .inr (5, [.ref q_p1_posts, .int x_p1_size])), (q_p1_posts, .inl (cI, 11, .inl x_p1_posts))]) hx hb (hml.trans hl.1.symm) hown (htb _ t_652) (htb _ t_323) (htb _ t_322) (htb _ t_14) hK hP hD hS 3 1 0 rfl rfl rfl hv rfl (Nat.le_of_ble_eq_true rfl) (Nat.le_of_ble_eq_true rfl) dX5_takeFrom_12 ?_
  clear hP hD hS
  intro H locs hP hD hS
  refine lv_aload_n hx hb dX5_takeFrom_15 rfl (lv_at hl 0 rfl) ?_
  refine lv_aload_n hx hb dX5_takeFrom_16 rfl (lv_at hl 1 rfl) ?_
  refine va_get (D := (dC, dI)) (ci := 5) (v := .int x_p1_size) (C := RX5) (T := TX5) (N := 2) hx hb htb inX5 hown hK hP 2 rfl rfl 1 (Nat.le_of_ble_eq_true rfl) (htb _ t_134) (fun _ h9 => h9) rfl dX5_takeFrom_17 ?_
  refine k_put (wn := [(q_, .inr (5, [.ref q_posts, .int x_p1_size])), (q_posts, .inl (cI, 11, .inl v1)), (q_p1, .inr (5, [.ref q_p1_posts, .int x_p1_size])), (q_p1_posts, .inl (cI, 11, .inl x_p1_posts))]) (C := RX5) (T := TX5) (N := 2) (ci := 5) hx hb htb inX5 tyX5 tyX5_ok nmX5 hown hK hP hD hS 0 rfl rfl 1 (Nat.le_of_ble_eq_true rfl) t_134 (fun _ h9 => h9) rfl (tyX5_ok 1 (Nat.le_of_ble_eq_true rfl)) (Nat.le_of_ble_eq_true rfl) rfl dX5_takeFrom_20 ?_
  clear hP hD hS
  intro H locs hP hD hS
  exact hret _ _ hf _ _ _ _ dX5_takeFrom_23 hP hD hS
theorem vf_X9_reckonRoad : VF yX9_reckonRoad cX9_reckonRoad 5 none 3 := ⟨t_336, tp_1, t_4, t_337, by decide +kernel, by decide +kernel, by decide +kernel⟩
theorem dX9_reckonRoad_0 : decode cX9_reckonRoad 0 = .ok (.aload_n 1, 1) := by decide +kernel
theorem dX9_reckonRoad_1 : decode cX9_reckonRoad 1 = .ok (.getfield 58, 3) := by decide +kernel
theorem dX9_reckonRoad_4 : decode cX9_reckonRoad 4 = .ok (.iload_n 2, 1) := by decide +kernel
theorem dX9_reckonRoad_5 : decode cX9_reckonRoad 5 = .ok (.bipush 11, 2) := by decide +kernel
theorem dX9_reckonRoad_7 : decode cX9_reckonRoad 7 = .ok (.imul, 1) := by decide +kernel
theorem dX9_reckonRoad_8 : decode cX9_reckonRoad 8 = .ok (.iload_n 3, 1) := by decide +kernel
theorem dX9_reckonRoad_9 : decode cX9_reckonRoad 9 = .ok (.iadd, 1) := by decide +kernel
theorem dX9_reckonRoad_10 : decode cX9_reckonRoad 10 = .ok (.iaload, 1) := by decide +kernel
theorem dX9_reckonRoad_11 : decode cX9_reckonRoad 11 = .ok (.aload_n 1, 1) := by decide +kernel
theorem dX9_reckonRoad_12 : decode cX9_reckonRoad 12 = .ok (.getfield 58, 3) := by decide +kernel
theorem dX9_reckonRoad_15 : decode cX9_reckonRoad 15 = .ok (.iload_n 3, 1) := by decide +kernel
theorem dX9_reckonRoad_16 : decode cX9_reckonRoad 16 = .ok (.bipush 11, 2) := by decide +kernel
theorem dX9_reckonRoad_18 : decode cX9_reckonRoad 18 = .ok (.imul, 1) := by decide +kernel
theorem dX9_reckonRoad_19 : decode cX9_reckonRoad 19 = .ok (.iload_n 2, 1) := by decide +kernel
theorem dX9_reckonRoad_20 : decode cX9_reckonRoad 20 = .ok (.iadd, 1) := by decide +kernel
theorem dX9_reckonRoad_21 : decode cX9_reckonRoad 21 = .ok (.iaload, 1) := by decide +kernel
theorem dX9_reckonRoad_22 : decode cX9_reckonRoad 22 = .ok (.iadd, 1) := by decide +kernel
theorem dX9_reckonRoad_23 : decode cX9_reckonRoad 23 = .ok (.istore 4, 2) := by decide +kernel
theorem dX9_reckonRoad_25 : decode cX9_reckonRoad 25 = .ok (.iload 4, 2) := by decide +kernel
theorem dX9_reckonRoad_27 : decode cX9_reckonRoad 27 = .ok (.ifCond .le 74, 3) := by decide +kernel
theorem dX9_reckonRoad_30 : decode cX9_reckonRoad 30 = .ok (.aload_n 0, 1) := by decide +kernel
theorem dX9_reckonRoad_31 : decode cX9_reckonRoad 31 = .ok (.getfield 9, 3) := by decide +kernel
theorem dX9_reckonRoad_34 : decode cX9_reckonRoad 34 = .ok (.iload_n 2, 1) := by decide +kernel
theorem dX9_reckonRoad_35 : decode cX9_reckonRoad 35 = .ok (.bipush 11, 2) := by decide +kernel
theorem dX9_reckonRoad_37 : decode cX9_reckonRoad 37 = .ok (.imul, 1) := by decide +kernel
theorem dX9_reckonRoad_38 : decode cX9_reckonRoad 38 = .ok (.iload_n 3, 1) := by decide +kernel
theorem dX9_reckonRoad_39 : decode cX9_reckonRoad 39 = .ok (.iadd, 1) := by decide +kernel
theorem dX9_reckonRoad_40 : decode cX9_reckonRoad 40 = .ok (.iload 4, 2) := by decide +kernel
theorem dX9_reckonRoad_42 : decode cX9_reckonRoad 42 = .ok (.iastore, 1) := by decide +kernel
theorem dX9_reckonRoad_43 : decode cX9_reckonRoad 43 = .ok (.aload_n 0, 1) := by decide +kernel
theorem dX9_reckonRoad_44 : decode cX9_reckonRoad 44 = .ok (.getfield 9, 3) := by decide +kernel
theorem dX9_reckonRoad_47 : decode cX9_reckonRoad 47 = .ok (.iload_n 3, 1) := by decide +kernel
theorem dX9_reckonRoad_48 : decode cX9_reckonRoad 48 = .ok (.bipush 11, 2) := by decide +kernel
theorem dX9_reckonRoad_50 : decode cX9_reckonRoad 50 = .ok (.imul, 1) := by decide +kernel
theorem dX9_reckonRoad_51 : decode cX9_reckonRoad 51 = .ok (.iload_n 2, 1) := by decide +kernel
theorem dX9_reckonRoad_52 : decode cX9_reckonRoad 52 = .ok (.iadd, 1) := by decide +kernel
theorem dX9_reckonRoad_53 : decode cX9_reckonRoad 53 = .ok (.iload 4, 2) := by decide +kernel
theorem dX9_reckonRoad_55 : decode cX9_reckonRoad 55 = .ok (.iastore, 1) := by decide +kernel
theorem dX9_reckonRoad_56 : decode cX9_reckonRoad 56 = .ok (.aload_n 0, 1) := by decide +kernel
theorem dX9_reckonRoad_57 : decode cX9_reckonRoad 57 = .ok (.getfield 15, 3) := by decide +kernel
theorem dX9_reckonRoad_60 : decode cX9_reckonRoad 60 = .ok (.iload_n 2, 1) := by decide +kernel
theorem dX9_reckonRoad_61 : decode cX9_reckonRoad 61 = .ok (.dup2, 1) := by decide +kernel
theorem dX9_reckonRoad_62 : decode cX9_reckonRoad 62 = .ok (.iaload, 1) := by decide +kernel
theorem dX9_reckonRoad_63 : decode cX9_reckonRoad 63 = .ok (.iconst 1, 1) := by decide +kernel
theorem dX9_reckonRoad_64 : decode cX9_reckonRoad 64 = .ok (.iload_n 3, 1) := by decide +kernel
theorem dX9_reckonRoad_65 : decode cX9_reckonRoad 65 = .ok (.ishl, 1) := by decide +kernel
theorem dX9_reckonRoad_66 : decode cX9_reckonRoad 66 = .ok (.ior, 1) := by decide +kernel
theorem dX9_reckonRoad_67 : decode cX9_reckonRoad 67 = .ok (.iastore, 1) := by decide +kernel
theorem dX9_reckonRoad_68 : decode cX9_reckonRoad 68 = .ok (.aload_n 0, 1) := by decide +kernel
theorem dX9_reckonRoad_69 : decode cX9_reckonRoad 69 = .ok (.getfield 15, 3) := by decide +kernel
theorem dX9_reckonRoad_72 : decode cX9_reckonRoad 72 = .ok (.iload_n 3, 1) := by decide +kernel
theorem dX9_reckonRoad_73 : decode cX9_reckonRoad 73 = .ok (.dup2, 1) := by decide +kernel
theorem dX9_reckonRoad_74 : decode cX9_reckonRoad 74 = .ok (.iaload, 1) := by decide +kernel
theorem dX9_reckonRoad_75 : decode cX9_reckonRoad 75 = .ok (.iconst 1, 1) := by decide +kernel
theorem dX9_reckonRoad_76 : decode cX9_reckonRoad 76 = .ok (.iload_n 2, 1) := by decide +kernel
theorem dX9_reckonRoad_77 : decode cX9_reckonRoad 77 = .ok (.ishl, 1) := by decide +kernel
theorem dX9_reckonRoad_78 : decode cX9_reckonRoad 78 = .ok (.ior, 1) := by decide +kernel
theorem dX9_reckonRoad_79 : decode cX9_reckonRoad 79 = .ok (.iastore, 1) := by decide +kernel
theorem dX9_reckonRoad_80 : decode cX9_reckonRoad 80 = .ok (.aload_n 0, 1) := by decide +kernel
theorem dX9_reckonRoad_81 : decode cX9_reckonRoad 81 = .ok (.dup, 1) := by decide +kernel
theorem dX9_reckonRoad_82 : decode cX9_reckonRoad 82 = .ok (.getfield 31, 3) := by decide +kernel
theorem dX9_reckonRoad_85 : decode cX9_reckonRoad 85 = .ok (.iconst 1, 1) := by decide +kernel
theorem dX9_reckonRoad_86 : decode cX9_reckonRoad 86 = .ok (.iadd, 1) := by decide +kernel
theorem dX9_reckonRoad_87 : decode cX9_reckonRoad 87 = .ok (.putfield 31, 3) := by decide +kernel
theorem dX9_reckonRoad_90 : decode cX9_reckonRoad 90 = .ok (.aload_n 0, 1) := by decide +kernel
theorem dX9_reckonRoad_91 : decode cX9_reckonRoad 91 = .ok (.dup, 1) := by decide +kernel
theorem dX9_reckonRoad_92 : decode cX9_reckonRoad 92 = .ok (.getfield 34, 3) := by decide +kernel
theorem dX9_reckonRoad_95 : decode cX9_reckonRoad 95 = .ok (.iload 4, 2) := by decide +kernel
theorem dX9_reckonRoad_97 : decode cX9_reckonRoad 97 = .ok (.iadd, 1) := by decide +kernel
theorem dX9_reckonRoad_98 : decode cX9_reckonRoad 98 = .ok (.putfield 34, 3) := by decide +kernel
theorem dX9_reckonRoad_101 : decode cX9_reckonRoad 101 = .ok (.return_, 1) := by decide +kernel
noncomputable def f_X9_reckonRoad (x_roads : Int32) (x_weight : Int32) (x_weights : Nat → Int32) (x_near : Nat → Int32) (x_p1_told : Nat → Int32) (i2 : Int32) (i3 : Int32) : Option (Int32 × Int32 × (Nat → Int32) × (Nat → Int32)) :=
  (gi x_p1_told 121 ((i2 * (11 : Int32)) + i3)).bind fun v1 =>
  (gi x_p1_told 121 ((i3 * (11 : Int32)) + i2)).bind fun v2 =>
  if (v1 + v2) ≤ 0 then (some ((x_roads, x_weight, x_weights, x_near))) else ((si x_weights 121 ((i2 * (11 : Int32)) + i3) (v1 + v2)).bind fun v4 =>
  (si v4 121 ((i3 * (11 : Int32)) + i2) (v1 + v2)).bind fun v5 =>
  (gi x_near 11 i2).bind fun v6 =>
  (si x_near 11 i2 (v6 ||| ((1 : Int32) <<< (i3 &&& 31)))).bind fun v7 =>
  (gi v7 11 i3).bind fun v8 =>
  (si v7 11 i3 (v8 ||| ((1 : Int32) <<< (i2 &&& 31)))).bind fun v9 =>
  some (((x_roads + (1 : Int32)), (x_weight + (v1 + v2)), v5, v9)))
set_option maxHeartbeats 4000000 in
set_option maxRecDepth 100000 in
theorem c_X9_reckonRoad (l : Launch) (dC : Nat → ClassId) (dI : Nat → Nat → Nat) (cI cZ cN : ClassId) (q_ : Nat) (q_weights : Nat) (q_near : Nat) (q_behind : Nat) (q_ahead : Nat) (q_p1 : Nat) (q_p1_widths : Nat) (q_p1_lengths : Nat) (q_p1_told : Nat) (q_p1_behind : Nat) (x_posts : Int32) (x_roads : Int32) (x_weight : Int32) (x_weights : Nat → Int32) (x_near : Nat → Int32) (x_p1_posts : Int32) (x_p1_pairs : Int32) (x_p1_told : Nat → Int32) (i2 i3 : Int32) (o_roads : Int32) (o_weight : Int32) (o_weights : Nat → Int32) (o_near : Nat → Int32) (hf : f_X9_reckonRoad x_roads x_weight x_weights x_near x_p1_told i2 i3 = some (o_roads, o_weight, o_weights, o_near)) : CV l yX9_reckonRoad cX9_reckonRoad 5 none 2 60 (dC, dI) (TY cI cZ cN) [.ref q_, .ref q_p1, .int i2, .int i3] [(q_, .inr (8, [.int x_posts, .int x_roads, .int x_weight, .ref q_weights, .ref q_near, .ref q_behind, .ref q_ahead])), (q_weights, .inl (cI, 121, .inl x_weights)), (q_near, .inl (cI, 11, .inl x_near)), (q_p1, .inr (4, [.int x_p1_posts, .int x_p1_pairs, .ref q_p1_widths, .ref q_p1_lengths, .ref q_p1_told, .ref q_p1_behind])), (q_p1_told, .inl (cI, 121, .inl x_p1_told))] [(q_, .inr (8, [.int x_posts, .int o_roads, .int o_weight, .ref q_weights, .ref q_near, .ref q_behind, .ref q_ahead])), (q_weights, .inl (cI, 121, .inl o_weights)), (q_near, .inl (cI, 11, .inl o_near)), (q_p1, .inr (4, [.int x_p1_posts, .int x_p1_pairs, .ref q_p1_widths, .ref q_p1_lengths, .ref q_p1_told, .ref q_p1_behind])), (q_p1_told, .inl (cI, 121, .inl x_p1_told))] := by
  refine CV.of (by decide) (Nat.le_of_ble_eq_true rfl) ?_
  intro p e s m args below meth c Q A ls hx hb hml hown htb hK hN hA hP hD hS hl hret
  have hown : s.vm.findClass RX9 = some m.cls := hown
  have hl : lv_has ls 5 [(0, .ref q_), (1, .ref q_p1), (2, .int i2), (3, .int i3)] := hl
  have hret : ∀ (o9_roads : Int32) (o9_weight : Int32) (o9_weights : Nat → Int32) (o9_near : Nat → Int32), some (o9_roads, o9_weight, o9_weights, o9_near) = some (o_roads, o_weight, o_weights, o_near) → ∀ (H : Heap) (locs : List Loc) (pc : Nat) (ls : Array Slot), decode cX9_reckonRoad pc = .ok (.return_, 1) → va_P (dC, dI) vwCl [(q_, .inr (8, [.int x_posts, .int o9_roads, .int o9_weight, .ref q_weights, .ref q_near, .ref q_behind, .ref q_ahead])), (q_weights, .inl (cI, 121, .inl o9_weights)), (q_near, .inl (cI, 11, .inl o9_near)), (q_p1, .inr (4, [.int x_p1_posts, .int x_p1_pairs, .ref q_p1_widths, .ref q_p1_lengths, .ref q_p1_told, .ref q_p1_behind])), (q_p1_told, .inl (cI, 121, .inl x_p1_told))] H → va_D A [(q_, .inr (8, [.int x_posts, .int o9_roads, .int o9_weight, .ref q_weights, .ref q_near, .ref q_behind, .ref q_ahead])), (q_weights, .inl (cI, 121, .inl o9_weights)), (q_near, .inl (cI, 11, .inl o9_near)), (q_p1, .inr (4, [.int x_p1_posts, .int x_p1_pairs, .ref q_p1_widths, .ref q_p1_lengths, .ref q_p1_told, .ref q_p1_behind])), (q_p1_told, .inl (cI, 121, .inl x_p1_told))] → va_S A s.heap H locs → W p l e (rmK 2 60) s m args below meth c H locs 0 0 Q (F0 m pc ls []) := by
    intro o9_roads o9_weight o9_weights o9_near h9
    cases h9
    exact hret
  unfold f_X9_reckonRoad at hf
  refine lv_aload_n hx hb dX9_reckonRoad_0 rfl (lv_at hl 1 rfl) ?_
  refine va_get (D := (dC, dI)) (ci := 4) (v := .ref q_p1_told) (C := RX4) (T := TX4) (N := 6) hx hb htb inX4 hown hK hP 3 rfl rfl 4 (Nat.le_of_ble_eq_true rfl) (htb _ t_44) (fun _ h9 => h9) rfl dX9_reckonRoad_1 ?_
  refine lv_iload_n hx hb dX9_reckonRoad_4 rfl (lv_at hl 2 rfl) ?_
  refine lv_bipush (v := (11 : Int32)) hx hb dX9_reckonRoad_5 (by decide) ?_
  refine lv_imul hx hb dX9_reckonRoad_7 ?_
  refine lv_iload_n hx hb dX9_reckonRoad_8 rfl (lv_at hl 3 rfl) ?_
  refine lv_iadd hx hb dX9_reckonRoad_9 ?_
  obtain ⟨v1, hv, hf⟩ := ob hf
  refine k_iald hx hb hK hP 4 0 rfl rfl hv dX9_reckonRoad_10 ?_
  refine lv_aload_n hx hb dX9_reckonRoad_11 rfl (lv_at hl 1 rfl) ?_
  refine va_get (D := (dC, dI)) (ci := 4) (v := .ref q_p1_told) (C := RX4) (T := TX4) (N := 6) hx hb htb inX4 hown hK hP 3 rfl rfl 4 (Nat.le_of_ble_eq_true rfl) (htb _ t_44) (fun _ h9 => h9) rfl dX9_reckonRoad_12 ?_
  refine lv_iload_n hx hb dX9_reckonRoad_15 rfl (lv_at hl 3 rfl) ?_
  refine lv_bipush (v := (11 : Int32)) hx hb dX9_reckonRoad_16 (by decide) ?_
  refine lv_imul hx hb dX9_reckonRoad_18 ?_
  refine lv_iload_n hx hb dX9_reckonRoad_19 rfl (lv_at hl 2 rfl) ?_
  refine lv_iadd hx hb dX9_reckonRoad_20 ?_
  obtain ⟨v2, hv, hf⟩ := ob hf
  refine k_iald hx hb hK hP 4 0 rfl rfl hv dX9_reckonRoad_21 ?_
  refine lv_iadd hx hb dX9_reckonRoad_22 ?_
  refine lv_istore (lv' := [(4, .int (v1 + v2)), (0, .ref q_), (1, .ref q_p1), (2, .int i2), (3, .int i3)]) hx hb dX9_reckonRoad_23 hl (by decide) rfl (fun ls hl => ?_)
  refine lv_iload hx hb dX9_reckonRoad_25 (lv_at hl 0 rfl) ?_
  refine lv_if_le (tgt := 101) hx hb dX9_reckonRoad_27 (by decide) (fun c3 => ?_) (fun c3 => ?_)
  · have hf := ip c3 hf
    exact hret _ _ _ _ hf _ _ _ _ dX9_reckonRoad_101 hP hD hS
  · have hf := im c3 hf
    refine lv_aload_n hx hb dX9_reckonRoad_30 rfl (lv_at hl 1 rfl) ?_
    refine va_get (D := (dC, dI)) (ci := 8) (v := .ref q_weights) (C := RX9) (T := TX9) (N := 7) hx hb htb inX9 hown hK hP 0 rfl rfl 3 (Nat.le_of_ble_eq_true rfl) (htb _ t_79) (fun _ h9 => h9) rfl dX9_reckonRoad_31 ?_
    refine lv_iload_n hx hb dX9_reckonRoad_34 rfl (lv_at hl 3 rfl) ?_
    refine lv_bipush (v := (11 : Int32)) hx hb dX9_reckonRoad_35 (by decide) ?_
    refine lv_imul hx hb dX9_reckonRoad_37 ?_
    refine lv_iload_n hx hb dX9_reckonRoad_38 rfl (lv_at hl 4 rfl) ?_
    refine lv_iadd hx hb dX9_reckonRoad_39 ?_
    refine lv_iload hx hb dX9_reckonRoad_40 (lv_at hl 0 rfl) ?_
    obtain ⟨v4, hv, hf⟩ := ob hf
    refine k_iast (wn := [(q_, .inr (8, [.int x_posts, .int x_roads, .int x_weight, .ref q_weights, .ref q_near, .ref q_behind, .ref q_ahead])), (q_weights, .inl (cI, 121, .inl v4)), (q_near, .inl (cI, 11, .inl x_near)), (q_p1, .inr (4, [.int x_p1_posts, .int x_p1_pairs, .ref q_p1_widths, .ref q_p1_lengths, .ref q_p1_told, .ref q_p1_behind])), (q_p1_told, .inl (cI, 121, .inl x_p1_told))]) hx hb hK hP hD hS 1 0 rfl rfl hv rfl dX9_reckonRoad_42 ?_
    clear hP hD hS
    intro H locs hP hD hS
    refine lv_aload_n hx hb dX9_reckonRoad_43 rfl (lv_at hl 1 rfl) ?_
    refine va_get (D := (dC, dI)) (ci := 8) (v := .ref q_weights) (C := RX9) (T := TX9) (N := 7) hx hb htb inX9 hown hK hP 0 rfl rfl 3 (Nat.le_of_ble_eq_true rfl) (htb _ t_79) (fun _ h9 => h9) rfl dX9_reckonRoad_44 ?_
    refine lv_iload_n hx hb dX9_reckonRoad_47 rfl (lv_at hl 4 rfl) ?_
    refine lv_bipush (v := (11 : Int32)) hx hb dX9_reckonRoad_48 (by decide) ?_
    refine lv_imul hx hb dX9_reckonRoad_50 ?_
    refine lv_iload_n hx hb dX9_reckonRoad_51 rfl (lv_at hl 3 rfl) ?_
    refine lv_iadd hx hb dX9_reckonRoad_52 ?_
    refine lv_iload hx hb dX9_reckonRoad_53 (lv_at hl 0 rfl) ?_
    obtain ⟨v5, hv, hf⟩ := ob hf
    refine k_iast (wn := [(q_, .inr (8, [.int x_posts, .int x_roads, .int x_weight, .ref q_weights, .ref q_near, .ref q_behind, .ref q_ahead])), (q_weights, .inl (cI, 121, .inl v5)), (q_near, .inl (cI, 11, .inl x_near)), (q_p1, .inr (4, [.int x_p1_posts, .int x_p1_pairs, .ref q_p1_widths, .ref q_p1_lengths, .ref q_p1_told, .ref q_p1_behind])), (q_p1_told, .inl (cI, 121, .inl x_p1_told))]) hx hb hK hP hD hS 1 0 rfl rfl hv rfl dX9_reckonRoad_55 ?_
    clear hP hD hS
    intro H locs hP hD hS
    refine lv_aload_n hx hb dX9_reckonRoad_56 rfl (lv_at hl 1 rfl) ?_
    refine va_get (D := (dC, dI)) (ci := 8) (v := .ref q_near) (C := RX9) (T := TX9) (N := 7) hx hb htb inX9 hown hK hP 0 rfl rfl 4 (Nat.le_of_ble_eq_true rfl) (htb _ t_80) (fun _ h9 => h9) rfl dX9_reckonRoad_57 ?_
    refine lv_iload_n hx hb dX9_reckonRoad_60 rfl (lv_at hl 3 rfl) ?_
    refine lv_dup2_11 hx hb dX9_reckonRoad_61 rfl rfl ?_
    obtain ⟨v6, hv, hf⟩ := ob hf
    refine k_iald hx hb hK hP 2 0 rfl rfl hv dX9_reckonRoad_62 ?_
    refine lv_iconst (v := (1 : Int32)) hx hb dX9_reckonRoad_63 (by decide) ?_
    refine lv_iload_n hx hb dX9_reckonRoad_64 rfl (lv_at hl 4 rfl) ?_
    refine lv_ishl hx hb dX9_reckonRoad_65 ?_
    refine lv_ior hx hb dX9_reckonRoad_66 ?_
    obtain ⟨v7, hv, hf⟩ := ob hf
    refine k_iast (wn := [(q_, .inr (8, [.int x_posts, .int x_roads, .int x_weight, .ref q_weights, .ref q_near, .ref q_behind, .ref q_ahead])), (q_weights, .inl (cI, 121, .inl v5)), (q_near, .inl (cI, 11, .inl v7)), (q_p1, .inr (4, [.int x_p1_posts, .int x_p1_pairs, .ref q_p1_widths, .ref q_p1_lengths, .ref q_p1_told, .ref q_p1_behind])), (q_p1_told, .inl (cI, 121, .inl x_p1_told))]) hx hb hK hP hD hS 2 0 rfl rfl hv rfl dX9_reckonRoad_67 ?_
    clear hP hD hS
    intro H locs hP hD hS
    refine lv_aload_n hx hb dX9_reckonRoad_68 rfl (lv_at hl 1 rfl) ?_
    refine va_get (D := (dC, dI)) (ci := 8) (v := .ref q_near) (C := RX9) (T := TX9) (N := 7) hx hb htb inX9 hown hK hP 0 rfl rfl 4 (Nat.le_of_ble_eq_true rfl) (htb _ t_80) (fun _ h9 => h9) rfl dX9_reckonRoad_69 ?_
    refine lv_iload_n hx hb dX9_reckonRoad_72 rfl (lv_at hl 4 rfl) ?_
    refine lv_dup2_11 hx hb dX9_reckonRoad_73 rfl rfl ?_
    obtain ⟨v8, hv, hf⟩ := ob hf
    refine k_iald hx hb hK hP 2 0 rfl rfl hv dX9_reckonRoad_74 ?_
    refine lv_iconst (v := (1 : Int32)) hx hb dX9_reckonRoad_75 (by decide) ?_
    refine lv_iload_n hx hb dX9_reckonRoad_76 rfl (lv_at hl 3 rfl) ?_
    refine lv_ishl hx hb dX9_reckonRoad_77 ?_
    refine lv_ior hx hb dX9_reckonRoad_78 ?_
    obtain ⟨v9, hv, hf⟩ := ob hf
    refine k_iast (wn := [(q_, .inr (8, [.int x_posts, .int x_roads, .int x_weight, .ref q_weights, .ref q_near, .ref q_behind, .ref q_ahead])), (q_weights, .inl (cI, 121, .inl v5)), (q_near, .inl (cI, 11, .inl v9)), (q_p1, .inr (4, [.int x_p1_posts, .int x_p1_pairs, .ref q_p1_widths, .ref q_p1_lengths, .ref q_p1_told, .ref q_p1_behind])), (q_p1_told, .inl (cI, 121, .inl x_p1_told))]) hx hb hK hP hD hS 2 0 rfl rfl hv rfl dX9_reckonRoad_79 ?_
    clear hP hD hS
    intro H locs hP hD hS
    refine lv_aload_n hx hb dX9_reckonRoad_80 rfl (lv_at hl 1 rfl) ?_
    refine lv_dup hx hb dX9_reckonRoad_81 rfl ?_
    refine va_get (D := (dC, dI)) (ci := 8) (v := .int x_roads) (C := RX9) (T := TX9) (N := 7) hx hb htb inX9 hown hK hP 0 rfl rfl 1 (Nat.le_of_ble_eq_true rfl) (htb _ t_75) (fun _ h9 => h9) rfl dX9_reckonRoad_82 ?_
    refine lv_iconst (v := (1 : Int32)) hx hb dX9_reckonRoad_85 (by decide) ?_
    refine lv_iadd hx hb dX9_reckonRoad_86 ?_
    refine k_put (wn := [(q_, .inr (8, [.int x_posts, .int (x_roads + (1 : Int32)), .int x_weight, .ref q_weights, .ref q_near, .ref q_behind, .ref q_ahead])), (q_weights, .inl (cI, 121, .inl v5)), (q_near, .inl (cI, 11, .inl v9)), (q_p1, .inr (4, [.int x_p1_posts, .int x_p1_pairs, .ref q_p1_widths, .ref q_p1_lengths, .ref q_p1_told, .ref q_p1_behind])), (q_p1_told, .inl (cI, 121, .inl x_p1_told))]) (C := RX9) (T := TX9) (N := 7) (ci := 8) hx hb htb inX9 tyX9 tyX9_ok nmX9 hown hK hP hD hS 0 rfl rfl 1 (Nat.le_of_ble_eq_true rfl) t_75 (fun _ h9 => h9) rfl (tyX9_ok 1 (Nat.le_of_ble_eq_true rfl)) (Nat.le_of_ble_eq_true rfl) rfl dX9_reckonRoad_87 ?_
    clear hP hD hS
    intro H locs hP hD hS
    refine lv_aload_n hx hb dX9_reckonRoad_90 rfl (lv_at hl 1 rfl) ?_
    refine lv_dup hx hb dX9_reckonRoad_91 rfl ?_
    refine va_get (D := (dC, dI)) (ci := 8) (v := .int x_weight) (C := RX9) (T := TX9) (N := 7) hx hb htb inX9 hown hK hP 0 rfl rfl 2 (Nat.le_of_ble_eq_true rfl) (htb _ t_77) (fun _ h9 => h9) rfl dX9_reckonRoad_92 ?_
    refine lv_iload hx hb dX9_reckonRoad_95 (lv_at hl 0 rfl) ?_
    refine lv_iadd hx hb dX9_reckonRoad_97 ?_
    refine k_put (wn := [(q_, .inr (8, [.int x_posts, .int (x_roads + (1 : Int32)), .int (x_weight + (v1 + v2)), .ref q_weights, .ref q_near, .ref q_behind, .ref q_ahead])), (q_weights, .inl (cI, 121, .inl v5)), (q_near, .inl (cI, 11, .inl v9)), (q_p1, .inr (4, [.int x_p1_posts, .int x_p1_pairs, .ref q_p1_widths, .ref q_p1_lengths, .ref q_p1_told, .ref q_p1_behind])), (q_p1_told, .inl (cI, 121, .inl x_p1_told))]) (C := RX9) (T := TX9) (N := 7) (ci := 8) hx hb htb inX9 tyX9 tyX9_ok nmX9 hown hK hP hD hS 0 rfl rfl 2 (Nat.le_of_ble_eq_true rfl) t_77 (fun _ h9 => h9) rfl (tyX9_ok 2 (Nat.le_of_ble_eq_true rfl)) (Nat.le_of_ble_eq_true rfl) rfl dX9_reckonRoad_98 ?_
    clear hP hD hS
    intro H locs hP hD hS
    exact hret _ _ _ _ hf _ _ _ _ dX9_reckonRoad_101 hP hD hS
theorem vf_X9_reckon : VF yX9_reckon cX9_reckon 4 none 1 := ⟨t_329, t_330, t_4, t_331, by decide +kernel, by decide +kernel, by decide +kernel⟩
theorem dX9_reckon_0 : decode cX9_reckon 0 = .ok (.aload_n 0, 1) := by decide +kernel
theorem dX9_reckon_1 : decode cX9_reckon 1 = .ok (.aload_n 1, 1) := by decide +kernel
theorem dX9_reckon_2 : decode cX9_reckon 2 = .ok (.getfield 24, 3) := by decide +kernel
theorem dX9_reckon_5 : decode cX9_reckon 5 = .ok (.putfield 30, 3) := by decide +kernel
theorem dX9_reckon_8 : decode cX9_reckon 8 = .ok (.aload_n 0, 1) := by decide +kernel
theorem dX9_reckon_9 : decode cX9_reckon 9 = .ok (.iconst 0, 1) := by decide +kernel
theorem dX9_reckon_10 : decode cX9_reckon 10 = .ok (.putfield 31, 3) := by decide +kernel
theorem dX9_reckon_13 : decode cX9_reckon 13 = .ok (.aload_n 0, 1) := by decide +kernel
theorem dX9_reckon_14 : decode cX9_reckon 14 = .ok (.iconst 0, 1) := by decide +kernel
theorem dX9_reckon_15 : decode cX9_reckon 15 = .ok (.putfield 34, 3) := by decide +kernel
theorem dX9_reckon_18 : decode cX9_reckon 18 = .ok (.aload_n 0, 1) := by decide +kernel
theorem dX9_reckon_19 : decode cX9_reckon 19 = .ok (.getfield 9, 3) := by decide +kernel
theorem dX9_reckon_22 : decode cX9_reckon 22 = .ok (.iconst 0, 1) := by decide +kernel
theorem dX9_reckon_23 : decode cX9_reckon 23 = .ok (.invokestatic 37, 3) := by decide +kernel
theorem dX9_reckon_26 : decode cX9_reckon 26 = .ok (.aload_n 0, 1) := by decide +kernel
theorem dX9_reckon_27 : decode cX9_reckon 27 = .ok (.getfield 15, 3) := by decide +kernel
theorem dX9_reckon_30 : decode cX9_reckon 30 = .ok (.iconst 0, 1) := by decide +kernel
theorem dX9_reckon_31 : decode cX9_reckon 31 = .ok (.invokestatic 37, 3) := by decide +kernel
theorem dX9_reckon_34 : decode cX9_reckon 34 = .ok (.aload_n 0, 1) := by decide +kernel
theorem dX9_reckon_35 : decode cX9_reckon 35 = .ok (.getfield 21, 3) := by decide +kernel
theorem dX9_reckon_38 : decode cX9_reckon 38 = .ok (.iconst 0, 1) := by decide +kernel
theorem dX9_reckon_39 : decode cX9_reckon 39 = .ok (.invokestatic 37, 3) := by decide +kernel
theorem dX9_reckon_42 : decode cX9_reckon 42 = .ok (.aload_n 1, 1) := by decide +kernel
theorem dX9_reckon_43 : decode cX9_reckon 43 = .ok (.getfield 43, 3) := by decide +kernel
theorem dX9_reckon_46 : decode cX9_reckon 46 = .ok (.iconst 0, 1) := by decide +kernel
theorem dX9_reckon_47 : decode cX9_reckon 47 = .ok (.aload_n 0, 1) := by decide +kernel
theorem dX9_reckon_48 : decode cX9_reckon 48 = .ok (.getfield 18, 3) := by decide +kernel
theorem dX9_reckon_51 : decode cX9_reckon 51 = .ok (.iconst 0, 1) := by decide +kernel
theorem dX9_reckon_52 : decode cX9_reckon 52 = .ok (.bipush 11, 2) := by decide +kernel
theorem dX9_reckon_54 : decode cX9_reckon 54 = .ok (.invokestatic 44, 3) := by decide +kernel
theorem dX9_reckon_57 : decode cX9_reckon 57 = .ok (.iconst 0, 1) := by decide +kernel
theorem dX9_reckon_58 : decode cX9_reckon 58 = .ok (.istore_n 2, 1) := by decide +kernel
theorem dX9_reckon_59 : decode cX9_reckon 59 = .ok (.iload_n 2, 1) := by decide +kernel
theorem dX9_reckon_60 : decode cX9_reckon 60 = .ok (.aload_n 0, 1) := by decide +kernel
theorem dX9_reckon_61 : decode cX9_reckon 61 = .ok (.getfield 30, 3) := by decide +kernel
theorem dX9_reckon_64 : decode cX9_reckon 64 = .ok (.if_icmp .ge 62, 3) := by decide +kernel
theorem dX9_reckon_67 : decode cX9_reckon 67 = .ok (.iconst 0, 1) := by decide +kernel
theorem dX9_reckon_68 : decode cX9_reckon 68 = .ok (.istore_n 3, 1) := by decide +kernel
theorem dX9_reckon_69 : decode cX9_reckon 69 = .ok (.iload_n 3, 1) := by decide +kernel
theorem dX9_reckon_70 : decode cX9_reckon 70 = .ok (.aload_n 0, 1) := by decide +kernel
theorem dX9_reckon_71 : decode cX9_reckon 71 = .ok (.getfield 30, 3) := by decide +kernel
theorem dX9_reckon_74 : decode cX9_reckon 74 = .ok (.if_icmp .ge 46, 3) := by decide +kernel
theorem dX9_reckon_77 : decode cX9_reckon 77 = .ok (.iload_n 2, 1) := by decide +kernel
theorem dX9_reckon_78 : decode cX9_reckon 78 = .ok (.iload_n 3, 1) := by decide +kernel
theorem dX9_reckon_79 : decode cX9_reckon 79 = .ok (.if_icmp .ge 10, 3) := by decide +kernel
theorem dX9_reckon_82 : decode cX9_reckon 82 = .ok (.aload_n 0, 1) := by decide +kernel
theorem dX9_reckon_83 : decode cX9_reckon 83 = .ok (.aload_n 1, 1) := by decide +kernel
theorem dX9_reckon_84 : decode cX9_reckon 84 = .ok (.iload_n 2, 1) := by decide +kernel
theorem dX9_reckon_85 : decode cX9_reckon 85 = .ok (.iload_n 3, 1) := by decide +kernel
theorem dX9_reckon_86 : decode cX9_reckon 86 = .ok (.invokevirtual 50, 3) := by decide +kernel
theorem dX9_reckon_89 : decode cX9_reckon 89 = .ok (.aload_n 0, 1) := by decide +kernel
theorem dX9_reckon_90 : decode cX9_reckon 90 = .ok (.getfield 18, 3) := by decide +kernel
theorem dX9_reckon_93 : decode cX9_reckon 93 = .ok (.iload_n 2, 1) := by decide +kernel
theorem dX9_reckon_94 : decode cX9_reckon 94 = .ok (.iaload, 1) := by decide +kernel
theorem dX9_reckon_95 : decode cX9_reckon 95 = .ok (.iload_n 3, 1) := by decide +kernel
theorem dX9_reckon_96 : decode cX9_reckon 96 = .ok (.invokestatic 54, 3) := by decide +kernel
theorem dX9_reckon_99 : decode cX9_reckon 99 = .ok (.ifCond .eq 15, 3) := by decide +kernel
theorem dX9_reckon_102 : decode cX9_reckon 102 = .ok (.aload_n 0, 1) := by decide +kernel
theorem dX9_reckon_103 : decode cX9_reckon 103 = .ok (.getfield 21, 3) := by decide +kernel
theorem dX9_reckon_106 : decode cX9_reckon 106 = .ok (.iload_n 3, 1) := by decide +kernel
theorem dX9_reckon_107 : decode cX9_reckon 107 = .ok (.dup2, 1) := by decide +kernel
theorem dX9_reckon_108 : decode cX9_reckon 108 = .ok (.iaload, 1) := by decide +kernel
theorem dX9_reckon_109 : decode cX9_reckon 109 = .ok (.iconst 1, 1) := by decide +kernel
theorem dX9_reckon_110 : decode cX9_reckon 110 = .ok (.iload_n 2, 1) := by decide +kernel
theorem dX9_reckon_111 : decode cX9_reckon 111 = .ok (.ishl, 1) := by decide +kernel
theorem dX9_reckon_112 : decode cX9_reckon 112 = .ok (.ior, 1) := by decide +kernel
theorem dX9_reckon_113 : decode cX9_reckon 113 = .ok (.iastore, 1) := by decide +kernel
theorem dX9_reckon_114 : decode cX9_reckon 114 = .ok (.iinc 3 1, 3) := by decide +kernel
theorem dX9_reckon_117 : decode cX9_reckon 117 = .ok (.goto (-48), 3) := by decide +kernel
theorem dX9_reckon_120 : decode cX9_reckon 120 = .ok (.iinc 2 1, 3) := by decide +kernel
theorem dX9_reckon_123 : decode cX9_reckon 123 = .ok (.goto (-64), 3) := by decide +kernel
theorem dX9_reckon_126 : decode cX9_reckon 126 = .ok (.return_, 1) := by decide +kernel
noncomputable def f_X9_reckon_L69 (i2 : Int32) (x_posts : Int32) (x_behind : Nat → Int32) (x_p1_told : Nat → Int32) (i3 : Int32) (x_roads : Int32) (x_weight : Int32) (x_weights : Nat → Int32) (x_near : Nat → Int32) (x_ahead : Nat → Int32) : Option ((Int32 × Int32 × Int32 × (Nat → Int32) × (Nat → Int32) × (Nat → Int32)) ⊕ (Int32 × Int32 × (Nat → Int32) × (Nat → Int32) × (Nat → Int32))) :=
  if x_posts ≤ i3 then (some (.inr (x_roads, x_weight, x_weights, x_near, x_ahead))) else (b4 ((if i3 ≤ i2 then (some (x_roads, x_weight, x_weights, x_near)) else (b4 (f_X9_reckonRoad x_roads x_weight x_weights x_near x_p1_told i2 i3) fun o20 o21 o22 o23 =>
  some (o20, o21, o22, o23)) : Option (Int32 × Int32 × (Nat → Int32) × (Nat → Int32)))) fun t7 t8 t9 t10 =>
  (gi x_behind 11 i2).bind fun v12 =>
  (f_X10_holds v12 i3).bind fun v13 =>
  ((if v13 = 0 then (some x_ahead) else ((gi x_ahead 11 i3).bind fun v17 =>
  (si x_ahead 11 i3 (v17 ||| ((1 : Int32) <<< (i2 &&& 31)))).bind fun v18 =>
  some v18) : Option ((Nat → Int32)))).bind fun t14 =>
  some (.inl ((i3 + (1 : Int32)), t7, t8, t9, t10, t14)))
noncomputable def f_X9_reckon_L59 (x_posts : Int32) (x_behind : Nat → Int32) (x_p1_told : Nat → Int32) (i2 : Int32) (x_roads : Int32) (x_weight : Int32) (x_weights : Nat → Int32) (x_near : Nat → Int32) (x_ahead : Nat → Int32) : Option ((Int32 × Int32 × Int32 × (Nat → Int32) × (Nat → Int32) × (Nat → Int32)) ⊕ (Int32 × Int32 × (Nat → Int32) × (Nat → Int32) × (Nat → Int32))) :=
  if x_posts ≤ i2 then (some (.inr (x_roads, x_weight, x_weights, x_near, x_ahead))) else (b5 (loopS (fun (s : Int32 × Int32 × Int32 × (Nat → Int32) × (Nat → Int32) × (Nat → Int32)) => f_X9_reckon_L69 i2 x_posts x_behind x_p1_told s.1 s.2.1 s.2.2.1 s.2.2.2.1 s.2.2.2.2.1 s.2.2.2.2.2) ((0 : Int32), x_roads, x_weight, x_weights, x_near, x_ahead)) fun x6 x7 x8 x9 x10 =>
  some (.inl ((i2 + (1 : Int32)), x6, x7, x8, x9, x10)))
noncomputable def f_X9_reckon (x_posts : Int32) (x_roads : Int32) (x_weight : Int32) (x_weights : Nat → Int32) (x_near : Nat → Int32) (x_behind : Nat → Int32) (x_ahead : Nat → Int32) (x_p1_posts : Int32) (x_p1_told : Nat → Int32) (x_p1_behind : Nat → Int32) : Option (Int32 × Int32 × Int32 × (Nat → Int32) × (Nat → Int32) × (Nat → Int32) × (Nat → Int32)) :=
  (f_J7_fill_53178 121 x_weights (0 : Int32)).bind fun o1 =>
  (f_J7_fill_53178 11 x_near (0 : Int32)).bind fun o2 =>
  (f_J7_fill_53178 11 x_ahead (0 : Int32)).bind fun o3 =>
  (cp x_p1_behind 11 x_behind 11 (0 : Int32) (0 : Int32) (11 : Int32)).bind fun v4 =>
  b5 (loopS (fun (s : Int32 × Int32 × Int32 × (Nat → Int32) × (Nat → Int32) × (Nat → Int32)) => f_X9_reckon_L59 x_p1_posts v4 x_p1_told s.1 s.2.1 s.2.2.1 s.2.2.2.1 s.2.2.2.2.1 s.2.2.2.2.2) ((0 : Int32), (0 : Int32), (0 : Int32), o1, o2, o3)) fun x5 x6 x7 x8 x9 =>
  some ((x_p1_posts, x5, x6, x7, x8, v4, x9))
set_option maxHeartbeats 4000000 in
set_option maxRecDepth 100000 in
theorem c_X9_reckon (l : Launch) (dC : Nat → ClassId) (dI : Nat → Nat → Nat) (cI cZ cN : ClassId) (q_ : Nat) (q_weights : Nat) (q_near : Nat) (q_behind : Nat) (q_ahead : Nat) (q_p1 : Nat) (q_p1_widths : Nat) (q_p1_lengths : Nat) (q_p1_told : Nat) (q_p1_behind : Nat) (x_posts : Int32) (x_roads : Int32) (x_weight : Int32) (x_weights : Nat → Int32) (x_near : Nat → Int32) (x_behind : Nat → Int32) (x_ahead : Nat → Int32) (x_p1_posts : Int32) (x_p1_pairs : Int32) (x_p1_told : Nat → Int32) (x_p1_behind : Nat → Int32) (o_posts : Int32) (o_roads : Int32) (o_weight : Int32) (o_weights : Nat → Int32) (o_near : Nat → Int32) (o_behind : Nat → Int32) (o_ahead : Nat → Int32) (hf : f_X9_reckon x_posts x_roads x_weight x_weights x_near x_behind x_ahead x_p1_posts x_p1_told x_p1_behind = some (o_posts, o_roads, o_weight, o_weights, o_near, o_behind, o_ahead)) : CV l yX9_reckon cX9_reckon 4 none 3 84 (dC, dI) (TY cI cZ cN) [.ref q_, .ref q_p1] [(q_, .inr (8, [.int x_posts, .int x_roads, .int x_weight, .ref q_weights, .ref q_near, .ref q_behind, .ref q_ahead])), (q_weights, .inl (cI, 121, .inl x_weights)), (q_near, .inl (cI, 11, .inl x_near)), (q_behind, .inl (cI, 11, .inl x_behind)), (q_ahead, .inl (cI, 11, .inl x_ahead)), (q_p1, .inr (4, [.int x_p1_posts, .int x_p1_pairs, .ref q_p1_widths, .ref q_p1_lengths, .ref q_p1_told, .ref q_p1_behind])), (q_p1_told, .inl (cI, 121, .inl x_p1_told)), (q_p1_behind, .inl (cI, 11, .inl x_p1_behind))] [(q_, .inr (8, [.int o_posts, .int o_roads, .int o_weight, .ref q_weights, .ref q_near, .ref q_behind, .ref q_ahead])), (q_weights, .inl (cI, 121, .inl o_weights)), (q_near, .inl (cI, 11, .inl o_near)), (q_behind, .inl (cI, 11, .inl o_behind)), (q_ahead, .inl (cI, 11, .inl o_ahead)), (q_p1, .inr (4, [.int x_p1_posts, .int x_p1_pairs, .ref q_p1_widths, .ref q_p1_lengths, .ref q_p1_told, .ref q_p1_behind])), (q_p1_told, .inl (cI, 121, .inl x_p1_told)), (q_p1_behind, .inl (cI, 11, .inl x_p1_behind))] := by
  refine CV.of (by decide) (Nat.le_of_ble_eq_true rfl) ?_
  intro p e s m args below meth c Q A ls hx hb hml hown htb hK hN hA hP hD hS hl hret
  have hown : s.vm.findClass RX9 = some m.cls := hown
  have hl : lv_has ls 4 [(0, .ref q_), (1, .ref q_p1)] := hl
  have hret : ∀ (o9_posts : Int32) (o9_roads : Int32) (o9_weight : Int32) (o9_weights : Nat → Int32) (o9_near : Nat → Int32) (o9_behind : Nat → Int32) (o9_ahead : Nat → Int32), some (o9_posts, o9_roads, o9_weight, o9_weights, o9_near, o9_behind, o9_ahead) = some (o_posts, o_roads, o_weight, o_weights, o_near, o_behind, o_ahead) → ∀ (H : Heap) (locs : List Loc) (pc : Nat) (ls : Array Slot), decode cX9_reckon pc = .ok (.return_, 1) → va_P (dC, dI) vwCl [(q_, .inr (8, [.int o9_posts, .int o9_roads, .int o9_weight, .ref q_weights, .ref q_near, .ref q_behind, .ref q_ahead])), (q_weights, .inl (cI, 121, .inl o9_weights)), (q_near, .inl (cI, 11, .inl o9_near)), (q_behind, .inl (cI, 11, .inl o9_behind)), (q_ahead, .inl (cI, 11, .inl o9_ahead)), (q_p1, .inr (4, [.int x_p1_posts, .int x_p1_pairs, .ref q_p1_widths, .ref q_p1_lengths, .ref q_p1_told, .ref q_p1_behind])), (q_p1_told, .inl (cI, 121, .inl x_p1_told)), (q_p1_behind, .inl (cI, 11, .inl x_p1_behind))] H → va_D A [(q_, .inr (8, [.int o9_posts, .int o9_roads, .int o9_weight, .ref q_weights, .ref q_near, .ref q_behind, .ref q_ahead])), (q_weights, .inl (cI, 121, .inl o9_weights)), (q_near, .inl (cI, 11, .inl o9_near)), (q_behind, .inl (cI, 11, .inl o9_behind)), (q_ahead, .inl (cI, 11, .inl o9_ahead)), (q_p1, .inr (4, [.int x_p1_posts, .int x_p1_pairs, .ref q_p1_widths, .ref q_p1_lengths, .ref q_p1_told, .ref q_p1_behind])), (q_p1_told, .inl (cI, 121, .inl x_p1_told)), (q_p1_behind, .inl (cI, 11, .inl x_p1_behind))] → va_S A s.heap H locs → W p l e (rmK 3 84) s m args below meth c H locs 0 0 Q (F0 m pc ls []) := by
    intro o9_posts o9_roads o9_weight o9_weights o9_near o9_behind o9_ahead h9
    cases h9
    exact hret
  unfold f_X9_reckon at hf
  refine lv_aload_n hx hb dX9_reckon_0 rfl (lv_at hl 0 rfl) ?_
  refine lv_aload_n hx hb dX9_reckon_1 rfl (lv_at hl 1 rfl) ?_
  refine va_get (D := (dC, dI)) (ci := 4) (v := .int x_p1_posts) (C := RX4) (T := TX4) (N := 6) hx hb htb inX4 hown hK hP 5 rfl rfl 0 (Nat.le_of_ble_eq_true rfl) (htb _ t_34) (fun _ h9 => h9) rfl dX9_reckon_2 ?_
  refine k_put (wn := [(q_, .inr (8, [.int x_p1_posts, .int x_roads, .int x_weight, .ref q_weights, .ref q_near, .ref q_behind, .ref q_ahead])), (q_weights, .inl (cI, 121, .inl x_weights)), (q_near, .inl (cI, 11, .inl x_near)), (q_behind, .inl (cI, 11, .inl x_behind)), (q_ahead, .inl (cI, 11, .inl x_ahead)), (q_p1, .inr (4, [.int x_p1_posts, .int x_p1_pairs, .ref q_p1_widths, .ref q_p1_lengths, .ref q_p1_told, .ref q_p1_behind])), (q_p1_told, .inl (cI, 121, .inl x_p1_told)), (q_p1_behind, .inl (cI, 11, .inl x_p1_behind))]) (C := RX9) (T := TX9) (N := 7) (ci := 8) hx hb htb inX9 tyX9 tyX9_ok nmX9 hown hK hP hD hS 0 rfl rfl 0 (Nat.le_of_ble_eq_true rfl) t_69 (fun _ h9 => h9) rfl (tyX9_ok 0 (Nat.le_of_ble_eq_true rfl)) (Nat.le_of_ble_eq_true rfl) rfl dX9_reckon_5 ?_
  clear hP hD hS
  intro H locs hP hD hS
  refine lv_aload_n hx hb dX9_reckon_8 rfl (lv_at hl 0 rfl) ?_
  refine lv_iconst (v := (0 : Int32)) hx hb dX9_reckon_9 (by decide) ?_
  refine k_put (wn := [(q_, .inr (8, [.int x_p1_posts, .int (0 : Int32), .int x_weight, .ref q_weights, .ref q_near, .ref q_behind, .ref q_ahead])), (q_weights, .inl (cI, 121, .inl x_weights)), (q_near, .inl (cI, 11, .inl x_near)), (q_behind, .inl (cI, 11, .inl x_behind)), (q_ahead, .inl (cI, 11, .inl x_ahead)), (q_p1, .inr (4, [.int x_p1_posts, .int x_p1_pairs, .ref q_p1_widths, .ref q_p1_lengths, .ref q_p1_told, .ref q_p1_behind])), (q_p1_told, .inl (cI, 121, .inl x_p1_told)), (q_p1_behind, .inl (cI, 11, .inl x_p1_behind))]) (C := RX9) (T := TX9) (N := 7) (ci := 8) hx hb htb inX9 tyX9 tyX9_ok nmX9 hown hK hP hD hS 0 rfl rfl 1 (Nat.le_of_ble_eq_true rfl) t_75 (fun _ h9 => h9) rfl (tyX9_ok 1 (Nat.le_of_ble_eq_true rfl)) (Nat.le_of_ble_eq_true rfl) rfl dX9_reckon_10 ?_
  clear hP hD hS
  intro H locs hP hD hS
  refine lv_aload_n hx hb dX9_reckon_13 rfl (lv_at hl 0 rfl) ?_
  refine lv_iconst (v := (0 : Int32)) hx hb dX9_reckon_14 (by decide) ?_
  refine k_put (wn := [(q_, .inr (8, [.int x_p1_posts, .int (0 : Int32), .int (0 : Int32), .ref q_weights, .ref q_near, .ref q_behind, .ref q_ahead])), (q_weights, .inl (cI, 121, .inl x_weights)), (q_near, .inl (cI, 11, .inl x_near)), (q_behind, .inl (cI, 11, .inl x_behind)), (q_ahead, .inl (cI, 11, .inl x_ahead)), (q_p1, .inr (4, [.int x_p1_posts, .int x_p1_pairs, .ref q_p1_widths, .ref q_p1_lengths, .ref q_p1_told, .ref q_p1_behind])), (q_p1_told, .inl (cI, 121, .inl x_p1_told)), (q_p1_behind, .inl (cI, 11, .inl x_p1_behind))]) (C := RX9) (T := TX9) (N := 7) (ci := 8) hx hb htb inX9 tyX9 tyX9_ok nmX9 hown hK hP hD hS 0 rfl rfl 2 (Nat.le_of_ble_eq_true rfl) t_77 (fun _ h9 => h9) rfl (tyX9_ok 2 (Nat.le_of_ble_eq_true rfl)) (Nat.le_of_ble_eq_true rfl) rfl dX9_reckon_15 ?_
  clear hP hD hS
  intro H locs hP hD hS
  refine lv_aload_n hx hb dX9_reckon_18 rfl (lv_at hl 0 rfl) ?_
  refine va_get (D := (dC, dI)) (ci := 8) (v := .ref q_weights) (C := RX9) (T := TX9) (N := 7) hx hb htb inX9 hown hK hP 0 rfl rfl 3 (Nat.le_of_ble_eq_true rfl) (htb _ t_79) (fun _ h9 => h9) rfl dX9_reckon_19 ?_
  refine lv_iconst (v := (0 : Int32)) hx hb dX9_reckon_22 (by decide) ?_
  obtain ⟨o1, hv, hf⟩ := ob hf
  refine k_afterV (wr := [(q_, .inr (8, [.int x_p1_posts, .int (0 : Int32), .int (0 : Int32), .ref q_weights, .ref q_near, .ref q_behind, .ref q_ahead])), (q_near, .inl (cI, 11, .inl x_near)), (q_behind, .inl (cI, 11, .inl x_behind)), (q_ahead, .inl (cI, 11, .inl x_ahead)), (q_p1, .inr (4, [.int x_p1_posts, .int x_p1_pairs, .ref q_p1_widths, .ref q_p1_lengths, .ref q_p1_told, .ref q_p1_behind])), (q_p1_told, .inl (cI, 121, .inl x_p1_told)), (q_p1_behind, .inl (cI, 11, .inl x_p1_behind))]) (wn := [(q_, .inr (8, [.int x_p1_posts, .int (0 : Int32), .int (0 : Int32), .ref q_weights, .ref q_near, .ref q_behind, .ref q_ahead])), (q_weights, .inl (cI, 121, .inl o1)), (q_near, .inl (cI, 11, .inl x_near)), (q_behind, .inl (cI, 11, .inl x_behind)), (q_ahead, .inl (cI, 11, .inl x_ahead)), (q_p1, .inr (4, [.int x_p1_posts, .int x_p1_pairs, .ref q_p1_widths, .ref q_p1_lengths, .ref q_p1_told, .ref q_p1_behind])), (q_p1_told, .inl (cI, 121, .inl x_p1_told)), (q_p1_behind, .inl (cI, 11, .inl x_p1_behind))]) (k_runS (rest := []) hx hb hml hown htb hK hN (c_J7_fill_53178 l dC dI cI cZ cN 121 q_weights x_weights (0 : Int32) o1 hv _) sf_J7_fill_53178 t_332 hP hD [1] rfl rfl ⟨(Nat.le_of_ble_eq_true rfl), (Nat.le_of_ble_eq_true rfl)⟩ rfl hl.1 rfl (Nat.le_of_ble_eq_true rfl) dX9_reckon_23 ⟨Nat.zero_le _, Nat.zero_le _⟩) hA hP hD hS [1] [0, 2, 3, 4, 5, 6, 7] [0, 7, 1, 2, 3, 4, 5, 6] rfl rfl rfl rfl ?_
  clear hP hD hS
  intro H locs hP hD hS
  refine lv_aload_n hx hb dX9_reckon_26 rfl (lv_at hl 0 rfl) ?_
  refine va_get (D := (dC, dI)) (ci := 8) (v := .ref q_near) (C := RX9) (T := TX9) (N := 7) hx hb htb inX9 hown hK hP 0 rfl rfl 4 (Nat.le_of_ble_eq_true rfl) (htb _ t_80) (fun _ h9 => h9) rfl dX9_reckon_27 ?_
  refine lv_iconst (v := (0 : Int32)) hx hb dX9_reckon_30 (by decide) ?_
  obtain ⟨o2, hv, hf⟩ := ob hf
  refine k_afterV (wr := [(q_, .inr (8, [.int x_p1_posts, .int (0 : Int32), .int (0 : Int32), .ref q_weights, .ref q_near, .ref q_behind, .ref q_ahead])), (q_weights, .inl (cI, 121, .inl o1)), (q_behind, .inl (cI, 11, .inl x_behind)), (q_ahead, .inl (cI, 11, .inl x_ahead)), (q_p1, .inr (4, [.int x_p1_posts, .int x_p1_pairs, .ref q_p1_widths, .ref q_p1_lengths, .ref q_p1_told, .ref q_p1_behind])), (q_p1_told, .inl (cI, 121, .inl x_p1_told)), (q_p1_behind, .inl (cI, 11, .inl x_p1_behind))]) (wn := [(q_, .inr (8, [.int x_p1_posts, .int (0 : Int32), .int (0 : Int32), .ref q_weights, .ref q_near, .ref q_behind, .ref q_ahead])), (q_weights, .inl (cI, 121, .inl o1)), (q_near, .inl (cI, 11, .inl o2)), (q_behind, .inl (cI, 11, .inl x_behind)), (q_ahead, .inl (cI, 11, .inl x_ahead)), (q_p1, .inr (4, [.int x_p1_posts, .int x_p1_pairs, .ref q_p1_widths, .ref q_p1_lengths, .ref q_p1_told, .ref q_p1_behind])), (q_p1_told, .inl (cI, 121, .inl x_p1_told)), (q_p1_behind, .inl (cI, 11, .inl x_p1_behind))]) (k_runS (rest := []) hx hb hml hown htb hK hN (c_J7_fill_53178 l dC dI cI cZ cN 11 q_near x_near (0 : Int32) o2 hv _) sf_J7_fill_53178 t_332 hP hD [2] rfl rfl ⟨(Nat.le_of_ble_eq_true rfl), (Nat.le_of_ble_eq_true rfl)⟩ rfl hl.1 rfl (Nat.le_of_ble_eq_true rfl) dX9_reckon_31 ⟨Nat.zero_le _, Nat.zero_le _⟩) hA hP hD hS [2] [0, 1, 3, 4, 5, 6, 7] [0, 1, 7, 2, 3, 4, 5, 6] rfl rfl rfl rfl ?_
  clear hP hD hS
  intro H locs hP hD hS
  refine lv_aload_n hx hb dX9_reckon_34 rfl (lv_at hl 0 rfl) ?_
  refine va_get (D := (dC, dI)) (ci := 8) (v := .ref q_ahead) (C := RX9) (T := TX9) (N := 7) hx hb htb inX9 hown hK hP 0 rfl rfl 6 (Nat.le_of_ble_eq_true rfl) (htb _ t_86) (fun _ h9 => h9) rfl dX9_reckon_35 ?_
  refine lv_iconst (v := (0 : Int32)) hx hb dX9_reckon_38 (by decide) ?_
  obtain ⟨o3, hv, hf⟩ := ob hf
  refine k_afterV (wr := [(q_, .inr (8, [.int x_p1_posts, .int (0 : Int32), .int (0 : Int32), .ref q_weights, .ref q_near, .ref q_behind, .ref q_ahead])), (q_weights, .inl (cI, 121, .inl o1)), (q_near, .inl (cI, 11, .inl o2)), (q_behind, .inl (cI, 11, .inl x_behind)), (q_p1, .inr (4, [.int x_p1_posts, .int x_p1_pairs, .ref q_p1_widths, .ref q_p1_lengths, .ref q_p1_told, .ref q_p1_behind])), (q_p1_told, .inl (cI, 121, .inl x_p1_told)), (q_p1_behind, .inl (cI, 11, .inl x_p1_behind))]) (wn := [(q_, .inr (8, [.int x_p1_posts, .int (0 : Int32), .int (0 : Int32), .ref q_weights, .ref q_near, .ref q_behind, .ref q_ahead])), (q_weights, .inl (cI, 121, .inl o1)), (q_near, .inl (cI, 11, .inl o2)), (q_behind, .inl (cI, 11, .inl x_behind)), (q_ahead, .inl (cI, 11, .inl o3)), (q_p1, .inr (4, [.int x_p1_posts, .int x_p1_pairs, .ref q_p1_widths, .ref q_p1_lengths, .ref q_p1_told, .ref q_p1_behind])), (q_p1_told, .inl (cI, 121, .inl x_p1_told)), (q_p1_behind, .inl (cI, 11, .inl x_p1_behind))]) (k_runS (rest := []) hx hb hml hown htb hK hN (c_J7_fill_53178 l dC dI cI cZ cN 11 q_ahead x_ahead (0 : Int32) o3 hv _) sf_J7_fill_53178 t_332 hP hD [4] rfl rfl ⟨(Nat.le_of_ble_eq_true rfl), (Nat.le_of_ble_eq_true rfl)⟩ rfl hl.1 rfl (Nat.le_of_ble_eq_true rfl) dX9_reckon_39 ⟨Nat.zero_le _, Nat.zero_le _⟩) hA hP hD hS [4] [0, 1, 2, 3, 5, 6, 7] [0, 1, 2, 3, 7, 4, 5, 6] rfl rfl rfl rfl ?_
  clear hP hD hS
  intro H locs hP hD hS
  refine lv_aload_n hx hb dX9_reckon_42 rfl (lv_at hl 1 rfl) ?_
  refine va_get (D := (dC, dI)) (ci := 4) (v := .ref q_p1_behind) (C := RX4) (T := TX4) (N := 6) hx hb htb inX4 hown hK hP 5 rfl rfl 5 (Nat.le_of_ble_eq_true rfl) (htb _ t_47) (fun _ h9 => h9) rfl dX9_reckon_43 ?_
  refine lv_iconst (v := (0 : Int32)) hx hb dX9_reckon_46 (by decide) ?_
  refine lv_aload_n hx hb dX9_reckon_47 rfl (lv_at hl 0 rfl) ?_
  refine va_get (D := (dC, dI)) (ci := 8) (v := .ref q_behind) (C := RX9) (T := TX9) (N := 7) hx hb htb inX9 hown hK hP 0 rfl rfl 5 (Nat.le_of_ble_eq_true rfl) (htb _ t_84) (fun _ h9 => h9) rfl dX9_reckon_48 ?_
  refine lv_iconst (v := (0 : Int32)) hx hb dX9_reckon_51 (by decide) ?_
  refine lv_bipush (v := (11 : Int32)) hx hb dX9_reckon_52 (by decide) ?_
  obtain ⟨v4, hv, hf⟩ := ob hf
  refine k_copy (wn := [(q_, .inr (8, [.int x_p1_posts, .int (0 : Int32), .int (0 : Int32), .ref q_weights, .ref q_near, .ref q_behind, .ref q_ahead])), (q_weights, .inl (cI, 121, .inl o1)), (q_near, .inl (cI, 11, .inl o2)), (q_behind, .inl (cI, 11, .inl v4)), (q_ahead, .inl (cI, 11, .inl o3)), (q_p1, .inr (4, [.int x_p1_posts, .int x_p1_pairs, .ref q_p1_widths, .ref q_p1_lengths, .ref q_p1_told, .ref q_p1_behind])), (q_p1_told, .inl (cI, 121, .inl x_p1_told)), (q_p1_behind, .inl (cI, 11, .inl x_p1_behind))]) hx hb (hml.trans hl.1.symm) hown (htb _ t_333) (htb _ t_323) (htb _ t_322) (htb _ t_14) hK hP hD hS 7 3 0 rfl rfl rfl hv rfl (Nat.le_of_ble_eq_true rfl) (Nat.le_of_ble_eq_true rfl) dX9_reckon_54 ?_
  clear hP hD hS
  intro H locs hP hD hS
  refine lv_iconst (v := (0 : Int32)) hx hb dX9_reckon_57 (by decide) ?_
  refine lv_istore_n (lv' := [(2, .int (0 : Int32)), (0, .ref q_), (1, .ref q_p1)]) hx hb dX9_reckon_58 rfl hl (by decide) rfl (fun ls hl => ?_)
  obtain ⟨x5, x6, x7, x8, x9, hL, hf⟩ := ob5 hf
  have kx10 : ∀ (H : Heap) (locs : List Loc) (ls : Array Slot), va_P (dC, dI) vwCl [(q_, .inr (8, [.int x_p1_posts, .int x5, .int x6, .ref q_weights, .ref q_near, .ref q_behind, .ref q_ahead])), (q_weights, .inl (cI, 121, .inl x7)), (q_near, .inl (cI, 11, .inl x8)), (q_behind, .inl (cI, 11, .inl v4)), (q_ahead, .inl (cI, 11, .inl x9)), (q_p1, .inr (4, [.int x_p1_posts, .int x_p1_pairs, .ref q_p1_widths, .ref q_p1_lengths, .ref q_p1_told, .ref q_p1_behind])), (q_p1_told, .inl (cI, 121, .inl x_p1_told)), (q_p1_behind, .inl (cI, 11, .inl x_p1_behind))] H → va_D A [(q_, .inr (8, [.int x_p1_posts, .int x5, .int x6, .ref q_weights, .ref q_near, .ref q_behind, .ref q_ahead])), (q_weights, .inl (cI, 121, .inl x7)), (q_near, .inl (cI, 11, .inl x8)), (q_behind, .inl (cI, 11, .inl v4)), (q_ahead, .inl (cI, 11, .inl x9)), (q_p1, .inr (4, [.int x_p1_posts, .int x_p1_pairs, .ref q_p1_widths, .ref q_p1_lengths, .ref q_p1_told, .ref q_p1_behind])), (q_p1_told, .inl (cI, 121, .inl x_p1_told)), (q_p1_behind, .inl (cI, 11, .inl x_p1_behind))] → va_S A s.heap H locs → lv_has ls 4 [] → W p l e (rmK 3 84) s m args below meth c H locs 0 0 Q (F0 m 126 ls []) := by
    intro H locs ls hP hD hS hl
    exact hret _ _ _ _ _ _ _ hf _ _ _ _ dX9_reckon_126 hP hD hS
  obtain ⟨n0, hn0⟩ := loopS_iter hL
  clear hf
  have kl17 : ∀ (n : Nat) (s11 : Int32) (s12 : Int32) (s13 : Int32) (s14 : Nat → Int32) (s15 : Nat → Int32) (s16 : Nat → Int32), iterS (fun (s : Int32 × Int32 × Int32 × (Nat → Int32) × (Nat → Int32) × (Nat → Int32)) => f_X9_reckon_L59 x_p1_posts v4 x_p1_told s.1 s.2.1 s.2.2.1 s.2.2.2.1 s.2.2.2.2.1 s.2.2.2.2.2) n (s11, s12, s13, s14, s15, s16) = some (x5, x6, x7, x8, x9) → ∀ (H : Heap) (locs : List Loc) (ls : Array Slot), va_P (dC, dI) vwCl [(q_, .inr (8, [.int x_p1_posts, .int s12, .int s13, .ref q_weights, .ref q_near, .ref q_behind, .ref q_ahead])), (q_weights, .inl (cI, 121, .inl s14)), (q_near, .inl (cI, 11, .inl s15)), (q_behind, .inl (cI, 11, .inl v4)), (q_ahead, .inl (cI, 11, .inl s16)), (q_p1, .inr (4, [.int x_p1_posts, .int x_p1_pairs, .ref q_p1_widths, .ref q_p1_lengths, .ref q_p1_told, .ref q_p1_behind])), (q_p1_told, .inl (cI, 121, .inl x_p1_told)), (q_p1_behind, .inl (cI, 11, .inl x_p1_behind))] H → va_D A [(q_, .inr (8, [.int x_p1_posts, .int s12, .int s13, .ref q_weights, .ref q_near, .ref q_behind, .ref q_ahead])), (q_weights, .inl (cI, 121, .inl s14)), (q_near, .inl (cI, 11, .inl s15)), (q_behind, .inl (cI, 11, .inl v4)), (q_ahead, .inl (cI, 11, .inl s16)), (q_p1, .inr (4, [.int x_p1_posts, .int x_p1_pairs, .ref q_p1_widths, .ref q_p1_lengths, .ref q_p1_told, .ref q_p1_behind])), (q_p1_told, .inl (cI, 121, .inl x_p1_told)), (q_p1_behind, .inl (cI, 11, .inl x_p1_behind))] → va_S A s.heap H locs → lv_has ls 4 [(0, .ref q_), (1, .ref q_p1), (2, .int s11)] → W p l e (rmK 3 84) s m args below meth c H locs 0 0 Q (F0 m 59 ls []) := by
    intro n
    induction n with
    | zero =>
      intro s11 s12 s13 s14 s15 s16 hn1
      cases hn1
    | succ n ih1 =>
      intro s11 s12 s13 s14 s15 s16 hn1 H locs ls hP hD hS hl
      obtain ⟨r18, hf, hn1⟩ := it1 hn1
      replace hf : f_X9_reckon_L59 x_p1_posts v4 x_p1_told s11 s12 s13 s14 s15 s16 = some r18 := hf
      unfold f_X9_reckon_L59 at hf
      refine lv_iload_n hx hb dX9_reckon_59 rfl (lv_at hl 2 rfl) ?_
      refine lv_aload_n hx hb dX9_reckon_60 rfl (lv_at hl 0 rfl) ?_
      refine va_get (D := (dC, dI)) (ci := 8) (v := .int x_p1_posts) (C := RX9) (T := TX9) (N := 7) hx hb htb inX9 hown hK hP 0 rfl rfl 0 (Nat.le_of_ble_eq_true rfl) (htb _ t_69) (fun _ h9 => h9) rfl dX9_reckon_61 ?_
      refine lv_icmp_ge (tgt := 126) hx hb dX9_reckon_64 (by decide) (fun c19 => ?_) (fun c19 => ?_)
      · have hf := ip c19 hf
        cases hf
        cases (itr hn1)
        exact kx10 _ _ _ hP hD hS (lv_sub hl [] rfl)
      · have hf := im c19 hf
        refine lv_iconst (v := (0 : Int32)) hx hb dX9_reckon_67 (by decide) ?_
        refine lv_istore_n (lv' := [(3, .int (0 : Int32)), (0, .ref q_), (1, .ref q_p1), (2, .int s11)]) hx hb dX9_reckon_68 rfl hl (by decide) rfl (fun ls hl => ?_)
        obtain ⟨x20, x21, x22, x23, x24, hL, hf⟩ := ob5 hf
        have kx25 : ∀ (H : Heap) (locs : List Loc) (ls : Array Slot), va_P (dC, dI) vwCl [(q_, .inr (8, [.int x_p1_posts, .int x20, .int x21, .ref q_weights, .ref q_near, .ref q_behind, .ref q_ahead])), (q_weights, .inl (cI, 121, .inl x22)), (q_near, .inl (cI, 11, .inl x23)), (q_behind, .inl (cI, 11, .inl v4)), (q_ahead, .inl (cI, 11, .inl x24)), (q_p1, .inr (4, [.int x_p1_posts, .int x_p1_pairs, .ref q_p1_widths, .ref q_p1_lengths, .ref q_p1_told, .ref q_p1_behind])), (q_p1_told, .inl (cI, 121, .inl x_p1_told)), (q_p1_behind, .inl (cI, 11, .inl x_p1_behind))] H → va_D A [(q_, .inr (8, [.int x_p1_posts, .int x20, .int x21, .ref q_weights, .ref q_near, .ref q_behind, .ref q_ahead])), (q_weights, .inl (cI, 121, .inl x22)), (q_near, .inl (cI, 11, .inl x23)), (q_behind, .inl (cI, 11, .inl v4)), (q_ahead, .inl (cI, 11, .inl x24)), (q_p1, .inr (4, [.int x_p1_posts, .int x_p1_pairs, .ref q_p1_widths, .ref q_p1_lengths, .ref q_p1_told, .ref q_p1_behind])), (q_p1_told, .inl (cI, 121, .inl x_p1_told)), (q_p1_behind, .inl (cI, 11, .inl x_p1_behind))] → va_S A s.heap H locs → lv_has ls 4 [(0, .ref q_), (1, .ref q_p1), (2, .int s11)] → W p l e (rmK 3 84) s m args below meth c H locs 0 0 Q (F0 m 120 ls []) := by
          intro H locs ls hP hD hS hl
          refine lv_iinc (v := (s11 + (1 : Int32))) (lv' := [(2, .int (s11 + (1 : Int32))), (0, .ref q_), (1, .ref q_p1)]) hx hb dX9_reckon_120 hl (k := 2) rfl rfl (by decide) rfl (fun ls hl => ?_)
          refine lv_goto (tgt := 59) hx hb dX9_reckon_123 (by decide) ?_
          cases hf
          exact ih1 _ _ _ _ _ _ (itl hn1) _ _ _ hP hD hS (lv_sub hl [1, 2, 0] rfl)
        obtain ⟨n0, hn0⟩ := loopS_iter hL
        clear hf
        have kl32 : ∀ (n : Nat) (s26 : Int32) (s27 : Int32) (s28 : Int32) (s29 : Nat → Int32) (s30 : Nat → Int32) (s31 : Nat → Int32), iterS (fun (s : Int32 × Int32 × Int32 × (Nat → Int32) × (Nat → Int32) × (Nat → Int32)) => f_X9_reckon_L69 s11 x_p1_posts v4 x_p1_told s.1 s.2.1 s.2.2.1 s.2.2.2.1 s.2.2.2.2.1 s.2.2.2.2.2) n (s26, s27, s28, s29, s30, s31) = some (x20, x21, x22, x23, x24) → ∀ (H : Heap) (locs : List Loc) (ls : Array Slot), va_P (dC, dI) vwCl [(q_, .inr (8, [.int x_p1_posts, .int s27, .int s28, .ref q_weights, .ref q_near, .ref q_behind, .ref q_ahead])), (q_weights, .inl (cI, 121, .inl s29)), (q_near, .inl (cI, 11, .inl s30)), (q_behind, .inl (cI, 11, .inl v4)), (q_ahead, .inl (cI, 11, .inl s31)), (q_p1, .inr (4, [.int x_p1_posts, .int x_p1_pairs, .ref q_p1_widths, .ref q_p1_lengths, .ref q_p1_told, .ref q_p1_behind])), (q_p1_told, .inl (cI, 121, .inl x_p1_told)), (q_p1_behind, .inl (cI, 11, .inl x_p1_behind))] H → va_D A [(q_, .inr (8, [.int x_p1_posts, .int s27, .int s28, .ref q_weights, .ref q_near, .ref q_behind, .ref q_ahead])), (q_weights, .inl (cI, 121, .inl s29)), (q_near, .inl (cI, 11, .inl s30)), (q_behind, .inl (cI, 11, .inl v4)), (q_ahead, .inl (cI, 11, .inl s31)), (q_p1, .inr (4, [.int x_p1_posts, .int x_p1_pairs, .ref q_p1_widths, .ref q_p1_lengths, .ref q_p1_told, .ref q_p1_behind])), (q_p1_told, .inl (cI, 121, .inl x_p1_told)), (q_p1_behind, .inl (cI, 11, .inl x_p1_behind))] → va_S A s.heap H locs → lv_has ls 4 [(0, .ref q_), (1, .ref q_p1), (2, .int s11), (3, .int s26)] → W p l e (rmK 3 84) s m args below meth c H locs 0 0 Q (F0 m 69 ls []) := by
          intro n
          induction n with
          | zero =>
            intro s26 s27 s28 s29 s30 s31 hn2
            cases hn2
          | succ n ih2 =>
            intro s26 s27 s28 s29 s30 s31 hn2 H locs ls hP hD hS hl
            obtain ⟨r33, hf, hn2⟩ := it1 hn2
            replace hf : f_X9_reckon_L69 s11 x_p1_posts v4 x_p1_told s26 s27 s28 s29 s30 s31 = some r33 := hf
            unfold f_X9_reckon_L69 at hf
            refine lv_iload_n hx hb dX9_reckon_69 rfl (lv_at hl 3 rfl) ?_
            refine lv_aload_n hx hb dX9_reckon_70 rfl (lv_at hl 0 rfl) ?_
            refine va_get (D := (dC, dI)) (ci := 8) (v := .int x_p1_posts) (C := RX9) (T := TX9) (N := 7) hx hb htb inX9 hown hK hP 0 rfl rfl 0 (Nat.le_of_ble_eq_true rfl) (htb _ t_69) (fun _ h9 => h9) rfl dX9_reckon_71 ?_
            refine lv_icmp_ge (tgt := 120) hx hb dX9_reckon_74 (by decide) (fun c34 => ?_) (fun c34 => ?_)
            · have hf := ip c34 hf
              cases hf
              cases (itr hn2)
              exact kx25 _ _ _ hP hD hS (lv_sub hl [0, 1, 2] rfl)
            · have hf := im c34 hf
              refine lv_iload_n hx hb dX9_reckon_77 rfl (lv_at hl 2 rfl) ?_
              refine lv_iload_n hx hb dX9_reckon_78 rfl (lv_at hl 3 rfl) ?_
              obtain ⟨t35, t36, t37, t38, hv, hf⟩ := ob4 hf
              have key39 : ∀ (H : Heap) (locs : List Loc) (ls : Array Slot), va_P (dC, dI) vwCl [(q_, .inr (8, [.int x_p1_posts, .int t35, .int t36, .ref q_weights, .ref q_near, .ref q_behind, .ref q_ahead])), (q_weights, .inl (cI, 121, .inl t37)), (q_near, .inl (cI, 11, .inl t38)), (q_behind, .inl (cI, 11, .inl v4)), (q_ahead, .inl (cI, 11, .inl s31)), (q_p1, .inr (4, [.int x_p1_posts, .int x_p1_pairs, .ref q_p1_widths, .ref q_p1_lengths, .ref q_p1_told, .ref q_p1_behind])), (q_p1_told, .inl (cI, 121, .inl x_p1_told)), (q_p1_behind, .inl (cI, 11, .inl x_p1_behind))] H → va_D A [(q_, .inr (8, [.int x_p1_posts, .int t35, .int t36, .ref q_weights, .ref q_near, .ref q_behind, .ref q_ahead])), (q_weights, .inl (cI, 121, .inl t37)), (q_near, .inl (cI, 11, .inl t38)), (q_behind, .inl (cI, 11, .inl v4)), (q_ahead, .inl (cI, 11, .inl s31)), (q_p1, .inr (4, [.int x_p1_posts, .int x_p1_pairs, .ref q_p1_widths, .ref q_p1_lengths, .ref q_p1_told, .ref q_p1_behind])), (q_p1_told, .inl (cI, 121, .inl x_p1_told)), (q_p1_behind, .inl (cI, 11, .inl x_p1_behind))] → va_S A s.heap H locs → lv_has ls 4 [(0, .ref q_), (1, .ref q_p1), (2, .int s11), (3, .int s26)] → W p l e (rmK 3 84) s m args below meth c H locs 0 0 Q (F0 m 89 ls []) := by
                intro H locs ls hP hD hS hl
                refine lv_aload_n hx hb dX9_reckon_89 rfl (lv_at hl 0 rfl) ?_
                refine va_get (D := (dC, dI)) (ci := 8) (v := .ref q_behind) (C := RX9) (T := TX9) (N := 7) hx hb htb inX9 hown hK hP 0 rfl rfl 5 (Nat.le_of_ble_eq_true rfl) (htb _ t_84) (fun _ h9 => h9) rfl dX9_reckon_90 ?_
                refine lv_iload_n hx hb dX9_reckon_93 rfl (lv_at hl 2 rfl) ?_
                obtain ⟨v40, hv, hf⟩ := ob hf
                refine k_iald hx hb hK hP 3 0 rfl rfl hv dX9_reckon_94 ?_
                refine lv_iload_n hx hb dX9_reckon_95 rfl (lv_at hl 3 rfl) ?_
                obtain ⟨v41, hv, hf⟩ := ob hf
                refine k_afterI (wr := [(q_, .inr (8, [.int x_p1_posts, .int t35, .int t36, .ref q_weights, .ref q_near, .ref q_behind, .ref q_ahead])), (q_weights, .inl (cI, 121, .inl t37)), (q_near, .inl (cI, 11, .inl t38)), (q_behind, .inl (cI, 11, .inl v4)), (q_ahead, .inl (cI, 11, .inl s31)), (q_p1, .inr (4, [.int x_p1_posts, .int x_p1_pairs, .ref q_p1_widths, .ref q_p1_lengths, .ref q_p1_told, .ref q_p1_behind])), (q_p1_told, .inl (cI, 121, .inl x_p1_told)), (q_p1_behind, .inl (cI, 11, .inl x_p1_behind))]) (wn := [(q_, .inr (8, [.int x_p1_posts, .int t35, .int t36, .ref q_weights, .ref q_near, .ref q_behind, .ref q_ahead])), (q_weights, .inl (cI, 121, .inl t37)), (q_near, .inl (cI, 11, .inl t38)), (q_behind, .inl (cI, 11, .inl v4)), (q_ahead, .inl (cI, 11, .inl s31)), (q_p1, .inr (4, [.int x_p1_posts, .int x_p1_pairs, .ref q_p1_widths, .ref q_p1_lengths, .ref q_p1_told, .ref q_p1_behind])), (q_p1_told, .inl (cI, 121, .inl x_p1_told)), (q_p1_behind, .inl (cI, 11, .inl x_p1_behind))]) (k_runSN (rest := []) (host := "NarrowRows") hx hb hml hown htb hK hN (c_X10_holds l dC dI cI cZ cN v40 s26 v41 hv _) sf_X10_holds nm_5 hP hD [] rfl rfl ⟨(Nat.le_of_ble_eq_true rfl), (Nat.le_of_ble_eq_true rfl)⟩ rfl hl.1 rfl (Nat.le_of_ble_eq_true rfl) dX9_reckon_96 ⟨Nat.zero_le _, Nat.zero_le _⟩) hA hP hD hS [] [0, 1, 2, 3, 4, 5, 6, 7] [0, 1, 2, 3, 4, 5, 6, 7] rfl rfl rfl rfl ?_
                clear hP hD hS
                intro H locs hP hD hS
                obtain ⟨t42, hv, hf⟩ := ob hf
                have key43 : ∀ (H : Heap) (locs : List Loc) (ls : Array Slot), va_P (dC, dI) vwCl [(q_, .inr (8, [.int x_p1_posts, .int t35, .int t36, .ref q_weights, .ref q_near, .ref q_behind, .ref q_ahead])), (q_weights, .inl (cI, 121, .inl t37)), (q_near, .inl (cI, 11, .inl t38)), (q_behind, .inl (cI, 11, .inl v4)), (q_ahead, .inl (cI, 11, .inl t42)), (q_p1, .inr (4, [.int x_p1_posts, .int x_p1_pairs, .ref q_p1_widths, .ref q_p1_lengths, .ref q_p1_told, .ref q_p1_behind])), (q_p1_told, .inl (cI, 121, .inl x_p1_told)), (q_p1_behind, .inl (cI, 11, .inl x_p1_behind))] H → va_D A [(q_, .inr (8, [.int x_p1_posts, .int t35, .int t36, .ref q_weights, .ref q_near, .ref q_behind, .ref q_ahead])), (q_weights, .inl (cI, 121, .inl t37)), (q_near, .inl (cI, 11, .inl t38)), (q_behind, .inl (cI, 11, .inl v4)), (q_ahead, .inl (cI, 11, .inl t42)), (q_p1, .inr (4, [.int x_p1_posts, .int x_p1_pairs, .ref q_p1_widths, .ref q_p1_lengths, .ref q_p1_told, .ref q_p1_behind])), (q_p1_told, .inl (cI, 121, .inl x_p1_told)), (q_p1_behind, .inl (cI, 11, .inl x_p1_behind))] → va_S A s.heap H locs → lv_has ls 4 [(0, .ref q_), (1, .ref q_p1), (2, .int s11), (3, .int s26)] → W p l e (rmK 3 84) s m args below meth c H locs 0 0 Q (F0 m 114 ls []) := by
                  intro H locs ls hP hD hS hl
                  refine lv_iinc (v := (s26 + (1 : Int32))) (lv' := [(3, .int (s26 + (1 : Int32))), (0, .ref q_), (1, .ref q_p1), (2, .int s11)]) hx hb dX9_reckon_114 hl (k := 3) rfl rfl (by decide) rfl (fun ls hl => ?_)
                  refine lv_goto (tgt := 69) hx hb dX9_reckon_117 (by decide) ?_
                  cases hf
                  exact ih2 _ _ _ _ _ _ (itl hn2) _ _ _ hP hD hS (lv_sub hl [1, 2, 3, 0] rfl)
                replace hf := hv
                refine lv_if_eq (tgt := 114) hx hb dX9_reckon_99 (by decide) (fun c44 => ?_) (fun c44 => ?_)
                · have hf := ip c44 hf
                  cases hf
                  exact key43 _ _ _ hP hD hS (lv_sub hl [0, 1, 2, 3] rfl)
                · have hf := im c44 hf
                  refine lv_aload_n hx hb dX9_reckon_102 rfl (lv_at hl 0 rfl) ?_
                  refine va_get (D := (dC, dI)) (ci := 8) (v := .ref q_ahead) (C := RX9) (T := TX9) (N := 7) hx hb htb inX9 hown hK hP 0 rfl rfl 6 (Nat.le_of_ble_eq_true rfl) (htb _ t_86) (fun _ h9 => h9) rfl dX9_reckon_103 ?_
                  refine lv_iload_n hx hb dX9_reckon_106 rfl (lv_at hl 3 rfl) ?_
                  refine lv_dup2_11 hx hb dX9_reckon_107 rfl rfl ?_
                  obtain ⟨v45, hv, hf⟩ := ob hf
                  refine k_iald hx hb hK hP 4 0 rfl rfl hv dX9_reckon_108 ?_
                  refine lv_iconst (v := (1 : Int32)) hx hb dX9_reckon_109 (by decide) ?_
                  refine lv_iload_n hx hb dX9_reckon_110 rfl (lv_at hl 2 rfl) ?_
                  refine lv_ishl hx hb dX9_reckon_111 ?_
                  refine lv_ior hx hb dX9_reckon_112 ?_
                  obtain ⟨v46, hv, hf⟩ := ob hf
                  refine k_iast (wn := [(q_, .inr (8, [.int x_p1_posts, .int t35, .int t36, .ref q_weights, .ref q_near, .ref q_behind, .ref q_ahead])), (q_weights, .inl (cI, 121, .inl t37)), (q_near, .inl (cI, 11, .inl t38)), (q_behind, .inl (cI, 11, .inl v4)), (q_ahead, .inl (cI, 11, .inl v46)), (q_p1, .inr (4, [.int x_p1_posts, .int x_p1_pairs, .ref q_p1_widths, .ref q_p1_lengths, .ref q_p1_told, .ref q_p1_behind])), (q_p1_told, .inl (cI, 121, .inl x_p1_told)), (q_p1_behind, .inl (cI, 11, .inl x_p1_behind))]) hx hb hK hP hD hS 4 0 rfl rfl hv rfl dX9_reckon_113 ?_
                  clear hP hD hS
                  intro H locs hP hD hS
                  cases hf
                  exact key43 _ _ _ hP hD hS (lv_sub hl [0, 1, 2, 3] rfl)
              replace hf := hv
              refine lv_icmp_ge (tgt := 89) hx hb dX9_reckon_79 (by decide) (fun c47 => ?_) (fun c47 => ?_)
              · have hf := ip c47 hf
                cases hf
                exact key39 _ _ _ hP hD hS (lv_sub hl [0, 1, 2, 3] rfl)
              · have hf := im c47 hf
                refine lv_aload_n hx hb dX9_reckon_82 rfl (lv_at hl 0 rfl) ?_
                refine lv_aload_n hx hb dX9_reckon_83 rfl (lv_at hl 1 rfl) ?_
                refine lv_iload_n hx hb dX9_reckon_84 rfl (lv_at hl 2 rfl) ?_
                refine lv_iload_n hx hb dX9_reckon_85 rfl (lv_at hl 3 rfl) ?_
                obtain ⟨o48, o49, o50, o51, hv, hf⟩ := ob4 hf
                refine k_afterV (wr := [(q_behind, .inl (cI, 11, .inl v4)), (q_ahead, .inl (cI, 11, .inl s31)), (q_p1_behind, .inl (cI, 11, .inl x_p1_behind))]) (wn := [(q_, .inr (8, [.int x_p1_posts, .int o48, .int o49, .ref q_weights, .ref q_near, .ref q_behind, .ref q_ahead])), (q_weights, .inl (cI, 121, .inl o50)), (q_near, .inl (cI, 11, .inl o51)), (q_behind, .inl (cI, 11, .inl v4)), (q_ahead, .inl (cI, 11, .inl s31)), (q_p1, .inr (4, [.int x_p1_posts, .int x_p1_pairs, .ref q_p1_widths, .ref q_p1_lengths, .ref q_p1_told, .ref q_p1_behind])), (q_p1_told, .inl (cI, 121, .inl x_p1_told)), (q_p1_behind, .inl (cI, 11, .inl x_p1_behind))]) (k_runV (rest := []) (ci := 8) (q0 := 0) hx hb hml hown htb hK hN (c_X9_reckonRoad l dC dI cI cZ cN q_ q_weights q_near q_behind q_ahead q_p1 q_p1_widths q_p1_lengths q_p1_told q_p1_behind x_p1_posts s27 s28 s29 s30 x_p1_posts x_p1_pairs x_p1_told s11 s26 o48 o49 o50 o51 hv _) vf_X9_reckonRoad t_334 hP hD [0, 1, 2, 5, 6] rfl rfl rfl rfl ⟨(Nat.le_of_ble_eq_true rfl), (Nat.le_of_ble_eq_true rfl)⟩ rfl hl.1 rfl (Nat.le_of_ble_eq_true rfl) dX9_reckon_86 ⟨Nat.zero_le _, Nat.zero_le _⟩) hA hP hD hS [0, 1, 2, 5, 6] [3, 4, 7] [3, 4, 5, 0, 1, 6, 7, 2] rfl rfl rfl rfl ?_
                clear hP hD hS
                intro H locs hP hD hS
                cases hf
                exact key39 _ _ _ hP hD hS (lv_sub hl [0, 1, 2, 3] rfl)
        exact kl32 n0 _ _ _ _ _ _ hn0 _ _ _ hP hD hS (lv_sub hl [1, 2, 3, 0] rfl)
  exact kl17 n0 _ _ _ _ _ _ hn0 _ _ _ hP hD hS (lv_sub hl [1, 2, 0] rfl)
theorem vf_X9_weightOf : VF yX9_weightOf cX9_weightOf 3 (some .int) 2 := ⟨t_405, t_406, t_4, t_407, by decide +kernel, by decide +kernel, by decide +kernel⟩
theorem dX9_weightOf_0 : decode cX9_weightOf 0 = .ok (.aload_n 0, 1) := by decide +kernel
theorem dX9_weightOf_1 : decode cX9_weightOf 1 = .ok (.getfield 9, 3) := by decide +kernel
theorem dX9_weightOf_4 : decode cX9_weightOf 4 = .ok (.iload_n 1, 1) := by decide +kernel
theorem dX9_weightOf_5 : decode cX9_weightOf 5 = .ok (.bipush 11, 2) := by decide +kernel
theorem dX9_weightOf_7 : decode cX9_weightOf 7 = .ok (.imul, 1) := by decide +kernel
theorem dX9_weightOf_8 : decode cX9_weightOf 8 = .ok (.iload_n 2, 1) := by decide +kernel
theorem dX9_weightOf_9 : decode cX9_weightOf 9 = .ok (.iadd, 1) := by decide +kernel
theorem dX9_weightOf_10 : decode cX9_weightOf 10 = .ok (.iaload, 1) := by decide +kernel
theorem dX9_weightOf_11 : decode cX9_weightOf 11 = .ok (.ireturn, 1) := by decide +kernel
noncomputable def f_X9_weightOf (x_weights : Nat → Int32) (i1 : Int32) (i2 : Int32) : Option (Int32) :=
  (gi x_weights 121 ((i1 * (11 : Int32)) + i2)).bind fun v1 =>
  some (v1)
set_option maxHeartbeats 4000000 in
set_option maxRecDepth 100000 in
theorem c_X9_weightOf (l : Launch) (dC : Nat → ClassId) (dI : Nat → Nat → Nat) (cI cZ cN : ClassId) (q_ : Nat) (q_weights : Nat) (q_near : Nat) (q_behind : Nat) (q_ahead : Nat) (x_posts : Int32) (x_roads : Int32) (x_weight : Int32) (x_weights : Nat → Int32) (i1 i2 : Int32) (r : Int32) (hf : f_X9_weightOf x_weights i1 i2 = some r) : CI l yX9_weightOf cX9_weightOf 3 (some .int) 2 60 (dC, dI) (TY cI cZ cN) [.ref q_, .int i1, .int i2] [(q_, .inr (8, [.int x_posts, .int x_roads, .int x_weight, .ref q_weights, .ref q_near, .ref q_behind, .ref q_ahead])), (q_weights, .inl (cI, 121, .inl x_weights))] [(q_, .inr (8, [.int x_posts, .int x_roads, .int x_weight, .ref q_weights, .ref q_near, .ref q_behind, .ref q_ahead])), (q_weights, .inl (cI, 121, .inl x_weights))] r := by
  refine CI.of rfl (by decide) (Nat.le_of_ble_eq_true rfl) ?_
  intro p e s m args below meth c Q A ls hx hb hml hown htb hK hN hA hP hD hS hl hret
  have hown : s.vm.findClass RX9 = some m.cls := hown
  have hl : lv_has ls 3 [(0, .ref q_), (1, .int i1), (2, .int i2)] := hl
  have hret : ∀ (r9 : Int32), some r9 = some r → ∀ (H : Heap) (locs : List Loc) (pc : Nat) (ls : Array Slot), narrow .int (.int r9) = .int r9 → decode cX9_weightOf pc = .ok (.ireturn, 1) → va_P (dC, dI) vwCl [(q_, .inr (8, [.int x_posts, .int x_roads, .int x_weight, .ref q_weights, .ref q_near, .ref q_behind, .ref q_ahead])), (q_weights, .inl (cI, 121, .inl x_weights))] H → va_D A [(q_, .inr (8, [.int x_posts, .int x_roads, .int x_weight, .ref q_weights, .ref q_near, .ref q_behind, .ref q_ahead])), (q_weights, .inl (cI, 121, .inl x_weights))] → va_S A s.heap H locs → W p l e (rmK 2 60) s m args below meth c H locs 0 0 Q (F0 m pc ls [.int r9]) := by
    intro r9 h9
    cases h9
    exact hret
  unfold f_X9_weightOf at hf
  refine lv_aload_n hx hb dX9_weightOf_0 rfl (lv_at hl 0 rfl) ?_
  refine va_get (D := (dC, dI)) (ci := 8) (v := .ref q_weights) (C := RX9) (T := TX9) (N := 7) hx hb htb inX9 hown hK hP 0 rfl rfl 3 (Nat.le_of_ble_eq_true rfl) (htb _ t_79) (fun _ h9 => h9) rfl dX9_weightOf_1 ?_
  refine lv_iload_n hx hb dX9_weightOf_4 rfl (lv_at hl 1 rfl) ?_
  refine lv_bipush (v := (11 : Int32)) hx hb dX9_weightOf_5 (by decide) ?_
  refine lv_imul hx hb dX9_weightOf_7 ?_
  refine lv_iload_n hx hb dX9_weightOf_8 rfl (lv_at hl 2 rfl) ?_
  refine lv_iadd hx hb dX9_weightOf_9 ?_
  obtain ⟨v1, hv, hf⟩ := ob hf
  refine k_iald hx hb hK hP 1 0 rfl rfl hv dX9_weightOf_10 ?_
  exact hret _ hf _ _ _ _ rfl dX9_weightOf_11 hP hD hS
theorem vf_X9_weightAt : VF yX9_weightAt cX9_weightAt 4 (some .int) 1 := ⟨t_419, t_420, t_4, t_421, by decide +kernel, by decide +kernel, by decide +kernel⟩
theorem dX9_weightAt_0 : decode cX9_weightAt 0 = .ok (.iconst 0, 1) := by decide +kernel
theorem dX9_weightAt_1 : decode cX9_weightAt 1 = .ok (.istore_n 2, 1) := by decide +kernel
theorem dX9_weightAt_2 : decode cX9_weightAt 2 = .ok (.iconst 0, 1) := by decide +kernel
theorem dX9_weightAt_3 : decode cX9_weightAt 3 = .ok (.istore_n 3, 1) := by decide +kernel
theorem dX9_weightAt_4 : decode cX9_weightAt 4 = .ok (.iload_n 3, 1) := by decide +kernel
theorem dX9_weightAt_5 : decode cX9_weightAt 5 = .ok (.aload_n 0, 1) := by decide +kernel
theorem dX9_weightAt_6 : decode cX9_weightAt 6 = .ok (.getfield 30, 3) := by decide +kernel
theorem dX9_weightAt_9 : decode cX9_weightAt 9 = .ok (.if_icmp .ge 18, 3) := by decide +kernel
theorem dX9_weightAt_12 : decode cX9_weightAt 12 = .ok (.iload_n 2, 1) := by decide +kernel
theorem dX9_weightAt_13 : decode cX9_weightAt 13 = .ok (.aload_n 0, 1) := by decide +kernel
theorem dX9_weightAt_14 : decode cX9_weightAt 14 = .ok (.iload_n 1, 1) := by decide +kernel
theorem dX9_weightAt_15 : decode cX9_weightAt 15 = .ok (.iload_n 3, 1) := by decide +kernel
theorem dX9_weightAt_16 : decode cX9_weightAt 16 = .ok (.invokevirtual 61, 3) := by decide +kernel
theorem dX9_weightAt_19 : decode cX9_weightAt 19 = .ok (.iadd, 1) := by decide +kernel
theorem dX9_weightAt_20 : decode cX9_weightAt 20 = .ok (.istore_n 2, 1) := by decide +kernel
theorem dX9_weightAt_21 : decode cX9_weightAt 21 = .ok (.iinc 3 1, 3) := by decide +kernel
theorem dX9_weightAt_24 : decode cX9_weightAt 24 = .ok (.goto (-20), 3) := by decide +kernel
theorem dX9_weightAt_27 : decode cX9_weightAt 27 = .ok (.iload_n 2, 1) := by decide +kernel
theorem dX9_weightAt_28 : decode cX9_weightAt 28 = .ok (.ireturn, 1) := by decide +kernel
noncomputable def f_X9_weightAt_L4 (i1 : Int32) (x_posts : Int32) (x_weights : Nat → Int32) (i2 : Int32) (i3 : Int32) : Option ((Int32 × Int32) ⊕ (Int32)) :=
  if x_posts ≤ i3 then (some (.inr i2)) else ((f_X9_weightOf x_weights i1 i3).bind fun v2 =>
  some (.inl ((i2 + v2), (i3 + (1 : Int32)))))
noncomputable def f_X9_weightAt (x_posts : Int32) (x_weights : Nat → Int32) (i1 : Int32) : Option (Int32) :=
  (loopS (fun (s : Int32 × Int32) => f_X9_weightAt_L4 i1 x_posts x_weights s.1 s.2) ((0 : Int32), (0 : Int32))).bind fun x1 =>
  some (x1)
set_option maxHeartbeats 4000000 in
set_option maxRecDepth 100000 in
theorem c_X9_weightAt (l : Launch) (dC : Nat → ClassId) (dI : Nat → Nat → Nat) (cI cZ cN : ClassId) (q_ : Nat) (q_weights : Nat) (q_near : Nat) (q_behind : Nat) (q_ahead : Nat) (x_posts : Int32) (x_roads : Int32) (x_weight : Int32) (x_weights : Nat → Int32) (i1 : Int32) (r : Int32) (hf : f_X9_weightAt x_posts x_weights i1 = some r) : CI l yX9_weightAt cX9_weightAt 4 (some .int) 3 82 (dC, dI) (TY cI cZ cN) [.ref q_, .int i1] [(q_, .inr (8, [.int x_posts, .int x_roads, .int x_weight, .ref q_weights, .ref q_near, .ref q_behind, .ref q_ahead])), (q_weights, .inl (cI, 121, .inl x_weights))] [(q_, .inr (8, [.int x_posts, .int x_roads, .int x_weight, .ref q_weights, .ref q_near, .ref q_behind, .ref q_ahead])), (q_weights, .inl (cI, 121, .inl x_weights))] r := by
  refine CI.of rfl (by decide) (Nat.le_of_ble_eq_true rfl) ?_
  intro p e s m args below meth c Q A ls hx hb hml hown htb hK hN hA hP hD hS hl hret
  have hown : s.vm.findClass RX9 = some m.cls := hown
  have hl : lv_has ls 4 [(0, .ref q_), (1, .int i1)] := hl
  have hret : ∀ (r9 : Int32), some r9 = some r → ∀ (H : Heap) (locs : List Loc) (pc : Nat) (ls : Array Slot), narrow .int (.int r9) = .int r9 → decode cX9_weightAt pc = .ok (.ireturn, 1) → va_P (dC, dI) vwCl [(q_, .inr (8, [.int x_posts, .int x_roads, .int x_weight, .ref q_weights, .ref q_near, .ref q_behind, .ref q_ahead])), (q_weights, .inl (cI, 121, .inl x_weights))] H → va_D A [(q_, .inr (8, [.int x_posts, .int x_roads, .int x_weight, .ref q_weights, .ref q_near, .ref q_behind, .ref q_ahead])), (q_weights, .inl (cI, 121, .inl x_weights))] → va_S A s.heap H locs → W p l e (rmK 3 82) s m args below meth c H locs 0 0 Q (F0 m pc ls [.int r9]) := by
    intro r9 h9
    cases h9
    exact hret
  unfold f_X9_weightAt at hf
  refine lv_iconst (v := (0 : Int32)) hx hb dX9_weightAt_0 (by decide) ?_
  refine lv_istore_n (lv' := [(2, .int (0 : Int32)), (0, .ref q_), (1, .int i1)]) hx hb dX9_weightAt_1 rfl hl (by decide) rfl (fun ls hl => ?_)
  refine lv_iconst (v := (0 : Int32)) hx hb dX9_weightAt_2 (by decide) ?_
  refine lv_istore_n (lv' := [(3, .int (0 : Int32)), (2, .int (0 : Int32)), (0, .ref q_), (1, .int i1)]) hx hb dX9_weightAt_3 rfl hl (by decide) rfl (fun ls hl => ?_)
  obtain ⟨x1, hL, hf⟩ := ob hf
  have kx2 : ∀ (H : Heap) (locs : List Loc) (ls : Array Slot), va_P (dC, dI) vwCl [(q_, .inr (8, [.int x_posts, .int x_roads, .int x_weight, .ref q_weights, .ref q_near, .ref q_behind, .ref q_ahead])), (q_weights, .inl (cI, 121, .inl x_weights))] H → va_D A [(q_, .inr (8, [.int x_posts, .int x_roads, .int x_weight, .ref q_weights, .ref q_near, .ref q_behind, .ref q_ahead])), (q_weights, .inl (cI, 121, .inl x_weights))] → va_S A s.heap H locs → lv_has ls 4 [(2, .int x1)] → W p l e (rmK 3 82) s m args below meth c H locs 0 0 Q (F0 m 27 ls []) := by
    intro H locs ls hP hD hS hl
    refine lv_iload_n hx hb dX9_weightAt_27 rfl (lv_at hl 0 rfl) ?_
    exact hret _ hf _ _ _ _ rfl dX9_weightAt_28 hP hD hS
  obtain ⟨n0, hn0⟩ := loopS_iter hL
  clear hf
  have kl5 : ∀ (n : Nat) (s3 : Int32) (s4 : Int32), iterS (fun (s : Int32 × Int32) => f_X9_weightAt_L4 i1 x_posts x_weights s.1 s.2) n (s3, s4) = some x1 → ∀ (H : Heap) (locs : List Loc) (ls : Array Slot), va_P (dC, dI) vwCl [(q_, .inr (8, [.int x_posts, .int x_roads, .int x_weight, .ref q_weights, .ref q_near, .ref q_behind, .ref q_ahead])), (q_weights, .inl (cI, 121, .inl x_weights))] H → va_D A [(q_, .inr (8, [.int x_posts, .int x_roads, .int x_weight, .ref q_weights, .ref q_near, .ref q_behind, .ref q_ahead])), (q_weights, .inl (cI, 121, .inl x_weights))] → va_S A s.heap H locs → lv_has ls 4 [(0, .ref q_), (1, .int i1), (2, .int s3), (3, .int s4)] → W p l e (rmK 3 82) s m args below meth c H locs 0 0 Q (F0 m 4 ls []) := by
    intro n
    induction n with
    | zero =>
      intro s3 s4 hn1
      cases hn1
    | succ n ih1 =>
      intro s3 s4 hn1 H locs ls hP hD hS hl
      obtain ⟨r6, hf, hn1⟩ := it1 hn1
      replace hf : f_X9_weightAt_L4 i1 x_posts x_weights s3 s4 = some r6 := hf
      unfold f_X9_weightAt_L4 at hf
      refine lv_iload_n hx hb dX9_weightAt_4 rfl (lv_at hl 3 rfl) ?_
      refine lv_aload_n hx hb dX9_weightAt_5 rfl (lv_at hl 0 rfl) ?_
      refine va_get (D := (dC, dI)) (ci := 8) (v := .int x_posts) (C := RX9) (T := TX9) (N := 7) hx hb htb inX9 hown hK hP 0 rfl rfl 0 (Nat.le_of_ble_eq_true rfl) (htb _ t_69) (fun _ h9 => h9) rfl dX9_weightAt_6 ?_
      refine lv_icmp_ge (tgt := 27) hx hb dX9_weightAt_9 (by decide) (fun c7 => ?_) (fun c7 => ?_)
      · have hf := ip c7 hf
        cases hf
        cases (itr hn1)
        exact kx2 _ _ _ hP hD hS (lv_sub hl [2] rfl)
      · have hf := im c7 hf
        refine lv_iload_n hx hb dX9_weightAt_12 rfl (lv_at hl 2 rfl) ?_
        refine lv_aload_n hx hb dX9_weightAt_13 rfl (lv_at hl 0 rfl) ?_
        refine lv_iload_n hx hb dX9_weightAt_14 rfl (lv_at hl 1 rfl) ?_
        refine lv_iload_n hx hb dX9_weightAt_15 rfl (lv_at hl 3 rfl) ?_
        obtain ⟨v8, hv, hf⟩ := ob hf
        refine k_afterI (wr := []) (wn := [(q_, .inr (8, [.int x_posts, .int x_roads, .int x_weight, .ref q_weights, .ref q_near, .ref q_behind, .ref q_ahead])), (q_weights, .inl (cI, 121, .inl x_weights))]) (k_runV (rest := [.int s3]) (ci := 8) (q0 := 0) hx hb hml hown htb hK hN (c_X9_weightOf l dC dI cI cZ cN q_ q_weights q_near q_behind q_ahead x_posts x_roads x_weight x_weights i1 s4 v8 hv _) vf_X9_weightOf t_422 hP hD [0, 1] rfl rfl rfl rfl ⟨(Nat.le_of_ble_eq_true rfl), (Nat.le_of_ble_eq_true rfl)⟩ rfl hl.1 rfl (Nat.le_of_ble_eq_true rfl) dX9_weightAt_16 ⟨Nat.zero_le _, Nat.zero_le _⟩) hA hP hD hS [0, 1] [] [0, 1] rfl rfl rfl rfl ?_
        clear hP hD hS
        intro H locs hP hD hS
        refine lv_iadd hx hb dX9_weightAt_19 ?_
        refine lv_istore_n (lv' := [(2, .int (s3 + v8)), (0, .ref q_), (1, .int i1), (3, .int s4)]) hx hb dX9_weightAt_20 rfl hl (by decide) rfl (fun ls hl => ?_)
        refine lv_iinc (v := (s4 + (1 : Int32))) (lv' := [(3, .int (s4 + (1 : Int32))), (2, .int (s3 + v8)), (0, .ref q_), (1, .int i1)]) hx hb dX9_weightAt_21 hl (k := 3) rfl rfl (by decide) rfl (fun ls hl => ?_)
        refine lv_goto (tgt := 4) hx hb dX9_weightAt_24 (by decide) ?_
        cases hf
        exact ih1 _ _ (itl hn1) _ _ _ hP hD hS (lv_sub hl [2, 3, 1, 0] rfl)
  exact kl5 n0 _ _ hn0 _ _ _ hP hD hS (lv_sub hl [2, 3, 1, 0] rfl)
theorem vf_X9_mayFollow : VF yX9_mayFollow cX9_mayFollow 3 (some .boolean) 2 := ⟨t_527, t_528, t_4, t_529, by decide +kernel, by decide +kernel, by decide +kernel⟩
theorem dX9_mayFollow_0 : decode cX9_mayFollow 0 = .ok (.aload_n 0, 1) := by decide +kernel
theorem dX9_mayFollow_1 : decode cX9_mayFollow 1 = .ok (.getfield 21, 3) := by decide +kernel
theorem dX9_mayFollow_4 : decode cX9_mayFollow 4 = .ok (.iload_n 1, 1) := by decide +kernel
theorem dX9_mayFollow_5 : decode cX9_mayFollow 5 = .ok (.iaload, 1) := by decide +kernel
theorem dX9_mayFollow_6 : decode cX9_mayFollow 6 = .ok (.iload_n 2, 1) := by decide +kernel
theorem dX9_mayFollow_7 : decode cX9_mayFollow 7 = .ok (.iconst (-1), 1) := by decide +kernel
theorem dX9_mayFollow_8 : decode cX9_mayFollow 8 = .ok (.ixor, 1) := by decide +kernel
theorem dX9_mayFollow_9 : decode cX9_mayFollow 9 = .ok (.iand, 1) := by decide +kernel
theorem dX9_mayFollow_10 : decode cX9_mayFollow 10 = .ok (.ifCond .ne 7, 3) := by decide +kernel
theorem dX9_mayFollow_13 : decode cX9_mayFollow 13 = .ok (.iconst 1, 1) := by decide +kernel
theorem dX9_mayFollow_14 : decode cX9_mayFollow 14 = .ok (.goto 4, 3) := by decide +kernel
theorem dX9_mayFollow_17 : decode cX9_mayFollow 17 = .ok (.iconst 0, 1) := by decide +kernel
theorem dX9_mayFollow_18 : decode cX9_mayFollow 18 = .ok (.ireturn, 1) := by decide +kernel
noncomputable def f_X9_mayFollow (x_ahead : Nat → Int32) (i1 : Int32) (i2 : Int32) : Option (Int32) :=
  (gi x_ahead 11 i1).bind fun v1 =>
  if (v1 &&& (i2 ^^^ (-1 : Int32))) = 0 then (some ((1 : Int32))) else (some ((0 : Int32)))
set_option maxHeartbeats 4000000 in
set_option maxRecDepth 100000 in
theorem c_X9_mayFollow (l : Launch) (dC : Nat → ClassId) (dI : Nat → Nat → Nat) (cI cZ cN : ClassId) (q_ : Nat) (q_weights : Nat) (q_near : Nat) (q_behind : Nat) (q_ahead : Nat) (x_posts : Int32) (x_roads : Int32) (x_weight : Int32) (x_ahead : Nat → Int32) (i1 i2 : Int32) (r : Int32) (hf : f_X9_mayFollow x_ahead i1 i2 = some r) : CI l yX9_mayFollow cX9_mayFollow 3 (some .boolean) 2 60 (dC, dI) (TY cI cZ cN) [.ref q_, .int i1, .int i2] [(q_, .inr (8, [.int x_posts, .int x_roads, .int x_weight, .ref q_weights, .ref q_near, .ref q_behind, .ref q_ahead])), (q_ahead, .inl (cI, 11, .inl x_ahead))] [(q_, .inr (8, [.int x_posts, .int x_roads, .int x_weight, .ref q_weights, .ref q_near, .ref q_behind, .ref q_ahead])), (q_ahead, .inl (cI, 11, .inl x_ahead))] r := by
  refine CI.of rfl (by decide) (Nat.le_of_ble_eq_true rfl) ?_
  intro p e s m args below meth c Q A ls hx hb hml hown htb hK hN hA hP hD hS hl hret
  have hown : s.vm.findClass RX9 = some m.cls := hown
  have hl : lv_has ls 3 [(0, .ref q_), (1, .int i1), (2, .int i2)] := hl
  have hret : ∀ (r9 : Int32), some r9 = some r → ∀ (H : Heap) (locs : List Loc) (pc : Nat) (ls : Array Slot), narrow .boolean (.int r9) = .int r9 → decode cX9_mayFollow pc = .ok (.ireturn, 1) → va_P (dC, dI) vwCl [(q_, .inr (8, [.int x_posts, .int x_roads, .int x_weight, .ref q_weights, .ref q_near, .ref q_behind, .ref q_ahead])), (q_ahead, .inl (cI, 11, .inl x_ahead))] H → va_D A [(q_, .inr (8, [.int x_posts, .int x_roads, .int x_weight, .ref q_weights, .ref q_near, .ref q_behind, .ref q_ahead])), (q_ahead, .inl (cI, 11, .inl x_ahead))] → va_S A s.heap H locs → W p l e (rmK 2 60) s m args below meth c H locs 0 0 Q (F0 m pc ls [.int r9]) := by
    intro r9 h9
    cases h9
    exact hret
  unfold f_X9_mayFollow at hf
  refine lv_aload_n hx hb dX9_mayFollow_0 rfl (lv_at hl 0 rfl) ?_
  refine va_get (D := (dC, dI)) (ci := 8) (v := .ref q_ahead) (C := RX9) (T := TX9) (N := 7) hx hb htb inX9 hown hK hP 0 rfl rfl 6 (Nat.le_of_ble_eq_true rfl) (htb _ t_86) (fun _ h9 => h9) rfl dX9_mayFollow_1 ?_
  refine lv_iload_n hx hb dX9_mayFollow_4 rfl (lv_at hl 1 rfl) ?_
  obtain ⟨v1, hv, hf⟩ := ob hf
  refine k_iald hx hb hK hP 1 0 rfl rfl hv dX9_mayFollow_5 ?_
  refine lv_iload_n hx hb dX9_mayFollow_6 rfl (lv_at hl 2 rfl) ?_
  refine lv_iconst (v := (-1 : Int32)) hx hb dX9_mayFollow_7 (by decide) ?_
  refine lv_ixor hx hb dX9_mayFollow_8 ?_
  refine lv_iand hx hb dX9_mayFollow_9 ?_
  refine lv_if_ne (tgt := 17) hx hb dX9_mayFollow_10 (by decide) (fun c2 => ?_) (fun c2 => ?_)
  · have hf := im c2 hf
    refine lv_iconst (v := (0 : Int32)) hx hb dX9_mayFollow_17 (by decide) ?_
    exact hret _ hf _ _ _ _ rfl dX9_mayFollow_18 hP hD hS
  · have hf := ip c2 hf
    refine lv_iconst (v := (1 : Int32)) hx hb dX9_mayFollow_13 (by decide) ?_
    refine lv_goto (tgt := 18) hx hb dX9_mayFollow_14 (by decide) ?_
    exact hret _ hf _ _ _ _ rfl dX9_mayFollow_18 hP hD hS
theorem vf_X9_keepsPairs : VF yX9_keepsPairs cX9_keepsPairs 5 (some .boolean) 1 := ⟨t_523, t_524, t_4, t_525, by decide +kernel, by decide +kernel, by decide +kernel⟩
theorem dX9_keepsPairs_0 : decode cX9_keepsPairs 0 = .ok (.iconst 0, 1) := by decide +kernel
theorem dX9_keepsPairs_1 : decode cX9_keepsPairs 1 = .ok (.istore_n 2, 1) := by decide +kernel
theorem dX9_keepsPairs_2 : decode cX9_keepsPairs 2 = .ok (.iconst 0, 1) := by decide +kernel
theorem dX9_keepsPairs_3 : decode cX9_keepsPairs 3 = .ok (.istore_n 3, 1) := by decide +kernel
theorem dX9_keepsPairs_4 : decode cX9_keepsPairs 4 = .ok (.iload_n 3, 1) := by decide +kernel
theorem dX9_keepsPairs_5 : decode cX9_keepsPairs 5 = .ok (.aload_n 1, 1) := by decide +kernel
theorem dX9_keepsPairs_6 : decode cX9_keepsPairs 6 = .ok (.getfield 65, 3) := by decide +kernel
theorem dX9_keepsPairs_9 : decode cX9_keepsPairs 9 = .ok (.if_icmp .ge 36, 3) := by decide +kernel
theorem dX9_keepsPairs_12 : decode cX9_keepsPairs 12 = .ok (.aload_n 1, 1) := by decide +kernel
theorem dX9_keepsPairs_13 : decode cX9_keepsPairs 13 = .ok (.getfield 70, 3) := by decide +kernel
theorem dX9_keepsPairs_16 : decode cX9_keepsPairs 16 = .ok (.iload_n 3, 1) := by decide +kernel
theorem dX9_keepsPairs_17 : decode cX9_keepsPairs 17 = .ok (.iaload, 1) := by decide +kernel
theorem dX9_keepsPairs_18 : decode cX9_keepsPairs 18 = .ok (.istore 4, 2) := by decide +kernel
theorem dX9_keepsPairs_20 : decode cX9_keepsPairs 20 = .ok (.aload_n 0, 1) := by decide +kernel
theorem dX9_keepsPairs_21 : decode cX9_keepsPairs 21 = .ok (.iload 4, 2) := by decide +kernel
theorem dX9_keepsPairs_23 : decode cX9_keepsPairs 23 = .ok (.iload_n 2, 1) := by decide +kernel
theorem dX9_keepsPairs_24 : decode cX9_keepsPairs 24 = .ok (.invokevirtual 72, 3) := by decide +kernel
theorem dX9_keepsPairs_27 : decode cX9_keepsPairs 27 = .ok (.ifCond .ne 5, 3) := by decide +kernel
theorem dX9_keepsPairs_30 : decode cX9_keepsPairs 30 = .ok (.iconst 0, 1) := by decide +kernel
theorem dX9_keepsPairs_31 : decode cX9_keepsPairs 31 = .ok (.ireturn, 1) := by decide +kernel
theorem dX9_keepsPairs_32 : decode cX9_keepsPairs 32 = .ok (.iload_n 2, 1) := by decide +kernel
theorem dX9_keepsPairs_33 : decode cX9_keepsPairs 33 = .ok (.iconst 1, 1) := by decide +kernel
theorem dX9_keepsPairs_34 : decode cX9_keepsPairs 34 = .ok (.iload 4, 2) := by decide +kernel
theorem dX9_keepsPairs_36 : decode cX9_keepsPairs 36 = .ok (.ishl, 1) := by decide +kernel
theorem dX9_keepsPairs_37 : decode cX9_keepsPairs 37 = .ok (.ior, 1) := by decide +kernel
theorem dX9_keepsPairs_38 : decode cX9_keepsPairs 38 = .ok (.istore_n 2, 1) := by decide +kernel
theorem dX9_keepsPairs_39 : decode cX9_keepsPairs 39 = .ok (.iinc 3 1, 3) := by decide +kernel
theorem dX9_keepsPairs_42 : decode cX9_keepsPairs 42 = .ok (.goto (-38), 3) := by decide +kernel
theorem dX9_keepsPairs_45 : decode cX9_keepsPairs 45 = .ok (.iconst 1, 1) := by decide +kernel
theorem dX9_keepsPairs_46 : decode cX9_keepsPairs 46 = .ok (.ireturn, 1) := by decide +kernel
noncomputable def f_X9_keepsPairs_L4 (x_ahead : Nat → Int32) (x_p1_size : Int32) (x_p1_posts : Nat → Int32) (i2 : Int32) (i3 : Int32) : Option ((Int32 × Int32) ⊕ (Int32)) :=
  if x_p1_size ≤ i3 then (some (.inr ((1 : Int32)))) else ((gi x_p1_posts 11 i3).bind fun v2 =>
  (f_X9_mayFollow x_ahead v2 i2).bind fun v3 =>
  if v3 = 0 then (some (.inr ((0 : Int32)))) else (some (.inl ((i2 ||| ((1 : Int32) <<< (v2 &&& 31))), (i3 + (1 : Int32))))))
noncomputable def f_X9_keepsPairs (x_ahead : Nat → Int32) (x_p1_size : Int32) (x_p1_posts : Nat → Int32) : Option (Int32) :=
  loopS (fun (s : Int32 × Int32) => f_X9_keepsPairs_L4 x_ahead x_p1_size x_p1_posts s.1 s.2) ((0 : Int32), (0 : Int32))
set_option maxHeartbeats 4000000 in
set_option maxRecDepth 100000 in
theorem c_X9_keepsPairs (l : Launch) (dC : Nat → ClassId) (dI : Nat → Nat → Nat) (cI cZ cN : ClassId) (q_ : Nat) (q_weights : Nat) (q_near : Nat) (q_behind : Nat) (q_ahead : Nat) (q_p1 : Nat) (q_p1_posts : Nat) (x_posts : Int32) (x_roads : Int32) (x_weight : Int32) (x_ahead : Nat → Int32) (x_p1_size : Int32) (x_p1_posts : Nat → Int32) (r : Int32) (hf : f_X9_keepsPairs x_ahead x_p1_size x_p1_posts = some r) : CI l yX9_keepsPairs cX9_keepsPairs 5 (some .boolean) 3 82 (dC, dI) (TY cI cZ cN) [.ref q_, .ref q_p1] [(q_, .inr (8, [.int x_posts, .int x_roads, .int x_weight, .ref q_weights, .ref q_near, .ref q_behind, .ref q_ahead])), (q_ahead, .inl (cI, 11, .inl x_ahead)), (q_p1, .inr (5, [.ref q_p1_posts, .int x_p1_size])), (q_p1_posts, .inl (cI, 11, .inl x_p1_posts))] [(q_, .inr (8, [.int x_posts, .int x_roads, .int x_weight, .ref q_weights, .ref q_near, .ref q_behind, .ref q_ahead])), (q_ahead, .inl (cI, 11, .inl x_ahead)), (q_p1, .inr (5, [.ref q_p1_posts, .int x_p1_size])), (q_p1_posts, .inl (cI, 11, .inl x_p1_posts))] r := by
  refine CI.of rfl (by decide) (Nat.le_of_ble_eq_true rfl) ?_
  intro p e s m args below meth c Q A ls hx hb hml hown htb hK hN hA hP hD hS hl hret
  have hown : s.vm.findClass RX9 = some m.cls := hown
  have hl : lv_has ls 5 [(0, .ref q_), (1, .ref q_p1)] := hl
  have hret : ∀ (r9 : Int32), some r9 = some r → ∀ (H : Heap) (locs : List Loc) (pc : Nat) (ls : Array Slot), narrow .boolean (.int r9) = .int r9 → decode cX9_keepsPairs pc = .ok (.ireturn, 1) → va_P (dC, dI) vwCl [(q_, .inr (8, [.int x_posts, .int x_roads, .int x_weight, .ref q_weights, .ref q_near, .ref q_behind, .ref q_ahead])), (q_ahead, .inl (cI, 11, .inl x_ahead)), (q_p1, .inr (5, [.ref q_p1_posts, .int x_p1_size])), (q_p1_posts, .inl (cI, 11, .inl x_p1_posts))] H → va_D A [(q_, .inr (8, [.int x_posts, .int x_roads, .int x_weight, .ref q_weights, .ref q_near, .ref q_behind, .ref q_ahead])), (q_ahead, .inl (cI, 11, .inl x_ahead)), (q_p1, .inr (5, [.ref q_p1_posts, .int x_p1_size])), (q_p1_posts, .inl (cI, 11, .inl x_p1_posts))] → va_S A s.heap H locs → W p l e (rmK 3 82) s m args below meth c H locs 0 0 Q (F0 m pc ls [.int r9]) := by
    intro r9 h9
    cases h9
    exact hret
  unfold f_X9_keepsPairs at hf
  refine lv_iconst (v := (0 : Int32)) hx hb dX9_keepsPairs_0 (by decide) ?_
  refine lv_istore_n (lv' := [(2, .int (0 : Int32)), (0, .ref q_), (1, .ref q_p1)]) hx hb dX9_keepsPairs_1 rfl hl (by decide) rfl (fun ls hl => ?_)
  refine lv_iconst (v := (0 : Int32)) hx hb dX9_keepsPairs_2 (by decide) ?_
  refine lv_istore_n (lv' := [(3, .int (0 : Int32)), (2, .int (0 : Int32)), (0, .ref q_), (1, .ref q_p1)]) hx hb dX9_keepsPairs_3 rfl hl (by decide) rfl (fun ls hl => ?_)
  obtain ⟨n0, hn0⟩ := loopS_iter hf
  clear hf
  have kl3 : ∀ (n : Nat) (s1 : Int32) (s2 : Int32), iterS (fun (s : Int32 × Int32) => f_X9_keepsPairs_L4 x_ahead x_p1_size x_p1_posts s.1 s.2) n (s1, s2) = some r → ∀ (H : Heap) (locs : List Loc) (ls : Array Slot), va_P (dC, dI) vwCl [(q_, .inr (8, [.int x_posts, .int x_roads, .int x_weight, .ref q_weights, .ref q_near, .ref q_behind, .ref q_ahead])), (q_ahead, .inl (cI, 11, .inl x_ahead)), (q_p1, .inr (5, [.ref q_p1_posts, .int x_p1_size])), (q_p1_posts, .inl (cI, 11, .inl x_p1_posts))] H → va_D A [(q_, .inr (8, [.int x_posts, .int x_roads, .int x_weight, .ref q_weights, .ref q_near, .ref q_behind, .ref q_ahead])), (q_ahead, .inl (cI, 11, .inl x_ahead)), (q_p1, .inr (5, [.ref q_p1_posts, .int x_p1_size])), (q_p1_posts, .inl (cI, 11, .inl x_p1_posts))] → va_S A s.heap H locs → lv_has ls 5 [(0, .ref q_), (1, .ref q_p1), (2, .int s1), (3, .int s2)] → W p l e (rmK 3 82) s m args below meth c H locs 0 0 Q (F0 m 4 ls []) := by
    intro n
    induction n with
    | zero =>
      intro s1 s2 hn1
      cases hn1
    | succ n ih1 =>
      intro s1 s2 hn1 H locs ls hP hD hS hl
      obtain ⟨r4, hf, hn1⟩ := it1 hn1
      replace hf : f_X9_keepsPairs_L4 x_ahead x_p1_size x_p1_posts s1 s2 = some r4 := hf
      unfold f_X9_keepsPairs_L4 at hf
      refine lv_iload_n hx hb dX9_keepsPairs_4 rfl (lv_at hl 3 rfl) ?_
      refine lv_aload_n hx hb dX9_keepsPairs_5 rfl (lv_at hl 1 rfl) ?_
      refine va_get (D := (dC, dI)) (ci := 5) (v := .int x_p1_size) (C := RX5) (T := TX5) (N := 2) hx hb htb inX5 hown hK hP 2 rfl rfl 1 (Nat.le_of_ble_eq_true rfl) (htb _ t_137) (fun _ h9 => h9) rfl dX9_keepsPairs_6 ?_
      refine lv_icmp_ge (tgt := 45) hx hb dX9_keepsPairs_9 (by decide) (fun c5 => ?_) (fun c5 => ?_)
      · have hf := ip c5 hf
        refine lv_iconst (v := (1 : Int32)) hx hb dX9_keepsPairs_45 (by decide) ?_
        cases hf
        have hf := congrArg some (itr hn1)
        exact hret _ hf _ _ _ _ rfl dX9_keepsPairs_46 hP hD hS
      · have hf := im c5 hf
        refine lv_aload_n hx hb dX9_keepsPairs_12 rfl (lv_at hl 1 rfl) ?_
        refine va_get (D := (dC, dI)) (ci := 5) (v := .ref q_p1_posts) (C := RX5) (T := TX5) (N := 2) hx hb htb inX5 hown hK hP 2 rfl rfl 0 (Nat.le_of_ble_eq_true rfl) (htb _ t_131) (fun _ h9 => h9) rfl dX9_keepsPairs_13 ?_
        refine lv_iload_n hx hb dX9_keepsPairs_16 rfl (lv_at hl 3 rfl) ?_
        obtain ⟨v6, hv, hf⟩ := ob hf
        refine k_iald hx hb hK hP 3 0 rfl rfl hv dX9_keepsPairs_17 ?_
        refine lv_istore (lv' := [(4, .int v6), (0, .ref q_), (1, .ref q_p1), (2, .int s1), (3, .int s2)]) hx hb dX9_keepsPairs_18 hl (by decide) rfl (fun ls hl => ?_)
        refine lv_aload_n hx hb dX9_keepsPairs_20 rfl (lv_at hl 1 rfl) ?_
        refine lv_iload hx hb dX9_keepsPairs_21 (lv_at hl 0 rfl) ?_
        refine lv_iload_n hx hb dX9_keepsPairs_23 rfl (lv_at hl 3 rfl) ?_
        obtain ⟨v7, hv, hf⟩ := ob hf
        refine k_afterI (wr := [(q_p1, .inr (5, [.ref q_p1_posts, .int x_p1_size])), (q_p1_posts, .inl (cI, 11, .inl x_p1_posts))]) (wn := [(q_, .inr (8, [.int x_posts, .int x_roads, .int x_weight, .ref q_weights, .ref q_near, .ref q_behind, .ref q_ahead])), (q_ahead, .inl (cI, 11, .inl x_ahead)), (q_p1, .inr (5, [.ref q_p1_posts, .int x_p1_size])), (q_p1_posts, .inl (cI, 11, .inl x_p1_posts))]) (k_runV (rest := []) (ci := 8) (q0 := 0) hx hb hml hown htb hK hN (c_X9_mayFollow l dC dI cI cZ cN q_ q_weights q_near q_behind q_ahead x_posts x_roads x_weight x_ahead v6 s1 v7 hv _) vf_X9_mayFollow t_526 hP hD [0, 1] rfl rfl rfl rfl ⟨(Nat.le_of_ble_eq_true rfl), (Nat.le_of_ble_eq_true rfl)⟩ rfl hl.1 rfl (Nat.le_of_ble_eq_true rfl) dX9_keepsPairs_24 ⟨Nat.zero_le _, Nat.zero_le _⟩) hA hP hD hS [0, 1] [2, 3] [2, 3, 0, 1] rfl rfl rfl rfl ?_
        clear hP hD hS
        intro H locs hP hD hS
        refine lv_if_ne (tgt := 32) hx hb dX9_keepsPairs_27 (by decide) (fun c8 => ?_) (fun c8 => ?_)
        · have hf := im c8 hf
          refine lv_iload_n hx hb dX9_keepsPairs_32 rfl (lv_at hl 3 rfl) ?_
          refine lv_iconst (v := (1 : Int32)) hx hb dX9_keepsPairs_33 (by decide) ?_
          refine lv_iload hx hb dX9_keepsPairs_34 (lv_at hl 0 rfl) ?_
          refine lv_ishl hx hb dX9_keepsPairs_36 ?_
          refine lv_ior hx hb dX9_keepsPairs_37 ?_
          refine lv_istore_n (lv' := [(2, .int (s1 ||| ((1 : Int32) <<< (v6 &&& 31)))), (4, .int v6), (0, .ref q_), (1, .ref q_p1), (3, .int s2)]) hx hb dX9_keepsPairs_38 rfl hl (by decide) rfl (fun ls hl => ?_)
          refine lv_iinc (v := (s2 + (1 : Int32))) (lv' := [(3, .int (s2 + (1 : Int32))), (2, .int (s1 ||| ((1 : Int32) <<< (v6 &&& 31)))), (4, .int v6), (0, .ref q_), (1, .ref q_p1)]) hx hb dX9_keepsPairs_39 hl (k := 4) rfl rfl (by decide) rfl (fun ls hl => ?_)
          refine lv_goto (tgt := 4) hx hb dX9_keepsPairs_42 (by decide) ?_
          cases hf
          exact ih1 _ _ (itl hn1) _ _ _ hP hD hS (lv_sub hl [3, 4, 1, 0] rfl)
        · have hf := ip c8 hf
          refine lv_iconst (v := (0 : Int32)) hx hb dX9_keepsPairs_30 (by decide) ?_
          cases hf
          have hf := congrArg some (itr hn1)
          exact hret _ hf _ _ _ _ rfl dX9_keepsPairs_31 hP hD hS
  exact kl3 n0 _ _ hn0 _ _ _ hP hD hS (lv_sub hl [2, 3, 1, 0] rfl)
