theorem vf_X1_append : VF yX1_append cX1_append 2 none 1 := ⟨t_746, t_747, t_8, t_748, by decide +kernel, by decide +kernel, by decide +kernel⟩
theorem dX1_append_0 : decode cX1_append 0 = .ok (.aload_n 0, 1) := by decide +kernel
theorem dX1_append_1 : decode cX1_append 1 = .ok (.getfield 18, 3) := by decide +kernel
theorem dX1_append_4 : decode cX1_append 4 = .ok (.bipush 60, 2) := by decide +kernel
theorem dX1_append_6 : decode cX1_append 6 = .ok (.if_icmp .ge 23, 3) := by decide +kernel
theorem dX1_append_9 : decode cX1_append 9 = .ok (.aload_n 0, 1) := by decide +kernel
theorem dX1_append_10 : decode cX1_append 10 = .ok (.getfield 9, 3) := by decide +kernel
theorem dX1_append_13 : decode cX1_append 13 = .ok (.aload_n 0, 1) := by decide +kernel
theorem dX1_append_14 : decode cX1_append 14 = .ok (.getfield 18, 3) := by decide +kernel
theorem dX1_append_17 : decode cX1_append 17 = .ok (.iload_n 1, 1) := by decide +kernel
theorem dX1_append_18 : decode cX1_append 18 = .ok (.iastore, 1) := by decide +kernel
theorem dX1_append_19 : decode cX1_append 19 = .ok (.aload_n 0, 1) := by decide +kernel
theorem dX1_append_20 : decode cX1_append 20 = .ok (.dup, 1) := by decide +kernel
theorem dX1_append_21 : decode cX1_append 21 = .ok (.getfield 18, 3) := by decide +kernel
theorem dX1_append_24 : decode cX1_append 24 = .ok (.iconst 1, 1) := by decide +kernel
theorem dX1_append_25 : decode cX1_append 25 = .ok (.iadd, 1) := by decide +kernel
theorem dX1_append_26 : decode cX1_append 26 = .ok (.putfield 18, 3) := by decide +kernel
theorem dX1_append_29 : decode cX1_append 29 = .ok (.return_, 1) := by decide +kernel
noncomputable def f_X1_append (x_size : Int32) (x_moves : Nat → Int32) (i1 : Int32) : Option (Int32 × (Nat → Int32)) :=
  if (60 : Int32) ≤ x_size then (some ((x_size, x_moves))) else ((si x_moves 60 x_size i1).bind fun v2 =>
  some (((x_size + (1 : Int32)), v2)))
set_option maxHeartbeats 4000000 in
set_option maxRecDepth 100000 in
theorem c_X1_append (l : Launch) (dC : Nat → ClassId) (dI : Nat → Nat → Nat) (cI cZ cN : ClassId) (q_ : Nat) (q_moves : Nat) (q_foul : Nat) (x_size : Int32) (x_guarded : Int32) (x_most : Int32) (x_again : Int32) (x_idle : Int32) (x_moves : Nat → Int32) (i1 : Int32) (o_size : Int32) (o_moves : Nat → Int32) (hf : f_X1_append x_size x_moves i1 = some (o_size, o_moves)) : CV l yX1_append cX1_append 2 none 2 60 (dC, dI) (TY cI cZ cN) [.ref q_, .int i1] [(q_, .inr (1, [.ref q_moves, .int x_size, .ref q_foul, .int x_guarded, .int x_most, .int x_again, .int x_idle])), (q_moves, .inl (cI, 60, .inl x_moves))] [(q_, .inr (1, [.ref q_moves, .int o_size, .ref q_foul, .int x_guarded, .int x_most, .int x_again, .int x_idle])), (q_moves, .inl (cI, 60, .inl o_moves))] := by
  refine CV.of (by decide) (Nat.le_of_ble_eq_true rfl) ?_
  intro p e s m args below meth c Q A ls hx hb hml hown htb hK hN hA hP hD hS hl hret
  have hown : s.vm.findClass RX1 = some m.cls := hown
  have hl : lv_has ls 2 [(0, .ref q_), (1, .int i1)] := hl
  have hret : ∀ (o9_size : Int32) (o9_moves : Nat → Int32), some (o9_size, o9_moves) = some (o_size, o_moves) → ∀ (H : Heap) (locs : List Loc) (pc : Nat) (ls : Array Slot), decode cX1_append pc = .ok (.return_, 1) → va_P (dC, dI) vwCl [(q_, .inr (1, [.ref q_moves, .int o9_size, .ref q_foul, .int x_guarded, .int x_most, .int x_again, .int x_idle])), (q_moves, .inl (cI, 60, .inl o9_moves))] H → va_D A [(q_, .inr (1, [.ref q_moves, .int o9_size, .ref q_foul, .int x_guarded, .int x_most, .int x_again, .int x_idle])), (q_moves, .inl (cI, 60, .inl o9_moves))] → va_S A s.heap H locs → W p l e (rmK 2 60) s m args below meth c H locs 0 0 Q (F0 m pc ls []) := by
    intro o9_size o9_moves h9
    cases h9
    exact hret
  unfold f_X1_append at hf
  refine lv_aload_n hx hb dX1_append_0 rfl (lv_at hl 0 rfl) ?_
  refine va_get (D := (dC, dI)) (ci := 1) (v := .int x_size) (C := RX1) (T := TX1) (N := 7) hx hb htb inX1 hown hK hP 0 rfl rfl 1 (Nat.le_of_ble_eq_true rfl) (htb _ t_166) (fun _ h9 => h9) rfl dX1_append_1 ?_
  refine lv_bipush (v := (60 : Int32)) hx hb dX1_append_4 (by decide) ?_
  refine lv_icmp_ge (tgt := 29) hx hb dX1_append_6 (by decide) (fun c1 => ?_) (fun c1 => ?_)
  · have hf := ip c1 hf
    exact hret _ _ hf _ _ _ _ dX1_append_29 hP hD hS
  · have hf := im c1 hf
    refine lv_aload_n hx hb dX1_append_9 rfl (lv_at hl 0 rfl) ?_
    refine va_get (D := (dC, dI)) (ci := 1) (v := .ref q_moves) (C := RX1) (T := TX1) (N := 7) hx hb htb inX1 hown hK hP 0 rfl rfl 0 (Nat.le_of_ble_eq_true rfl) (htb _ t_165) (fun _ h9 => h9) rfl dX1_append_10 ?_
    refine lv_aload_n hx hb dX1_append_13 rfl (lv_at hl 0 rfl) ?_
    refine va_get (D := (dC, dI)) (ci := 1) (v := .int x_size) (C := RX1) (T := TX1) (N := 7) hx hb htb inX1 hown hK hP 0 rfl rfl 1 (Nat.le_of_ble_eq_true rfl) (htb _ t_166) (fun _ h9 => h9) rfl dX1_append_14 ?_
    refine lv_iload_n hx hb dX1_append_17 rfl (lv_at hl 1 rfl) ?_
    obtain ⟨v2, hv, hf⟩ := ob hf
    refine k_iast (wn := [(q_, .inr (1, [.ref q_moves, .int x_size, .ref q_foul, .int x_guarded, .int x_most, .int x_again, .int x_idle])), (q_moves, .inl (cI, 60, .inl v2))]) hx hb hK hP hD hS 1 0 rfl rfl hv rfl dX1_append_18 ?_
    clear hP hD hS
    intro H locs hP hD hS
    refine lv_aload_n hx hb dX1_append_19 rfl (lv_at hl 0 rfl) ?_
    refine lv_dup hx hb dX1_append_20 rfl ?_
    refine va_get (D := (dC, dI)) (ci := 1) (v := .int x_size) (C := RX1) (T := TX1) (N := 7) hx hb htb inX1 hown hK hP 0 rfl rfl 1 (Nat.le_of_ble_eq_true rfl) (htb _ t_166) (fun _ h9 => h9) rfl dX1_append_21 ?_
    refine lv_iconst (v := (1 : Int32)) hx hb dX1_append_24 (by decide) ?_
    refine lv_iadd hx hb dX1_append_25 ?_
    refine k_put (wn := [(q_, .inr (1, [.ref q_moves, .int (x_size + (1 : Int32)), .ref q_foul, .int x_guarded, .int x_most, .int x_again, .int x_idle])), (q_moves, .inl (cI, 60, .inl v2))]) (C := RX1) (T := TX1) (N := 7) (ci := 1) hx hb htb inX1 tyX1 tyX1_ok nmX1 hown hK hP hD hS 0 rfl rfl 1 (Nat.le_of_ble_eq_true rfl) t_166 (fun _ h9 => h9) rfl (tyX1_ok 1 (Nat.le_of_ble_eq_true rfl)) (Nat.le_of_ble_eq_true rfl) rfl dX1_append_26 ?_
    clear hP hD hS
    intro H locs hP hD hS
    exact hret _ _ hf _ _ _ _ dX1_append_29 hP hD hS
theorem vf_X1_appendAll : VF yX1_appendAll cX1_appendAll 4 none 2 := ⟨t_762, t_763, t_8, t_764, by decide +kernel, by decide +kernel, by decide +kernel⟩
theorem dX1_appendAll_0 : decode cX1_appendAll 0 = .ok (.iconst 0, 1) := by decide +kernel
theorem dX1_appendAll_1 : decode cX1_appendAll 1 = .ok (.istore_n 3, 1) := by decide +kernel
theorem dX1_appendAll_2 : decode cX1_appendAll 2 = .ok (.iload_n 3, 1) := by decide +kernel
theorem dX1_appendAll_3 : decode cX1_appendAll 3 = .ok (.bipush 11, 2) := by decide +kernel
theorem dX1_appendAll_5 : decode cX1_appendAll 5 = .ok (.if_icmp .ge 24, 3) := by decide +kernel
theorem dX1_appendAll_8 : decode cX1_appendAll 8 = .ok (.iload_n 1, 1) := by decide +kernel
theorem dX1_appendAll_9 : decode cX1_appendAll 9 = .ok (.iload_n 3, 1) := by decide +kernel
theorem dX1_appendAll_10 : decode cX1_appendAll 10 = .ok (.invokestatic 22, 3) := by decide +kernel
theorem dX1_appendAll_13 : decode cX1_appendAll 13 = .ok (.ifCond .eq 10, 3) := by decide +kernel
theorem dX1_appendAll_16 : decode cX1_appendAll 16 = .ok (.aload_n 0, 1) := by decide +kernel
theorem dX1_appendAll_17 : decode cX1_appendAll 17 = .ok (.iload_n 2, 1) := by decide +kernel
theorem dX1_appendAll_18 : decode cX1_appendAll 18 = .ok (.iload_n 3, 1) := by decide +kernel
theorem dX1_appendAll_19 : decode cX1_appendAll 19 = .ok (.iadd, 1) := by decide +kernel
theorem dX1_appendAll_20 : decode cX1_appendAll 20 = .ok (.invokevirtual 26, 3) := by decide +kernel
theorem dX1_appendAll_23 : decode cX1_appendAll 23 = .ok (.iinc 3 1, 3) := by decide +kernel
theorem dX1_appendAll_26 : decode cX1_appendAll 26 = .ok (.goto (-24), 3) := by decide +kernel
theorem dX1_appendAll_29 : decode cX1_appendAll 29 = .ok (.return_, 1) := by decide +kernel
noncomputable def f_X1_appendAll_L2 (i1 : Int32) (i2 : Int32) (i3 : Int32) (x_size : Int32) (x_moves : Nat → Int32) : Option ((Int32 × Int32 × (Nat → Int32)) ⊕ (Int32 × (Nat → Int32))) :=
  if (11 : Int32) ≤ i3 then (some (.inr (x_size, x_moves))) else ((f_X10_holds i1 i3).bind fun v2 =>
  b2 ((if v2 = 0 then (some (x_size, x_moves)) else (b2 (f_X1_append x_size x_moves (i2 + i3)) fun o7 o8 =>
  some (o7, o8)) : Option (Int32 × (Nat → Int32)))) fun t3 t4 =>
  some (.inl ((i3 + (1 : Int32)), t3, t4)))
noncomputable def f_X1_appendAll (x_size : Int32) (x_moves : Nat → Int32) (i1 : Int32) (i2 : Int32) : Option (Int32 × (Nat → Int32)) :=
  b2 (loopS (fun (s : Int32 × Int32 × (Nat → Int32)) => f_X1_appendAll_L2 i1 i2 s.1 s.2.1 s.2.2) ((0 : Int32), x_size, x_moves)) fun x1 x2 =>
  some ((x1, x2))
set_option maxHeartbeats 4000000 in
set_option maxRecDepth 100000 in
theorem c_X1_appendAll (l : Launch) (dC : Nat → ClassId) (dI : Nat → Nat → Nat) (cI cZ cN : ClassId) (q_ : Nat) (q_moves : Nat) (q_foul : Nat) (x_size : Int32) (x_guarded : Int32) (x_most : Int32) (x_again : Int32) (x_idle : Int32) (x_moves : Nat → Int32) (i1 i2 : Int32) (o_size : Int32) (o_moves : Nat → Int32) (hf : f_X1_appendAll x_size x_moves i1 i2 = some (o_size, o_moves)) : CV l yX1_appendAll cX1_appendAll 4 none 3 81 (dC, dI) (TY cI cZ cN) [.ref q_, .int i1, .int i2] [(q_, .inr (1, [.ref q_moves, .int x_size, .ref q_foul, .int x_guarded, .int x_most, .int x_again, .int x_idle])), (q_moves, .inl (cI, 60, .inl x_moves))] [(q_, .inr (1, [.ref q_moves, .int o_size, .ref q_foul, .int x_guarded, .int x_most, .int x_again, .int x_idle])), (q_moves, .inl (cI, 60, .inl o_moves))] := by
  refine CV.of (by decide) (Nat.le_of_ble_eq_true rfl) ?_
  intro p e s m args below meth c Q A ls hx hb hml hown htb hK hN hA hP hD hS hl hret
  have hown : s.vm.findClass RX1 = some m.cls := hown
  have hl : lv_has ls 4 [(0, .ref q_), (1, .int i1), (2, .int i2)] := hl
  have hret : ∀ (o9_size : Int32) (o9_moves : Nat → Int32), some (o9_size, o9_moves) = some (o_size, o_moves) → ∀ (H : Heap) (locs : List Loc) (pc : Nat) (ls : Array Slot), decode cX1_appendAll pc = .ok (.return_, 1) → va_P (dC, dI) vwCl [(q_, .inr (1, [.ref q_moves, .int o9_size, .ref q_foul, .int x_guarded, .int x_most, .int x_again, .int x_idle])), (q_moves, .inl (cI, 60, .inl o9_moves))] H → va_D A [(q_, .inr (1, [.ref q_moves, .int o9_size, .ref q_foul, .int x_guarded, .int x_most, .int x_again, .int x_idle])), (q_moves, .inl (cI, 60, .inl o9_moves))] → va_S A s.heap H locs → W p l e (rmK 3 81) s m args below meth c H locs 0 0 Q (F0 m pc ls []) := by
    intro o9_size o9_moves h9
    cases h9
    exact hret
  unfold f_X1_appendAll at hf
  refine lv_iconst (v := (0 : Int32)) hx hb dX1_appendAll_0 (by decide) ?_
  refine lv_istore_n (lv' := [(3, .int (0 : Int32)), (0, .ref q_), (1, .int i1), (2, .int i2)]) hx hb dX1_appendAll_1 rfl hl (by decide) rfl (fun ls hl => ?_)
  obtain ⟨x1, x2, hL, hf⟩ := ob2 hf
  have kx3 : ∀ (H : Heap) (locs : List Loc) (ls : Array Slot), va_P (dC, dI) vwCl [(q_, .inr (1, [.ref q_moves, .int x1, .ref q_foul, .int x_guarded, .int x_most, .int x_again, .int x_idle])), (q_moves, .inl (cI, 60, .inl x2))] H → va_D A [(q_, .inr (1, [.ref q_moves, .int x1, .ref q_foul, .int x_guarded, .int x_most, .int x_again, .int x_idle])), (q_moves, .inl (cI, 60, .inl x2))] → va_S A s.heap H locs → lv_has ls 4 [] → W p l e (rmK 3 81) s m args below meth c H locs 0 0 Q (F0 m 29 ls []) := by
    intro H locs ls hP hD hS hl
    exact hret _ _ hf _ _ _ _ dX1_appendAll_29 hP hD hS
  obtain ⟨n0, hn0⟩ := loopS_iter hL
  clear hf
  have kl7 : ∀ (n : Nat) (s4 : Int32) (s5 : Int32) (s6 : Nat → Int32), iterS (fun (s : Int32 × Int32 × (Nat → Int32)) => f_X1_appendAll_L2 i1 i2 s.1 s.2.1 s.2.2) n (s4, s5, s6) = some (x1, x2) → ∀ (H : Heap) (locs : List Loc) (ls : Array Slot), va_P (dC, dI) vwCl [(q_, .inr (1, [.ref q_moves, .int s5, .ref q_foul, .int x_guarded, .int x_most, .int x_again, .int x_idle])), (q_moves, .inl (cI, 60, .inl s6))] H → va_D A [(q_, .inr (1, [.ref q_moves, .int s5, .ref q_foul, .int x_guarded, .int x_most, .int x_again, .int x_idle])), (q_moves, .inl (cI, 60, .inl s6))] → va_S A s.heap H locs → lv_has ls 4 [(0, .ref q_), (1, .int i1), (2, .int i2), (3, .int s4)] → W p l e (rmK 3 81) s m args below meth c H locs 0 0 Q (F0 m 2 ls []) := by
    intro n
    induction n with
    | zero =>
      intro s4 s5 s6 hn1
      cases hn1
    | succ n ih1 =>
      intro s4 s5 s6 hn1 H locs ls hP hD hS hl
      obtain ⟨r8, hf, hn1⟩ := it1 hn1
      replace hf : f_X1_appendAll_L2 i1 i2 s4 s5 s6 = some r8 := hf
      unfold f_X1_appendAll_L2 at hf
      refine lv_iload_n hx hb dX1_appendAll_2 rfl (lv_at hl 3 rfl) ?_
      refine lv_bipush (v := (11 : Int32)) hx hb dX1_appendAll_3 (by decide) ?_
      refine lv_icmp_ge (tgt := 29) hx hb dX1_appendAll_5 (by decide) (fun c9 => ?_) (fun c9 => ?_)
      · have hf := ip c9 hf
        cases hf
        cases (itr hn1)
        exact kx3 _ _ _ hP hD hS (lv_sub hl [] rfl)
      · have hf := im c9 hf
        refine lv_iload_n hx hb dX1_appendAll_8 rfl (lv_at hl 1 rfl) ?_
        refine lv_iload_n hx hb dX1_appendAll_9 rfl (lv_at hl 3 rfl) ?_
        obtain ⟨v10, hv, hf⟩ := ob hf
        refine k_afterI (wr := [(q_, .inr (1, [.ref q_moves, .int s5, .ref q_foul, .int x_guarded, .int x_most, .int x_again, .int x_idle])), (q_moves, .inl (cI, 60, .inl s6))]) (wn := [(q_, .inr (1, [.ref q_moves, .int s5, .ref q_foul, .int x_guarded, .int x_most, .int x_again, .int x_idle])), (q_moves, .inl (cI, 60, .inl s6))]) (k_runSN (rest := []) (host := "NarrowRows") hx hb hml hown htb hK hN (c_X10_holds l dC dI cI cZ cN i1 s4 v10 hv _) sf_X10_holds nm_12 hP hD [] rfl rfl ⟨(Nat.le_of_ble_eq_true rfl), (Nat.le_of_ble_eq_true rfl)⟩ rfl hl.1 rfl (Nat.le_of_ble_eq_true rfl) dX1_appendAll_10 ⟨Nat.zero_le _, Nat.zero_le _⟩) hA hP hD hS [] [0, 1] [0, 1] rfl rfl rfl rfl ?_
        clear hP hD hS
        intro H locs hP hD hS
        obtain ⟨t11, t12, hv, hf⟩ := ob2 hf
        have key13 : ∀ (H : Heap) (locs : List Loc) (ls : Array Slot), va_P (dC, dI) vwCl [(q_, .inr (1, [.ref q_moves, .int t11, .ref q_foul, .int x_guarded, .int x_most, .int x_again, .int x_idle])), (q_moves, .inl (cI, 60, .inl t12))] H → va_D A [(q_, .inr (1, [.ref q_moves, .int t11, .ref q_foul, .int x_guarded, .int x_most, .int x_again, .int x_idle])), (q_moves, .inl (cI, 60, .inl t12))] → va_S A s.heap H locs → lv_has ls 4 [(0, .ref q_), (1, .int i1), (2, .int i2), (3, .int s4)] → W p l e (rmK 3 81) s m args below meth c H locs 0 0 Q (F0 m 23 ls []) := by
          intro H locs ls hP hD hS hl
          refine lv_iinc (v := (s4 + (1 : Int32))) (lv' := [(3, .int (s4 + (1 : Int32))), (0, .ref q_), (1, .int i1), (2, .int i2)]) hx hb dX1_appendAll_23 hl (k := 3) rfl rfl (by decide) rfl (fun ls hl => ?_)
          refine lv_goto (tgt := 2) hx hb dX1_appendAll_26 (by decide) ?_
          cases hf
          exact ih1 _ _ _ (itl hn1) _ _ _ hP hD hS (lv_sub hl [1, 2, 3, 0] rfl)
        replace hf := hv
        refine lv_if_eq (tgt := 23) hx hb dX1_appendAll_13 (by decide) (fun c14 => ?_) (fun c14 => ?_)
        · have hf := ip c14 hf
          cases hf
          exact key13 _ _ _ hP hD hS (lv_sub hl [0, 1, 2, 3] rfl)
        · have hf := im c14 hf
          refine lv_aload_n hx hb dX1_appendAll_16 rfl (lv_at hl 0 rfl) ?_
          refine lv_iload_n hx hb dX1_appendAll_17 rfl (lv_at hl 2 rfl) ?_
          refine lv_iload_n hx hb dX1_appendAll_18 rfl (lv_at hl 3 rfl) ?_
          refine lv_iadd hx hb dX1_appendAll_19 ?_
          obtain ⟨o15, o16, hv, hf⟩ := ob2 hf
          refine k_afterV (wr := []) (wn := [(q_, .inr (1, [.ref q_moves, .int o15, .ref q_foul, .int x_guarded, .int x_most, .int x_again, .int x_idle])), (q_moves, .inl (cI, 60, .inl o16))]) (k_runV (rest := []) (ci := 1) (q0 := 0) hx hb hml hown htb hK hN (c_X1_append l dC dI cI cZ cN q_ q_moves q_foul s5 x_guarded x_most x_again x_idle s6 (i2 + s4) o15 o16 hv _) vf_X1_append t_766 hP hD [0, 1] rfl rfl rfl rfl ⟨(Nat.le_of_ble_eq_true rfl), (Nat.le_of_ble_eq_true rfl)⟩ rfl hl.1 rfl (Nat.le_of_ble_eq_true rfl) dX1_appendAll_20 ⟨Nat.zero_le _, Nat.zero_le _⟩) hA hP hD hS [0, 1] [] [0, 1] rfl rfl rfl rfl ?_
          clear hP hD hS
          intro H locs hP hD hS
          cases hf
          exact key13 _ _ _ hP hD hS (lv_sub hl [0, 1, 2, 3] rfl)
  exact kl7 n0 _ _ _ hn0 _ _ _ hP hD hS (lv_sub hl [1, 2, 3, 0] rfl)
theorem vf_X1_soil : VF yX1_soil cX1_soil 4 none 2 := ⟨t_786, tp_24, t_8, t_787, by decide +kernel, by decide +kernel, by decide +kernel⟩
theorem dX1_soil_0 : decode cX1_soil 0 = .ok (.aload_n 0, 1) := by decide +kernel
theorem dX1_soil_1 : decode cX1_soil 1 = .ok (.getfield 15, 3) := by decide +kernel
theorem dX1_soil_4 : decode cX1_soil 4 = .ok (.iload_n 1, 1) := by decide +kernel
theorem dX1_soil_5 : decode cX1_soil 5 = .ok (.dup2, 1) := by decide +kernel
theorem dX1_soil_6 : decode cX1_soil 6 = .ok (.iaload, 1) := by decide +kernel
theorem dX1_soil_7 : decode cX1_soil 7 = .ok (.iload_n 2, 1) := by decide +kernel
theorem dX1_soil_8 : decode cX1_soil 8 = .ok (.ior, 1) := by decide +kernel
theorem dX1_soil_9 : decode cX1_soil 9 = .ok (.iastore, 1) := by decide +kernel
theorem dX1_soil_10 : decode cX1_soil 10 = .ok (.aload_n 0, 1) := by decide +kernel
theorem dX1_soil_11 : decode cX1_soil 11 = .ok (.dup, 1) := by decide +kernel
theorem dX1_soil_12 : decode cX1_soil 12 = .ok (.getfield 47, 3) := by decide +kernel
theorem dX1_soil_15 : decode cX1_soil 15 = .ok (.iload_n 2, 1) := by decide +kernel
theorem dX1_soil_16 : decode cX1_soil 16 = .ok (.invokestatic 63, 3) := by decide +kernel
theorem dX1_soil_19 : decode cX1_soil 19 = .ok (.iadd, 1) := by decide +kernel
theorem dX1_soil_20 : decode cX1_soil 20 = .ok (.putfield 47, 3) := by decide +kernel
theorem dX1_soil_23 : decode cX1_soil 23 = .ok (.iconst 0, 1) := by decide +kernel
theorem dX1_soil_24 : decode cX1_soil 24 = .ok (.istore_n 3, 1) := by decide +kernel
theorem dX1_soil_25 : decode cX1_soil 25 = .ok (.iload_n 3, 1) := by decide +kernel
theorem dX1_soil_26 : decode cX1_soil 26 = .ok (.bipush 11, 2) := by decide +kernel
theorem dX1_soil_28 : decode cX1_soil 28 = .ok (.if_icmp .ge 29, 3) := by decide +kernel
theorem dX1_soil_31 : decode cX1_soil 31 = .ok (.iload_n 2, 1) := by decide +kernel
theorem dX1_soil_32 : decode cX1_soil 32 = .ok (.iload_n 3, 1) := by decide +kernel
theorem dX1_soil_33 : decode cX1_soil 33 = .ok (.invokestatic 22, 3) := by decide +kernel
theorem dX1_soil_36 : decode cX1_soil 36 = .ok (.ifCond .eq 15, 3) := by decide +kernel
theorem dX1_soil_39 : decode cX1_soil 39 = .ok (.aload_n 0, 1) := by decide +kernel
theorem dX1_soil_40 : decode cX1_soil 40 = .ok (.getfield 15, 3) := by decide +kernel
theorem dX1_soil_43 : decode cX1_soil 43 = .ok (.iload_n 3, 1) := by decide +kernel
theorem dX1_soil_44 : decode cX1_soil 44 = .ok (.dup2, 1) := by decide +kernel
theorem dX1_soil_45 : decode cX1_soil 45 = .ok (.iaload, 1) := by decide +kernel
theorem dX1_soil_46 : decode cX1_soil 46 = .ok (.iconst 1, 1) := by decide +kernel
theorem dX1_soil_47 : decode cX1_soil 47 = .ok (.iload_n 1, 1) := by decide +kernel
theorem dX1_soil_48 : decode cX1_soil 48 = .ok (.ishl, 1) := by decide +kernel
theorem dX1_soil_49 : decode cX1_soil 49 = .ok (.ior, 1) := by decide +kernel
theorem dX1_soil_50 : decode cX1_soil 50 = .ok (.iastore, 1) := by decide +kernel
theorem dX1_soil_51 : decode cX1_soil 51 = .ok (.iinc 3 1, 3) := by decide +kernel
theorem dX1_soil_54 : decode cX1_soil 54 = .ok (.goto (-29), 3) := by decide +kernel
theorem dX1_soil_57 : decode cX1_soil 57 = .ok (.return_, 1) := by decide +kernel
noncomputable def f_X1_soil_L25 (i1 : Int32) (i2 : Int32) (i3 : Int32) (x_foul : Nat → Int32) : Option ((Int32 × (Nat → Int32)) ⊕ ((Nat → Int32))) :=
  if (11 : Int32) ≤ i3 then (some (.inr x_foul)) else ((f_X10_holds i2 i3).bind fun v5 =>
  ((if v5 = 0 then (some x_foul) else ((gi x_foul 11 i3).bind fun v9 =>
  (si x_foul 11 i3 (v9 ||| ((1 : Int32) <<< (i1 &&& 31)))).bind fun v10 =>
  some v10) : Option ((Nat → Int32)))).bind fun t6 =>
  some (.inl ((i3 + (1 : Int32)), t6)))
noncomputable def f_X1_soil (x_again : Int32) (x_foul : Nat → Int32) (i1 : Int32) (i2 : Int32) : Option (Int32 × (Nat → Int32)) :=
  (gi x_foul 11 i1).bind fun v1 =>
  (si x_foul 11 i1 (v1 ||| i2)).bind fun v2 =>
  (f_J6_bitCount_0f7a4 i2).bind fun v3 =>
  (loopS (fun (s : Int32 × (Nat → Int32)) => f_X1_soil_L25 i1 i2 s.1 s.2) ((0 : Int32), v2)).bind fun x4 =>
  some (((x_again + v3), x4))
set_option maxHeartbeats 4000000 in
set_option maxRecDepth 100000 in
theorem c_X1_soil (l : Launch) (dC : Nat → ClassId) (dI : Nat → Nat → Nat) (cI cZ cN : ClassId) (q_ : Nat) (q_moves : Nat) (q_foul : Nat) (x_size : Int32) (x_guarded : Int32) (x_most : Int32) (x_again : Int32) (x_idle : Int32) (x_foul : Nat → Int32) (i1 i2 : Int32) (o_again : Int32) (o_foul : Nat → Int32) (hf : f_X1_soil x_again x_foul i1 i2 = some (o_again, o_foul)) : CV l yX1_soil cX1_soil 4 none 3 81 (dC, dI) (TY cI cZ cN) [.ref q_, .int i1, .int i2] [(q_, .inr (1, [.ref q_moves, .int x_size, .ref q_foul, .int x_guarded, .int x_most, .int x_again, .int x_idle])), (q_foul, .inl (cI, 11, .inl x_foul))] [(q_, .inr (1, [.ref q_moves, .int x_size, .ref q_foul, .int x_guarded, .int x_most, .int o_again, .int x_idle])), (q_foul, .inl (cI, 11, .inl o_foul))] := by
  refine CV.of (by decide) (Nat.le_of_ble_eq_true rfl) ?_
  intro p e s m args below meth c Q A ls hx hb hml hown htb hK hN hA hP hD hS hl hret
  have hown : s.vm.findClass RX1 = some m.cls := hown
  have hl : lv_has ls 4 [(0, .ref q_), (1, .int i1), (2, .int i2)] := hl
  have hret : ∀ (o9_again : Int32) (o9_foul : Nat → Int32), some (o9_again, o9_foul) = some (o_again, o_foul) → ∀ (H : Heap) (locs : List Loc) (pc : Nat) (ls : Array Slot), decode cX1_soil pc = .ok (.return_, 1) → va_P (dC, dI) vwCl [(q_, .inr (1, [.ref q_moves, .int x_size, .ref q_foul, .int x_guarded, .int x_most, .int o9_again, .int x_idle])), (q_foul, .inl (cI, 11, .inl o9_foul))] H → va_D A [(q_, .inr (1, [.ref q_moves, .int x_size, .ref q_foul, .int x_guarded, .int x_most, .int o9_again, .int x_idle])), (q_foul, .inl (cI, 11, .inl o9_foul))] → va_S A s.heap H locs → W p l e (rmK 3 81) s m args below meth c H locs 0 0 Q (F0 m pc ls []) := by
    intro o9_again o9_foul h9
    cases h9
    exact hret
  unfold f_X1_soil at hf
  refine lv_aload_n hx hb dX1_soil_0 rfl (lv_at hl 0 rfl) ?_
  refine va_get (D := (dC, dI)) (ci := 1) (v := .ref q_foul) (C := RX1) (T := TX1) (N := 7) hx hb htb inX1 hown hK hP 0 rfl rfl 2 (Nat.le_of_ble_eq_true rfl) (htb _ t_168) (fun _ h9 => h9) rfl dX1_soil_1 ?_
  refine lv_iload_n hx hb dX1_soil_4 rfl (lv_at hl 1 rfl) ?_
  refine lv_dup2_11 hx hb dX1_soil_5 rfl rfl ?_
  obtain ⟨v1, hv, hf⟩ := ob hf
  refine k_iald hx hb hK hP 1 0 rfl rfl hv dX1_soil_6 ?_
  refine lv_iload_n hx hb dX1_soil_7 rfl (lv_at hl 2 rfl) ?_
  refine lv_ior hx hb dX1_soil_8 ?_
  obtain ⟨v2, hv, hf⟩ := ob hf
  refine k_iast (wn := [(q_, .inr (1, [.ref q_moves, .int x_size, .ref q_foul, .int x_guarded, .int x_most, .int x_again, .int x_idle])), (q_foul, .inl (cI, 11, .inl v2))]) hx hb hK hP hD hS 1 0 rfl rfl hv rfl dX1_soil_9 ?_
  clear hP hD hS
  intro H locs hP hD hS
  refine lv_aload_n hx hb dX1_soil_10 rfl (lv_at hl 0 rfl) ?_
  refine lv_dup hx hb dX1_soil_11 rfl ?_
  refine va_get (D := (dC, dI)) (ci := 1) (v := .int x_again) (C := RX1) (T := TX1) (N := 7) hx hb htb inX1 hown hK hP 0 rfl rfl 5 (Nat.le_of_ble_eq_true rfl) (htb _ t_172) (fun _ h9 => h9) rfl dX1_soil_12 ?_
  refine lv_iload_n hx hb dX1_soil_15 rfl (lv_at hl 2 rfl) ?_
  obtain ⟨v3, hv, hf⟩ := ob hf
  refine k_afterI (wr := [(q_, .inr (1, [.ref q_moves, .int x_size, .ref q_foul, .int x_guarded, .int x_most, .int x_again, .int x_idle])), (q_foul, .inl (cI, 11, .inl v2))]) (wn := [(q_, .inr (1, [.ref q_moves, .int x_size, .ref q_foul, .int x_guarded, .int x_most, .int x_again, .int x_idle])), (q_foul, .inl (cI, 11, .inl v2))]) (k_runS (rest := [.int x_again, .ref q_]) hx hb hml hown htb hK hN (c_J6_bitCount_0f7a4 l dC dI cI cZ cN i2 v3 hv _) sf_J6_bitCount_0f7a4 t_788 hP hD [] rfl rfl ⟨(Nat.le_of_ble_eq_true rfl), (Nat.le_of_ble_eq_true rfl)⟩ rfl hl.1 rfl (Nat.le_of_ble_eq_true rfl) dX1_soil_16 ⟨Nat.zero_le _, Nat.zero_le _⟩) hA hP hD hS [] [0, 1] [0, 1] rfl rfl rfl rfl ?_
  clear hP hD hS
  intro H locs hP hD hS
  refine lv_iadd hx hb dX1_soil_19 ?_
  refine k_put (wn := [(q_, .inr (1, [.ref q_moves, .int x_size, .ref q_foul, .int x_guarded, .int x_most, .int (x_again + v3), .int x_idle])), (q_foul, .inl (cI, 11, .inl v2))]) (C := RX1) (T := TX1) (N := 7) (ci := 1) hx hb htb inX1 tyX1 tyX1_ok nmX1 hown hK hP hD hS 0 rfl rfl 5 (Nat.le_of_ble_eq_true rfl) t_172 (fun _ h9 => h9) rfl (tyX1_ok 5 (Nat.le_of_ble_eq_true rfl)) (Nat.le_of_ble_eq_true rfl) rfl dX1_soil_20 ?_
  clear hP hD hS
  intro H locs hP hD hS
  refine lv_iconst (v := (0 : Int32)) hx hb dX1_soil_23 (by decide) ?_
  refine lv_istore_n (lv' := [(3, .int (0 : Int32)), (0, .ref q_), (1, .int i1), (2, .int i2)]) hx hb dX1_soil_24 rfl hl (by decide) rfl (fun ls hl => ?_)
  obtain ⟨x4, hL, hf⟩ := ob hf
  have kx5 : ∀ (H : Heap) (locs : List Loc) (ls : Array Slot), va_P (dC, dI) vwCl [(q_, .inr (1, [.ref q_moves, .int x_size, .ref q_foul, .int x_guarded, .int x_most, .int (x_again + v3), .int x_idle])), (q_foul, .inl (cI, 11, .inl x4))] H → va_D A [(q_, .inr (1, [.ref q_moves, .int x_size, .ref q_foul, .int x_guarded, .int x_most, .int (x_again + v3), .int x_idle])), (q_foul, .inl (cI, 11, .inl x4))] → va_S A s.heap H locs → lv_has ls 4 [] → W p l e (rmK 3 81) s m args below meth c H locs 0 0 Q (F0 m 57 ls []) := by
    intro H locs ls hP hD hS hl
    exact hret _ _ hf _ _ _ _ dX1_soil_57 hP hD hS
  obtain ⟨n0, hn0⟩ := loopS_iter hL
  clear hf
  have kl8 : ∀ (n : Nat) (s6 : Int32) (s7 : Nat → Int32), iterS (fun (s : Int32 × (Nat → Int32)) => f_X1_soil_L25 i1 i2 s.1 s.2) n (s6, s7) = some x4 → ∀ (H : Heap) (locs : List Loc) (ls : Array Slot), va_P (dC, dI) vwCl [(q_, .inr (1, [.ref q_moves, .int x_size, .ref q_foul, .int x_guarded, .int x_most, .int (x_again + v3), .int x_idle])), (q_foul, .inl (cI, 11, .inl s7))] H → va_D A [(q_, .inr (1, [.ref q_moves, .int x_size, .ref q_foul, .int x_guarded, .int x_most, .int (x_again + v3), .int x_idle])), (q_foul, .inl (cI, 11, .inl s7))] → va_S A s.heap H locs → lv_has ls 4 [(0, .ref q_), (1, .int i1), (2, .int i2), (3, .int s6)] → W p l e (rmK 3 81) s m args below meth c H locs 0 0 Q (F0 m 25 ls []) := by
    intro n
    induction n with
    | zero =>
      intro s6 s7 hn1
      cases hn1
    | succ n ih1 =>
      intro s6 s7 hn1 H locs ls hP hD hS hl
      obtain ⟨r9, hf, hn1⟩ := it1 hn1
      replace hf : f_X1_soil_L25 i1 i2 s6 s7 = some r9 := hf
      unfold f_X1_soil_L25 at hf
      refine lv_iload_n hx hb dX1_soil_25 rfl (lv_at hl 3 rfl) ?_
      refine lv_bipush (v := (11 : Int32)) hx hb dX1_soil_26 (by decide) ?_
      refine lv_icmp_ge (tgt := 57) hx hb dX1_soil_28 (by decide) (fun c10 => ?_) (fun c10 => ?_)
      · have hf := ip c10 hf
        cases hf
        cases (itr hn1)
        exact kx5 _ _ _ hP hD hS (lv_sub hl [] rfl)
      · have hf := im c10 hf
        refine lv_iload_n hx hb dX1_soil_31 rfl (lv_at hl 2 rfl) ?_
        refine lv_iload_n hx hb dX1_soil_32 rfl (lv_at hl 3 rfl) ?_
        obtain ⟨v11, hv, hf⟩ := ob hf
        refine k_afterI (wr := [(q_, .inr (1, [.ref q_moves, .int x_size, .ref q_foul, .int x_guarded, .int x_most, .int (x_again + v3), .int x_idle])), (q_foul, .inl (cI, 11, .inl s7))]) (wn := [(q_, .inr (1, [.ref q_moves, .int x_size, .ref q_foul, .int x_guarded, .int x_most, .int (x_again + v3), .int x_idle])), (q_foul, .inl (cI, 11, .inl s7))]) (k_runSN (rest := []) (host := "NarrowRows") hx hb hml hown htb hK hN (c_X10_holds l dC dI cI cZ cN i2 s6 v11 hv _) sf_X10_holds nm_12 hP hD [] rfl rfl ⟨(Nat.le_of_ble_eq_true rfl), (Nat.le_of_ble_eq_true rfl)⟩ rfl hl.1 rfl (Nat.le_of_ble_eq_true rfl) dX1_soil_33 ⟨Nat.zero_le _, Nat.zero_le _⟩) hA hP hD hS [] [0, 1] [0, 1] rfl rfl rfl rfl ?_
        clear hP hD hS
        intro H locs hP hD hS
        obtain ⟨t12, hv, hf⟩ := ob hf
        have key13 : ∀ (H : Heap) (locs : List Loc) (ls : Array Slot), va_P (dC, dI) vwCl [(q_, .inr (1, [.ref q_moves, .int x_size, .ref q_foul, .int x_guarded, .int x_most, .int (x_again + v3), .int x_idle])), (q_foul, .inl (cI, 11, .inl t12))] H → va_D A [(q_, .inr (1, [.ref q_moves, .int x_size, .ref q_foul, .int x_guarded, .int x_most, .int (x_again + v3), .int x_idle])), (q_foul, .inl (cI, 11, .inl t12))] → va_S A s.heap H locs → lv_has ls 4 [(0, .ref q_), (1, .int i1), (2, .int i2), (3, .int s6)] → W p l e (rmK 3 81) s m args below meth c H locs 0 0 Q (F0 m 51 ls []) := by
          intro H locs ls hP hD hS hl
          refine lv_iinc (v := (s6 + (1 : Int32))) (lv' := [(3, .int (s6 + (1 : Int32))), (0, .ref q_), (1, .int i1), (2, .int i2)]) hx hb dX1_soil_51 hl (k := 3) rfl rfl (by decide) rfl (fun ls hl => ?_)
          refine lv_goto (tgt := 25) hx hb dX1_soil_54 (by decide) ?_
          cases hf
          exact ih1 _ _ (itl hn1) _ _ _ hP hD hS (lv_sub hl [1, 2, 3, 0] rfl)
        replace hf := hv
        refine lv_if_eq (tgt := 51) hx hb dX1_soil_36 (by decide) (fun c14 => ?_) (fun c14 => ?_)
        · have hf := ip c14 hf
          cases hf
          exact key13 _ _ _ hP hD hS (lv_sub hl [0, 1, 2, 3] rfl)
        · have hf := im c14 hf
          refine lv_aload_n hx hb dX1_soil_39 rfl (lv_at hl 0 rfl) ?_
          refine va_get (D := (dC, dI)) (ci := 1) (v := .ref q_foul) (C := RX1) (T := TX1) (N := 7) hx hb htb inX1 hown hK hP 0 rfl rfl 2 (Nat.le_of_ble_eq_true rfl) (htb _ t_168) (fun _ h9 => h9) rfl dX1_soil_40 ?_
          refine lv_iload_n hx hb dX1_soil_43 rfl (lv_at hl 3 rfl) ?_
          refine lv_dup2_11 hx hb dX1_soil_44 rfl rfl ?_
          obtain ⟨v15, hv, hf⟩ := ob hf
          refine k_iald hx hb hK hP 1 0 rfl rfl hv dX1_soil_45 ?_
          refine lv_iconst (v := (1 : Int32)) hx hb dX1_soil_46 (by decide) ?_
          refine lv_iload_n hx hb dX1_soil_47 rfl (lv_at hl 1 rfl) ?_
          refine lv_ishl hx hb dX1_soil_48 ?_
          refine lv_ior hx hb dX1_soil_49 ?_
          obtain ⟨v16, hv, hf⟩ := ob hf
          refine k_iast (wn := [(q_, .inr (1, [.ref q_moves, .int x_size, .ref q_foul, .int x_guarded, .int x_most, .int (x_again + v3), .int x_idle])), (q_foul, .inl (cI, 11, .inl v16))]) hx hb hK hP hD hS 1 0 rfl rfl hv rfl dX1_soil_50 ?_
          clear hP hD hS
          intro H locs hP hD hS
          cases hf
          exact key13 _ _ _ hP hD hS (lv_sub hl [0, 1, 2, 3] rfl)
  exact kl8 n0 _ _ hn0 _ _ _ hP hD hS (lv_sub hl [1, 2, 3, 0] rfl)
theorem vf_X1_spread : VF yX1_spread cX1_spread 5 (some .boolean) 1 := ⟨t_782, tp_23, t_8, t_783, by decide +kernel, by decide +kernel, by decide +kernel⟩
theorem dX1_spread_0 : decode cX1_spread 0 = .ok (.iconst 0, 1) := by decide +kernel
theorem dX1_spread_1 : decode cX1_spread 1 = .ok (.istore_n 2, 1) := by decide +kernel
theorem dX1_spread_2 : decode cX1_spread 2 = .ok (.iconst 0, 1) := by decide +kernel
theorem dX1_spread_3 : decode cX1_spread 3 = .ok (.istore_n 3, 1) := by decide +kernel
theorem dX1_spread_4 : decode cX1_spread 4 = .ok (.iload_n 3, 1) := by decide +kernel
theorem dX1_spread_5 : decode cX1_spread 5 = .ok (.aload_n 1, 1) := by decide +kernel
theorem dX1_spread_6 : decode cX1_spread 6 = .ok (.getfield 53, 3) := by decide +kernel
theorem dX1_spread_9 : decode cX1_spread 9 = .ok (.if_icmp .ge 60, 3) := by decide +kernel
theorem dX1_spread_12 : decode cX1_spread 12 = .ok (.aload_n 1, 1) := by decide +kernel
theorem dX1_spread_13 : decode cX1_spread 13 = .ok (.getfield 30, 3) := by decide +kernel
theorem dX1_spread_16 : decode cX1_spread 16 = .ok (.iload_n 3, 1) := by decide +kernel
theorem dX1_spread_17 : decode cX1_spread 17 = .ok (.iaload, 1) := by decide +kernel
theorem dX1_spread_18 : decode cX1_spread 18 = .ok (.aload_n 0, 1) := by decide +kernel
theorem dX1_spread_19 : decode cX1_spread 19 = .ok (.getfield 15, 3) := by decide +kernel
theorem dX1_spread_22 : decode cX1_spread 22 = .ok (.iload_n 3, 1) := by decide +kernel
theorem dX1_spread_23 : decode cX1_spread 23 = .ok (.iaload, 1) := by decide +kernel
theorem dX1_spread_24 : decode cX1_spread 24 = .ok (.iconst (-1), 1) := by decide +kernel
theorem dX1_spread_25 : decode cX1_spread 25 = .ok (.ixor, 1) := by decide +kernel
theorem dX1_spread_26 : decode cX1_spread 26 = .ok (.iand, 1) := by decide +kernel
theorem dX1_spread_27 : decode cX1_spread 27 = .ok (.istore 4, 2) := by decide +kernel
theorem dX1_spread_29 : decode cX1_spread 29 = .ok (.aload_n 0, 1) := by decide +kernel
theorem dX1_spread_30 : decode cX1_spread 30 = .ok (.getfield 41, 3) := by decide +kernel
theorem dX1_spread_33 : decode cX1_spread 33 = .ok (.iload_n 3, 1) := by decide +kernel
theorem dX1_spread_34 : decode cX1_spread 34 = .ok (.invokestatic 22, 3) := by decide +kernel
theorem dX1_spread_37 : decode cX1_spread 37 = .ok (.ifCond .ne 26, 3) := by decide +kernel
theorem dX1_spread_40 : decode cX1_spread 40 = .ok (.aload_n 0, 1) := by decide +kernel
theorem dX1_spread_41 : decode cX1_spread 41 = .ok (.getfield 15, 3) := by decide +kernel
theorem dX1_spread_44 : decode cX1_spread 44 = .ok (.iload_n 3, 1) := by decide +kernel
theorem dX1_spread_45 : decode cX1_spread 45 = .ok (.iaload, 1) := by decide +kernel
theorem dX1_spread_46 : decode cX1_spread 46 = .ok (.ifCond .eq 17, 3) := by decide +kernel
theorem dX1_spread_49 : decode cX1_spread 49 = .ok (.iload 4, 2) := by decide +kernel
theorem dX1_spread_51 : decode cX1_spread 51 = .ok (.ifCond .eq 12, 3) := by decide +kernel
theorem dX1_spread_54 : decode cX1_spread 54 = .ok (.aload_n 0, 1) := by decide +kernel
theorem dX1_spread_55 : decode cX1_spread 55 = .ok (.iload_n 3, 1) := by decide +kernel
theorem dX1_spread_56 : decode cX1_spread 56 = .ok (.iload 4, 2) := by decide +kernel
theorem dX1_spread_58 : decode cX1_spread 58 = .ok (.invokevirtual 79, 3) := by decide +kernel
theorem dX1_spread_61 : decode cX1_spread 61 = .ok (.iconst 1, 1) := by decide +kernel
theorem dX1_spread_62 : decode cX1_spread 62 = .ok (.istore_n 2, 1) := by decide +kernel
theorem dX1_spread_63 : decode cX1_spread 63 = .ok (.iinc 3 1, 3) := by decide +kernel
theorem dX1_spread_66 : decode cX1_spread 66 = .ok (.goto (-62), 3) := by decide +kernel
theorem dX1_spread_69 : decode cX1_spread 69 = .ok (.iload_n 2, 1) := by decide +kernel
theorem dX1_spread_70 : decode cX1_spread 70 = .ok (.ireturn, 1) := by decide +kernel
noncomputable def f_X1_spread_L4 (x_guarded : Int32) (x_p1_posts : Int32) (x_p1_near : Nat → Int32) (i2 : Int32) (i3 : Int32) (x_again : Int32) (x_foul : Nat → Int32) : Option ((Int32 × Int32 × Int32 × (Nat → Int32)) ⊕ (Int32 × Int32 × (Nat → Int32))) :=
  if x_p1_posts ≤ i3 then (some (.inr (i2, x_again, x_foul))) else ((gi x_p1_near 11 i3).bind fun v2 =>
  (gi x_foul 11 i3).bind fun v3 =>
  (f_X10_holds x_guarded i3).bind fun v4 =>
  b3 ((if v4 = 0 then ((gi x_foul 11 i3).bind fun v10 =>
  if v10 = 0 then (some (i2, x_again, x_foul)) else (if (v2 &&& (v3 ^^^ (-1 : Int32))) = 0 then (some (i2, x_again, x_foul)) else (b2 (f_X1_soil x_again x_foul i3 (v2 &&& (v3 ^^^ (-1 : Int32)))) fun o13 o14 =>
  some ((1 : Int32), o13, o14)))) else (some (i2, x_again, x_foul)) : Option (Int32 × Int32 × (Nat → Int32)))) fun t5 t6 t7 =>
  some (.inl (t5, (i3 + (1 : Int32)), t6, t7)))
noncomputable def f_X1_spread (x_guarded : Int32) (x_again : Int32) (x_foul : Nat → Int32) (x_p1_posts : Int32) (x_p1_near : Nat → Int32) : Option (Int32 × Int32 × (Nat → Int32)) :=
  b3 (loopS (fun (s : Int32 × Int32 × Int32 × (Nat → Int32)) => f_X1_spread_L4 x_guarded x_p1_posts x_p1_near s.1 s.2.1 s.2.2.1 s.2.2.2) ((0 : Int32), (0 : Int32), x_again, x_foul)) fun x1 x2 x3 =>
  (bz x1).bind fun v5 =>
  some ((v5, x2, x3))
set_option maxHeartbeats 4000000 in
set_option maxRecDepth 100000 in
theorem c_X1_spread (l : Launch) (dC : Nat → ClassId) (dI : Nat → Nat → Nat) (cI cZ cN : ClassId) (q_ : Nat) (q_moves : Nat) (q_foul : Nat) (q_p1 : Nat) (q_p1_weights : Nat) (q_p1_near : Nat) (q_p1_behind : Nat) (q_p1_ahead : Nat) (x_size : Int32) (x_guarded : Int32) (x_most : Int32) (x_again : Int32) (x_idle : Int32) (x_foul : Nat → Int32) (x_p1_posts : Int32) (x_p1_roads : Int32) (x_p1_weight : Int32) (x_p1_near : Nat → Int32) (r : Int32) (o_again : Int32) (o_foul : Nat → Int32) (hf : f_X1_spread x_guarded x_again x_foul x_p1_posts x_p1_near = some (r, o_again, o_foul)) : CI l yX1_spread cX1_spread 5 (some .boolean) 4 104 (dC, dI) (TY cI cZ cN) [.ref q_, .ref q_p1] [(q_, .inr (1, [.ref q_moves, .int x_size, .ref q_foul, .int x_guarded, .int x_most, .int x_again, .int x_idle])), (q_foul, .inl (cI, 11, .inl x_foul)), (q_p1, .inr (8, [.int x_p1_posts, .int x_p1_roads, .int x_p1_weight, .ref q_p1_weights, .ref q_p1_near, .ref q_p1_behind, .ref q_p1_ahead])), (q_p1_near, .inl (cI, 11, .inl x_p1_near))] [(q_, .inr (1, [.ref q_moves, .int x_size, .ref q_foul, .int x_guarded, .int x_most, .int o_again, .int x_idle])), (q_foul, .inl (cI, 11, .inl o_foul)), (q_p1, .inr (8, [.int x_p1_posts, .int x_p1_roads, .int x_p1_weight, .ref q_p1_weights, .ref q_p1_near, .ref q_p1_behind, .ref q_p1_ahead])), (q_p1_near, .inl (cI, 11, .inl x_p1_near))] r := by
  refine CI.of rfl (by decide) (Nat.le_of_ble_eq_true rfl) ?_
  intro p e s m args below meth c Q A ls hx hb hml hown htb hK hN hA hP hD hS hl hret
  have hown : s.vm.findClass RX1 = some m.cls := hown
  have hl : lv_has ls 5 [(0, .ref q_), (1, .ref q_p1)] := hl
  have hret : ∀ (r9 : Int32) (o9_again : Int32) (o9_foul : Nat → Int32), some (r9, o9_again, o9_foul) = some (r, o_again, o_foul) → ∀ (H : Heap) (locs : List Loc) (pc : Nat) (ls : Array Slot), narrow .boolean (.int r9) = .int r9 → decode cX1_spread pc = .ok (.ireturn, 1) → va_P (dC, dI) vwCl [(q_, .inr (1, [.ref q_moves, .int x_size, .ref q_foul, .int x_guarded, .int x_most, .int o9_again, .int x_idle])), (q_foul, .inl (cI, 11, .inl o9_foul)), (q_p1, .inr (8, [.int x_p1_posts, .int x_p1_roads, .int x_p1_weight, .ref q_p1_weights, .ref q_p1_near, .ref q_p1_behind, .ref q_p1_ahead])), (q_p1_near, .inl (cI, 11, .inl x_p1_near))] H → va_D A [(q_, .inr (1, [.ref q_moves, .int x_size, .ref q_foul, .int x_guarded, .int x_most, .int o9_again, .int x_idle])), (q_foul, .inl (cI, 11, .inl o9_foul)), (q_p1, .inr (8, [.int x_p1_posts, .int x_p1_roads, .int x_p1_weight, .ref q_p1_weights, .ref q_p1_near, .ref q_p1_behind, .ref q_p1_ahead])), (q_p1_near, .inl (cI, 11, .inl x_p1_near))] → va_S A s.heap H locs → W p l e (rmK 4 104) s m args below meth c H locs 0 0 Q (F0 m pc ls [.int r9]) := by
    intro r9 o9_again o9_foul h9
    cases h9
    exact hret
  unfold f_X1_spread at hf
  refine lv_iconst (v := (0 : Int32)) hx hb dX1_spread_0 (by decide) ?_
  refine lv_istore_n (lv' := [(2, .int (0 : Int32)), (0, .ref q_), (1, .ref q_p1)]) hx hb dX1_spread_1 rfl hl (by decide) rfl (fun ls hl => ?_)
  refine lv_iconst (v := (0 : Int32)) hx hb dX1_spread_2 (by decide) ?_
  refine lv_istore_n (lv' := [(3, .int (0 : Int32)), (2, .int (0 : Int32)), (0, .ref q_), (1, .ref q_p1)]) hx hb dX1_spread_3 rfl hl (by decide) rfl (fun ls hl => ?_)
  obtain ⟨x1, x2, x3, hL, hf⟩ := ob3 hf
  have kx4 : ∀ (H : Heap) (locs : List Loc) (ls : Array Slot), va_P (dC, dI) vwCl [(q_, .inr (1, [.ref q_moves, .int x_size, .ref q_foul, .int x_guarded, .int x_most, .int x2, .int x_idle])), (q_foul, .inl (cI, 11, .inl x3)), (q_p1, .inr (8, [.int x_p1_posts, .int x_p1_roads, .int x_p1_weight, .ref q_p1_weights, .ref q_p1_near, .ref q_p1_behind, .ref q_p1_ahead])), (q_p1_near, .inl (cI, 11, .inl x_p1_near))] H → va_D A [(q_, .inr (1, [.ref q_moves, .int x_size, .ref q_foul, .int x_guarded, .int x_most, .int x2, .int x_idle])), (q_foul, .inl (cI, 11, .inl x3)), (q_p1, .inr (8, [.int x_p1_posts, .int x_p1_roads, .int x_p1_weight, .ref q_p1_weights, .ref q_p1_near, .ref q_p1_behind, .ref q_p1_ahead])), (q_p1_near, .inl (cI, 11, .inl x_p1_near))] → va_S A s.heap H locs → lv_has ls 5 [(2, .int x1)] → W p l e (rmK 4 104) s m args below meth c H locs 0 0 Q (F0 m 69 ls []) := by
    intro H locs ls hP hD hS hl
    refine lv_iload_n hx hb dX1_spread_69 rfl (lv_at hl 0 rfl) ?_
    obtain ⟨v5, hz, hf⟩ := ob hf
    obtain ⟨hz1, hz2⟩ := bz_ok hz
    subst hz1
    exact hret _ _ _ hf _ _ _ _ hz2 dX1_spread_70 hP hD hS
  obtain ⟨n0, hn0⟩ := loopS_iter hL
  clear hf
  have kl10 : ∀ (n : Nat) (s6 : Int32) (s7 : Int32) (s8 : Int32) (s9 : Nat → Int32), iterS (fun (s : Int32 × Int32 × Int32 × (Nat → Int32)) => f_X1_spread_L4 x_guarded x_p1_posts x_p1_near s.1 s.2.1 s.2.2.1 s.2.2.2) n (s6, s7, s8, s9) = some (x1, x2, x3) → ∀ (H : Heap) (locs : List Loc) (ls : Array Slot), va_P (dC, dI) vwCl [(q_, .inr (1, [.ref q_moves, .int x_size, .ref q_foul, .int x_guarded, .int x_most, .int s8, .int x_idle])), (q_foul, .inl (cI, 11, .inl s9)), (q_p1, .inr (8, [.int x_p1_posts, .int x_p1_roads, .int x_p1_weight, .ref q_p1_weights, .ref q_p1_near, .ref q_p1_behind, .ref q_p1_ahead])), (q_p1_near, .inl (cI, 11, .inl x_p1_near))] H → va_D A [(q_, .inr (1, [.ref q_moves, .int x_size, .ref q_foul, .int x_guarded, .int x_most, .int s8, .int x_idle])), (q_foul, .inl (cI, 11, .inl s9)), (q_p1, .inr (8, [.int x_p1_posts, .int x_p1_roads, .int x_p1_weight, .ref q_p1_weights, .ref q_p1_near, .ref q_p1_behind, .ref q_p1_ahead])), (q_p1_near, .inl (cI, 11, .inl x_p1_near))] → va_S A s.heap H locs → lv_has ls 5 [(0, .ref q_), (1, .ref q_p1), (2, .int s6), (3, .int s7)] → W p l e (rmK 4 104) s m args below meth c H locs 0 0 Q (F0 m 4 ls []) := by
    intro n
    induction n with
    | zero =>
      intro s6 s7 s8 s9 hn1
      cases hn1
    | succ n ih1 =>
      intro s6 s7 s8 s9 hn1 H locs ls hP hD hS hl
      obtain ⟨r11, hf, hn1⟩ := it1 hn1
      replace hf : f_X1_spread_L4 x_guarded x_p1_posts x_p1_near s6 s7 s8 s9 = some r11 := hf
      unfold f_X1_spread_L4 at hf
      refine lv_iload_n hx hb dX1_spread_4 rfl (lv_at hl 3 rfl) ?_
      refine lv_aload_n hx hb dX1_spread_5 rfl (lv_at hl 1 rfl) ?_
      refine va_get (D := (dC, dI)) (ci := 8) (v := .int x_p1_posts) (C := RX9) (T := TX9) (N := 7) hx hb htb inX9 hown hK hP 2 rfl rfl 0 (Nat.le_of_ble_eq_true rfl) (htb _ t_74) (fun _ h9 => h9) rfl dX1_spread_6 ?_
      refine lv_icmp_ge (tgt := 69) hx hb dX1_spread_9 (by decide) (fun c12 => ?_) (fun c12 => ?_)
      · have hf := ip c12 hf
        cases hf
        cases (itr hn1)
        exact kx4 _ _ _ hP hD hS (lv_sub hl [2] rfl)
      · have hf := im c12 hf
        refine lv_aload_n hx hb dX1_spread_12 rfl (lv_at hl 1 rfl) ?_
        refine va_get (D := (dC, dI)) (ci := 8) (v := .ref q_p1_near) (C := RX9) (T := TX9) (N := 7) hx hb htb inX9 hown hK hP 2 rfl rfl 4 (Nat.le_of_ble_eq_true rfl) (htb _ t_81) (fun _ h9 => h9) rfl dX1_spread_13 ?_
        refine lv_iload_n hx hb dX1_spread_16 rfl (lv_at hl 3 rfl) ?_
        obtain ⟨v13, hv, hf⟩ := ob hf
        refine k_iald hx hb hK hP 3 0 rfl rfl hv dX1_spread_17 ?_
        refine lv_aload_n hx hb dX1_spread_18 rfl (lv_at hl 0 rfl) ?_
        refine va_get (D := (dC, dI)) (ci := 1) (v := .ref q_foul) (C := RX1) (T := TX1) (N := 7) hx hb htb inX1 hown hK hP 0 rfl rfl 2 (Nat.le_of_ble_eq_true rfl) (htb _ t_168) (fun _ h9 => h9) rfl dX1_spread_19 ?_
        refine lv_iload_n hx hb dX1_spread_22 rfl (lv_at hl 3 rfl) ?_
        obtain ⟨v14, hv, hf⟩ := ob hf
        refine k_iald hx hb hK hP 1 0 rfl rfl hv dX1_spread_23 ?_
        refine lv_iconst (v := (-1 : Int32)) hx hb dX1_spread_24 (by decide) ?_
        refine lv_ixor hx hb dX1_spread_25 ?_
        refine lv_iand hx hb dX1_spread_26 ?_
        refine lv_istore (lv' := [(4, .int (v13 &&& (v14 ^^^ (-1 : Int32)))), (0, .ref q_), (1, .ref q_p1), (2, .int s6), (3, .int s7)]) hx hb dX1_spread_27 hl (by decide) rfl (fun ls hl => ?_)
        refine lv_aload_n hx hb dX1_spread_29 rfl (lv_at hl 1 rfl) ?_
        refine va_get (D := (dC, dI)) (ci := 1) (v := .int x_guarded) (C := RX1) (T := TX1) (N := 7) hx hb htb inX1 hown hK hP 0 rfl rfl 3 (Nat.le_of_ble_eq_true rfl) (htb _ t_169) (fun _ h9 => h9) rfl dX1_spread_30 ?_
        refine lv_iload_n hx hb dX1_spread_33 rfl (lv_at hl 4 rfl) ?_
        obtain ⟨v15, hv, hf⟩ := ob hf
        refine k_afterI (wr := [(q_, .inr (1, [.ref q_moves, .int x_size, .ref q_foul, .int x_guarded, .int x_most, .int s8, .int x_idle])), (q_foul, .inl (cI, 11, .inl s9)), (q_p1, .inr (8, [.int x_p1_posts, .int x_p1_roads, .int x_p1_weight, .ref q_p1_weights, .ref q_p1_near, .ref q_p1_behind, .ref q_p1_ahead])), (q_p1_near, .inl (cI, 11, .inl x_p1_near))]) (wn := [(q_, .inr (1, [.ref q_moves, .int x_size, .ref q_foul, .int x_guarded, .int x_most, .int s8, .int x_idle])), (q_foul, .inl (cI, 11, .inl s9)), (q_p1, .inr (8, [.int x_p1_posts, .int x_p1_roads, .int x_p1_weight, .ref q_p1_weights, .ref q_p1_near, .ref q_p1_behind, .ref q_p1_ahead])), (q_p1_near, .inl (cI, 11, .inl x_p1_near))]) (k_runSN (rest := []) (host := "NarrowRows") hx hb hml hown htb hK hN (c_X10_holds l dC dI cI cZ cN x_guarded s7 v15 hv _) sf_X10_holds nm_12 hP hD [] rfl rfl ⟨(Nat.le_of_ble_eq_true rfl), (Nat.le_of_ble_eq_true rfl)⟩ rfl hl.1 rfl (Nat.le_of_ble_eq_true rfl) dX1_spread_34 ⟨Nat.zero_le _, Nat.zero_le _⟩) hA hP hD hS [] [0, 1, 2, 3] [0, 1, 2, 3] rfl rfl rfl rfl ?_
        clear hP hD hS
        intro H locs hP hD hS
        obtain ⟨t16, t17, t18, hv, hf⟩ := ob3 hf
        have key19 : ∀ (H : Heap) (locs : List Loc) (ls : Array Slot), va_P (dC, dI) vwCl [(q_, .inr (1, [.ref q_moves, .int x_size, .ref q_foul, .int x_guarded, .int x_most, .int t17, .int x_idle])), (q_foul, .inl (cI, 11, .inl t18)), (q_p1, .inr (8, [.int x_p1_posts, .int x_p1_roads, .int x_p1_weight, .ref q_p1_weights, .ref q_p1_near, .ref q_p1_behind, .ref q_p1_ahead])), (q_p1_near, .inl (cI, 11, .inl x_p1_near))] H → va_D A [(q_, .inr (1, [.ref q_moves, .int x_size, .ref q_foul, .int x_guarded, .int x_most, .int t17, .int x_idle])), (q_foul, .inl (cI, 11, .inl t18)), (q_p1, .inr (8, [.int x_p1_posts, .int x_p1_roads, .int x_p1_weight, .ref q_p1_weights, .ref q_p1_near, .ref q_p1_behind, .ref q_p1_ahead])), (q_p1_near, .inl (cI, 11, .inl x_p1_near))] → va_S A s.heap H locs → lv_has ls 5 [(0, .ref q_), (1, .ref q_p1), (2, .int t16), (3, .int s7)] → W p l e (rmK 4 104) s m args below meth c H locs 0 0 Q (F0 m 63 ls []) := by
          intro H locs ls hP hD hS hl
          refine lv_iinc (v := (s7 + (1 : Int32))) (lv' := [(3, .int (s7 + (1 : Int32))), (0, .ref q_), (1, .ref q_p1), (2, .int t16)]) hx hb dX1_spread_63 hl (k := 3) rfl rfl (by decide) rfl (fun ls hl => ?_)
          refine lv_goto (tgt := 4) hx hb dX1_spread_66 (by decide) ?_
          cases hf
          exact ih1 _ _ _ _ (itl hn1) _ _ _ hP hD hS (lv_sub hl [1, 2, 3, 0] rfl)
        replace hf := hv
        refine lv_if_ne (tgt := 63) hx hb dX1_spread_37 (by decide) (fun c20 => ?_) (fun c20 => ?_)
        · have hf := im c20 hf
          cases hf
          exact key19 _ _ _ hP hD hS (lv_sub hl [1, 2, 3, 4] rfl)
        · have hf := ip c20 hf
          refine lv_aload_n hx hb dX1_spread_40 rfl (lv_at hl 1 rfl) ?_
          refine va_get (D := (dC, dI)) (ci := 1) (v := .ref q_foul) (C := RX1) (T := TX1) (N := 7) hx hb htb inX1 hown hK hP 0 rfl rfl 2 (Nat.le_of_ble_eq_true rfl) (htb _ t_168) (fun _ h9 => h9) rfl dX1_spread_41 ?_
          refine lv_iload_n hx hb dX1_spread_44 rfl (lv_at hl 4 rfl) ?_
          obtain ⟨v21, hv, hf⟩ := ob hf
          refine k_iald hx hb hK hP 1 0 rfl rfl hv dX1_spread_45 ?_
          refine lv_if_eq (tgt := 63) hx hb dX1_spread_46 (by decide) (fun c22 => ?_) (fun c22 => ?_)
          · have hf := ip c22 hf
            cases hf
            exact key19 _ _ _ hP hD hS (lv_sub hl [1, 2, 3, 4] rfl)
          · have hf := im c22 hf
            refine lv_iload hx hb dX1_spread_49 (lv_at hl 0 rfl) ?_
            refine lv_if_eq (tgt := 63) hx hb dX1_spread_51 (by decide) (fun c23 => ?_) (fun c23 => ?_)
            · have hf := ip c23 hf
              cases hf
              exact key19 _ _ _ hP hD hS (lv_sub hl [1, 2, 3, 4] rfl)
            · have hf := im c23 hf
              refine lv_aload_n hx hb dX1_spread_54 rfl (lv_at hl 1 rfl) ?_
              refine lv_iload_n hx hb dX1_spread_55 rfl (lv_at hl 4 rfl) ?_
              refine lv_iload hx hb dX1_spread_56 (lv_at hl 0 rfl) ?_
              obtain ⟨o24, o25, hv, hf⟩ := ob2 hf
              refine k_afterV (wr := [(q_p1, .inr (8, [.int x_p1_posts, .int x_p1_roads, .int x_p1_weight, .ref q_p1_weights, .ref q_p1_near, .ref q_p1_behind, .ref q_p1_ahead])), (q_p1_near, .inl (cI, 11, .inl x_p1_near))]) (wn := [(q_, .inr (1, [.ref q_moves, .int x_size, .ref q_foul, .int x_guarded, .int x_most, .int o24, .int x_idle])), (q_foul, .inl (cI, 11, .inl o25)), (q_p1, .inr (8, [.int x_p1_posts, .int x_p1_roads, .int x_p1_weight, .ref q_p1_weights, .ref q_p1_near, .ref q_p1_behind, .ref q_p1_ahead])), (q_p1_near, .inl (cI, 11, .inl x_p1_near))]) (k_runV (rest := []) (ci := 1) (q0 := 0) hx hb hml hown htb hK hN (c_X1_soil l dC dI cI cZ cN q_ q_moves q_foul x_size x_guarded x_most s8 x_idle s9 s7 (v13 &&& (v14 ^^^ (-1 : Int32))) o24 o25 hv _) vf_X1_soil t_784 hP hD [0, 1] rfl rfl rfl rfl ⟨(Nat.le_of_ble_eq_true rfl), (Nat.le_of_ble_eq_true rfl)⟩ rfl hl.1 rfl (Nat.le_of_ble_eq_true rfl) dX1_spread_58 ⟨Nat.zero_le _, Nat.zero_le _⟩) hA hP hD hS [0, 1] [2, 3] [2, 3, 0, 1] rfl rfl rfl rfl ?_
              clear hP hD hS
              intro H locs hP hD hS
              refine lv_iconst (v := (1 : Int32)) hx hb dX1_spread_61 (by decide) ?_
              refine lv_istore_n (lv' := [(2, .int (1 : Int32)), (4, .int (v13 &&& (v14 ^^^ (-1 : Int32)))), (0, .ref q_), (1, .ref q_p1), (3, .int s7)]) hx hb dX1_spread_62 rfl hl (by decide) rfl (fun ls hl => ?_)
              cases hf
              exact key19 _ _ _ hP hD hS (lv_sub hl [2, 3, 0, 4] rfl)
  exact kl10 n0 _ _ _ _ hn0 _ _ _ hP hD hS (lv_sub hl [2, 3, 1, 0] rfl)
theorem vf_X1_leave : VF yX1_leave cX1_leave 4 none 2 := ⟨t_778, tp_22, t_8, t_779, by decide +kernel, by decide +kernel, by decide +kernel⟩
theorem dX1_leave_0 : decode cX1_leave 0 = .ok (.aload_n 0, 1) := by decide +kernel
theorem dX1_leave_1 : decode cX1_leave 1 = .ok (.dup, 1) := by decide +kernel
theorem dX1_leave_2 : decode cX1_leave 2 = .ok (.getfield 41, 3) := by decide +kernel
theorem dX1_leave_5 : decode cX1_leave 5 = .ok (.iconst 1, 1) := by decide +kernel
theorem dX1_leave_6 : decode cX1_leave 6 = .ok (.iload_n 2, 1) := by decide +kernel
theorem dX1_leave_7 : decode cX1_leave 7 = .ok (.ishl, 1) := by decide +kernel
theorem dX1_leave_8 : decode cX1_leave 8 = .ok (.iconst (-1), 1) := by decide +kernel
theorem dX1_leave_9 : decode cX1_leave 9 = .ok (.ixor, 1) := by decide +kernel
theorem dX1_leave_10 : decode cX1_leave 10 = .ok (.iand, 1) := by decide +kernel
theorem dX1_leave_11 : decode cX1_leave 11 = .ok (.putfield 41, 3) := by decide +kernel
theorem dX1_leave_14 : decode cX1_leave 14 = .ok (.iconst 0, 1) := by decide +kernel
theorem dX1_leave_15 : decode cX1_leave 15 = .ok (.istore_n 3, 1) := by decide +kernel
theorem dX1_leave_16 : decode cX1_leave 16 = .ok (.iload_n 3, 1) := by decide +kernel
theorem dX1_leave_17 : decode cX1_leave 17 = .ok (.bipush 11, 2) := by decide +kernel
theorem dX1_leave_19 : decode cX1_leave 19 = .ok (.if_icmp .gt 20, 3) := by decide +kernel
theorem dX1_leave_22 : decode cX1_leave 22 = .ok (.aload_n 0, 1) := by decide +kernel
theorem dX1_leave_23 : decode cX1_leave 23 = .ok (.aload_n 1, 1) := by decide +kernel
theorem dX1_leave_24 : decode cX1_leave 24 = .ok (.invokevirtual 75, 3) := by decide +kernel
theorem dX1_leave_27 : decode cX1_leave 27 = .ok (.ifCond .ne 6, 3) := by decide +kernel
theorem dX1_leave_30 : decode cX1_leave 30 = .ok (.goto 9, 3) := by decide +kernel
theorem dX1_leave_33 : decode cX1_leave 33 = .ok (.iinc 3 1, 3) := by decide +kernel
theorem dX1_leave_36 : decode cX1_leave 36 = .ok (.goto (-20), 3) := by decide +kernel
theorem dX1_leave_39 : decode cX1_leave 39 = .ok (.return_, 1) := by decide +kernel
noncomputable def f_X1_leave_L16 (x_guarded : Int32) (x_p1_posts : Int32) (x_p1_near : Nat → Int32) (i3 : Int32) (x_again : Int32) (x_foul : Nat → Int32) : Option ((Int32 × Int32 × (Nat → Int32)) ⊕ (Int32 × Int32 × (Nat → Int32))) :=
  if (11 : Int32) < i3 then (some (.inr ((x_guarded, x_again, x_foul)))) else (b3 (f_X1_spread x_guarded x_again x_foul x_p1_posts x_p1_near) fun v2 o3 o4 =>
  if v2 = 0 then (some (.inr ((x_guarded, o3, o4)))) else (some (.inl ((i3 + (1 : Int32)), o3, o4))))
noncomputable def f_X1_leave (x_guarded : Int32) (x_again : Int32) (x_foul : Nat → Int32) (x_p1_posts : Int32) (x_p1_near : Nat → Int32) (i2 : Int32) : Option (Int32 × Int32 × (Nat → Int32)) :=
  loopS (fun (s : Int32 × Int32 × (Nat → Int32)) => f_X1_leave_L16 (x_guarded &&& (((1 : Int32) <<< (i2 &&& 31)) ^^^ (-1 : Int32))) x_p1_posts x_p1_near s.1 s.2.1 s.2.2) ((0 : Int32), x_again, x_foul)
set_option maxHeartbeats 4000000 in
set_option maxRecDepth 100000 in
theorem c_X1_leave (l : Launch) (dC : Nat → ClassId) (dI : Nat → Nat → Nat) (cI cZ cN : ClassId) (q_ : Nat) (q_moves : Nat) (q_foul : Nat) (q_p1 : Nat) (q_p1_weights : Nat) (q_p1_near : Nat) (q_p1_behind : Nat) (q_p1_ahead : Nat) (x_size : Int32) (x_guarded : Int32) (x_most : Int32) (x_again : Int32) (x_idle : Int32) (x_foul : Nat → Int32) (x_p1_posts : Int32) (x_p1_roads : Int32) (x_p1_weight : Int32) (x_p1_near : Nat → Int32) (i2 : Int32) (o_guarded : Int32) (o_again : Int32) (o_foul : Nat → Int32) (hf : f_X1_leave x_guarded x_again x_foul x_p1_posts x_p1_near i2 = some (o_guarded, o_again, o_foul)) : CV l yX1_leave cX1_leave 4 none 5 128 (dC, dI) (TY cI cZ cN) [.ref q_, .ref q_p1, .int i2] [(q_, .inr (1, [.ref q_moves, .int x_size, .ref q_foul, .int x_guarded, .int x_most, .int x_again, .int x_idle])), (q_foul, .inl (cI, 11, .inl x_foul)), (q_p1, .inr (8, [.int x_p1_posts, .int x_p1_roads, .int x_p1_weight, .ref q_p1_weights, .ref q_p1_near, .ref q_p1_behind, .ref q_p1_ahead])), (q_p1_near, .inl (cI, 11, .inl x_p1_near))] [(q_, .inr (1, [.ref q_moves, .int x_size, .ref q_foul, .int o_guarded, .int x_most, .int o_again, .int x_idle])), (q_foul, .inl (cI, 11, .inl o_foul)), (q_p1, .inr (8, [.int x_p1_posts, .int x_p1_roads, .int x_p1_weight, .ref q_p1_weights, .ref q_p1_near, .ref q_p1_behind, .ref q_p1_ahead])), (q_p1_near, .inl (cI, 11, .inl x_p1_near))] := by
  refine CV.of (by decide) (Nat.le_of_ble_eq_true rfl) ?_
  intro p e s m args below meth c Q A ls hx hb hml hown htb hK hN hA hP hD hS hl hret
  have hown : s.vm.findClass RX1 = some m.cls := hown
  have hl : lv_has ls 4 [(0, .ref q_), (1, .ref q_p1), (2, .int i2)] := hl
  have hret : ∀ (o9_guarded : Int32) (o9_again : Int32) (o9_foul : Nat → Int32), some (o9_guarded, o9_again, o9_foul) = some (o_guarded, o_again, o_foul) → ∀ (H : Heap) (locs : List Loc) (pc : Nat) (ls : Array Slot), decode cX1_leave pc = .ok (.return_, 1) → va_P (dC, dI) vwCl [(q_, .inr (1, [.ref q_moves, .int x_size, .ref q_foul, .int o9_guarded, .int x_most, .int o9_again, .int x_idle])), (q_foul, .inl (cI, 11, .inl o9_foul)), (q_p1, .inr (8, [.int x_p1_posts, .int x_p1_roads, .int x_p1_weight, .ref q_p1_weights, .ref q_p1_near, .ref q_p1_behind, .ref q_p1_ahead])), (q_p1_near, .inl (cI, 11, .inl x_p1_near))] H → va_D A [(q_, .inr (1, [.ref q_moves, .int x_size, .ref q_foul, .int o9_guarded, .int x_most, .int o9_again, .int x_idle])), (q_foul, .inl (cI, 11, .inl o9_foul)), (q_p1, .inr (8, [.int x_p1_posts, .int x_p1_roads, .int x_p1_weight, .ref q_p1_weights, .ref q_p1_near, .ref q_p1_behind, .ref q_p1_ahead])), (q_p1_near, .inl (cI, 11, .inl x_p1_near))] → va_S A s.heap H locs → W p l e (rmK 5 128) s m args below meth c H locs 0 0 Q (F0 m pc ls []) := by
    intro o9_guarded o9_again o9_foul h9
    cases h9
    exact hret
  unfold f_X1_leave at hf
  refine lv_aload_n hx hb dX1_leave_0 rfl (lv_at hl 0 rfl) ?_
  refine lv_dup hx hb dX1_leave_1 rfl ?_
  refine va_get (D := (dC, dI)) (ci := 1) (v := .int x_guarded) (C := RX1) (T := TX1) (N := 7) hx hb htb inX1 hown hK hP 0 rfl rfl 3 (Nat.le_of_ble_eq_true rfl) (htb _ t_169) (fun _ h9 => h9) rfl dX1_leave_2 ?_
  refine lv_iconst (v := (1 : Int32)) hx hb dX1_leave_5 (by decide) ?_
  refine lv_iload_n hx hb dX1_leave_6 rfl (lv_at hl 2 rfl) ?_
  refine lv_ishl hx hb dX1_leave_7 ?_
  refine lv_iconst (v := (-1 : Int32)) hx hb dX1_leave_8 (by decide) ?_
  refine lv_ixor hx hb dX1_leave_9 ?_
  refine lv_iand hx hb dX1_leave_10 ?_
  refine k_put (wn := [(q_, .inr (1, [.ref q_moves, .int x_size, .ref q_foul, .int (x_guarded &&& (((1 : Int32) <<< (i2 &&& 31)) ^^^ (-1 : Int32))), .int x_most, .int x_again, .int x_idle])), (q_foul, .inl (cI, 11, .inl x_foul)), (q_p1, .inr (8, [.int x_p1_posts, .int x_p1_roads, .int x_p1_weight, .ref q_p1_weights, .ref q_p1_near, .ref q_p1_behind, .ref q_p1_ahead])), (q_p1_near, .inl (cI, 11, .inl x_p1_near))]) (C := RX1) (T := TX1) (N := 7) (ci := 1) hx hb htb inX1 tyX1 tyX1_ok nmX1 hown hK hP hD hS 0 rfl rfl 3 (Nat.le_of_ble_eq_true rfl) t_169 (fun _ h9 => h9) rfl (tyX1_ok 3 (Nat.le_of_ble_eq_true rfl)) (Nat.le_of_ble_eq_true rfl) rfl dX1_leave_11 ?_
  clear hP hD hS
  intro H locs hP hD hS
  refine lv_iconst (v := (0 : Int32)) hx hb dX1_leave_14 (by decide) ?_
  refine lv_istore_n (lv' := [(3, .int (0 : Int32)), (0, .ref q_), (1, .ref q_p1), (2, .int i2)]) hx hb dX1_leave_15 rfl hl (by decide) rfl (fun ls hl => ?_)
  obtain ⟨n0, hn0⟩ := loopS_iter hf
  clear hf
  have kl4 : ∀ (n : Nat) (s1 : Int32) (s2 : Int32) (s3 : Nat → Int32), iterS (fun (s : Int32 × Int32 × (Nat → Int32)) => f_X1_leave_L16 (x_guarded &&& (((1 : Int32) <<< (i2 &&& 31)) ^^^ (-1 : Int32))) x_p1_posts x_p1_near s.1 s.2.1 s.2.2) n (s1, s2, s3) = some (o_guarded, o_again, o_foul) → ∀ (H : Heap) (locs : List Loc) (ls : Array Slot), va_P (dC, dI) vwCl [(q_, .inr (1, [.ref q_moves, .int x_size, .ref q_foul, .int (x_guarded &&& (((1 : Int32) <<< (i2 &&& 31)) ^^^ (-1 : Int32))), .int x_most, .int s2, .int x_idle])), (q_foul, .inl (cI, 11, .inl s3)), (q_p1, .inr (8, [.int x_p1_posts, .int x_p1_roads, .int x_p1_weight, .ref q_p1_weights, .ref q_p1_near, .ref q_p1_behind, .ref q_p1_ahead])), (q_p1_near, .inl (cI, 11, .inl x_p1_near))] H → va_D A [(q_, .inr (1, [.ref q_moves, .int x_size, .ref q_foul, .int (x_guarded &&& (((1 : Int32) <<< (i2 &&& 31)) ^^^ (-1 : Int32))), .int x_most, .int s2, .int x_idle])), (q_foul, .inl (cI, 11, .inl s3)), (q_p1, .inr (8, [.int x_p1_posts, .int x_p1_roads, .int x_p1_weight, .ref q_p1_weights, .ref q_p1_near, .ref q_p1_behind, .ref q_p1_ahead])), (q_p1_near, .inl (cI, 11, .inl x_p1_near))] → va_S A s.heap H locs → lv_has ls 4 [(0, .ref q_), (1, .ref q_p1), (3, .int s1)] → W p l e (rmK 5 128) s m args below meth c H locs 0 0 Q (F0 m 16 ls []) := by
    intro n
    induction n with
    | zero =>
      intro s1 s2 s3 hn1
      cases hn1
    | succ n ih1 =>
      intro s1 s2 s3 hn1 H locs ls hP hD hS hl
      obtain ⟨r5, hf, hn1⟩ := it1 hn1
      replace hf : f_X1_leave_L16 (x_guarded &&& (((1 : Int32) <<< (i2 &&& 31)) ^^^ (-1 : Int32))) x_p1_posts x_p1_near s1 s2 s3 = some r5 := hf
      unfold f_X1_leave_L16 at hf
      refine lv_iload_n hx hb dX1_leave_16 rfl (lv_at hl 2 rfl) ?_
      refine lv_bipush (v := (11 : Int32)) hx hb dX1_leave_17 (by decide) ?_
      refine lv_icmp_gt (tgt := 39) hx hb dX1_leave_19 (by decide) (fun c6 => ?_) (fun c6 => ?_)
      · have hf := ip c6 hf
        cases hf
        have hf := congrArg some (itr hn1)
        exact hret _ _ _ hf _ _ _ _ dX1_leave_39 hP hD hS
      · have hf := im c6 hf
        refine lv_aload_n hx hb dX1_leave_22 rfl (lv_at hl 0 rfl) ?_
        refine lv_aload_n hx hb dX1_leave_23 rfl (lv_at hl 1 rfl) ?_
        obtain ⟨v7, o8, o9, hv, hf⟩ := ob3 hf
        refine k_afterI (wr := []) (wn := [(q_, .inr (1, [.ref q_moves, .int x_size, .ref q_foul, .int (x_guarded &&& (((1 : Int32) <<< (i2 &&& 31)) ^^^ (-1 : Int32))), .int x_most, .int o8, .int x_idle])), (q_foul, .inl (cI, 11, .inl o9)), (q_p1, .inr (8, [.int x_p1_posts, .int x_p1_roads, .int x_p1_weight, .ref q_p1_weights, .ref q_p1_near, .ref q_p1_behind, .ref q_p1_ahead])), (q_p1_near, .inl (cI, 11, .inl x_p1_near))]) (k_runV (rest := []) (ci := 1) (q0 := 0) hx hb hml hown htb hK hN (c_X1_spread l dC dI cI cZ cN q_ q_moves q_foul q_p1 q_p1_weights q_p1_near q_p1_behind q_p1_ahead x_size (x_guarded &&& (((1 : Int32) <<< (i2 &&& 31)) ^^^ (-1 : Int32))) x_most s2 x_idle s3 x_p1_posts x_p1_roads x_p1_weight x_p1_near v7 o8 o9 hv _) vf_X1_spread t_780 hP hD [0, 1, 2, 3] rfl rfl rfl rfl ⟨(Nat.le_of_ble_eq_true rfl), (Nat.le_of_ble_eq_true rfl)⟩ rfl hl.1 rfl (Nat.le_of_ble_eq_true rfl) dX1_leave_24 ⟨Nat.zero_le _, Nat.zero_le _⟩) hA hP hD hS [0, 1, 2, 3] [] [0, 1, 2, 3] rfl rfl rfl rfl ?_
        clear hP hD hS
        intro H locs hP hD hS
        refine lv_if_ne (tgt := 33) hx hb dX1_leave_27 (by decide) (fun c10 => ?_) (fun c10 => ?_)
        · have hf := im c10 hf
          refine lv_iinc (v := (s1 + (1 : Int32))) (lv' := [(3, .int (s1 + (1 : Int32))), (0, .ref q_), (1, .ref q_p1)]) hx hb dX1_leave_33 hl (k := 2) rfl rfl (by decide) rfl (fun ls hl => ?_)
          refine lv_goto (tgt := 16) hx hb dX1_leave_36 (by decide) ?_
          cases hf
          exact ih1 _ _ _ (itl hn1) _ _ _ hP hD hS (lv_sub hl [1, 2, 0] rfl)
        · have hf := ip c10 hf
          refine lv_goto (tgt := 39) hx hb dX1_leave_30 (by decide) ?_
          cases hf
          have hf := congrArg some (itr hn1)
          exact hret _ _ _ hf _ _ _ _ dX1_leave_39 hP hD hS
  exact kl4 n0 _ _ _ hn0 _ _ _ hP hD hS (lv_sub hl [1, 2, 0] rfl)
theorem vf_X1_come : VF yX1_come cX1_come 3 none 1 := ⟨t_791, tp_25, t_8, t_792, by decide +kernel, by decide +kernel, by decide +kernel⟩
theorem dX1_come_0 : decode cX1_come 0 = .ok (.aload_n 0, 1) := by decide +kernel
theorem dX1_come_1 : decode cX1_come 1 = .ok (.dup, 1) := by decide +kernel
theorem dX1_come_2 : decode cX1_come 2 = .ok (.getfield 41, 3) := by decide +kernel
theorem dX1_come_5 : decode cX1_come 5 = .ok (.iconst 1, 1) := by decide +kernel
theorem dX1_come_6 : decode cX1_come 6 = .ok (.iload_n 1, 1) := by decide +kernel
theorem dX1_come_7 : decode cX1_come 7 = .ok (.ishl, 1) := by decide +kernel
theorem dX1_come_8 : decode cX1_come 8 = .ok (.ior, 1) := by decide +kernel
theorem dX1_come_9 : decode cX1_come 9 = .ok (.putfield 41, 3) := by decide +kernel
theorem dX1_come_12 : decode cX1_come 12 = .ok (.aload_n 0, 1) := by decide +kernel
theorem dX1_come_13 : decode cX1_come 13 = .ok (.aload_n 0, 1) := by decide +kernel
theorem dX1_come_14 : decode cX1_come 14 = .ok (.getfield 44, 3) := by decide +kernel
theorem dX1_come_17 : decode cX1_come 17 = .ok (.aload_n 0, 1) := by decide +kernel
theorem dX1_come_18 : decode cX1_come 18 = .ok (.getfield 41, 3) := by decide +kernel
theorem dX1_come_21 : decode cX1_come 21 = .ok (.invokestatic 63, 3) := by decide +kernel
theorem dX1_come_24 : decode cX1_come 24 = .ok (.invokestatic 69, 3) := by decide +kernel
theorem dX1_come_27 : decode cX1_come 27 = .ok (.putfield 44, 3) := by decide +kernel
theorem dX1_come_30 : decode cX1_come 30 = .ok (.aload_n 0, 1) := by decide +kernel
theorem dX1_come_31 : decode cX1_come 31 = .ok (.getfield 15, 3) := by decide +kernel
theorem dX1_come_34 : decode cX1_come 34 = .ok (.iload_n 1, 1) := by decide +kernel
theorem dX1_come_35 : decode cX1_come 35 = .ok (.dup2, 1) := by decide +kernel
theorem dX1_come_36 : decode cX1_come 36 = .ok (.iaload, 1) := by decide +kernel
theorem dX1_come_37 : decode cX1_come 37 = .ok (.aload_n 0, 1) := by decide +kernel
theorem dX1_come_38 : decode cX1_come 38 = .ok (.getfield 41, 3) := by decide +kernel
theorem dX1_come_41 : decode cX1_come 41 = .ok (.iconst (-1), 1) := by decide +kernel
theorem dX1_come_42 : decode cX1_come 42 = .ok (.ixor, 1) := by decide +kernel
theorem dX1_come_43 : decode cX1_come 43 = .ok (.iand, 1) := by decide +kernel
theorem dX1_come_44 : decode cX1_come 44 = .ok (.iastore, 1) := by decide +kernel
theorem dX1_come_45 : decode cX1_come 45 = .ok (.iconst 0, 1) := by decide +kernel
theorem dX1_come_46 : decode cX1_come 46 = .ok (.istore_n 2, 1) := by decide +kernel
theorem dX1_come_47 : decode cX1_come 47 = .ok (.iload_n 2, 1) := by decide +kernel
theorem dX1_come_48 : decode cX1_come 48 = .ok (.bipush 11, 2) := by decide +kernel
theorem dX1_come_50 : decode cX1_come 50 = .ok (.if_icmp .ge 34, 3) := by decide +kernel
theorem dX1_come_53 : decode cX1_come 53 = .ok (.aload_n 0, 1) := by decide +kernel
theorem dX1_come_54 : decode cX1_come 54 = .ok (.getfield 41, 3) := by decide +kernel
theorem dX1_come_57 : decode cX1_come 57 = .ok (.iload_n 2, 1) := by decide +kernel
theorem dX1_come_58 : decode cX1_come 58 = .ok (.invokestatic 22, 3) := by decide +kernel
theorem dX1_come_61 : decode cX1_come 61 = .ok (.ifCond .eq 17, 3) := by decide +kernel
theorem dX1_come_64 : decode cX1_come 64 = .ok (.aload_n 0, 1) := by decide +kernel
theorem dX1_come_65 : decode cX1_come 65 = .ok (.getfield 15, 3) := by decide +kernel
theorem dX1_come_68 : decode cX1_come 68 = .ok (.iload_n 2, 1) := by decide +kernel
theorem dX1_come_69 : decode cX1_come 69 = .ok (.dup2, 1) := by decide +kernel
theorem dX1_come_70 : decode cX1_come 70 = .ok (.iaload, 1) := by decide +kernel
theorem dX1_come_71 : decode cX1_come 71 = .ok (.iconst 1, 1) := by decide +kernel
theorem dX1_come_72 : decode cX1_come 72 = .ok (.iload_n 1, 1) := by decide +kernel
theorem dX1_come_73 : decode cX1_come 73 = .ok (.ishl, 1) := by decide +kernel
theorem dX1_come_74 : decode cX1_come 74 = .ok (.iconst (-1), 1) := by decide +kernel
theorem dX1_come_75 : decode cX1_come 75 = .ok (.ixor, 1) := by decide +kernel
theorem dX1_come_76 : decode cX1_come 76 = .ok (.iand, 1) := by decide +kernel
theorem dX1_come_77 : decode cX1_come 77 = .ok (.iastore, 1) := by decide +kernel
theorem dX1_come_78 : decode cX1_come 78 = .ok (.iinc 2 1, 3) := by decide +kernel
theorem dX1_come_81 : decode cX1_come 81 = .ok (.goto (-34), 3) := by decide +kernel
theorem dX1_come_84 : decode cX1_come 84 = .ok (.return_, 1) := by decide +kernel
noncomputable def f_X1_come_L47 (i1 : Int32) (x_guarded : Int32) (i2 : Int32) (x_foul : Nat → Int32) : Option ((Int32 × (Nat → Int32)) ⊕ ((Nat → Int32))) :=
  if (11 : Int32) ≤ i2 then (some (.inr x_foul)) else ((f_X10_holds x_guarded i2).bind fun v5 =>
  ((if v5 = 0 then (some x_foul) else ((gi x_foul 11 i2).bind fun v9 =>
  (si x_foul 11 i2 (v9 &&& (((1 : Int32) <<< (i1 &&& 31)) ^^^ (-1 : Int32)))).bind fun v10 =>
  some v10) : Option ((Nat → Int32)))).bind fun t6 =>
  some (.inl ((i2 + (1 : Int32)), t6)))
noncomputable def f_X1_come (x_guarded : Int32) (x_most : Int32) (x_foul : Nat → Int32) (i1 : Int32) : Option (Int32 × Int32 × (Nat → Int32)) :=
  (f_J6_bitCount_0f7a4 (x_guarded ||| ((1 : Int32) <<< (i1 &&& 31)))).bind fun v1 =>
  (gi x_foul 11 i1).bind fun v2 =>
  (si x_foul 11 i1 (v2 &&& ((x_guarded ||| ((1 : Int32) <<< (i1 &&& 31))) ^^^ (-1 : Int32)))).bind fun v3 =>
  (loopS (fun (s : Int32 × (Nat → Int32)) => f_X1_come_L47 i1 (x_guarded ||| ((1 : Int32) <<< (i1 &&& 31))) s.1 s.2) ((0 : Int32), v3)).bind fun x4 =>
  some (((x_guarded ||| ((1 : Int32) <<< (i1 &&& 31))), (if x_most < v1 then v1 else x_most), x4))
set_option maxHeartbeats 4000000 in
set_option maxRecDepth 100000 in
theorem c_X1_come (l : Launch) (dC : Nat → ClassId) (dI : Nat → Nat → Nat) (cI cZ cN : ClassId) (q_ : Nat) (q_moves : Nat) (q_foul : Nat) (x_size : Int32) (x_guarded : Int32) (x_most : Int32) (x_again : Int32) (x_idle : Int32) (x_foul : Nat → Int32) (i1 : Int32) (o_guarded : Int32) (o_most : Int32) (o_foul : Nat → Int32) (hf : f_X1_come x_guarded x_most x_foul i1 = some (o_guarded, o_most, o_foul)) : CV l yX1_come cX1_come 3 none 3 81 (dC, dI) (TY cI cZ cN) [.ref q_, .int i1] [(q_, .inr (1, [.ref q_moves, .int x_size, .ref q_foul, .int x_guarded, .int x_most, .int x_again, .int x_idle])), (q_foul, .inl (cI, 11, .inl x_foul))] [(q_, .inr (1, [.ref q_moves, .int x_size, .ref q_foul, .int o_guarded, .int o_most, .int x_again, .int x_idle])), (q_foul, .inl (cI, 11, .inl o_foul))] := by
  refine CV.of (by decide) (Nat.le_of_ble_eq_true rfl) ?_
  intro p e s m args below meth c Q A ls hx hb hml hown htb hK hN hA hP hD hS hl hret
  have hown : s.vm.findClass RX1 = some m.cls := hown
  have hl : lv_has ls 3 [(0, .ref q_), (1, .int i1)] := hl
  have hret : ∀ (o9_guarded : Int32) (o9_most : Int32) (o9_foul : Nat → Int32), some (o9_guarded, o9_most, o9_foul) = some (o_guarded, o_most, o_foul) → ∀ (H : Heap) (locs : List Loc) (pc : Nat) (ls : Array Slot), decode cX1_come pc = .ok (.return_, 1) → va_P (dC, dI) vwCl [(q_, .inr (1, [.ref q_moves, .int x_size, .ref q_foul, .int o9_guarded, .int o9_most, .int x_again, .int x_idle])), (q_foul, .inl (cI, 11, .inl o9_foul))] H → va_D A [(q_, .inr (1, [.ref q_moves, .int x_size, .ref q_foul, .int o9_guarded, .int o9_most, .int x_again, .int x_idle])), (q_foul, .inl (cI, 11, .inl o9_foul))] → va_S A s.heap H locs → W p l e (rmK 3 81) s m args below meth c H locs 0 0 Q (F0 m pc ls []) := by
    intro o9_guarded o9_most o9_foul h9
    cases h9
    exact hret
  unfold f_X1_come at hf
  refine lv_aload_n hx hb dX1_come_0 rfl (lv_at hl 0 rfl) ?_
  refine lv_dup hx hb dX1_come_1 rfl ?_
  refine va_get (D := (dC, dI)) (ci := 1) (v := .int x_guarded) (C := RX1) (T := TX1) (N := 7) hx hb htb inX1 hown hK hP 0 rfl rfl 3 (Nat.le_of_ble_eq_true rfl) (htb _ t_169) (fun _ h9 => h9) rfl dX1_come_2 ?_
  refine lv_iconst (v := (1 : Int32)) hx hb dX1_come_5 (by decide) ?_
  refine lv_iload_n hx hb dX1_come_6 rfl (lv_at hl 1 rfl) ?_
  refine lv_ishl hx hb dX1_come_7 ?_
  refine lv_ior hx hb dX1_come_8 ?_
  refine k_put (wn := [(q_, .inr (1, [.ref q_moves, .int x_size, .ref q_foul, .int (x_guarded ||| ((1 : Int32) <<< (i1 &&& 31))), .int x_most, .int x_again, .int x_idle])), (q_foul, .inl (cI, 11, .inl x_foul))]) (C := RX1) (T := TX1) (N := 7) (ci := 1) hx hb htb inX1 tyX1 tyX1_ok nmX1 hown hK hP hD hS 0 rfl rfl 3 (Nat.le_of_ble_eq_true rfl) t_169 (fun _ h9 => h9) rfl (tyX1_ok 3 (Nat.le_of_ble_eq_true rfl)) (Nat.le_of_ble_eq_true rfl) rfl dX1_come_9 ?_
  clear hP hD hS
  intro H locs hP hD hS
  refine lv_aload_n hx hb dX1_come_12 rfl (lv_at hl 0 rfl) ?_
  refine lv_aload_n hx hb dX1_come_13 rfl (lv_at hl 0 rfl) ?_
  refine va_get (D := (dC, dI)) (ci := 1) (v := .int x_most) (C := RX1) (T := TX1) (N := 7) hx hb htb inX1 hown hK hP 0 rfl rfl 4 (Nat.le_of_ble_eq_true rfl) (htb _ t_170) (fun _ h9 => h9) rfl dX1_come_14 ?_
  refine lv_aload_n hx hb dX1_come_17 rfl (lv_at hl 0 rfl) ?_
  refine va_get (D := (dC, dI)) (ci := 1) (v := .int (x_guarded ||| ((1 : Int32) <<< (i1 &&& 31)))) (C := RX1) (T := TX1) (N := 7) hx hb htb inX1 hown hK hP 0 rfl rfl 3 (Nat.le_of_ble_eq_true rfl) (htb _ t_169) (fun _ h9 => h9) rfl dX1_come_18 ?_
  obtain ⟨v1, hv, hf⟩ := ob hf
  refine k_afterI (wr := [(q_, .inr (1, [.ref q_moves, .int x_size, .ref q_foul, .int (x_guarded ||| ((1 : Int32) <<< (i1 &&& 31))), .int x_most, .int x_again, .int x_idle])), (q_foul, .inl (cI, 11, .inl x_foul))]) (wn := [(q_, .inr (1, [.ref q_moves, .int x_size, .ref q_foul, .int (x_guarded ||| ((1 : Int32) <<< (i1 &&& 31))), .int x_most, .int x_again, .int x_idle])), (q_foul, .inl (cI, 11, .inl x_foul))]) (k_runS (rest := [.int x_most, .ref q_]) hx hb hml hown htb hK hN (c_J6_bitCount_0f7a4 l dC dI cI cZ cN (x_guarded ||| ((1 : Int32) <<< (i1 &&& 31))) v1 hv _) sf_J6_bitCount_0f7a4 t_788 hP hD [] rfl rfl ⟨(Nat.le_of_ble_eq_true rfl), (Nat.le_of_ble_eq_true rfl)⟩ rfl hl.1 rfl (Nat.le_of_ble_eq_true rfl) dX1_come_21 ⟨Nat.zero_le _, Nat.zero_le _⟩) hA hP hD hS [] [0, 1] [0, 1] rfl rfl rfl rfl ?_
  clear hP hD hS
  intro H locs hP hD hS
  refine va_mmax hx hb (hml.trans hl.1.symm) hown (htb _ t_793) (htb _ t_483) (htb _ t_16) (htb _ t_484) (Nat.le_of_ble_eq_true rfl) (Nat.le_of_ble_eq_true rfl) (Nat.zero_le _) (Nat.zero_le _) dX1_come_24 ?_
  refine k_put (wn := [(q_, .inr (1, [.ref q_moves, .int x_size, .ref q_foul, .int (x_guarded ||| ((1 : Int32) <<< (i1 &&& 31))), .int (if x_most < v1 then v1 else x_most), .int x_again, .int x_idle])), (q_foul, .inl (cI, 11, .inl x_foul))]) (C := RX1) (T := TX1) (N := 7) (ci := 1) hx hb htb inX1 tyX1 tyX1_ok nmX1 hown hK hP hD hS 0 rfl rfl 4 (Nat.le_of_ble_eq_true rfl) t_170 (fun _ h9 => h9) rfl (tyX1_ok 4 (Nat.le_of_ble_eq_true rfl)) (Nat.le_of_ble_eq_true rfl) rfl dX1_come_27 ?_
  clear hP hD hS
  intro H locs hP hD hS
  refine lv_aload_n hx hb dX1_come_30 rfl (lv_at hl 0 rfl) ?_
  refine va_get (D := (dC, dI)) (ci := 1) (v := .ref q_foul) (C := RX1) (T := TX1) (N := 7) hx hb htb inX1 hown hK hP 0 rfl rfl 2 (Nat.le_of_ble_eq_true rfl) (htb _ t_168) (fun _ h9 => h9) rfl dX1_come_31 ?_
  refine lv_iload_n hx hb dX1_come_34 rfl (lv_at hl 1 rfl) ?_
  refine lv_dup2_11 hx hb dX1_come_35 rfl rfl ?_
  obtain ⟨v2, hv, hf⟩ := ob hf
  refine k_iald hx hb hK hP 1 0 rfl rfl hv dX1_come_36 ?_
  refine lv_aload_n hx hb dX1_come_37 rfl (lv_at hl 0 rfl) ?_
  refine va_get (D := (dC, dI)) (ci := 1) (v := .int (x_guarded ||| ((1 : Int32) <<< (i1 &&& 31)))) (C := RX1) (T := TX1) (N := 7) hx hb htb inX1 hown hK hP 0 rfl rfl 3 (Nat.le_of_ble_eq_true rfl) (htb _ t_169) (fun _ h9 => h9) rfl dX1_come_38 ?_
  refine lv_iconst (v := (-1 : Int32)) hx hb dX1_come_41 (by decide) ?_
  refine lv_ixor hx hb dX1_come_42 ?_
  refine lv_iand hx hb dX1_come_43 ?_
  obtain ⟨v3, hv, hf⟩ := ob hf
  refine k_iast (wn := [(q_, .inr (1, [.ref q_moves, .int x_size, .ref q_foul, .int (x_guarded ||| ((1 : Int32) <<< (i1 &&& 31))), .int (if x_most < v1 then v1 else x_most), .int x_again, .int x_idle])), (q_foul, .inl (cI, 11, .inl v3))]) hx hb hK hP hD hS 1 0 rfl rfl hv rfl dX1_come_44 ?_
  clear hP hD hS
  intro H locs hP hD hS
  refine lv_iconst (v := (0 : Int32)) hx hb dX1_come_45 (by decide) ?_
  refine lv_istore_n (lv' := [(2, .int (0 : Int32)), (0, .ref q_), (1, .int i1)]) hx hb dX1_come_46 rfl hl (by decide) rfl (fun ls hl => ?_)
  obtain ⟨x4, hL, hf⟩ := ob hf
  have kx5 : ∀ (H : Heap) (locs : List Loc) (ls : Array Slot), va_P (dC, dI) vwCl [(q_, .inr (1, [.ref q_moves, .int x_size, .ref q_foul, .int (x_guarded ||| ((1 : Int32) <<< (i1 &&& 31))), .int (if x_most < v1 then v1 else x_most), .int x_again, .int x_idle])), (q_foul, .inl (cI, 11, .inl x4))] H → va_D A [(q_, .inr (1, [.ref q_moves, .int x_size, .ref q_foul, .int (x_guarded ||| ((1 : Int32) <<< (i1 &&& 31))), .int (if x_most < v1 then v1 else x_most), .int x_again, .int x_idle])), (q_foul, .inl (cI, 11, .inl x4))] → va_S A s.heap H locs → lv_has ls 3 [] → W p l e (rmK 3 81) s m args below meth c H locs 0 0 Q (F0 m 84 ls []) := by
    intro H locs ls hP hD hS hl
    exact hret _ _ _ hf _ _ _ _ dX1_come_84 hP hD hS
  obtain ⟨n0, hn0⟩ := loopS_iter hL
  clear hf
  have kl8 : ∀ (n : Nat) (s6 : Int32) (s7 : Nat → Int32), iterS (fun (s : Int32 × (Nat → Int32)) => f_X1_come_L47 i1 (x_guarded ||| ((1 : Int32) <<< (i1 &&& 31))) s.1 s.2) n (s6, s7) = some x4 → ∀ (H : Heap) (locs : List Loc) (ls : Array Slot), va_P (dC, dI) vwCl [(q_, .inr (1, [.ref q_moves, .int x_size, .ref q_foul, .int (x_guarded ||| ((1 : Int32) <<< (i1 &&& 31))), .int (if x_most < v1 then v1 else x_most), .int x_again, .int x_idle])), (q_foul, .inl (cI, 11, .inl s7))] H → va_D A [(q_, .inr (1, [.ref q_moves, .int x_size, .ref q_foul, .int (x_guarded ||| ((1 : Int32) <<< (i1 &&& 31))), .int (if x_most < v1 then v1 else x_most), .int x_again, .int x_idle])), (q_foul, .inl (cI, 11, .inl s7))] → va_S A s.heap H locs → lv_has ls 3 [(0, .ref q_), (1, .int i1), (2, .int s6)] → W p l e (rmK 3 81) s m args below meth c H locs 0 0 Q (F0 m 47 ls []) := by
    intro n
    induction n with
    | zero =>
      intro s6 s7 hn1
      cases hn1
    | succ n ih1 =>
      intro s6 s7 hn1 H locs ls hP hD hS hl
      obtain ⟨r9, hf, hn1⟩ := it1 hn1
      replace hf : f_X1_come_L47 i1 (x_guarded ||| ((1 : Int32) <<< (i1 &&& 31))) s6 s7 = some r9 := hf
      unfold f_X1_come_L47 at hf
      refine lv_iload_n hx hb dX1_come_47 rfl (lv_at hl 2 rfl) ?_
      refine lv_bipush (v := (11 : Int32)) hx hb dX1_come_48 (by decide) ?_
      refine lv_icmp_ge (tgt := 84) hx hb dX1_come_50 (by decide) (fun c10 => ?_) (fun c10 => ?_)
      · have hf := ip c10 hf
        cases hf
        cases (itr hn1)
        exact kx5 _ _ _ hP hD hS (lv_sub hl [] rfl)
      · have hf := im c10 hf
        refine lv_aload_n hx hb dX1_come_53 rfl (lv_at hl 0 rfl) ?_
        refine va_get (D := (dC, dI)) (ci := 1) (v := .int (x_guarded ||| ((1 : Int32) <<< (i1 &&& 31)))) (C := RX1) (T := TX1) (N := 7) hx hb htb inX1 hown hK hP 0 rfl rfl 3 (Nat.le_of_ble_eq_true rfl) (htb _ t_169) (fun _ h9 => h9) rfl dX1_come_54 ?_
        refine lv_iload_n hx hb dX1_come_57 rfl (lv_at hl 2 rfl) ?_
        obtain ⟨v11, hv, hf⟩ := ob hf
        refine k_afterI (wr := [(q_, .inr (1, [.ref q_moves, .int x_size, .ref q_foul, .int (x_guarded ||| ((1 : Int32) <<< (i1 &&& 31))), .int (if x_most < v1 then v1 else x_most), .int x_again, .int x_idle])), (q_foul, .inl (cI, 11, .inl s7))]) (wn := [(q_, .inr (1, [.ref q_moves, .int x_size, .ref q_foul, .int (x_guarded ||| ((1 : Int32) <<< (i1 &&& 31))), .int (if x_most < v1 then v1 else x_most), .int x_again, .int x_idle])), (q_foul, .inl (cI, 11, .inl s7))]) (k_runSN (rest := []) (host := "NarrowRows") hx hb hml hown htb hK hN (c_X10_holds l dC dI cI cZ cN (x_guarded ||| ((1 : Int32) <<< (i1 &&& 31))) s6 v11 hv _) sf_X10_holds nm_12 hP hD [] rfl rfl ⟨(Nat.le_of_ble_eq_true rfl), (Nat.le_of_ble_eq_true rfl)⟩ rfl hl.1 rfl (Nat.le_of_ble_eq_true rfl) dX1_come_58 ⟨Nat.zero_le _, Nat.zero_le _⟩) hA hP hD hS [] [0, 1] [0, 1] rfl rfl rfl rfl ?_
        clear hP hD hS
        intro H locs hP hD hS
        obtain ⟨t12, hv, hf⟩ := ob hf
        have key13 : ∀ (H : Heap) (locs : List Loc) (ls : Array Slot), va_P (dC, dI) vwCl [(q_, .inr (1, [.ref q_moves, .int x_size, .ref q_foul, .int (x_guarded ||| ((1 : Int32) <<< (i1 &&& 31))), .int (if x_most < v1 then v1 else x_most), .int x_again, .int x_idle])), (q_foul, .inl (cI, 11, .inl t12))] H → va_D A [(q_, .inr (1, [.ref q_moves, .int x_size, .ref q_foul, .int (x_guarded ||| ((1 : Int32) <<< (i1 &&& 31))), .int (if x_most < v1 then v1 else x_most), .int x_again, .int x_idle])), (q_foul, .inl (cI, 11, .inl t12))] → va_S A s.heap H locs → lv_has ls 3 [(0, .ref q_), (1, .int i1), (2, .int s6)] → W p l e (rmK 3 81) s m args below meth c H locs 0 0 Q (F0 m 78 ls []) := by
          intro H locs ls hP hD hS hl
          refine lv_iinc (v := (s6 + (1 : Int32))) (lv' := [(2, .int (s6 + (1 : Int32))), (0, .ref q_), (1, .int i1)]) hx hb dX1_come_78 hl (k := 2) rfl rfl (by decide) rfl (fun ls hl => ?_)
          refine lv_goto (tgt := 47) hx hb dX1_come_81 (by decide) ?_
          cases hf
          exact ih1 _ _ (itl hn1) _ _ _ hP hD hS (lv_sub hl [1, 2, 0] rfl)
        replace hf := hv
        refine lv_if_eq (tgt := 78) hx hb dX1_come_61 (by decide) (fun c14 => ?_) (fun c14 => ?_)
        · have hf := ip c14 hf
          cases hf
          exact key13 _ _ _ hP hD hS (lv_sub hl [0, 1, 2] rfl)
        · have hf := im c14 hf
          refine lv_aload_n hx hb dX1_come_64 rfl (lv_at hl 0 rfl) ?_
          refine va_get (D := (dC, dI)) (ci := 1) (v := .ref q_foul) (C := RX1) (T := TX1) (N := 7) hx hb htb inX1 hown hK hP 0 rfl rfl 2 (Nat.le_of_ble_eq_true rfl) (htb _ t_168) (fun _ h9 => h9) rfl dX1_come_65 ?_
          refine lv_iload_n hx hb dX1_come_68 rfl (lv_at hl 2 rfl) ?_
          refine lv_dup2_11 hx hb dX1_come_69 rfl rfl ?_
          obtain ⟨v15, hv, hf⟩ := ob hf
          refine k_iald hx hb hK hP 1 0 rfl rfl hv dX1_come_70 ?_
          refine lv_iconst (v := (1 : Int32)) hx hb dX1_come_71 (by decide) ?_
          refine lv_iload_n hx hb dX1_come_72 rfl (lv_at hl 1 rfl) ?_
          refine lv_ishl hx hb dX1_come_73 ?_
          refine lv_iconst (v := (-1 : Int32)) hx hb dX1_come_74 (by decide) ?_
          refine lv_ixor hx hb dX1_come_75 ?_
          refine lv_iand hx hb dX1_come_76 ?_
          obtain ⟨v16, hv, hf⟩ := ob hf
          refine k_iast (wn := [(q_, .inr (1, [.ref q_moves, .int x_size, .ref q_foul, .int (x_guarded ||| ((1 : Int32) <<< (i1 &&& 31))), .int (if x_most < v1 then v1 else x_most), .int x_again, .int x_idle])), (q_foul, .inl (cI, 11, .inl v16))]) hx hb hK hP hD hS 1 0 rfl rfl hv rfl dX1_come_77 ?_
          clear hP hD hS
          intro H locs hP hD hS
          cases hf
          exact key13 _ _ _ hP hD hS (lv_sub hl [0, 1, 2] rfl)
  exact kl8 n0 _ _ hn0 _ _ _ hP hD hS (lv_sub hl [1, 2, 0] rfl)
theorem vf_X1_run : VF yX1_run cX1_run 5 none 1 := ⟨t_772, t_773, t_8, t_774, by decide +kernel, by decide +kernel, by decide +kernel⟩
theorem dX1_run_0 : decode cX1_run 0 = .ok (.aload_n 1, 1) := by decide +kernel
theorem dX1_run_1 : decode cX1_run 1 = .ok (.getfield 30, 3) := by decide +kernel
theorem dX1_run_4 : decode cX1_run 4 = .ok (.iconst 0, 1) := by decide +kernel
theorem dX1_run_5 : decode cX1_run 5 = .ok (.aload_n 0, 1) := by decide +kernel
theorem dX1_run_6 : decode cX1_run 6 = .ok (.getfield 15, 3) := by decide +kernel
theorem dX1_run_9 : decode cX1_run 9 = .ok (.iconst 0, 1) := by decide +kernel
theorem dX1_run_10 : decode cX1_run 10 = .ok (.bipush 11, 2) := by decide +kernel
theorem dX1_run_12 : decode cX1_run 12 = .ok (.invokestatic 35, 3) := by decide +kernel
theorem dX1_run_15 : decode cX1_run 15 = .ok (.aload_n 0, 1) := by decide +kernel
theorem dX1_run_16 : decode cX1_run 16 = .ok (.iconst 0, 1) := by decide +kernel
theorem dX1_run_17 : decode cX1_run 17 = .ok (.putfield 41, 3) := by decide +kernel
theorem dX1_run_20 : decode cX1_run 20 = .ok (.aload_n 0, 1) := by decide +kernel
theorem dX1_run_21 : decode cX1_run 21 = .ok (.iconst 0, 1) := by decide +kernel
theorem dX1_run_22 : decode cX1_run 22 = .ok (.putfield 44, 3) := by decide +kernel
theorem dX1_run_25 : decode cX1_run 25 = .ok (.aload_n 0, 1) := by decide +kernel
theorem dX1_run_26 : decode cX1_run 26 = .ok (.iconst 0, 1) := by decide +kernel
theorem dX1_run_27 : decode cX1_run 27 = .ok (.putfield 47, 3) := by decide +kernel
theorem dX1_run_30 : decode cX1_run 30 = .ok (.aload_n 0, 1) := by decide +kernel
theorem dX1_run_31 : decode cX1_run 31 = .ok (.iconst 0, 1) := by decide +kernel
theorem dX1_run_32 : decode cX1_run 32 = .ok (.putfield 50, 3) := by decide +kernel
theorem dX1_run_35 : decode cX1_run 35 = .ok (.iconst 0, 1) := by decide +kernel
theorem dX1_run_36 : decode cX1_run 36 = .ok (.istore_n 2, 1) := by decide +kernel
theorem dX1_run_37 : decode cX1_run 37 = .ok (.iload_n 2, 1) := by decide +kernel
theorem dX1_run_38 : decode cX1_run 38 = .ok (.aload_n 0, 1) := by decide +kernel
theorem dX1_run_39 : decode cX1_run 39 = .ok (.getfield 18, 3) := by decide +kernel
theorem dX1_run_42 : decode cX1_run 42 = .ok (.if_icmp .ge 105, 3) := by decide +kernel
theorem dX1_run_45 : decode cX1_run 45 = .ok (.aload_n 0, 1) := by decide +kernel
theorem dX1_run_46 : decode cX1_run 46 = .ok (.getfield 9, 3) := by decide +kernel
theorem dX1_run_49 : decode cX1_run 49 = .ok (.iload_n 2, 1) := by decide +kernel
theorem dX1_run_50 : decode cX1_run 50 = .ok (.iaload, 1) := by decide +kernel
theorem dX1_run_51 : decode cX1_run 51 = .ok (.bipush 100, 2) := by decide +kernel
theorem dX1_run_53 : decode cX1_run 53 = .ok (.if_icmp .lt 7, 3) := by decide +kernel
theorem dX1_run_56 : decode cX1_run 56 = .ok (.iconst 1, 1) := by decide +kernel
theorem dX1_run_57 : decode cX1_run 57 = .ok (.goto 4, 3) := by decide +kernel
theorem dX1_run_60 : decode cX1_run 60 = .ok (.iconst 0, 1) := by decide +kernel
theorem dX1_run_61 : decode cX1_run 61 = .ok (.istore_n 3, 1) := by decide +kernel
theorem dX1_run_62 : decode cX1_run 62 = .ok (.iload_n 3, 1) := by decide +kernel
theorem dX1_run_63 : decode cX1_run 63 = .ok (.ifCond .eq 15, 3) := by decide +kernel
theorem dX1_run_66 : decode cX1_run 66 = .ok (.aload_n 0, 1) := by decide +kernel
theorem dX1_run_67 : decode cX1_run 67 = .ok (.getfield 9, 3) := by decide +kernel
theorem dX1_run_70 : decode cX1_run 70 = .ok (.iload_n 2, 1) := by decide +kernel
theorem dX1_run_71 : decode cX1_run 71 = .ok (.iaload, 1) := by decide +kernel
theorem dX1_run_72 : decode cX1_run 72 = .ok (.bipush 100, 2) := by decide +kernel
theorem dX1_run_74 : decode cX1_run 74 = .ok (.isub, 1) := by decide +kernel
theorem dX1_run_75 : decode cX1_run 75 = .ok (.goto 9, 3) := by decide +kernel
theorem dX1_run_78 : decode cX1_run 78 = .ok (.aload_n 0, 1) := by decide +kernel
theorem dX1_run_79 : decode cX1_run 79 = .ok (.getfield 9, 3) := by decide +kernel
theorem dX1_run_82 : decode cX1_run 82 = .ok (.iload_n 2, 1) := by decide +kernel
theorem dX1_run_83 : decode cX1_run 83 = .ok (.iaload, 1) := by decide +kernel
theorem dX1_run_84 : decode cX1_run 84 = .ok (.istore 4, 2) := by decide +kernel
theorem dX1_run_86 : decode cX1_run 86 = .ok (.iload 4, 2) := by decide +kernel
theorem dX1_run_88 : decode cX1_run 88 = .ok (.aload_n 1, 1) := by decide +kernel
theorem dX1_run_89 : decode cX1_run 89 = .ok (.getfield 53, 3) := by decide +kernel
theorem dX1_run_92 : decode cX1_run 92 = .ok (.if_icmp .ge 16, 3) := by decide +kernel
theorem dX1_run_95 : decode cX1_run 95 = .ok (.aload_n 0, 1) := by decide +kernel
theorem dX1_run_96 : decode cX1_run 96 = .ok (.getfield 41, 3) := by decide +kernel
theorem dX1_run_99 : decode cX1_run 99 = .ok (.iload 4, 2) := by decide +kernel
theorem dX1_run_101 : decode cX1_run 101 = .ok (.invokestatic 22, 3) := by decide +kernel
theorem dX1_run_104 : decode cX1_run 104 = .ok (.iload_n 3, 1) := by decide +kernel
theorem dX1_run_105 : decode cX1_run 105 = .ok (.if_icmp .eq 16, 3) := by decide +kernel
theorem dX1_run_108 : decode cX1_run 108 = .ok (.aload_n 0, 1) := by decide +kernel
theorem dX1_run_109 : decode cX1_run 109 = .ok (.dup, 1) := by decide +kernel
theorem dX1_run_110 : decode cX1_run 110 = .ok (.getfield 50, 3) := by decide +kernel
theorem dX1_run_113 : decode cX1_run 113 = .ok (.iconst 1, 1) := by decide +kernel
theorem dX1_run_114 : decode cX1_run 114 = .ok (.iadd, 1) := by decide +kernel
theorem dX1_run_115 : decode cX1_run 115 = .ok (.putfield 50, 3) := by decide +kernel
theorem dX1_run_118 : decode cX1_run 118 = .ok (.goto 23, 3) := by decide +kernel
theorem dX1_run_121 : decode cX1_run 121 = .ok (.iload_n 3, 1) := by decide +kernel
theorem dX1_run_122 : decode cX1_run 122 = .ok (.ifCond .eq 13, 3) := by decide +kernel
theorem dX1_run_125 : decode cX1_run 125 = .ok (.aload_n 0, 1) := by decide +kernel
theorem dX1_run_126 : decode cX1_run 126 = .ok (.aload_n 1, 1) := by decide +kernel
theorem dX1_run_127 : decode cX1_run 127 = .ok (.iload 4, 2) := by decide +kernel
theorem dX1_run_129 : decode cX1_run 129 = .ok (.invokevirtual 56, 3) := by decide +kernel
theorem dX1_run_132 : decode cX1_run 132 = .ok (.goto 9, 3) := by decide +kernel
theorem dX1_run_135 : decode cX1_run 135 = .ok (.aload_n 0, 1) := by decide +kernel
theorem dX1_run_136 : decode cX1_run 136 = .ok (.iload 4, 2) := by decide +kernel
theorem dX1_run_138 : decode cX1_run 138 = .ok (.invokevirtual 60, 3) := by decide +kernel
theorem dX1_run_141 : decode cX1_run 141 = .ok (.iinc 2 1, 3) := by decide +kernel
theorem dX1_run_144 : decode cX1_run 144 = .ok (.goto (-107), 3) := by decide +kernel
theorem dX1_run_147 : decode cX1_run 147 = .ok (.return_, 1) := by decide +kernel
noncomputable def f_X1_run_L37 (x_size : Int32) (x_moves : Nat → Int32) (x_p1_posts : Int32) (x_p1_near : Nat → Int32) (i2 : Int32) (x_guarded : Int32) (x_most : Int32) (x_again : Int32) (x_idle : Int32) (x_foul : Nat → Int32) : Option ((Int32 × Int32 × Int32 × Int32 × Int32 × (Nat → Int32)) ⊕ (Int32 × Int32 × Int32 × Int32 × (Nat → Int32))) :=
  if x_size ≤ i2 then (some (.inr (x_guarded, x_most, x_again, x_idle, x_foul))) else ((gi x_moves 60 i2).bind fun v3 =>
  ((if v3 < (100 : Int32) then (some (0 : Int32)) else (some (1 : Int32)) : Option (Int32))).bind fun t4 =>
  ((if t4 = 0 then ((gi x_moves 60 i2).bind fun v25 =>
  some v25) else ((gi x_moves 60 i2).bind fun v26 =>
  some (v26 - (100 : Int32))) : Option (Int32))).bind fun t6 =>
  b5 ((if x_p1_posts ≤ t6 then (some (x_guarded, x_most, x_again, (x_idle + (1 : Int32)), x_foul)) else ((f_X10_holds x_guarded t6).bind fun v15 =>
  if v15 = t4 then (if t4 = 0 then (b3 (f_X1_come x_guarded x_most x_foul t6) fun o18 o19 o20 =>
  some (o18, o19, x_again, x_idle, o20)) else (b3 (f_X1_leave x_guarded x_again x_foul x_p1_posts x_p1_near t6) fun o21 o22 o23 =>
  some (o21, x_most, o22, x_idle, o23))) else (some (x_guarded, x_most, x_again, (x_idle + (1 : Int32)), x_foul))) : Option (Int32 × Int32 × Int32 × Int32 × (Nat → Int32)))) fun t8 t9 t10 t11 t12 =>
  some (.inl ((i2 + (1 : Int32)), t8, t9, t10, t11, t12)))
noncomputable def f_X1_run (x_size : Int32) (x_guarded : Int32) (x_most : Int32) (x_again : Int32) (x_idle : Int32) (x_moves : Nat → Int32) (x_foul : Nat → Int32) (x_p1_posts : Int32) (x_p1_near : Nat → Int32) : Option (Int32 × Int32 × Int32 × Int32 × (Nat → Int32)) :=
  (cp x_p1_near 11 x_foul 11 (0 : Int32) (0 : Int32) (11 : Int32)).bind fun v1 =>
  b5 (loopS (fun (s : Int32 × Int32 × Int32 × Int32 × Int32 × (Nat → Int32)) => f_X1_run_L37 x_size x_moves x_p1_posts x_p1_near s.1 s.2.1 s.2.2.1 s.2.2.2.1 s.2.2.2.2.1 s.2.2.2.2.2) ((0 : Int32), (0 : Int32), (0 : Int32), (0 : Int32), (0 : Int32), v1)) fun x2 x3 x4 x5 x6 =>
  some ((x2, x3, x4, x5, x6))
set_option maxHeartbeats 4000000 in
set_option maxRecDepth 100000 in
theorem c_X1_run (l : Launch) (dC : Nat → ClassId) (dI : Nat → Nat → Nat) (cI cZ cN : ClassId) (q_ : Nat) (q_moves : Nat) (q_foul : Nat) (q_p1 : Nat) (q_p1_weights : Nat) (q_p1_near : Nat) (q_p1_behind : Nat) (q_p1_ahead : Nat) (x_size : Int32) (x_guarded : Int32) (x_most : Int32) (x_again : Int32) (x_idle : Int32) (x_moves : Nat → Int32) (x_foul : Nat → Int32) (x_p1_posts : Int32) (x_p1_roads : Int32) (x_p1_weight : Int32) (x_p1_near : Nat → Int32) (o_guarded : Int32) (o_most : Int32) (o_again : Int32) (o_idle : Int32) (o_foul : Nat → Int32) (hf : f_X1_run x_size x_guarded x_most x_again x_idle x_moves x_foul x_p1_posts x_p1_near = some (o_guarded, o_most, o_again, o_idle, o_foul)) : CV l yX1_run cX1_run 5 none 6 151 (dC, dI) (TY cI cZ cN) [.ref q_, .ref q_p1] [(q_, .inr (1, [.ref q_moves, .int x_size, .ref q_foul, .int x_guarded, .int x_most, .int x_again, .int x_idle])), (q_moves, .inl (cI, 60, .inl x_moves)), (q_foul, .inl (cI, 11, .inl x_foul)), (q_p1, .inr (8, [.int x_p1_posts, .int x_p1_roads, .int x_p1_weight, .ref q_p1_weights, .ref q_p1_near, .ref q_p1_behind, .ref q_p1_ahead])), (q_p1_near, .inl (cI, 11, .inl x_p1_near))] [(q_, .inr (1, [.ref q_moves, .int x_size, .ref q_foul, .int o_guarded, .int o_most, .int o_again, .int o_idle])), (q_moves, .inl (cI, 60, .inl x_moves)), (q_foul, .inl (cI, 11, .inl o_foul)), (q_p1, .inr (8, [.int x_p1_posts, .int x_p1_roads, .int x_p1_weight, .ref q_p1_weights, .ref q_p1_near, .ref q_p1_behind, .ref q_p1_ahead])), (q_p1_near, .inl (cI, 11, .inl x_p1_near))] := by
  refine CV.of (by decide) (Nat.le_of_ble_eq_true rfl) ?_
  intro p e s m args below meth c Q A ls hx hb hml hown htb hK hN hA hP hD hS hl hret
  have hown : s.vm.findClass RX1 = some m.cls := hown
  have hl : lv_has ls 5 [(0, .ref q_), (1, .ref q_p1)] := hl
  have hret : ∀ (o9_guarded : Int32) (o9_most : Int32) (o9_again : Int32) (o9_idle : Int32) (o9_foul : Nat → Int32), some (o9_guarded, o9_most, o9_again, o9_idle, o9_foul) = some (o_guarded, o_most, o_again, o_idle, o_foul) → ∀ (H : Heap) (locs : List Loc) (pc : Nat) (ls : Array Slot), decode cX1_run pc = .ok (.return_, 1) → va_P (dC, dI) vwCl [(q_, .inr (1, [.ref q_moves, .int x_size, .ref q_foul, .int o9_guarded, .int o9_most, .int o9_again, .int o9_idle])), (q_moves, .inl (cI, 60, .inl x_moves)), (q_foul, .inl (cI, 11, .inl o9_foul)), (q_p1, .inr (8, [.int x_p1_posts, .int x_p1_roads, .int x_p1_weight, .ref q_p1_weights, .ref q_p1_near, .ref q_p1_behind, .ref q_p1_ahead])), (q_p1_near, .inl (cI, 11, .inl x_p1_near))] H → va_D A [(q_, .inr (1, [.ref q_moves, .int x_size, .ref q_foul, .int o9_guarded, .int o9_most, .int o9_again, .int o9_idle])), (q_moves, .inl (cI, 60, .inl x_moves)), (q_foul, .inl (cI, 11, .inl o9_foul)), (q_p1, .inr (8, [.int x_p1_posts, .int x_p1_roads, .int x_p1_weight, .ref q_p1_weights, .ref q_p1_near, .ref q_p1_behind, .ref q_p1_ahead])), (q_p1_near, .inl (cI, 11, .inl x_p1_near))] → va_S A s.heap H locs → W p l e (rmK 6 151) s m args below meth c H locs 0 0 Q (F0 m pc ls []) := by
    intro o9_guarded o9_most o9_again o9_idle o9_foul h9
    cases h9
    exact hret
  unfold f_X1_run at hf
  refine lv_aload_n hx hb dX1_run_0 rfl (lv_at hl 1 rfl) ?_
  refine va_get (D := (dC, dI)) (ci := 8) (v := .ref q_p1_near) (C := RX9) (T := TX9) (N := 7) hx hb htb inX9 hown hK hP 3 rfl rfl 4 (Nat.le_of_ble_eq_true rfl) (htb _ t_81) (fun _ h9 => h9) rfl dX1_run_1 ?_
  refine lv_iconst (v := (0 : Int32)) hx hb dX1_run_4 (by decide) ?_
  refine lv_aload_n hx hb dX1_run_5 rfl (lv_at hl 0 rfl) ?_
  refine va_get (D := (dC, dI)) (ci := 1) (v := .ref q_foul) (C := RX1) (T := TX1) (N := 7) hx hb htb inX1 hown hK hP 0 rfl rfl 2 (Nat.le_of_ble_eq_true rfl) (htb _ t_168) (fun _ h9 => h9) rfl dX1_run_6 ?_
  refine lv_iconst (v := (0 : Int32)) hx hb dX1_run_9 (by decide) ?_
  refine lv_bipush (v := (11 : Int32)) hx hb dX1_run_10 (by decide) ?_
  obtain ⟨v1, hv, hf⟩ := ob hf
  refine k_copy (wn := [(q_, .inr (1, [.ref q_moves, .int x_size, .ref q_foul, .int x_guarded, .int x_most, .int x_again, .int x_idle])), (q_moves, .inl (cI, 60, .inl x_moves)), (q_foul, .inl (cI, 11, .inl v1)), (q_p1, .inr (8, [.int x_p1_posts, .int x_p1_roads, .int x_p1_weight, .ref q_p1_weights, .ref q_p1_near, .ref q_p1_behind, .ref q_p1_ahead])), (q_p1_near, .inl (cI, 11, .inl x_p1_near))]) hx hb (hml.trans hl.1.symm) hown (htb _ t_775) (htb _ t_323) (htb _ t_322) (htb _ t_14) hK hP hD hS 4 2 0 rfl rfl rfl hv rfl (Nat.le_of_ble_eq_true rfl) (Nat.le_of_ble_eq_true rfl) dX1_run_12 ?_
  clear hP hD hS
  intro H locs hP hD hS
  refine lv_aload_n hx hb dX1_run_15 rfl (lv_at hl 0 rfl) ?_
  refine lv_iconst (v := (0 : Int32)) hx hb dX1_run_16 (by decide) ?_
  refine k_put (wn := [(q_, .inr (1, [.ref q_moves, .int x_size, .ref q_foul, .int (0 : Int32), .int x_most, .int x_again, .int x_idle])), (q_moves, .inl (cI, 60, .inl x_moves)), (q_foul, .inl (cI, 11, .inl v1)), (q_p1, .inr (8, [.int x_p1_posts, .int x_p1_roads, .int x_p1_weight, .ref q_p1_weights, .ref q_p1_near, .ref q_p1_behind, .ref q_p1_ahead])), (q_p1_near, .inl (cI, 11, .inl x_p1_near))]) (C := RX1) (T := TX1) (N := 7) (ci := 1) hx hb htb inX1 tyX1 tyX1_ok nmX1 hown hK hP hD hS 0 rfl rfl 3 (Nat.le_of_ble_eq_true rfl) t_169 (fun _ h9 => h9) rfl (tyX1_ok 3 (Nat.le_of_ble_eq_true rfl)) (Nat.le_of_ble_eq_true rfl) rfl dX1_run_17 ?_
  clear hP hD hS
  intro H locs hP hD hS
  refine lv_aload_n hx hb dX1_run_20 rfl (lv_at hl 0 rfl) ?_
  refine lv_iconst (v := (0 : Int32)) hx hb dX1_run_21 (by decide) ?_
  refine k_put (wn := [(q_, .inr (1, [.ref q_moves, .int x_size, .ref q_foul, .int (0 : Int32), .int (0 : Int32), .int x_again, .int x_idle])), (q_moves, .inl (cI, 60, .inl x_moves)), (q_foul, .inl (cI, 11, .inl v1)), (q_p1, .inr (8, [.int x_p1_posts, .int x_p1_roads, .int x_p1_weight, .ref q_p1_weights, .ref q_p1_near, .ref q_p1_behind, .ref q_p1_ahead])), (q_p1_near, .inl (cI, 11, .inl x_p1_near))]) (C := RX1) (T := TX1) (N := 7) (ci := 1) hx hb htb inX1 tyX1 tyX1_ok nmX1 hown hK hP hD hS 0 rfl rfl 4 (Nat.le_of_ble_eq_true rfl) t_170 (fun _ h9 => h9) rfl (tyX1_ok 4 (Nat.le_of_ble_eq_true rfl)) (Nat.le_of_ble_eq_true rfl) rfl dX1_run_22 ?_
  clear hP hD hS
  intro H locs hP hD hS
  refine lv_aload_n hx hb dX1_run_25 rfl (lv_at hl 0 rfl) ?_
  refine lv_iconst (v := (0 : Int32)) hx hb dX1_run_26 (by decide) ?_
  refine k_put (wn := [(q_, .inr (1, [.ref q_moves, .int x_size, .ref q_foul, .int (0 : Int32), .int (0 : Int32), .int (0 : Int32), .int x_idle])), (q_moves, .inl (cI, 60, .inl x_moves)), (q_foul, .inl (cI, 11, .inl v1)), (q_p1, .inr (8, [.int x_p1_posts, .int x_p1_roads, .int x_p1_weight, .ref q_p1_weights, .ref q_p1_near, .ref q_p1_behind, .ref q_p1_ahead])), (q_p1_near, .inl (cI, 11, .inl x_p1_near))]) (C := RX1) (T := TX1) (N := 7) (ci := 1) hx hb htb inX1 tyX1 tyX1_ok nmX1 hown hK hP hD hS 0 rfl rfl 5 (Nat.le_of_ble_eq_true rfl) t_172 (fun _ h9 => h9) rfl (tyX1_ok 5 (Nat.le_of_ble_eq_true rfl)) (Nat.le_of_ble_eq_true rfl) rfl dX1_run_27 ?_
  clear hP hD hS
  intro H locs hP hD hS
  refine lv_aload_n hx hb dX1_run_30 rfl (lv_at hl 0 rfl) ?_
  refine lv_iconst (v := (0 : Int32)) hx hb dX1_run_31 (by decide) ?_
  refine k_put (wn := [(q_, .inr (1, [.ref q_moves, .int x_size, .ref q_foul, .int (0 : Int32), .int (0 : Int32), .int (0 : Int32), .int (0 : Int32)])), (q_moves, .inl (cI, 60, .inl x_moves)), (q_foul, .inl (cI, 11, .inl v1)), (q_p1, .inr (8, [.int x_p1_posts, .int x_p1_roads, .int x_p1_weight, .ref q_p1_weights, .ref q_p1_near, .ref q_p1_behind, .ref q_p1_ahead])), (q_p1_near, .inl (cI, 11, .inl x_p1_near))]) (C := RX1) (T := TX1) (N := 7) (ci := 1) hx hb htb inX1 tyX1 tyX1_ok nmX1 hown hK hP hD hS 0 rfl rfl 6 (Nat.le_of_ble_eq_true rfl) t_174 (fun _ h9 => h9) rfl (tyX1_ok 6 (Nat.le_of_ble_eq_true rfl)) (Nat.le_of_ble_eq_true rfl) rfl dX1_run_32 ?_
  clear hP hD hS
  intro H locs hP hD hS
  refine lv_iconst (v := (0 : Int32)) hx hb dX1_run_35 (by decide) ?_
  refine lv_istore_n (lv' := [(2, .int (0 : Int32)), (0, .ref q_), (1, .ref q_p1)]) hx hb dX1_run_36 rfl hl (by decide) rfl (fun ls hl => ?_)
  obtain ⟨x2, x3, x4, x5, x6, hL, hf⟩ := ob5 hf
  have kx7 : ∀ (H : Heap) (locs : List Loc) (ls : Array Slot), va_P (dC, dI) vwCl [(q_, .inr (1, [.ref q_moves, .int x_size, .ref q_foul, .int x2, .int x3, .int x4, .int x5])), (q_moves, .inl (cI, 60, .inl x_moves)), (q_foul, .inl (cI, 11, .inl x6)), (q_p1, .inr (8, [.int x_p1_posts, .int x_p1_roads, .int x_p1_weight, .ref q_p1_weights, .ref q_p1_near, .ref q_p1_behind, .ref q_p1_ahead])), (q_p1_near, .inl (cI, 11, .inl x_p1_near))] H → va_D A [(q_, .inr (1, [.ref q_moves, .int x_size, .ref q_foul, .int x2, .int x3, .int x4, .int x5])), (q_moves, .inl (cI, 60, .inl x_moves)), (q_foul, .inl (cI, 11, .inl x6)), (q_p1, .inr (8, [.int x_p1_posts, .int x_p1_roads, .int x_p1_weight, .ref q_p1_weights, .ref q_p1_near, .ref q_p1_behind, .ref q_p1_ahead])), (q_p1_near, .inl (cI, 11, .inl x_p1_near))] → va_S A s.heap H locs → lv_has ls 5 [] → W p l e (rmK 6 151) s m args below meth c H locs 0 0 Q (F0 m 147 ls []) := by
    intro H locs ls hP hD hS hl
    exact hret _ _ _ _ _ hf _ _ _ _ dX1_run_147 hP hD hS
  obtain ⟨n0, hn0⟩ := loopS_iter hL
  clear hf
  have kl14 : ∀ (n : Nat) (s8 : Int32) (s9 : Int32) (s10 : Int32) (s11 : Int32) (s12 : Int32) (s13 : Nat → Int32), iterS (fun (s : Int32 × Int32 × Int32 × Int32 × Int32 × (Nat → Int32)) => f_X1_run_L37 x_size x_moves x_p1_posts x_p1_near s.1 s.2.1 s.2.2.1 s.2.2.2.1 s.2.2.2.2.1 s.2.2.2.2.2) n (s8, s9, s10, s11, s12, s13) = some (x2, x3, x4, x5, x6) → ∀ (H : Heap) (locs : List Loc) (ls : Array Slot), va_P (dC, dI) vwCl [(q_, .inr (1, [.ref q_moves, .int x_size, .ref q_foul, .int s9, .int s10, .int s11, .int s12])), (q_moves, .inl (cI, 60, .inl x_moves)), (q_foul, .inl (cI, 11, .inl s13)), (q_p1, .inr (8, [.int x_p1_posts, .int x_p1_roads, .int x_p1_weight, .ref q_p1_weights, .ref q_p1_near, .ref q_p1_behind, .ref q_p1_ahead])), (q_p1_near, .inl (cI, 11, .inl x_p1_near))] H → va_D A [(q_, .inr (1, [.ref q_moves, .int x_size, .ref q_foul, .int s9, .int s10, .int s11, .int s12])), (q_moves, .inl (cI, 60, .inl x_moves)), (q_foul, .inl (cI, 11, .inl s13)), (q_p1, .inr (8, [.int x_p1_posts, .int x_p1_roads, .int x_p1_weight, .ref q_p1_weights, .ref q_p1_near, .ref q_p1_behind, .ref q_p1_ahead])), (q_p1_near, .inl (cI, 11, .inl x_p1_near))] → va_S A s.heap H locs → lv_has ls 5 [(0, .ref q_), (1, .ref q_p1), (2, .int s8)] → W p l e (rmK 6 151) s m args below meth c H locs 0 0 Q (F0 m 37 ls []) := by
    intro n
    induction n with
    | zero =>
      intro s8 s9 s10 s11 s12 s13 hn1
      cases hn1
    | succ n ih1 =>
      intro s8 s9 s10 s11 s12 s13 hn1 H locs ls hP hD hS hl
      obtain ⟨r15, hf, hn1⟩ := it1 hn1
      replace hf : f_X1_run_L37 x_size x_moves x_p1_posts x_p1_near s8 s9 s10 s11 s12 s13 = some r15 := hf
      unfold f_X1_run_L37 at hf
      refine lv_iload_n hx hb dX1_run_37 rfl (lv_at hl 2 rfl) ?_
      refine lv_aload_n hx hb dX1_run_38 rfl (lv_at hl 0 rfl) ?_
      refine va_get (D := (dC, dI)) (ci := 1) (v := .int x_size) (C := RX1) (T := TX1) (N := 7) hx hb htb inX1 hown hK hP 0 rfl rfl 1 (Nat.le_of_ble_eq_true rfl) (htb _ t_166) (fun _ h9 => h9) rfl dX1_run_39 ?_
      refine lv_icmp_ge (tgt := 147) hx hb dX1_run_42 (by decide) (fun c16 => ?_) (fun c16 => ?_)
      · have hf := ip c16 hf
        cases hf
        cases (itr hn1)
        exact kx7 _ _ _ hP hD hS (lv_sub hl [] rfl)
      · have hf := im c16 hf
        refine lv_aload_n hx hb dX1_run_45 rfl (lv_at hl 0 rfl) ?_
        refine va_get (D := (dC, dI)) (ci := 1) (v := .ref q_moves) (C := RX1) (T := TX1) (N := 7) hx hb htb inX1 hown hK hP 0 rfl rfl 0 (Nat.le_of_ble_eq_true rfl) (htb _ t_165) (fun _ h9 => h9) rfl dX1_run_46 ?_
        refine lv_iload_n hx hb dX1_run_49 rfl (lv_at hl 2 rfl) ?_
        obtain ⟨v17, hv, hf⟩ := ob hf
        refine k_iald hx hb hK hP 1 0 rfl rfl hv dX1_run_50 ?_
        refine lv_bipush (v := (100 : Int32)) hx hb dX1_run_51 (by decide) ?_
        obtain ⟨t18, hv, hf⟩ := ob hf
        have key19 : ∀ (H : Heap) (locs : List Loc) (ls : Array Slot), va_P (dC, dI) vwCl [(q_, .inr (1, [.ref q_moves, .int x_size, .ref q_foul, .int s9, .int s10, .int s11, .int s12])), (q_moves, .inl (cI, 60, .inl x_moves)), (q_foul, .inl (cI, 11, .inl s13)), (q_p1, .inr (8, [.int x_p1_posts, .int x_p1_roads, .int x_p1_weight, .ref q_p1_weights, .ref q_p1_near, .ref q_p1_behind, .ref q_p1_ahead])), (q_p1_near, .inl (cI, 11, .inl x_p1_near))] H → va_D A [(q_, .inr (1, [.ref q_moves, .int x_size, .ref q_foul, .int s9, .int s10, .int s11, .int s12])), (q_moves, .inl (cI, 60, .inl x_moves)), (q_foul, .inl (cI, 11, .inl s13)), (q_p1, .inr (8, [.int x_p1_posts, .int x_p1_roads, .int x_p1_weight, .ref q_p1_weights, .ref q_p1_near, .ref q_p1_behind, .ref q_p1_ahead])), (q_p1_near, .inl (cI, 11, .inl x_p1_near))] → va_S A s.heap H locs → lv_has ls 5 [(0, .ref q_), (1, .ref q_p1), (2, .int s8)] → W p l e (rmK 6 151) s m args below meth c H locs 0 0 Q (F0 m 61 ls [.int t18]) := by
          intro H locs ls hP hD hS hl
          refine lv_istore_n (lv' := [(3, .int t18), (0, .ref q_), (1, .ref q_p1), (2, .int s8)]) hx hb dX1_run_61 rfl hl (by decide) rfl (fun ls hl => ?_)
          refine lv_iload_n hx hb dX1_run_62 rfl (lv_at hl 0 rfl) ?_
          obtain ⟨t20, hv, hf⟩ := ob hf
          have key21 : ∀ (H : Heap) (locs : List Loc) (ls : Array Slot), va_P (dC, dI) vwCl [(q_, .inr (1, [.ref q_moves, .int x_size, .ref q_foul, .int s9, .int s10, .int s11, .int s12])), (q_moves, .inl (cI, 60, .inl x_moves)), (q_foul, .inl (cI, 11, .inl s13)), (q_p1, .inr (8, [.int x_p1_posts, .int x_p1_roads, .int x_p1_weight, .ref q_p1_weights, .ref q_p1_near, .ref q_p1_behind, .ref q_p1_ahead])), (q_p1_near, .inl (cI, 11, .inl x_p1_near))] H → va_D A [(q_, .inr (1, [.ref q_moves, .int x_size, .ref q_foul, .int s9, .int s10, .int s11, .int s12])), (q_moves, .inl (cI, 60, .inl x_moves)), (q_foul, .inl (cI, 11, .inl s13)), (q_p1, .inr (8, [.int x_p1_posts, .int x_p1_roads, .int x_p1_weight, .ref q_p1_weights, .ref q_p1_near, .ref q_p1_behind, .ref q_p1_ahead])), (q_p1_near, .inl (cI, 11, .inl x_p1_near))] → va_S A s.heap H locs → lv_has ls 5 [(0, .ref q_), (1, .ref q_p1), (2, .int s8), (3, .int t18)] → W p l e (rmK 6 151) s m args below meth c H locs 0 0 Q (F0 m 84 ls [.int t20]) := by
            intro H locs ls hP hD hS hl
            refine lv_istore (lv' := [(4, .int t20), (0, .ref q_), (1, .ref q_p1), (2, .int s8), (3, .int t18)]) hx hb dX1_run_84 hl (by decide) rfl (fun ls hl => ?_)
            refine lv_iload hx hb dX1_run_86 (lv_at hl 0 rfl) ?_
            refine lv_aload_n hx hb dX1_run_88 rfl (lv_at hl 2 rfl) ?_
            refine va_get (D := (dC, dI)) (ci := 8) (v := .int x_p1_posts) (C := RX9) (T := TX9) (N := 7) hx hb htb inX9 hown hK hP 3 rfl rfl 0 (Nat.le_of_ble_eq_true rfl) (htb _ t_74) (fun _ h9 => h9) rfl dX1_run_89 ?_
            obtain ⟨t22, t23, t24, t25, t26, hv, hf⟩ := ob5 hf
            have key27 : ∀ (H : Heap) (locs : List Loc) (ls : Array Slot), va_P (dC, dI) vwCl [(q_, .inr (1, [.ref q_moves, .int x_size, .ref q_foul, .int t22, .int t23, .int t24, .int t25])), (q_moves, .inl (cI, 60, .inl x_moves)), (q_foul, .inl (cI, 11, .inl t26)), (q_p1, .inr (8, [.int x_p1_posts, .int x_p1_roads, .int x_p1_weight, .ref q_p1_weights, .ref q_p1_near, .ref q_p1_behind, .ref q_p1_ahead])), (q_p1_near, .inl (cI, 11, .inl x_p1_near))] H → va_D A [(q_, .inr (1, [.ref q_moves, .int x_size, .ref q_foul, .int t22, .int t23, .int t24, .int t25])), (q_moves, .inl (cI, 60, .inl x_moves)), (q_foul, .inl (cI, 11, .inl t26)), (q_p1, .inr (8, [.int x_p1_posts, .int x_p1_roads, .int x_p1_weight, .ref q_p1_weights, .ref q_p1_near, .ref q_p1_behind, .ref q_p1_ahead])), (q_p1_near, .inl (cI, 11, .inl x_p1_near))] → va_S A s.heap H locs → lv_has ls 5 [(0, .ref q_), (1, .ref q_p1), (2, .int s8)] → W p l e (rmK 6 151) s m args below meth c H locs 0 0 Q (F0 m 141 ls []) := by
              intro H locs ls hP hD hS hl
              refine lv_iinc (v := (s8 + (1 : Int32))) (lv' := [(2, .int (s8 + (1 : Int32))), (0, .ref q_), (1, .ref q_p1)]) hx hb dX1_run_141 hl (k := 2) rfl rfl (by decide) rfl (fun ls hl => ?_)
              refine lv_goto (tgt := 37) hx hb dX1_run_144 (by decide) ?_
              cases hf
              exact ih1 _ _ _ _ _ _ (itl hn1) _ _ _ hP hD hS (lv_sub hl [1, 2, 0] rfl)
            replace hf := hv
            refine lv_icmp_ge (tgt := 108) hx hb dX1_run_92 (by decide) (fun c28 => ?_) (fun c28 => ?_)
            · have hf := ip c28 hf
              refine lv_aload_n hx hb dX1_run_108 rfl (lv_at hl 1 rfl) ?_
              refine lv_dup hx hb dX1_run_109 rfl ?_
              refine va_get (D := (dC, dI)) (ci := 1) (v := .int s12) (C := RX1) (T := TX1) (N := 7) hx hb htb inX1 hown hK hP 0 rfl rfl 6 (Nat.le_of_ble_eq_true rfl) (htb _ t_174) (fun _ h9 => h9) rfl dX1_run_110 ?_
              refine lv_iconst (v := (1 : Int32)) hx hb dX1_run_113 (by decide) ?_
              refine lv_iadd hx hb dX1_run_114 ?_
              refine k_put (wn := [(q_, .inr (1, [.ref q_moves, .int x_size, .ref q_foul, .int s9, .int s10, .int s11, .int (s12 + (1 : Int32))])), (q_moves, .inl (cI, 60, .inl x_moves)), (q_foul, .inl (cI, 11, .inl s13)), (q_p1, .inr (8, [.int x_p1_posts, .int x_p1_roads, .int x_p1_weight, .ref q_p1_weights, .ref q_p1_near, .ref q_p1_behind, .ref q_p1_ahead])), (q_p1_near, .inl (cI, 11, .inl x_p1_near))]) (C := RX1) (T := TX1) (N := 7) (ci := 1) hx hb htb inX1 tyX1 tyX1_ok nmX1 hown hK hP hD hS 0 rfl rfl 6 (Nat.le_of_ble_eq_true rfl) t_174 (fun _ h9 => h9) rfl (tyX1_ok 6 (Nat.le_of_ble_eq_true rfl)) (Nat.le_of_ble_eq_true rfl) rfl dX1_run_115 ?_
              clear hP hD hS
              intro H locs hP hD hS
              refine lv_goto (tgt := 141) hx hb dX1_run_118 (by decide) ?_
              cases hf
              exact key27 _ _ _ hP hD hS (lv_sub hl [1, 2, 3] rfl)
            · have hf := im c28 hf
              refine lv_aload_n hx hb dX1_run_95 rfl (lv_at hl 1 rfl) ?_
              refine va_get (D := (dC, dI)) (ci := 1) (v := .int s9) (C := RX1) (T := TX1) (N := 7) hx hb htb inX1 hown hK hP 0 rfl rfl 3 (Nat.le_of_ble_eq_true rfl) (htb _ t_169) (fun _ h9 => h9) rfl dX1_run_96 ?_
              refine lv_iload hx hb dX1_run_99 (lv_at hl 0 rfl) ?_
              obtain ⟨v29, hv, hf⟩ := ob hf
              refine k_afterI (wr := [(q_, .inr (1, [.ref q_moves, .int x_size, .ref q_foul, .int s9, .int s10, .int s11, .int s12])), (q_moves, .inl (cI, 60, .inl x_moves)), (q_foul, .inl (cI, 11, .inl s13)), (q_p1, .inr (8, [.int x_p1_posts, .int x_p1_roads, .int x_p1_weight, .ref q_p1_weights, .ref q_p1_near, .ref q_p1_behind, .ref q_p1_ahead])), (q_p1_near, .inl (cI, 11, .inl x_p1_near))]) (wn := [(q_, .inr (1, [.ref q_moves, .int x_size, .ref q_foul, .int s9, .int s10, .int s11, .int s12])), (q_moves, .inl (cI, 60, .inl x_moves)), (q_foul, .inl (cI, 11, .inl s13)), (q_p1, .inr (8, [.int x_p1_posts, .int x_p1_roads, .int x_p1_weight, .ref q_p1_weights, .ref q_p1_near, .ref q_p1_behind, .ref q_p1_ahead])), (q_p1_near, .inl (cI, 11, .inl x_p1_near))]) (k_runSN (rest := []) (host := "NarrowRows") hx hb hml hown htb hK hN (c_X10_holds l dC dI cI cZ cN s9 t20 v29 hv _) sf_X10_holds nm_12 hP hD [] rfl rfl ⟨(Nat.le_of_ble_eq_true rfl), (Nat.le_of_ble_eq_true rfl)⟩ rfl hl.1 rfl (Nat.le_of_ble_eq_true rfl) dX1_run_101 ⟨Nat.zero_le _, Nat.zero_le _⟩) hA hP hD hS [] [0, 1, 2, 3, 4] [0, 1, 2, 3, 4] rfl rfl rfl rfl ?_
              clear hP hD hS
              intro H locs hP hD hS
              refine lv_iload_n hx hb dX1_run_104 rfl (lv_at hl 4 rfl) ?_
              refine lv_icmp_eq (tgt := 121) hx hb dX1_run_105 (by decide) (fun c30 => ?_) (fun c30 => ?_)
              · have hf := ip c30 hf
                refine lv_iload_n hx hb dX1_run_121 rfl (lv_at hl 4 rfl) ?_
                refine lv_if_eq (tgt := 135) hx hb dX1_run_122 (by decide) (fun c31 => ?_) (fun c31 => ?_)
                · have hf := ip c31 hf
                  refine lv_aload_n hx hb dX1_run_135 rfl (lv_at hl 1 rfl) ?_
                  refine lv_iload hx hb dX1_run_136 (lv_at hl 0 rfl) ?_
                  obtain ⟨o32, o33, o34, hv, hf⟩ := ob3 hf
                  refine k_afterV (wr := [(q_moves, .inl (cI, 60, .inl x_moves)), (q_p1, .inr (8, [.int x_p1_posts, .int x_p1_roads, .int x_p1_weight, .ref q_p1_weights, .ref q_p1_near, .ref q_p1_behind, .ref q_p1_ahead])), (q_p1_near, .inl (cI, 11, .inl x_p1_near))]) (wn := [(q_, .inr (1, [.ref q_moves, .int x_size, .ref q_foul, .int o32, .int o33, .int s11, .int s12])), (q_moves, .inl (cI, 60, .inl x_moves)), (q_foul, .inl (cI, 11, .inl o34)), (q_p1, .inr (8, [.int x_p1_posts, .int x_p1_roads, .int x_p1_weight, .ref q_p1_weights, .ref q_p1_near, .ref q_p1_behind, .ref q_p1_ahead])), (q_p1_near, .inl (cI, 11, .inl x_p1_near))]) (k_runV (rest := []) (ci := 1) (q0 := 0) hx hb hml hown htb hK hN (c_X1_come l dC dI cI cZ cN q_ q_moves q_foul x_size s9 s10 s11 s12 s13 t20 o32 o33 o34 hv _) vf_X1_come t_789 hP hD [0, 2] rfl rfl rfl rfl ⟨(Nat.le_of_ble_eq_true rfl), (Nat.le_of_ble_eq_true rfl)⟩ rfl hl.1 rfl (Nat.le_of_ble_eq_true rfl) dX1_run_138 ⟨Nat.zero_le _, Nat.zero_le _⟩) hA hP hD hS [0, 2] [1, 3, 4] [3, 0, 4, 1, 2] rfl rfl rfl rfl ?_
                  clear hP hD hS
                  intro H locs hP hD hS
                  cases hf
                  exact key27 _ _ _ hP hD hS (lv_sub hl [1, 2, 3] rfl)
                · have hf := im c31 hf
                  refine lv_aload_n hx hb dX1_run_125 rfl (lv_at hl 1 rfl) ?_
                  refine lv_aload_n hx hb dX1_run_126 rfl (lv_at hl 2 rfl) ?_
                  refine lv_iload hx hb dX1_run_127 (lv_at hl 0 rfl) ?_
                  obtain ⟨o35, o36, o37, hv, hf⟩ := ob3 hf
                  refine k_afterV (wr := [(q_moves, .inl (cI, 60, .inl x_moves))]) (wn := [(q_, .inr (1, [.ref q_moves, .int x_size, .ref q_foul, .int o35, .int s10, .int o36, .int s12])), (q_moves, .inl (cI, 60, .inl x_moves)), (q_foul, .inl (cI, 11, .inl o37)), (q_p1, .inr (8, [.int x_p1_posts, .int x_p1_roads, .int x_p1_weight, .ref q_p1_weights, .ref q_p1_near, .ref q_p1_behind, .ref q_p1_ahead])), (q_p1_near, .inl (cI, 11, .inl x_p1_near))]) (k_runV (rest := []) (ci := 1) (q0 := 0) hx hb hml hown htb hK hN (c_X1_leave l dC dI cI cZ cN q_ q_moves q_foul q_p1 q_p1_weights q_p1_near q_p1_behind q_p1_ahead x_size s9 s10 s11 s12 s13 x_p1_posts x_p1_roads x_p1_weight x_p1_near t20 o35 o36 o37 hv _) vf_X1_leave t_776 hP hD [0, 2, 3, 4] rfl rfl rfl rfl ⟨(Nat.le_of_ble_eq_true rfl), (Nat.le_of_ble_eq_true rfl)⟩ rfl hl.1 rfl (Nat.le_of_ble_eq_true rfl) dX1_run_129 ⟨Nat.zero_le _, Nat.zero_le _⟩) hA hP hD hS [0, 2, 3, 4] [1] [1, 0, 2, 3, 4] rfl rfl rfl rfl ?_
                  clear hP hD hS
                  intro H locs hP hD hS
                  refine lv_goto (tgt := 141) hx hb dX1_run_132 (by decide) ?_
                  cases hf
                  exact key27 _ _ _ hP hD hS (lv_sub hl [1, 2, 3] rfl)
              · have hf := im c30 hf
                refine lv_aload_n hx hb dX1_run_108 rfl (lv_at hl 1 rfl) ?_
                refine lv_dup hx hb dX1_run_109 rfl ?_
                refine va_get (D := (dC, dI)) (ci := 1) (v := .int s12) (C := RX1) (T := TX1) (N := 7) hx hb htb inX1 hown hK hP 0 rfl rfl 6 (Nat.le_of_ble_eq_true rfl) (htb _ t_174) (fun _ h9 => h9) rfl dX1_run_110 ?_
                refine lv_iconst (v := (1 : Int32)) hx hb dX1_run_113 (by decide) ?_
                refine lv_iadd hx hb dX1_run_114 ?_
                refine k_put (wn := [(q_, .inr (1, [.ref q_moves, .int x_size, .ref q_foul, .int s9, .int s10, .int s11, .int (s12 + (1 : Int32))])), (q_moves, .inl (cI, 60, .inl x_moves)), (q_foul, .inl (cI, 11, .inl s13)), (q_p1, .inr (8, [.int x_p1_posts, .int x_p1_roads, .int x_p1_weight, .ref q_p1_weights, .ref q_p1_near, .ref q_p1_behind, .ref q_p1_ahead])), (q_p1_near, .inl (cI, 11, .inl x_p1_near))]) (C := RX1) (T := TX1) (N := 7) (ci := 1) hx hb htb inX1 tyX1 tyX1_ok nmX1 hown hK hP hD hS 0 rfl rfl 6 (Nat.le_of_ble_eq_true rfl) t_174 (fun _ h9 => h9) rfl (tyX1_ok 6 (Nat.le_of_ble_eq_true rfl)) (Nat.le_of_ble_eq_true rfl) rfl dX1_run_115 ?_
                clear hP hD hS
                intro H locs hP hD hS
                refine lv_goto (tgt := 141) hx hb dX1_run_118 (by decide) ?_
                cases hf
                exact key27 _ _ _ hP hD hS (lv_sub hl [1, 2, 3] rfl)
          replace hf := hv
          refine lv_if_eq (tgt := 78) hx hb dX1_run_63 (by decide) (fun c38 => ?_) (fun c38 => ?_)
          · have hf := ip c38 hf
            refine lv_aload_n hx hb dX1_run_78 rfl (lv_at hl 1 rfl) ?_
            refine va_get (D := (dC, dI)) (ci := 1) (v := .ref q_moves) (C := RX1) (T := TX1) (N := 7) hx hb htb inX1 hown hK hP 0 rfl rfl 0 (Nat.le_of_ble_eq_true rfl) (htb _ t_165) (fun _ h9 => h9) rfl dX1_run_79 ?_
            refine lv_iload_n hx hb dX1_run_82 rfl (lv_at hl 3 rfl) ?_
            obtain ⟨v39, hv, hf⟩ := ob hf
            refine k_iald hx hb hK hP 1 0 rfl rfl hv dX1_run_83 ?_
            cases hf
            exact key21 _ _ _ hP hD hS (lv_sub hl [1, 2, 3, 0] rfl)
          · have hf := im c38 hf
            refine lv_aload_n hx hb dX1_run_66 rfl (lv_at hl 1 rfl) ?_
            refine va_get (D := (dC, dI)) (ci := 1) (v := .ref q_moves) (C := RX1) (T := TX1) (N := 7) hx hb htb inX1 hown hK hP 0 rfl rfl 0 (Nat.le_of_ble_eq_true rfl) (htb _ t_165) (fun _ h9 => h9) rfl dX1_run_67 ?_
            refine lv_iload_n hx hb dX1_run_70 rfl (lv_at hl 3 rfl) ?_
            obtain ⟨v40, hv, hf⟩ := ob hf
            refine k_iald hx hb hK hP 1 0 rfl rfl hv dX1_run_71 ?_
            refine lv_bipush (v := (100 : Int32)) hx hb dX1_run_72 (by decide) ?_
            refine lv_isub hx hb dX1_run_74 ?_
            refine lv_goto (tgt := 84) hx hb dX1_run_75 (by decide) ?_
            cases hf
            exact key21 _ _ _ hP hD hS (lv_sub hl [1, 2, 3, 0] rfl)
        replace hf := hv
        refine lv_icmp_lt (tgt := 60) hx hb dX1_run_53 (by decide) (fun c41 => ?_) (fun c41 => ?_)
        · have hf := ip c41 hf
          refine lv_iconst (v := (0 : Int32)) hx hb dX1_run_60 (by decide) ?_
          cases hf
          exact key19 _ _ _ hP hD hS (lv_sub hl [0, 1, 2] rfl)
        · have hf := im c41 hf
          refine lv_iconst (v := (1 : Int32)) hx hb dX1_run_56 (by decide) ?_
          refine lv_goto (tgt := 61) hx hb dX1_run_57 (by decide) ?_
          cases hf
          exact key19 _ _ _ hP hD hS (lv_sub hl [0, 1, 2] rfl)
  exact kl14 n0 _ _ _ _ _ _ hn0 _ _ _ hP hD hS (lv_sub hl [1, 2, 0] rfl)
theorem vf_X1_foulRoads : VF yX1_foulRoads cX1_foulRoads 3 (some .int) 0 := ⟨t_795, t_796, t_8, t_797, by decide +kernel, by decide +kernel, by decide +kernel⟩
theorem dX1_foulRoads_0 : decode cX1_foulRoads 0 = .ok (.iconst 0, 1) := by decide +kernel
theorem dX1_foulRoads_1 : decode cX1_foulRoads 1 = .ok (.istore_n 1, 1) := by decide +kernel
theorem dX1_foulRoads_2 : decode cX1_foulRoads 2 = .ok (.iconst 0, 1) := by decide +kernel
theorem dX1_foulRoads_3 : decode cX1_foulRoads 3 = .ok (.istore_n 2, 1) := by decide +kernel
theorem dX1_foulRoads_4 : decode cX1_foulRoads 4 = .ok (.iload_n 2, 1) := by decide +kernel
theorem dX1_foulRoads_5 : decode cX1_foulRoads 5 = .ok (.bipush 11, 2) := by decide +kernel
theorem dX1_foulRoads_7 : decode cX1_foulRoads 7 = .ok (.if_icmp .ge 21, 3) := by decide +kernel
theorem dX1_foulRoads_10 : decode cX1_foulRoads 10 = .ok (.iload_n 1, 1) := by decide +kernel
theorem dX1_foulRoads_11 : decode cX1_foulRoads 11 = .ok (.aload_n 0, 1) := by decide +kernel
theorem dX1_foulRoads_12 : decode cX1_foulRoads 12 = .ok (.getfield 15, 3) := by decide +kernel
theorem dX1_foulRoads_15 : decode cX1_foulRoads 15 = .ok (.iload_n 2, 1) := by decide +kernel
theorem dX1_foulRoads_16 : decode cX1_foulRoads 16 = .ok (.iaload, 1) := by decide +kernel
theorem dX1_foulRoads_17 : decode cX1_foulRoads 17 = .ok (.invokestatic 63, 3) := by decide +kernel
theorem dX1_foulRoads_20 : decode cX1_foulRoads 20 = .ok (.iadd, 1) := by decide +kernel
theorem dX1_foulRoads_21 : decode cX1_foulRoads 21 = .ok (.istore_n 1, 1) := by decide +kernel
theorem dX1_foulRoads_22 : decode cX1_foulRoads 22 = .ok (.iinc 2 1, 3) := by decide +kernel
theorem dX1_foulRoads_25 : decode cX1_foulRoads 25 = .ok (.goto (-21), 3) := by decide +kernel
theorem dX1_foulRoads_28 : decode cX1_foulRoads 28 = .ok (.iload_n 1, 1) := by decide +kernel
theorem dX1_foulRoads_29 : decode cX1_foulRoads 29 = .ok (.iconst 2, 1) := by decide +kernel
theorem dX1_foulRoads_30 : decode cX1_foulRoads 30 = .ok (.idiv, 1) := by decide +kernel
theorem dX1_foulRoads_31 : decode cX1_foulRoads 31 = .ok (.ireturn, 1) := by decide +kernel
noncomputable def f_X1_foulRoads_L4 (x_foul : Nat → Int32) (i1 : Int32) (i2 : Int32) : Option ((Int32 × Int32) ⊕ (Int32)) :=
  if (11 : Int32) ≤ i2 then (some (.inr i1)) else ((gi x_foul 11 i2).bind fun v2 =>
  (f_J6_bitCount_0f7a4 v2).bind fun v3 =>
  some (.inl ((i1 + v3), (i2 + (1 : Int32)))))
noncomputable def f_X1_foulRoads (x_foul : Nat → Int32) : Option (Int32) :=
  (loopS (fun (s : Int32 × Int32) => f_X1_foulRoads_L4 x_foul s.1 s.2) ((0 : Int32), (0 : Int32))).bind fun x1 =>
  some ((x1 / (2 : Int32)))
set_option maxHeartbeats 4000000 in
set_option maxRecDepth 100000 in
theorem c_X1_foulRoads (l : Launch) (dC : Nat → ClassId) (dI : Nat → Nat → Nat) (cI cZ cN : ClassId) (q_ : Nat) (q_moves : Nat) (q_foul : Nat) (x_size : Int32) (x_guarded : Int32) (x_most : Int32) (x_again : Int32) (x_idle : Int32) (x_foul : Nat → Int32) (r : Int32) (hf : f_X1_foulRoads x_foul = some r) : CI l yX1_foulRoads cX1_foulRoads 3 (some .int) 3 80 (dC, dI) (TY cI cZ cN) [.ref q_] [(q_, .inr (1, [.ref q_moves, .int x_size, .ref q_foul, .int x_guarded, .int x_most, .int x_again, .int x_idle])), (q_foul, .inl (cI, 11, .inl x_foul))] [(q_, .inr (1, [.ref q_moves, .int x_size, .ref q_foul, .int x_guarded, .int x_most, .int x_again, .int x_idle])), (q_foul, .inl (cI, 11, .inl x_foul))] r := by
  refine CI.of rfl (by decide) (Nat.le_of_ble_eq_true rfl) ?_
  intro p e s m args below meth c Q A ls hx hb hml hown htb hK hN hA hP hD hS hl hret
  have hown : s.vm.findClass RX1 = some m.cls := hown
  have hl : lv_has ls 3 [(0, .ref q_)] := hl
  have hret : ∀ (r9 : Int32), some r9 = some r → ∀ (H : Heap) (locs : List Loc) (pc : Nat) (ls : Array Slot), narrow .int (.int r9) = .int r9 → decode cX1_foulRoads pc = .ok (.ireturn, 1) → va_P (dC, dI) vwCl [(q_, .inr (1, [.ref q_moves, .int x_size, .ref q_foul, .int x_guarded, .int x_most, .int x_again, .int x_idle])), (q_foul, .inl (cI, 11, .inl x_foul))] H → va_D A [(q_, .inr (1, [.ref q_moves, .int x_size, .ref q_foul, .int x_guarded, .int x_most, .int x_again, .int x_idle])), (q_foul, .inl (cI, 11, .inl x_foul))] → va_S A s.heap H locs → W p l e (rmK 3 80) s m args below meth c H locs 0 0 Q (F0 m pc ls [.int r9]) := by
    intro r9 h9
    cases h9
    exact hret
  unfold f_X1_foulRoads at hf
  refine lv_iconst (v := (0 : Int32)) hx hb dX1_foulRoads_0 (by decide) ?_
  refine lv_istore_n (lv' := [(1, .int (0 : Int32)), (0, .ref q_)]) hx hb dX1_foulRoads_1 rfl hl (by decide) rfl (fun ls hl => ?_)
  refine lv_iconst (v := (0 : Int32)) hx hb dX1_foulRoads_2 (by decide) ?_
  refine lv_istore_n (lv' := [(2, .int (0 : Int32)), (1, .int (0 : Int32)), (0, .ref q_)]) hx hb dX1_foulRoads_3 rfl hl (by decide) rfl (fun ls hl => ?_)
  obtain ⟨x1, hL, hf⟩ := ob hf
  have kx2 : ∀ (H : Heap) (locs : List Loc) (ls : Array Slot), va_P (dC, dI) vwCl [(q_, .inr (1, [.ref q_moves, .int x_size, .ref q_foul, .int x_guarded, .int x_most, .int x_again, .int x_idle])), (q_foul, .inl (cI, 11, .inl x_foul))] H → va_D A [(q_, .inr (1, [.ref q_moves, .int x_size, .ref q_foul, .int x_guarded, .int x_most, .int x_again, .int x_idle])), (q_foul, .inl (cI, 11, .inl x_foul))] → va_S A s.heap H locs → lv_has ls 3 [(1, .int x1)] → W p l e (rmK 3 80) s m args below meth c H locs 0 0 Q (F0 m 28 ls []) := by
    intro H locs ls hP hD hS hl
    refine lv_iload_n hx hb dX1_foulRoads_28 rfl (lv_at hl 0 rfl) ?_
    refine lv_iconst (v := (2 : Int32)) hx hb dX1_foulRoads_29 (by decide) ?_
    refine lv_idiv hx hb dX1_foulRoads_30 (by decide) ?_
    exact hret _ hf _ _ _ _ rfl dX1_foulRoads_31 hP hD hS
  obtain ⟨n0, hn0⟩ := loopS_iter hL
  clear hf
  have kl5 : ∀ (n : Nat) (s3 : Int32) (s4 : Int32), iterS (fun (s : Int32 × Int32) => f_X1_foulRoads_L4 x_foul s.1 s.2) n (s3, s4) = some x1 → ∀ (H : Heap) (locs : List Loc) (ls : Array Slot), va_P (dC, dI) vwCl [(q_, .inr (1, [.ref q_moves, .int x_size, .ref q_foul, .int x_guarded, .int x_most, .int x_again, .int x_idle])), (q_foul, .inl (cI, 11, .inl x_foul))] H → va_D A [(q_, .inr (1, [.ref q_moves, .int x_size, .ref q_foul, .int x_guarded, .int x_most, .int x_again, .int x_idle])), (q_foul, .inl (cI, 11, .inl x_foul))] → va_S A s.heap H locs → lv_has ls 3 [(0, .ref q_), (1, .int s3), (2, .int s4)] → W p l e (rmK 3 80) s m args below meth c H locs 0 0 Q (F0 m 4 ls []) := by
    intro n
    induction n with
    | zero =>
      intro s3 s4 hn1
      cases hn1
    | succ n ih1 =>
      intro s3 s4 hn1 H locs ls hP hD hS hl
      obtain ⟨r6, hf, hn1⟩ := it1 hn1
      replace hf : f_X1_foulRoads_L4 x_foul s3 s4 = some r6 := hf
      unfold f_X1_foulRoads_L4 at hf
      refine lv_iload_n hx hb dX1_foulRoads_4 rfl (lv_at hl 2 rfl) ?_
      refine lv_bipush (v := (11 : Int32)) hx hb dX1_foulRoads_5 (by decide) ?_
      refine lv_icmp_ge (tgt := 28) hx hb dX1_foulRoads_7 (by decide) (fun c7 => ?_) (fun c7 => ?_)
      · have hf := ip c7 hf
        cases hf
        cases (itr hn1)
        exact kx2 _ _ _ hP hD hS (lv_sub hl [1] rfl)
      · have hf := im c7 hf
        refine lv_iload_n hx hb dX1_foulRoads_10 rfl (lv_at hl 1 rfl) ?_
        refine lv_aload_n hx hb dX1_foulRoads_11 rfl (lv_at hl 0 rfl) ?_
        refine va_get (D := (dC, dI)) (ci := 1) (v := .ref q_foul) (C := RX1) (T := TX1) (N := 7) hx hb htb inX1 hown hK hP 0 rfl rfl 2 (Nat.le_of_ble_eq_true rfl) (htb _ t_168) (fun _ h9 => h9) rfl dX1_foulRoads_12 ?_
        refine lv_iload_n hx hb dX1_foulRoads_15 rfl (lv_at hl 2 rfl) ?_
        obtain ⟨v8, hv, hf⟩ := ob hf
        refine k_iald hx hb hK hP 1 0 rfl rfl hv dX1_foulRoads_16 ?_
        obtain ⟨v9, hv, hf⟩ := ob hf
        refine k_afterI (wr := [(q_, .inr (1, [.ref q_moves, .int x_size, .ref q_foul, .int x_guarded, .int x_most, .int x_again, .int x_idle])), (q_foul, .inl (cI, 11, .inl x_foul))]) (wn := [(q_, .inr (1, [.ref q_moves, .int x_size, .ref q_foul, .int x_guarded, .int x_most, .int x_again, .int x_idle])), (q_foul, .inl (cI, 11, .inl x_foul))]) (k_runS (rest := [.int s3]) hx hb hml hown htb hK hN (c_J6_bitCount_0f7a4 l dC dI cI cZ cN v8 v9 hv _) sf_J6_bitCount_0f7a4 t_788 hP hD [] rfl rfl ⟨(Nat.le_of_ble_eq_true rfl), (Nat.le_of_ble_eq_true rfl)⟩ rfl hl.1 rfl (Nat.le_of_ble_eq_true rfl) dX1_foulRoads_17 ⟨Nat.zero_le _, Nat.zero_le _⟩) hA hP hD hS [] [0, 1] [0, 1] rfl rfl rfl rfl ?_
        clear hP hD hS
        intro H locs hP hD hS
        refine lv_iadd hx hb dX1_foulRoads_20 ?_
        refine lv_istore_n (lv' := [(1, .int (s3 + v9)), (0, .ref q_), (2, .int s4)]) hx hb dX1_foulRoads_21 rfl hl (by decide) rfl (fun ls hl => ?_)
        refine lv_iinc (v := (s4 + (1 : Int32))) (lv' := [(2, .int (s4 + (1 : Int32))), (1, .int (s3 + v9)), (0, .ref q_)]) hx hb dX1_foulRoads_22 hl (k := 2) rfl rfl (by decide) rfl (fun ls hl => ?_)
        refine lv_goto (tgt := 4) hx hb dX1_foulRoads_25 (by decide) ?_
        cases hf
        exact ih1 _ _ (itl hn1) _ _ _ hP hD hS (lv_sub hl [2, 1, 0] rfl)
  exact kl5 n0 _ _ hn0 _ _ _ hP hD hS (lv_sub hl [2, 1, 0] rfl)
