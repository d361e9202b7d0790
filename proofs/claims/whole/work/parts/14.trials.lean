theorem vf_X8_forget : VF yX8_forget cX8_forget 1 none 0 := ⟨t_346, t_347, t_12, t_348, by decide +kernel, by decide +kernel, by decide +kernel⟩
theorem dX8_forget_0 : decode cX8_forget 0 = .ok (.aload_n 0, 1) := by decide +kernel
theorem dX8_forget_1 : decode cX8_forget 1 = .ok (.iconst (-1), 1) := by decide +kernel
theorem dX8_forget_2 : decode cX8_forget 2 = .ok (.putfield 24, 3) := by decide +kernel
theorem dX8_forget_5 : decode cX8_forget 5 = .ok (.return_, 1) := by decide +kernel
noncomputable def f_X8_forget (x_solvedFor : Int32) : Option (Int32) :=
  some ((-1 : Int32))
set_option maxHeartbeats 4000000 in
set_option maxRecDepth 100000 in
theorem c_X8_forget (l : Launch) (dC : Nat → ClassId) (dI : Nat → Nat → Nat) (cI cZ cN : ClassId) (q_ : Nat) (q_view : Nat) (q_costs : Nat) (q_found : Nat) (q_row : Nat) (x_solvedFor : Int32) (x_lowest : Int32) (x_total : Int32) (o_solvedFor : Int32) (hf : f_X8_forget x_solvedFor = some o_solvedFor) : CV l yX8_forget cX8_forget 1 none 2 60 (dC, dI) (TY cI cZ cN) [.ref q_] [(q_, .inr (7, [.ref q_view, .ref q_costs, .int x_solvedFor, .int x_lowest, .int x_total, .ref q_found, .ref q_row]))] [(q_, .inr (7, [.ref q_view, .ref q_costs, .int o_solvedFor, .int x_lowest, .int x_total, .ref q_found, .ref q_row]))] := by
  refine CV.of (by decide) (Nat.le_of_ble_eq_true rfl) ?_
  intro p e s m args below meth c Q A ls hx hb hml hown htb hK hN hA hP hD hS hl hret
  have hown : s.vm.findClass RX8 = some m.cls := hown
  have hl : lv_has ls 1 [(0, .ref q_)] := hl
  have hret : ∀ (o9_solvedFor : Int32), some o9_solvedFor = some o_solvedFor → ∀ (H : Heap) (locs : List Loc) (pc : Nat) (ls : Array Slot), decode cX8_forget pc = .ok (.return_, 1) → va_P (dC, dI) vwCl [(q_, .inr (7, [.ref q_view, .ref q_costs, .int o9_solvedFor, .int x_lowest, .int x_total, .ref q_found, .ref q_row]))] H → va_D A [(q_, .inr (7, [.ref q_view, .ref q_costs, .int o9_solvedFor, .int x_lowest, .int x_total, .ref q_found, .ref q_row]))] → va_S A s.heap H locs → W p l e (rmK 2 60) s m args below meth c H locs 0 0 Q (F0 m pc ls []) := by
    intro o9_solvedFor h9
    cases h9
    exact hret
  unfold f_X8_forget at hf
  refine lv_aload_n hx hb dX8_forget_0 rfl (lv_at hl 0 rfl) ?_
  refine lv_iconst (v := (-1 : Int32)) hx hb dX8_forget_1 (by decide) ?_
  refine k_put (wn := [(q_, .inr (7, [.ref q_view, .ref q_costs, .int (-1 : Int32), .int x_lowest, .int x_total, .ref q_found, .ref q_row]))]) (C := RX8) (T := TX8) (N := 7) (ci := 7) hx hb htb inX8 tyX8 tyX8_ok nmX8 hown hK hP hD hS 0 rfl rfl 2 (Nat.le_of_ble_eq_true rfl) t_225 (u_same (htb _ t_226)) rfl (tyX8_ok 2 (Nat.le_of_ble_eq_true rfl)) (Nat.le_of_ble_eq_true rfl) rfl dX8_forget_2 ?_
  clear hP hD hS
  intro H locs hP hD hS
  exact hret _ hf _ _ _ _ dX8_forget_5 hP hD hS
theorem sf_X8_code : SF yX8_code cX8_code 3 (some .int) 1 := ⟨t_590, t_12, t_591, by decide +kernel, by decide +kernel, by decide +kernel⟩
theorem dX8_code_0 : decode cX8_code 0 = .ok (.iconst 0, 1) := by decide +kernel
theorem dX8_code_1 : decode cX8_code 1 = .ok (.istore_n 1, 1) := by decide +kernel
theorem dX8_code_2 : decode cX8_code 2 = .ok (.iconst 0, 1) := by decide +kernel
theorem dX8_code_3 : decode cX8_code 3 = .ok (.istore_n 2, 1) := by decide +kernel
theorem dX8_code_4 : decode cX8_code 4 = .ok (.iload_n 2, 1) := by decide +kernel
theorem dX8_code_5 : decode cX8_code 5 = .ok (.aload_n 0, 1) := by decide +kernel
theorem dX8_code_6 : decode cX8_code 6 = .ok (.getfield 42, 3) := by decide +kernel
theorem dX8_code_9 : decode cX8_code 9 = .ok (.if_icmp .ge 20, 3) := by decide +kernel
theorem dX8_code_12 : decode cX8_code 12 = .ok (.iload_n 1, 1) := by decide +kernel
theorem dX8_code_13 : decode cX8_code 13 = .ok (.iconst 3, 1) := by decide +kernel
theorem dX8_code_14 : decode cX8_code 14 = .ok (.ishl, 1) := by decide +kernel
theorem dX8_code_15 : decode cX8_code 15 = .ok (.aload_n 0, 1) := by decide +kernel
theorem dX8_code_16 : decode cX8_code 16 = .ok (.getfield 85, 3) := by decide +kernel
theorem dX8_code_19 : decode cX8_code 19 = .ok (.iload_n 2, 1) := by decide +kernel
theorem dX8_code_20 : decode cX8_code 20 = .ok (.iaload, 1) := by decide +kernel
theorem dX8_code_21 : decode cX8_code 21 = .ok (.ior, 1) := by decide +kernel
theorem dX8_code_22 : decode cX8_code 22 = .ok (.istore_n 1, 1) := by decide +kernel
theorem dX8_code_23 : decode cX8_code 23 = .ok (.iinc 2 1, 3) := by decide +kernel
theorem dX8_code_26 : decode cX8_code 26 = .ok (.goto (-22), 3) := by decide +kernel
theorem dX8_code_29 : decode cX8_code 29 = .ok (.iload_n 1, 1) := by decide +kernel
theorem dX8_code_30 : decode cX8_code 30 = .ok (.ireturn, 1) := by decide +kernel
noncomputable def f_X8_code_L4 (x_p0_size : Int32) (x_p0_posts : Nat → Int32) (i1 : Int32) (i2 : Int32) : Option ((Int32 × Int32) ⊕ (Int32)) :=
  if x_p0_size ≤ i2 then (some (.inr i1)) else ((gi x_p0_posts 11 i2).bind fun v2 =>
  some (.inl (((i1 <<< ((3 : Int32) &&& 31)) ||| v2), (i2 + (1 : Int32)))))
noncomputable def f_X8_code (x_p0_size : Int32) (x_p0_posts : Nat → Int32) : Option (Int32) :=
  (loopS (fun (s : Int32 × Int32) => f_X8_code_L4 x_p0_size x_p0_posts s.1 s.2) ((0 : Int32), (0 : Int32))).bind fun x1 =>
  some (x1)
set_option maxHeartbeats 4000000 in
set_option maxRecDepth 100000 in
theorem c_X8_code (l : Launch) (dC : Nat → ClassId) (dI : Nat → Nat → Nat) (cI cZ cN : ClassId) (q_p0 : Nat) (q_p0_posts : Nat) (x_p0_size : Int32) (x_p0_posts : Nat → Int32) (r : Int32) (hf : f_X8_code x_p0_size x_p0_posts = some r) : CI l yX8_code cX8_code 3 (some .int) 2 60 (dC, dI) (TY cI cZ cN) [.ref q_p0] [(q_p0, .inr (5, [.ref q_p0_posts, .int x_p0_size])), (q_p0_posts, .inl (cI, 11, .inl x_p0_posts))] [(q_p0, .inr (5, [.ref q_p0_posts, .int x_p0_size])), (q_p0_posts, .inl (cI, 11, .inl x_p0_posts))] r := by
  refine CI.of rfl (by decide) (Nat.le_of_ble_eq_true rfl) ?_
  intro p e s m args below meth c Q A ls hx hb hml hown htb hK hN hA hP hD hS hl hret
  have hown : s.vm.findClass RX8 = some m.cls := hown
  have hl : lv_has ls 3 [(0, .ref q_p0)] := hl
  have hret : ∀ (r9 : Int32), some r9 = some r → ∀ (H : Heap) (locs : List Loc) (pc : Nat) (ls : Array Slot), narrow .int (.int r9) = .int r9 → decode cX8_code pc = .ok (.ireturn, 1) → va_P (dC, dI) vwCl [(q_p0, .inr (5, [.ref q_p0_posts, .int x_p0_size])), (q_p0_posts, .inl (cI, 11, .inl x_p0_posts))] H → va_D A [(q_p0, .inr (5, [.ref q_p0_posts, .int x_p0_size])), (q_p0_posts, .inl (cI, 11, .inl x_p0_posts))] → va_S A s.heap H locs → W p l e (rmK 2 60) s m args below meth c H locs 0 0 Q (F0 m pc ls [.int r9]) := by
    intro r9 h9
    cases h9
    exact hret
  unfold f_X8_code at hf
  refine lv_iconst (v := (0 : Int32)) hx hb dX8_code_0 (by decide) ?_
  refine lv_istore_n (lv' := [(1, .int (0 : Int32)), (0, .ref q_p0)]) hx hb dX8_code_1 rfl hl (by decide) rfl (fun ls hl => ?_)
  refine lv_iconst (v := (0 : Int32)) hx hb dX8_code_2 (by decide) ?_
  refine lv_istore_n (lv' := [(2, .int (0 : Int32)), (1, .int (0 : Int32)), (0, .ref q_p0)]) hx hb dX8_code_3 rfl hl (by decide) rfl (fun ls hl => ?_)
  obtain ⟨x1, hL, hf⟩ := ob hf
  have kx2 : ∀ (H : Heap) (locs : List Loc) (ls : Array Slot), va_P (dC, dI) vwCl [(q_p0, .inr (5, [.ref q_p0_posts, .int x_p0_size])), (q_p0_posts, .inl (cI, 11, .inl x_p0_posts))] H → va_D A [(q_p0, .inr (5, [.ref q_p0_posts, .int x_p0_size])), (q_p0_posts, .inl (cI, 11, .inl x_p0_posts))] → va_S A s.heap H locs → lv_has ls 3 [(1, .int x1)] → W p l e (rmK 2 60) s m args below meth c H locs 0 0 Q (F0 m 29 ls []) := by
    intro H locs ls hP hD hS hl
    refine lv_iload_n hx hb dX8_code_29 rfl (lv_at hl 0 rfl) ?_
    exact hret _ hf _ _ _ _ rfl dX8_code_30 hP hD hS
  obtain ⟨n0, hn0⟩ := loopS_iter hL
  clear hf
  have kl5 : ∀ (n : Nat) (s3 : Int32) (s4 : Int32), iterS (fun (s : Int32 × Int32) => f_X8_code_L4 x_p0_size x_p0_posts s.1 s.2) n (s3, s4) = some x1 → ∀ (H : Heap) (locs : List Loc) (ls : Array Slot), va_P (dC, dI) vwCl [(q_p0, .inr (5, [.ref q_p0_posts, .int x_p0_size])), (q_p0_posts, .inl (cI, 11, .inl x_p0_posts))] H → va_D A [(q_p0, .inr (5, [.ref q_p0_posts, .int x_p0_size])), (q_p0_posts, .inl (cI, 11, .inl x_p0_posts))] → va_S A s.heap H locs → lv_has ls 3 [(0, .ref q_p0), (1, .int s3), (2, .int s4)] → W p l e (rmK 2 60) s m args below meth c H locs 0 0 Q (F0 m 4 ls []) := by
    intro n
    induction n with
    | zero =>
      intro s3 s4 hn1
      cases hn1
    | succ n ih1 =>
      intro s3 s4 hn1 H locs ls hP hD hS hl
      obtain ⟨r6, hf, hn1⟩ := it1 hn1
      replace hf : f_X8_code_L4 x_p0_size x_p0_posts s3 s4 = some r6 := hf
      unfold f_X8_code_L4 at hf
      refine lv_iload_n hx hb dX8_code_4 rfl (lv_at hl 2 rfl) ?_
      refine lv_aload_n hx hb dX8_code_5 rfl (lv_at hl 0 rfl) ?_
      refine va_get (D := (dC, dI)) (ci := 5) (v := .int x_p0_size) (C := RX5) (T := TX5) (N := 2) hx hb htb inX5 hown hK hP 0 rfl rfl 1 (Nat.le_of_ble_eq_true rfl) (htb _ t_136) (fun _ h9 => h9) rfl dX8_code_6 ?_
      refine lv_icmp_ge (tgt := 29) hx hb dX8_code_9 (by decide) (fun c7 => ?_) (fun c7 => ?_)
      · have hf := ip c7 hf
        cases hf
        cases (itr hn1)
        exact kx2 _ _ _ hP hD hS (lv_sub hl [1] rfl)
      · have hf := im c7 hf
        refine lv_iload_n hx hb dX8_code_12 rfl (lv_at hl 1 rfl) ?_
        refine lv_iconst (v := (3 : Int32)) hx hb dX8_code_13 (by decide) ?_
        refine lv_ishl hx hb dX8_code_14 ?_
        refine lv_aload_n hx hb dX8_code_15 rfl (lv_at hl 0 rfl) ?_
        refine va_get (D := (dC, dI)) (ci := 5) (v := .ref q_p0_posts) (C := RX5) (T := TX5) (N := 2) hx hb htb inX5 hown hK hP 0 rfl rfl 0 (Nat.le_of_ble_eq_true rfl) (htb _ t_130) (fun _ h9 => h9) rfl dX8_code_16 ?_
        refine lv_iload_n hx hb dX8_code_19 rfl (lv_at hl 2 rfl) ?_
        obtain ⟨v8, hv, hf⟩ := ob hf
        refine k_iald hx hb hK hP 1 0 rfl rfl hv dX8_code_20 ?_
        refine lv_ior hx hb dX8_code_21 ?_
        refine lv_istore_n (lv' := [(1, .int ((s3 <<< ((3 : Int32) &&& 31)) ||| v8)), (0, .ref q_p0), (2, .int s4)]) hx hb dX8_code_22 rfl hl (by decide) rfl (fun ls hl => ?_)
        refine lv_iinc (v := (s4 + (1 : Int32))) (lv' := [(2, .int (s4 + (1 : Int32))), (1, .int ((s3 <<< ((3 : Int32) &&& 31)) ||| v8)), (0, .ref q_p0)]) hx hb dX8_code_23 hl (k := 2) rfl rfl (by decide) rfl (fun ls hl => ?_)
        refine lv_goto (tgt := 4) hx hb dX8_code_26 (by decide) ?_
        cases hf
        exact ih1 _ _ (itl hn1) _ _ _ hP hD hS (lv_sub hl [2, 1, 0] rfl)
  exact kl5 n0 _ _ hn0 _ _ _ hP hD hS (lv_sub hl [2, 1, 0] rfl)
theorem vf_X8_meet : VF yX8_meet cX8_meet 2 none 1 := ⟨t_587, tp_11, t_12, t_588, by decide +kernel, by decide +kernel, by decide +kernel⟩
theorem dX8_meet_0 : decode cX8_meet 0 = .ok (.iload_n 1, 1) := by decide +kernel
theorem dX8_meet_1 : decode cX8_meet 1 = .ok (.aload_n 0, 1) := by decide +kernel
theorem dX8_meet_2 : decode cX8_meet 2 = .ok (.getfield 29, 3) := by decide +kernel
theorem dX8_meet_5 : decode cX8_meet 5 = .ok (.if_icmp .ge 13, 3) := by decide +kernel
theorem dX8_meet_8 : decode cX8_meet 8 = .ok (.aload_n 0, 1) := by decide +kernel
theorem dX8_meet_9 : decode cX8_meet 9 = .ok (.iload_n 1, 1) := by decide +kernel
theorem dX8_meet_10 : decode cX8_meet 10 = .ok (.putfield 29, 3) := by decide +kernel
theorem dX8_meet_13 : decode cX8_meet 13 = .ok (.aload_n 0, 1) := by decide +kernel
theorem dX8_meet_14 : decode cX8_meet 14 = .ok (.iconst 0, 1) := by decide +kernel
theorem dX8_meet_15 : decode cX8_meet 15 = .ok (.putfield 32, 3) := by decide +kernel
theorem dX8_meet_18 : decode cX8_meet 18 = .ok (.aload_n 0, 1) := by decide +kernel
theorem dX8_meet_19 : decode cX8_meet 19 = .ok (.getfield 32, 3) := by decide +kernel
theorem dX8_meet_22 : decode cX8_meet 22 = .ok (.sipush 5040, 3) := by decide +kernel
theorem dX8_meet_25 : decode cX8_meet 25 = .ok (.if_icmp .ge 29, 3) := by decide +kernel
theorem dX8_meet_28 : decode cX8_meet 28 = .ok (.aload_n 0, 1) := by decide +kernel
theorem dX8_meet_29 : decode cX8_meet 29 = .ok (.getfield 9, 3) := by decide +kernel
theorem dX8_meet_32 : decode cX8_meet 32 = .ok (.aload_n 0, 1) := by decide +kernel
theorem dX8_meet_33 : decode cX8_meet 33 = .ok (.getfield 32, 3) := by decide +kernel
theorem dX8_meet_36 : decode cX8_meet 36 = .ok (.aload_n 0, 1) := by decide +kernel
theorem dX8_meet_37 : decode cX8_meet 37 = .ok (.getfield 20, 3) := by decide +kernel
theorem dX8_meet_40 : decode cX8_meet 40 = .ok (.invokestatic 81, 3) := by decide +kernel
theorem dX8_meet_43 : decode cX8_meet 43 = .ok (.iastore, 1) := by decide +kernel
theorem dX8_meet_44 : decode cX8_meet 44 = .ok (.aload_n 0, 1) := by decide +kernel
theorem dX8_meet_45 : decode cX8_meet 45 = .ok (.dup, 1) := by decide +kernel
theorem dX8_meet_46 : decode cX8_meet 46 = .ok (.getfield 32, 3) := by decide +kernel
theorem dX8_meet_49 : decode cX8_meet 49 = .ok (.iconst 1, 1) := by decide +kernel
theorem dX8_meet_50 : decode cX8_meet 50 = .ok (.iadd, 1) := by decide +kernel
theorem dX8_meet_51 : decode cX8_meet 51 = .ok (.putfield 32, 3) := by decide +kernel
theorem dX8_meet_54 : decode cX8_meet 54 = .ok (.return_, 1) := by decide +kernel
noncomputable def f_X8_meet (x_lowest : Int32) (x_total : Int32) (x_found : Nat → Int32) (x_row_size : Int32) (x_row_posts : Nat → Int32) (i1 : Int32) : Option (Int32 × Int32 × (Nat → Int32)) :=
  b2 ((if x_lowest ≤ i1 then (some (x_lowest, x_total)) else (some (i1, (0 : Int32))) : Option (Int32 × Int32))) fun t1 t2 =>
  if (5040 : Int32) ≤ t2 then (some ((t1, t2, x_found))) else ((f_X8_code x_row_size x_row_posts).bind fun v5 =>
  (si x_found 5040 t2 v5).bind fun v6 =>
  some ((t1, (t2 + (1 : Int32)), v6)))
set_option maxHeartbeats 4000000 in
set_option maxRecDepth 100000 in
theorem c_X8_meet (l : Launch) (dC : Nat → ClassId) (dI : Nat → Nat → Nat) (cI cZ cN : ClassId) (q_ : Nat) (q_view : Nat) (q_costs : Nat) (q_found : Nat) (q_row : Nat) (q_row_posts : Nat) (x_solvedFor : Int32) (x_lowest : Int32) (x_total : Int32) (x_found : Nat → Int32) (x_row_size : Int32) (x_row_posts : Nat → Int32) (i1 : Int32) (o_lowest : Int32) (o_total : Int32) (o_found : Nat → Int32) (hf : f_X8_meet x_lowest x_total x_found x_row_size x_row_posts i1 = some (o_lowest, o_total, o_found)) : CV l yX8_meet cX8_meet 2 none 3 82 (dC, dI) (TY cI cZ cN) [.ref q_, .int i1] [(q_, .inr (7, [.ref q_view, .ref q_costs, .int x_solvedFor, .int x_lowest, .int x_total, .ref q_found, .ref q_row])), (q_found, .inl (cI, 5040, .inl x_found)), (q_row, .inr (5, [.ref q_row_posts, .int x_row_size])), (q_row_posts, .inl (cI, 11, .inl x_row_posts))] [(q_, .inr (7, [.ref q_view, .ref q_costs, .int x_solvedFor, .int o_lowest, .int o_total, .ref q_found, .ref q_row])), (q_found, .inl (cI, 5040, .inl o_found)), (q_row, .inr (5, [.ref q_row_posts, .int x_row_size])), (q_row_posts, .inl (cI, 11, .inl x_row_posts))] := by
  refine CV.of (by decide) (Nat.le_of_ble_eq_true rfl) ?_
  intro p e s m args below meth c Q A ls hx hb hml hown htb hK hN hA hP hD hS hl hret
  have hown : s.vm.findClass RX8 = some m.cls := hown
  have hl : lv_has ls 2 [(0, .ref q_), (1, .int i1)] := hl
  have hret : ∀ (o9_lowest : Int32) (o9_total : Int32) (o9_found : Nat → Int32), some (o9_lowest, o9_total, o9_found) = some (o_lowest, o_total, o_found) → ∀ (H : Heap) (locs : List Loc) (pc : Nat) (ls : Array Slot), decode cX8_meet pc = .ok (.return_, 1) → va_P (dC, dI) vwCl [(q_, .inr (7, [.ref q_view, .ref q_costs, .int x_solvedFor, .int o9_lowest, .int o9_total, .ref q_found, .ref q_row])), (q_found, .inl (cI, 5040, .inl o9_found)), (q_row, .inr (5, [.ref q_row_posts, .int x_row_size])), (q_row_posts, .inl (cI, 11, .inl x_row_posts))] H → va_D A [(q_, .inr (7, [.ref q_view, .ref q_costs, .int x_solvedFor, .int o9_lowest, .int o9_total, .ref q_found, .ref q_row])), (q_found, .inl (cI, 5040, .inl o9_found)), (q_row, .inr (5, [.ref q_row_posts, .int x_row_size])), (q_row_posts, .inl (cI, 11, .inl x_row_posts))] → va_S A s.heap H locs → W p l e (rmK 3 82) s m args below meth c H locs 0 0 Q (F0 m pc ls []) := by
    intro o9_lowest o9_total o9_found h9
    cases h9
    exact hret
  unfold f_X8_meet at hf
  refine lv_iload_n hx hb dX8_meet_0 rfl (lv_at hl 1 rfl) ?_
  refine lv_aload_n hx hb dX8_meet_1 rfl (lv_at hl 0 rfl) ?_
  refine va_get (D := (dC, dI)) (ci := 7) (v := .int x_lowest) (C := RX8) (T := TX8) (N := 7) hx hb htb inX8 hown hK hP 0 rfl rfl 3 (Nat.le_of_ble_eq_true rfl) (htb _ t_229) (u_same (htb _ t_230)) rfl dX8_meet_2 ?_
  obtain ⟨t1, t2, hv, hf⟩ := ob2 hf
  have key3 : ∀ (H : Heap) (locs : List Loc) (ls : Array Slot), va_P (dC, dI) vwCl [(q_, .inr (7, [.ref q_view, .ref q_costs, .int x_solvedFor, .int t1, .int t2, .ref q_found, .ref q_row])), (q_found, .inl (cI, 5040, .inl x_found)), (q_row, .inr (5, [.ref q_row_posts, .int x_row_size])), (q_row_posts, .inl (cI, 11, .inl x_row_posts))] H → va_D A [(q_, .inr (7, [.ref q_view, .ref q_costs, .int x_solvedFor, .int t1, .int t2, .ref q_found, .ref q_row])), (q_found, .inl (cI, 5040, .inl x_found)), (q_row, .inr (5, [.ref q_row_posts, .int x_row_size])), (q_row_posts, .inl (cI, 11, .inl x_row_posts))] → va_S A s.heap H locs → lv_has ls 2 [(0, .ref q_)] → W p l e (rmK 3 82) s m args below meth c H locs 0 0 Q (F0 m 18 ls []) := by
    intro H locs ls hP hD hS hl
    refine lv_aload_n hx hb dX8_meet_18 rfl (lv_at hl 0 rfl) ?_
    refine va_get (D := (dC, dI)) (ci := 7) (v := .int t2) (C := RX8) (T := TX8) (N := 7) hx hb htb inX8 hown hK hP 0 rfl rfl 4 (Nat.le_of_ble_eq_true rfl) (htb _ t_234) (u_same (htb _ t_235)) rfl dX8_meet_19 ?_
    refine lv_sipush (v := (5040 : Int32)) hx hb dX8_meet_22 (by decide) ?_
    refine lv_icmp_ge (tgt := 54) hx hb dX8_meet_25 (by decide) (fun c4 => ?_) (fun c4 => ?_)
    · have hf := ip c4 hf
      exact hret _ _ _ hf _ _ _ _ dX8_meet_54 hP hD hS
    · have hf := im c4 hf
      refine lv_aload_n hx hb dX8_meet_28 rfl (lv_at hl 0 rfl) ?_
      refine va_get (D := (dC, dI)) (ci := 7) (v := .ref q_found) (C := RX8) (T := TX8) (N := 7) hx hb htb inX8 hown hK hP 0 rfl rfl 5 (Nat.le_of_ble_eq_true rfl) (htb _ t_266) (fun _ h9 => h9) rfl dX8_meet_29 ?_
      refine lv_aload_n hx hb dX8_meet_32 rfl (lv_at hl 0 rfl) ?_
      refine va_get (D := (dC, dI)) (ci := 7) (v := .int t2) (C := RX8) (T := TX8) (N := 7) hx hb htb inX8 hown hK hP 0 rfl rfl 4 (Nat.le_of_ble_eq_true rfl) (htb _ t_234) (u_same (htb _ t_235)) rfl dX8_meet_33 ?_
      refine lv_aload_n hx hb dX8_meet_36 rfl (lv_at hl 0 rfl) ?_
      refine va_get (D := (dC, dI)) (ci := 7) (v := .ref q_row) (C := RX8) (T := TX8) (N := 7) hx hb htb inX8 hown hK hP 0 rfl rfl 6 (Nat.le_of_ble_eq_true rfl) (htb _ t_267) (fun _ h9 => h9) rfl dX8_meet_37 ?_
      obtain ⟨v5, hv, hf⟩ := ob hf
      refine k_afterI (wr := [(q_, .inr (7, [.ref q_view, .ref q_costs, .int x_solvedFor, .int t1, .int t2, .ref q_found, .ref q_row])), (q_found, .inl (cI, 5040, .inl x_found))]) (wn := [(q_, .inr (7, [.ref q_view, .ref q_costs, .int x_solvedFor, .int t1, .int t2, .ref q_found, .ref q_row])), (q_found, .inl (cI, 5040, .inl x_found)), (q_row, .inr (5, [.ref q_row_posts, .int x_row_size])), (q_row_posts, .inl (cI, 11, .inl x_row_posts))]) (k_runS (rest := [.int t2, .ref q_found]) hx hb hml hown htb hK hN (c_X8_code l dC dI cI cZ cN q_row q_row_posts x_row_size x_row_posts v5 hv _) sf_X8_code t_589 hP hD [2, 3] rfl rfl ⟨(Nat.le_of_ble_eq_true rfl), (Nat.le_of_ble_eq_true rfl)⟩ rfl hl.1 rfl (Nat.le_of_ble_eq_true rfl) dX8_meet_40 ⟨Nat.zero_le _, Nat.zero_le _⟩) hA hP hD hS [2, 3] [0, 1] [0, 1, 2, 3] rfl rfl rfl rfl ?_
      clear hP hD hS
      intro H locs hP hD hS
      obtain ⟨v6, hv, hf⟩ := ob hf
      refine k_iast (wn := [(q_, .inr (7, [.ref q_view, .ref q_costs, .int x_solvedFor, .int t1, .int t2, .ref q_found, .ref q_row])), (q_found, .inl (cI, 5040, .inl v6)), (q_row, .inr (5, [.ref q_row_posts, .int x_row_size])), (q_row_posts, .inl (cI, 11, .inl x_row_posts))]) hx hb hK hP hD hS 1 0 rfl rfl hv rfl dX8_meet_43 ?_
      clear hP hD hS
      intro H locs hP hD hS
      refine lv_aload_n hx hb dX8_meet_44 rfl (lv_at hl 0 rfl) ?_
      refine lv_dup hx hb dX8_meet_45 rfl ?_
      refine va_get (D := (dC, dI)) (ci := 7) (v := .int t2) (C := RX8) (T := TX8) (N := 7) hx hb htb inX8 hown hK hP 0 rfl rfl 4 (Nat.le_of_ble_eq_true rfl) (htb _ t_234) (u_same (htb _ t_235)) rfl dX8_meet_46 ?_
      refine lv_iconst (v := (1 : Int32)) hx hb dX8_meet_49 (by decide) ?_
      refine lv_iadd hx hb dX8_meet_50 ?_
      refine k_put (wn := [(q_, .inr (7, [.ref q_view, .ref q_costs, .int x_solvedFor, .int t1, .int (t2 + (1 : Int32)), .ref q_found, .ref q_row])), (q_found, .inl (cI, 5040, .inl v6)), (q_row, .inr (5, [.ref q_row_posts, .int x_row_size])), (q_row_posts, .inl (cI, 11, .inl x_row_posts))]) (C := RX8) (T := TX8) (N := 7) (ci := 7) hx hb htb inX8 tyX8 tyX8_ok nmX8 hown hK hP hD hS 0 rfl rfl 4 (Nat.le_of_ble_eq_true rfl) t_234 (u_same (htb _ t_235)) rfl (tyX8_ok 4 (Nat.le_of_ble_eq_true rfl)) (Nat.le_of_ble_eq_true rfl) rfl dX8_meet_51 ?_
      clear hP hD hS
      intro H locs hP hD hS
      exact hret _ _ _ hf _ _ _ _ dX8_meet_54 hP hD hS
  replace hf := hv
  refine lv_icmp_ge (tgt := 18) hx hb dX8_meet_5 (by decide) (fun c7 => ?_) (fun c7 => ?_)
  · have hf := ip c7 hf
    cases hf
    exact key3 _ _ _ hP hD hS (lv_sub hl [0] rfl)
  · have hf := im c7 hf
    refine lv_aload_n hx hb dX8_meet_8 rfl (lv_at hl 0 rfl) ?_
    refine lv_iload_n hx hb dX8_meet_9 rfl (lv_at hl 1 rfl) ?_
    refine k_put (wn := [(q_, .inr (7, [.ref q_view, .ref q_costs, .int x_solvedFor, .int i1, .int x_total, .ref q_found, .ref q_row])), (q_found, .inl (cI, 5040, .inl x_found)), (q_row, .inr (5, [.ref q_row_posts, .int x_row_size])), (q_row_posts, .inl (cI, 11, .inl x_row_posts))]) (C := RX8) (T := TX8) (N := 7) (ci := 7) hx hb htb inX8 tyX8 tyX8_ok nmX8 hown hK hP hD hS 0 rfl rfl 3 (Nat.le_of_ble_eq_true rfl) t_229 (u_same (htb _ t_230)) rfl (tyX8_ok 3 (Nat.le_of_ble_eq_true rfl)) (Nat.le_of_ble_eq_true rfl) rfl dX8_meet_10 ?_
    clear hP hD hS
    intro H locs hP hD hS
    refine lv_aload_n hx hb dX8_meet_13 rfl (lv_at hl 0 rfl) ?_
    refine lv_iconst (v := (0 : Int32)) hx hb dX8_meet_14 (by decide) ?_
    refine k_put (wn := [(q_, .inr (7, [.ref q_view, .ref q_costs, .int x_solvedFor, .int i1, .int (0 : Int32), .ref q_found, .ref q_row])), (q_found, .inl (cI, 5040, .inl x_found)), (q_row, .inr (5, [.ref q_row_posts, .int x_row_size])), (q_row_posts, .inl (cI, 11, .inl x_row_posts))]) (C := RX8) (T := TX8) (N := 7) (ci := 7) hx hb htb inX8 tyX8 tyX8_ok nmX8 hown hK hP hD hS 0 rfl rfl 4 (Nat.le_of_ble_eq_true rfl) t_234 (u_same (htb _ t_235)) rfl (tyX8_ok 4 (Nat.le_of_ble_eq_true rfl)) (Nat.le_of_ble_eq_true rfl) rfl dX8_meet_15 ?_
    clear hP hD hS
    intro H locs hP hD hS
    cases hf
    exact key3 _ _ _ hP hD hS (lv_sub hl [0] rfl)
theorem vf_X8_tryBehind : VF yX8_tryBehind cX8_tryBehind 6 none 2 := ⟨t_583, tp_10, t_12, t_584, by decide +kernel, by decide +kernel, by decide +kernel⟩
theorem dX8_tryBehind_0 : decode cX8_tryBehind 0 = .ok (.aload_n 0, 1) := by decide +kernel
theorem dX8_tryBehind_1 : decode cX8_tryBehind 1 = .ok (.getfield 20, 3) := by decide +kernel
theorem dX8_tryBehind_4 : decode cX8_tryBehind 4 = .ok (.getfield 42, 3) := by decide +kernel
theorem dX8_tryBehind_7 : decode cX8_tryBehind 7 = .ok (.istore_n 3, 1) := by decide +kernel
theorem dX8_tryBehind_8 : decode cX8_tryBehind 8 = .ok (.iload_n 3, 1) := by decide +kernel
theorem dX8_tryBehind_9 : decode cX8_tryBehind 9 = .ok (.aload_n 0, 1) := by decide +kernel
theorem dX8_tryBehind_10 : decode cX8_tryBehind 10 = .ok (.getfield 45, 3) := by decide +kernel
theorem dX8_tryBehind_13 : decode cX8_tryBehind 13 = .ok (.getfield 49, 3) := by decide +kernel
theorem dX8_tryBehind_16 : decode cX8_tryBehind 16 = .ok (.if_icmp .ge 9, 3) := by decide +kernel
theorem dX8_tryBehind_19 : decode cX8_tryBehind 19 = .ok (.iload_n 3, 1) := by decide +kernel
theorem dX8_tryBehind_20 : decode cX8_tryBehind 20 = .ok (.bipush 7, 2) := by decide +kernel
theorem dX8_tryBehind_22 : decode cX8_tryBehind 22 = .ok (.if_icmp .lt 9, 3) := by decide +kernel
theorem dX8_tryBehind_25 : decode cX8_tryBehind 25 = .ok (.aload_n 0, 1) := by decide +kernel
theorem dX8_tryBehind_26 : decode cX8_tryBehind 26 = .ok (.iload_n 2, 1) := by decide +kernel
theorem dX8_tryBehind_27 : decode cX8_tryBehind 27 = .ok (.invokevirtual 54, 3) := by decide +kernel
theorem dX8_tryBehind_30 : decode cX8_tryBehind 30 = .ok (.return_, 1) := by decide +kernel
theorem dX8_tryBehind_31 : decode cX8_tryBehind 31 = .ok (.iconst 0, 1) := by decide +kernel
theorem dX8_tryBehind_32 : decode cX8_tryBehind 32 = .ok (.istore 4, 2) := by decide +kernel
theorem dX8_tryBehind_34 : decode cX8_tryBehind 34 = .ok (.iload 4, 2) := by decide +kernel
theorem dX8_tryBehind_36 : decode cX8_tryBehind 36 = .ok (.aload_n 0, 1) := by decide +kernel
theorem dX8_tryBehind_37 : decode cX8_tryBehind 37 = .ok (.getfield 45, 3) := by decide +kernel
theorem dX8_tryBehind_40 : decode cX8_tryBehind 40 = .ok (.getfield 49, 3) := by decide +kernel
theorem dX8_tryBehind_43 : decode cX8_tryBehind 43 = .ok (.if_icmp .ge 87, 3) := by decide +kernel
theorem dX8_tryBehind_46 : decode cX8_tryBehind 46 = .ok (.iload_n 1, 1) := by decide +kernel
theorem dX8_tryBehind_47 : decode cX8_tryBehind 47 = .ok (.iload 4, 2) := by decide +kernel
theorem dX8_tryBehind_49 : decode cX8_tryBehind 49 = .ok (.invokestatic 58, 3) := by decide +kernel
theorem dX8_tryBehind_52 : decode cX8_tryBehind 52 = .ok (.ifCond .ne 72, 3) := by decide +kernel
theorem dX8_tryBehind_55 : decode cX8_tryBehind 55 = .ok (.aload_n 0, 1) := by decide +kernel
theorem dX8_tryBehind_56 : decode cX8_tryBehind 56 = .ok (.getfield 45, 3) := by decide +kernel
theorem dX8_tryBehind_59 : decode cX8_tryBehind 59 = .ok (.iload 4, 2) := by decide +kernel
theorem dX8_tryBehind_61 : decode cX8_tryBehind 61 = .ok (.iload_n 1, 1) := by decide +kernel
theorem dX8_tryBehind_62 : decode cX8_tryBehind 62 = .ok (.invokevirtual 62, 3) := by decide +kernel
theorem dX8_tryBehind_65 : decode cX8_tryBehind 65 = .ok (.ifCond .eq 59, 3) := by decide +kernel
theorem dX8_tryBehind_68 : decode cX8_tryBehind 68 = .ok (.aload_n 0, 1) := by decide +kernel
theorem dX8_tryBehind_69 : decode cX8_tryBehind 69 = .ok (.getfield 20, 3) := by decide +kernel
theorem dX8_tryBehind_72 : decode cX8_tryBehind 72 = .ok (.iload 4, 2) := by decide +kernel
theorem dX8_tryBehind_74 : decode cX8_tryBehind 74 = .ok (.invokevirtual 65, 3) := by decide +kernel
theorem dX8_tryBehind_77 : decode cX8_tryBehind 77 = .ok (.aload_n 0, 1) := by decide +kernel
theorem dX8_tryBehind_78 : decode cX8_tryBehind 78 = .ok (.getfield 68, 3) := by decide +kernel
theorem dX8_tryBehind_81 : decode cX8_tryBehind 81 = .ok (.aload_n 0, 1) := by decide +kernel
theorem dX8_tryBehind_82 : decode cX8_tryBehind 82 = .ok (.getfield 24, 3) := by decide +kernel
theorem dX8_tryBehind_85 : decode cX8_tryBehind 85 = .ok (.iload_n 2, 1) := by decide +kernel
theorem dX8_tryBehind_86 : decode cX8_tryBehind 86 = .ok (.aload_n 0, 1) := by decide +kernel
theorem dX8_tryBehind_87 : decode cX8_tryBehind 87 = .ok (.getfield 20, 3) := by decide +kernel
theorem dX8_tryBehind_90 : decode cX8_tryBehind 90 = .ok (.iload_n 3, 1) := by decide +kernel
theorem dX8_tryBehind_91 : decode cX8_tryBehind 91 = .ok (.invokevirtual 72, 3) := by decide +kernel
theorem dX8_tryBehind_94 : decode cX8_tryBehind 94 = .ok (.istore 5, 2) := by decide +kernel
theorem dX8_tryBehind_96 : decode cX8_tryBehind 96 = .ok (.iload 5, 2) := by decide +kernel
theorem dX8_tryBehind_98 : decode cX8_tryBehind 98 = .ok (.aload_n 0, 1) := by decide +kernel
theorem dX8_tryBehind_99 : decode cX8_tryBehind 99 = .ok (.getfield 29, 3) := by decide +kernel
theorem dX8_tryBehind_102 : decode cX8_tryBehind 102 = .ok (.if_icmp .gt 15, 3) := by decide +kernel
theorem dX8_tryBehind_105 : decode cX8_tryBehind 105 = .ok (.aload_n 0, 1) := by decide +kernel
theorem dX8_tryBehind_106 : decode cX8_tryBehind 106 = .ok (.iload_n 1, 1) := by decide +kernel
theorem dX8_tryBehind_107 : decode cX8_tryBehind 107 = .ok (.iconst 1, 1) := by decide +kernel
theorem dX8_tryBehind_108 : decode cX8_tryBehind 108 = .ok (.iload 4, 2) := by decide +kernel
theorem dX8_tryBehind_110 : decode cX8_tryBehind 110 = .ok (.ishl, 1) := by decide +kernel
theorem dX8_tryBehind_111 : decode cX8_tryBehind 111 = .ok (.ior, 1) := by decide +kernel
theorem dX8_tryBehind_112 : decode cX8_tryBehind 112 = .ok (.iload 5, 2) := by decide +kernel
theorem dX8_tryBehind_114 : decode cX8_tryBehind 114 = .ok (.invokevirtual 38, 3) := by decide +kernel
theorem dX8_tryBehind_117 : decode cX8_tryBehind 117 = .ok (.aload_n 0, 1) := by decide +kernel
theorem dX8_tryBehind_118 : decode cX8_tryBehind 118 = .ok (.getfield 20, 3) := by decide +kernel
theorem dX8_tryBehind_121 : decode cX8_tryBehind 121 = .ok (.invokevirtual 78, 3) := by decide +kernel
theorem dX8_tryBehind_124 : decode cX8_tryBehind 124 = .ok (.iinc 4 1, 3) := by decide +kernel
theorem dX8_tryBehind_127 : decode cX8_tryBehind 127 = .ok (.goto (-93), 3) := by decide +kernel
theorem dX8_tryBehind_130 : decode cX8_tryBehind 130 = .ok (.return_, 1) := by decide +kernel
noncomputable def f_X8_tryBehind_L34 (fr : ((Int32) → (Int32) → (Int32) → (Int32) → (Nat → Int32) → (Nat → Int32) → (Nat → Int32) → (Int32) → (Nat → Int32) → Int32 → Int32 → Option (Int32 × Int32 × (Nat → Int32) × Int32 × (Nat → Int32)))) (i1 : Int32) (i2 : Int32) (i3 : Int32) (x_solvedFor : Int32) (x_view_posts : Int32) (x_view_weights : Nat → Int32) (x_view_ahead : Nat → Int32) (i4 : Int32) (x_lowest : Int32) (x_total : Int32) (x_found : Nat → Int32) (x_row_size : Int32) (x_row_posts : Nat → Int32) : Option ((Int32 × Int32 × Int32 × (Nat → Int32) × Int32 × (Nat → Int32)) ⊕ (Int32 × Int32 × (Nat → Int32) × Int32 × (Nat → Int32))) :=
  if x_view_posts ≤ i4 then (some (.inr (x_lowest, x_total, x_found, x_row_size, x_row_posts))) else ((f_X10_holds i1 i4).bind fun v7 =>
  b5 ((if v7 = 0 then ((f_X9_mayFollow x_view_ahead i4 i1).bind fun v15 =>
  if v15 = 0 then (some (x_lowest, x_total, x_found, x_row_size, x_row_posts)) else (b2 (f_X5_append x_row_size x_row_posts i4) fun o17 o18 =>
  (f_X2_withSpans x_view_posts x_view_weights o18 x_solvedFor i2 i3).bind fun v19 =>
  b5 ((if x_lowest < v19 then (some (x_lowest, x_total, x_found, o17, o18)) else (b5 (fr x_solvedFor x_lowest x_total x_view_posts x_view_weights x_view_ahead x_found o17 o18 (i1 ||| ((1 : Int32) <<< (i4 &&& 31))) v19) fun o28 o29 o30 o31 o32 =>
  some (o28, o29, o30, o31, o32)) : Option (Int32 × Int32 × (Nat → Int32) × Int32 × (Nat → Int32)))) fun t20 t21 t22 t23 t24 =>
  (f_X5_dropLast t23).bind fun o26 =>
  some (t20, t21, t22, o26, t24))) else (some (x_lowest, x_total, x_found, x_row_size, x_row_posts)) : Option (Int32 × Int32 × (Nat → Int32) × Int32 × (Nat → Int32)))) fun t8 t9 t10 t11 t12 =>
  some (.inl ((i4 + (1 : Int32)), t8, t9, t10, t11, t12)))
noncomputable def f_X8_tryBehind_B (fr : ((Int32) → (Int32) → (Int32) → (Int32) → (Nat → Int32) → (Nat → Int32) → (Nat → Int32) → (Int32) → (Nat → Int32) → Int32 → Int32 → Option (Int32 × Int32 × (Nat → Int32) × Int32 × (Nat → Int32)))) (x_solvedFor : Int32) (x_lowest : Int32) (x_total : Int32) (x_view_posts : Int32) (x_view_weights : Nat → Int32) (x_view_ahead : Nat → Int32) (x_found : Nat → Int32) (x_row_size : Int32) (x_row_posts : Nat → Int32) (i1 : Int32) (i2 : Int32) : Option (Int32 × Int32 × (Nat → Int32) × Int32 × (Nat → Int32)) :=
  if x_view_posts ≤ x_row_size then (b3 (f_X8_meet x_lowest x_total x_found x_row_size x_row_posts i2) fun o2 o3 o4 =>
  some ((o2, o3, o4, x_row_size, x_row_posts))) else (if x_row_size < (7 : Int32) then (b5 (loopS (fun (s : Int32 × Int32 × Int32 × (Nat → Int32) × Int32 × (Nat → Int32)) => f_X8_tryBehind_L34 fr i1 i2 x_row_size x_solvedFor x_view_posts x_view_weights x_view_ahead s.1 s.2.1 s.2.2.1 s.2.2.2.1 s.2.2.2.2.1 s.2.2.2.2.2) ((0 : Int32), x_lowest, x_total, x_found, x_row_size, x_row_posts)) fun x6 x7 x8 x9 x10 =>
  some ((x6, x7, x8, x9, x10))) else (b3 (f_X8_meet x_lowest x_total x_found x_row_size x_row_posts i2) fun o20 o21 o22 =>
  some ((o20, o21, o22, x_row_size, x_row_posts))))
noncomputable def f_X8_tryBehind : Nat → ((Int32) → (Int32) → (Int32) → (Int32) → (Nat → Int32) → (Nat → Int32) → (Nat → Int32) → (Int32) → (Nat → Int32) → Int32 → Int32 → Option (Int32 × Int32 × (Nat → Int32) × Int32 × (Nat → Int32)))
  | 0 => fun _ _ _ _ _ _ _ _ _ _ _ => none
  | fd + 1 => f_X8_tryBehind_B (f_X8_tryBehind fd)
set_option maxHeartbeats 4000000 in
set_option maxRecDepth 100000 in
theorem c_X8_tryBehind (l : Launch) (dC : Nat → ClassId) (dI : Nat → Nat → Nat) (cI cZ cN : ClassId) : ∀ (fd : Nat)  (q_ : Nat) (q_view : Nat) (q_costs : Nat) (q_found : Nat) (q_row : Nat) (q_view_weights : Nat) (q_view_near : Nat) (q_view_behind : Nat) (q_view_ahead : Nat) (q_row_posts : Nat) (x_solvedFor : Int32) (x_lowest : Int32) (x_total : Int32) (x_view_posts : Int32) (x_view_roads : Int32) (x_view_weight : Int32) (x_view_weights : Nat → Int32) (x_view_ahead : Nat → Int32) (x_found : Nat → Int32) (x_row_size : Int32) (x_row_posts : Nat → Int32) (i1 i2 : Int32) (o_lowest : Int32) (o_total : Int32) (o_found : Nat → Int32) (o_row_size : Int32) (o_row_posts : Nat → Int32), f_X8_tryBehind fd x_solvedFor x_lowest x_total x_view_posts x_view_weights x_view_ahead x_found x_row_size x_row_posts i1 i2 = some (o_lowest, o_total, o_found, o_row_size, o_row_posts) → CV l yX8_tryBehind cX8_tryBehind 6 none (4 + fd) (110 + 25 * fd) (dC, dI) (TY cI cZ cN) [.ref q_, .int i1, .int i2] [(q_, .inr (7, [.ref q_view, .ref q_costs, .int x_solvedFor, .int x_lowest, .int x_total, .ref q_found, .ref q_row])), (q_view, .inr (8, [.int x_view_posts, .int x_view_roads, .int x_view_weight, .ref q_view_weights, .ref q_view_near, .ref q_view_behind, .ref q_view_ahead])), (q_view_weights, .inl (cI, 121, .inl x_view_weights)), (q_view_ahead, .inl (cI, 11, .inl x_view_ahead)), (q_costs, .inr (2, [.ref q_view])), (q_found, .inl (cI, 5040, .inl x_found)), (q_row, .inr (5, [.ref q_row_posts, .int x_row_size])), (q_row_posts, .inl (cI, 11, .inl x_row_posts))] [(q_, .inr (7, [.ref q_view, .ref q_costs, .int x_solvedFor, .int o_lowest, .int o_total, .ref q_found, .ref q_row])), (q_view, .inr (8, [.int x_view_posts, .int x_view_roads, .int x_view_weight, .ref q_view_weights, .ref q_view_near, .ref q_view_behind, .ref q_view_ahead])), (q_view_weights, .inl (cI, 121, .inl x_view_weights)), (q_view_ahead, .inl (cI, 11, .inl x_view_ahead)), (q_costs, .inr (2, [.ref q_view])), (q_found, .inl (cI, 5040, .inl o_found)), (q_row, .inr (5, [.ref q_row_posts, .int o_row_size])), (q_row_posts, .inl (cI, 11, .inl o_row_posts))] := by
  intro fd
  induction fd with
  | zero =>
    intro q_ q_view q_costs q_found q_row q_view_weights q_view_near q_view_behind q_view_ahead q_row_posts x_solvedFor x_lowest x_total x_view_posts x_view_roads x_view_weight x_view_weights x_view_ahead x_found x_row_size x_row_posts i1 i2 o_lowest o_total o_found o_row_size o_row_posts hf
    cases hf
  | succ fd IH =>
    intro q_ q_view q_costs q_found q_row q_view_weights q_view_near q_view_behind q_view_ahead q_row_posts x_solvedFor x_lowest x_total x_view_posts x_view_roads x_view_weight x_view_weights x_view_ahead x_found x_row_size x_row_posts i1 i2 o_lowest o_total o_found o_row_size o_row_posts hf
    refine CV.of (by decide) (Nat.le_of_ble_eq_true rfl) ?_
    intro p e s m args below meth c Q A ls hx hb hml hown htb hK hN hA hP hD hS hl hret
    have hown : s.vm.findClass RX8 = some m.cls := hown
    have hl : lv_has ls 6 [(0, .ref q_), (1, .int i1), (2, .int i2)] := hl
    have hret : ∀ (o9_lowest : Int32) (o9_total : Int32) (o9_found : Nat → Int32) (o9_row_size : Int32) (o9_row_posts : Nat → Int32), some (o9_lowest, o9_total, o9_found, o9_row_size, o9_row_posts) = some (o_lowest, o_total, o_found, o_row_size, o_row_posts) → ∀ (H : Heap) (locs : List Loc) (pc : Nat) (ls : Array Slot), decode cX8_tryBehind pc = .ok (.return_, 1) → va_P (dC, dI) vwCl [(q_, .inr (7, [.ref q_view, .ref q_costs, .int x_solvedFor, .int o9_lowest, .int o9_total, .ref q_found, .ref q_row])), (q_view, .inr (8, [.int x_view_posts, .int x_view_roads, .int x_view_weight, .ref q_view_weights, .ref q_view_near, .ref q_view_behind, .ref q_view_ahead])), (q_view_weights, .inl (cI, 121, .inl x_view_weights)), (q_view_ahead, .inl (cI, 11, .inl x_view_ahead)), (q_costs, .inr (2, [.ref q_view])), (q_found, .inl (cI, 5040, .inl o9_found)), (q_row, .inr (5, [.ref q_row_posts, .int o9_row_size])), (q_row_posts, .inl (cI, 11, .inl o9_row_posts))] H → va_D A [(q_, .inr (7, [.ref q_view, .ref q_costs, .int x_solvedFor, .int o9_lowest, .int o9_total, .ref q_found, .ref q_row])), (q_view, .inr (8, [.int x_view_posts, .int x_view_roads, .int x_view_weight, .ref q_view_weights, .ref q_view_near, .ref q_view_behind, .ref q_view_ahead])), (q_view_weights, .inl (cI, 121, .inl x_view_weights)), (q_view_ahead, .inl (cI, 11, .inl x_view_ahead)), (q_costs, .inr (2, [.ref q_view])), (q_found, .inl (cI, 5040, .inl o9_found)), (q_row, .inr (5, [.ref q_row_posts, .int o9_row_size])), (q_row_posts, .inl (cI, 11, .inl o9_row_posts))] → va_S A s.heap H locs → W p l e (rmK (4 + (fd + 1)) (110 + 25 * (fd + 1))) s m args below meth c H locs 0 0 Q (F0 m pc ls []) := by
      intro o9_lowest o9_total o9_found o9_row_size o9_row_posts h9
      cases h9
      exact hret
    replace hf : f_X8_tryBehind_B (f_X8_tryBehind fd) x_solvedFor x_lowest x_total x_view_posts x_view_weights x_view_ahead x_found x_row_size x_row_posts i1 i2 = some (o_lowest, o_total, o_found, o_row_size, o_row_posts) := hf
    unfold f_X8_tryBehind_B at hf
    refine lv_aload_n hx hb dX8_tryBehind_0 rfl (lv_at hl 0 rfl) ?_
    refine va_get (D := (dC, dI)) (ci := 7) (v := .ref q_row) (C := RX8) (T := TX8) (N := 7) hx hb htb inX8 hown hK hP 0 rfl rfl 6 (Nat.le_of_ble_eq_true rfl) (htb _ t_267) (fun _ h9 => h9) rfl dX8_tryBehind_1 ?_
    refine va_get (D := (dC, dI)) (ci := 5) (v := .int x_row_size) (C := RX5) (T := TX5) (N := 2) hx hb htb inX5 hown hK hP 6 rfl rfl 1 (Nat.le_of_ble_eq_true rfl) (htb _ t_136) (fun _ h9 => h9) rfl dX8_tryBehind_4 ?_
    refine lv_istore_n (lv' := [(3, .int x_row_size), (0, .ref q_), (1, .int i1), (2, .int i2)]) hx hb dX8_tryBehind_7 rfl hl (by decide) rfl (fun ls hl => ?_)
    refine lv_iload_n hx hb dX8_tryBehind_8 rfl (lv_at hl 0 rfl) ?_
    refine lv_aload_n hx hb dX8_tryBehind_9 rfl (lv_at hl 1 rfl) ?_
    refine va_get (D := (dC, dI)) (ci := 7) (v := .ref q_view) (C := RX8) (T := TX8) (N := 7) hx hb htb inX8 hown hK hP 0 rfl rfl 0 (Nat.le_of_ble_eq_true rfl) (htb _ t_215) (u_same (htb _ t_216)) rfl dX8_tryBehind_10 ?_
    refine va_get (D := (dC, dI)) (ci := 8) (v := .int x_view_posts) (C := RX9) (T := TX9) (N := 7) hx hb htb inX9 hown hK hP 1 rfl rfl 0 (Nat.le_of_ble_eq_true rfl) (htb _ t_72) (fun _ h9 => h9) rfl dX8_tryBehind_13 ?_
    refine lv_icmp_ge (tgt := 25) hx hb dX8_tryBehind_16 (by decide) (fun c1 => ?_) (fun c1 => ?_)
    · have hf := ip c1 hf
      refine lv_aload_n hx hb dX8_tryBehind_25 rfl (lv_at hl 1 rfl) ?_
      refine lv_iload_n hx hb dX8_tryBehind_26 rfl (lv_at hl 3 rfl) ?_
      obtain ⟨o2, o3, o4, hv, hf⟩ := ob3 hf
      refine k_afterV (wr := [(q_view, .inr (8, [.int x_view_posts, .int x_view_roads, .int x_view_weight, .ref q_view_weights, .ref q_view_near, .ref q_view_behind, .ref q_view_ahead])), (q_view_weights, .inl (cI, 121, .inl x_view_weights)), (q_view_ahead, .inl (cI, 11, .inl x_view_ahead)), (q_costs, .inr (2, [.ref q_view]))]) (wn := [(q_, .inr (7, [.ref q_view, .ref q_costs, .int x_solvedFor, .int o2, .int o3, .ref q_found, .ref q_row])), (q_view, .inr (8, [.int x_view_posts, .int x_view_roads, .int x_view_weight, .ref q_view_weights, .ref q_view_near, .ref q_view_behind, .ref q_view_ahead])), (q_view_weights, .inl (cI, 121, .inl x_view_weights)), (q_view_ahead, .inl (cI, 11, .inl x_view_ahead)), (q_costs, .inr (2, [.ref q_view])), (q_found, .inl (cI, 5040, .inl o4)), (q_row, .inr (5, [.ref q_row_posts, .int x_row_size])), (q_row_posts, .inl (cI, 11, .inl x_row_posts))]) (k_runV (rest := []) (ci := 7) (q0 := 0) hx hb hml hown htb hK hN (c_X8_meet l dC dI cI cZ cN q_ q_view q_costs q_found q_row q_row_posts x_solvedFor x_lowest x_total x_found x_row_size x_row_posts i2 o2 o3 o4 hv _) vf_X8_meet t_585 hP hD [0, 5, 6, 7] rfl rfl rfl rfl ⟨by simp only [rmK]; omega, by simp only [rmK]; omega⟩ rfl hl.1 rfl (Nat.le_of_ble_eq_true rfl) dX8_tryBehind_27 ⟨Nat.zero_le _, Nat.zero_le _⟩) hA hP hD hS [0, 5, 6, 7] [1, 2, 3, 4] [4, 0, 1, 2, 3, 5, 6, 7] rfl rfl rfl rfl ?_
      clear hP hD hS
      intro H locs hP hD hS
      exact hret _ _ _ _ _ hf _ _ _ _ dX8_tryBehind_30 hP hD hS
    · have hf := im c1 hf
      refine lv_iload_n hx hb dX8_tryBehind_19 rfl (lv_at hl 0 rfl) ?_
      refine lv_bipush (v := (7 : Int32)) hx hb dX8_tryBehind_20 (by decide) ?_
      refine lv_icmp_lt (tgt := 31) hx hb dX8_tryBehind_22 (by decide) (fun c5 => ?_) (fun c5 => ?_)
      · have hf := ip c5 hf
        refine lv_iconst (v := (0 : Int32)) hx hb dX8_tryBehind_31 (by decide) ?_
        refine lv_istore (lv' := [(4, .int (0 : Int32)), (3, .int x_row_size), (0, .ref q_), (1, .int i1), (2, .int i2)]) hx hb dX8_tryBehind_32 hl (by decide) rfl (fun ls hl => ?_)
        obtain ⟨x6, x7, x8, x9, x10, hL, hf⟩ := ob5 hf
        have kx11 : ∀ (H : Heap) (locs : List Loc) (ls : Array Slot), va_P (dC, dI) vwCl [(q_, .inr (7, [.ref q_view, .ref q_costs, .int x_solvedFor, .int x6, .int x7, .ref q_found, .ref q_row])), (q_view, .inr (8, [.int x_view_posts, .int x_view_roads, .int x_view_weight, .ref q_view_weights, .ref q_view_near, .ref q_view_behind, .ref q_view_ahead])), (q_view_weights, .inl (cI, 121, .inl x_view_weights)), (q_view_ahead, .inl (cI, 11, .inl x_view_ahead)), (q_costs, .inr (2, [.ref q_view])), (q_found, .inl (cI, 5040, .inl x8)), (q_row, .inr (5, [.ref q_row_posts, .int x9])), (q_row_posts, .inl (cI, 11, .inl x10))] H → va_D A [(q_, .inr (7, [.ref q_view, .ref q_costs, .int x_solvedFor, .int x6, .int x7, .ref q_found, .ref q_row])), (q_view, .inr (8, [.int x_view_posts, .int x_view_roads, .int x_view_weight, .ref q_view_weights, .ref q_view_near, .ref q_view_behind, .ref q_view_ahead])), (q_view_weights, .inl (cI, 121, .inl x_view_weights)), (q_view_ahead, .inl (cI, 11, .inl x_view_ahead)), (q_costs, .inr (2, [.ref q_view])), (q_found, .inl (cI, 5040, .inl x8)), (q_row, .inr (5, [.ref q_row_posts, .int x9])), (q_row_posts, .inl (cI, 11, .inl x10))] → va_S A s.heap H locs → lv_has ls 6 [] → W p l e (rmK (4 + (fd + 1)) (110 + 25 * (fd + 1))) s m args below meth c H locs 0 0 Q (F0 m 130 ls []) := by
          intro H locs ls hP hD hS hl
          exact hret _ _ _ _ _ hf _ _ _ _ dX8_tryBehind_130 hP hD hS
        obtain ⟨n0, hn0⟩ := loopS_iter hL
        clear hf
        have kl18 : ∀ (n : Nat) (s12 : Int32) (s13 : Int32) (s14 : Int32) (s15 : Nat → Int32) (s16 : Int32) (s17 : Nat → Int32), iterS (fun (s : Int32 × Int32 × Int32 × (Nat → Int32) × Int32 × (Nat → Int32)) => f_X8_tryBehind_L34 (f_X8_tryBehind fd) i1 i2 x_row_size x_solvedFor x_view_posts x_view_weights x_view_ahead s.1 s.2.1 s.2.2.1 s.2.2.2.1 s.2.2.2.2.1 s.2.2.2.2.2) n (s12, s13, s14, s15, s16, s17) = some (x6, x7, x8, x9, x10) → ∀ (H : Heap) (locs : List Loc) (ls : Array Slot), va_P (dC, dI) vwCl [(q_, .inr (7, [.ref q_view, .ref q_costs, .int x_solvedFor, .int s13, .int s14, .ref q_found, .ref q_row])), (q_view, .inr (8, [.int x_view_posts, .int x_view_roads, .int x_view_weight, .ref q_view_weights, .ref q_view_near, .ref q_view_behind, .ref q_view_ahead])), (q_view_weights, .inl (cI, 121, .inl x_view_weights)), (q_view_ahead, .inl (cI, 11, .inl x_view_ahead)), (q_costs, .inr (2, [.ref q_view])), (q_found, .inl (cI, 5040, .inl s15)), (q_row, .inr (5, [.ref q_row_posts, .int s16])), (q_row_posts, .inl (cI, 11, .inl s17))] H → va_D A [(q_, .inr (7, [.ref q_view, .ref q_costs, .int x_solvedFor, .int s13, .int s14, .ref q_found, .ref q_row])), (q_view, .inr (8, [.int x_view_posts, .int x_view_roads, .int x_view_weight, .ref q_view_weights, .ref q_view_near, .ref q_view_behind, .ref q_view_ahead])), (q_view_weights, .inl (cI, 121, .inl x_view_weights)), (q_view_ahead, .inl (cI, 11, .inl x_view_ahead)), (q_costs, .inr (2, [.ref q_view])), (q_found, .inl (cI, 5040, .inl s15)), (q_row, .inr (5, [.ref q_row_posts, .int s16])), (q_row_posts, .inl (cI, 11, .inl s17))] → va_S A s.heap H locs → lv_has ls 6 [(0, .ref q_), (1, .int i1), (2, .int i2), (3, .int x_row_size), (4, .int s12)] → W p l e (rmK (4 + (fd + 1)) (110 + 25 * (fd + 1))) s m args below meth c H locs 0 0 Q (F0 m 34 ls []) := by
          intro n
          induction n with
          | zero =>
            intro s12 s13 s14 s15 s16 s17 hn1
            cases hn1
          | succ n ih1 =>
            intro s12 s13 s14 s15 s16 s17 hn1 H locs ls hP hD hS hl
            obtain ⟨r19, hf, hn1⟩ := it1 hn1
            replace hf : f_X8_tryBehind_L34 (f_X8_tryBehind fd) i1 i2 x_row_size x_solvedFor x_view_posts x_view_weights x_view_ahead s12 s13 s14 s15 s16 s17 = some r19 := hf
            unfold f_X8_tryBehind_L34 at hf
            refine lv_iload hx hb dX8_tryBehind_34 (lv_at hl 4 rfl) ?_
            refine lv_aload_n hx hb dX8_tryBehind_36 rfl (lv_at hl 0 rfl) ?_
            refine va_get (D := (dC, dI)) (ci := 7) (v := .ref q_view) (C := RX8) (T := TX8) (N := 7) hx hb htb inX8 hown hK hP 0 rfl rfl 0 (Nat.le_of_ble_eq_true rfl) (htb _ t_215) (u_same (htb _ t_216)) rfl dX8_tryBehind_37 ?_
            refine va_get (D := (dC, dI)) (ci := 8) (v := .int x_view_posts) (C := RX9) (T := TX9) (N := 7) hx hb htb inX9 hown hK hP 1 rfl rfl 0 (Nat.le_of_ble_eq_true rfl) (htb _ t_72) (fun _ h9 => h9) rfl dX8_tryBehind_40 ?_
            refine lv_icmp_ge (tgt := 130) hx hb dX8_tryBehind_43 (by decide) (fun c20 => ?_) (fun c20 => ?_)
            · have hf := ip c20 hf
              cases hf
              cases (itr hn1)
              exact kx11 _ _ _ hP hD hS (lv_sub hl [] rfl)
            · have hf := im c20 hf
              refine lv_iload_n hx hb dX8_tryBehind_46 rfl (lv_at hl 1 rfl) ?_
              refine lv_iload hx hb dX8_tryBehind_47 (lv_at hl 4 rfl) ?_
              obtain ⟨v21, hv, hf⟩ := ob hf
              refine k_afterI (wr := [(q_, .inr (7, [.ref q_view, .ref q_costs, .int x_solvedFor, .int s13, .int s14, .ref q_found, .ref q_row])), (q_view, .inr (8, [.int x_view_posts, .int x_view_roads, .int x_view_weight, .ref q_view_weights, .ref q_view_near, .ref q_view_behind, .ref q_view_ahead])), (q_view_weights, .inl (cI, 121, .inl x_view_weights)), (q_view_ahead, .inl (cI, 11, .inl x_view_ahead)), (q_costs, .inr (2, [.ref q_view])), (q_found, .inl (cI, 5040, .inl s15)), (q_row, .inr (5, [.ref q_row_posts, .int s16])), (q_row_posts, .inl (cI, 11, .inl s17))]) (wn := [(q_, .inr (7, [.ref q_view, .ref q_costs, .int x_solvedFor, .int s13, .int s14, .ref q_found, .ref q_row])), (q_view, .inr (8, [.int x_view_posts, .int x_view_roads, .int x_view_weight, .ref q_view_weights, .ref q_view_near, .ref q_view_behind, .ref q_view_ahead])), (q_view_weights, .inl (cI, 121, .inl x_view_weights)), (q_view_ahead, .inl (cI, 11, .inl x_view_ahead)), (q_costs, .inr (2, [.ref q_view])), (q_found, .inl (cI, 5040, .inl s15)), (q_row, .inr (5, [.ref q_row_posts, .int s16])), (q_row_posts, .inl (cI, 11, .inl s17))]) (k_runSN (rest := []) (host := "NarrowRows") hx hb hml hown htb hK hN (c_X10_holds l dC dI cI cZ cN i1 s12 v21 hv _) sf_X10_holds nm_10 hP hD [] rfl rfl ⟨by simp only [rmK]; omega, by simp only [rmK]; omega⟩ rfl hl.1 rfl (Nat.le_of_ble_eq_true rfl) dX8_tryBehind_49 ⟨Nat.zero_le _, Nat.zero_le _⟩) hA hP hD hS [] [0, 1, 2, 3, 4, 5, 6, 7] [0, 1, 2, 3, 4, 5, 6, 7] rfl rfl rfl rfl ?_
              clear hP hD hS
              intro H locs hP hD hS
              obtain ⟨t22, t23, t24, t25, t26, hv, hf⟩ := ob5 hf
              have key27 : ∀ (H : Heap) (locs : List Loc) (ls : Array Slot), va_P (dC, dI) vwCl [(q_, .inr (7, [.ref q_view, .ref q_costs, .int x_solvedFor, .int t22, .int t23, .ref q_found, .ref q_row])), (q_view, .inr (8, [.int x_view_posts, .int x_view_roads, .int x_view_weight, .ref q_view_weights, .ref q_view_near, .ref q_view_behind, .ref q_view_ahead])), (q_view_weights, .inl (cI, 121, .inl x_view_weights)), (q_view_ahead, .inl (cI, 11, .inl x_view_ahead)), (q_costs, .inr (2, [.ref q_view])), (q_found, .inl (cI, 5040, .inl t24)), (q_row, .inr (5, [.ref q_row_posts, .int t25])), (q_row_posts, .inl (cI, 11, .inl t26))] H → va_D A [(q_, .inr (7, [.ref q_view, .ref q_costs, .int x_solvedFor, .int t22, .int t23, .ref q_found, .ref q_row])), (q_view, .inr (8, [.int x_view_posts, .int x_view_roads, .int x_view_weight, .ref q_view_weights, .ref q_view_near, .ref q_view_behind, .ref q_view_ahead])), (q_view_weights, .inl (cI, 121, .inl x_view_weights)), (q_view_ahead, .inl (cI, 11, .inl x_view_ahead)), (q_costs, .inr (2, [.ref q_view])), (q_found, .inl (cI, 5040, .inl t24)), (q_row, .inr (5, [.ref q_row_posts, .int t25])), (q_row_posts, .inl (cI, 11, .inl t26))] → va_S A s.heap H locs → lv_has ls 6 [(0, .ref q_), (1, .int i1), (2, .int i2), (3, .int x_row_size), (4, .int s12)] → W p l e (rmK (4 + (fd + 1)) (110 + 25 * (fd + 1))) s m args below meth c H locs 0 0 Q (F0 m 124 ls []) := by
                intro H locs ls hP hD hS hl
                refine lv_iinc (v := (s12 + (1 : Int32))) (lv' := [(4, .int (s12 + (1 : Int32))), (0, .ref q_), (1, .int i1), (2, .int i2), (3, .int x_row_size)]) hx hb dX8_tryBehind_124 hl (k := 4) rfl rfl (by decide) rfl (fun ls hl => ?_)
                refine lv_goto (tgt := 34) hx hb dX8_tryBehind_127 (by decide) ?_
                cases hf
                exact ih1 _ _ _ _ _ _ (itl hn1) _ _ _ hP hD hS (lv_sub hl [1, 2, 3, 4, 0] rfl)
              replace hf := hv
              refine lv_if_ne (tgt := 124) hx hb dX8_tryBehind_52 (by decide) (fun c28 => ?_) (fun c28 => ?_)
              · have hf := im c28 hf
                cases hf
                exact key27 _ _ _ hP hD hS (lv_sub hl [0, 1, 2, 3, 4] rfl)
              · have hf := ip c28 hf
                refine lv_aload_n hx hb dX8_tryBehind_55 rfl (lv_at hl 0 rfl) ?_
                refine va_get (D := (dC, dI)) (ci := 7) (v := .ref q_view) (C := RX8) (T := TX8) (N := 7) hx hb htb inX8 hown hK hP 0 rfl rfl 0 (Nat.le_of_ble_eq_true rfl) (htb _ t_215) (u_same (htb _ t_216)) rfl dX8_tryBehind_56 ?_
                refine lv_iload hx hb dX8_tryBehind_59 (lv_at hl 4 rfl) ?_
                refine lv_iload_n hx hb dX8_tryBehind_61 rfl (lv_at hl 1 rfl) ?_
                obtain ⟨v29, hv, hf⟩ := ob hf
                refine k_afterI (wr := [(q_, .inr (7, [.ref q_view, .ref q_costs, .int x_solvedFor, .int s13, .int s14, .ref q_found, .ref q_row])), (q_view_weights, .inl (cI, 121, .inl x_view_weights)), (q_costs, .inr (2, [.ref q_view])), (q_found, .inl (cI, 5040, .inl s15)), (q_row, .inr (5, [.ref q_row_posts, .int s16])), (q_row_posts, .inl (cI, 11, .inl s17))]) (wn := [(q_, .inr (7, [.ref q_view, .ref q_costs, .int x_solvedFor, .int s13, .int s14, .ref q_found, .ref q_row])), (q_view, .inr (8, [.int x_view_posts, .int x_view_roads, .int x_view_weight, .ref q_view_weights, .ref q_view_near, .ref q_view_behind, .ref q_view_ahead])), (q_view_weights, .inl (cI, 121, .inl x_view_weights)), (q_view_ahead, .inl (cI, 11, .inl x_view_ahead)), (q_costs, .inr (2, [.ref q_view])), (q_found, .inl (cI, 5040, .inl s15)), (q_row, .inr (5, [.ref q_row_posts, .int s16])), (q_row_posts, .inl (cI, 11, .inl s17))]) (k_runV (rest := []) (ci := 8) (q0 := 1) hx hb hml hown htb hK hN (c_X9_mayFollow l dC dI cI cZ cN q_view q_view_weights q_view_near q_view_behind q_view_ahead x_view_posts x_view_roads x_view_weight x_view_ahead s12 i1 v29 hv _) vf_X9_mayFollow t_593 hP hD [1, 3] rfl rfl rfl rfl ⟨by simp only [rmK]; omega, by simp only [rmK]; omega⟩ rfl hl.1 rfl (Nat.le_of_ble_eq_true rfl) dX8_tryBehind_62 ⟨Nat.zero_le _, Nat.zero_le _⟩) hA hP hD hS [1, 3] [0, 2, 4, 5, 6, 7] [0, 6, 1, 7, 2, 3, 4, 5] rfl rfl rfl rfl ?_
                clear hP hD hS
                intro H locs hP hD hS
                refine lv_if_eq (tgt := 124) hx hb dX8_tryBehind_65 (by decide) (fun c30 => ?_) (fun c30 => ?_)
                · have hf := ip c30 hf
                  cases hf
                  exact key27 _ _ _ hP hD hS (lv_sub hl [0, 1, 2, 3, 4] rfl)
                · have hf := im c30 hf
                  refine lv_aload_n hx hb dX8_tryBehind_68 rfl (lv_at hl 0 rfl) ?_
                  refine va_get (D := (dC, dI)) (ci := 7) (v := .ref q_row) (C := RX8) (T := TX8) (N := 7) hx hb htb inX8 hown hK hP 0 rfl rfl 6 (Nat.le_of_ble_eq_true rfl) (htb _ t_267) (fun _ h9 => h9) rfl dX8_tryBehind_69 ?_
                  refine lv_iload hx hb dX8_tryBehind_72 (lv_at hl 4 rfl) ?_
                  obtain ⟨o31, o32, hv, hf⟩ := ob2 hf
                  refine k_afterV (wr := [(q_, .inr (7, [.ref q_view, .ref q_costs, .int x_solvedFor, .int s13, .int s14, .ref q_found, .ref q_row])), (q_view, .inr (8, [.int x_view_posts, .int x_view_roads, .int x_view_weight, .ref q_view_weights, .ref q_view_near, .ref q_view_behind, .ref q_view_ahead])), (q_view_weights, .inl (cI, 121, .inl x_view_weights)), (q_view_ahead, .inl (cI, 11, .inl x_view_ahead)), (q_costs, .inr (2, [.ref q_view])), (q_found, .inl (cI, 5040, .inl s15))]) (wn := [(q_, .inr (7, [.ref q_view, .ref q_costs, .int x_solvedFor, .int s13, .int s14, .ref q_found, .ref q_row])), (q_view, .inr (8, [.int x_view_posts, .int x_view_roads, .int x_view_weight, .ref q_view_weights, .ref q_view_near, .ref q_view_behind, .ref q_view_ahead])), (q_view_weights, .inl (cI, 121, .inl x_view_weights)), (q_view_ahead, .inl (cI, 11, .inl x_view_ahead)), (q_costs, .inr (2, [.ref q_view])), (q_found, .inl (cI, 5040, .inl s15)), (q_row, .inr (5, [.ref q_row_posts, .int o31])), (q_row_posts, .inl (cI, 11, .inl o32))]) (k_runV (rest := []) (ci := 5) (q0 := 6) hx hb hml hown htb hK hN (c_X5_append l dC dI cI cZ cN q_row q_row_posts s16 s17 s12 o31 o32 hv _) vf_X5_append t_594 hP hD [6, 7] rfl rfl rfl rfl ⟨by simp only [rmK]; omega, by simp only [rmK]; omega⟩ rfl hl.1 rfl (Nat.le_of_ble_eq_true rfl) dX8_tryBehind_74 ⟨Nat.zero_le _, Nat.zero_le _⟩) hA hP hD hS [6, 7] [0, 1, 2, 3, 4, 5] [0, 1, 2, 3, 4, 5, 6, 7] rfl rfl rfl rfl ?_
                  clear hP hD hS
                  intro H locs hP hD hS
                  refine lv_aload_n hx hb dX8_tryBehind_77 rfl (lv_at hl 0 rfl) ?_
                  refine va_get (D := (dC, dI)) (ci := 7) (v := .ref q_costs) (C := RX8) (T := TX8) (N := 7) hx hb htb inX8 hown hK hP 0 rfl rfl 1 (Nat.le_of_ble_eq_true rfl) (htb _ t_220) (u_same (htb _ t_221)) rfl dX8_tryBehind_78 ?_
                  refine lv_aload_n hx hb dX8_tryBehind_81 rfl (lv_at hl 0 rfl) ?_
                  refine va_get (D := (dC, dI)) (ci := 7) (v := .int x_solvedFor) (C := RX8) (T := TX8) (N := 7) hx hb htb inX8 hown hK hP 0 rfl rfl 2 (Nat.le_of_ble_eq_true rfl) (htb _ t_225) (u_same (htb _ t_226)) rfl dX8_tryBehind_82 ?_
                  refine lv_iload_n hx hb dX8_tryBehind_85 rfl (lv_at hl 2 rfl) ?_
                  refine lv_aload_n hx hb dX8_tryBehind_86 rfl (lv_at hl 0 rfl) ?_
                  refine va_get (D := (dC, dI)) (ci := 7) (v := .ref q_row) (C := RX8) (T := TX8) (N := 7) hx hb htb inX8 hown hK hP 0 rfl rfl 6 (Nat.le_of_ble_eq_true rfl) (htb _ t_267) (fun _ h9 => h9) rfl dX8_tryBehind_87 ?_
                  refine lv_iload_n hx hb dX8_tryBehind_90 rfl (lv_at hl 3 rfl) ?_
                  obtain ⟨v33, hv, hf⟩ := ob hf
                  refine k_afterI (wr := [(q_, .inr (7, [.ref q_view, .ref q_costs, .int x_solvedFor, .int s13, .int s14, .ref q_found, .ref q_row])), (q_view_ahead, .inl (cI, 11, .inl x_view_ahead)), (q_found, .inl (cI, 5040, .inl s15))]) (wn := [(q_, .inr (7, [.ref q_view, .ref q_costs, .int x_solvedFor, .int s13, .int s14, .ref q_found, .ref q_row])), (q_view, .inr (8, [.int x_view_posts, .int x_view_roads, .int x_view_weight, .ref q_view_weights, .ref q_view_near, .ref q_view_behind, .ref q_view_ahead])), (q_view_weights, .inl (cI, 121, .inl x_view_weights)), (q_view_ahead, .inl (cI, 11, .inl x_view_ahead)), (q_costs, .inr (2, [.ref q_view])), (q_found, .inl (cI, 5040, .inl s15)), (q_row, .inr (5, [.ref q_row_posts, .int o31])), (q_row_posts, .inl (cI, 11, .inl o32))]) (k_runV (rest := []) (ci := 2) (q0 := 4) hx hb hml hown htb hK hN (c_X2_withSpans l dC dI cI cZ cN q_costs q_view q_view_weights q_view_near q_view_behind q_view_ahead q_row q_row_posts x_view_posts x_view_roads x_view_weight x_view_weights o31 o32 x_solvedFor i2 x_row_size v33 hv _) vf_X2_withSpans t_595 hP hD [4, 1, 2, 6, 7] rfl rfl rfl rfl ⟨by simp only [rmK]; omega, by simp only [rmK]; omega⟩ rfl hl.1 rfl (Nat.le_of_ble_eq_true rfl) dX8_tryBehind_91 ⟨Nat.zero_le _, Nat.zero_le _⟩) hA hP hD hS [4, 1, 2, 6, 7] [0, 3, 5] [0, 4, 5, 1, 3, 2, 6, 7] rfl rfl rfl rfl ?_
                  clear hP hD hS
                  intro H locs hP hD hS
                  refine lv_istore (lv' := [(5, .int v33), (0, .ref q_), (1, .int i1), (2, .int i2), (3, .int x_row_size), (4, .int s12)]) hx hb dX8_tryBehind_94 hl (by decide) rfl (fun ls hl => ?_)
                  refine lv_iload hx hb dX8_tryBehind_96 (lv_at hl 0 rfl) ?_
                  refine lv_aload_n hx hb dX8_tryBehind_98 rfl (lv_at hl 1 rfl) ?_
                  refine va_get (D := (dC, dI)) (ci := 7) (v := .int s13) (C := RX8) (T := TX8) (N := 7) hx hb htb inX8 hown hK hP 0 rfl rfl 3 (Nat.le_of_ble_eq_true rfl) (htb _ t_229) (u_same (htb _ t_230)) rfl dX8_tryBehind_99 ?_
                  obtain ⟨t34, t35, t36, t37, t38, hv, hf⟩ := ob5 hf
                  have key39 : ∀ (H : Heap) (locs : List Loc) (ls : Array Slot), va_P (dC, dI) vwCl [(q_, .inr (7, [.ref q_view, .ref q_costs, .int x_solvedFor, .int t34, .int t35, .ref q_found, .ref q_row])), (q_view, .inr (8, [.int x_view_posts, .int x_view_roads, .int x_view_weight, .ref q_view_weights, .ref q_view_near, .ref q_view_behind, .ref q_view_ahead])), (q_view_weights, .inl (cI, 121, .inl x_view_weights)), (q_view_ahead, .inl (cI, 11, .inl x_view_ahead)), (q_costs, .inr (2, [.ref q_view])), (q_found, .inl (cI, 5040, .inl t36)), (q_row, .inr (5, [.ref q_row_posts, .int t37])), (q_row_posts, .inl (cI, 11, .inl t38))] H → va_D A [(q_, .inr (7, [.ref q_view, .ref q_costs, .int x_solvedFor, .int t34, .int t35, .ref q_found, .ref q_row])), (q_view, .inr (8, [.int x_view_posts, .int x_view_roads, .int x_view_weight, .ref q_view_weights, .ref q_view_near, .ref q_view_behind, .ref q_view_ahead])), (q_view_weights, .inl (cI, 121, .inl x_view_weights)), (q_view_ahead, .inl (cI, 11, .inl x_view_ahead)), (q_costs, .inr (2, [.ref q_view])), (q_found, .inl (cI, 5040, .inl t36)), (q_row, .inr (5, [.ref q_row_posts, .int t37])), (q_row_posts, .inl (cI, 11, .inl t38))] → va_S A s.heap H locs → lv_has ls 6 [(0, .ref q_), (1, .int i1), (2, .int i2), (3, .int x_row_size), (4, .int s12)] → W p l e (rmK (4 + (fd + 1)) (110 + 25 * (fd + 1))) s m args below meth c H locs 0 0 Q (F0 m 117 ls []) := by
                    intro H locs ls hP hD hS hl
                    refine lv_aload_n hx hb dX8_tryBehind_117 rfl (lv_at hl 0 rfl) ?_
                    refine va_get (D := (dC, dI)) (ci := 7) (v := .ref q_row) (C := RX8) (T := TX8) (N := 7) hx hb htb inX8 hown hK hP 0 rfl rfl 6 (Nat.le_of_ble_eq_true rfl) (htb _ t_267) (fun _ h9 => h9) rfl dX8_tryBehind_118 ?_
                    obtain ⟨o40, hv, hf⟩ := ob hf
                    refine k_afterV (wr := [(q_, .inr (7, [.ref q_view, .ref q_costs, .int x_solvedFor, .int t34, .int t35, .ref q_found, .ref q_row])), (q_view, .inr (8, [.int x_view_posts, .int x_view_roads, .int x_view_weight, .ref q_view_weights, .ref q_view_near, .ref q_view_behind, .ref q_view_ahead])), (q_view_weights, .inl (cI, 121, .inl x_view_weights)), (q_view_ahead, .inl (cI, 11, .inl x_view_ahead)), (q_costs, .inr (2, [.ref q_view])), (q_found, .inl (cI, 5040, .inl t36)), (q_row_posts, .inl (cI, 11, .inl t38))]) (wn := [(q_, .inr (7, [.ref q_view, .ref q_costs, .int x_solvedFor, .int t34, .int t35, .ref q_found, .ref q_row])), (q_view, .inr (8, [.int x_view_posts, .int x_view_roads, .int x_view_weight, .ref q_view_weights, .ref q_view_near, .ref q_view_behind, .ref q_view_ahead])), (q_view_weights, .inl (cI, 121, .inl x_view_weights)), (q_view_ahead, .inl (cI, 11, .inl x_view_ahead)), (q_costs, .inr (2, [.ref q_view])), (q_found, .inl (cI, 5040, .inl t36)), (q_row, .inr (5, [.ref q_row_posts, .int o40])), (q_row_posts, .inl (cI, 11, .inl t38))]) (k_runV (rest := []) (ci := 5) (q0 := 6) hx hb hml hown htb hK hN (c_X5_dropLast l dC dI cI cZ cN q_row q_row_posts t37 o40 hv _) vf_X5_dropLast t_596 hP hD [6] rfl rfl rfl rfl ⟨by simp only [rmK]; omega, by simp only [rmK]; omega⟩ rfl hl.1 rfl (Nat.le_of_ble_eq_true rfl) dX8_tryBehind_121 ⟨Nat.zero_le _, Nat.zero_le _⟩) hA hP hD hS [6] [0, 1, 2, 3, 4, 5, 7] [0, 1, 2, 3, 4, 5, 7, 6] rfl rfl rfl rfl ?_
                    clear hP hD hS
                    intro H locs hP hD hS
                    cases hf
                    exact key27 _ _ _ hP hD hS (lv_sub hl [0, 1, 2, 3, 4] rfl)
                  replace hf := hv
                  refine lv_icmp_gt (tgt := 117) hx hb dX8_tryBehind_102 (by decide) (fun c41 => ?_) (fun c41 => ?_)
                  · have hf := ip c41 hf
                    cases hf
                    exact key39 _ _ _ hP hD hS (lv_sub hl [1, 2, 3, 4, 5] rfl)
                  · have hf := im c41 hf
                    refine lv_aload_n hx hb dX8_tryBehind_105 rfl (lv_at hl 1 rfl) ?_
                    refine lv_iload_n hx hb dX8_tryBehind_106 rfl (lv_at hl 2 rfl) ?_
                    refine lv_iconst (v := (1 : Int32)) hx hb dX8_tryBehind_107 (by decide) ?_
                    refine lv_iload hx hb dX8_tryBehind_108 (lv_at hl 5 rfl) ?_
                    refine lv_ishl hx hb dX8_tryBehind_110 ?_
                    refine lv_ior hx hb dX8_tryBehind_111 ?_
                    refine lv_iload hx hb dX8_tryBehind_112 (lv_at hl 0 rfl) ?_
                    obtain ⟨o42, o43, o44, o45, o46, hv, hf⟩ := ob5 hf
                    refine k_afterV (wr := []) (wn := [(q_, .inr (7, [.ref q_view, .ref q_costs, .int x_solvedFor, .int o42, .int o43, .ref q_found, .ref q_row])), (q_view, .inr (8, [.int x_view_posts, .int x_view_roads, .int x_view_weight, .ref q_view_weights, .ref q_view_near, .ref q_view_behind, .ref q_view_ahead])), (q_view_weights, .inl (cI, 121, .inl x_view_weights)), (q_view_ahead, .inl (cI, 11, .inl x_view_ahead)), (q_costs, .inr (2, [.ref q_view])), (q_found, .inl (cI, 5040, .inl o44)), (q_row, .inr (5, [.ref q_row_posts, .int o45])), (q_row_posts, .inl (cI, 11, .inl o46))]) (k_runV (rest := []) (ci := 7) (q0 := 0) hx hb hml hown htb hK hN (IH q_ q_view q_costs q_found q_row q_view_weights q_view_near q_view_behind q_view_ahead q_row_posts x_solvedFor s13 s14 x_view_posts x_view_roads x_view_weight x_view_weights x_view_ahead s15 o31 o32 (i1 ||| ((1 : Int32) <<< (s12 &&& 31))) v33 o42 o43 o44 o45 o46 hv _) vf_X8_tryBehind t_581 hP hD [0, 1, 2, 3, 4, 5, 6, 7] rfl rfl rfl rfl ⟨by simp only [rmK]; omega, by simp only [rmK]; omega⟩ rfl hl.1 rfl (Nat.le_of_ble_eq_true rfl) dX8_tryBehind_114 ⟨Nat.zero_le _, Nat.zero_le _⟩) hA hP hD hS [0, 1, 2, 3, 4, 5, 6, 7] [] [0, 1, 2, 3, 4, 5, 6, 7] rfl rfl rfl rfl ?_
                    clear hP hD hS
                    intro H locs hP hD hS
                    cases hf
                    exact key39 _ _ _ hP hD hS (lv_sub hl [1, 2, 3, 4, 5] rfl)
        exact kl18 n0 _ _ _ _ _ _ hn0 _ _ _ hP hD hS (lv_sub hl [2, 3, 4, 1, 0] rfl)
      · have hf := im c5 hf
        refine lv_aload_n hx hb dX8_tryBehind_25 rfl (lv_at hl 1 rfl) ?_
        refine lv_iload_n hx hb dX8_tryBehind_26 rfl (lv_at hl 3 rfl) ?_
        obtain ⟨o47, o48, o49, hv, hf⟩ := ob3 hf
        refine k_afterV (wr := [(q_view, .inr (8, [.int x_view_posts, .int x_view_roads, .int x_view_weight, .ref q_view_weights, .ref q_view_near, .ref q_view_behind, .ref q_view_ahead])), (q_view_weights, .inl (cI, 121, .inl x_view_weights)), (q_view_ahead, .inl (cI, 11, .inl x_view_ahead)), (q_costs, .inr (2, [.ref q_view]))]) (wn := [(q_, .inr (7, [.ref q_view, .ref q_costs, .int x_solvedFor, .int o47, .int o48, .ref q_found, .ref q_row])), (q_view, .inr (8, [.int x_view_posts, .int x_view_roads, .int x_view_weight, .ref q_view_weights, .ref q_view_near, .ref q_view_behind, .ref q_view_ahead])), (q_view_weights, .inl (cI, 121, .inl x_view_weights)), (q_view_ahead, .inl (cI, 11, .inl x_view_ahead)), (q_costs, .inr (2, [.ref q_view])), (q_found, .inl (cI, 5040, .inl o49)), (q_row, .inr (5, [.ref q_row_posts, .int x_row_size])), (q_row_posts, .inl (cI, 11, .inl x_row_posts))]) (k_runV (rest := []) (ci := 7) (q0 := 0) hx hb hml hown htb hK hN (c_X8_meet l dC dI cI cZ cN q_ q_view q_costs q_found q_row q_row_posts x_solvedFor x_lowest x_total x_found x_row_size x_row_posts i2 o47 o48 o49 hv _) vf_X8_meet t_585 hP hD [0, 5, 6, 7] rfl rfl rfl rfl ⟨by simp only [rmK]; omega, by simp only [rmK]; omega⟩ rfl hl.1 rfl (Nat.le_of_ble_eq_true rfl) dX8_tryBehind_27 ⟨Nat.zero_le _, Nat.zero_le _⟩) hA hP hD hS [0, 5, 6, 7] [1, 2, 3, 4] [4, 0, 1, 2, 3, 5, 6, 7] rfl rfl rfl rfl ?_
        clear hP hD hS
        intro H locs hP hD hS
        exact hret _ _ _ _ _ hf _ _ _ _ dX8_tryBehind_30 hP hD hS
theorem uf_X8_solve : UF yX8_solve cX8_solve 2 none 1 := ⟨t_577, t_12, t_578, by decide +kernel, by decide +kernel, by decide +kernel⟩
theorem dX8_solve_0 : decode cX8_solve 0 = .ok (.aload_n 0, 1) := by decide +kernel
theorem dX8_solve_1 : decode cX8_solve 1 = .ok (.getfield 24, 3) := by decide +kernel
theorem dX8_solve_4 : decode cX8_solve 4 = .ok (.iload_n 1, 1) := by decide +kernel
theorem dX8_solve_5 : decode cX8_solve 5 = .ok (.if_icmp .ne 4, 3) := by decide +kernel
theorem dX8_solve_8 : decode cX8_solve 8 = .ok (.return_, 1) := by decide +kernel
theorem dX8_solve_9 : decode cX8_solve 9 = .ok (.aload_n 0, 1) := by decide +kernel
theorem dX8_solve_10 : decode cX8_solve 10 = .ok (.iload_n 1, 1) := by decide +kernel
theorem dX8_solve_11 : decode cX8_solve 11 = .ok (.putfield 24, 3) := by decide +kernel
theorem dX8_solve_14 : decode cX8_solve 14 = .ok (.aload_n 0, 1) := by decide +kernel
theorem dX8_solve_15 : decode cX8_solve 15 = .ok (.ldc 28, 2) := by decide +kernel
theorem dX8_solve_17 : decode cX8_solve 17 = .ok (.putfield 29, 3) := by decide +kernel
theorem dX8_solve_20 : decode cX8_solve 20 = .ok (.aload_n 0, 1) := by decide +kernel
theorem dX8_solve_21 : decode cX8_solve 21 = .ok (.iconst 0, 1) := by decide +kernel
theorem dX8_solve_22 : decode cX8_solve 22 = .ok (.putfield 32, 3) := by decide +kernel
theorem dX8_solve_25 : decode cX8_solve 25 = .ok (.aload_n 0, 1) := by decide +kernel
theorem dX8_solve_26 : decode cX8_solve 26 = .ok (.getfield 20, 3) := by decide +kernel
theorem dX8_solve_29 : decode cX8_solve 29 = .ok (.invokevirtual 35, 3) := by decide +kernel
theorem dX8_solve_32 : decode cX8_solve 32 = .ok (.aload_n 0, 1) := by decide +kernel
theorem dX8_solve_33 : decode cX8_solve 33 = .ok (.iconst 0, 1) := by decide +kernel
theorem dX8_solve_34 : decode cX8_solve 34 = .ok (.iconst 0, 1) := by decide +kernel
theorem dX8_solve_35 : decode cX8_solve 35 = .ok (.invokevirtual 38, 3) := by decide +kernel
theorem dX8_solve_38 : decode cX8_solve 38 = .ok (.return_, 1) := by decide +kernel
noncomputable def f_X8_solve (x_solvedFor : Int32) (x_lowest : Int32) (x_total : Int32) (x_view_posts : Int32) (x_view_weights : Nat → Int32) (x_view_ahead : Nat → Int32) (x_found : Nat → Int32) (x_row_size : Int32) (x_row_posts : Nat → Int32) (i1 : Int32) : Option (Int32 × Int32 × Int32 × (Nat → Int32) × Int32 × (Nat → Int32)) :=
  if x_solvedFor = i1 then (some ((x_solvedFor, x_lowest, x_total, x_found, x_row_size, x_row_posts))) else ((f_X5_clear x_row_size).bind fun o2 =>
  b5 (f_X8_tryBehind 8 i1 (1073741824 : Int32) (0 : Int32) x_view_posts x_view_weights x_view_ahead x_found o2 x_row_posts (0 : Int32) (0 : Int32)) fun o3 o4 o5 o6 o7 =>
  some ((i1, o3, o4, o5, o6, o7)))
set_option maxHeartbeats 4000000 in
set_option maxRecDepth 100000 in
theorem c_X8_solve (l : Launch) (dC : Nat → ClassId) (dI : Nat → Nat → Nat) (cI cZ cN : ClassId) (q_ : Nat) (q_view : Nat) (q_costs : Nat) (q_found : Nat) (q_row : Nat) (q_view_weights : Nat) (q_view_near : Nat) (q_view_behind : Nat) (q_view_ahead : Nat) (q_row_posts : Nat) (x_solvedFor : Int32) (x_lowest : Int32) (x_total : Int32) (x_view_posts : Int32) (x_view_roads : Int32) (x_view_weight : Int32) (x_view_weights : Nat → Int32) (x_view_ahead : Nat → Int32) (x_found : Nat → Int32) (x_row_size : Int32) (x_row_posts : Nat → Int32) (i1 : Int32) (o_solvedFor : Int32) (o_lowest : Int32) (o_total : Int32) (o_found : Nat → Int32) (o_row_size : Int32) (o_row_posts : Nat → Int32) (hf : f_X8_solve x_solvedFor x_lowest x_total x_view_posts x_view_weights x_view_ahead x_found x_row_size x_row_posts i1 = some (o_solvedFor, o_lowest, o_total, o_found, o_row_size, o_row_posts)) : CV l yX8_solve cX8_solve 2 none 13 335 (dC, dI) (TY cI cZ cN) [.ref q_, .int i1] [(q_, .inr (7, [.ref q_view, .ref q_costs, .int x_solvedFor, .int x_lowest, .int x_total, .ref q_found, .ref q_row])), (q_view, .inr (8, [.int x_view_posts, .int x_view_roads, .int x_view_weight, .ref q_view_weights, .ref q_view_near, .ref q_view_behind, .ref q_view_ahead])), (q_view_weights, .inl (cI, 121, .inl x_view_weights)), (q_view_ahead, .inl (cI, 11, .inl x_view_ahead)), (q_costs, .inr (2, [.ref q_view])), (q_found, .inl (cI, 5040, .inl x_found)), (q_row, .inr (5, [.ref q_row_posts, .int x_row_size])), (q_row_posts, .inl (cI, 11, .inl x_row_posts))] [(q_, .inr (7, [.ref q_view, .ref q_costs, .int o_solvedFor, .int o_lowest, .int o_total, .ref q_found, .ref q_row])), (q_view, .inr (8, [.int x_view_posts, .int x_view_roads, .int x_view_weight, .ref q_view_weights, .ref q_view_near, .ref q_view_behind, .ref q_view_ahead])), (q_view_weights, .inl (cI, 121, .inl x_view_weights)), (q_view_ahead, .inl (cI, 11, .inl x_view_ahead)), (q_costs, .inr (2, [.ref q_view])), (q_found, .inl (cI, 5040, .inl o_found)), (q_row, .inr (5, [.ref q_row_posts, .int o_row_size])), (q_row_posts, .inl (cI, 11, .inl o_row_posts))] := by
  refine CV.of (by decide) (Nat.le_of_ble_eq_true rfl) ?_
  intro p e s m args below meth c Q A ls hx hb hml hown htb hK hN hA hP hD hS hl hret
  have hown : s.vm.findClass RX8 = some m.cls := hown
  have hl : lv_has ls 2 [(0, .ref q_), (1, .int i1)] := hl
  have hret : ∀ (o9_solvedFor : Int32) (o9_lowest : Int32) (o9_total : Int32) (o9_found : Nat → Int32) (o9_row_size : Int32) (o9_row_posts : Nat → Int32), some (o9_solvedFor, o9_lowest, o9_total, o9_found, o9_row_size, o9_row_posts) = some (o_solvedFor, o_lowest, o_total, o_found, o_row_size, o_row_posts) → ∀ (H : Heap) (locs : List Loc) (pc : Nat) (ls : Array Slot), decode cX8_solve pc = .ok (.return_, 1) → va_P (dC, dI) vwCl [(q_, .inr (7, [.ref q_view, .ref q_costs, .int o9_solvedFor, .int o9_lowest, .int o9_total, .ref q_found, .ref q_row])), (q_view, .inr (8, [.int x_view_posts, .int x_view_roads, .int x_view_weight, .ref q_view_weights, .ref q_view_near, .ref q_view_behind, .ref q_view_ahead])), (q_view_weights, .inl (cI, 121, .inl x_view_weights)), (q_view_ahead, .inl (cI, 11, .inl x_view_ahead)), (q_costs, .inr (2, [.ref q_view])), (q_found, .inl (cI, 5040, .inl o9_found)), (q_row, .inr (5, [.ref q_row_posts, .int o9_row_size])), (q_row_posts, .inl (cI, 11, .inl o9_row_posts))] H → va_D A [(q_, .inr (7, [.ref q_view, .ref q_costs, .int o9_solvedFor, .int o9_lowest, .int o9_total, .ref q_found, .ref q_row])), (q_view, .inr (8, [.int x_view_posts, .int x_view_roads, .int x_view_weight, .ref q_view_weights, .ref q_view_near, .ref q_view_behind, .ref q_view_ahead])), (q_view_weights, .inl (cI, 121, .inl x_view_weights)), (q_view_ahead, .inl (cI, 11, .inl x_view_ahead)), (q_costs, .inr (2, [.ref q_view])), (q_found, .inl (cI, 5040, .inl o9_found)), (q_row, .inr (5, [.ref q_row_posts, .int o9_row_size])), (q_row_posts, .inl (cI, 11, .inl o9_row_posts))] → va_S A s.heap H locs → W p l e (rmK 13 335) s m args below meth c H locs 0 0 Q (F0 m pc ls []) := by
    intro o9_solvedFor o9_lowest o9_total o9_found o9_row_size o9_row_posts h9
    cases h9
    exact hret
  unfold f_X8_solve at hf
  refine lv_aload_n hx hb dX8_solve_0 rfl (lv_at hl 0 rfl) ?_
  refine va_get (D := (dC, dI)) (ci := 7) (v := .int x_solvedFor) (C := RX8) (T := TX8) (N := 7) hx hb htb inX8 hown hK hP 0 rfl rfl 2 (Nat.le_of_ble_eq_true rfl) (htb _ t_225) (u_same (htb _ t_226)) rfl dX8_solve_1 ?_
  refine lv_iload_n hx hb dX8_solve_4 rfl (lv_at hl 1 rfl) ?_
  refine lv_icmp_ne (tgt := 9) hx hb dX8_solve_5 (by decide) (fun c1 => ?_) (fun c1 => ?_)
  · have hf := im c1 hf
    refine lv_aload_n hx hb dX8_solve_9 rfl (lv_at hl 0 rfl) ?_
    refine lv_iload_n hx hb dX8_solve_10 rfl (lv_at hl 1 rfl) ?_
    refine k_put (wn := [(q_, .inr (7, [.ref q_view, .ref q_costs, .int i1, .int x_lowest, .int x_total, .ref q_found, .ref q_row])), (q_view, .inr (8, [.int x_view_posts, .int x_view_roads, .int x_view_weight, .ref q_view_weights, .ref q_view_near, .ref q_view_behind, .ref q_view_ahead])), (q_view_weights, .inl (cI, 121, .inl x_view_weights)), (q_view_ahead, .inl (cI, 11, .inl x_view_ahead)), (q_costs, .inr (2, [.ref q_view])), (q_found, .inl (cI, 5040, .inl x_found)), (q_row, .inr (5, [.ref q_row_posts, .int x_row_size])), (q_row_posts, .inl (cI, 11, .inl x_row_posts))]) (C := RX8) (T := TX8) (N := 7) (ci := 7) hx hb htb inX8 tyX8 tyX8_ok nmX8 hown hK hP hD hS 0 rfl rfl 2 (Nat.le_of_ble_eq_true rfl) t_225 (u_same (htb _ t_226)) rfl (tyX8_ok 2 (Nat.le_of_ble_eq_true rfl)) (Nat.le_of_ble_eq_true rfl) rfl dX8_solve_11 ?_
    clear hP hD hS
    intro H locs hP hD hS
    refine lv_aload_n hx hb dX8_solve_14 rfl (lv_at hl 0 rfl) ?_
    refine lv_ldc (v := (1073741824 : Int32)) hx hb hown (htb _ t_579) dX8_solve_15 ?_
    refine k_put (wn := [(q_, .inr (7, [.ref q_view, .ref q_costs, .int i1, .int (1073741824 : Int32), .int x_total, .ref q_found, .ref q_row])), (q_view, .inr (8, [.int x_view_posts, .int x_view_roads, .int x_view_weight, .ref q_view_weights, .ref q_view_near, .ref q_view_behind, .ref q_view_ahead])), (q_view_weights, .inl (cI, 121, .inl x_view_weights)), (q_view_ahead, .inl (cI, 11, .inl x_view_ahead)), (q_costs, .inr (2, [.ref q_view])), (q_found, .inl (cI, 5040, .inl x_found)), (q_row, .inr (5, [.ref q_row_posts, .int x_row_size])), (q_row_posts, .inl (cI, 11, .inl x_row_posts))]) (C := RX8) (T := TX8) (N := 7) (ci := 7) hx hb htb inX8 tyX8 tyX8_ok nmX8 hown hK hP hD hS 0 rfl rfl 3 (Nat.le_of_ble_eq_true rfl) t_229 (u_same (htb _ t_230)) rfl (tyX8_ok 3 (Nat.le_of_ble_eq_true rfl)) (Nat.le_of_ble_eq_true rfl) rfl dX8_solve_17 ?_
    clear hP hD hS
    intro H locs hP hD hS
    refine lv_aload_n hx hb dX8_solve_20 rfl (lv_at hl 0 rfl) ?_
    refine lv_iconst (v := (0 : Int32)) hx hb dX8_solve_21 (by decide) ?_
    refine k_put (wn := [(q_, .inr (7, [.ref q_view, .ref q_costs, .int i1, .int (1073741824 : Int32), .int (0 : Int32), .ref q_found, .ref q_row])), (q_view, .inr (8, [.int x_view_posts, .int x_view_roads, .int x_view_weight, .ref q_view_weights, .ref q_view_near, .ref q_view_behind, .ref q_view_ahead])), (q_view_weights, .inl (cI, 121, .inl x_view_weights)), (q_view_ahead, .inl (cI, 11, .inl x_view_ahead)), (q_costs, .inr (2, [.ref q_view])), (q_found, .inl (cI, 5040, .inl x_found)), (q_row, .inr (5, [.ref q_row_posts, .int x_row_size])), (q_row_posts, .inl (cI, 11, .inl x_row_posts))]) (C := RX8) (T := TX8) (N := 7) (ci := 7) hx hb htb inX8 tyX8 tyX8_ok nmX8 hown hK hP hD hS 0 rfl rfl 4 (Nat.le_of_ble_eq_true rfl) t_234 (u_same (htb _ t_235)) rfl (tyX8_ok 4 (Nat.le_of_ble_eq_true rfl)) (Nat.le_of_ble_eq_true rfl) rfl dX8_solve_22 ?_
    clear hP hD hS
    intro H locs hP hD hS
    refine lv_aload_n hx hb dX8_solve_25 rfl (lv_at hl 0 rfl) ?_
    refine va_get (D := (dC, dI)) (ci := 7) (v := .ref q_row) (C := RX8) (T := TX8) (N := 7) hx hb htb inX8 hown hK hP 0 rfl rfl 6 (Nat.le_of_ble_eq_true rfl) (htb _ t_267) (fun _ h9 => h9) rfl dX8_solve_26 ?_
    obtain ⟨o2, hv, hf⟩ := ob hf
    refine k_afterV (wr := [(q_, .inr (7, [.ref q_view, .ref q_costs, .int i1, .int (1073741824 : Int32), .int (0 : Int32), .ref q_found, .ref q_row])), (q_view, .inr (8, [.int x_view_posts, .int x_view_roads, .int x_view_weight, .ref q_view_weights, .ref q_view_near, .ref q_view_behind, .ref q_view_ahead])), (q_view_weights, .inl (cI, 121, .inl x_view_weights)), (q_view_ahead, .inl (cI, 11, .inl x_view_ahead)), (q_costs, .inr (2, [.ref q_view])), (q_found, .inl (cI, 5040, .inl x_found)), (q_row_posts, .inl (cI, 11, .inl x_row_posts))]) (wn := [(q_, .inr (7, [.ref q_view, .ref q_costs, .int i1, .int (1073741824 : Int32), .int (0 : Int32), .ref q_found, .ref q_row])), (q_view, .inr (8, [.int x_view_posts, .int x_view_roads, .int x_view_weight, .ref q_view_weights, .ref q_view_near, .ref q_view_behind, .ref q_view_ahead])), (q_view_weights, .inl (cI, 121, .inl x_view_weights)), (q_view_ahead, .inl (cI, 11, .inl x_view_ahead)), (q_costs, .inr (2, [.ref q_view])), (q_found, .inl (cI, 5040, .inl x_found)), (q_row, .inr (5, [.ref q_row_posts, .int o2])), (q_row_posts, .inl (cI, 11, .inl x_row_posts))]) (k_runV (rest := []) (ci := 5) (q0 := 6) hx hb hml hown htb hK hN (c_X5_clear l dC dI cI cZ cN q_row q_row_posts x_row_size o2 hv _) vf_X5_clear t_580 hP hD [6] rfl rfl rfl rfl ⟨(Nat.le_of_ble_eq_true rfl), (Nat.le_of_ble_eq_true rfl)⟩ rfl hl.1 rfl (Nat.le_of_ble_eq_true rfl) dX8_solve_29 ⟨Nat.zero_le _, Nat.zero_le _⟩) hA hP hD hS [6] [0, 1, 2, 3, 4, 5, 7] [0, 1, 2, 3, 4, 5, 7, 6] rfl rfl rfl rfl ?_
    clear hP hD hS
    intro H locs hP hD hS
    refine lv_aload_n hx hb dX8_solve_32 rfl (lv_at hl 0 rfl) ?_
    refine lv_iconst (v := (0 : Int32)) hx hb dX8_solve_33 (by decide) ?_
    refine lv_iconst (v := (0 : Int32)) hx hb dX8_solve_34 (by decide) ?_
    obtain ⟨o3, o4, o5, o6, o7, hv, hf⟩ := ob5 hf
    refine k_afterV (wr := []) (wn := [(q_, .inr (7, [.ref q_view, .ref q_costs, .int i1, .int o3, .int o4, .ref q_found, .ref q_row])), (q_view, .inr (8, [.int x_view_posts, .int x_view_roads, .int x_view_weight, .ref q_view_weights, .ref q_view_near, .ref q_view_behind, .ref q_view_ahead])), (q_view_weights, .inl (cI, 121, .inl x_view_weights)), (q_view_ahead, .inl (cI, 11, .inl x_view_ahead)), (q_costs, .inr (2, [.ref q_view])), (q_found, .inl (cI, 5040, .inl o5)), (q_row, .inr (5, [.ref q_row_posts, .int o6])), (q_row_posts, .inl (cI, 11, .inl o7))]) (k_runV (rest := []) (ci := 7) (q0 := 0) hx hb hml hown htb hK hN (c_X8_tryBehind l dC dI cI cZ cN 8 q_ q_view q_costs q_found q_row q_view_weights q_view_near q_view_behind q_view_ahead q_row_posts i1 (1073741824 : Int32) (0 : Int32) x_view_posts x_view_roads x_view_weight x_view_weights x_view_ahead x_found o2 x_row_posts (0 : Int32) (0 : Int32) o3 o4 o5 o6 o7 hv _) vf_X8_tryBehind t_581 hP hD [0, 1, 2, 3, 4, 5, 6, 7] rfl rfl rfl rfl ⟨(Nat.le_of_ble_eq_true rfl), (Nat.le_of_ble_eq_true rfl)⟩ rfl hl.1 rfl (Nat.le_of_ble_eq_true rfl) dX8_solve_35 ⟨Nat.zero_le _, Nat.zero_le _⟩) hA hP hD hS [0, 1, 2, 3, 4, 5, 6, 7] [] [0, 1, 2, 3, 4, 5, 6, 7] rfl rfl rfl rfl ?_
    clear hP hD hS
    intro H locs hP hD hS
    exact hret _ _ _ _ _ _ hf _ _ _ _ dX8_solve_38 hP hD hS
  · have hf := ip c1 hf
    exact hret _ _ _ _ _ _ hf _ _ _ _ dX8_solve_8 hP hD hS
theorem uf_X8_pick : UF yX8_pick cX8_pick 5 none 2 := ⟨t_621, t_12, t_622, by decide +kernel, by decide +kernel, by decide +kernel⟩
theorem dX8_pick_0 : decode cX8_pick 0 = .ok (.aload_n 2, 1) := by decide +kernel
theorem dX8_pick_1 : decode cX8_pick 1 = .ok (.invokevirtual 35, 3) := by decide +kernel
theorem dX8_pick_4 : decode cX8_pick 4 = .ok (.iconst 0, 1) := by decide +kernel
theorem dX8_pick_5 : decode cX8_pick 5 = .ok (.istore_n 3, 1) := by decide +kernel
theorem dX8_pick_6 : decode cX8_pick 6 = .ok (.iload_n 3, 1) := by decide +kernel
theorem dX8_pick_7 : decode cX8_pick 7 = .ok (.aload_n 0, 1) := by decide +kernel
theorem dX8_pick_8 : decode cX8_pick 8 = .ok (.getfield 45, 3) := by decide +kernel
theorem dX8_pick_11 : decode cX8_pick 11 = .ok (.getfield 49, 3) := by decide +kernel
theorem dX8_pick_14 : decode cX8_pick 14 = .ok (.if_icmp .ge 40, 3) := by decide +kernel
theorem dX8_pick_17 : decode cX8_pick 17 = .ok (.iconst 3, 1) := by decide +kernel
theorem dX8_pick_18 : decode cX8_pick 18 = .ok (.aload_n 0, 1) := by decide +kernel
theorem dX8_pick_19 : decode cX8_pick 19 = .ok (.getfield 45, 3) := by decide +kernel
theorem dX8_pick_22 : decode cX8_pick 22 = .ok (.getfield 49, 3) := by decide +kernel
theorem dX8_pick_25 : decode cX8_pick 25 = .ok (.iconst 1, 1) := by decide +kernel
theorem dX8_pick_26 : decode cX8_pick 26 = .ok (.isub, 1) := by decide +kernel
theorem dX8_pick_27 : decode cX8_pick 27 = .ok (.iload_n 3, 1) := by decide +kernel
theorem dX8_pick_28 : decode cX8_pick 28 = .ok (.isub, 1) := by decide +kernel
theorem dX8_pick_29 : decode cX8_pick 29 = .ok (.imul, 1) := by decide +kernel
theorem dX8_pick_30 : decode cX8_pick 30 = .ok (.istore 4, 2) := by decide +kernel
theorem dX8_pick_32 : decode cX8_pick 32 = .ok (.aload_n 2, 1) := by decide +kernel
theorem dX8_pick_33 : decode cX8_pick 33 = .ok (.aload_n 0, 1) := by decide +kernel
theorem dX8_pick_34 : decode cX8_pick 34 = .ok (.getfield 9, 3) := by decide +kernel
theorem dX8_pick_37 : decode cX8_pick 37 = .ok (.iload_n 1, 1) := by decide +kernel
theorem dX8_pick_38 : decode cX8_pick 38 = .ok (.iaload, 1) := by decide +kernel
theorem dX8_pick_39 : decode cX8_pick 39 = .ok (.iload 4, 2) := by decide +kernel
theorem dX8_pick_41 : decode cX8_pick 41 = .ok (.ishr, 1) := by decide +kernel
theorem dX8_pick_42 : decode cX8_pick 42 = .ok (.bipush 7, 2) := by decide +kernel
theorem dX8_pick_44 : decode cX8_pick 44 = .ok (.iand, 1) := by decide +kernel
theorem dX8_pick_45 : decode cX8_pick 45 = .ok (.invokevirtual 65, 3) := by decide +kernel
theorem dX8_pick_48 : decode cX8_pick 48 = .ok (.iinc 3 1, 3) := by decide +kernel
theorem dX8_pick_51 : decode cX8_pick 51 = .ok (.goto (-45), 3) := by decide +kernel
theorem dX8_pick_54 : decode cX8_pick 54 = .ok (.return_, 1) := by decide +kernel
noncomputable def f_X8_pick_L6 (i1 : Int32) (x_view_posts : Int32) (x_found : Nat → Int32) (i3 : Int32) (x_p2_size : Int32) (x_p2_posts : Nat → Int32) : Option ((Int32 × Int32 × (Nat → Int32)) ⊕ (Int32 × (Nat → Int32))) :=
  if x_view_posts ≤ i3 then (some (.inr (x_p2_size, x_p2_posts))) else ((gi x_found 5040 i1).bind fun v3 =>
  b2 (f_X5_append x_p2_size x_p2_posts ((v3 >>> (((3 : Int32) * ((x_view_posts - (1 : Int32)) - i3)) &&& 31)) &&& (7 : Int32))) fun o4 o5 =>
  some (.inl ((i3 + (1 : Int32)), o4, o5)))
noncomputable def f_X8_pick (x_view_posts : Int32) (x_found : Nat → Int32) (x_p2_size : Int32) (x_p2_posts : Nat → Int32) (i1 : Int32) : Option (Int32 × (Nat → Int32)) :=
  (f_X5_clear x_p2_size).bind fun o1 =>
  b2 (loopS (fun (s : Int32 × Int32 × (Nat → Int32)) => f_X8_pick_L6 i1 x_view_posts x_found s.1 s.2.1 s.2.2) ((0 : Int32), o1, x_p2_posts)) fun x2 x3 =>
  some ((x2, x3))
set_option maxHeartbeats 4000000 in
set_option maxRecDepth 100000 in
theorem c_X8_pick (l : Launch) (dC : Nat → ClassId) (dI : Nat → Nat → Nat) (cI cZ cN : ClassId) (q_ : Nat) (q_view : Nat) (q_costs : Nat) (q_found : Nat) (q_row : Nat) (q_view_weights : Nat) (q_view_near : Nat) (q_view_behind : Nat) (q_view_ahead : Nat) (q_p2 : Nat) (q_p2_posts : Nat) (x_solvedFor : Int32) (x_lowest : Int32) (x_total : Int32) (x_view_posts : Int32) (x_view_roads : Int32) (x_view_weight : Int32) (x_found : Nat → Int32) (x_p2_size : Int32) (x_p2_posts : Nat → Int32) (i1 : Int32) (o_p2_size : Int32) (o_p2_posts : Nat → Int32) (hf : f_X8_pick x_view_posts x_found x_p2_size x_p2_posts i1 = some (o_p2_size, o_p2_posts)) : CV l yX8_pick cX8_pick 5 none 3 81 (dC, dI) (TY cI cZ cN) [.ref q_, .int i1, .ref q_p2] [(q_, .inr (7, [.ref q_view, .ref q_costs, .int x_solvedFor, .int x_lowest, .int x_total, .ref q_found, .ref q_row])), (q_view, .inr (8, [.int x_view_posts, .int x_view_roads, .int x_view_weight, .ref q_view_weights, .ref q_view_near, .ref q_view_behind, .ref q_view_ahead])), (q_found, .inl (cI, 5040, .inl x_found)), (q_p2, .inr (5, [.ref q_p2_posts, .int x_p2_size])), (q_p2_posts, .inl (cI, 11, .inl x_p2_posts))] [(q_, .inr (7, [.ref q_view, .ref q_costs, .int x_solvedFor, .int x_lowest, .int x_total, .ref q_found, .ref q_row])), (q_view, .inr (8, [.int x_view_posts, .int x_view_roads, .int x_view_weight, .ref q_view_weights, .ref q_view_near, .ref q_view_behind, .ref q_view_ahead])), (q_found, .inl (cI, 5040, .inl x_found)), (q_p2, .inr (5, [.ref q_p2_posts, .int o_p2_size])), (q_p2_posts, .inl (cI, 11, .inl o_p2_posts))] := by
  refine CV.of (by decide) (Nat.le_of_ble_eq_true rfl) ?_
  intro p e s m args below meth c Q A ls hx hb hml hown htb hK hN hA hP hD hS hl hret
  have hown : s.vm.findClass RX8 = some m.cls := hown
  have hl : lv_has ls 5 [(0, .ref q_), (1, .int i1), (2, .ref q_p2)] := hl
  have hret : ∀ (o9_p2_size : Int32) (o9_p2_posts : Nat → Int32), some (o9_p2_size, o9_p2_posts) = some (o_p2_size, o_p2_posts) → ∀ (H : Heap) (locs : List Loc) (pc : Nat) (ls : Array Slot), decode cX8_pick pc = .ok (.return_, 1) → va_P (dC, dI) vwCl [(q_, .inr (7, [.ref q_view, .ref q_costs, .int x_solvedFor, .int x_lowest, .int x_total, .ref q_found, .ref q_row])), (q_view, .inr (8, [.int x_view_posts, .int x_view_roads, .int x_view_weight, .ref q_view_weights, .ref q_view_near, .ref q_view_behind, .ref q_view_ahead])), (q_found, .inl (cI, 5040, .inl x_found)), (q_p2, .inr (5, [.ref q_p2_posts, .int o9_p2_size])), (q_p2_posts, .inl (cI, 11, .inl o9_p2_posts))] H → va_D A [(q_, .inr (7, [.ref q_view, .ref q_costs, .int x_solvedFor, .int x_lowest, .int x_total, .ref q_found, .ref q_row])), (q_view, .inr (8, [.int x_view_posts, .int x_view_roads, .int x_view_weight, .ref q_view_weights, .ref q_view_near, .ref q_view_behind, .ref q_view_ahead])), (q_found, .inl (cI, 5040, .inl x_found)), (q_p2, .inr (5, [.ref q_p2_posts, .int o9_p2_size])), (q_p2_posts, .inl (cI, 11, .inl o9_p2_posts))] → va_S A s.heap H locs → W p l e (rmK 3 81) s m args below meth c H locs 0 0 Q (F0 m pc ls []) := by
    intro o9_p2_size o9_p2_posts h9
    cases h9
    exact hret
  unfold f_X8_pick at hf
  refine lv_aload_n hx hb dX8_pick_0 rfl (lv_at hl 2 rfl) ?_
  obtain ⟨o1, hv, hf⟩ := ob hf
  refine k_afterV (wr := [(q_, .inr (7, [.ref q_view, .ref q_costs, .int x_solvedFor, .int x_lowest, .int x_total, .ref q_found, .ref q_row])), (q_view, .inr (8, [.int x_view_posts, .int x_view_roads, .int x_view_weight, .ref q_view_weights, .ref q_view_near, .ref q_view_behind, .ref q_view_ahead])), (q_found, .inl (cI, 5040, .inl x_found)), (q_p2_posts, .inl (cI, 11, .inl x_p2_posts))]) (wn := [(q_, .inr (7, [.ref q_view, .ref q_costs, .int x_solvedFor, .int x_lowest, .int x_total, .ref q_found, .ref q_row])), (q_view, .inr (8, [.int x_view_posts, .int x_view_roads, .int x_view_weight, .ref q_view_weights, .ref q_view_near, .ref q_view_behind, .ref q_view_ahead])), (q_found, .inl (cI, 5040, .inl x_found)), (q_p2, .inr (5, [.ref q_p2_posts, .int o1])), (q_p2_posts, .inl (cI, 11, .inl x_p2_posts))]) (k_runV (rest := []) (ci := 5) (q0 := 3) hx hb hml hown htb hK hN (c_X5_clear l dC dI cI cZ cN q_p2 q_p2_posts x_p2_size o1 hv _) vf_X5_clear t_580 hP hD [3] rfl rfl rfl rfl ⟨(Nat.le_of_ble_eq_true rfl), (Nat.le_of_ble_eq_true rfl)⟩ rfl hl.1 rfl (Nat.le_of_ble_eq_true rfl) dX8_pick_1 ⟨Nat.zero_le _, Nat.zero_le _⟩) hA hP hD hS [3] [0, 1, 2, 4] [0, 1, 2, 4, 3] rfl rfl rfl rfl ?_
  clear hP hD hS
  intro H locs hP hD hS
  refine lv_iconst (v := (0 : Int32)) hx hb dX8_pick_4 (by decide) ?_
  refine lv_istore_n (lv' := [(3, .int (0 : Int32)), (0, .ref q_), (1, .int i1), (2, .ref q_p2)]) hx hb dX8_pick_5 rfl hl (by decide) rfl (fun ls hl => ?_)
  obtain ⟨x2, x3, hL, hf⟩ := ob2 hf
  have kx4 : ∀ (H : Heap) (locs : List Loc) (ls : Array Slot), va_P (dC, dI) vwCl [(q_, .inr (7, [.ref q_view, .ref q_costs, .int x_solvedFor, .int x_lowest, .int x_total, .ref q_found, .ref q_row])), (q_view, .inr (8, [.int x_view_posts, .int x_view_roads, .int x_view_weight, .ref q_view_weights, .ref q_view_near, .ref q_view_behind, .ref q_view_ahead])), (q_found, .inl (cI, 5040, .inl x_found)), (q_p2, .inr (5, [.ref q_p2_posts, .int x2])), (q_p2_posts, .inl (cI, 11, .inl x3))] H → va_D A [(q_, .inr (7, [.ref q_view, .ref q_costs, .int x_solvedFor, .int x_lowest, .int x_total, .ref q_found, .ref q_row])), (q_view, .inr (8, [.int x_view_posts, .int x_view_roads, .int x_view_weight, .ref q_view_weights, .ref q_view_near, .ref q_view_behind, .ref q_view_ahead])), (q_found, .inl (cI, 5040, .inl x_found)), (q_p2, .inr (5, [.ref q_p2_posts, .int x2])), (q_p2_posts, .inl (cI, 11, .inl x3))] → va_S A s.heap H locs → lv_has ls 5 [] → W p l e (rmK 3 81) s m args below meth c H locs 0 0 Q (F0 m 54 ls []) := by
    intro H locs ls hP hD hS hl
    exact hret _ _ hf _ _ _ _ dX8_pick_54 hP hD hS
  obtain ⟨n0, hn0⟩ := loopS_iter hL
  clear hf
  have kl8 : ∀ (n : Nat) (s5 : Int32) (s6 : Int32) (s7 : Nat → Int32), iterS (fun (s : Int32 × Int32 × (Nat → Int32)) => f_X8_pick_L6 i1 x_view_posts x_found s.1 s.2.1 s.2.2) n (s5, s6, s7) = some (x2, x3) → ∀ (H : Heap) (locs : List Loc) (ls : Array Slot), va_P (dC, dI) vwCl [(q_, .inr (7, [.ref q_view, .ref q_costs, .int x_solvedFor, .int x_lowest, .int x_total, .ref q_found, .ref q_row])), (q_view, .inr (8, [.int x_view_posts, .int x_view_roads, .int x_view_weight, .ref q_view_weights, .ref q_view_near, .ref q_view_behind, .ref q_view_ahead])), (q_found, .inl (cI, 5040, .inl x_found)), (q_p2, .inr (5, [.ref q_p2_posts, .int s6])), (q_p2_posts, .inl (cI, 11, .inl s7))] H → va_D A [(q_, .inr (7, [.ref q_view, .ref q_costs, .int x_solvedFor, .int x_lowest, .int x_total, .ref q_found, .ref q_row])), (q_view, .inr (8, [.int x_view_posts, .int x_view_roads, .int x_view_weight, .ref q_view_weights, .ref q_view_near, .ref q_view_behind, .ref q_view_ahead])), (q_found, .inl (cI, 5040, .inl x_found)), (q_p2, .inr (5, [.ref q_p2_posts, .int s6])), (q_p2_posts, .inl (cI, 11, .inl s7))] → va_S A s.heap H locs → lv_has ls 5 [(0, .ref q_), (1, .int i1), (2, .ref q_p2), (3, .int s5)] → W p l e (rmK 3 81) s m args below meth c H locs 0 0 Q (F0 m 6 ls []) := by
    intro n
    induction n with
    | zero =>
      intro s5 s6 s7 hn1
      cases hn1
    | succ n ih1 =>
      intro s5 s6 s7 hn1 H locs ls hP hD hS hl
      obtain ⟨r9, hf, hn1⟩ := it1 hn1
      replace hf : f_X8_pick_L6 i1 x_view_posts x_found s5 s6 s7 = some r9 := hf
      unfold f_X8_pick_L6 at hf
      refine lv_iload_n hx hb dX8_pick_6 rfl (lv_at hl 3 rfl) ?_
      refine lv_aload_n hx hb dX8_pick_7 rfl (lv_at hl 0 rfl) ?_
      refine va_get (D := (dC, dI)) (ci := 7) (v := .ref q_view) (C := RX8) (T := TX8) (N := 7) hx hb htb inX8 hown hK hP 0 rfl rfl 0 (Nat.le_of_ble_eq_true rfl) (htb _ t_215) (u_same (htb _ t_216)) rfl dX8_pick_8 ?_
      refine va_get (D := (dC, dI)) (ci := 8) (v := .int x_view_posts) (C := RX9) (T := TX9) (N := 7) hx hb htb inX9 hown hK hP 1 rfl rfl 0 (Nat.le_of_ble_eq_true rfl) (htb _ t_72) (fun _ h9 => h9) rfl dX8_pick_11 ?_
      refine lv_icmp_ge (tgt := 54) hx hb dX8_pick_14 (by decide) (fun c10 => ?_) (fun c10 => ?_)
      · have hf := ip c10 hf
        cases hf
        cases (itr hn1)
        exact kx4 _ _ _ hP hD hS (lv_sub hl [] rfl)
      · have hf := im c10 hf
        refine lv_iconst (v := (3 : Int32)) hx hb dX8_pick_17 (by decide) ?_
        refine lv_aload_n hx hb dX8_pick_18 rfl (lv_at hl 0 rfl) ?_
        refine va_get (D := (dC, dI)) (ci := 7) (v := .ref q_view) (C := RX8) (T := TX8) (N := 7) hx hb htb inX8 hown hK hP 0 rfl rfl 0 (Nat.le_of_ble_eq_true rfl) (htb _ t_215) (u_same (htb _ t_216)) rfl dX8_pick_19 ?_
        refine va_get (D := (dC, dI)) (ci := 8) (v := .int x_view_posts) (C := RX9) (T := TX9) (N := 7) hx hb htb inX9 hown hK hP 1 rfl rfl 0 (Nat.le_of_ble_eq_true rfl) (htb _ t_72) (fun _ h9 => h9) rfl dX8_pick_22 ?_
        refine lv_iconst (v := (1 : Int32)) hx hb dX8_pick_25 (by decide) ?_
        refine lv_isub hx hb dX8_pick_26 ?_
        refine lv_iload_n hx hb dX8_pick_27 rfl (lv_at hl 3 rfl) ?_
        refine lv_isub hx hb dX8_pick_28 ?_
        refine lv_imul hx hb dX8_pick_29 ?_
        refine lv_istore (lv' := [(4, .int ((3 : Int32) * ((x_view_posts - (1 : Int32)) - s5))), (0, .ref q_), (1, .int i1), (2, .ref q_p2), (3, .int s5)]) hx hb dX8_pick_30 hl (by decide) rfl (fun ls hl => ?_)
        refine lv_aload_n hx hb dX8_pick_32 rfl (lv_at hl 3 rfl) ?_
        refine lv_aload_n hx hb dX8_pick_33 rfl (lv_at hl 1 rfl) ?_
        refine va_get (D := (dC, dI)) (ci := 7) (v := .ref q_found) (C := RX8) (T := TX8) (N := 7) hx hb htb inX8 hown hK hP 0 rfl rfl 5 (Nat.le_of_ble_eq_true rfl) (htb _ t_266) (fun _ h9 => h9) rfl dX8_pick_34 ?_
        refine lv_iload_n hx hb dX8_pick_37 rfl (lv_at hl 2 rfl) ?_
        obtain ⟨v11, hv, hf⟩ := ob hf
        refine k_iald hx hb hK hP 2 0 rfl rfl hv dX8_pick_38 ?_
        refine lv_iload hx hb dX8_pick_39 (lv_at hl 0 rfl) ?_
        refine lv_ishr hx hb dX8_pick_41 ?_
        refine lv_bipush (v := (7 : Int32)) hx hb dX8_pick_42 (by decide) ?_
        refine lv_iand hx hb dX8_pick_44 ?_
        obtain ⟨o12, o13, hv, hf⟩ := ob2 hf
        refine k_afterV (wr := [(q_, .inr (7, [.ref q_view, .ref q_costs, .int x_solvedFor, .int x_lowest, .int x_total, .ref q_found, .ref q_row])), (q_view, .inr (8, [.int x_view_posts, .int x_view_roads, .int x_view_weight, .ref q_view_weights, .ref q_view_near, .ref q_view_behind, .ref q_view_ahead])), (q_found, .inl (cI, 5040, .inl x_found))]) (wn := [(q_, .inr (7, [.ref q_view, .ref q_costs, .int x_solvedFor, .int x_lowest, .int x_total, .ref q_found, .ref q_row])), (q_view, .inr (8, [.int x_view_posts, .int x_view_roads, .int x_view_weight, .ref q_view_weights, .ref q_view_near, .ref q_view_behind, .ref q_view_ahead])), (q_found, .inl (cI, 5040, .inl x_found)), (q_p2, .inr (5, [.ref q_p2_posts, .int o12])), (q_p2_posts, .inl (cI, 11, .inl o13))]) (k_runV (rest := []) (ci := 5) (q0 := 3) hx hb hml hown htb hK hN (c_X5_append l dC dI cI cZ cN q_p2 q_p2_posts s6 s7 ((v11 >>> (((3 : Int32) * ((x_view_posts - (1 : Int32)) - s5)) &&& 31)) &&& (7 : Int32)) o12 o13 hv _) vf_X5_append t_594 hP hD [3, 4] rfl rfl rfl rfl ⟨(Nat.le_of_ble_eq_true rfl), (Nat.le_of_ble_eq_true rfl)⟩ rfl hl.1 rfl (Nat.le_of_ble_eq_true rfl) dX8_pick_45 ⟨Nat.zero_le _, Nat.zero_le _⟩) hA hP hD hS [3, 4] [0, 1, 2] [0, 1, 2, 3, 4] rfl rfl rfl rfl ?_
        clear hP hD hS
        intro H locs hP hD hS
        refine lv_iinc (v := (s5 + (1 : Int32))) (lv' := [(3, .int (s5 + (1 : Int32))), (4, .int ((3 : Int32) * ((x_view_posts - (1 : Int32)) - s5))), (0, .ref q_), (1, .int i1), (2, .ref q_p2)]) hx hb dX8_pick_48 hl (k := 4) rfl rfl (by decide) rfl (fun ls hl => ?_)
        refine lv_goto (tgt := 6) hx hb dX8_pick_51 (by decide) ?_
        cases hf
        exact ih1 _ _ _ (itl hn1) _ _ _ hP hD hS (lv_sub hl [2, 3, 4, 0] rfl)
  exact kl8 n0 _ _ _ hn0 _ _ _ hP hD hS (lv_sub hl [1, 2, 3, 0] rfl)
theorem uf_X8_numberOf : UF yX8_numberOf cX8_numberOf 4 (some .int) 1 := ⟨t_634, t_12, t_635, by decide +kernel, by decide +kernel, by decide +kernel⟩
theorem dX8_numberOf_0 : decode cX8_numberOf 0 = .ok (.aload_n 1, 1) := by decide +kernel
theorem dX8_numberOf_1 : decode cX8_numberOf 1 = .ok (.invokestatic 81, 3) := by decide +kernel
theorem dX8_numberOf_4 : decode cX8_numberOf 4 = .ok (.istore_n 2, 1) := by decide +kernel
theorem dX8_numberOf_5 : decode cX8_numberOf 5 = .ok (.iconst 0, 1) := by decide +kernel
theorem dX8_numberOf_6 : decode cX8_numberOf 6 = .ok (.istore_n 3, 1) := by decide +kernel
theorem dX8_numberOf_7 : decode cX8_numberOf 7 = .ok (.iload_n 3, 1) := by decide +kernel
theorem dX8_numberOf_8 : decode cX8_numberOf 8 = .ok (.aload_n 0, 1) := by decide +kernel
theorem dX8_numberOf_9 : decode cX8_numberOf 9 = .ok (.getfield 32, 3) := by decide +kernel
theorem dX8_numberOf_12 : decode cX8_numberOf 12 = .ok (.if_icmp .ge 21, 3) := by decide +kernel
theorem dX8_numberOf_15 : decode cX8_numberOf 15 = .ok (.aload_n 0, 1) := by decide +kernel
theorem dX8_numberOf_16 : decode cX8_numberOf 16 = .ok (.getfield 9, 3) := by decide +kernel
theorem dX8_numberOf_19 : decode cX8_numberOf 19 = .ok (.iload_n 3, 1) := by decide +kernel
theorem dX8_numberOf_20 : decode cX8_numberOf 20 = .ok (.iaload, 1) := by decide +kernel
theorem dX8_numberOf_21 : decode cX8_numberOf 21 = .ok (.iload_n 2, 1) := by decide +kernel
theorem dX8_numberOf_22 : decode cX8_numberOf 22 = .ok (.if_icmp .ne 5, 3) := by decide +kernel
theorem dX8_numberOf_25 : decode cX8_numberOf 25 = .ok (.iload_n 3, 1) := by decide +kernel
theorem dX8_numberOf_26 : decode cX8_numberOf 26 = .ok (.ireturn, 1) := by decide +kernel
theorem dX8_numberOf_27 : decode cX8_numberOf 27 = .ok (.iinc 3 1, 3) := by decide +kernel
theorem dX8_numberOf_30 : decode cX8_numberOf 30 = .ok (.goto (-23), 3) := by decide +kernel
theorem dX8_numberOf_33 : decode cX8_numberOf 33 = .ok (.iconst (-1), 1) := by decide +kernel
theorem dX8_numberOf_34 : decode cX8_numberOf 34 = .ok (.ireturn, 1) := by decide +kernel
noncomputable def f_X8_numberOf_L7 (i2 : Int32) (x_total : Int32) (x_found : Nat → Int32) (i3 : Int32) : Option ((Int32) ⊕ (Int32)) :=
  if x_total ≤ i3 then (some (.inr ((-1 : Int32)))) else ((gi x_found 5040 i3).bind fun v3 =>
  if v3 = i2 then (some (.inr (i3))) else (some (.inl (i3 + (1 : Int32)))))
noncomputable def f_X8_numberOf (x_total : Int32) (x_found : Nat → Int32) (x_p1_size : Int32) (x_p1_posts : Nat → Int32) : Option (Int32) :=
  (f_X8_code x_p1_size x_p1_posts).bind fun v1 =>
  loopS (fun (s : Int32) => f_X8_numberOf_L7 v1 x_total x_found s) (0 : Int32)
set_option maxHeartbeats 4000000 in
set_option maxRecDepth 100000 in
theorem c_X8_numberOf (l : Launch) (dC : Nat → ClassId) (dI : Nat → Nat → Nat) (cI cZ cN : ClassId) (q_ : Nat) (q_view : Nat) (q_costs : Nat) (q_found : Nat) (q_row : Nat) (q_p1 : Nat) (q_p1_posts : Nat) (x_solvedFor : Int32) (x_lowest : Int32) (x_total : Int32) (x_found : Nat → Int32) (x_p1_size : Int32) (x_p1_posts : Nat → Int32) (r : Int32) (hf : f_X8_numberOf x_total x_found x_p1_size x_p1_posts = some r) : CI l yX8_numberOf cX8_numberOf 4 (some .int) 3 82 (dC, dI) (TY cI cZ cN) [.ref q_, .ref q_p1] [(q_, .inr (7, [.ref q_view, .ref q_costs, .int x_solvedFor, .int x_lowest, .int x_total, .ref q_found, .ref q_row])), (q_found, .inl (cI, 5040, .inl x_found)), (q_p1, .inr (5, [.ref q_p1_posts, .int x_p1_size])), (q_p1_posts, .inl (cI, 11, .inl x_p1_posts))] [(q_, .inr (7, [.ref q_view, .ref q_costs, .int x_solvedFor, .int x_lowest, .int x_total, .ref q_found, .ref q_row])), (q_found, .inl (cI, 5040, .inl x_found)), (q_p1, .inr (5, [.ref q_p1_posts, .int x_p1_size])), (q_p1_posts, .inl (cI, 11, .inl x_p1_posts))] r := by
  refine CI.of rfl (by decide) (Nat.le_of_ble_eq_true rfl) ?_
  intro p e s m args below meth c Q A ls hx hb hml hown htb hK hN hA hP hD hS hl hret
  have hown : s.vm.findClass RX8 = some m.cls := hown
  have hl : lv_has ls 4 [(0, .ref q_), (1, .ref q_p1)] := hl
  have hret : ∀ (r9 : Int32), some r9 = some r → ∀ (H : Heap) (locs : List Loc) (pc : Nat) (ls : Array Slot), narrow .int (.int r9) = .int r9 → decode cX8_numberOf pc = .ok (.ireturn, 1) → va_P (dC, dI) vwCl [(q_, .inr (7, [.ref q_view, .ref q_costs, .int x_solvedFor, .int x_lowest, .int x_total, .ref q_found, .ref q_row])), (q_found, .inl (cI, 5040, .inl x_found)), (q_p1, .inr (5, [.ref q_p1_posts, .int x_p1_size])), (q_p1_posts, .inl (cI, 11, .inl x_p1_posts))] H → va_D A [(q_, .inr (7, [.ref q_view, .ref q_costs, .int x_solvedFor, .int x_lowest, .int x_total, .ref q_found, .ref q_row])), (q_found, .inl (cI, 5040, .inl x_found)), (q_p1, .inr (5, [.ref q_p1_posts, .int x_p1_size])), (q_p1_posts, .inl (cI, 11, .inl x_p1_posts))] → va_S A s.heap H locs → W p l e (rmK 3 82) s m args below meth c H locs 0 0 Q (F0 m pc ls [.int r9]) := by
    intro r9 h9
    cases h9
    exact hret
  unfold f_X8_numberOf at hf
  refine lv_aload_n hx hb dX8_numberOf_0 rfl (lv_at hl 1 rfl) ?_
  obtain ⟨v1, hv, hf⟩ := ob hf
  refine k_afterI (wr := [(q_, .inr (7, [.ref q_view, .ref q_costs, .int x_solvedFor, .int x_lowest, .int x_total, .ref q_found, .ref q_row])), (q_found, .inl (cI, 5040, .inl x_found))]) (wn := [(q_, .inr (7, [.ref q_view, .ref q_costs, .int x_solvedFor, .int x_lowest, .int x_total, .ref q_found, .ref q_row])), (q_found, .inl (cI, 5040, .inl x_found)), (q_p1, .inr (5, [.ref q_p1_posts, .int x_p1_size])), (q_p1_posts, .inl (cI, 11, .inl x_p1_posts))]) (k_runS (rest := []) hx hb hml hown htb hK hN (c_X8_code l dC dI cI cZ cN q_p1 q_p1_posts x_p1_size x_p1_posts v1 hv _) sf_X8_code t_589 hP hD [2, 3] rfl rfl ⟨(Nat.le_of_ble_eq_true rfl), (Nat.le_of_ble_eq_true rfl)⟩ rfl hl.1 rfl (Nat.le_of_ble_eq_true rfl) dX8_numberOf_1 ⟨Nat.zero_le _, Nat.zero_le _⟩) hA hP hD hS [2, 3] [0, 1] [0, 1, 2, 3] rfl rfl rfl rfl ?_
  clear hP hD hS
  intro H locs hP hD hS
  refine lv_istore_n (lv' := [(2, .int v1), (0, .ref q_), (1, .ref q_p1)]) hx hb dX8_numberOf_4 rfl hl (by decide) rfl (fun ls hl => ?_)
  refine lv_iconst (v := (0 : Int32)) hx hb dX8_numberOf_5 (by decide) ?_
  refine lv_istore_n (lv' := [(3, .int (0 : Int32)), (2, .int v1), (0, .ref q_), (1, .ref q_p1)]) hx hb dX8_numberOf_6 rfl hl (by decide) rfl (fun ls hl => ?_)
  obtain ⟨n0, hn0⟩ := loopS_iter hf
  clear hf
  have kl3 : ∀ (n : Nat) (s2 : Int32), iterS (fun (s : Int32) => f_X8_numberOf_L7 v1 x_total x_found s) n s2 = some r → ∀ (H : Heap) (locs : List Loc) (ls : Array Slot), va_P (dC, dI) vwCl [(q_, .inr (7, [.ref q_view, .ref q_costs, .int x_solvedFor, .int x_lowest, .int x_total, .ref q_found, .ref q_row])), (q_found, .inl (cI, 5040, .inl x_found)), (q_p1, .inr (5, [.ref q_p1_posts, .int x_p1_size])), (q_p1_posts, .inl (cI, 11, .inl x_p1_posts))] H → va_D A [(q_, .inr (7, [.ref q_view, .ref q_costs, .int x_solvedFor, .int x_lowest, .int x_total, .ref q_found, .ref q_row])), (q_found, .inl (cI, 5040, .inl x_found)), (q_p1, .inr (5, [.ref q_p1_posts, .int x_p1_size])), (q_p1_posts, .inl (cI, 11, .inl x_p1_posts))] → va_S A s.heap H locs → lv_has ls 4 [(0, .ref q_), (2, .int v1), (3, .int s2)] → W p l e (rmK 3 82) s m args below meth c H locs 0 0 Q (F0 m 7 ls []) := by
    intro n
    induction n with
    | zero =>
      intro s2 hn1
      cases hn1
    | succ n ih1 =>
      intro s2 hn1 H locs ls hP hD hS hl
      obtain ⟨r4, hf, hn1⟩ := it1 hn1
      replace hf : f_X8_numberOf_L7 v1 x_total x_found s2 = some r4 := hf
      unfold f_X8_numberOf_L7 at hf
      refine lv_iload_n hx hb dX8_numberOf_7 rfl (lv_at hl 2 rfl) ?_
      refine lv_aload_n hx hb dX8_numberOf_8 rfl (lv_at hl 0 rfl) ?_
      refine va_get (D := (dC, dI)) (ci := 7) (v := .int x_total) (C := RX8) (T := TX8) (N := 7) hx hb htb inX8 hown hK hP 0 rfl rfl 4 (Nat.le_of_ble_eq_true rfl) (htb _ t_234) (u_same (htb _ t_235)) rfl dX8_numberOf_9 ?_
      refine lv_icmp_ge (tgt := 33) hx hb dX8_numberOf_12 (by decide) (fun c5 => ?_) (fun c5 => ?_)
      · have hf := ip c5 hf
        refine lv_iconst (v := (-1 : Int32)) hx hb dX8_numberOf_33 (by decide) ?_
        cases hf
        have hf := congrArg some (itr hn1)
        exact hret _ hf _ _ _ _ rfl dX8_numberOf_34 hP hD hS
      · have hf := im c5 hf
        refine lv_aload_n hx hb dX8_numberOf_15 rfl (lv_at hl 0 rfl) ?_
        refine va_get (D := (dC, dI)) (ci := 7) (v := .ref q_found) (C := RX8) (T := TX8) (N := 7) hx hb htb inX8 hown hK hP 0 rfl rfl 5 (Nat.le_of_ble_eq_true rfl) (htb _ t_266) (fun _ h9 => h9) rfl dX8_numberOf_16 ?_
        refine lv_iload_n hx hb dX8_numberOf_19 rfl (lv_at hl 2 rfl) ?_
        obtain ⟨v6, hv, hf⟩ := ob hf
        refine k_iald hx hb hK hP 1 0 rfl rfl hv dX8_numberOf_20 ?_
        refine lv_iload_n hx hb dX8_numberOf_21 rfl (lv_at hl 1 rfl) ?_
        refine lv_icmp_ne (tgt := 27) hx hb dX8_numberOf_22 (by decide) (fun c7 => ?_) (fun c7 => ?_)
        · have hf := im c7 hf
          refine lv_iinc (v := (s2 + (1 : Int32))) (lv' := [(3, .int (s2 + (1 : Int32))), (0, .ref q_), (2, .int v1)]) hx hb dX8_numberOf_27 hl (k := 2) rfl rfl (by decide) rfl (fun ls hl => ?_)
          refine lv_goto (tgt := 7) hx hb dX8_numberOf_30 (by decide) ?_
          cases hf
          exact ih1 _ (itl hn1) _ _ _ hP hD hS (lv_sub hl [1, 2, 0] rfl)
        · have hf := ip c7 hf
          refine lv_iload_n hx hb dX8_numberOf_25 rfl (lv_at hl 2 rfl) ?_
          cases hf
          have hf := congrArg some (itr hn1)
          exact hret _ hf _ _ _ _ rfl dX8_numberOf_26 hP hD hS
  exact kl3 n0 _ hn0 _ _ _ hP hD hS (lv_sub hl [2, 1, 0] rfl)
