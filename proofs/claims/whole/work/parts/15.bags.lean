theorem vf_X0_append : VF yX0_append cX0_append 2 none 1 := ⟨t_688, t_689, t_7, t_690, by decide +kernel, by decide +kernel, by decide +kernel⟩
theorem dX0_append_0 : decode cX0_append 0 = .ok (.aload_n 0, 1) := by decide +kernel
theorem dX0_append_1 : decode cX0_append 1 = .ok (.getfield 15, 3) := by decide +kernel
theorem dX0_append_4 : decode cX0_append 4 = .ok (.bipush 20, 2) := by decide +kernel
theorem dX0_append_6 : decode cX0_append 6 = .ok (.if_icmp .ge 23, 3) := by decide +kernel
theorem dX0_append_9 : decode cX0_append 9 = .ok (.aload_n 0, 1) := by decide +kernel
theorem dX0_append_10 : decode cX0_append 10 = .ok (.getfield 9, 3) := by decide +kernel
theorem dX0_append_13 : decode cX0_append 13 = .ok (.aload_n 0, 1) := by decide +kernel
theorem dX0_append_14 : decode cX0_append 14 = .ok (.getfield 15, 3) := by decide +kernel
theorem dX0_append_17 : decode cX0_append 17 = .ok (.iload_n 1, 1) := by decide +kernel
theorem dX0_append_18 : decode cX0_append 18 = .ok (.iastore, 1) := by decide +kernel
theorem dX0_append_19 : decode cX0_append 19 = .ok (.aload_n 0, 1) := by decide +kernel
theorem dX0_append_20 : decode cX0_append 20 = .ok (.dup, 1) := by decide +kernel
theorem dX0_append_21 : decode cX0_append 21 = .ok (.getfield 15, 3) := by decide +kernel
theorem dX0_append_24 : decode cX0_append 24 = .ok (.iconst 1, 1) := by decide +kernel
theorem dX0_append_25 : decode cX0_append 25 = .ok (.iadd, 1) := by decide +kernel
theorem dX0_append_26 : decode cX0_append 26 = .ok (.putfield 15, 3) := by decide +kernel
theorem dX0_append_29 : decode cX0_append 29 = .ok (.return_, 1) := by decide +kernel
noncomputable def f_X0_append (x_size : Int32) (x_sets : Nat → Int32) (i1 : Int32) : Option (Int32 × (Nat → Int32)) :=
  if (20 : Int32) ≤ x_size then (some ((x_size, x_sets))) else ((si x_sets 20 x_size i1).bind fun v2 =>
  some (((x_size + (1 : Int32)), v2)))
set_option maxHeartbeats 4000000 in
set_option maxRecDepth 100000 in
theorem c_X0_append (l : Launch) (dC : Nat → ClassId) (dI : Nat → Nat → Nat) (cI cZ cN : ClassId) (q_ : Nat) (q_sets : Nat) (x_size : Int32) (x_sets : Nat → Int32) (i1 : Int32) (o_size : Int32) (o_sets : Nat → Int32) (hf : f_X0_append x_size x_sets i1 = some (o_size, o_sets)) : CV l yX0_append cX0_append 2 none 2 60 (dC, dI) (TY cI cZ cN) [.ref q_, .int i1] [(q_, .inr (0, [.ref q_sets, .int x_size])), (q_sets, .inl (cI, 20, .inl x_sets))] [(q_, .inr (0, [.ref q_sets, .int o_size])), (q_sets, .inl (cI, 20, .inl o_sets))] := by
  refine CV.of (by decide) (Nat.le_of_ble_eq_true rfl) ?_
  intro p e s m args below meth c Q A ls hx hb hml hown htb hK hN hA hP hD hS hl hret
  have hown : s.vm.findClass RX0 = some m.cls := hown
  have hl : lv_has ls 2 [(0, .ref q_), (1, .int i1)] := hl
  have hret : ∀ (o9_size : Int32) (o9_sets : Nat → Int32), some (o9_size, o9_sets) = some (o_size, o_sets) → ∀ (H : Heap) (locs : List Loc) (pc : Nat) (ls : Array Slot), decode cX0_append pc = .ok (.return_, 1) → va_P (dC, dI) vwCl [(q_, .inr (0, [.ref q_sets, .int o9_size])), (q_sets, .inl (cI, 20, .inl o9_sets))] H → va_D A [(q_, .inr (0, [.ref q_sets, .int o9_size])), (q_sets, .inl (cI, 20, .inl o9_sets))] → va_S A s.heap H locs → W p l e (rmK 2 60) s m args below meth c H locs 0 0 Q (F0 m pc ls []) := by
    intro o9_size o9_sets h9
    cases h9
    exact hret
  unfold f_X0_append at hf
  refine lv_aload_n hx hb dX0_append_0 rfl (lv_at hl 0 rfl) ?_
  refine va_get (D := (dC, dI)) (ci := 0) (v := .int x_size) (C := RX0) (T := TX0) (N := 2) hx hb htb inX0 hown hK hP 0 rfl rfl 1 (Nat.le_of_ble_eq_true rfl) (htb _ t_152) (fun _ h9 => h9) rfl dX0_append_1 ?_
  refine lv_bipush (v := (20 : Int32)) hx hb dX0_append_4 (by decide) ?_
  refine lv_icmp_ge (tgt := 29) hx hb dX0_append_6 (by decide) (fun c1 => ?_) (fun c1 => ?_)
  · have hf := ip c1 hf
    exact hret _ _ hf _ _ _ _ dX0_append_29 hP hD hS
  · have hf := im c1 hf
    refine lv_aload_n hx hb dX0_append_9 rfl (lv_at hl 0 rfl) ?_
    refine va_get (D := (dC, dI)) (ci := 0) (v := .ref q_sets) (C := RX0) (T := TX0) (N := 2) hx hb htb inX0 hown hK hP 0 rfl rfl 0 (Nat.le_of_ble_eq_true rfl) (htb _ t_151) (fun _ h9 => h9) rfl dX0_append_10 ?_
    refine lv_aload_n hx hb dX0_append_13 rfl (lv_at hl 0 rfl) ?_
    refine va_get (D := (dC, dI)) (ci := 0) (v := .int x_size) (C := RX0) (T := TX0) (N := 2) hx hb htb inX0 hown hK hP 0 rfl rfl 1 (Nat.le_of_ble_eq_true rfl) (htb _ t_152) (fun _ h9 => h9) rfl dX0_append_14 ?_
    refine lv_iload_n hx hb dX0_append_17 rfl (lv_at hl 1 rfl) ?_
    obtain ⟨v2, hv, hf⟩ := ob hf
    refine k_iast (wn := [(q_, .inr (0, [.ref q_sets, .int x_size])), (q_sets, .inl (cI, 20, .inl v2))]) hx hb hK hP hD hS 1 0 rfl rfl hv rfl dX0_append_18 ?_
    clear hP hD hS
    intro H locs hP hD hS
    refine lv_aload_n hx hb dX0_append_19 rfl (lv_at hl 0 rfl) ?_
    refine lv_dup hx hb dX0_append_20 rfl ?_
    refine va_get (D := (dC, dI)) (ci := 0) (v := .int x_size) (C := RX0) (T := TX0) (N := 2) hx hb htb inX0 hown hK hP 0 rfl rfl 1 (Nat.le_of_ble_eq_true rfl) (htb _ t_152) (fun _ h9 => h9) rfl dX0_append_21 ?_
    refine lv_iconst (v := (1 : Int32)) hx hb dX0_append_24 (by decide) ?_
    refine lv_iadd hx hb dX0_append_25 ?_
    refine k_put (wn := [(q_, .inr (0, [.ref q_sets, .int (x_size + (1 : Int32))])), (q_sets, .inl (cI, 20, .inl v2))]) (C := RX0) (T := TX0) (N := 2) (ci := 0) hx hb htb inX0 tyX0 tyX0_ok nmX0 hown hK hP hD hS 0 rfl rfl 1 (Nat.le_of_ble_eq_true rfl) t_152 (fun _ h9 => h9) rfl (tyX0_ok 1 (Nat.le_of_ble_eq_true rfl)) (Nat.le_of_ble_eq_true rfl) rfl dX0_append_26 ?_
    clear hP hD hS
    intro H locs hP hD hS
    exact hret _ _ hf _ _ _ _ dX0_append_29 hP hD hS
theorem vf_X0_together : VF yX0_together cX0_together 3 (some .boolean) 1 := ⟨t_709, tp_17, t_7, t_710, by decide +kernel, by decide +kernel, by decide +kernel⟩
theorem dX0_together_0 : decode cX0_together 0 = .ok (.iconst 0, 1) := by decide +kernel
theorem dX0_together_1 : decode cX0_together 1 = .ok (.istore_n 2, 1) := by decide +kernel
theorem dX0_together_2 : decode cX0_together 2 = .ok (.iload_n 2, 1) := by decide +kernel
theorem dX0_together_3 : decode cX0_together 3 = .ok (.aload_n 0, 1) := by decide +kernel
theorem dX0_together_4 : decode cX0_together 4 = .ok (.getfield 15, 3) := by decide +kernel
theorem dX0_together_7 : decode cX0_together 7 = .ok (.if_icmp .ge 23, 3) := by decide +kernel
theorem dX0_together_10 : decode cX0_together 10 = .ok (.aload_n 0, 1) := by decide +kernel
theorem dX0_together_11 : decode cX0_together 11 = .ok (.getfield 9, 3) := by decide +kernel
theorem dX0_together_14 : decode cX0_together 14 = .ok (.iload_n 2, 1) := by decide +kernel
theorem dX0_together_15 : decode cX0_together 15 = .ok (.iaload, 1) := by decide +kernel
theorem dX0_together_16 : decode cX0_together 16 = .ok (.iload_n 1, 1) := by decide +kernel
theorem dX0_together_17 : decode cX0_together 17 = .ok (.iand, 1) := by decide +kernel
theorem dX0_together_18 : decode cX0_together 18 = .ok (.iload_n 1, 1) := by decide +kernel
theorem dX0_together_19 : decode cX0_together 19 = .ok (.if_icmp .ne 5, 3) := by decide +kernel
theorem dX0_together_22 : decode cX0_together 22 = .ok (.iconst 1, 1) := by decide +kernel
theorem dX0_together_23 : decode cX0_together 23 = .ok (.ireturn, 1) := by decide +kernel
theorem dX0_together_24 : decode cX0_together 24 = .ok (.iinc 2 1, 3) := by decide +kernel
theorem dX0_together_27 : decode cX0_together 27 = .ok (.goto (-25), 3) := by decide +kernel
theorem dX0_together_30 : decode cX0_together 30 = .ok (.iconst 0, 1) := by decide +kernel
theorem dX0_together_31 : decode cX0_together 31 = .ok (.ireturn, 1) := by decide +kernel
noncomputable def f_X0_together_L2 (i1 : Int32) (x_size : Int32) (x_sets : Nat → Int32) (i2 : Int32) : Option ((Int32) ⊕ (Int32)) :=
  if x_size ≤ i2 then (some (.inr ((0 : Int32)))) else ((gi x_sets 20 i2).bind fun v2 =>
  if (v2 &&& i1) = i1 then (some (.inr ((1 : Int32)))) else (some (.inl (i2 + (1 : Int32)))))
noncomputable def f_X0_together (x_size : Int32) (x_sets : Nat → Int32) (i1 : Int32) : Option (Int32) :=
  loopS (fun (s : Int32) => f_X0_together_L2 i1 x_size x_sets s) (0 : Int32)
set_option maxHeartbeats 4000000 in
set_option maxRecDepth 100000 in
theorem c_X0_together (l : Launch) (dC : Nat → ClassId) (dI : Nat → Nat → Nat) (cI cZ cN : ClassId) (q_ : Nat) (q_sets : Nat) (x_size : Int32) (x_sets : Nat → Int32) (i1 : Int32) (r : Int32) (hf : f_X0_together x_size x_sets i1 = some r) : CI l yX0_together cX0_together 3 (some .boolean) 2 60 (dC, dI) (TY cI cZ cN) [.ref q_, .int i1] [(q_, .inr (0, [.ref q_sets, .int x_size])), (q_sets, .inl (cI, 20, .inl x_sets))] [(q_, .inr (0, [.ref q_sets, .int x_size])), (q_sets, .inl (cI, 20, .inl x_sets))] r := by
  refine CI.of rfl (by decide) (Nat.le_of_ble_eq_true rfl) ?_
  intro p e s m args below meth c Q A ls hx hb hml hown htb hK hN hA hP hD hS hl hret
  have hown : s.vm.findClass RX0 = some m.cls := hown
  have hl : lv_has ls 3 [(0, .ref q_), (1, .int i1)] := hl
  have hret : ∀ (r9 : Int32), some r9 = some r → ∀ (H : Heap) (locs : List Loc) (pc : Nat) (ls : Array Slot), narrow .boolean (.int r9) = .int r9 → decode cX0_together pc = .ok (.ireturn, 1) → va_P (dC, dI) vwCl [(q_, .inr (0, [.ref q_sets, .int x_size])), (q_sets, .inl (cI, 20, .inl x_sets))] H → va_D A [(q_, .inr (0, [.ref q_sets, .int x_size])), (q_sets, .inl (cI, 20, .inl x_sets))] → va_S A s.heap H locs → W p l e (rmK 2 60) s m args below meth c H locs 0 0 Q (F0 m pc ls [.int r9]) := by
    intro r9 h9
    cases h9
    exact hret
  unfold f_X0_together at hf
  refine lv_iconst (v := (0 : Int32)) hx hb dX0_together_0 (by decide) ?_
  refine lv_istore_n (lv' := [(2, .int (0 : Int32)), (0, .ref q_), (1, .int i1)]) hx hb dX0_together_1 rfl hl (by decide) rfl (fun ls hl => ?_)
  obtain ⟨n0, hn0⟩ := loopS_iter hf
  clear hf
  have kl2 : ∀ (n : Nat) (s1 : Int32), iterS (fun (s : Int32) => f_X0_together_L2 i1 x_size x_sets s) n s1 = some r → ∀ (H : Heap) (locs : List Loc) (ls : Array Slot), va_P (dC, dI) vwCl [(q_, .inr (0, [.ref q_sets, .int x_size])), (q_sets, .inl (cI, 20, .inl x_sets))] H → va_D A [(q_, .inr (0, [.ref q_sets, .int x_size])), (q_sets, .inl (cI, 20, .inl x_sets))] → va_S A s.heap H locs → lv_has ls 3 [(0, .ref q_), (1, .int i1), (2, .int s1)] → W p l e (rmK 2 60) s m args below meth c H locs 0 0 Q (F0 m 2 ls []) := by
    intro n
    induction n with
    | zero =>
      intro s1 hn1
      cases hn1
    | succ n ih1 =>
      intro s1 hn1 H locs ls hP hD hS hl
      obtain ⟨r3, hf, hn1⟩ := it1 hn1
      replace hf : f_X0_together_L2 i1 x_size x_sets s1 = some r3 := hf
      unfold f_X0_together_L2 at hf
      refine lv_iload_n hx hb dX0_together_2 rfl (lv_at hl 2 rfl) ?_
      refine lv_aload_n hx hb dX0_together_3 rfl (lv_at hl 0 rfl) ?_
      refine va_get (D := (dC, dI)) (ci := 0) (v := .int x_size) (C := RX0) (T := TX0) (N := 2) hx hb htb inX0 hown hK hP 0 rfl rfl 1 (Nat.le_of_ble_eq_true rfl) (htb _ t_152) (fun _ h9 => h9) rfl dX0_together_4 ?_
      refine lv_icmp_ge (tgt := 30) hx hb dX0_together_7 (by decide) (fun c4 => ?_) (fun c4 => ?_)
      · have hf := ip c4 hf
        refine lv_iconst (v := (0 : Int32)) hx hb dX0_together_30 (by decide) ?_
        cases hf
        have hf := congrArg some (itr hn1)
        exact hret _ hf _ _ _ _ rfl dX0_together_31 hP hD hS
      · have hf := im c4 hf
        refine lv_aload_n hx hb dX0_together_10 rfl (lv_at hl 0 rfl) ?_
        refine va_get (D := (dC, dI)) (ci := 0) (v := .ref q_sets) (C := RX0) (T := TX0) (N := 2) hx hb htb inX0 hown hK hP 0 rfl rfl 0 (Nat.le_of_ble_eq_true rfl) (htb _ t_151) (fun _ h9 => h9) rfl dX0_together_11 ?_
        refine lv_iload_n hx hb dX0_together_14 rfl (lv_at hl 2 rfl) ?_
        obtain ⟨v5, hv, hf⟩ := ob hf
        refine k_iald hx hb hK hP 1 0 rfl rfl hv dX0_together_15 ?_
        refine lv_iload_n hx hb dX0_together_16 rfl (lv_at hl 1 rfl) ?_
        refine lv_iand hx hb dX0_together_17 ?_
        refine lv_iload_n hx hb dX0_together_18 rfl (lv_at hl 1 rfl) ?_
        refine lv_icmp_ne (tgt := 24) hx hb dX0_together_19 (by decide) (fun c6 => ?_) (fun c6 => ?_)
        · have hf := im c6 hf
          refine lv_iinc (v := (s1 + (1 : Int32))) (lv' := [(2, .int (s1 + (1 : Int32))), (0, .ref q_), (1, .int i1)]) hx hb dX0_together_24 hl (k := 2) rfl rfl (by decide) rfl (fun ls hl => ?_)
          refine lv_goto (tgt := 2) hx hb dX0_together_27 (by decide) ?_
          cases hf
          exact ih1 _ (itl hn1) _ _ _ hP hD hS (lv_sub hl [1, 2, 0] rfl)
        · have hf := ip c6 hf
          refine lv_iconst (v := (1 : Int32)) hx hb dX0_together_22 (by decide) ?_
          cases hf
          have hf := congrArg some (itr hn1)
          exact hret _ hf _ _ _ _ rfl dX0_together_23 hP hD hS
  exact kl2 n0 _ hn0 _ _ _ hP hD hS (lv_sub hl [1, 2, 0] rfl)
theorem vf_X0_firstBare : VF yX0_firstBare cX0_firstBare 3 (some .int) 1 := ⟨t_705, tp_16, t_7, t_706, by decide +kernel, by decide +kernel, by decide +kernel⟩
theorem dX0_firstBare_0 : decode cX0_firstBare 0 = .ok (.iconst 0, 1) := by decide +kernel
theorem dX0_firstBare_1 : decode cX0_firstBare 1 = .ok (.istore_n 2, 1) := by decide +kernel
theorem dX0_firstBare_2 : decode cX0_firstBare 2 = .ok (.iload_n 2, 1) := by decide +kernel
theorem dX0_firstBare_3 : decode cX0_firstBare 3 = .ok (.iload_n 1, 1) := by decide +kernel
theorem dX0_firstBare_4 : decode cX0_firstBare 4 = .ok (.if_icmp .ge 21, 3) := by decide +kernel
theorem dX0_firstBare_7 : decode cX0_firstBare 7 = .ok (.aload_n 0, 1) := by decide +kernel
theorem dX0_firstBare_8 : decode cX0_firstBare 8 = .ok (.iconst 1, 1) := by decide +kernel
theorem dX0_firstBare_9 : decode cX0_firstBare 9 = .ok (.iload_n 2, 1) := by decide +kernel
theorem dX0_firstBare_10 : decode cX0_firstBare 10 = .ok (.ishl, 1) := by decide +kernel
theorem dX0_firstBare_11 : decode cX0_firstBare 11 = .ok (.invokevirtual 35, 3) := by decide +kernel
theorem dX0_firstBare_14 : decode cX0_firstBare 14 = .ok (.ifCond .ne 5, 3) := by decide +kernel
theorem dX0_firstBare_17 : decode cX0_firstBare 17 = .ok (.iload_n 2, 1) := by decide +kernel
theorem dX0_firstBare_18 : decode cX0_firstBare 18 = .ok (.ireturn, 1) := by decide +kernel
theorem dX0_firstBare_19 : decode cX0_firstBare 19 = .ok (.iinc 2 1, 3) := by decide +kernel
theorem dX0_firstBare_22 : decode cX0_firstBare 22 = .ok (.goto (-20), 3) := by decide +kernel
theorem dX0_firstBare_25 : decode cX0_firstBare 25 = .ok (.iconst (-1), 1) := by decide +kernel
theorem dX0_firstBare_26 : decode cX0_firstBare 26 = .ok (.ireturn, 1) := by decide +kernel
noncomputable def f_X0_firstBare_L2 (i1 : Int32) (x_size : Int32) (x_sets : Nat → Int32) (i2 : Int32) : Option ((Int32) ⊕ (Int32)) :=
  if i1 ≤ i2 then (some (.inr ((-1 : Int32)))) else ((f_X0_together x_size x_sets ((1 : Int32) <<< (i2 &&& 31))).bind fun v2 =>
  if v2 = 0 then (some (.inr (i2))) else (some (.inl (i2 + (1 : Int32)))))
noncomputable def f_X0_firstBare (x_size : Int32) (x_sets : Nat → Int32) (i1 : Int32) : Option (Int32) :=
  loopS (fun (s : Int32) => f_X0_firstBare_L2 i1 x_size x_sets s) (0 : Int32)
set_option maxHeartbeats 4000000 in
set_option maxRecDepth 100000 in
theorem c_X0_firstBare (l : Launch) (dC : Nat → ClassId) (dI : Nat → Nat → Nat) (cI cZ cN : ClassId) (q_ : Nat) (q_sets : Nat) (x_size : Int32) (x_sets : Nat → Int32) (i1 : Int32) (r : Int32) (hf : f_X0_firstBare x_size x_sets i1 = some r) : CI l yX0_firstBare cX0_firstBare 3 (some .int) 3 82 (dC, dI) (TY cI cZ cN) [.ref q_, .int i1] [(q_, .inr (0, [.ref q_sets, .int x_size])), (q_sets, .inl (cI, 20, .inl x_sets))] [(q_, .inr (0, [.ref q_sets, .int x_size])), (q_sets, .inl (cI, 20, .inl x_sets))] r := by
  refine CI.of rfl (by decide) (Nat.le_of_ble_eq_true rfl) ?_
  intro p e s m args below meth c Q A ls hx hb hml hown htb hK hN hA hP hD hS hl hret
  have hown : s.vm.findClass RX0 = some m.cls := hown
  have hl : lv_has ls 3 [(0, .ref q_), (1, .int i1)] := hl
  have hret : ∀ (r9 : Int32), some r9 = some r → ∀ (H : Heap) (locs : List Loc) (pc : Nat) (ls : Array Slot), narrow .int (.int r9) = .int r9 → decode cX0_firstBare pc = .ok (.ireturn, 1) → va_P (dC, dI) vwCl [(q_, .inr (0, [.ref q_sets, .int x_size])), (q_sets, .inl (cI, 20, .inl x_sets))] H → va_D A [(q_, .inr (0, [.ref q_sets, .int x_size])), (q_sets, .inl (cI, 20, .inl x_sets))] → va_S A s.heap H locs → W p l e (rmK 3 82) s m args below meth c H locs 0 0 Q (F0 m pc ls [.int r9]) := by
    intro r9 h9
    cases h9
    exact hret
  unfold f_X0_firstBare at hf
  refine lv_iconst (v := (0 : Int32)) hx hb dX0_firstBare_0 (by decide) ?_
  refine lv_istore_n (lv' := [(2, .int (0 : Int32)), (0, .ref q_), (1, .int i1)]) hx hb dX0_firstBare_1 rfl hl (by decide) rfl (fun ls hl => ?_)
  obtain ⟨n0, hn0⟩ := loopS_iter hf
  clear hf
  have kl2 : ∀ (n : Nat) (s1 : Int32), iterS (fun (s : Int32) => f_X0_firstBare_L2 i1 x_size x_sets s) n s1 = some r → ∀ (H : Heap) (locs : List Loc) (ls : Array Slot), va_P (dC, dI) vwCl [(q_, .inr (0, [.ref q_sets, .int x_size])), (q_sets, .inl (cI, 20, .inl x_sets))] H → va_D A [(q_, .inr (0, [.ref q_sets, .int x_size])), (q_sets, .inl (cI, 20, .inl x_sets))] → va_S A s.heap H locs → lv_has ls 3 [(0, .ref q_), (1, .int i1), (2, .int s1)] → W p l e (rmK 3 82) s m args below meth c H locs 0 0 Q (F0 m 2 ls []) := by
    intro n
    induction n with
    | zero =>
      intro s1 hn1
      cases hn1
    | succ n ih1 =>
      intro s1 hn1 H locs ls hP hD hS hl
      obtain ⟨r3, hf, hn1⟩ := it1 hn1
      replace hf : f_X0_firstBare_L2 i1 x_size x_sets s1 = some r3 := hf
      unfold f_X0_firstBare_L2 at hf
      refine lv_iload_n hx hb dX0_firstBare_2 rfl (lv_at hl 2 rfl) ?_
      refine lv_iload_n hx hb dX0_firstBare_3 rfl (lv_at hl 1 rfl) ?_
      refine lv_icmp_ge (tgt := 25) hx hb dX0_firstBare_4 (by decide) (fun c4 => ?_) (fun c4 => ?_)
      · have hf := ip c4 hf
        refine lv_iconst (v := (-1 : Int32)) hx hb dX0_firstBare_25 (by decide) ?_
        cases hf
        have hf := congrArg some (itr hn1)
        exact hret _ hf _ _ _ _ rfl dX0_firstBare_26 hP hD hS
      · have hf := im c4 hf
        refine lv_aload_n hx hb dX0_firstBare_7 rfl (lv_at hl 0 rfl) ?_
        refine lv_iconst (v := (1 : Int32)) hx hb dX0_firstBare_8 (by decide) ?_
        refine lv_iload_n hx hb dX0_firstBare_9 rfl (lv_at hl 2 rfl) ?_
        refine lv_ishl hx hb dX0_firstBare_10 ?_
        obtain ⟨v5, hv, hf⟩ := ob hf
        refine k_afterI (wr := []) (wn := [(q_, .inr (0, [.ref q_sets, .int x_size])), (q_sets, .inl (cI, 20, .inl x_sets))]) (k_runV (rest := []) (ci := 0) (q0 := 0) hx hb hml hown htb hK hN (c_X0_together l dC dI cI cZ cN q_ q_sets x_size x_sets ((1 : Int32) <<< (s1 &&& 31)) v5 hv _) vf_X0_together t_707 hP hD [0, 1] rfl rfl rfl rfl ⟨(Nat.le_of_ble_eq_true rfl), (Nat.le_of_ble_eq_true rfl)⟩ rfl hl.1 rfl (Nat.le_of_ble_eq_true rfl) dX0_firstBare_11 ⟨Nat.zero_le _, Nat.zero_le _⟩) hA hP hD hS [0, 1] [] [0, 1] rfl rfl rfl rfl ?_
        clear hP hD hS
        intro H locs hP hD hS
        refine lv_if_ne (tgt := 19) hx hb dX0_firstBare_14 (by decide) (fun c6 => ?_) (fun c6 => ?_)
        · have hf := im c6 hf
          refine lv_iinc (v := (s1 + (1 : Int32))) (lv' := [(2, .int (s1 + (1 : Int32))), (0, .ref q_), (1, .int i1)]) hx hb dX0_firstBare_19 hl (k := 2) rfl rfl (by decide) rfl (fun ls hl => ?_)
          refine lv_goto (tgt := 2) hx hb dX0_firstBare_22 (by decide) ?_
          cases hf
          exact ih1 _ (itl hn1) _ _ _ hP hD hS (lv_sub hl [1, 2, 0] rfl)
        · have hf := ip c6 hf
          refine lv_iload_n hx hb dX0_firstBare_17 rfl (lv_at hl 2 rfl) ?_
          cases hf
          have hf := congrArg some (itr hn1)
          exact hret _ hf _ _ _ _ rfl dX0_firstBare_18 hP hD hS
  exact kl2 n0 _ hn0 _ _ _ hP hD hS (lv_sub hl [1, 2, 0] rfl)
theorem vf_X0_firstSplitRoad : VF yX0_firstSplitRoad cX0_firstSplitRoad 4 (some .int) 1 := ⟨t_713, tp_18, t_7, t_714, by decide +kernel, by decide +kernel, by decide +kernel⟩
theorem dX0_firstSplitRoad_0 : decode cX0_firstSplitRoad 0 = .ok (.iconst 0, 1) := by decide +kernel
theorem dX0_firstSplitRoad_1 : decode cX0_firstSplitRoad 1 = .ok (.istore_n 2, 1) := by decide +kernel
theorem dX0_firstSplitRoad_2 : decode cX0_firstSplitRoad 2 = .ok (.iload_n 2, 1) := by decide +kernel
theorem dX0_firstSplitRoad_3 : decode cX0_firstSplitRoad 3 = .ok (.aload_n 1, 1) := by decide +kernel
theorem dX0_firstSplitRoad_4 : decode cX0_firstSplitRoad 4 = .ok (.getfield 19, 3) := by decide +kernel
theorem dX0_firstSplitRoad_7 : decode cX0_firstSplitRoad 7 = .ok (.if_icmp .ge 57, 3) := by decide +kernel
theorem dX0_firstSplitRoad_10 : decode cX0_firstSplitRoad 10 = .ok (.iload_n 2, 1) := by decide +kernel
theorem dX0_firstSplitRoad_11 : decode cX0_firstSplitRoad 11 = .ok (.iconst 1, 1) := by decide +kernel
theorem dX0_firstSplitRoad_12 : decode cX0_firstSplitRoad 12 = .ok (.iadd, 1) := by decide +kernel
theorem dX0_firstSplitRoad_13 : decode cX0_firstSplitRoad 13 = .ok (.istore_n 3, 1) := by decide +kernel
theorem dX0_firstSplitRoad_14 : decode cX0_firstSplitRoad 14 = .ok (.iload_n 3, 1) := by decide +kernel
theorem dX0_firstSplitRoad_15 : decode cX0_firstSplitRoad 15 = .ok (.aload_n 1, 1) := by decide +kernel
theorem dX0_firstSplitRoad_16 : decode cX0_firstSplitRoad 16 = .ok (.getfield 19, 3) := by decide +kernel
theorem dX0_firstSplitRoad_19 : decode cX0_firstSplitRoad 19 = .ok (.if_icmp .ge 39, 3) := by decide +kernel
theorem dX0_firstSplitRoad_22 : decode cX0_firstSplitRoad 22 = .ok (.aload_n 1, 1) := by decide +kernel
theorem dX0_firstSplitRoad_23 : decode cX0_firstSplitRoad 23 = .ok (.iload_n 2, 1) := by decide +kernel
theorem dX0_firstSplitRoad_24 : decode cX0_firstSplitRoad 24 = .ok (.iload_n 3, 1) := by decide +kernel
theorem dX0_firstSplitRoad_25 : decode cX0_firstSplitRoad 25 = .ok (.invokevirtual 39, 3) := by decide +kernel
theorem dX0_firstSplitRoad_28 : decode cX0_firstSplitRoad 28 = .ok (.ifCond .le 24, 3) := by decide +kernel
theorem dX0_firstSplitRoad_31 : decode cX0_firstSplitRoad 31 = .ok (.aload_n 0, 1) := by decide +kernel
theorem dX0_firstSplitRoad_32 : decode cX0_firstSplitRoad 32 = .ok (.iconst 1, 1) := by decide +kernel
theorem dX0_firstSplitRoad_33 : decode cX0_firstSplitRoad 33 = .ok (.iload_n 2, 1) := by decide +kernel
theorem dX0_firstSplitRoad_34 : decode cX0_firstSplitRoad 34 = .ok (.ishl, 1) := by decide +kernel
theorem dX0_firstSplitRoad_35 : decode cX0_firstSplitRoad 35 = .ok (.iconst 1, 1) := by decide +kernel
theorem dX0_firstSplitRoad_36 : decode cX0_firstSplitRoad 36 = .ok (.iload_n 3, 1) := by decide +kernel
theorem dX0_firstSplitRoad_37 : decode cX0_firstSplitRoad 37 = .ok (.ishl, 1) := by decide +kernel
theorem dX0_firstSplitRoad_38 : decode cX0_firstSplitRoad 38 = .ok (.ior, 1) := by decide +kernel
theorem dX0_firstSplitRoad_39 : decode cX0_firstSplitRoad 39 = .ok (.invokevirtual 35, 3) := by decide +kernel
theorem dX0_firstSplitRoad_42 : decode cX0_firstSplitRoad 42 = .ok (.ifCond .ne 10, 3) := by decide +kernel
theorem dX0_firstSplitRoad_45 : decode cX0_firstSplitRoad 45 = .ok (.bipush 11, 2) := by decide +kernel
theorem dX0_firstSplitRoad_47 : decode cX0_firstSplitRoad 47 = .ok (.iload_n 2, 1) := by decide +kernel
theorem dX0_firstSplitRoad_48 : decode cX0_firstSplitRoad 48 = .ok (.imul, 1) := by decide +kernel
theorem dX0_firstSplitRoad_49 : decode cX0_firstSplitRoad 49 = .ok (.iload_n 3, 1) := by decide +kernel
theorem dX0_firstSplitRoad_50 : decode cX0_firstSplitRoad 50 = .ok (.iadd, 1) := by decide +kernel
theorem dX0_firstSplitRoad_51 : decode cX0_firstSplitRoad 51 = .ok (.ireturn, 1) := by decide +kernel
theorem dX0_firstSplitRoad_52 : decode cX0_firstSplitRoad 52 = .ok (.iinc 3 1, 3) := by decide +kernel
theorem dX0_firstSplitRoad_55 : decode cX0_firstSplitRoad 55 = .ok (.goto (-41), 3) := by decide +kernel
theorem dX0_firstSplitRoad_58 : decode cX0_firstSplitRoad 58 = .ok (.iinc 2 1, 3) := by decide +kernel
theorem dX0_firstSplitRoad_61 : decode cX0_firstSplitRoad 61 = .ok (.goto (-59), 3) := by decide +kernel
theorem dX0_firstSplitRoad_64 : decode cX0_firstSplitRoad 64 = .ok (.iconst (-1), 1) := by decide +kernel
theorem dX0_firstSplitRoad_65 : decode cX0_firstSplitRoad 65 = .ok (.ireturn, 1) := by decide +kernel
noncomputable def f_X0_firstSplitRoad_L14 (i2 : Int32) (x_size : Int32) (x_sets : Nat → Int32) (x_p1_posts : Int32) (x_p1_weights : Nat → Int32) (i3 : Int32) : Option ((Int32) ⊕ ((Int32) ⊕ (Int32))) :=
  if x_p1_posts ≤ i3 then (some (.inr ((.inl (i2 + (1 : Int32)))))) else ((f_X9_weightOf x_p1_weights i2 i3).bind fun v3 =>
  if v3 ≤ 0 then (some (.inl (i3 + (1 : Int32)))) else ((f_X0_together x_size x_sets (((1 : Int32) <<< (i2 &&& 31)) ||| ((1 : Int32) <<< (i3 &&& 31)))).bind fun v5 =>
  if v5 = 0 then (some (.inr (.inr ((((11 : Int32) * i2) + i3))))) else (some (.inl (i3 + (1 : Int32))))))
noncomputable def f_X0_firstSplitRoad_L2 (x_size : Int32) (x_sets : Nat → Int32) (x_p1_posts : Int32) (x_p1_weights : Nat → Int32) (i2 : Int32) : Option ((Int32) ⊕ (Int32)) :=
  if x_p1_posts ≤ i2 then (some (.inr ((-1 : Int32)))) else (loopS (fun (s : Int32) => f_X0_firstSplitRoad_L14 i2 x_size x_sets x_p1_posts x_p1_weights s) (i2 + (1 : Int32)))
noncomputable def f_X0_firstSplitRoad (x_size : Int32) (x_sets : Nat → Int32) (x_p1_posts : Int32) (x_p1_weights : Nat → Int32) : Option (Int32) :=
  loopS (fun (s : Int32) => f_X0_firstSplitRoad_L2 x_size x_sets x_p1_posts x_p1_weights s) (0 : Int32)
set_option maxHeartbeats 4000000 in
set_option maxRecDepth 100000 in
theorem c_X0_firstSplitRoad (l : Launch) (dC : Nat → ClassId) (dI : Nat → Nat → Nat) (cI cZ cN : ClassId) (q_ : Nat) (q_sets : Nat) (q_p1 : Nat) (q_p1_weights : Nat) (q_p1_near : Nat) (q_p1_behind : Nat) (q_p1_ahead : Nat) (x_size : Int32) (x_sets : Nat → Int32) (x_p1_posts : Int32) (x_p1_roads : Int32) (x_p1_weight : Int32) (x_p1_weights : Nat → Int32) (r : Int32) (hf : f_X0_firstSplitRoad x_size x_sets x_p1_posts x_p1_weights = some r) : CI l yX0_firstSplitRoad cX0_firstSplitRoad 4 (some .int) 3 82 (dC, dI) (TY cI cZ cN) [.ref q_, .ref q_p1] [(q_, .inr (0, [.ref q_sets, .int x_size])), (q_sets, .inl (cI, 20, .inl x_sets)), (q_p1, .inr (8, [.int x_p1_posts, .int x_p1_roads, .int x_p1_weight, .ref q_p1_weights, .ref q_p1_near, .ref q_p1_behind, .ref q_p1_ahead])), (q_p1_weights, .inl (cI, 121, .inl x_p1_weights))] [(q_, .inr (0, [.ref q_sets, .int x_size])), (q_sets, .inl (cI, 20, .inl x_sets)), (q_p1, .inr (8, [.int x_p1_posts, .int x_p1_roads, .int x_p1_weight, .ref q_p1_weights, .ref q_p1_near, .ref q_p1_behind, .ref q_p1_ahead])), (q_p1_weights, .inl (cI, 121, .inl x_p1_weights))] r := by
  refine CI.of rfl (by decide) (Nat.le_of_ble_eq_true rfl) ?_
  intro p e s m args below meth c Q A ls hx hb hml hown htb hK hN hA hP hD hS hl hret
  have hown : s.vm.findClass RX0 = some m.cls := hown
  have hl : lv_has ls 4 [(0, .ref q_), (1, .ref q_p1)] := hl
  have hret : ∀ (r9 : Int32), some r9 = some r → ∀ (H : Heap) (locs : List Loc) (pc : Nat) (ls : Array Slot), narrow .int (.int r9) = .int r9 → decode cX0_firstSplitRoad pc = .ok (.ireturn, 1) → va_P (dC, dI) vwCl [(q_, .inr (0, [.ref q_sets, .int x_size])), (q_sets, .inl (cI, 20, .inl x_sets)), (q_p1, .inr (8, [.int x_p1_posts, .int x_p1_roads, .int x_p1_weight, .ref q_p1_weights, .ref q_p1_near, .ref q_p1_behind, .ref q_p1_ahead])), (q_p1_weights, .inl (cI, 121, .inl x_p1_weights))] H → va_D A [(q_, .inr (0, [.ref q_sets, .int x_size])), (q_sets, .inl (cI, 20, .inl x_sets)), (q_p1, .inr (8, [.int x_p1_posts, .int x_p1_roads, .int x_p1_weight, .ref q_p1_weights, .ref q_p1_near, .ref q_p1_behind, .ref q_p1_ahead])), (q_p1_weights, .inl (cI, 121, .inl x_p1_weights))] → va_S A s.heap H locs → W p l e (rmK 3 82) s m args below meth c H locs 0 0 Q (F0 m pc ls [.int r9]) := by
    intro r9 h9
    cases h9
    exact hret
  unfold f_X0_firstSplitRoad at hf
  refine lv_iconst (v := (0 : Int32)) hx hb dX0_firstSplitRoad_0 (by decide) ?_
  refine lv_istore_n (lv' := [(2, .int (0 : Int32)), (0, .ref q_), (1, .ref q_p1)]) hx hb dX0_firstSplitRoad_1 rfl hl (by decide) rfl (fun ls hl => ?_)
  obtain ⟨n0, hn0⟩ := loopS_iter hf
  clear hf
  have kl2 : ∀ (n : Nat) (s1 : Int32), iterS (fun (s : Int32) => f_X0_firstSplitRoad_L2 x_size x_sets x_p1_posts x_p1_weights s) n s1 = some r → ∀ (H : Heap) (locs : List Loc) (ls : Array Slot), va_P (dC, dI) vwCl [(q_, .inr (0, [.ref q_sets, .int x_size])), (q_sets, .inl (cI, 20, .inl x_sets)), (q_p1, .inr (8, [.int x_p1_posts, .int x_p1_roads, .int x_p1_weight, .ref q_p1_weights, .ref q_p1_near, .ref q_p1_behind, .ref q_p1_ahead])), (q_p1_weights, .inl (cI, 121, .inl x_p1_weights))] H → va_D A [(q_, .inr (0, [.ref q_sets, .int x_size])), (q_sets, .inl (cI, 20, .inl x_sets)), (q_p1, .inr (8, [.int x_p1_posts, .int x_p1_roads, .int x_p1_weight, .ref q_p1_weights, .ref q_p1_near, .ref q_p1_behind, .ref q_p1_ahead])), (q_p1_weights, .inl (cI, 121, .inl x_p1_weights))] → va_S A s.heap H locs → lv_has ls 4 [(0, .ref q_), (1, .ref q_p1), (2, .int s1)] → W p l e (rmK 3 82) s m args below meth c H locs 0 0 Q (F0 m 2 ls []) := by
    intro n
    induction n with
    | zero =>
      intro s1 hn1
      cases hn1
    | succ n ih1 =>
      intro s1 hn1 H locs ls hP hD hS hl
      obtain ⟨r3, hf, hn1⟩ := it1 hn1
      replace hf : f_X0_firstSplitRoad_L2 x_size x_sets x_p1_posts x_p1_weights s1 = some r3 := hf
      unfold f_X0_firstSplitRoad_L2 at hf
      refine lv_iload_n hx hb dX0_firstSplitRoad_2 rfl (lv_at hl 2 rfl) ?_
      refine lv_aload_n hx hb dX0_firstSplitRoad_3 rfl (lv_at hl 1 rfl) ?_
      refine va_get (D := (dC, dI)) (ci := 8) (v := .int x_p1_posts) (C := RX9) (T := TX9) (N := 7) hx hb htb inX9 hown hK hP 2 rfl rfl 0 (Nat.le_of_ble_eq_true rfl) (htb _ t_70) (fun _ h9 => h9) rfl dX0_firstSplitRoad_4 ?_
      refine lv_icmp_ge (tgt := 64) hx hb dX0_firstSplitRoad_7 (by decide) (fun c4 => ?_) (fun c4 => ?_)
      · have hf := ip c4 hf
        refine lv_iconst (v := (-1 : Int32)) hx hb dX0_firstSplitRoad_64 (by decide) ?_
        cases hf
        have hf := congrArg some (itr hn1)
        exact hret _ hf _ _ _ _ rfl dX0_firstSplitRoad_65 hP hD hS
      · have hf := im c4 hf
        refine lv_iload_n hx hb dX0_firstSplitRoad_10 rfl (lv_at hl 2 rfl) ?_
        refine lv_iconst (v := (1 : Int32)) hx hb dX0_firstSplitRoad_11 (by decide) ?_
        refine lv_iadd hx hb dX0_firstSplitRoad_12 ?_
        refine lv_istore_n (lv' := [(3, .int (s1 + (1 : Int32))), (0, .ref q_), (1, .ref q_p1), (2, .int s1)]) hx hb dX0_firstSplitRoad_13 rfl hl (by decide) rfl (fun ls hl => ?_)
        obtain ⟨n0, hn0⟩ := loopS_iter hf
        clear hf
        have kl6 : ∀ (n : Nat) (s5 : Int32), iterS (fun (s : Int32) => f_X0_firstSplitRoad_L14 s1 x_size x_sets x_p1_posts x_p1_weights s) n s5 = some r3 → ∀ (H : Heap) (locs : List Loc) (ls : Array Slot), va_P (dC, dI) vwCl [(q_, .inr (0, [.ref q_sets, .int x_size])), (q_sets, .inl (cI, 20, .inl x_sets)), (q_p1, .inr (8, [.int x_p1_posts, .int x_p1_roads, .int x_p1_weight, .ref q_p1_weights, .ref q_p1_near, .ref q_p1_behind, .ref q_p1_ahead])), (q_p1_weights, .inl (cI, 121, .inl x_p1_weights))] H → va_D A [(q_, .inr (0, [.ref q_sets, .int x_size])), (q_sets, .inl (cI, 20, .inl x_sets)), (q_p1, .inr (8, [.int x_p1_posts, .int x_p1_roads, .int x_p1_weight, .ref q_p1_weights, .ref q_p1_near, .ref q_p1_behind, .ref q_p1_ahead])), (q_p1_weights, .inl (cI, 121, .inl x_p1_weights))] → va_S A s.heap H locs → lv_has ls 4 [(0, .ref q_), (1, .ref q_p1), (2, .int s1), (3, .int s5)] → W p l e (rmK 3 82) s m args below meth c H locs 0 0 Q (F0 m 14 ls []) := by
          intro n
          induction n with
          | zero =>
            intro s5 hn2
            cases hn2
          | succ n ih2 =>
            intro s5 hn2 H locs ls hP hD hS hl
            obtain ⟨r7, hf, hn2⟩ := it1 hn2
            replace hf : f_X0_firstSplitRoad_L14 s1 x_size x_sets x_p1_posts x_p1_weights s5 = some r7 := hf
            unfold f_X0_firstSplitRoad_L14 at hf
            refine lv_iload_n hx hb dX0_firstSplitRoad_14 rfl (lv_at hl 3 rfl) ?_
            refine lv_aload_n hx hb dX0_firstSplitRoad_15 rfl (lv_at hl 1 rfl) ?_
            refine va_get (D := (dC, dI)) (ci := 8) (v := .int x_p1_posts) (C := RX9) (T := TX9) (N := 7) hx hb htb inX9 hown hK hP 2 rfl rfl 0 (Nat.le_of_ble_eq_true rfl) (htb _ t_70) (fun _ h9 => h9) rfl dX0_firstSplitRoad_16 ?_
            refine lv_icmp_ge (tgt := 58) hx hb dX0_firstSplitRoad_19 (by decide) (fun c8 => ?_) (fun c8 => ?_)
            · have hf := ip c8 hf
              refine lv_iinc (v := (s1 + (1 : Int32))) (lv' := [(2, .int (s1 + (1 : Int32))), (0, .ref q_), (1, .ref q_p1), (3, .int s5)]) hx hb dX0_firstSplitRoad_58 hl (k := 2) rfl rfl (by decide) rfl (fun ls hl => ?_)
              refine lv_goto (tgt := 2) hx hb dX0_firstSplitRoad_61 (by decide) ?_
              cases hf
              have hf := congrArg some (itr hn2)
              cases hf
              exact ih1 _ (itl hn1) _ _ _ hP hD hS (lv_sub hl [1, 2, 0] rfl)
            · have hf := im c8 hf
              refine lv_aload_n hx hb dX0_firstSplitRoad_22 rfl (lv_at hl 1 rfl) ?_
              refine lv_iload_n hx hb dX0_firstSplitRoad_23 rfl (lv_at hl 2 rfl) ?_
              refine lv_iload_n hx hb dX0_firstSplitRoad_24 rfl (lv_at hl 3 rfl) ?_
              obtain ⟨v9, hv, hf⟩ := ob hf
              refine k_afterI (wr := [(q_, .inr (0, [.ref q_sets, .int x_size])), (q_sets, .inl (cI, 20, .inl x_sets))]) (wn := [(q_, .inr (0, [.ref q_sets, .int x_size])), (q_sets, .inl (cI, 20, .inl x_sets)), (q_p1, .inr (8, [.int x_p1_posts, .int x_p1_roads, .int x_p1_weight, .ref q_p1_weights, .ref q_p1_near, .ref q_p1_behind, .ref q_p1_ahead])), (q_p1_weights, .inl (cI, 121, .inl x_p1_weights))]) (k_runV (rest := []) (ci := 8) (q0 := 2) hx hb hml hown htb hK hN (c_X9_weightOf l dC dI cI cZ cN q_p1 q_p1_weights q_p1_near q_p1_behind q_p1_ahead x_p1_posts x_p1_roads x_p1_weight x_p1_weights s1 s5 v9 hv _) vf_X9_weightOf t_715 hP hD [2, 3] rfl rfl rfl rfl ⟨(Nat.le_of_ble_eq_true rfl), (Nat.le_of_ble_eq_true rfl)⟩ rfl hl.1 rfl (Nat.le_of_ble_eq_true rfl) dX0_firstSplitRoad_25 ⟨Nat.zero_le _, Nat.zero_le _⟩) hA hP hD hS [2, 3] [0, 1] [0, 1, 2, 3] rfl rfl rfl rfl ?_
              clear hP hD hS
              intro H locs hP hD hS
              refine lv_if_le (tgt := 52) hx hb dX0_firstSplitRoad_28 (by decide) (fun c10 => ?_) (fun c10 => ?_)
              · have hf := ip c10 hf
                refine lv_iinc (v := (s5 + (1 : Int32))) (lv' := [(3, .int (s5 + (1 : Int32))), (0, .ref q_), (1, .ref q_p1), (2, .int s1)]) hx hb dX0_firstSplitRoad_52 hl (k := 3) rfl rfl (by decide) rfl (fun ls hl => ?_)
                refine lv_goto (tgt := 14) hx hb dX0_firstSplitRoad_55 (by decide) ?_
                cases hf
                exact ih2 _ (itl hn2) _ _ _ hP hD hS (lv_sub hl [1, 2, 3, 0] rfl)
              · have hf := im c10 hf
                refine lv_aload_n hx hb dX0_firstSplitRoad_31 rfl (lv_at hl 0 rfl) ?_
                refine lv_iconst (v := (1 : Int32)) hx hb dX0_firstSplitRoad_32 (by decide) ?_
                refine lv_iload_n hx hb dX0_firstSplitRoad_33 rfl (lv_at hl 2 rfl) ?_
                refine lv_ishl hx hb dX0_firstSplitRoad_34 ?_
                refine lv_iconst (v := (1 : Int32)) hx hb dX0_firstSplitRoad_35 (by decide) ?_
                refine lv_iload_n hx hb dX0_firstSplitRoad_36 rfl (lv_at hl 3 rfl) ?_
                refine lv_ishl hx hb dX0_firstSplitRoad_37 ?_
                refine lv_ior hx hb dX0_firstSplitRoad_38 ?_
                obtain ⟨v11, hv, hf⟩ := ob hf
                refine k_afterI (wr := [(q_p1, .inr (8, [.int x_p1_posts, .int x_p1_roads, .int x_p1_weight, .ref q_p1_weights, .ref q_p1_near, .ref q_p1_behind, .ref q_p1_ahead])), (q_p1_weights, .inl (cI, 121, .inl x_p1_weights))]) (wn := [(q_, .inr (0, [.ref q_sets, .int x_size])), (q_sets, .inl (cI, 20, .inl x_sets)), (q_p1, .inr (8, [.int x_p1_posts, .int x_p1_roads, .int x_p1_weight, .ref q_p1_weights, .ref q_p1_near, .ref q_p1_behind, .ref q_p1_ahead])), (q_p1_weights, .inl (cI, 121, .inl x_p1_weights))]) (k_runV (rest := []) (ci := 0) (q0 := 0) hx hb hml hown htb hK hN (c_X0_together l dC dI cI cZ cN q_ q_sets x_size x_sets (((1 : Int32) <<< (s1 &&& 31)) ||| ((1 : Int32) <<< (s5 &&& 31))) v11 hv _) vf_X0_together t_707 hP hD [0, 1] rfl rfl rfl rfl ⟨(Nat.le_of_ble_eq_true rfl), (Nat.le_of_ble_eq_true rfl)⟩ rfl hl.1 rfl (Nat.le_of_ble_eq_true rfl) dX0_firstSplitRoad_39 ⟨Nat.zero_le _, Nat.zero_le _⟩) hA hP hD hS [0, 1] [2, 3] [2, 3, 0, 1] rfl rfl rfl rfl ?_
                clear hP hD hS
                intro H locs hP hD hS
                refine lv_if_ne (tgt := 52) hx hb dX0_firstSplitRoad_42 (by decide) (fun c12 => ?_) (fun c12 => ?_)
                · have hf := im c12 hf
                  refine lv_iinc (v := (s5 + (1 : Int32))) (lv' := [(3, .int (s5 + (1 : Int32))), (0, .ref q_), (1, .ref q_p1), (2, .int s1)]) hx hb dX0_firstSplitRoad_52 hl (k := 3) rfl rfl (by decide) rfl (fun ls hl => ?_)
                  refine lv_goto (tgt := 14) hx hb dX0_firstSplitRoad_55 (by decide) ?_
                  cases hf
                  exact ih2 _ (itl hn2) _ _ _ hP hD hS (lv_sub hl [1, 2, 3, 0] rfl)
                · have hf := ip c12 hf
                  refine lv_bipush (v := (11 : Int32)) hx hb dX0_firstSplitRoad_45 (by decide) ?_
                  refine lv_iload_n hx hb dX0_firstSplitRoad_47 rfl (lv_at hl 2 rfl) ?_
                  refine lv_imul hx hb dX0_firstSplitRoad_48 ?_
                  refine lv_iload_n hx hb dX0_firstSplitRoad_49 rfl (lv_at hl 3 rfl) ?_
                  refine lv_iadd hx hb dX0_firstSplitRoad_50 ?_
                  cases hf
                  have hf := congrArg some (itr hn2)
                  cases hf
                  have hf := congrArg some (itr hn1)
                  exact hret _ hf _ _ _ _ rfl dX0_firstSplitRoad_51 hP hD hS
        exact kl6 n0 _ hn0 _ _ _ hP hD hS (lv_sub hl [1, 2, 3, 0] rfl)
  exact kl2 n0 _ hn0 _ _ _ hP hD hS (lv_sub hl [1, 2, 0] rfl)
theorem vf_X0_beginnings : VF yX0_beginnings cX0_beginnings 6 (some .int) 1 := ⟨t_722, tp_20, t_7, t_723, by decide +kernel, by decide +kernel, by decide +kernel⟩
theorem dX0_beginnings_0 : decode cX0_beginnings 0 = .ok (.iconst 0, 1) := by decide +kernel
theorem dX0_beginnings_1 : decode cX0_beginnings 1 = .ok (.istore_n 2, 1) := by decide +kernel
theorem dX0_beginnings_2 : decode cX0_beginnings 2 = .ok (.iconst 0, 1) := by decide +kernel
theorem dX0_beginnings_3 : decode cX0_beginnings 3 = .ok (.istore_n 3, 1) := by decide +kernel
theorem dX0_beginnings_4 : decode cX0_beginnings 4 = .ok (.iconst 0, 1) := by decide +kernel
theorem dX0_beginnings_5 : decode cX0_beginnings 5 = .ok (.istore 4, 2) := by decide +kernel
theorem dX0_beginnings_7 : decode cX0_beginnings 7 = .ok (.iload 4, 2) := by decide +kernel
theorem dX0_beginnings_9 : decode cX0_beginnings 9 = .ok (.aload_n 0, 1) := by decide +kernel
theorem dX0_beginnings_10 : decode cX0_beginnings 10 = .ok (.getfield 15, 3) := by decide +kernel
theorem dX0_beginnings_13 : decode cX0_beginnings 13 = .ok (.if_icmp .ge 37, 3) := by decide +kernel
theorem dX0_beginnings_16 : decode cX0_beginnings 16 = .ok (.aload_n 0, 1) := by decide +kernel
theorem dX0_beginnings_17 : decode cX0_beginnings 17 = .ok (.getfield 9, 3) := by decide +kernel
theorem dX0_beginnings_20 : decode cX0_beginnings 20 = .ok (.iload 4, 2) := by decide +kernel
theorem dX0_beginnings_22 : decode cX0_beginnings 22 = .ok (.iaload, 1) := by decide +kernel
theorem dX0_beginnings_23 : decode cX0_beginnings 23 = .ok (.iload_n 1, 1) := by decide +kernel
theorem dX0_beginnings_24 : decode cX0_beginnings 24 = .ok (.invokestatic 46, 3) := by decide +kernel
theorem dX0_beginnings_27 : decode cX0_beginnings 27 = .ok (.istore 5, 2) := by decide +kernel
theorem dX0_beginnings_29 : decode cX0_beginnings 29 = .ok (.iload 5, 2) := by decide +kernel
theorem dX0_beginnings_31 : decode cX0_beginnings 31 = .ok (.ifCond .eq 10, 3) := by decide +kernel
theorem dX0_beginnings_34 : decode cX0_beginnings 34 = .ok (.iload_n 3, 1) := by decide +kernel
theorem dX0_beginnings_35 : decode cX0_beginnings 35 = .ok (.ifCond .ne 6, 3) := by decide +kernel
theorem dX0_beginnings_38 : decode cX0_beginnings 38 = .ok (.iinc 2 1, 3) := by decide +kernel
theorem dX0_beginnings_41 : decode cX0_beginnings 41 = .ok (.iload 5, 2) := by decide +kernel
theorem dX0_beginnings_43 : decode cX0_beginnings 43 = .ok (.istore_n 3, 1) := by decide +kernel
theorem dX0_beginnings_44 : decode cX0_beginnings 44 = .ok (.iinc 4 1, 3) := by decide +kernel
theorem dX0_beginnings_47 : decode cX0_beginnings 47 = .ok (.goto (-40), 3) := by decide +kernel
theorem dX0_beginnings_50 : decode cX0_beginnings 50 = .ok (.iload_n 2, 1) := by decide +kernel
theorem dX0_beginnings_51 : decode cX0_beginnings 51 = .ok (.ireturn, 1) := by decide +kernel
noncomputable def f_X0_beginnings_L7 (i1 : Int32) (x_size : Int32) (x_sets : Nat → Int32) (i2 : Int32) (i3 : Int32) (i4 : Int32) : Option ((Int32 × Int32 × Int32) ⊕ (Int32)) :=
  if x_size ≤ i4 then (some (.inr i2)) else ((gi x_sets 20 i4).bind fun v2 =>
  (f_X10_holds v2 i1).bind fun v3 =>
  ((if v3 = 0 then (some i2) else (if i3 = 0 then (some (i2 + (1 : Int32))) else (some i2)) : Option (Int32))).bind fun t4 =>
  some (.inl (t4, v3, (i4 + (1 : Int32)))))
noncomputable def f_X0_beginnings (x_size : Int32) (x_sets : Nat → Int32) (i1 : Int32) : Option (Int32) :=
  (loopS (fun (s : Int32 × Int32 × Int32) => f_X0_beginnings_L7 i1 x_size x_sets s.1 s.2.1 s.2.2) ((0 : Int32), (0 : Int32), (0 : Int32))).bind fun x1 =>
  some (x1)
set_option maxHeartbeats 4000000 in
set_option maxRecDepth 100000 in
theorem c_X0_beginnings (l : Launch) (dC : Nat → ClassId) (dI : Nat → Nat → Nat) (cI cZ cN : ClassId) (q_ : Nat) (q_sets : Nat) (x_size : Int32) (x_sets : Nat → Int32) (i1 : Int32) (r : Int32) (hf : f_X0_beginnings x_size x_sets i1 = some r) : CI l yX0_beginnings cX0_beginnings 6 (some .int) 3 81 (dC, dI) (TY cI cZ cN) [.ref q_, .int i1] [(q_, .inr (0, [.ref q_sets, .int x_size])), (q_sets, .inl (cI, 20, .inl x_sets))] [(q_, .inr (0, [.ref q_sets, .int x_size])), (q_sets, .inl (cI, 20, .inl x_sets))] r := by
  refine CI.of rfl (by decide) (Nat.le_of_ble_eq_true rfl) ?_
  intro p e s m args below meth c Q A ls hx hb hml hown htb hK hN hA hP hD hS hl hret
  have hown : s.vm.findClass RX0 = some m.cls := hown
  have hl : lv_has ls 6 [(0, .ref q_), (1, .int i1)] := hl
  have hret : ∀ (r9 : Int32), some r9 = some r → ∀ (H : Heap) (locs : List Loc) (pc : Nat) (ls : Array Slot), narrow .int (.int r9) = .int r9 → decode cX0_beginnings pc = .ok (.ireturn, 1) → va_P (dC, dI) vwCl [(q_, .inr (0, [.ref q_sets, .int x_size])), (q_sets, .inl (cI, 20, .inl x_sets))] H → va_D A [(q_, .inr (0, [.ref q_sets, .int x_size])), (q_sets, .inl (cI, 20, .inl x_sets))] → va_S A s.heap H locs → W p l e (rmK 3 81) s m args below meth c H locs 0 0 Q (F0 m pc ls [.int r9]) := by
    intro r9 h9
    cases h9
    exact hret
  unfold f_X0_beginnings at hf
  refine lv_iconst (v := (0 : Int32)) hx hb dX0_beginnings_0 (by decide) ?_
  refine lv_istore_n (lv' := [(2, .int (0 : Int32)), (0, .ref q_), (1, .int i1)]) hx hb dX0_beginnings_1 rfl hl (by decide) rfl (fun ls hl => ?_)
  refine lv_iconst (v := (0 : Int32)) hx hb dX0_beginnings_2 (by decide) ?_
  refine lv_istore_n (lv' := [(3, .int (0 : Int32)), (2, .int (0 : Int32)), (0, .ref q_), (1, .int i1)]) hx hb dX0_beginnings_3 rfl hl (by decide) rfl (fun ls hl => ?_)
  refine lv_iconst (v := (0 : Int32)) hx hb dX0_beginnings_4 (by decide) ?_
  refine lv_istore (lv' := [(4, .int (0 : Int32)), (3, .int (0 : Int32)), (2, .int (0 : Int32)), (0, .ref q_), (1, .int i1)]) hx hb dX0_beginnings_5 hl (by decide) rfl (fun ls hl => ?_)
  obtain ⟨x1, hL, hf⟩ := ob hf
  have kx2 : ∀ (H : Heap) (locs : List Loc) (ls : Array Slot), va_P (dC, dI) vwCl [(q_, .inr (0, [.ref q_sets, .int x_size])), (q_sets, .inl (cI, 20, .inl x_sets))] H → va_D A [(q_, .inr (0, [.ref q_sets, .int x_size])), (q_sets, .inl (cI, 20, .inl x_sets))] → va_S A s.heap H locs → lv_has ls 6 [(2, .int x1)] → W p l e (rmK 3 81) s m args below meth c H locs 0 0 Q (F0 m 50 ls []) := by
    intro H locs ls hP hD hS hl
    refine lv_iload_n hx hb dX0_beginnings_50 rfl (lv_at hl 0 rfl) ?_
    exact hret _ hf _ _ _ _ rfl dX0_beginnings_51 hP hD hS
  obtain ⟨n0, hn0⟩ := loopS_iter hL
  clear hf
  have kl6 : ∀ (n : Nat) (s3 : Int32) (s4 : Int32) (s5 : Int32), iterS (fun (s : Int32 × Int32 × Int32) => f_X0_beginnings_L7 i1 x_size x_sets s.1 s.2.1 s.2.2) n (s3, s4, s5) = some x1 → ∀ (H : Heap) (locs : List Loc) (ls : Array Slot), va_P (dC, dI) vwCl [(q_, .inr (0, [.ref q_sets, .int x_size])), (q_sets, .inl (cI, 20, .inl x_sets))] H → va_D A [(q_, .inr (0, [.ref q_sets, .int x_size])), (q_sets, .inl (cI, 20, .inl x_sets))] → va_S A s.heap H locs → lv_has ls 6 [(0, .ref q_), (1, .int i1), (2, .int s3), (3, .int s4), (4, .int s5)] → W p l e (rmK 3 81) s m args below meth c H locs 0 0 Q (F0 m 7 ls []) := by
    intro n
    induction n with
    | zero =>
      intro s3 s4 s5 hn1
      cases hn1
    | succ n ih1 =>
      intro s3 s4 s5 hn1 H locs ls hP hD hS hl
      obtain ⟨r7, hf, hn1⟩ := it1 hn1
      replace hf : f_X0_beginnings_L7 i1 x_size x_sets s3 s4 s5 = some r7 := hf
      unfold f_X0_beginnings_L7 at hf
      refine lv_iload hx hb dX0_beginnings_7 (lv_at hl 4 rfl) ?_
      refine lv_aload_n hx hb dX0_beginnings_9 rfl (lv_at hl 0 rfl) ?_
      refine va_get (D := (dC, dI)) (ci := 0) (v := .int x_size) (C := RX0) (T := TX0) (N := 2) hx hb htb inX0 hown hK hP 0 rfl rfl 1 (Nat.le_of_ble_eq_true rfl) (htb _ t_152) (fun _ h9 => h9) rfl dX0_beginnings_10 ?_
      refine lv_icmp_ge (tgt := 50) hx hb dX0_beginnings_13 (by decide) (fun c8 => ?_) (fun c8 => ?_)
      · have hf := ip c8 hf
        cases hf
        cases (itr hn1)
        exact kx2 _ _ _ hP hD hS (lv_sub hl [2] rfl)
      · have hf := im c8 hf
        refine lv_aload_n hx hb dX0_beginnings_16 rfl (lv_at hl 0 rfl) ?_
        refine va_get (D := (dC, dI)) (ci := 0) (v := .ref q_sets) (C := RX0) (T := TX0) (N := 2) hx hb htb inX0 hown hK hP 0 rfl rfl 0 (Nat.le_of_ble_eq_true rfl) (htb _ t_151) (fun _ h9 => h9) rfl dX0_beginnings_17 ?_
        refine lv_iload hx hb dX0_beginnings_20 (lv_at hl 4 rfl) ?_
        obtain ⟨v9, hv, hf⟩ := ob hf
        refine k_iald hx hb hK hP 1 0 rfl rfl hv dX0_beginnings_22 ?_
        refine lv_iload_n hx hb dX0_beginnings_23 rfl (lv_at hl 1 rfl) ?_
        obtain ⟨v10, hv, hf⟩ := ob hf
        refine k_afterI (wr := [(q_, .inr (0, [.ref q_sets, .int x_size])), (q_sets, .inl (cI, 20, .inl x_sets))]) (wn := [(q_, .inr (0, [.ref q_sets, .int x_size])), (q_sets, .inl (cI, 20, .inl x_sets))]) (k_runSN (rest := []) (host := "NarrowRows") hx hb hml hown htb hK hN (c_X10_holds l dC dI cI cZ cN v9 i1 v10 hv _) sf_X10_holds nm_11 hP hD [] rfl rfl ⟨(Nat.le_of_ble_eq_true rfl), (Nat.le_of_ble_eq_true rfl)⟩ rfl hl.1 rfl (Nat.le_of_ble_eq_true rfl) dX0_beginnings_24 ⟨Nat.zero_le _, Nat.zero_le _⟩) hA hP hD hS [] [0, 1] [0, 1] rfl rfl rfl rfl ?_
        clear hP hD hS
        intro H locs hP hD hS
        refine lv_istore (lv' := [(5, .int v10), (0, .ref q_), (1, .int i1), (2, .int s3), (3, .int s4), (4, .int s5)]) hx hb dX0_beginnings_27 hl (by decide) rfl (fun ls hl => ?_)
        refine lv_iload hx hb dX0_beginnings_29 (lv_at hl 0 rfl) ?_
        obtain ⟨t11, hv, hf⟩ := ob hf
        have key12 : ∀ (H : Heap) (locs : List Loc) (ls : Array Slot), va_P (dC, dI) vwCl [(q_, .inr (0, [.ref q_sets, .int x_size])), (q_sets, .inl (cI, 20, .inl x_sets))] H → va_D A [(q_, .inr (0, [.ref q_sets, .int x_size])), (q_sets, .inl (cI, 20, .inl x_sets))] → va_S A s.heap H locs → lv_has ls 6 [(0, .ref q_), (1, .int i1), (2, .int t11), (4, .int s5), (5, .int v10)] → W p l e (rmK 3 81) s m args below meth c H locs 0 0 Q (F0 m 41 ls []) := by
          intro H locs ls hP hD hS hl
          refine lv_iload hx hb dX0_beginnings_41 (lv_at hl 4 rfl) ?_
          refine lv_istore_n (lv' := [(3, .int v10), (0, .ref q_), (1, .int i1), (2, .int t11), (4, .int s5), (5, .int v10)]) hx hb dX0_beginnings_43 rfl hl (by decide) rfl (fun ls hl => ?_)
          refine lv_iinc (v := (s5 + (1 : Int32))) (lv' := [(4, .int (s5 + (1 : Int32))), (3, .int v10), (0, .ref q_), (1, .int i1), (2, .int t11), (5, .int v10)]) hx hb dX0_beginnings_44 hl (k := 4) rfl rfl (by decide) rfl (fun ls hl => ?_)
          refine lv_goto (tgt := 7) hx hb dX0_beginnings_47 (by decide) ?_
          cases hf
          exact ih1 _ _ _ (itl hn1) _ _ _ hP hD hS (lv_sub hl [2, 3, 4, 1, 0] rfl)
        replace hf := hv
        refine lv_if_eq (tgt := 41) hx hb dX0_beginnings_31 (by decide) (fun c13 => ?_) (fun c13 => ?_)
        · have hf := ip c13 hf
          cases hf
          exact key12 _ _ _ hP hD hS (lv_sub hl [1, 2, 3, 5, 0] rfl)
        · have hf := im c13 hf
          refine lv_iload_n hx hb dX0_beginnings_34 rfl (lv_at hl 4 rfl) ?_
          refine lv_if_ne (tgt := 41) hx hb dX0_beginnings_35 (by decide) (fun c14 => ?_) (fun c14 => ?_)
          · have hf := im c14 hf
            cases hf
            exact key12 _ _ _ hP hD hS (lv_sub hl [1, 2, 3, 5, 0] rfl)
          · have hf := ip c14 hf
            refine lv_iinc (v := (s3 + (1 : Int32))) (lv' := [(2, .int (s3 + (1 : Int32))), (5, .int v10), (0, .ref q_), (1, .int i1), (3, .int s4), (4, .int s5)]) hx hb dX0_beginnings_38 hl (k := 3) rfl rfl (by decide) rfl (fun ls hl => ?_)
            cases hf
            exact key12 _ _ _ hP hD hS (lv_sub hl [2, 3, 0, 5, 1] rfl)
  exact kl6 n0 _ _ _ hn0 _ _ _ hP hD hS (lv_sub hl [3, 4, 2, 1, 0] rfl)
theorem vf_X0_firstTorn : VF yX0_firstTorn cX0_firstTorn 3 (some .int) 1 := ⟨t_718, tp_19, t_7, t_719, by decide +kernel, by decide +kernel, by decide +kernel⟩
theorem dX0_firstTorn_0 : decode cX0_firstTorn 0 = .ok (.iconst 0, 1) := by decide +kernel
theorem dX0_firstTorn_1 : decode cX0_firstTorn 1 = .ok (.istore_n 2, 1) := by decide +kernel
theorem dX0_firstTorn_2 : decode cX0_firstTorn 2 = .ok (.iload_n 2, 1) := by decide +kernel
theorem dX0_firstTorn_3 : decode cX0_firstTorn 3 = .ok (.iload_n 1, 1) := by decide +kernel
theorem dX0_firstTorn_4 : decode cX0_firstTorn 4 = .ok (.if_icmp .ge 20, 3) := by decide +kernel
theorem dX0_firstTorn_7 : decode cX0_firstTorn 7 = .ok (.aload_n 0, 1) := by decide +kernel
theorem dX0_firstTorn_8 : decode cX0_firstTorn 8 = .ok (.iload_n 2, 1) := by decide +kernel
theorem dX0_firstTorn_9 : decode cX0_firstTorn 9 = .ok (.invokevirtual 43, 3) := by decide +kernel
theorem dX0_firstTorn_12 : decode cX0_firstTorn 12 = .ok (.iconst 1, 1) := by decide +kernel
theorem dX0_firstTorn_13 : decode cX0_firstTorn 13 = .ok (.if_icmp .le 5, 3) := by decide +kernel
theorem dX0_firstTorn_16 : decode cX0_firstTorn 16 = .ok (.iload_n 2, 1) := by decide +kernel
theorem dX0_firstTorn_17 : decode cX0_firstTorn 17 = .ok (.ireturn, 1) := by decide +kernel
theorem dX0_firstTorn_18 : decode cX0_firstTorn 18 = .ok (.iinc 2 1, 3) := by decide +kernel
theorem dX0_firstTorn_21 : decode cX0_firstTorn 21 = .ok (.goto (-19), 3) := by decide +kernel
theorem dX0_firstTorn_24 : decode cX0_firstTorn 24 = .ok (.iconst (-1), 1) := by decide +kernel
theorem dX0_firstTorn_25 : decode cX0_firstTorn 25 = .ok (.ireturn, 1) := by decide +kernel
noncomputable def f_X0_firstTorn_L2 (i1 : Int32) (x_size : Int32) (x_sets : Nat → Int32) (i2 : Int32) : Option ((Int32) ⊕ (Int32)) :=
  if i1 ≤ i2 then (some (.inr ((-1 : Int32)))) else ((f_X0_beginnings x_size x_sets i2).bind fun v2 =>
  if v2 ≤ (1 : Int32) then (some (.inl (i2 + (1 : Int32)))) else (some (.inr (i2))))
noncomputable def f_X0_firstTorn (x_size : Int32) (x_sets : Nat → Int32) (i1 : Int32) : Option (Int32) :=
  loopS (fun (s : Int32) => f_X0_firstTorn_L2 i1 x_size x_sets s) (0 : Int32)
set_option maxHeartbeats 4000000 in
set_option maxRecDepth 100000 in
theorem c_X0_firstTorn (l : Launch) (dC : Nat → ClassId) (dI : Nat → Nat → Nat) (cI cZ cN : ClassId) (q_ : Nat) (q_sets : Nat) (x_size : Int32) (x_sets : Nat → Int32) (i1 : Int32) (r : Int32) (hf : f_X0_firstTorn x_size x_sets i1 = some r) : CI l yX0_firstTorn cX0_firstTorn 3 (some .int) 4 106 (dC, dI) (TY cI cZ cN) [.ref q_, .int i1] [(q_, .inr (0, [.ref q_sets, .int x_size])), (q_sets, .inl (cI, 20, .inl x_sets))] [(q_, .inr (0, [.ref q_sets, .int x_size])), (q_sets, .inl (cI, 20, .inl x_sets))] r := by
  refine CI.of rfl (by decide) (Nat.le_of_ble_eq_true rfl) ?_
  intro p e s m args below meth c Q A ls hx hb hml hown htb hK hN hA hP hD hS hl hret
  have hown : s.vm.findClass RX0 = some m.cls := hown
  have hl : lv_has ls 3 [(0, .ref q_), (1, .int i1)] := hl
  have hret : ∀ (r9 : Int32), some r9 = some r → ∀ (H : Heap) (locs : List Loc) (pc : Nat) (ls : Array Slot), narrow .int (.int r9) = .int r9 → decode cX0_firstTorn pc = .ok (.ireturn, 1) → va_P (dC, dI) vwCl [(q_, .inr (0, [.ref q_sets, .int x_size])), (q_sets, .inl (cI, 20, .inl x_sets))] H → va_D A [(q_, .inr (0, [.ref q_sets, .int x_size])), (q_sets, .inl (cI, 20, .inl x_sets))] → va_S A s.heap H locs → W p l e (rmK 4 106) s m args below meth c H locs 0 0 Q (F0 m pc ls [.int r9]) := by
    intro r9 h9
    cases h9
    exact hret
  unfold f_X0_firstTorn at hf
  refine lv_iconst (v := (0 : Int32)) hx hb dX0_firstTorn_0 (by decide) ?_
  refine lv_istore_n (lv' := [(2, .int (0 : Int32)), (0, .ref q_), (1, .int i1)]) hx hb dX0_firstTorn_1 rfl hl (by decide) rfl (fun ls hl => ?_)
  obtain ⟨n0, hn0⟩ := loopS_iter hf
  clear hf
  have kl2 : ∀ (n : Nat) (s1 : Int32), iterS (fun (s : Int32) => f_X0_firstTorn_L2 i1 x_size x_sets s) n s1 = some r → ∀ (H : Heap) (locs : List Loc) (ls : Array Slot), va_P (dC, dI) vwCl [(q_, .inr (0, [.ref q_sets, .int x_size])), (q_sets, .inl (cI, 20, .inl x_sets))] H → va_D A [(q_, .inr (0, [.ref q_sets, .int x_size])), (q_sets, .inl (cI, 20, .inl x_sets))] → va_S A s.heap H locs → lv_has ls 3 [(0, .ref q_), (1, .int i1), (2, .int s1)] → W p l e (rmK 4 106) s m args below meth c H locs 0 0 Q (F0 m 2 ls []) := by
    intro n
    induction n with
    | zero =>
      intro s1 hn1
      cases hn1
    | succ n ih1 =>
      intro s1 hn1 H locs ls hP hD hS hl
      obtain ⟨r3, hf, hn1⟩ := it1 hn1
      replace hf : f_X0_firstTorn_L2 i1 x_size x_sets s1 = some r3 := hf
      unfold f_X0_firstTorn_L2 at hf
      refine lv_iload_n hx hb dX0_firstTorn_2 rfl (lv_at hl 2 rfl) ?_
      refine lv_iload_n hx hb dX0_firstTorn_3 rfl (lv_at hl 1 rfl) ?_
      refine lv_icmp_ge (tgt := 24) hx hb dX0_firstTorn_4 (by decide) (fun c4 => ?_) (fun c4 => ?_)
      · have hf := ip c4 hf
        refine lv_iconst (v := (-1 : Int32)) hx hb dX0_firstTorn_24 (by decide) ?_
        cases hf
        have hf := congrArg some (itr hn1)
        exact hret _ hf _ _ _ _ rfl dX0_firstTorn_25 hP hD hS
      · have hf := im c4 hf
        refine lv_aload_n hx hb dX0_firstTorn_7 rfl (lv_at hl 0 rfl) ?_
        refine lv_iload_n hx hb dX0_firstTorn_8 rfl (lv_at hl 2 rfl) ?_
        obtain ⟨v5, hv, hf⟩ := ob hf
        refine k_afterI (wr := []) (wn := [(q_, .inr (0, [.ref q_sets, .int x_size])), (q_sets, .inl (cI, 20, .inl x_sets))]) (k_runV (rest := []) (ci := 0) (q0 := 0) hx hb hml hown htb hK hN (c_X0_beginnings l dC dI cI cZ cN q_ q_sets x_size x_sets s1 v5 hv _) vf_X0_beginnings t_720 hP hD [0, 1] rfl rfl rfl rfl ⟨(Nat.le_of_ble_eq_true rfl), (Nat.le_of_ble_eq_true rfl)⟩ rfl hl.1 rfl (Nat.le_of_ble_eq_true rfl) dX0_firstTorn_9 ⟨Nat.zero_le _, Nat.zero_le _⟩) hA hP hD hS [0, 1] [] [0, 1] rfl rfl rfl rfl ?_
        clear hP hD hS
        intro H locs hP hD hS
        refine lv_iconst (v := (1 : Int32)) hx hb dX0_firstTorn_12 (by decide) ?_
        refine lv_icmp_le (tgt := 18) hx hb dX0_firstTorn_13 (by decide) (fun c6 => ?_) (fun c6 => ?_)
        · have hf := ip c6 hf
          refine lv_iinc (v := (s1 + (1 : Int32))) (lv' := [(2, .int (s1 + (1 : Int32))), (0, .ref q_), (1, .int i1)]) hx hb dX0_firstTorn_18 hl (k := 2) rfl rfl (by decide) rfl (fun ls hl => ?_)
          refine lv_goto (tgt := 2) hx hb dX0_firstTorn_21 (by decide) ?_
          cases hf
          exact ih1 _ (itl hn1) _ _ _ hP hD hS (lv_sub hl [1, 2, 0] rfl)
        · have hf := im c6 hf
          refine lv_iload_n hx hb dX0_firstTorn_16 rfl (lv_at hl 2 rfl) ?_
          cases hf
          have hf := congrArg some (itr hn1)
          exact hret _ hf _ _ _ _ rfl dX0_firstTorn_17 hP hD hS
  exact kl2 n0 _ hn0 _ _ _ hP hD hS (lv_sub hl [1, 2, 0] rfl)
theorem vf_X0_fault : VF yX0_fault cX0_fault 5 (some .int) 1 := ⟨t_700, t_701, t_7, t_702, by decide +kernel, by decide +kernel, by decide +kernel⟩
theorem dX0_fault_0 : decode cX0_fault 0 = .ok (.aload_n 0, 1) := by decide +kernel
theorem dX0_fault_1 : decode cX0_fault 1 = .ok (.aload_n 1, 1) := by decide +kernel
theorem dX0_fault_2 : decode cX0_fault 2 = .ok (.getfield 19, 3) := by decide +kernel
theorem dX0_fault_5 : decode cX0_fault 5 = .ok (.invokevirtual 24, 3) := by decide +kernel
theorem dX0_fault_8 : decode cX0_fault 8 = .ok (.istore_n 2, 1) := by decide +kernel
theorem dX0_fault_9 : decode cX0_fault 9 = .ok (.iload_n 2, 1) := by decide +kernel
theorem dX0_fault_10 : decode cX0_fault 10 = .ok (.iconst (-1), 1) := by decide +kernel
theorem dX0_fault_11 : decode cX0_fault 11 = .ok (.if_icmp .eq 8, 3) := by decide +kernel
theorem dX0_fault_14 : decode cX0_fault 14 = .ok (.bipush 100, 2) := by decide +kernel
theorem dX0_fault_16 : decode cX0_fault 16 = .ok (.iload_n 2, 1) := by decide +kernel
theorem dX0_fault_17 : decode cX0_fault 17 = .ok (.iadd, 1) := by decide +kernel
theorem dX0_fault_18 : decode cX0_fault 18 = .ok (.ireturn, 1) := by decide +kernel
theorem dX0_fault_19 : decode cX0_fault 19 = .ok (.aload_n 0, 1) := by decide +kernel
theorem dX0_fault_20 : decode cX0_fault 20 = .ok (.aload_n 1, 1) := by decide +kernel
theorem dX0_fault_21 : decode cX0_fault 21 = .ok (.invokevirtual 28, 3) := by decide +kernel
theorem dX0_fault_24 : decode cX0_fault 24 = .ok (.istore_n 3, 1) := by decide +kernel
theorem dX0_fault_25 : decode cX0_fault 25 = .ok (.iload_n 3, 1) := by decide +kernel
theorem dX0_fault_26 : decode cX0_fault 26 = .ok (.iconst (-1), 1) := by decide +kernel
theorem dX0_fault_27 : decode cX0_fault 27 = .ok (.if_icmp .eq 9, 3) := by decide +kernel
theorem dX0_fault_30 : decode cX0_fault 30 = .ok (.sipush 200, 3) := by decide +kernel
theorem dX0_fault_33 : decode cX0_fault 33 = .ok (.iload_n 3, 1) := by decide +kernel
theorem dX0_fault_34 : decode cX0_fault 34 = .ok (.iadd, 1) := by decide +kernel
theorem dX0_fault_35 : decode cX0_fault 35 = .ok (.ireturn, 1) := by decide +kernel
theorem dX0_fault_36 : decode cX0_fault 36 = .ok (.aload_n 0, 1) := by decide +kernel
theorem dX0_fault_37 : decode cX0_fault 37 = .ok (.aload_n 1, 1) := by decide +kernel
theorem dX0_fault_38 : decode cX0_fault 38 = .ok (.getfield 19, 3) := by decide +kernel
theorem dX0_fault_41 : decode cX0_fault 41 = .ok (.invokevirtual 32, 3) := by decide +kernel
theorem dX0_fault_44 : decode cX0_fault 44 = .ok (.istore 4, 2) := by decide +kernel
theorem dX0_fault_46 : decode cX0_fault 46 = .ok (.iload 4, 2) := by decide +kernel
theorem dX0_fault_48 : decode cX0_fault 48 = .ok (.iconst (-1), 1) := by decide +kernel
theorem dX0_fault_49 : decode cX0_fault 49 = .ok (.if_icmp .eq 12, 3) := by decide +kernel
theorem dX0_fault_52 : decode cX0_fault 52 = .ok (.sipush 400, 3) := by decide +kernel
theorem dX0_fault_55 : decode cX0_fault 55 = .ok (.iload 4, 2) := by decide +kernel
theorem dX0_fault_57 : decode cX0_fault 57 = .ok (.iadd, 1) := by decide +kernel
theorem dX0_fault_58 : decode cX0_fault 58 = .ok (.goto 4, 3) := by decide +kernel
theorem dX0_fault_61 : decode cX0_fault 61 = .ok (.iconst 0, 1) := by decide +kernel
theorem dX0_fault_62 : decode cX0_fault 62 = .ok (.ireturn, 1) := by decide +kernel
noncomputable def f_X0_fault (x_size : Int32) (x_sets : Nat → Int32) (x_p1_posts : Int32) (x_p1_weights : Nat → Int32) : Option (Int32) :=
  (f_X0_firstBare x_size x_sets x_p1_posts).bind fun v1 =>
  if v1 = (-1 : Int32) then ((f_X0_firstSplitRoad x_size x_sets x_p1_posts x_p1_weights).bind fun v3 =>
  if v3 = (-1 : Int32) then ((f_X0_firstTorn x_size x_sets x_p1_posts).bind fun v5 =>
  if v5 = (-1 : Int32) then (some ((0 : Int32))) else (some (((400 : Int32) + v5)))) else (some (((200 : Int32) + v3)))) else (some (((100 : Int32) + v1)))
set_option maxHeartbeats 4000000 in
set_option maxRecDepth 100000 in
theorem c_X0_fault (l : Launch) (dC : Nat → ClassId) (dI : Nat → Nat → Nat) (cI cZ cN : ClassId) (q_ : Nat) (q_sets : Nat) (q_p1 : Nat) (q_p1_weights : Nat) (q_p1_near : Nat) (q_p1_behind : Nat) (q_p1_ahead : Nat) (x_size : Int32) (x_sets : Nat → Int32) (x_p1_posts : Int32) (x_p1_roads : Int32) (x_p1_weight : Int32) (x_p1_weights : Nat → Int32) (r : Int32) (hf : f_X0_fault x_size x_sets x_p1_posts x_p1_weights = some r) : CI l yX0_fault cX0_fault 5 (some .int) 5 128 (dC, dI) (TY cI cZ cN) [.ref q_, .ref q_p1] [(q_, .inr (0, [.ref q_sets, .int x_size])), (q_sets, .inl (cI, 20, .inl x_sets)), (q_p1, .inr (8, [.int x_p1_posts, .int x_p1_roads, .int x_p1_weight, .ref q_p1_weights, .ref q_p1_near, .ref q_p1_behind, .ref q_p1_ahead])), (q_p1_weights, .inl (cI, 121, .inl x_p1_weights))] [(q_, .inr (0, [.ref q_sets, .int x_size])), (q_sets, .inl (cI, 20, .inl x_sets)), (q_p1, .inr (8, [.int x_p1_posts, .int x_p1_roads, .int x_p1_weight, .ref q_p1_weights, .ref q_p1_near, .ref q_p1_behind, .ref q_p1_ahead])), (q_p1_weights, .inl (cI, 121, .inl x_p1_weights))] r := by
  refine CI.of rfl (by decide) (Nat.le_of_ble_eq_true rfl) ?_
  intro p e s m args below meth c Q A ls hx hb hml hown htb hK hN hA hP hD hS hl hret
  have hown : s.vm.findClass RX0 = some m.cls := hown
  have hl : lv_has ls 5 [(0, .ref q_), (1, .ref q_p1)] := hl
  have hret : ∀ (r9 : Int32), some r9 = some r → ∀ (H : Heap) (locs : List Loc) (pc : Nat) (ls : Array Slot), narrow .int (.int r9) = .int r9 → decode cX0_fault pc = .ok (.ireturn, 1) → va_P (dC, dI) vwCl [(q_, .inr (0, [.ref q_sets, .int x_size])), (q_sets, .inl (cI, 20, .inl x_sets)), (q_p1, .inr (8, [.int x_p1_posts, .int x_p1_roads, .int x_p1_weight, .ref q_p1_weights, .ref q_p1_near, .ref q_p1_behind, .ref q_p1_ahead])), (q_p1_weights, .inl (cI, 121, .inl x_p1_weights))] H → va_D A [(q_, .inr (0, [.ref q_sets, .int x_size])), (q_sets, .inl (cI, 20, .inl x_sets)), (q_p1, .inr (8, [.int x_p1_posts, .int x_p1_roads, .int x_p1_weight, .ref q_p1_weights, .ref q_p1_near, .ref q_p1_behind, .ref q_p1_ahead])), (q_p1_weights, .inl (cI, 121, .inl x_p1_weights))] → va_S A s.heap H locs → W p l e (rmK 5 128) s m args below meth c H locs 0 0 Q (F0 m pc ls [.int r9]) := by
    intro r9 h9
    cases h9
    exact hret
  unfold f_X0_fault at hf
  refine lv_aload_n hx hb dX0_fault_0 rfl (lv_at hl 0 rfl) ?_
  refine lv_aload_n hx hb dX0_fault_1 rfl (lv_at hl 1 rfl) ?_
  refine va_get (D := (dC, dI)) (ci := 8) (v := .int x_p1_posts) (C := RX9) (T := TX9) (N := 7) hx hb htb inX9 hown hK hP 2 rfl rfl 0 (Nat.le_of_ble_eq_true rfl) (htb _ t_70) (fun _ h9 => h9) rfl dX0_fault_2 ?_
  obtain ⟨v1, hv, hf⟩ := ob hf
  refine k_afterI (wr := [(q_p1, .inr (8, [.int x_p1_posts, .int x_p1_roads, .int x_p1_weight, .ref q_p1_weights, .ref q_p1_near, .ref q_p1_behind, .ref q_p1_ahead])), (q_p1_weights, .inl (cI, 121, .inl x_p1_weights))]) (wn := [(q_, .inr (0, [.ref q_sets, .int x_size])), (q_sets, .inl (cI, 20, .inl x_sets)), (q_p1, .inr (8, [.int x_p1_posts, .int x_p1_roads, .int x_p1_weight, .ref q_p1_weights, .ref q_p1_near, .ref q_p1_behind, .ref q_p1_ahead])), (q_p1_weights, .inl (cI, 121, .inl x_p1_weights))]) (k_runV (rest := []) (ci := 0) (q0 := 0) hx hb hml hown htb hK hN (c_X0_firstBare l dC dI cI cZ cN q_ q_sets x_size x_sets x_p1_posts v1 hv _) vf_X0_firstBare t_703 hP hD [0, 1] rfl rfl rfl rfl ⟨(Nat.le_of_ble_eq_true rfl), (Nat.le_of_ble_eq_true rfl)⟩ rfl hl.1 rfl (Nat.le_of_ble_eq_true rfl) dX0_fault_5 ⟨Nat.zero_le _, Nat.zero_le _⟩) hA hP hD hS [0, 1] [2, 3] [2, 3, 0, 1] rfl rfl rfl rfl ?_
  clear hP hD hS
  intro H locs hP hD hS
  refine lv_istore_n (lv' := [(2, .int v1), (0, .ref q_), (1, .ref q_p1)]) hx hb dX0_fault_8 rfl hl (by decide) rfl (fun ls hl => ?_)
  refine lv_iload_n hx hb dX0_fault_9 rfl (lv_at hl 0 rfl) ?_
  refine lv_iconst (v := (-1 : Int32)) hx hb dX0_fault_10 (by decide) ?_
  refine lv_icmp_eq (tgt := 19) hx hb dX0_fault_11 (by decide) (fun c2 => ?_) (fun c2 => ?_)
  · have hf := ip c2 hf
    refine lv_aload_n hx hb dX0_fault_19 rfl (lv_at hl 1 rfl) ?_
    refine lv_aload_n hx hb dX0_fault_20 rfl (lv_at hl 2 rfl) ?_
    obtain ⟨v3, hv, hf⟩ := ob hf
    refine k_afterI (wr := []) (wn := [(q_, .inr (0, [.ref q_sets, .int x_size])), (q_sets, .inl (cI, 20, .inl x_sets)), (q_p1, .inr (8, [.int x_p1_posts, .int x_p1_roads, .int x_p1_weight, .ref q_p1_weights, .ref q_p1_near, .ref q_p1_behind, .ref q_p1_ahead])), (q_p1_weights, .inl (cI, 121, .inl x_p1_weights))]) (k_runV (rest := []) (ci := 0) (q0 := 0) hx hb hml hown htb hK hN (c_X0_firstSplitRoad l dC dI cI cZ cN q_ q_sets q_p1 q_p1_weights q_p1_near q_p1_behind q_p1_ahead x_size x_sets x_p1_posts x_p1_roads x_p1_weight x_p1_weights v3 hv _) vf_X0_firstSplitRoad t_711 hP hD [0, 1, 2, 3] rfl rfl rfl rfl ⟨(Nat.le_of_ble_eq_true rfl), (Nat.le_of_ble_eq_true rfl)⟩ rfl hl.1 rfl (Nat.le_of_ble_eq_true rfl) dX0_fault_21 ⟨Nat.zero_le _, Nat.zero_le _⟩) hA hP hD hS [0, 1, 2, 3] [] [0, 1, 2, 3] rfl rfl rfl rfl ?_
    clear hP hD hS
    intro H locs hP hD hS
    refine lv_istore_n (lv' := [(3, .int v3), (2, .int v1), (0, .ref q_), (1, .ref q_p1)]) hx hb dX0_fault_24 rfl hl (by decide) rfl (fun ls hl => ?_)
    refine lv_iload_n hx hb dX0_fault_25 rfl (lv_at hl 0 rfl) ?_
    refine lv_iconst (v := (-1 : Int32)) hx hb dX0_fault_26 (by decide) ?_
    refine lv_icmp_eq (tgt := 36) hx hb dX0_fault_27 (by decide) (fun c4 => ?_) (fun c4 => ?_)
    · have hf := ip c4 hf
      refine lv_aload_n hx hb dX0_fault_36 rfl (lv_at hl 2 rfl) ?_
      refine lv_aload_n hx hb dX0_fault_37 rfl (lv_at hl 3 rfl) ?_
      refine va_get (D := (dC, dI)) (ci := 8) (v := .int x_p1_posts) (C := RX9) (T := TX9) (N := 7) hx hb htb inX9 hown hK hP 2 rfl rfl 0 (Nat.le_of_ble_eq_true rfl) (htb _ t_70) (fun _ h9 => h9) rfl dX0_fault_38 ?_
      obtain ⟨v5, hv, hf⟩ := ob hf
      refine k_afterI (wr := [(q_p1, .inr (8, [.int x_p1_posts, .int x_p1_roads, .int x_p1_weight, .ref q_p1_weights, .ref q_p1_near, .ref q_p1_behind, .ref q_p1_ahead])), (q_p1_weights, .inl (cI, 121, .inl x_p1_weights))]) (wn := [(q_, .inr (0, [.ref q_sets, .int x_size])), (q_sets, .inl (cI, 20, .inl x_sets)), (q_p1, .inr (8, [.int x_p1_posts, .int x_p1_roads, .int x_p1_weight, .ref q_p1_weights, .ref q_p1_near, .ref q_p1_behind, .ref q_p1_ahead])), (q_p1_weights, .inl (cI, 121, .inl x_p1_weights))]) (k_runV (rest := []) (ci := 0) (q0 := 0) hx hb hml hown htb hK hN (c_X0_firstTorn l dC dI cI cZ cN q_ q_sets x_size x_sets x_p1_posts v5 hv _) vf_X0_firstTorn t_716 hP hD [0, 1] rfl rfl rfl rfl ⟨(Nat.le_of_ble_eq_true rfl), (Nat.le_of_ble_eq_true rfl)⟩ rfl hl.1 rfl (Nat.le_of_ble_eq_true rfl) dX0_fault_41 ⟨Nat.zero_le _, Nat.zero_le _⟩) hA hP hD hS [0, 1] [2, 3] [2, 3, 0, 1] rfl rfl rfl rfl ?_
      clear hP hD hS
      intro H locs hP hD hS
      refine lv_istore (lv' := [(4, .int v5), (3, .int v3), (2, .int v1), (0, .ref q_), (1, .ref q_p1)]) hx hb dX0_fault_44 hl (by decide) rfl (fun ls hl => ?_)
      refine lv_iload hx hb dX0_fault_46 (lv_at hl 0 rfl) ?_
      refine lv_iconst (v := (-1 : Int32)) hx hb dX0_fault_48 (by decide) ?_
      refine lv_icmp_eq (tgt := 61) hx hb dX0_fault_49 (by decide) (fun c6 => ?_) (fun c6 => ?_)
      · have hf := ip c6 hf
        refine lv_iconst (v := (0 : Int32)) hx hb dX0_fault_61 (by decide) ?_
        exact hret _ hf _ _ _ _ rfl dX0_fault_62 hP hD hS
      · have hf := im c6 hf
        refine lv_sipush (v := (400 : Int32)) hx hb dX0_fault_52 (by decide) ?_
        refine lv_iload hx hb dX0_fault_55 (lv_at hl 0 rfl) ?_
        refine lv_iadd hx hb dX0_fault_57 ?_
        refine lv_goto (tgt := 62) hx hb dX0_fault_58 (by decide) ?_
        exact hret _ hf _ _ _ _ rfl dX0_fault_62 hP hD hS
    · have hf := im c4 hf
      refine lv_sipush (v := (200 : Int32)) hx hb dX0_fault_30 (by decide) ?_
      refine lv_iload_n hx hb dX0_fault_33 rfl (lv_at hl 0 rfl) ?_
      refine lv_iadd hx hb dX0_fault_34 ?_
      exact hret _ hf _ _ _ _ rfl dX0_fault_35 hP hD hS
  · have hf := im c2 hf
    refine lv_bipush (v := (100 : Int32)) hx hb dX0_fault_14 (by decide) ?_
    refine lv_iload_n hx hb dX0_fault_16 rfl (lv_at hl 0 rfl) ?_
    refine lv_iadd hx hb dX0_fault_17 ?_
    exact hret _ hf _ _ _ _ rfl dX0_fault_18 hP hD hS
theorem vf_X0_rowInto : VF yX0_rowInto cX0_rowInto 6 none 2 := ⟨t_730, t_731, t_7, t_732, by decide +kernel, by decide +kernel, by decide +kernel⟩
theorem dX0_rowInto_0 : decode cX0_rowInto 0 = .ok (.aload_n 1, 1) := by decide +kernel
theorem dX0_rowInto_1 : decode cX0_rowInto 1 = .ok (.invokevirtual 50, 3) := by decide +kernel
theorem dX0_rowInto_4 : decode cX0_rowInto 4 = .ok (.iconst 0, 1) := by decide +kernel
theorem dX0_rowInto_5 : decode cX0_rowInto 5 = .ok (.istore_n 3, 1) := by decide +kernel
theorem dX0_rowInto_6 : decode cX0_rowInto 6 = .ok (.iconst 0, 1) := by decide +kernel
theorem dX0_rowInto_7 : decode cX0_rowInto 7 = .ok (.istore 4, 2) := by decide +kernel
theorem dX0_rowInto_9 : decode cX0_rowInto 9 = .ok (.iload 4, 2) := by decide +kernel
theorem dX0_rowInto_11 : decode cX0_rowInto 11 = .ok (.aload_n 0, 1) := by decide +kernel
theorem dX0_rowInto_12 : decode cX0_rowInto 12 = .ok (.getfield 15, 3) := by decide +kernel
theorem dX0_rowInto_15 : decode cX0_rowInto 15 = .ok (.if_icmp .ge 56, 3) := by decide +kernel
theorem dX0_rowInto_18 : decode cX0_rowInto 18 = .ok (.iconst 0, 1) := by decide +kernel
theorem dX0_rowInto_19 : decode cX0_rowInto 19 = .ok (.istore 5, 2) := by decide +kernel
theorem dX0_rowInto_21 : decode cX0_rowInto 21 = .ok (.iload 5, 2) := by decide +kernel
theorem dX0_rowInto_23 : decode cX0_rowInto 23 = .ok (.iload_n 2, 1) := by decide +kernel
theorem dX0_rowInto_24 : decode cX0_rowInto 24 = .ok (.if_icmp .ge 41, 3) := by decide +kernel
theorem dX0_rowInto_27 : decode cX0_rowInto 27 = .ok (.aload_n 0, 1) := by decide +kernel
theorem dX0_rowInto_28 : decode cX0_rowInto 28 = .ok (.getfield 9, 3) := by decide +kernel
theorem dX0_rowInto_31 : decode cX0_rowInto 31 = .ok (.iload 4, 2) := by decide +kernel
theorem dX0_rowInto_33 : decode cX0_rowInto 33 = .ok (.iaload, 1) := by decide +kernel
theorem dX0_rowInto_34 : decode cX0_rowInto 34 = .ok (.iload_n 3, 1) := by decide +kernel
theorem dX0_rowInto_35 : decode cX0_rowInto 35 = .ok (.iconst (-1), 1) := by decide +kernel
theorem dX0_rowInto_36 : decode cX0_rowInto 36 = .ok (.ixor, 1) := by decide +kernel
theorem dX0_rowInto_37 : decode cX0_rowInto 37 = .ok (.iand, 1) := by decide +kernel
theorem dX0_rowInto_38 : decode cX0_rowInto 38 = .ok (.iload 5, 2) := by decide +kernel
theorem dX0_rowInto_40 : decode cX0_rowInto 40 = .ok (.invokestatic 46, 3) := by decide +kernel
theorem dX0_rowInto_43 : decode cX0_rowInto 43 = .ok (.ifCond .eq 16, 3) := by decide +kernel
theorem dX0_rowInto_46 : decode cX0_rowInto 46 = .ok (.aload_n 1, 1) := by decide +kernel
theorem dX0_rowInto_47 : decode cX0_rowInto 47 = .ok (.iload 5, 2) := by decide +kernel
theorem dX0_rowInto_49 : decode cX0_rowInto 49 = .ok (.invokevirtual 55, 3) := by decide +kernel
theorem dX0_rowInto_52 : decode cX0_rowInto 52 = .ok (.iload_n 3, 1) := by decide +kernel
theorem dX0_rowInto_53 : decode cX0_rowInto 53 = .ok (.iconst 1, 1) := by decide +kernel
theorem dX0_rowInto_54 : decode cX0_rowInto 54 = .ok (.iload 5, 2) := by decide +kernel
theorem dX0_rowInto_56 : decode cX0_rowInto 56 = .ok (.ishl, 1) := by decide +kernel
theorem dX0_rowInto_57 : decode cX0_rowInto 57 = .ok (.ior, 1) := by decide +kernel
theorem dX0_rowInto_58 : decode cX0_rowInto 58 = .ok (.istore_n 3, 1) := by decide +kernel
theorem dX0_rowInto_59 : decode cX0_rowInto 59 = .ok (.iinc 5 1, 3) := by decide +kernel
theorem dX0_rowInto_62 : decode cX0_rowInto 62 = .ok (.goto (-41), 3) := by decide +kernel
theorem dX0_rowInto_65 : decode cX0_rowInto 65 = .ok (.iinc 4 1, 3) := by decide +kernel
theorem dX0_rowInto_68 : decode cX0_rowInto 68 = .ok (.goto (-59), 3) := by decide +kernel
theorem dX0_rowInto_71 : decode cX0_rowInto 71 = .ok (.return_, 1) := by decide +kernel
noncomputable def f_X0_rowInto_L21 (i2 : Int32) (i4 : Int32) (x_sets : Nat → Int32) (i3 : Int32) (i5 : Int32) (x_p1_size : Int32) (x_p1_posts : Nat → Int32) : Option ((Int32 × Int32 × Int32 × (Nat → Int32)) ⊕ (Int32 × Int32 × (Nat → Int32))) :=
  if i2 ≤ i5 then (some (.inr (i3, x_p1_size, x_p1_posts))) else ((gi x_sets 20 i4).bind fun v4 =>
  (f_X10_holds (v4 &&& (i3 ^^^ (-1 : Int32))) i5).bind fun v5 =>
  b3 ((if v5 = 0 then (some (i3, x_p1_size, x_p1_posts)) else (b2 (f_X5_append x_p1_size x_p1_posts i5) fun o11 o12 =>
  some ((i3 ||| ((1 : Int32) <<< (i5 &&& 31))), o11, o12)) : Option (Int32 × Int32 × (Nat → Int32)))) fun t6 t7 t8 =>
  some (.inl (t6, (i5 + (1 : Int32)), t7, t8)))
noncomputable def f_X0_rowInto_L9 (i2 : Int32) (x_size : Int32) (x_sets : Nat → Int32) (i3 : Int32) (i4 : Int32) (x_p1_size : Int32) (x_p1_posts : Nat → Int32) : Option ((Int32 × Int32 × Int32 × (Nat → Int32)) ⊕ (Int32 × (Nat → Int32))) :=
  if x_size ≤ i4 then (some (.inr (x_p1_size, x_p1_posts))) else (b3 (loopS (fun (s : Int32 × Int32 × Int32 × (Nat → Int32)) => f_X0_rowInto_L21 i2 i4 x_sets s.1 s.2.1 s.2.2.1 s.2.2.2) (i3, (0 : Int32), x_p1_size, x_p1_posts)) fun x3 x4 x5 =>
  some (.inl (x3, (i4 + (1 : Int32)), x4, x5)))
noncomputable def f_X0_rowInto (x_size : Int32) (x_sets : Nat → Int32) (x_p1_size : Int32) (x_p1_posts : Nat → Int32) (i2 : Int32) : Option (Int32 × (Nat → Int32)) :=
  (f_X5_clear x_p1_size).bind fun o1 =>
  b2 (loopS (fun (s : Int32 × Int32 × Int32 × (Nat → Int32)) => f_X0_rowInto_L9 i2 x_size x_sets s.1 s.2.1 s.2.2.1 s.2.2.2) ((0 : Int32), (0 : Int32), o1, x_p1_posts)) fun x2 x3 =>
  some ((x2, x3))
set_option maxHeartbeats 4000000 in
set_option maxRecDepth 100000 in
theorem c_X0_rowInto (l : Launch) (dC : Nat → ClassId) (dI : Nat → Nat → Nat) (cI cZ cN : ClassId) (q_ : Nat) (q_sets : Nat) (q_p1 : Nat) (q_p1_posts : Nat) (x_size : Int32) (x_sets : Nat → Int32) (x_p1_size : Int32) (x_p1_posts : Nat → Int32) (i2 : Int32) (o_p1_size : Int32) (o_p1_posts : Nat → Int32) (hf : f_X0_rowInto x_size x_sets x_p1_size x_p1_posts i2 = some (o_p1_size, o_p1_posts)) : CV l yX0_rowInto cX0_rowInto 6 none 3 81 (dC, dI) (TY cI cZ cN) [.ref q_, .ref q_p1, .int i2] [(q_, .inr (0, [.ref q_sets, .int x_size])), (q_sets, .inl (cI, 20, .inl x_sets)), (q_p1, .inr (5, [.ref q_p1_posts, .int x_p1_size])), (q_p1_posts, .inl (cI, 11, .inl x_p1_posts))] [(q_, .inr (0, [.ref q_sets, .int x_size])), (q_sets, .inl (cI, 20, .inl x_sets)), (q_p1, .inr (5, [.ref q_p1_posts, .int o_p1_size])), (q_p1_posts, .inl (cI, 11, .inl o_p1_posts))] := by
  refine CV.of (by decide) (Nat.le_of_ble_eq_true rfl) ?_
  intro p e s m args below meth c Q A ls hx hb hml hown htb hK hN hA hP hD hS hl hret
  have hown : s.vm.findClass RX0 = some m.cls := hown
  have hl : lv_has ls 6 [(0, .ref q_), (1, .ref q_p1), (2, .int i2)] := hl
  have hret : ∀ (o9_p1_size : Int32) (o9_p1_posts : Nat → Int32), some (o9_p1_size, o9_p1_posts) = some (o_p1_size, o_p1_posts) → ∀ (H : Heap) (locs : List Loc) (pc : Nat) (ls : Array Slot), decode cX0_rowInto pc = .ok (.return_, 1) → va_P (dC, dI) vwCl [(q_, .inr (0, [.ref q_sets, .int x_size])), (q_sets, .inl (cI, 20, .inl x_sets)), (q_p1, .inr (5, [.ref q_p1_posts, .int o9_p1_size])), (q_p1_posts, .inl (cI, 11, .inl o9_p1_posts))] H → va_D A [(q_, .inr (0, [.ref q_sets, .int x_size])), (q_sets, .inl (cI, 20, .inl x_sets)), (q_p1, .inr (5, [.ref q_p1_posts, .int o9_p1_size])), (q_p1_posts, .inl (cI, 11, .inl o9_p1_posts))] → va_S A s.heap H locs → W p l e (rmK 3 81) s m args below meth c H locs 0 0 Q (F0 m pc ls []) := by
    intro o9_p1_size o9_p1_posts h9
    cases h9
    exact hret
  unfold f_X0_rowInto at hf
  refine lv_aload_n hx hb dX0_rowInto_0 rfl (lv_at hl 1 rfl) ?_
  obtain ⟨o1, hv, hf⟩ := ob hf
  refine k_afterV (wr := [(q_, .inr (0, [.ref q_sets, .int x_size])), (q_sets, .inl (cI, 20, .inl x_sets)), (q_p1_posts, .inl (cI, 11, .inl x_p1_posts))]) (wn := [(q_, .inr (0, [.ref q_sets, .int x_size])), (q_sets, .inl (cI, 20, .inl x_sets)), (q_p1, .inr (5, [.ref q_p1_posts, .int o1])), (q_p1_posts, .inl (cI, 11, .inl x_p1_posts))]) (k_runV (rest := []) (ci := 5) (q0 := 2) hx hb hml hown htb hK hN (c_X5_clear l dC dI cI cZ cN q_p1 q_p1_posts x_p1_size o1 hv _) vf_X5_clear t_733 hP hD [2] rfl rfl rfl rfl ⟨(Nat.le_of_ble_eq_true rfl), (Nat.le_of_ble_eq_true rfl)⟩ rfl hl.1 rfl (Nat.le_of_ble_eq_true rfl) dX0_rowInto_1 ⟨Nat.zero_le _, Nat.zero_le _⟩) hA hP hD hS [2] [0, 1, 3] [0, 1, 3, 2] rfl rfl rfl rfl ?_
  clear hP hD hS
  intro H locs hP hD hS
  refine lv_iconst (v := (0 : Int32)) hx hb dX0_rowInto_4 (by decide) ?_
  refine lv_istore_n (lv' := [(3, .int (0 : Int32)), (0, .ref q_), (1, .ref q_p1), (2, .int i2)]) hx hb dX0_rowInto_5 rfl hl (by decide) rfl (fun ls hl => ?_)
  refine lv_iconst (v := (0 : Int32)) hx hb dX0_rowInto_6 (by decide) ?_
  refine lv_istore (lv' := [(4, .int (0 : Int32)), (3, .int (0 : Int32)), (0, .ref q_), (1, .ref q_p1), (2, .int i2)]) hx hb dX0_rowInto_7 hl (by decide) rfl (fun ls hl => ?_)
  obtain ⟨x2, x3, hL, hf⟩ := ob2 hf
  have kx4 : ∀ (H : Heap) (locs : List Loc) (ls : Array Slot), va_P (dC, dI) vwCl [(q_, .inr (0, [.ref q_sets, .int x_size])), (q_sets, .inl (cI, 20, .inl x_sets)), (q_p1, .inr (5, [.ref q_p1_posts, .int x2])), (q_p1_posts, .inl (cI, 11, .inl x3))] H → va_D A [(q_, .inr (0, [.ref q_sets, .int x_size])), (q_sets, .inl (cI, 20, .inl x_sets)), (q_p1, .inr (5, [.ref q_p1_posts, .int x2])), (q_p1_posts, .inl (cI, 11, .inl x3))] → va_S A s.heap H locs → lv_has ls 6 [] → W p l e (rmK 3 81) s m args below meth c H locs 0 0 Q (F0 m 71 ls []) := by
    intro H locs ls hP hD hS hl
    exact hret _ _ hf _ _ _ _ dX0_rowInto_71 hP hD hS
  obtain ⟨n0, hn0⟩ := loopS_iter hL
  clear hf
  have kl9 : ∀ (n : Nat) (s5 : Int32) (s6 : Int32) (s7 : Int32) (s8 : Nat → Int32), iterS (fun (s : Int32 × Int32 × Int32 × (Nat → Int32)) => f_X0_rowInto_L9 i2 x_size x_sets s.1 s.2.1 s.2.2.1 s.2.2.2) n (s5, s6, s7, s8) = some (x2, x3) → ∀ (H : Heap) (locs : List Loc) (ls : Array Slot), va_P (dC, dI) vwCl [(q_, .inr (0, [.ref q_sets, .int x_size])), (q_sets, .inl (cI, 20, .inl x_sets)), (q_p1, .inr (5, [.ref q_p1_posts, .int s7])), (q_p1_posts, .inl (cI, 11, .inl s8))] H → va_D A [(q_, .inr (0, [.ref q_sets, .int x_size])), (q_sets, .inl (cI, 20, .inl x_sets)), (q_p1, .inr (5, [.ref q_p1_posts, .int s7])), (q_p1_posts, .inl (cI, 11, .inl s8))] → va_S A s.heap H locs → lv_has ls 6 [(0, .ref q_), (1, .ref q_p1), (2, .int i2), (3, .int s5), (4, .int s6)] → W p l e (rmK 3 81) s m args below meth c H locs 0 0 Q (F0 m 9 ls []) := by
    intro n
    induction n with
    | zero =>
      intro s5 s6 s7 s8 hn1
      cases hn1
    | succ n ih1 =>
      intro s5 s6 s7 s8 hn1 H locs ls hP hD hS hl
      obtain ⟨r10, hf, hn1⟩ := it1 hn1
      replace hf : f_X0_rowInto_L9 i2 x_size x_sets s5 s6 s7 s8 = some r10 := hf
      unfold f_X0_rowInto_L9 at hf
      refine lv_iload hx hb dX0_rowInto_9 (lv_at hl 4 rfl) ?_
      refine lv_aload_n hx hb dX0_rowInto_11 rfl (lv_at hl 0 rfl) ?_
      refine va_get (D := (dC, dI)) (ci := 0) (v := .int x_size) (C := RX0) (T := TX0) (N := 2) hx hb htb inX0 hown hK hP 0 rfl rfl 1 (Nat.le_of_ble_eq_true rfl) (htb _ t_152) (fun _ h9 => h9) rfl dX0_rowInto_12 ?_
      refine lv_icmp_ge (tgt := 71) hx hb dX0_rowInto_15 (by decide) (fun c11 => ?_) (fun c11 => ?_)
      · have hf := ip c11 hf
        cases hf
        cases (itr hn1)
        exact kx4 _ _ _ hP hD hS (lv_sub hl [] rfl)
      · have hf := im c11 hf
        refine lv_iconst (v := (0 : Int32)) hx hb dX0_rowInto_18 (by decide) ?_
        refine lv_istore (lv' := [(5, .int (0 : Int32)), (0, .ref q_), (1, .ref q_p1), (2, .int i2), (3, .int s5), (4, .int s6)]) hx hb dX0_rowInto_19 hl (by decide) rfl (fun ls hl => ?_)
        obtain ⟨x12, x13, x14, hL, hf⟩ := ob3 hf
        have kx15 : ∀ (H : Heap) (locs : List Loc) (ls : Array Slot), va_P (dC, dI) vwCl [(q_, .inr (0, [.ref q_sets, .int x_size])), (q_sets, .inl (cI, 20, .inl x_sets)), (q_p1, .inr (5, [.ref q_p1_posts, .int x13])), (q_p1_posts, .inl (cI, 11, .inl x14))] H → va_D A [(q_, .inr (0, [.ref q_sets, .int x_size])), (q_sets, .inl (cI, 20, .inl x_sets)), (q_p1, .inr (5, [.ref q_p1_posts, .int x13])), (q_p1_posts, .inl (cI, 11, .inl x14))] → va_S A s.heap H locs → lv_has ls 6 [(0, .ref q_), (1, .ref q_p1), (2, .int i2), (3, .int x12), (4, .int s6)] → W p l e (rmK 3 81) s m args below meth c H locs 0 0 Q (F0 m 65 ls []) := by
          intro H locs ls hP hD hS hl
          refine lv_iinc (v := (s6 + (1 : Int32))) (lv' := [(4, .int (s6 + (1 : Int32))), (0, .ref q_), (1, .ref q_p1), (2, .int i2), (3, .int x12)]) hx hb dX0_rowInto_65 hl (k := 4) rfl rfl (by decide) rfl (fun ls hl => ?_)
          refine lv_goto (tgt := 9) hx hb dX0_rowInto_68 (by decide) ?_
          cases hf
          exact ih1 _ _ _ _ (itl hn1) _ _ _ hP hD hS (lv_sub hl [1, 2, 3, 4, 0] rfl)
        obtain ⟨n0, hn0⟩ := loopS_iter hL
        clear hf
        have kl20 : ∀ (n : Nat) (s16 : Int32) (s17 : Int32) (s18 : Int32) (s19 : Nat → Int32), iterS (fun (s : Int32 × Int32 × Int32 × (Nat → Int32)) => f_X0_rowInto_L21 i2 s6 x_sets s.1 s.2.1 s.2.2.1 s.2.2.2) n (s16, s17, s18, s19) = some (x12, x13, x14) → ∀ (H : Heap) (locs : List Loc) (ls : Array Slot), va_P (dC, dI) vwCl [(q_, .inr (0, [.ref q_sets, .int x_size])), (q_sets, .inl (cI, 20, .inl x_sets)), (q_p1, .inr (5, [.ref q_p1_posts, .int s18])), (q_p1_posts, .inl (cI, 11, .inl s19))] H → va_D A [(q_, .inr (0, [.ref q_sets, .int x_size])), (q_sets, .inl (cI, 20, .inl x_sets)), (q_p1, .inr (5, [.ref q_p1_posts, .int s18])), (q_p1_posts, .inl (cI, 11, .inl s19))] → va_S A s.heap H locs → lv_has ls 6 [(0, .ref q_), (1, .ref q_p1), (2, .int i2), (3, .int s16), (4, .int s6), (5, .int s17)] → W p l e (rmK 3 81) s m args below meth c H locs 0 0 Q (F0 m 21 ls []) := by
          intro n
          induction n with
          | zero =>
            intro s16 s17 s18 s19 hn2
            cases hn2
          | succ n ih2 =>
            intro s16 s17 s18 s19 hn2 H locs ls hP hD hS hl
            obtain ⟨r21, hf, hn2⟩ := it1 hn2
            replace hf : f_X0_rowInto_L21 i2 s6 x_sets s16 s17 s18 s19 = some r21 := hf
            unfold f_X0_rowInto_L21 at hf
            refine lv_iload hx hb dX0_rowInto_21 (lv_at hl 5 rfl) ?_
            refine lv_iload_n hx hb dX0_rowInto_23 rfl (lv_at hl 2 rfl) ?_
            refine lv_icmp_ge (tgt := 65) hx hb dX0_rowInto_24 (by decide) (fun c22 => ?_) (fun c22 => ?_)
            · have hf := ip c22 hf
              cases hf
              cases (itr hn2)
              exact kx15 _ _ _ hP hD hS (lv_sub hl [0, 1, 2, 3, 4] rfl)
            · have hf := im c22 hf
              refine lv_aload_n hx hb dX0_rowInto_27 rfl (lv_at hl 0 rfl) ?_
              refine va_get (D := (dC, dI)) (ci := 0) (v := .ref q_sets) (C := RX0) (T := TX0) (N := 2) hx hb htb inX0 hown hK hP 0 rfl rfl 0 (Nat.le_of_ble_eq_true rfl) (htb _ t_151) (fun _ h9 => h9) rfl dX0_rowInto_28 ?_
              refine lv_iload hx hb dX0_rowInto_31 (lv_at hl 4 rfl) ?_
              obtain ⟨v23, hv, hf⟩ := ob hf
              refine k_iald hx hb hK hP 1 0 rfl rfl hv dX0_rowInto_33 ?_
              refine lv_iload_n hx hb dX0_rowInto_34 rfl (lv_at hl 3 rfl) ?_
              refine lv_iconst (v := (-1 : Int32)) hx hb dX0_rowInto_35 (by decide) ?_
              refine lv_ixor hx hb dX0_rowInto_36 ?_
              refine lv_iand hx hb dX0_rowInto_37 ?_
              refine lv_iload hx hb dX0_rowInto_38 (lv_at hl 5 rfl) ?_
              obtain ⟨v24, hv, hf⟩ := ob hf
              refine k_afterI (wr := [(q_, .inr (0, [.ref q_sets, .int x_size])), (q_sets, .inl (cI, 20, .inl x_sets)), (q_p1, .inr (5, [.ref q_p1_posts, .int s18])), (q_p1_posts, .inl (cI, 11, .inl s19))]) (wn := [(q_, .inr (0, [.ref q_sets, .int x_size])), (q_sets, .inl (cI, 20, .inl x_sets)), (q_p1, .inr (5, [.ref q_p1_posts, .int s18])), (q_p1_posts, .inl (cI, 11, .inl s19))]) (k_runSN (rest := []) (host := "NarrowRows") hx hb hml hown htb hK hN (c_X10_holds l dC dI cI cZ cN (v23 &&& (s16 ^^^ (-1 : Int32))) s17 v24 hv _) sf_X10_holds nm_11 hP hD [] rfl rfl ⟨(Nat.le_of_ble_eq_true rfl), (Nat.le_of_ble_eq_true rfl)⟩ rfl hl.1 rfl (Nat.le_of_ble_eq_true rfl) dX0_rowInto_40 ⟨Nat.zero_le _, Nat.zero_le _⟩) hA hP hD hS [] [0, 1, 2, 3] [0, 1, 2, 3] rfl rfl rfl rfl ?_
              clear hP hD hS
              intro H locs hP hD hS
              obtain ⟨t25, t26, t27, hv, hf⟩ := ob3 hf
              have key28 : ∀ (H : Heap) (locs : List Loc) (ls : Array Slot), va_P (dC, dI) vwCl [(q_, .inr (0, [.ref q_sets, .int x_size])), (q_sets, .inl (cI, 20, .inl x_sets)), (q_p1, .inr (5, [.ref q_p1_posts, .int t26])), (q_p1_posts, .inl (cI, 11, .inl t27))] H → va_D A [(q_, .inr (0, [.ref q_sets, .int x_size])), (q_sets, .inl (cI, 20, .inl x_sets)), (q_p1, .inr (5, [.ref q_p1_posts, .int t26])), (q_p1_posts, .inl (cI, 11, .inl t27))] → va_S A s.heap H locs → lv_has ls 6 [(0, .ref q_), (1, .ref q_p1), (2, .int i2), (3, .int t25), (4, .int s6), (5, .int s17)] → W p l e (rmK 3 81) s m args below meth c H locs 0 0 Q (F0 m 59 ls []) := by
                intro H locs ls hP hD hS hl
                refine lv_iinc (v := (s17 + (1 : Int32))) (lv' := [(5, .int (s17 + (1 : Int32))), (0, .ref q_), (1, .ref q_p1), (2, .int i2), (3, .int t25), (4, .int s6)]) hx hb dX0_rowInto_59 hl (k := 5) rfl rfl (by decide) rfl (fun ls hl => ?_)
                refine lv_goto (tgt := 21) hx hb dX0_rowInto_62 (by decide) ?_
                cases hf
                exact ih2 _ _ _ _ (itl hn2) _ _ _ hP hD hS (lv_sub hl [1, 2, 3, 4, 5, 0] rfl)
              replace hf := hv
              refine lv_if_eq (tgt := 59) hx hb dX0_rowInto_43 (by decide) (fun c29 => ?_) (fun c29 => ?_)
              · have hf := ip c29 hf
                cases hf
                exact key28 _ _ _ hP hD hS (lv_sub hl [0, 1, 2, 3, 4, 5] rfl)
              · have hf := im c29 hf
                refine lv_aload_n hx hb dX0_rowInto_46 rfl (lv_at hl 1 rfl) ?_
                refine lv_iload hx hb dX0_rowInto_47 (lv_at hl 5 rfl) ?_
                obtain ⟨o30, o31, hv, hf⟩ := ob2 hf
                refine k_afterV (wr := [(q_, .inr (0, [.ref q_sets, .int x_size])), (q_sets, .inl (cI, 20, .inl x_sets))]) (wn := [(q_, .inr (0, [.ref q_sets, .int x_size])), (q_sets, .inl (cI, 20, .inl x_sets)), (q_p1, .inr (5, [.ref q_p1_posts, .int o30])), (q_p1_posts, .inl (cI, 11, .inl o31))]) (k_runV (rest := []) (ci := 5) (q0 := 2) hx hb hml hown htb hK hN (c_X5_append l dC dI cI cZ cN q_p1 q_p1_posts s18 s19 s17 o30 o31 hv _) vf_X5_append t_734 hP hD [2, 3] rfl rfl rfl rfl ⟨(Nat.le_of_ble_eq_true rfl), (Nat.le_of_ble_eq_true rfl)⟩ rfl hl.1 rfl (Nat.le_of_ble_eq_true rfl) dX0_rowInto_49 ⟨Nat.zero_le _, Nat.zero_le _⟩) hA hP hD hS [2, 3] [0, 1] [0, 1, 2, 3] rfl rfl rfl rfl ?_
                clear hP hD hS
                intro H locs hP hD hS
                refine lv_iload_n hx hb dX0_rowInto_52 rfl (lv_at hl 3 rfl) ?_
                refine lv_iconst (v := (1 : Int32)) hx hb dX0_rowInto_53 (by decide) ?_
                refine lv_iload hx hb dX0_rowInto_54 (lv_at hl 5 rfl) ?_
                refine lv_ishl hx hb dX0_rowInto_56 ?_
                refine lv_ior hx hb dX0_rowInto_57 ?_
                refine lv_istore_n (lv' := [(3, .int (s16 ||| ((1 : Int32) <<< (s17 &&& 31)))), (0, .ref q_), (1, .ref q_p1), (2, .int i2), (4, .int s6), (5, .int s17)]) hx hb dX0_rowInto_58 rfl hl (by decide) rfl (fun ls hl => ?_)
                cases hf
                exact key28 _ _ _ hP hD hS (lv_sub hl [1, 2, 3, 0, 4, 5] rfl)
        exact kl20 n0 _ _ _ _ hn0 _ _ _ hP hD hS (lv_sub hl [1, 2, 3, 4, 5, 0] rfl)
  exact kl9 n0 _ _ _ _ hn0 _ _ _ hP hD hS (lv_sub hl [2, 3, 4, 1, 0] rfl)
theorem vf_X0_largest : VF yX0_largest cX0_largest 5 (some .int) 1 := ⟨t_736, t_737, t_7, t_738, by decide +kernel, by decide +kernel, by decide +kernel⟩
theorem dX0_largest_0 : decode cX0_largest 0 = .ok (.iconst 1, 1) := by decide +kernel
theorem dX0_largest_1 : decode cX0_largest 1 = .ok (.iload_n 1, 1) := by decide +kernel
theorem dX0_largest_2 : decode cX0_largest 2 = .ok (.ishl, 1) := by decide +kernel
theorem dX0_largest_3 : decode cX0_largest 3 = .ok (.iconst 1, 1) := by decide +kernel
theorem dX0_largest_4 : decode cX0_largest 4 = .ok (.isub, 1) := by decide +kernel
theorem dX0_largest_5 : decode cX0_largest 5 = .ok (.istore_n 2, 1) := by decide +kernel
theorem dX0_largest_6 : decode cX0_largest 6 = .ok (.iconst 0, 1) := by decide +kernel
theorem dX0_largest_7 : decode cX0_largest 7 = .ok (.istore_n 3, 1) := by decide +kernel
theorem dX0_largest_8 : decode cX0_largest 8 = .ok (.iconst 0, 1) := by decide +kernel
theorem dX0_largest_9 : decode cX0_largest 9 = .ok (.istore 4, 2) := by decide +kernel
theorem dX0_largest_11 : decode cX0_largest 11 = .ok (.iload 4, 2) := by decide +kernel
theorem dX0_largest_13 : decode cX0_largest 13 = .ok (.aload_n 0, 1) := by decide +kernel
theorem dX0_largest_14 : decode cX0_largest 14 = .ok (.getfield 15, 3) := by decide +kernel
theorem dX0_largest_17 : decode cX0_largest 17 = .ok (.if_icmp .ge 26, 3) := by decide +kernel
theorem dX0_largest_20 : decode cX0_largest 20 = .ok (.iload_n 3, 1) := by decide +kernel
theorem dX0_largest_21 : decode cX0_largest 21 = .ok (.aload_n 0, 1) := by decide +kernel
theorem dX0_largest_22 : decode cX0_largest 22 = .ok (.getfield 9, 3) := by decide +kernel
theorem dX0_largest_25 : decode cX0_largest 25 = .ok (.iload 4, 2) := by decide +kernel
theorem dX0_largest_27 : decode cX0_largest 27 = .ok (.iaload, 1) := by decide +kernel
theorem dX0_largest_28 : decode cX0_largest 28 = .ok (.iload_n 2, 1) := by decide +kernel
theorem dX0_largest_29 : decode cX0_largest 29 = .ok (.iand, 1) := by decide +kernel
theorem dX0_largest_30 : decode cX0_largest 30 = .ok (.invokestatic 59, 3) := by decide +kernel
theorem dX0_largest_33 : decode cX0_largest 33 = .ok (.invokestatic 64, 3) := by decide +kernel
theorem dX0_largest_36 : decode cX0_largest 36 = .ok (.istore_n 3, 1) := by decide +kernel
theorem dX0_largest_37 : decode cX0_largest 37 = .ok (.iinc 4 1, 3) := by decide +kernel
theorem dX0_largest_40 : decode cX0_largest 40 = .ok (.goto (-29), 3) := by decide +kernel
theorem dX0_largest_43 : decode cX0_largest 43 = .ok (.iload_n 3, 1) := by decide +kernel
theorem dX0_largest_44 : decode cX0_largest 44 = .ok (.ireturn, 1) := by decide +kernel
noncomputable def f_X0_largest_L11 (i2 : Int32) (x_size : Int32) (x_sets : Nat → Int32) (i3 : Int32) (i4 : Int32) : Option ((Int32 × Int32) ⊕ (Int32)) :=
  if x_size ≤ i4 then (some (.inr i3)) else ((gi x_sets 20 i4).bind fun v2 =>
  (f_J6_bitCount_0f7a4 (v2 &&& i2)).bind fun v3 =>
  some (.inl ((if i3 < v3 then v3 else i3), (i4 + (1 : Int32)))))
noncomputable def f_X0_largest (x_size : Int32) (x_sets : Nat → Int32) (i1 : Int32) : Option (Int32) :=
  (loopS (fun (s : Int32 × Int32) => f_X0_largest_L11 (((1 : Int32) <<< (i1 &&& 31)) - (1 : Int32)) x_size x_sets s.1 s.2) ((0 : Int32), (0 : Int32))).bind fun x1 =>
  some (x1)
set_option maxHeartbeats 4000000 in
set_option maxRecDepth 100000 in
theorem c_X0_largest (l : Launch) (dC : Nat → ClassId) (dI : Nat → Nat → Nat) (cI cZ cN : ClassId) (q_ : Nat) (q_sets : Nat) (x_size : Int32) (x_sets : Nat → Int32) (i1 : Int32) (r : Int32) (hf : f_X0_largest x_size x_sets i1 = some r) : CI l yX0_largest cX0_largest 5 (some .int) 3 80 (dC, dI) (TY cI cZ cN) [.ref q_, .int i1] [(q_, .inr (0, [.ref q_sets, .int x_size])), (q_sets, .inl (cI, 20, .inl x_sets))] [(q_, .inr (0, [.ref q_sets, .int x_size])), (q_sets, .inl (cI, 20, .inl x_sets))] r := by
  refine CI.of rfl (by decide) (Nat.le_of_ble_eq_true rfl) ?_
  intro p e s m args below meth c Q A ls hx hb hml hown htb hK hN hA hP hD hS hl hret
  have hown : s.vm.findClass RX0 = some m.cls := hown
  have hl : lv_has ls 5 [(0, .ref q_), (1, .int i1)] := hl
  have hret : ∀ (r9 : Int32), some r9 = some r → ∀ (H : Heap) (locs : List Loc) (pc : Nat) (ls : Array Slot), narrow .int (.int r9) = .int r9 → decode cX0_largest pc = .ok (.ireturn, 1) → va_P (dC, dI) vwCl [(q_, .inr (0, [.ref q_sets, .int x_size])), (q_sets, .inl (cI, 20, .inl x_sets))] H → va_D A [(q_, .inr (0, [.ref q_sets, .int x_size])), (q_sets, .inl (cI, 20, .inl x_sets))] → va_S A s.heap H locs → W p l e (rmK 3 80) s m args below meth c H locs 0 0 Q (F0 m pc ls [.int r9]) := by
    intro r9 h9
    cases h9
    exact hret
  unfold f_X0_largest at hf
  refine lv_iconst (v := (1 : Int32)) hx hb dX0_largest_0 (by decide) ?_
  refine lv_iload_n hx hb dX0_largest_1 rfl (lv_at hl 1 rfl) ?_
  refine lv_ishl hx hb dX0_largest_2 ?_
  refine lv_iconst (v := (1 : Int32)) hx hb dX0_largest_3 (by decide) ?_
  refine lv_isub hx hb dX0_largest_4 ?_
  refine lv_istore_n (lv' := [(2, .int (((1 : Int32) <<< (i1 &&& 31)) - (1 : Int32))), (0, .ref q_), (1, .int i1)]) hx hb dX0_largest_5 rfl hl (by decide) rfl (fun ls hl => ?_)
  refine lv_iconst (v := (0 : Int32)) hx hb dX0_largest_6 (by decide) ?_
  refine lv_istore_n (lv' := [(3, .int (0 : Int32)), (2, .int (((1 : Int32) <<< (i1 &&& 31)) - (1 : Int32))), (0, .ref q_), (1, .int i1)]) hx hb dX0_largest_7 rfl hl (by decide) rfl (fun ls hl => ?_)
  refine lv_iconst (v := (0 : Int32)) hx hb dX0_largest_8 (by decide) ?_
  refine lv_istore (lv' := [(4, .int (0 : Int32)), (3, .int (0 : Int32)), (2, .int (((1 : Int32) <<< (i1 &&& 31)) - (1 : Int32))), (0, .ref q_), (1, .int i1)]) hx hb dX0_largest_9 hl (by decide) rfl (fun ls hl => ?_)
  obtain ⟨x1, hL, hf⟩ := ob hf
  have kx2 : ∀ (H : Heap) (locs : List Loc) (ls : Array Slot), va_P (dC, dI) vwCl [(q_, .inr (0, [.ref q_sets, .int x_size])), (q_sets, .inl (cI, 20, .inl x_sets))] H → va_D A [(q_, .inr (0, [.ref q_sets, .int x_size])), (q_sets, .inl (cI, 20, .inl x_sets))] → va_S A s.heap H locs → lv_has ls 5 [(3, .int x1)] → W p l e (rmK 3 80) s m args below meth c H locs 0 0 Q (F0 m 43 ls []) := by
    intro H locs ls hP hD hS hl
    refine lv_iload_n hx hb dX0_largest_43 rfl (lv_at hl 0 rfl) ?_
    exact hret _ hf _ _ _ _ rfl dX0_largest_44 hP hD hS
  obtain ⟨n0, hn0⟩ := loopS_iter hL
  clear hf
  have kl5 : ∀ (n : Nat) (s3 : Int32) (s4 : Int32), iterS (fun (s : Int32 × Int32) => f_X0_largest_L11 (((1 : Int32) <<< (i1 &&& 31)) - (1 : Int32)) x_size x_sets s.1 s.2) n (s3, s4) = some x1 → ∀ (H : Heap) (locs : List Loc) (ls : Array Slot), va_P (dC, dI) vwCl [(q_, .inr (0, [.ref q_sets, .int x_size])), (q_sets, .inl (cI, 20, .inl x_sets))] H → va_D A [(q_, .inr (0, [.ref q_sets, .int x_size])), (q_sets, .inl (cI, 20, .inl x_sets))] → va_S A s.heap H locs → lv_has ls 5 [(0, .ref q_), (2, .int (((1 : Int32) <<< (i1 &&& 31)) - (1 : Int32))), (3, .int s3), (4, .int s4)] → W p l e (rmK 3 80) s m args below meth c H locs 0 0 Q (F0 m 11 ls []) := by
    intro n
    induction n with
    | zero =>
      intro s3 s4 hn1
      cases hn1
    | succ n ih1 =>
      intro s3 s4 hn1 H locs ls hP hD hS hl
      obtain ⟨r6, hf, hn1⟩ := it1 hn1
      replace hf : f_X0_largest_L11 (((1 : Int32) <<< (i1 &&& 31)) - (1 : Int32)) x_size x_sets s3 s4 = some r6 := hf
      unfold f_X0_largest_L11 at hf
      refine lv_iload hx hb dX0_largest_11 (lv_at hl 3 rfl) ?_
      refine lv_aload_n hx hb dX0_largest_13 rfl (lv_at hl 0 rfl) ?_
      refine va_get (D := (dC, dI)) (ci := 0) (v := .int x_size) (C := RX0) (T := TX0) (N := 2) hx hb htb inX0 hown hK hP 0 rfl rfl 1 (Nat.le_of_ble_eq_true rfl) (htb _ t_152) (fun _ h9 => h9) rfl dX0_largest_14 ?_
      refine lv_icmp_ge (tgt := 43) hx hb dX0_largest_17 (by decide) (fun c7 => ?_) (fun c7 => ?_)
      · have hf := ip c7 hf
        cases hf
        cases (itr hn1)
        exact kx2 _ _ _ hP hD hS (lv_sub hl [2] rfl)
      · have hf := im c7 hf
        refine lv_iload_n hx hb dX0_largest_20 rfl (lv_at hl 2 rfl) ?_
        refine lv_aload_n hx hb dX0_largest_21 rfl (lv_at hl 0 rfl) ?_
        refine va_get (D := (dC, dI)) (ci := 0) (v := .ref q_sets) (C := RX0) (T := TX0) (N := 2) hx hb htb inX0 hown hK hP 0 rfl rfl 0 (Nat.le_of_ble_eq_true rfl) (htb _ t_151) (fun _ h9 => h9) rfl dX0_largest_22 ?_
        refine lv_iload hx hb dX0_largest_25 (lv_at hl 3 rfl) ?_
        obtain ⟨v8, hv, hf⟩ := ob hf
        refine k_iald hx hb hK hP 1 0 rfl rfl hv dX0_largest_27 ?_
        refine lv_iload_n hx hb dX0_largest_28 rfl (lv_at hl 1 rfl) ?_
        refine lv_iand hx hb dX0_largest_29 ?_
        obtain ⟨v9, hv, hf⟩ := ob hf
        refine k_afterI (wr := [(q_, .inr (0, [.ref q_sets, .int x_size])), (q_sets, .inl (cI, 20, .inl x_sets))]) (wn := [(q_, .inr (0, [.ref q_sets, .int x_size])), (q_sets, .inl (cI, 20, .inl x_sets))]) (k_runS (rest := [.int s3]) hx hb hml hown htb hK hN (c_J6_bitCount_0f7a4 l dC dI cI cZ cN (v8 &&& (((1 : Int32) <<< (i1 &&& 31)) - (1 : Int32))) v9 hv _) sf_J6_bitCount_0f7a4 t_739 hP hD [] rfl rfl ⟨(Nat.le_of_ble_eq_true rfl), (Nat.le_of_ble_eq_true rfl)⟩ rfl hl.1 rfl (Nat.le_of_ble_eq_true rfl) dX0_largest_30 ⟨Nat.zero_le _, Nat.zero_le _⟩) hA hP hD hS [] [0, 1] [0, 1] rfl rfl rfl rfl ?_
        clear hP hD hS
        intro H locs hP hD hS
        refine va_mmax hx hb (hml.trans hl.1.symm) hown (htb _ t_740) (htb _ t_483) (htb _ t_16) (htb _ t_484) (Nat.le_of_ble_eq_true rfl) (Nat.le_of_ble_eq_true rfl) (Nat.zero_le _) (Nat.zero_le _) dX0_largest_33 ?_
        refine lv_istore_n (lv' := [(3, .int (if s3 < v9 then v9 else s3)), (0, .ref q_), (2, .int (((1 : Int32) <<< (i1 &&& 31)) - (1 : Int32))), (4, .int s4)]) hx hb dX0_largest_36 rfl hl (by decide) rfl (fun ls hl => ?_)
        refine lv_iinc (v := (s4 + (1 : Int32))) (lv' := [(4, .int (s4 + (1 : Int32))), (3, .int (if s3 < v9 then v9 else s3)), (0, .ref q_), (2, .int (((1 : Int32) <<< (i1 &&& 31)) - (1 : Int32)))]) hx hb dX0_largest_37 hl (k := 3) rfl rfl (by decide) rfl (fun ls hl => ?_)
        refine lv_goto (tgt := 11) hx hb dX0_largest_40 (by decide) ?_
        cases hf
        exact ih1 _ _ (itl hn1) _ _ _ hP hD hS (lv_sub hl [2, 3, 1, 0] rfl)
  exact kl5 n0 _ _ hn0 _ _ _ hP hD hS (lv_sub hl [3, 2, 1, 0] rfl)
