theorem sf_X10_holds : SF yX10_holds cX10_holds 2 (some .boolean) 2 := ⟨t_339, t_1, t_340, by decide +kernel, by decide +kernel, by decide +kernel⟩
theorem dX10_holds_0 : decode cX10_holds 0 = .ok (.iload_n 0, 1) := by decide +kernel
theorem dX10_holds_1 : decode cX10_holds 1 = .ok (.iload_n 1, 1) := by decide +kernel
theorem dX10_holds_2 : decode cX10_holds 2 = .ok (.ishr, 1) := by decide +kernel
theorem dX10_holds_3 : decode cX10_holds 3 = .ok (.iconst 1, 1) := by decide +kernel
theorem dX10_holds_4 : decode cX10_holds 4 = .ok (.iand, 1) := by decide +kernel
theorem dX10_holds_5 : decode cX10_holds 5 = .ok (.ifCond .eq 7, 3) := by decide +kernel
theorem dX10_holds_8 : decode cX10_holds 8 = .ok (.iconst 1, 1) := by decide +kernel
theorem dX10_holds_9 : decode cX10_holds 9 = .ok (.goto 4, 3) := by decide +kernel
theorem dX10_holds_12 : decode cX10_holds 12 = .ok (.iconst 0, 1) := by decide +kernel
theorem dX10_holds_13 : decode cX10_holds 13 = .ok (.ireturn, 1) := by decide +kernel
noncomputable def f_X10_holds (i0 : Int32) (i1 : Int32) : Option (Int32) :=
  if ((i0 >>> (i1 &&& 31)) &&& (1 : Int32)) = 0 then (some ((0 : Int32))) else (some ((1 : Int32)))
set_option maxHeartbeats 4000000 in
set_option maxRecDepth 100000 in
theorem c_X10_holds (l : Launch) (dC : Nat → ClassId) (dI : Nat → Nat → Nat) (cI cZ cN : ClassId) (i0 i1 : Int32) (r : Int32) (hf : f_X10_holds i0 i1 = some r) : CI l yX10_holds cX10_holds 2 (some .boolean) 2 60 (dC, dI) (TY cI cZ cN) [.int i0, .int i1] [] [] r := by
  refine CI.of rfl (by decide) (Nat.le_of_ble_eq_true rfl) ?_
  intro p e s m args below meth c Q A ls hx hb hml hown htb hK hN hA hP hD hS hl hret
  have hown : s.vm.findClass RX10 = some m.cls := hown
  have hl : lv_has ls 2 [(0, .int i0), (1, .int i1)] := hl
  have hret : ∀ (r9 : Int32), some r9 = some r → ∀ (H : Heap) (locs : List Loc) (pc : Nat) (ls : Array Slot), narrow .boolean (.int r9) = .int r9 → decode cX10_holds pc = .ok (.ireturn, 1) → va_P (dC, dI) vwCl [] H → va_D A [] → va_S A s.heap H locs → W p l e (rmK 2 60) s m args below meth c H locs 0 0 Q (F0 m pc ls [.int r9]) := by
    intro r9 h9
    cases h9
    exact hret
  unfold f_X10_holds at hf
  refine lv_iload_n hx hb dX10_holds_0 rfl (lv_at hl 0 rfl) ?_
  refine lv_iload_n hx hb dX10_holds_1 rfl (lv_at hl 1 rfl) ?_
  refine lv_ishr hx hb dX10_holds_2 ?_
  refine lv_iconst (v := (1 : Int32)) hx hb dX10_holds_3 (by decide) ?_
  refine lv_iand hx hb dX10_holds_4 ?_
  refine lv_if_eq (tgt := 12) hx hb dX10_holds_5 (by decide) (fun c1 => ?_) (fun c1 => ?_)
  · have hf := ip c1 hf
    refine lv_iconst (v := (0 : Int32)) hx hb dX10_holds_12 (by decide) ?_
    exact hret _ hf _ _ _ _ rfl dX10_holds_13 hP hD hS
  · have hf := im c1 hf
    refine lv_iconst (v := (1 : Int32)) hx hb dX10_holds_8 (by decide) ?_
    refine lv_goto (tgt := 13) hx hb dX10_holds_9 (by decide) ?_
    exact hret _ hf _ _ _ _ rfl dX10_holds_13 hP hD hS
theorem sf_X10_isBySpans : SF yX10_isBySpans cX10_isBySpans 1 (some .boolean) 1 := ⟨t_475, t_1, t_476, by decide +kernel, by decide +kernel, by decide +kernel⟩
theorem dX10_isBySpans_0 : decode cX10_isBySpans 0 = .ok (.iload_n 0, 1) := by decide +kernel
theorem dX10_isBySpans_1 : decode cX10_isBySpans 1 = .ok (.ifCond .eq 8, 3) := by decide +kernel
theorem dX10_isBySpans_4 : decode cX10_isBySpans 4 = .ok (.iload_n 0, 1) := by decide +kernel
theorem dX10_isBySpans_5 : decode cX10_isBySpans 5 = .ok (.iconst 4, 1) := by decide +kernel
theorem dX10_isBySpans_6 : decode cX10_isBySpans 6 = .ok (.if_icmp .ne 7, 3) := by decide +kernel
theorem dX10_isBySpans_9 : decode cX10_isBySpans 9 = .ok (.iconst 1, 1) := by decide +kernel
theorem dX10_isBySpans_10 : decode cX10_isBySpans 10 = .ok (.goto 4, 3) := by decide +kernel
theorem dX10_isBySpans_13 : decode cX10_isBySpans 13 = .ok (.iconst 0, 1) := by decide +kernel
theorem dX10_isBySpans_14 : decode cX10_isBySpans 14 = .ok (.ireturn, 1) := by decide +kernel
noncomputable def f_X10_isBySpans (i0 : Int32) : Option (Int32) :=
  if i0 = 0 then (some ((1 : Int32))) else (if i0 = (4 : Int32) then (some ((1 : Int32))) else (some ((0 : Int32))))
set_option maxHeartbeats 4000000 in
set_option maxRecDepth 100000 in
theorem c_X10_isBySpans (l : Launch) (dC : Nat → ClassId) (dI : Nat → Nat → Nat) (cI cZ cN : ClassId) (i0 : Int32) (r : Int32) (hf : f_X10_isBySpans i0 = some r) : CI l yX10_isBySpans cX10_isBySpans 1 (some .boolean) 2 60 (dC, dI) (TY cI cZ cN) [.int i0] [] [] r := by
  refine CI.of rfl (by decide) (Nat.le_of_ble_eq_true rfl) ?_
  intro p e s m args below meth c Q A ls hx hb hml hown htb hK hN hA hP hD hS hl hret
  have hown : s.vm.findClass RX10 = some m.cls := hown
  have hl : lv_has ls 1 [(0, .int i0)] := hl
  have hret : ∀ (r9 : Int32), some r9 = some r → ∀ (H : Heap) (locs : List Loc) (pc : Nat) (ls : Array Slot), narrow .boolean (.int r9) = .int r9 → decode cX10_isBySpans pc = .ok (.ireturn, 1) → va_P (dC, dI) vwCl [] H → va_D A [] → va_S A s.heap H locs → W p l e (rmK 2 60) s m args below meth c H locs 0 0 Q (F0 m pc ls [.int r9]) := by
    intro r9 h9
    cases h9
    exact hret
  unfold f_X10_isBySpans at hf
  refine lv_iload_n hx hb dX10_isBySpans_0 rfl (lv_at hl 0 rfl) ?_
  refine lv_if_eq (tgt := 9) hx hb dX10_isBySpans_1 (by decide) (fun c1 => ?_) (fun c1 => ?_)
  · have hf := ip c1 hf
    refine lv_iconst (v := (1 : Int32)) hx hb dX10_isBySpans_9 (by decide) ?_
    refine lv_goto (tgt := 14) hx hb dX10_isBySpans_10 (by decide) ?_
    exact hret _ hf _ _ _ _ rfl dX10_isBySpans_14 hP hD hS
  · have hf := im c1 hf
    refine lv_iload_n hx hb dX10_isBySpans_4 rfl (lv_at hl 0 rfl) ?_
    refine lv_iconst (v := (4 : Int32)) hx hb dX10_isBySpans_5 (by decide) ?_
    refine lv_icmp_ne (tgt := 13) hx hb dX10_isBySpans_6 (by decide) (fun c2 => ?_) (fun c2 => ?_)
    · have hf := im c2 hf
      refine lv_iconst (v := (0 : Int32)) hx hb dX10_isBySpans_13 (by decide) ?_
      exact hret _ hf _ _ _ _ rfl dX10_isBySpans_14 hP hD hS
    · have hf := ip c2 hf
      refine lv_iconst (v := (1 : Int32)) hx hb dX10_isBySpans_9 (by decide) ?_
      refine lv_goto (tgt := 14) hx hb dX10_isBySpans_10 (by decide) ?_
      exact hret _ hf _ _ _ _ rfl dX10_isBySpans_14 hP hD hS
theorem sf_X10_isCost : SF yX10_isCost cX10_isCost 1 (some .boolean) 1 := ⟨t_464, t_1, t_465, by decide +kernel, by decide +kernel, by decide +kernel⟩
theorem dX10_isCost_0 : decode cX10_isCost 0 = .ok (.iload_n 0, 1) := by decide +kernel
theorem dX10_isCost_1 : decode cX10_isCost 1 = .ok (.ifCond .lt 12, 3) := by decide +kernel
theorem dX10_isCost_4 : decode cX10_isCost 4 = .ok (.iload_n 0, 1) := by decide +kernel
theorem dX10_isCost_5 : decode cX10_isCost 5 = .ok (.iconst 5, 1) := by decide +kernel
theorem dX10_isCost_6 : decode cX10_isCost 6 = .ok (.if_icmp .gt 7, 3) := by decide +kernel
theorem dX10_isCost_9 : decode cX10_isCost 9 = .ok (.iconst 1, 1) := by decide +kernel
theorem dX10_isCost_10 : decode cX10_isCost 10 = .ok (.goto 4, 3) := by decide +kernel
theorem dX10_isCost_13 : decode cX10_isCost 13 = .ok (.iconst 0, 1) := by decide +kernel
theorem dX10_isCost_14 : decode cX10_isCost 14 = .ok (.ireturn, 1) := by decide +kernel
noncomputable def f_X10_isCost (i0 : Int32) : Option (Int32) :=
  if i0 < 0 then (some ((0 : Int32))) else (if (5 : Int32) < i0 then (some ((0 : Int32))) else (some ((1 : Int32))))
set_option maxHeartbeats 4000000 in
set_option maxRecDepth 100000 in
theorem c_X10_isCost (l : Launch) (dC : Nat → ClassId) (dI : Nat → Nat → Nat) (cI cZ cN : ClassId) (i0 : Int32) (r : Int32) (hf : f_X10_isCost i0 = some r) : CI l yX10_isCost cX10_isCost 1 (some .boolean) 2 60 (dC, dI) (TY cI cZ cN) [.int i0] [] [] r := by
  refine CI.of rfl (by decide) (Nat.le_of_ble_eq_true rfl) ?_
  intro p e s m args below meth c Q A ls hx hb hml hown htb hK hN hA hP hD hS hl hret
  have hown : s.vm.findClass RX10 = some m.cls := hown
  have hl : lv_has ls 1 [(0, .int i0)] := hl
  have hret : ∀ (r9 : Int32), some r9 = some r → ∀ (H : Heap) (locs : List Loc) (pc : Nat) (ls : Array Slot), narrow .boolean (.int r9) = .int r9 → decode cX10_isCost pc = .ok (.ireturn, 1) → va_P (dC, dI) vwCl [] H → va_D A [] → va_S A s.heap H locs → W p l e (rmK 2 60) s m args below meth c H locs 0 0 Q (F0 m pc ls [.int r9]) := by
    intro r9 h9
    cases h9
    exact hret
  unfold f_X10_isCost at hf
  refine lv_iload_n hx hb dX10_isCost_0 rfl (lv_at hl 0 rfl) ?_
  refine lv_if_lt (tgt := 13) hx hb dX10_isCost_1 (by decide) (fun c1 => ?_) (fun c1 => ?_)
  · have hf := ip c1 hf
    refine lv_iconst (v := (0 : Int32)) hx hb dX10_isCost_13 (by decide) ?_
    exact hret _ hf _ _ _ _ rfl dX10_isCost_14 hP hD hS
  · have hf := im c1 hf
    refine lv_iload_n hx hb dX10_isCost_4 rfl (lv_at hl 0 rfl) ?_
    refine lv_iconst (v := (5 : Int32)) hx hb dX10_isCost_5 (by decide) ?_
    refine lv_icmp_gt (tgt := 13) hx hb dX10_isCost_6 (by decide) (fun c2 => ?_) (fun c2 => ?_)
    · have hf := ip c2 hf
      refine lv_iconst (v := (0 : Int32)) hx hb dX10_isCost_13 (by decide) ?_
      exact hret _ hf _ _ _ _ rfl dX10_isCost_14 hP hD hS
    · have hf := im c2 hf
      refine lv_iconst (v := (1 : Int32)) hx hb dX10_isCost_9 (by decide) ?_
      refine lv_goto (tgt := 14) hx hb dX10_isCost_10 (by decide) ?_
      exact hret _ hf _ _ _ _ rfl dX10_isCost_14 hP hD hS
theorem sf_X10_heaviest : SF yX10_heaviest cX10_heaviest 1 (some .int) 1 := ⟨t_374, t_1, t_375, by decide +kernel, by decide +kernel, by decide +kernel⟩
theorem dX10_heaviest_0 : decode cX10_heaviest 0 = .ok (.iload_n 0, 1) := by decide +kernel
theorem dX10_heaviest_1 : decode cX10_heaviest 1 = .ok (.ifCond .ne 8, 3) := by decide +kernel
theorem dX10_heaviest_4 : decode cX10_heaviest 4 = .ok (.bipush 127, 2) := by decide +kernel
theorem dX10_heaviest_6 : decode cX10_heaviest 6 = .ok (.goto 6, 3) := by decide +kernel
theorem dX10_heaviest_9 : decode cX10_heaviest 9 = .ok (.sipush 1000, 3) := by decide +kernel
theorem dX10_heaviest_12 : decode cX10_heaviest 12 = .ok (.ireturn, 1) := by decide +kernel
noncomputable def f_X10_heaviest (i0 : Int32) : Option (Int32) :=
  if i0 = 0 then (some ((127 : Int32))) else (some ((1000 : Int32)))
set_option maxHeartbeats 4000000 in
set_option maxRecDepth 100000 in
theorem c_X10_heaviest (l : Launch) (dC : Nat → ClassId) (dI : Nat → Nat → Nat) (cI cZ cN : ClassId) (i0 : Int32) (r : Int32) (hf : f_X10_heaviest i0 = some r) : CI l yX10_heaviest cX10_heaviest 1 (some .int) 2 60 (dC, dI) (TY cI cZ cN) [.int i0] [] [] r := by
  refine CI.of rfl (by decide) (Nat.le_of_ble_eq_true rfl) ?_
  intro p e s m args below meth c Q A ls hx hb hml hown htb hK hN hA hP hD hS hl hret
  have hown : s.vm.findClass RX10 = some m.cls := hown
  have hl : lv_has ls 1 [(0, .int i0)] := hl
  have hret : ∀ (r9 : Int32), some r9 = some r → ∀ (H : Heap) (locs : List Loc) (pc : Nat) (ls : Array Slot), narrow .int (.int r9) = .int r9 → decode cX10_heaviest pc = .ok (.ireturn, 1) → va_P (dC, dI) vwCl [] H → va_D A [] → va_S A s.heap H locs → W p l e (rmK 2 60) s m args below meth c H locs 0 0 Q (F0 m pc ls [.int r9]) := by
    intro r9 h9
    cases h9
    exact hret
  unfold f_X10_heaviest at hf
  refine lv_iload_n hx hb dX10_heaviest_0 rfl (lv_at hl 0 rfl) ?_
  refine lv_if_ne (tgt := 9) hx hb dX10_heaviest_1 (by decide) (fun c1 => ?_) (fun c1 => ?_)
  · have hf := im c1 hf
    refine lv_sipush (v := (1000 : Int32)) hx hb dX10_heaviest_9 (by decide) ?_
    exact hret _ hf _ _ _ _ rfl dX10_heaviest_12 hP hD hS
  · have hf := ip c1 hf
    refine lv_bipush (v := (127 : Int32)) hx hb dX10_heaviest_4 (by decide) ?_
    refine lv_goto (tgt := 12) hx hb dX10_heaviest_6 (by decide) ?_
    exact hret _ hf _ _ _ _ rfl dX10_heaviest_12 hP hD hS
theorem sf_J6_bitCount_0f7a4 : SF yJ6_bitCount_0f7a4 cJ6_bitCount_0f7a4 1 (some .int) 1 := ⟨t_413, t_15, t_414, by decide +kernel, by decide +kernel, by decide +kernel⟩
theorem dJ6_bitCount_0f7a4_0 : decode cJ6_bitCount_0f7a4 0 = .ok (.iload_n 0, 1) := by decide +kernel
theorem dJ6_bitCount_0f7a4_1 : decode cJ6_bitCount_0f7a4 1 = .ok (.iload_n 0, 1) := by decide +kernel
theorem dJ6_bitCount_0f7a4_2 : decode cJ6_bitCount_0f7a4 2 = .ok (.iconst 1, 1) := by decide +kernel
theorem dJ6_bitCount_0f7a4_3 : decode cJ6_bitCount_0f7a4 3 = .ok (.iushr, 1) := by decide +kernel
theorem dJ6_bitCount_0f7a4_4 : decode cJ6_bitCount_0f7a4 4 = .ok (.ldc_w 265, 3) := by decide +kernel
theorem dJ6_bitCount_0f7a4_7 : decode cJ6_bitCount_0f7a4 7 = .ok (.iand, 1) := by decide +kernel
theorem dJ6_bitCount_0f7a4_8 : decode cJ6_bitCount_0f7a4 8 = .ok (.isub, 1) := by decide +kernel
theorem dJ6_bitCount_0f7a4_9 : decode cJ6_bitCount_0f7a4 9 = .ok (.istore_n 0, 1) := by decide +kernel
theorem dJ6_bitCount_0f7a4_10 : decode cJ6_bitCount_0f7a4 10 = .ok (.iload_n 0, 1) := by decide +kernel
theorem dJ6_bitCount_0f7a4_11 : decode cJ6_bitCount_0f7a4 11 = .ok (.ldc_w 266, 3) := by decide +kernel
theorem dJ6_bitCount_0f7a4_14 : decode cJ6_bitCount_0f7a4 14 = .ok (.iand, 1) := by decide +kernel
theorem dJ6_bitCount_0f7a4_15 : decode cJ6_bitCount_0f7a4 15 = .ok (.iload_n 0, 1) := by decide +kernel
theorem dJ6_bitCount_0f7a4_16 : decode cJ6_bitCount_0f7a4 16 = .ok (.iconst 2, 1) := by decide +kernel
theorem dJ6_bitCount_0f7a4_17 : decode cJ6_bitCount_0f7a4 17 = .ok (.iushr, 1) := by decide +kernel
theorem dJ6_bitCount_0f7a4_18 : decode cJ6_bitCount_0f7a4 18 = .ok (.ldc_w 266, 3) := by decide +kernel
theorem dJ6_bitCount_0f7a4_21 : decode cJ6_bitCount_0f7a4 21 = .ok (.iand, 1) := by decide +kernel
theorem dJ6_bitCount_0f7a4_22 : decode cJ6_bitCount_0f7a4 22 = .ok (.iadd, 1) := by decide +kernel
theorem dJ6_bitCount_0f7a4_23 : decode cJ6_bitCount_0f7a4 23 = .ok (.istore_n 0, 1) := by decide +kernel
theorem dJ6_bitCount_0f7a4_24 : decode cJ6_bitCount_0f7a4 24 = .ok (.iload_n 0, 1) := by decide +kernel
theorem dJ6_bitCount_0f7a4_25 : decode cJ6_bitCount_0f7a4 25 = .ok (.iload_n 0, 1) := by decide +kernel
theorem dJ6_bitCount_0f7a4_26 : decode cJ6_bitCount_0f7a4 26 = .ok (.iconst 4, 1) := by decide +kernel
theorem dJ6_bitCount_0f7a4_27 : decode cJ6_bitCount_0f7a4 27 = .ok (.iushr, 1) := by decide +kernel
theorem dJ6_bitCount_0f7a4_28 : decode cJ6_bitCount_0f7a4 28 = .ok (.iadd, 1) := by decide +kernel
theorem dJ6_bitCount_0f7a4_29 : decode cJ6_bitCount_0f7a4 29 = .ok (.ldc_w 267, 3) := by decide +kernel
theorem dJ6_bitCount_0f7a4_32 : decode cJ6_bitCount_0f7a4 32 = .ok (.iand, 1) := by decide +kernel
theorem dJ6_bitCount_0f7a4_33 : decode cJ6_bitCount_0f7a4 33 = .ok (.istore_n 0, 1) := by decide +kernel
theorem dJ6_bitCount_0f7a4_34 : decode cJ6_bitCount_0f7a4 34 = .ok (.iload_n 0, 1) := by decide +kernel
theorem dJ6_bitCount_0f7a4_35 : decode cJ6_bitCount_0f7a4 35 = .ok (.iload_n 0, 1) := by decide +kernel
theorem dJ6_bitCount_0f7a4_36 : decode cJ6_bitCount_0f7a4 36 = .ok (.bipush 8, 2) := by decide +kernel
theorem dJ6_bitCount_0f7a4_38 : decode cJ6_bitCount_0f7a4 38 = .ok (.iushr, 1) := by decide +kernel
theorem dJ6_bitCount_0f7a4_39 : decode cJ6_bitCount_0f7a4 39 = .ok (.iadd, 1) := by decide +kernel
theorem dJ6_bitCount_0f7a4_40 : decode cJ6_bitCount_0f7a4 40 = .ok (.istore_n 0, 1) := by decide +kernel
theorem dJ6_bitCount_0f7a4_41 : decode cJ6_bitCount_0f7a4 41 = .ok (.iload_n 0, 1) := by decide +kernel
theorem dJ6_bitCount_0f7a4_42 : decode cJ6_bitCount_0f7a4 42 = .ok (.iload_n 0, 1) := by decide +kernel
theorem dJ6_bitCount_0f7a4_43 : decode cJ6_bitCount_0f7a4 43 = .ok (.bipush 16, 2) := by decide +kernel
theorem dJ6_bitCount_0f7a4_45 : decode cJ6_bitCount_0f7a4 45 = .ok (.iushr, 1) := by decide +kernel
theorem dJ6_bitCount_0f7a4_46 : decode cJ6_bitCount_0f7a4 46 = .ok (.iadd, 1) := by decide +kernel
theorem dJ6_bitCount_0f7a4_47 : decode cJ6_bitCount_0f7a4 47 = .ok (.istore_n 0, 1) := by decide +kernel
theorem dJ6_bitCount_0f7a4_48 : decode cJ6_bitCount_0f7a4 48 = .ok (.iload_n 0, 1) := by decide +kernel
theorem dJ6_bitCount_0f7a4_49 : decode cJ6_bitCount_0f7a4 49 = .ok (.bipush 63, 2) := by decide +kernel
theorem dJ6_bitCount_0f7a4_51 : decode cJ6_bitCount_0f7a4 51 = .ok (.iand, 1) := by decide +kernel
theorem dJ6_bitCount_0f7a4_52 : decode cJ6_bitCount_0f7a4 52 = .ok (.ireturn, 1) := by decide +kernel
noncomputable def f_J6_bitCount_0f7a4 (i0 : Int32) : Option (Int32) :=
  some (((((((((i0 - ((Int32.toUInt32 i0 >>> (Int32.toUInt32 (1 : Int32) &&& Int32.toUInt32 31)).toInt32 &&& (1431655765 : Int32))) &&& (858993459 : Int32)) + ((Int32.toUInt32 (i0 - ((Int32.toUInt32 i0 >>> (Int32.toUInt32 (1 : Int32) &&& Int32.toUInt32 31)).toInt32 &&& (1431655765 : Int32))) >>> (Int32.toUInt32 (2 : Int32) &&& Int32.toUInt32 31)).toInt32 &&& (858993459 : Int32))) + (Int32.toUInt32 (((i0 - ((Int32.toUInt32 i0 >>> (Int32.toUInt32 (1 : Int32) &&& Int32.toUInt32 31)).toInt32 &&& (1431655765 : Int32))) &&& (858993459 : Int32)) + ((Int32.toUInt32 (i0 - ((Int32.toUInt32 i0 >>> (Int32.toUInt32 (1 : Int32) &&& Int32.toUInt32 31)).toInt32 &&& (1431655765 : Int32))) >>> (Int32.toUInt32 (2 : Int32) &&& Int32.toUInt32 31)).toInt32 &&& (858993459 : Int32))) >>> (Int32.toUInt32 (4 : Int32) &&& Int32.toUInt32 31)).toInt32) &&& (252645135 : Int32)) + (Int32.toUInt32 (((((i0 - ((Int32.toUInt32 i0 >>> (Int32.toUInt32 (1 : Int32) &&& Int32.toUInt32 31)).toInt32 &&& (1431655765 : Int32))) &&& (858993459 : Int32)) + ((Int32.toUInt32 (i0 - ((Int32.toUInt32 i0 >>> (Int32.toUInt32 (1 : Int32) &&& Int32.toUInt32 31)).toInt32 &&& (1431655765 : Int32))) >>> (Int32.toUInt32 (2 : Int32) &&& Int32.toUInt32 31)).toInt32 &&& (858993459 : Int32))) + (Int32.toUInt32 (((i0 - ((Int32.toUInt32 i0 >>> (Int32.toUInt32 (1 : Int32) &&& Int32.toUInt32 31)).toInt32 &&& (1431655765 : Int32))) &&& (858993459 : Int32)) + ((Int32.toUInt32 (i0 - ((Int32.toUInt32 i0 >>> (Int32.toUInt32 (1 : Int32) &&& Int32.toUInt32 31)).toInt32 &&& (1431655765 : Int32))) >>> (Int32.toUInt32 (2 : Int32) &&& Int32.toUInt32 31)).toInt32 &&& (858993459 : Int32))) >>> (Int32.toUInt32 (4 : Int32) &&& Int32.toUInt32 31)).toInt32) &&& (252645135 : Int32)) >>> (Int32.toUInt32 (8 : Int32) &&& Int32.toUInt32 31)).toInt32) + (Int32.toUInt32 ((((((i0 - ((Int32.toUInt32 i0 >>> (Int32.toUInt32 (1 : Int32) &&& Int32.toUInt32 31)).toInt32 &&& (1431655765 : Int32))) &&& (858993459 : Int32)) + ((Int32.toUInt32 (i0 - ((Int32.toUInt32 i0 >>> (Int32.toUInt32 (1 : Int32) &&& Int32.toUInt32 31)).toInt32 &&& (1431655765 : Int32))) >>> (Int32.toUInt32 (2 : Int32) &&& Int32.toUInt32 31)).toInt32 &&& (858993459 : Int32))) + (Int32.toUInt32 (((i0 - ((Int32.toUInt32 i0 >>> (Int32.toUInt32 (1 : Int32) &&& Int32.toUInt32 31)).toInt32 &&& (1431655765 : Int32))) &&& (858993459 : Int32)) + ((Int32.toUInt32 (i0 - ((Int32.toUInt32 i0 >>> (Int32.toUInt32 (1 : Int32) &&& Int32.toUInt32 31)).toInt32 &&& (1431655765 : Int32))) >>> (Int32.toUInt32 (2 : Int32) &&& Int32.toUInt32 31)).toInt32 &&& (858993459 : Int32))) >>> (Int32.toUInt32 (4 : Int32) &&& Int32.toUInt32 31)).toInt32) &&& (252645135 : Int32)) + (Int32.toUInt32 (((((i0 - ((Int32.toUInt32 i0 >>> (Int32.toUInt32 (1 : Int32) &&& Int32.toUInt32 31)).toInt32 &&& (1431655765 : Int32))) &&& (858993459 : Int32)) + ((Int32.toUInt32 (i0 - ((Int32.toUInt32 i0 >>> (Int32.toUInt32 (1 : Int32) &&& Int32.toUInt32 31)).toInt32 &&& (1431655765 : Int32))) >>> (Int32.toUInt32 (2 : Int32) &&& Int32.toUInt32 31)).toInt32 &&& (858993459 : Int32))) + (Int32.toUInt32 (((i0 - ((Int32.toUInt32 i0 >>> (Int32.toUInt32 (1 : Int32) &&& Int32.toUInt32 31)).toInt32 &&& (1431655765 : Int32))) &&& (858993459 : Int32)) + ((Int32.toUInt32 (i0 - ((Int32.toUInt32 i0 >>> (Int32.toUInt32 (1 : Int32) &&& Int32.toUInt32 31)).toInt32 &&& (1431655765 : Int32))) >>> (Int32.toUInt32 (2 : Int32) &&& Int32.toUInt32 31)).toInt32 &&& (858993459 : Int32))) >>> (Int32.toUInt32 (4 : Int32) &&& Int32.toUInt32 31)).toInt32) &&& (252645135 : Int32)) >>> (Int32.toUInt32 (8 : Int32) &&& Int32.toUInt32 31)).toInt32) >>> (Int32.toUInt32 (16 : Int32) &&& Int32.toUInt32 31)).toInt32) &&& (63 : Int32)))
set_option maxHeartbeats 4000000 in
set_option maxRecDepth 100000 in
theorem c_J6_bitCount_0f7a4 (l : Launch) (dC : Nat → ClassId) (dI : Nat → Nat → Nat) (cI cZ cN : ClassId) (i0 : Int32) (r : Int32) (hf : f_J6_bitCount_0f7a4 i0 = some r) : CI l yJ6_bitCount_0f7a4 cJ6_bitCount_0f7a4 1 (some .int) 2 60 (dC, dI) (TY cI cZ cN) [.int i0] [] [] r := by
  refine CI.of rfl (by decide) (Nat.le_of_ble_eq_true rfl) ?_
  intro p e s m args below meth c Q A ls hx hb hml hown htb hK hN hA hP hD hS hl hret
  have hown : s.vm.findClass RJ6 = some m.cls := hown
  have hl : lv_has ls 1 [(0, .int i0)] := hl
  have hret : ∀ (r9 : Int32), some r9 = some r → ∀ (H : Heap) (locs : List Loc) (pc : Nat) (ls : Array Slot), narrow .int (.int r9) = .int r9 → decode cJ6_bitCount_0f7a4 pc = .ok (.ireturn, 1) → va_P (dC, dI) vwCl [] H → va_D A [] → va_S A s.heap H locs → W p l e (rmK 2 60) s m args below meth c H locs 0 0 Q (F0 m pc ls [.int r9]) := by
    intro r9 h9
    cases h9
    exact hret
  unfold f_J6_bitCount_0f7a4 at hf
  refine lv_iload_n hx hb dJ6_bitCount_0f7a4_0 rfl (lv_at hl 0 rfl) ?_
  refine lv_iload_n hx hb dJ6_bitCount_0f7a4_1 rfl (lv_at hl 0 rfl) ?_
  refine lv_iconst (v := (1 : Int32)) hx hb dJ6_bitCount_0f7a4_2 (by decide) ?_
  refine lv_iushr (v := (Int32.toUInt32 i0 >>> (Int32.toUInt32 (1 : Int32) &&& Int32.toUInt32 31)).toInt32) hx hb dJ6_bitCount_0f7a4_3 rfl ?_
  refine lv_ldcw (v := (1431655765 : Int32)) hx hb hown (htb _ t_415) dJ6_bitCount_0f7a4_4 ?_
  refine lv_iand hx hb dJ6_bitCount_0f7a4_7 ?_
  refine lv_isub hx hb dJ6_bitCount_0f7a4_8 ?_
  refine lv_istore_n (lv' := [(0, .int (i0 - ((Int32.toUInt32 i0 >>> (Int32.toUInt32 (1 : Int32) &&& Int32.toUInt32 31)).toInt32 &&& (1431655765 : Int32))))]) hx hb dJ6_bitCount_0f7a4_9 rfl hl (by decide) rfl (fun ls hl => ?_)
  refine lv_iload_n hx hb dJ6_bitCount_0f7a4_10 rfl (lv_at hl 0 rfl) ?_
  refine lv_ldcw (v := (858993459 : Int32)) hx hb hown (htb _ t_416) dJ6_bitCount_0f7a4_11 ?_
  refine lv_iand hx hb dJ6_bitCount_0f7a4_14 ?_
  refine lv_iload_n hx hb dJ6_bitCount_0f7a4_15 rfl (lv_at hl 0 rfl) ?_
  refine lv_iconst (v := (2 : Int32)) hx hb dJ6_bitCount_0f7a4_16 (by decide) ?_
  refine lv_iushr (v := (Int32.toUInt32 (i0 - ((Int32.toUInt32 i0 >>> (Int32.toUInt32 (1 : Int32) &&& Int32.toUInt32 31)).toInt32 &&& (1431655765 : Int32))) >>> (Int32.toUInt32 (2 : Int32) &&& Int32.toUInt32 31)).toInt32) hx hb dJ6_bitCount_0f7a4_17 rfl ?_
  refine lv_ldcw (v := (858993459 : Int32)) hx hb hown (htb _ t_416) dJ6_bitCount_0f7a4_18 ?_
  refine lv_iand hx hb dJ6_bitCount_0f7a4_21 ?_
  refine lv_iadd hx hb dJ6_bitCount_0f7a4_22 ?_
  refine lv_istore_n (lv' := [(0, .int (((i0 - ((Int32.toUInt32 i0 >>> (Int32.toUInt32 (1 : Int32) &&& Int32.toUInt32 31)).toInt32 &&& (1431655765 : Int32))) &&& (858993459 : Int32)) + ((Int32.toUInt32 (i0 - ((Int32.toUInt32 i0 >>> (Int32.toUInt32 (1 : Int32) &&& Int32.toUInt32 31)).toInt32 &&& (1431655765 : Int32))) >>> (Int32.toUInt32 (2 : Int32) &&& Int32.toUInt32 31)).toInt32 &&& (858993459 : Int32))))]) hx hb dJ6_bitCount_0f7a4_23 rfl hl (by decide) rfl (fun ls hl => ?_)
  refine lv_iload_n hx hb dJ6_bitCount_0f7a4_24 rfl (lv_at hl 0 rfl) ?_
  refine lv_iload_n hx hb dJ6_bitCount_0f7a4_25 rfl (lv_at hl 0 rfl) ?_
  refine lv_iconst (v := (4 : Int32)) hx hb dJ6_bitCount_0f7a4_26 (by decide) ?_
  refine lv_iushr (v := (Int32.toUInt32 (((i0 - ((Int32.toUInt32 i0 >>> (Int32.toUInt32 (1 : Int32) &&& Int32.toUInt32 31)).toInt32 &&& (1431655765 : Int32))) &&& (858993459 : Int32)) + ((Int32.toUInt32 (i0 - ((Int32.toUInt32 i0 >>> (Int32.toUInt32 (1 : Int32) &&& Int32.toUInt32 31)).toInt32 &&& (1431655765 : Int32))) >>> (Int32.toUInt32 (2 : Int32) &&& Int32.toUInt32 31)).toInt32 &&& (858993459 : Int32))) >>> (Int32.toUInt32 (4 : Int32) &&& Int32.toUInt32 31)).toInt32) hx hb dJ6_bitCount_0f7a4_27 rfl ?_
  refine lv_iadd hx hb dJ6_bitCount_0f7a4_28 ?_
  refine lv_ldcw (v := (252645135 : Int32)) hx hb hown (htb _ t_417) dJ6_bitCount_0f7a4_29 ?_
  refine lv_iand hx hb dJ6_bitCount_0f7a4_32 ?_
  refine lv_istore_n (lv' := [(0, .int (((((i0 - ((Int32.toUInt32 i0 >>> (Int32.toUInt32 (1 : Int32) &&& Int32.toUInt32 31)).toInt32 &&& (1431655765 : Int32))) &&& (858993459 : Int32)) + ((Int32.toUInt32 (i0 - ((Int32.toUInt32 i0 >>> (Int32.toUInt32 (1 : Int32) &&& Int32.toUInt32 31)).toInt32 &&& (1431655765 : Int32))) >>> (Int32.toUInt32 (2 : Int32) &&& Int32.toUInt32 31)).toInt32 &&& (858993459 : Int32))) + (Int32.toUInt32 (((i0 - ((Int32.toUInt32 i0 >>> (Int32.toUInt32 (1 : Int32) &&& Int32.toUInt32 31)).toInt32 &&& (1431655765 : Int32))) &&& (858993459 : Int32)) + ((Int32.toUInt32 (i0 - ((Int32.toUInt32 i0 >>> (Int32.toUInt32 (1 : Int32) &&& Int32.toUInt32 31)).toInt32 &&& (1431655765 : Int32))) >>> (Int32.toUInt32 (2 : Int32) &&& Int32.toUInt32 31)).toInt32 &&& (858993459 : Int32))) >>> (Int32.toUInt32 (4 : Int32) &&& Int32.toUInt32 31)).toInt32) &&& (252645135 : Int32)))]) hx hb dJ6_bitCount_0f7a4_33 rfl hl (by decide) rfl (fun ls hl => ?_)
  refine lv_iload_n hx hb dJ6_bitCount_0f7a4_34 rfl (lv_at hl 0 rfl) ?_
  refine lv_iload_n hx hb dJ6_bitCount_0f7a4_35 rfl (lv_at hl 0 rfl) ?_
  refine lv_bipush (v := (8 : Int32)) hx hb dJ6_bitCount_0f7a4_36 (by decide) ?_
  refine lv_iushr (v := (Int32.toUInt32 (((((i0 - ((Int32.toUInt32 i0 >>> (Int32.toUInt32 (1 : Int32) &&& Int32.toUInt32 31)).toInt32 &&& (1431655765 : Int32))) &&& (858993459 : Int32)) + ((Int32.toUInt32 (i0 - ((Int32.toUInt32 i0 >>> (Int32.toUInt32 (1 : Int32) &&& Int32.toUInt32 31)).toInt32 &&& (1431655765 : Int32))) >>> (Int32.toUInt32 (2 : Int32) &&& Int32.toUInt32 31)).toInt32 &&& (858993459 : Int32))) + (Int32.toUInt32 (((i0 - ((Int32.toUInt32 i0 >>> (Int32.toUInt32 (1 : Int32) &&& Int32.toUInt32 31)).toInt32 &&& (1431655765 : Int32))) &&& (858993459 : Int32)) + ((Int32.toUInt32 (i0 - ((Int32.toUInt32 i0 >>> (Int32.toUInt32 (1 : Int32) &&& Int32.toUInt32 31)).toInt32 &&& (1431655765 : Int32))) >>> (Int32.toUInt32 (2 : Int32) &&& Int32.toUInt32 31)).toInt32 &&& (858993459 : Int32))) >>> (Int32.toUInt32 (4 : Int32) &&& Int32.toUInt32 31)).toInt32) &&& (252645135 : Int32)) >>> (Int32.toUInt32 (8 : Int32) &&& Int32.toUInt32 31)).toInt32) hx hb dJ6_bitCount_0f7a4_38 rfl ?_
  refine lv_iadd hx hb dJ6_bitCount_0f7a4_39 ?_
  refine lv_istore_n (lv' := [(0, .int ((((((i0 - ((Int32.toUInt32 i0 >>> (Int32.toUInt32 (1 : Int32) &&& Int32.toUInt32 31)).toInt32 &&& (1431655765 : Int32))) &&& (858993459 : Int32)) + ((Int32.toUInt32 (i0 - ((Int32.toUInt32 i0 >>> (Int32.toUInt32 (1 : Int32) &&& Int32.toUInt32 31)).toInt32 &&& (1431655765 : Int32))) >>> (Int32.toUInt32 (2 : Int32) &&& Int32.toUInt32 31)).toInt32 &&& (858993459 : Int32))) + (Int32.toUInt32 (((i0 - ((Int32.toUInt32 i0 >>> (Int32.toUInt32 (1 : Int32) &&& Int32.toUInt32 31)).toInt32 &&& (1431655765 : Int32))) &&& (858993459 : Int32)) + ((Int32.toUInt32 (i0 - ((Int32.toUInt32 i0 >>> (Int32.toUInt32 (1 : Int32) &&& Int32.toUInt32 31)).toInt32 &&& (1431655765 : Int32))) >>> (Int32.toUInt32 (2 : Int32) &&& Int32.toUInt32 31)).toInt32 &&& (858993459 : Int32))) >>> (Int32.toUInt32 (4 : Int32) &&& Int32.toUInt32 31)).toInt32) &&& (252645135 : Int32)) + (Int32.toUInt32 (((((i0 - ((Int32.toUInt32 i0 >>> (Int32.toUInt32 (1 : Int32) &&& Int32.toUInt32 31)).toInt32 &&& (1431655765 : Int32))) &&& (858993459 : Int32)) + ((Int32.toUInt32 (i0 - ((Int32.toUInt32 i0 >>> (Int32.toUInt32 (1 : Int32) &&& Int32.toUInt32 31)).toInt32 &&& (1431655765 : Int32))) >>> (Int32.toUInt32 (2 : Int32) &&& Int32.toUInt32 31)).toInt32 &&& (858993459 : Int32))) + (Int32.toUInt32 (((i0 - ((Int32.toUInt32 i0 >>> (Int32.toUInt32 (1 : Int32) &&& Int32.toUInt32 31)).toInt32 &&& (1431655765 : Int32))) &&& (858993459 : Int32)) + ((Int32.toUInt32 (i0 - ((Int32.toUInt32 i0 >>> (Int32.toUInt32 (1 : Int32) &&& Int32.toUInt32 31)).toInt32 &&& (1431655765 : Int32))) >>> (Int32.toUInt32 (2 : Int32) &&& Int32.toUInt32 31)).toInt32 &&& (858993459 : Int32))) >>> (Int32.toUInt32 (4 : Int32) &&& Int32.toUInt32 31)).toInt32) &&& (252645135 : Int32)) >>> (Int32.toUInt32 (8 : Int32) &&& Int32.toUInt32 31)).toInt32))]) hx hb dJ6_bitCount_0f7a4_40 rfl hl (by decide) rfl (fun ls hl => ?_)
  refine lv_iload_n hx hb dJ6_bitCount_0f7a4_41 rfl (lv_at hl 0 rfl) ?_
  refine lv_iload_n hx hb dJ6_bitCount_0f7a4_42 rfl (lv_at hl 0 rfl) ?_
  refine lv_bipush (v := (16 : Int32)) hx hb dJ6_bitCount_0f7a4_43 (by decide) ?_
  refine lv_iushr (v := (Int32.toUInt32 ((((((i0 - ((Int32.toUInt32 i0 >>> (Int32.toUInt32 (1 : Int32) &&& Int32.toUInt32 31)).toInt32 &&& (1431655765 : Int32))) &&& (858993459 : Int32)) + ((Int32.toUInt32 (i0 - ((Int32.toUInt32 i0 >>> (Int32.toUInt32 (1 : Int32) &&& Int32.toUInt32 31)).toInt32 &&& (1431655765 : Int32))) >>> (Int32.toUInt32 (2 : Int32) &&& Int32.toUInt32 31)).toInt32 &&& (858993459 : Int32))) + (Int32.toUInt32 (((i0 - ((Int32.toUInt32 i0 >>> (Int32.toUInt32 (1 : Int32) &&& Int32.toUInt32 31)).toInt32 &&& (1431655765 : Int32))) &&& (858993459 : Int32)) + ((Int32.toUInt32 (i0 - ((Int32.toUInt32 i0 >>> (Int32.toUInt32 (1 : Int32) &&& Int32.toUInt32 31)).toInt32 &&& (1431655765 : Int32))) >>> (Int32.toUInt32 (2 : Int32) &&& Int32.toUInt32 31)).toInt32 &&& (858993459 : Int32))) >>> (Int32.toUInt32 (4 : Int32) &&& Int32.toUInt32 31)).toInt32) &&& (252645135 : Int32)) + (Int32.toUInt32 (((((i0 - ((Int32.toUInt32 i0 >>> (Int32.toUInt32 (1 : Int32) &&& Int32.toUInt32 31)).toInt32 &&& (1431655765 : Int32))) &&& (858993459 : Int32)) + ((Int32.toUInt32 (i0 - ((Int32.toUInt32 i0 >>> (Int32.toUInt32 (1 : Int32) &&& Int32.toUInt32 31)).toInt32 &&& (1431655765 : Int32))) >>> (Int32.toUInt32 (2 : Int32) &&& Int32.toUInt32 31)).toInt32 &&& (858993459 : Int32))) + (Int32.toUInt32 (((i0 - ((Int32.toUInt32 i0 >>> (Int32.toUInt32 (1 : Int32) &&& Int32.toUInt32 31)).toInt32 &&& (1431655765 : Int32))) &&& (858993459 : Int32)) + ((Int32.toUInt32 (i0 - ((Int32.toUInt32 i0 >>> (Int32.toUInt32 (1 : Int32) &&& Int32.toUInt32 31)).toInt32 &&& (1431655765 : Int32))) >>> (Int32.toUInt32 (2 : Int32) &&& Int32.toUInt32 31)).toInt32 &&& (858993459 : Int32))) >>> (Int32.toUInt32 (4 : Int32) &&& Int32.toUInt32 31)).toInt32) &&& (252645135 : Int32)) >>> (Int32.toUInt32 (8 : Int32) &&& Int32.toUInt32 31)).toInt32) >>> (Int32.toUInt32 (16 : Int32) &&& Int32.toUInt32 31)).toInt32) hx hb dJ6_bitCount_0f7a4_45 rfl ?_
  refine lv_iadd hx hb dJ6_bitCount_0f7a4_46 ?_
  refine lv_istore_n (lv' := [(0, .int (((((((i0 - ((Int32.toUInt32 i0 >>> (Int32.toUInt32 (1 : Int32) &&& Int32.toUInt32 31)).toInt32 &&& (1431655765 : Int32))) &&& (858993459 : Int32)) + ((Int32.toUInt32 (i0 - ((Int32.toUInt32 i0 >>> (Int32.toUInt32 (1 : Int32) &&& Int32.toUInt32 31)).toInt32 &&& (1431655765 : Int32))) >>> (Int32.toUInt32 (2 : Int32) &&& Int32.toUInt32 31)).toInt32 &&& (858993459 : Int32))) + (Int32.toUInt32 (((i0 - ((Int32.toUInt32 i0 >>> (Int32.toUInt32 (1 : Int32) &&& Int32.toUInt32 31)).toInt32 &&& (1431655765 : Int32))) &&& (858993459 : Int32)) + ((Int32.toUInt32 (i0 - ((Int32.toUInt32 i0 >>> (Int32.toUInt32 (1 : Int32) &&& Int32.toUInt32 31)).toInt32 &&& (1431655765 : Int32))) >>> (Int32.toUInt32 (2 : Int32) &&& Int32.toUInt32 31)).toInt32 &&& (858993459 : Int32))) >>> (Int32.toUInt32 (4 : Int32) &&& Int32.toUInt32 31)).toInt32) &&& (252645135 : Int32)) + (Int32.toUInt32 (((((i0 - ((Int32.toUInt32 i0 >>> (Int32.toUInt32 (1 : Int32) &&& Int32.toUInt32 31)).toInt32 &&& (1431655765 : Int32))) &&& (858993459 : Int32)) + ((Int32.toUInt32 (i0 - ((Int32.toUInt32 i0 >>> (Int32.toUInt32 (1 : Int32) &&& Int32.toUInt32 31)).toInt32 &&& (1431655765 : Int32))) >>> (Int32.toUInt32 (2 : Int32) &&& Int32.toUInt32 31)).toInt32 &&& (858993459 : Int32))) + (Int32.toUInt32 (((i0 - ((Int32.toUInt32 i0 >>> (Int32.toUInt32 (1 : Int32) &&& Int32.toUInt32 31)).toInt32 &&& (1431655765 : Int32))) &&& (858993459 : Int32)) + ((Int32.toUInt32 (i0 - ((Int32.toUInt32 i0 >>> (Int32.toUInt32 (1 : Int32) &&& Int32.toUInt32 31)).toInt32 &&& (1431655765 : Int32))) >>> (Int32.toUInt32 (2 : Int32) &&& Int32.toUInt32 31)).toInt32 &&& (858993459 : Int32))) >>> (Int32.toUInt32 (4 : Int32) &&& Int32.toUInt32 31)).toInt32) &&& (252645135 : Int32)) >>> (Int32.toUInt32 (8 : Int32) &&& Int32.toUInt32 31)).toInt32) + (Int32.toUInt32 ((((((i0 - ((Int32.toUInt32 i0 >>> (Int32.toUInt32 (1 : Int32) &&& Int32.toUInt32 31)).toInt32 &&& (1431655765 : Int32))) &&& (858993459 : Int32)) + ((Int32.toUInt32 (i0 - ((Int32.toUInt32 i0 >>> (Int32.toUInt32 (1 : Int32) &&& Int32.toUInt32 31)).toInt32 &&& (1431655765 : Int32))) >>> (Int32.toUInt32 (2 : Int32) &&& Int32.toUInt32 31)).toInt32 &&& (858993459 : Int32))) + (Int32.toUInt32 (((i0 - ((Int32.toUInt32 i0 >>> (Int32.toUInt32 (1 : Int32) &&& Int32.toUInt32 31)).toInt32 &&& (1431655765 : Int32))) &&& (858993459 : Int32)) + ((Int32.toUInt32 (i0 - ((Int32.toUInt32 i0 >>> (Int32.toUInt32 (1 : Int32) &&& Int32.toUInt32 31)).toInt32 &&& (1431655765 : Int32))) >>> (Int32.toUInt32 (2 : Int32) &&& Int32.toUInt32 31)).toInt32 &&& (858993459 : Int32))) >>> (Int32.toUInt32 (4 : Int32) &&& Int32.toUInt32 31)).toInt32) &&& (252645135 : Int32)) + (Int32.toUInt32 (((((i0 - ((Int32.toUInt32 i0 >>> (Int32.toUInt32 (1 : Int32) &&& Int32.toUInt32 31)).toInt32 &&& (1431655765 : Int32))) &&& (858993459 : Int32)) + ((Int32.toUInt32 (i0 - ((Int32.toUInt32 i0 >>> (Int32.toUInt32 (1 : Int32) &&& Int32.toUInt32 31)).toInt32 &&& (1431655765 : Int32))) >>> (Int32.toUInt32 (2 : Int32) &&& Int32.toUInt32 31)).toInt32 &&& (858993459 : Int32))) + (Int32.toUInt32 (((i0 - ((Int32.toUInt32 i0 >>> (Int32.toUInt32 (1 : Int32) &&& Int32.toUInt32 31)).toInt32 &&& (1431655765 : Int32))) &&& (858993459 : Int32)) + ((Int32.toUInt32 (i0 - ((Int32.toUInt32 i0 >>> (Int32.toUInt32 (1 : Int32) &&& Int32.toUInt32 31)).toInt32 &&& (1431655765 : Int32))) >>> (Int32.toUInt32 (2 : Int32) &&& Int32.toUInt32 31)).toInt32 &&& (858993459 : Int32))) >>> (Int32.toUInt32 (4 : Int32) &&& Int32.toUInt32 31)).toInt32) &&& (252645135 : Int32)) >>> (Int32.toUInt32 (8 : Int32) &&& Int32.toUInt32 31)).toInt32) >>> (Int32.toUInt32 (16 : Int32) &&& Int32.toUInt32 31)).toInt32))]) hx hb dJ6_bitCount_0f7a4_47 rfl hl (by decide) rfl (fun ls hl => ?_)
  refine lv_iload_n hx hb dJ6_bitCount_0f7a4_48 rfl (lv_at hl 0 rfl) ?_
  refine lv_bipush (v := (63 : Int32)) hx hb dJ6_bitCount_0f7a4_49 (by decide) ?_
  refine lv_iand hx hb dJ6_bitCount_0f7a4_51 ?_
  exact hret _ hf _ _ _ _ rfl dJ6_bitCount_0f7a4_52 hP hD hS
theorem sf_J7_fill_53178 : SF yJ7_fill_53178 cJ7_fill_53178 4 none 2 := ⟨t_32, t_3, t_33, by decide +kernel, by decide +kernel, by decide +kernel⟩
theorem dJ7_fill_53178_0 : decode cJ7_fill_53178 0 = .ok (.iconst 0, 1) := by decide +kernel
theorem dJ7_fill_53178_1 : decode cJ7_fill_53178 1 = .ok (.istore_n 2, 1) := by decide +kernel
theorem dJ7_fill_53178_2 : decode cJ7_fill_53178 2 = .ok (.aload_n 0, 1) := by decide +kernel
theorem dJ7_fill_53178_3 : decode cJ7_fill_53178 3 = .ok (.arraylength, 1) := by decide +kernel
theorem dJ7_fill_53178_4 : decode cJ7_fill_53178 4 = .ok (.istore_n 3, 1) := by decide +kernel
theorem dJ7_fill_53178_5 : decode cJ7_fill_53178 5 = .ok (.iload_n 2, 1) := by decide +kernel
theorem dJ7_fill_53178_6 : decode cJ7_fill_53178 6 = .ok (.iload_n 3, 1) := by decide +kernel
theorem dJ7_fill_53178_7 : decode cJ7_fill_53178 7 = .ok (.if_icmp .ge 13, 3) := by decide +kernel
theorem dJ7_fill_53178_10 : decode cJ7_fill_53178 10 = .ok (.aload_n 0, 1) := by decide +kernel
theorem dJ7_fill_53178_11 : decode cJ7_fill_53178 11 = .ok (.iload_n 2, 1) := by decide +kernel
theorem dJ7_fill_53178_12 : decode cJ7_fill_53178 12 = .ok (.iload_n 1, 1) := by decide +kernel
theorem dJ7_fill_53178_13 : decode cJ7_fill_53178 13 = .ok (.iastore, 1) := by decide +kernel
theorem dJ7_fill_53178_14 : decode cJ7_fill_53178 14 = .ok (.iinc 2 1, 3) := by decide +kernel
theorem dJ7_fill_53178_17 : decode cJ7_fill_53178 17 = .ok (.goto (-12), 3) := by decide +kernel
theorem dJ7_fill_53178_20 : decode cJ7_fill_53178 20 = .ok (.return_, 1) := by decide +kernel
noncomputable def f_J7_fill_53178_L5 (i1 : Int32) (i3 : Int32) (n_p0 : Nat) (i2 : Int32) (x_p0 : Nat → Int32) : Option ((Int32 × (Nat → Int32)) ⊕ ((Nat → Int32))) :=
  if i3 ≤ i2 then (some (.inr x_p0)) else ((si x_p0 n_p0 i2 i1).bind fun v2 =>
  some (.inl ((i2 + (1 : Int32)), v2)))
noncomputable def f_J7_fill_53178 (n_p0 : Nat) (x_p0 : Nat → Int32) (i1 : Int32) : Option ((Nat → Int32)) :=
  (loopS (fun (s : Int32 × (Nat → Int32)) => f_J7_fill_53178_L5 i1 (Int32.ofNat n_p0) n_p0 s.1 s.2) ((0 : Int32), x_p0)).bind fun x1 =>
  some (x1)
set_option maxHeartbeats 4000000 in
set_option maxRecDepth 100000 in
theorem c_J7_fill_53178 (l : Launch) (dC : Nat → ClassId) (dI : Nat → Nat → Nat) (cI cZ cN : ClassId) (n_p0 : Nat) (q_p0 : Nat) (x_p0 : Nat → Int32) (i1 : Int32) (o_p0 : Nat → Int32) (hf : f_J7_fill_53178 n_p0 x_p0 i1 = some o_p0) : CV l yJ7_fill_53178 cJ7_fill_53178 4 none 2 60 (dC, dI) (TY cI cZ cN) [.ref q_p0, .int i1] [(q_p0, .inl (cI, n_p0, .inl x_p0))] [(q_p0, .inl (cI, n_p0, .inl o_p0))] := by
  refine CV.of (by decide) (Nat.le_of_ble_eq_true rfl) ?_
  intro p e s m args below meth c Q A ls hx hb hml hown htb hK hN hA hP hD hS hl hret
  have hown : s.vm.findClass RJ7 = some m.cls := hown
  have hl : lv_has ls 4 [(0, .ref q_p0), (1, .int i1)] := hl
  have hret : ∀ (o9_p0 : Nat → Int32), some o9_p0 = some o_p0 → ∀ (H : Heap) (locs : List Loc) (pc : Nat) (ls : Array Slot), decode cJ7_fill_53178 pc = .ok (.return_, 1) → va_P (dC, dI) vwCl [(q_p0, .inl (cI, n_p0, .inl o9_p0))] H → va_D A [(q_p0, .inl (cI, n_p0, .inl o9_p0))] → va_S A s.heap H locs → W p l e (rmK 2 60) s m args below meth c H locs 0 0 Q (F0 m pc ls []) := by
    intro o9_p0 h9
    cases h9
    exact hret
  unfold f_J7_fill_53178 at hf
  refine lv_iconst (v := (0 : Int32)) hx hb dJ7_fill_53178_0 (by decide) ?_
  refine lv_istore_n (lv' := [(2, .int (0 : Int32)), (0, .ref q_p0), (1, .int i1)]) hx hb dJ7_fill_53178_1 rfl hl (by decide) rfl (fun ls hl => ?_)
  refine lv_aload_n hx hb dJ7_fill_53178_2 rfl (lv_at hl 1 rfl) ?_
  refine va_alen (v := (Int32.ofNat n_p0)) hx hb hK hP 0 0 rfl rfl rfl dJ7_fill_53178_3 ?_
  refine lv_istore_n (lv' := [(3, .int (Int32.ofNat n_p0)), (2, .int (0 : Int32)), (0, .ref q_p0), (1, .int i1)]) hx hb dJ7_fill_53178_4 rfl hl (by decide) rfl (fun ls hl => ?_)
  obtain ⟨x1, hL, hf⟩ := ob hf
  have kx2 : ∀ (H : Heap) (locs : List Loc) (ls : Array Slot), va_P (dC, dI) vwCl [(q_p0, .inl (cI, n_p0, .inl x1))] H → va_D A [(q_p0, .inl (cI, n_p0, .inl x1))] → va_S A s.heap H locs → lv_has ls 4 [] → W p l e (rmK 2 60) s m args below meth c H locs 0 0 Q (F0 m 20 ls []) := by
    intro H locs ls hP hD hS hl
    exact hret _ hf _ _ _ _ dJ7_fill_53178_20 hP hD hS
  obtain ⟨n0, hn0⟩ := loopS_iter hL
  clear hf
  have kl5 : ∀ (n : Nat) (s3 : Int32) (s4 : Nat → Int32), iterS (fun (s : Int32 × (Nat → Int32)) => f_J7_fill_53178_L5 i1 (Int32.ofNat n_p0) n_p0 s.1 s.2) n (s3, s4) = some x1 → ∀ (H : Heap) (locs : List Loc) (ls : Array Slot), va_P (dC, dI) vwCl [(q_p0, .inl (cI, n_p0, .inl s4))] H → va_D A [(q_p0, .inl (cI, n_p0, .inl s4))] → va_S A s.heap H locs → lv_has ls 4 [(0, .ref q_p0), (1, .int i1), (2, .int s3), (3, .int (Int32.ofNat n_p0))] → W p l e (rmK 2 60) s m args below meth c H locs 0 0 Q (F0 m 5 ls []) := by
    intro n
    induction n with
    | zero =>
      intro s3 s4 hn1
      cases hn1
    | succ n ih1 =>
      intro s3 s4 hn1 H locs ls hP hD hS hl
      obtain ⟨r6, hf, hn1⟩ := it1 hn1
      replace hf : f_J7_fill_53178_L5 i1 (Int32.ofNat n_p0) n_p0 s3 s4 = some r6 := hf
      unfold f_J7_fill_53178_L5 at hf
      refine lv_iload_n hx hb dJ7_fill_53178_5 rfl (lv_at hl 2 rfl) ?_
      refine lv_iload_n hx hb dJ7_fill_53178_6 rfl (lv_at hl 3 rfl) ?_
      refine lv_icmp_ge (tgt := 20) hx hb dJ7_fill_53178_7 (by decide) (fun c7 => ?_) (fun c7 => ?_)
      · have hf := ip c7 hf
        cases hf
        cases (itr hn1)
        exact kx2 _ _ _ hP hD hS (lv_sub hl [] rfl)
      · have hf := im c7 hf
        refine lv_aload_n hx hb dJ7_fill_53178_10 rfl (lv_at hl 0 rfl) ?_
        refine lv_iload_n hx hb dJ7_fill_53178_11 rfl (lv_at hl 2 rfl) ?_
        refine lv_iload_n hx hb dJ7_fill_53178_12 rfl (lv_at hl 1 rfl) ?_
        obtain ⟨v8, hv, hf⟩ := ob hf
        refine k_iast (wn := [(q_p0, .inl (cI, n_p0, .inl v8))]) hx hb hK hP hD hS 0 0 rfl rfl hv rfl dJ7_fill_53178_13 ?_
        clear hP hD hS
        intro H locs hP hD hS
        refine lv_iinc (v := (s3 + (1 : Int32))) (lv' := [(2, .int (s3 + (1 : Int32))), (0, .ref q_p0), (1, .int i1), (3, .int (Int32.ofNat n_p0))]) hx hb dJ7_fill_53178_14 hl (k := 2) rfl rfl (by decide) rfl (fun ls hl => ?_)
        refine lv_goto (tgt := 5) hx hb dJ7_fill_53178_17 (by decide) ?_
        cases hf
        exact ih1 _ _ (itl hn1) _ _ _ hP hD hS (lv_sub hl [1, 2, 0, 3] rfl)
  exact kl5 n0 _ _ hn0 _ _ _ hP hD hS (lv_sub hl [2, 3, 1, 0] rfl)
theorem vf_X4_has : VF yX4_has cX4_has 2 (some .boolean) 1 := ⟨t_354, t_355, t_2, t_356, by decide +kernel, by decide +kernel, by decide +kernel⟩
theorem dX4_has_0 : decode cX4_has 0 = .ok (.iload_n 1, 1) := by decide +kernel
theorem dX4_has_1 : decode cX4_has 1 = .ok (.ifCond .lt 15, 3) := by decide +kernel
theorem dX4_has_4 : decode cX4_has 4 = .ok (.iload_n 1, 1) := by decide +kernel
theorem dX4_has_5 : decode cX4_has 5 = .ok (.aload_n 0, 1) := by decide +kernel
theorem dX4_has_6 : decode cX4_has 6 = .ok (.getfield 30, 3) := by decide +kernel
theorem dX4_has_9 : decode cX4_has 9 = .ok (.if_icmp .ge 7, 3) := by decide +kernel
theorem dX4_has_12 : decode cX4_has 12 = .ok (.iconst 1, 1) := by decide +kernel
theorem dX4_has_13 : decode cX4_has 13 = .ok (.goto 4, 3) := by decide +kernel
theorem dX4_has_16 : decode cX4_has 16 = .ok (.iconst 0, 1) := by decide +kernel
theorem dX4_has_17 : decode cX4_has 17 = .ok (.ireturn, 1) := by decide +kernel
noncomputable def f_X4_has (x_posts : Int32) (i1 : Int32) : Option (Int32) :=
  if i1 < 0 then (some ((0 : Int32))) else (if x_posts ≤ i1 then (some ((0 : Int32))) else (some ((1 : Int32))))
set_option maxHeartbeats 4000000 in
set_option maxRecDepth 100000 in
theorem c_X4_has (l : Launch) (dC : Nat → ClassId) (dI : Nat → Nat → Nat) (cI cZ cN : ClassId) (q_ : Nat) (q_widths : Nat) (q_lengths : Nat) (q_told : Nat) (q_behind : Nat) (x_posts : Int32) (x_pairs : Int32) (i1 : Int32) (r : Int32) (hf : f_X4_has x_posts i1 = some r) : CI l yX4_has cX4_has 2 (some .boolean) 2 60 (dC, dI) (TY cI cZ cN) [.ref q_, .int i1] [(q_, .inr (4, [.int x_posts, .int x_pairs, .ref q_widths, .ref q_lengths, .ref q_told, .ref q_behind]))] [(q_, .inr (4, [.int x_posts, .int x_pairs, .ref q_widths, .ref q_lengths, .ref q_told, .ref q_behind]))] r := by
  refine CI.of rfl (by decide) (Nat.le_of_ble_eq_true rfl) ?_
  intro p e s m args below meth c Q A ls hx hb hml hown htb hK hN hA hP hD hS hl hret
  have hown : s.vm.findClass RX4 = some m.cls := hown
  have hl : lv_has ls 2 [(0, .ref q_), (1, .int i1)] := hl
  have hret : ∀ (r9 : Int32), some r9 = some r → ∀ (H : Heap) (locs : List Loc) (pc : Nat) (ls : Array Slot), narrow .boolean (.int r9) = .int r9 → decode cX4_has pc = .ok (.ireturn, 1) → va_P (dC, dI) vwCl [(q_, .inr (4, [.int x_posts, .int x_pairs, .ref q_widths, .ref q_lengths, .ref q_told, .ref q_behind]))] H → va_D A [(q_, .inr (4, [.int x_posts, .int x_pairs, .ref q_widths, .ref q_lengths, .ref q_told, .ref q_behind]))] → va_S A s.heap H locs → W p l e (rmK 2 60) s m args below meth c H locs 0 0 Q (F0 m pc ls [.int r9]) := by
    intro r9 h9
    cases h9
    exact hret
  unfold f_X4_has at hf
  refine lv_iload_n hx hb dX4_has_0 rfl (lv_at hl 1 rfl) ?_
  refine lv_if_lt (tgt := 16) hx hb dX4_has_1 (by decide) (fun c1 => ?_) (fun c1 => ?_)
  · have hf := ip c1 hf
    refine lv_iconst (v := (0 : Int32)) hx hb dX4_has_16 (by decide) ?_
    exact hret _ hf _ _ _ _ rfl dX4_has_17 hP hD hS
  · have hf := im c1 hf
    refine lv_iload_n hx hb dX4_has_4 rfl (lv_at hl 1 rfl) ?_
    refine lv_aload_n hx hb dX4_has_5 rfl (lv_at hl 0 rfl) ?_
    refine va_get (D := (dC, dI)) (ci := 4) (v := .int x_posts) (C := RX4) (T := TX4) (N := 6) hx hb htb inX4 hown hK hP 0 rfl rfl 0 (Nat.le_of_ble_eq_true rfl) (htb _ t_36) (fun _ h9 => h9) rfl dX4_has_6 ?_
    refine lv_icmp_ge (tgt := 16) hx hb dX4_has_9 (by decide) (fun c2 => ?_) (fun c2 => ?_)
    · have hf := ip c2 hf
      refine lv_iconst (v := (0 : Int32)) hx hb dX4_has_16 (by decide) ?_
      exact hret _ hf _ _ _ _ rfl dX4_has_17 hP hD hS
    · have hf := im c2 hf
      refine lv_iconst (v := (1 : Int32)) hx hb dX4_has_12 (by decide) ?_
      refine lv_goto (tgt := 17) hx hb dX4_has_13 (by decide) ?_
      exact hret _ hf _ _ _ _ rfl dX4_has_17 hP hD hS
theorem vf_X4_hasBoth : VF yX4_hasBoth cX4_hasBoth 3 (some .boolean) 2 := ⟨t_386, t_387, t_2, t_388, by decide +kernel, by decide +kernel, by decide +kernel⟩
theorem dX4_hasBoth_0 : decode cX4_hasBoth 0 = .ok (.aload_n 0, 1) := by decide +kernel
theorem dX4_hasBoth_1 : decode cX4_hasBoth 1 = .ok (.iload_n 1, 1) := by decide +kernel
theorem dX4_hasBoth_2 : decode cX4_hasBoth 2 = .ok (.invokevirtual 34, 3) := by decide +kernel
theorem dX4_hasBoth_5 : decode cX4_hasBoth 5 = .ok (.ifCond .eq 20, 3) := by decide +kernel
theorem dX4_hasBoth_8 : decode cX4_hasBoth 8 = .ok (.aload_n 0, 1) := by decide +kernel
theorem dX4_hasBoth_9 : decode cX4_hasBoth 9 = .ok (.iload_n 2, 1) := by decide +kernel
theorem dX4_hasBoth_10 : decode cX4_hasBoth 10 = .ok (.invokevirtual 34, 3) := by decide +kernel
theorem dX4_hasBoth_13 : decode cX4_hasBoth 13 = .ok (.ifCond .eq 12, 3) := by decide +kernel
theorem dX4_hasBoth_16 : decode cX4_hasBoth 16 = .ok (.iload_n 1, 1) := by decide +kernel
theorem dX4_hasBoth_17 : decode cX4_hasBoth 17 = .ok (.iload_n 2, 1) := by decide +kernel
theorem dX4_hasBoth_18 : decode cX4_hasBoth 18 = .ok (.if_icmp .eq 7, 3) := by decide +kernel
theorem dX4_hasBoth_21 : decode cX4_hasBoth 21 = .ok (.iconst 1, 1) := by decide +kernel
theorem dX4_hasBoth_22 : decode cX4_hasBoth 22 = .ok (.goto 4, 3) := by decide +kernel
theorem dX4_hasBoth_25 : decode cX4_hasBoth 25 = .ok (.iconst 0, 1) := by decide +kernel
theorem dX4_hasBoth_26 : decode cX4_hasBoth 26 = .ok (.ireturn, 1) := by decide +kernel
noncomputable def f_X4_hasBoth (x_posts : Int32) (i1 : Int32) (i2 : Int32) : Option (Int32) :=
  (f_X4_has x_posts i1).bind fun v1 =>
  if v1 = 0 then (some ((0 : Int32))) else ((f_X4_has x_posts i2).bind fun v3 =>
  if v3 = 0 then (some ((0 : Int32))) else (if i1 = i2 then (some ((0 : Int32))) else (some ((1 : Int32)))))
set_option maxHeartbeats 4000000 in
set_option maxRecDepth 100000 in
theorem c_X4_hasBoth (l : Launch) (dC : Nat → ClassId) (dI : Nat → Nat → Nat) (cI cZ cN : ClassId) (q_ : Nat) (q_widths : Nat) (q_lengths : Nat) (q_told : Nat) (q_behind : Nat) (x_posts : Int32) (x_pairs : Int32) (i1 i2 : Int32) (r : Int32) (hf : f_X4_hasBoth x_posts i1 i2 = some r) : CI l yX4_hasBoth cX4_hasBoth 3 (some .boolean) 3 81 (dC, dI) (TY cI cZ cN) [.ref q_, .int i1, .int i2] [(q_, .inr (4, [.int x_posts, .int x_pairs, .ref q_widths, .ref q_lengths, .ref q_told, .ref q_behind]))] [(q_, .inr (4, [.int x_posts, .int x_pairs, .ref q_widths, .ref q_lengths, .ref q_told, .ref q_behind]))] r := by
  refine CI.of rfl (by decide) (Nat.le_of_ble_eq_true rfl) ?_
  intro p e s m args below meth c Q A ls hx hb hml hown htb hK hN hA hP hD hS hl hret
  have hown : s.vm.findClass RX4 = some m.cls := hown
  have hl : lv_has ls 3 [(0, .ref q_), (1, .int i1), (2, .int i2)] := hl
  have hret : ∀ (r9 : Int32), some r9 = some r → ∀ (H : Heap) (locs : List Loc) (pc : Nat) (ls : Array Slot), narrow .boolean (.int r9) = .int r9 → decode cX4_hasBoth pc = .ok (.ireturn, 1) → va_P (dC, dI) vwCl [(q_, .inr (4, [.int x_posts, .int x_pairs, .ref q_widths, .ref q_lengths, .ref q_told, .ref q_behind]))] H → va_D A [(q_, .inr (4, [.int x_posts, .int x_pairs, .ref q_widths, .ref q_lengths, .ref q_told, .ref q_behind]))] → va_S A s.heap H locs → W p l e (rmK 3 81) s m args below meth c H locs 0 0 Q (F0 m pc ls [.int r9]) := by
    intro r9 h9
    cases h9
    exact hret
  unfold f_X4_hasBoth at hf
  refine lv_aload_n hx hb dX4_hasBoth_0 rfl (lv_at hl 0 rfl) ?_
  refine lv_iload_n hx hb dX4_hasBoth_1 rfl (lv_at hl 1 rfl) ?_
  obtain ⟨v1, hv, hf⟩ := ob hf
  refine k_afterI (wr := []) (wn := [(q_, .inr (4, [.int x_posts, .int x_pairs, .ref q_widths, .ref q_lengths, .ref q_told, .ref q_behind]))]) (k_runV (rest := []) (ci := 4) (q0 := 0) hx hb hml hown htb hK hN (c_X4_has l dC dI cI cZ cN q_ q_widths q_lengths q_told q_behind x_posts x_pairs i1 v1 hv _) vf_X4_has t_389 hP hD [0] rfl rfl rfl rfl ⟨(Nat.le_of_ble_eq_true rfl), (Nat.le_of_ble_eq_true rfl)⟩ rfl hl.1 rfl (Nat.le_of_ble_eq_true rfl) dX4_hasBoth_2 ⟨Nat.zero_le _, Nat.zero_le _⟩) hA hP hD hS [0] [] [0] rfl rfl rfl rfl ?_
  clear hP hD hS
  intro H locs hP hD hS
  refine lv_if_eq (tgt := 25) hx hb dX4_hasBoth_5 (by decide) (fun c2 => ?_) (fun c2 => ?_)
  · have hf := ip c2 hf
    refine lv_iconst (v := (0 : Int32)) hx hb dX4_hasBoth_25 (by decide) ?_
    exact hret _ hf _ _ _ _ rfl dX4_hasBoth_26 hP hD hS
  · have hf := im c2 hf
    refine lv_aload_n hx hb dX4_hasBoth_8 rfl (lv_at hl 0 rfl) ?_
    refine lv_iload_n hx hb dX4_hasBoth_9 rfl (lv_at hl 2 rfl) ?_
    obtain ⟨v3, hv, hf⟩ := ob hf
    refine k_afterI (wr := []) (wn := [(q_, .inr (4, [.int x_posts, .int x_pairs, .ref q_widths, .ref q_lengths, .ref q_told, .ref q_behind]))]) (k_runV (rest := []) (ci := 4) (q0 := 0) hx hb hml hown htb hK hN (c_X4_has l dC dI cI cZ cN q_ q_widths q_lengths q_told q_behind x_posts x_pairs i2 v3 hv _) vf_X4_has t_389 hP hD [0] rfl rfl rfl rfl ⟨(Nat.le_of_ble_eq_true rfl), (Nat.le_of_ble_eq_true rfl)⟩ rfl hl.1 rfl (Nat.le_of_ble_eq_true rfl) dX4_hasBoth_10 ⟨Nat.zero_le _, Nat.zero_le _⟩) hA hP hD hS [0] [] [0] rfl rfl rfl rfl ?_
    clear hP hD hS
    intro H locs hP hD hS
    refine lv_if_eq (tgt := 25) hx hb dX4_hasBoth_13 (by decide) (fun c4 => ?_) (fun c4 => ?_)
    · have hf := ip c4 hf
      refine lv_iconst (v := (0 : Int32)) hx hb dX4_hasBoth_25 (by decide) ?_
      exact hret _ hf _ _ _ _ rfl dX4_hasBoth_26 hP hD hS
    · have hf := im c4 hf
      refine lv_iload_n hx hb dX4_hasBoth_16 rfl (lv_at hl 1 rfl) ?_
      refine lv_iload_n hx hb dX4_hasBoth_17 rfl (lv_at hl 2 rfl) ?_
      refine lv_icmp_eq (tgt := 25) hx hb dX4_hasBoth_18 (by decide) (fun c5 => ?_) (fun c5 => ?_)
      · have hf := ip c5 hf
        refine lv_iconst (v := (0 : Int32)) hx hb dX4_hasBoth_25 (by decide) ?_
        exact hret _ hf _ _ _ _ rfl dX4_hasBoth_26 hP hD hS
      · have hf := im c5 hf
        refine lv_iconst (v := (1 : Int32)) hx hb dX4_hasBoth_21 (by decide) ?_
        refine lv_goto (tgt := 26) hx hb dX4_hasBoth_22 (by decide) ?_
        exact hret _ hf _ _ _ _ rfl dX4_hasBoth_26 hP hD hS
theorem vf_X4_isMissing : VF yX4_isMissing cX4_isMissing 2 (some .boolean) 1 := ⟨t_366, t_367, t_2, t_368, by decide +kernel, by decide +kernel, by decide +kernel⟩
theorem dX4_isMissing_0 : decode cX4_isMissing 0 = .ok (.aload_n 0, 1) := by decide +kernel
theorem dX4_isMissing_1 : decode cX4_isMissing 1 = .ok (.getfield 9, 3) := by decide +kernel
theorem dX4_isMissing_4 : decode cX4_isMissing 4 = .ok (.iload_n 1, 1) := by decide +kernel
theorem dX4_isMissing_5 : decode cX4_isMissing 5 = .ok (.iaload, 1) := by decide +kernel
theorem dX4_isMissing_6 : decode cX4_isMissing 6 = .ok (.iconst (-1), 1) := by decide +kernel
theorem dX4_isMissing_7 : decode cX4_isMissing 7 = .ok (.if_icmp .ne 7, 3) := by decide +kernel
theorem dX4_isMissing_10 : decode cX4_isMissing 10 = .ok (.iconst 1, 1) := by decide +kernel
theorem dX4_isMissing_11 : decode cX4_isMissing 11 = .ok (.goto 4, 3) := by decide +kernel
theorem dX4_isMissing_14 : decode cX4_isMissing 14 = .ok (.iconst 0, 1) := by decide +kernel
theorem dX4_isMissing_15 : decode cX4_isMissing 15 = .ok (.ireturn, 1) := by decide +kernel
noncomputable def f_X4_isMissing (x_widths : Nat → Int32) (i1 : Int32) : Option (Int32) :=
  (gi x_widths 11 i1).bind fun v1 =>
  if v1 = (-1 : Int32) then (some ((1 : Int32))) else (some ((0 : Int32)))
set_option maxHeartbeats 4000000 in
set_option maxRecDepth 100000 in
theorem c_X4_isMissing (l : Launch) (dC : Nat → ClassId) (dI : Nat → Nat → Nat) (cI cZ cN : ClassId) (q_ : Nat) (q_widths : Nat) (q_lengths : Nat) (q_told : Nat) (q_behind : Nat) (x_posts : Int32) (x_pairs : Int32) (x_widths : Nat → Int32) (i1 : Int32) (r : Int32) (hf : f_X4_isMissing x_widths i1 = some r) : CI l yX4_isMissing cX4_isMissing 2 (some .boolean) 2 60 (dC, dI) (TY cI cZ cN) [.ref q_, .int i1] [(q_, .inr (4, [.int x_posts, .int x_pairs, .ref q_widths, .ref q_lengths, .ref q_told, .ref q_behind])), (q_widths, .inl (cI, 11, .inl x_widths))] [(q_, .inr (4, [.int x_posts, .int x_pairs, .ref q_widths, .ref q_lengths, .ref q_told, .ref q_behind])), (q_widths, .inl (cI, 11, .inl x_widths))] r := by
  refine CI.of rfl (by decide) (Nat.le_of_ble_eq_true rfl) ?_
  intro p e s m args below meth c Q A ls hx hb hml hown htb hK hN hA hP hD hS hl hret
  have hown : s.vm.findClass RX4 = some m.cls := hown
  have hl : lv_has ls 2 [(0, .ref q_), (1, .int i1)] := hl
  have hret : ∀ (r9 : Int32), some r9 = some r → ∀ (H : Heap) (locs : List Loc) (pc : Nat) (ls : Array Slot), narrow .boolean (.int r9) = .int r9 → decode cX4_isMissing pc = .ok (.ireturn, 1) → va_P (dC, dI) vwCl [(q_, .inr (4, [.int x_posts, .int x_pairs, .ref q_widths, .ref q_lengths, .ref q_told, .ref q_behind])), (q_widths, .inl (cI, 11, .inl x_widths))] H → va_D A [(q_, .inr (4, [.int x_posts, .int x_pairs, .ref q_widths, .ref q_lengths, .ref q_told, .ref q_behind])), (q_widths, .inl (cI, 11, .inl x_widths))] → va_S A s.heap H locs → W p l e (rmK 2 60) s m args below meth c H locs 0 0 Q (F0 m pc ls [.int r9]) := by
    intro r9 h9
    cases h9
    exact hret
  unfold f_X4_isMissing at hf
  refine lv_aload_n hx hb dX4_isMissing_0 rfl (lv_at hl 0 rfl) ?_
  refine va_get (D := (dC, dI)) (ci := 4) (v := .ref q_widths) (C := RX4) (T := TX4) (N := 6) hx hb htb inX4 hown hK hP 0 rfl rfl 2 (Nat.le_of_ble_eq_true rfl) (htb _ t_39) (fun _ h9 => h9) rfl dX4_isMissing_1 ?_
  refine lv_iload_n hx hb dX4_isMissing_4 rfl (lv_at hl 1 rfl) ?_
  obtain ⟨v1, hv, hf⟩ := ob hf
  refine k_iald hx hb hK hP 1 0 rfl rfl hv dX4_isMissing_5 ?_
  refine lv_iconst (v := (-1 : Int32)) hx hb dX4_isMissing_6 (by decide) ?_
  refine lv_icmp_ne (tgt := 14) hx hb dX4_isMissing_7 (by decide) (fun c2 => ?_) (fun c2 => ?_)
  · have hf := im c2 hf
    refine lv_iconst (v := (0 : Int32)) hx hb dX4_isMissing_14 (by decide) ?_
    exact hret _ hf _ _ _ _ rfl dX4_isMissing_15 hP hD hS
  · have hf := ip c2 hf
    refine lv_iconst (v := (1 : Int32)) hx hb dX4_isMissing_10 (by decide) ?_
    refine lv_goto (tgt := 15) hx hb dX4_isMissing_11 (by decide) ?_
    exact hret _ hf _ _ _ _ rfl dX4_isMissing_15 hP hD hS
theorem vf_X4_renewSheet : VF yX4_renewSheet cX4_renewSheet 5 none 3 := ⟨t_358, t_359, t_2, t_360, by decide +kernel, by decide +kernel, by decide +kernel⟩
theorem dX4_renewSheet_0 : decode cX4_renewSheet 0 = .ok (.aload_n 0, 1) := by decide +kernel
theorem dX4_renewSheet_1 : decode cX4_renewSheet 1 = .ok (.getfield 9, 3) := by decide +kernel
theorem dX4_renewSheet_4 : decode cX4_renewSheet 4 = .ok (.iload_n 1, 1) := by decide +kernel
theorem dX4_renewSheet_5 : decode cX4_renewSheet 5 = .ok (.iload_n 2, 1) := by decide +kernel
theorem dX4_renewSheet_6 : decode cX4_renewSheet 6 = .ok (.iastore, 1) := by decide +kernel
theorem dX4_renewSheet_7 : decode cX4_renewSheet 7 = .ok (.aload_n 0, 1) := by decide +kernel
theorem dX4_renewSheet_8 : decode cX4_renewSheet 8 = .ok (.getfield 15, 3) := by decide +kernel
theorem dX4_renewSheet_11 : decode cX4_renewSheet 11 = .ok (.iload_n 1, 1) := by decide +kernel
theorem dX4_renewSheet_12 : decode cX4_renewSheet 12 = .ok (.iload_n 3, 1) := by decide +kernel
theorem dX4_renewSheet_13 : decode cX4_renewSheet 13 = .ok (.iastore, 1) := by decide +kernel
theorem dX4_renewSheet_14 : decode cX4_renewSheet 14 = .ok (.iconst 0, 1) := by decide +kernel
theorem dX4_renewSheet_15 : decode cX4_renewSheet 15 = .ok (.istore 4, 2) := by decide +kernel
theorem dX4_renewSheet_17 : decode cX4_renewSheet 17 = .ok (.iload 4, 2) := by decide +kernel
theorem dX4_renewSheet_19 : decode cX4_renewSheet 19 = .ok (.bipush 11, 2) := by decide +kernel
theorem dX4_renewSheet_21 : decode cX4_renewSheet 21 = .ok (.if_icmp .ge 22, 3) := by decide +kernel
theorem dX4_renewSheet_24 : decode cX4_renewSheet 24 = .ok (.aload_n 0, 1) := by decide +kernel
theorem dX4_renewSheet_25 : decode cX4_renewSheet 25 = .ok (.getfield 18, 3) := by decide +kernel
theorem dX4_renewSheet_28 : decode cX4_renewSheet 28 = .ok (.iload_n 1, 1) := by decide +kernel
theorem dX4_renewSheet_29 : decode cX4_renewSheet 29 = .ok (.bipush 11, 2) := by decide +kernel
theorem dX4_renewSheet_31 : decode cX4_renewSheet 31 = .ok (.imul, 1) := by decide +kernel
theorem dX4_renewSheet_32 : decode cX4_renewSheet 32 = .ok (.iload 4, 2) := by decide +kernel
theorem dX4_renewSheet_34 : decode cX4_renewSheet 34 = .ok (.iadd, 1) := by decide +kernel
theorem dX4_renewSheet_35 : decode cX4_renewSheet 35 = .ok (.iconst 0, 1) := by decide +kernel
theorem dX4_renewSheet_36 : decode cX4_renewSheet 36 = .ok (.iastore, 1) := by decide +kernel
theorem dX4_renewSheet_37 : decode cX4_renewSheet 37 = .ok (.iinc 4 1, 3) := by decide +kernel
theorem dX4_renewSheet_40 : decode cX4_renewSheet 40 = .ok (.goto (-23), 3) := by decide +kernel
theorem dX4_renewSheet_43 : decode cX4_renewSheet 43 = .ok (.return_, 1) := by decide +kernel
noncomputable def f_X4_renewSheet_L17 (i1 : Int32) (i4 : Int32) (x_told : Nat → Int32) : Option ((Int32 × (Nat → Int32)) ⊕ ((Nat → Int32))) :=
  if (11 : Int32) ≤ i4 then (some (.inr x_told)) else ((si x_told 121 ((i1 * (11 : Int32)) + i4) (0 : Int32)).bind fun v4 =>
  some (.inl ((i4 + (1 : Int32)), v4)))
noncomputable def f_X4_renewSheet (x_widths : Nat → Int32) (x_lengths : Nat → Int32) (x_told : Nat → Int32) (i1 : Int32) (i2 : Int32) (i3 : Int32) : Option ((Nat → Int32) × (Nat → Int32) × (Nat → Int32)) :=
  (si x_widths 11 i1 i2).bind fun v1 =>
  (si x_lengths 11 i1 i3).bind fun v2 =>
  (loopS (fun (s : Int32 × (Nat → Int32)) => f_X4_renewSheet_L17 i1 s.1 s.2) ((0 : Int32), x_told)).bind fun x3 =>
  some ((v1, v2, x3))
set_option maxHeartbeats 4000000 in
set_option maxRecDepth 100000 in
theorem c_X4_renewSheet (l : Launch) (dC : Nat → ClassId) (dI : Nat → Nat → Nat) (cI cZ cN : ClassId) (q_ : Nat) (q_widths : Nat) (q_lengths : Nat) (q_told : Nat) (q_behind : Nat) (x_posts : Int32) (x_pairs : Int32) (x_widths : Nat → Int32) (x_lengths : Nat → Int32) (x_told : Nat → Int32) (i1 i2 i3 : Int32) (o_widths : Nat → Int32) (o_lengths : Nat → Int32) (o_told : Nat → Int32) (hf : f_X4_renewSheet x_widths x_lengths x_told i1 i2 i3 = some (o_widths, o_lengths, o_told)) : CV l yX4_renewSheet cX4_renewSheet 5 none 2 60 (dC, dI) (TY cI cZ cN) [.ref q_, .int i1, .int i2, .int i3] [(q_, .inr (4, [.int x_posts, .int x_pairs, .ref q_widths, .ref q_lengths, .ref q_told, .ref q_behind])), (q_widths, .inl (cI, 11, .inl x_widths)), (q_lengths, .inl (cI, 11, .inl x_lengths)), (q_told, .inl (cI, 121, .inl x_told))] [(q_, .inr (4, [.int x_posts, .int x_pairs, .ref q_widths, .ref q_lengths, .ref q_told, .ref q_behind])), (q_widths, .inl (cI, 11, .inl o_widths)), (q_lengths, .inl (cI, 11, .inl o_lengths)), (q_told, .inl (cI, 121, .inl o_told))] := by
  refine CV.of (by decide) (Nat.le_of_ble_eq_true rfl) ?_
  intro p e s m args below meth c Q A ls hx hb hml hown htb hK hN hA hP hD hS hl hret
  have hown : s.vm.findClass RX4 = some m.cls := hown
  have hl : lv_has ls 5 [(0, .ref q_), (1, .int i1), (2, .int i2), (3, .int i3)] := hl
  have hret : ∀ (o9_widths : Nat → Int32) (o9_lengths : Nat → Int32) (o9_told : Nat → Int32), some (o9_widths, o9_lengths, o9_told) = some (o_widths, o_lengths, o_told) → ∀ (H : Heap) (locs : List Loc) (pc : Nat) (ls : Array Slot), decode cX4_renewSheet pc = .ok (.return_, 1) → va_P (dC, dI) vwCl [(q_, .inr (4, [.int x_posts, .int x_pairs, .ref q_widths, .ref q_lengths, .ref q_told, .ref q_behind])), (q_widths, .inl (cI, 11, .inl o9_widths)), (q_lengths, .inl (cI, 11, .inl o9_lengths)), (q_told, .inl (cI, 121, .inl o9_told))] H → va_D A [(q_, .inr (4, [.int x_posts, .int x_pairs, .ref q_widths, .ref q_lengths, .ref q_told, .ref q_behind])), (q_widths, .inl (cI, 11, .inl o9_widths)), (q_lengths, .inl (cI, 11, .inl o9_lengths)), (q_told, .inl (cI, 121, .inl o9_told))] → va_S A s.heap H locs → W p l e (rmK 2 60) s m args below meth c H locs 0 0 Q (F0 m pc ls []) := by
    intro o9_widths o9_lengths o9_told h9
    cases h9
    exact hret
  unfold f_X4_renewSheet at hf
  refine lv_aload_n hx hb dX4_renewSheet_0 rfl (lv_at hl 0 rfl) ?_
  refine va_get (D := (dC, dI)) (ci := 4) (v := .ref q_widths) (C := RX4) (T := TX4) (N := 6) hx hb htb inX4 hown hK hP 0 rfl rfl 2 (Nat.le_of_ble_eq_true rfl) (htb _ t_39) (fun _ h9 => h9) rfl dX4_renewSheet_1 ?_
  refine lv_iload_n hx hb dX4_renewSheet_4 rfl (lv_at hl 1 rfl) ?_
  refine lv_iload_n hx hb dX4_renewSheet_5 rfl (lv_at hl 2 rfl) ?_
  obtain ⟨v1, hv, hf⟩ := ob hf
  refine k_iast (wn := [(q_, .inr (4, [.int x_posts, .int x_pairs, .ref q_widths, .ref q_lengths, .ref q_told, .ref q_behind])), (q_widths, .inl (cI, 11, .inl v1)), (q_lengths, .inl (cI, 11, .inl x_lengths)), (q_told, .inl (cI, 121, .inl x_told))]) hx hb hK hP hD hS 1 0 rfl rfl hv rfl dX4_renewSheet_6 ?_
  clear hP hD hS
  intro H locs hP hD hS
  refine lv_aload_n hx hb dX4_renewSheet_7 rfl (lv_at hl 0 rfl) ?_
  refine va_get (D := (dC, dI)) (ci := 4) (v := .ref q_lengths) (C := RX4) (T := TX4) (N := 6) hx hb htb inX4 hown hK hP 0 rfl rfl 3 (Nat.le_of_ble_eq_true rfl) (htb _ t_41) (fun _ h9 => h9) rfl dX4_renewSheet_8 ?_
  refine lv_iload_n hx hb dX4_renewSheet_11 rfl (lv_at hl 1 rfl) ?_
  refine lv_iload_n hx hb dX4_renewSheet_12 rfl (lv_at hl 3 rfl) ?_
  obtain ⟨v2, hv, hf⟩ := ob hf
  refine k_iast (wn := [(q_, .inr (4, [.int x_posts, .int x_pairs, .ref q_widths, .ref q_lengths, .ref q_told, .ref q_behind])), (q_widths, .inl (cI, 11, .inl v1)), (q_lengths, .inl (cI, 11, .inl v2)), (q_told, .inl (cI, 121, .inl x_told))]) hx hb hK hP hD hS 2 0 rfl rfl hv rfl dX4_renewSheet_13 ?_
  clear hP hD hS
  intro H locs hP hD hS
  refine lv_iconst (v := (0 : Int32)) hx hb dX4_renewSheet_14 (by decide) ?_
  refine lv_istore (lv' := [(4, .int (0 : Int32)), (0, .ref q_), (1, .int i1), (2, .int i2), (3, .int i3)]) hx hb dX4_renewSheet_15 hl (by decide) rfl (fun ls hl => ?_)
  obtain ⟨x3, hL, hf⟩ := ob hf
  have kx4 : ∀ (H : Heap) (locs : List Loc) (ls : Array Slot), va_P (dC, dI) vwCl [(q_, .inr (4, [.int x_posts, .int x_pairs, .ref q_widths, .ref q_lengths, .ref q_told, .ref q_behind])), (q_widths, .inl (cI, 11, .inl v1)), (q_lengths, .inl (cI, 11, .inl v2)), (q_told, .inl (cI, 121, .inl x3))] H → va_D A [(q_, .inr (4, [.int x_posts, .int x_pairs, .ref q_widths, .ref q_lengths, .ref q_told, .ref q_behind])), (q_widths, .inl (cI, 11, .inl v1)), (q_lengths, .inl (cI, 11, .inl v2)), (q_told, .inl (cI, 121, .inl x3))] → va_S A s.heap H locs → lv_has ls 5 [] → W p l e (rmK 2 60) s m args below meth c H locs 0 0 Q (F0 m 43 ls []) := by
    intro H locs ls hP hD hS hl
    exact hret _ _ _ hf _ _ _ _ dX4_renewSheet_43 hP hD hS
  obtain ⟨n0, hn0⟩ := loopS_iter hL
  clear hf
  have kl7 : ∀ (n : Nat) (s5 : Int32) (s6 : Nat → Int32), iterS (fun (s : Int32 × (Nat → Int32)) => f_X4_renewSheet_L17 i1 s.1 s.2) n (s5, s6) = some x3 → ∀ (H : Heap) (locs : List Loc) (ls : Array Slot), va_P (dC, dI) vwCl [(q_, .inr (4, [.int x_posts, .int x_pairs, .ref q_widths, .ref q_lengths, .ref q_told, .ref q_behind])), (q_widths, .inl (cI, 11, .inl v1)), (q_lengths, .inl (cI, 11, .inl v2)), (q_told, .inl (cI, 121, .inl s6))] H → va_D A [(q_, .inr (4, [.int x_posts, .int x_pairs, .ref q_widths, .ref q_lengths, .ref q_told, .ref q_behind])), (q_widths, .inl (cI, 11, .inl v1)), (q_lengths, .inl (cI, 11, .inl v2)), (q_told, .inl (cI, 121, .inl s6))] → va_S A s.heap H locs → lv_has ls 5 [(0, .ref q_), (1, .int i1), (4, .int s5)] → W p l e (rmK 2 60) s m args below meth c H locs 0 0 Q (F0 m 17 ls []) := by
    intro n
    induction n with
    | zero =>
      intro s5 s6 hn1
      cases hn1
    | succ n ih1 =>
      intro s5 s6 hn1 H locs ls hP hD hS hl
      obtain ⟨r8, hf, hn1⟩ := it1 hn1
      replace hf : f_X4_renewSheet_L17 i1 s5 s6 = some r8 := hf
      unfold f_X4_renewSheet_L17 at hf
      refine lv_iload hx hb dX4_renewSheet_17 (lv_at hl 2 rfl) ?_
      refine lv_bipush (v := (11 : Int32)) hx hb dX4_renewSheet_19 (by decide) ?_
      refine lv_icmp_ge (tgt := 43) hx hb dX4_renewSheet_21 (by decide) (fun c9 => ?_) (fun c9 => ?_)
      · have hf := ip c9 hf
        cases hf
        cases (itr hn1)
        exact kx4 _ _ _ hP hD hS (lv_sub hl [] rfl)
      · have hf := im c9 hf
        refine lv_aload_n hx hb dX4_renewSheet_24 rfl (lv_at hl 0 rfl) ?_
        refine va_get (D := (dC, dI)) (ci := 4) (v := .ref q_told) (C := RX4) (T := TX4) (N := 6) hx hb htb inX4 hown hK hP 0 rfl rfl 4 (Nat.le_of_ble_eq_true rfl) (htb _ t_43) (fun _ h9 => h9) rfl dX4_renewSheet_25 ?_
        refine lv_iload_n hx hb dX4_renewSheet_28 rfl (lv_at hl 1 rfl) ?_
        refine lv_bipush (v := (11 : Int32)) hx hb dX4_renewSheet_29 (by decide) ?_
        refine lv_imul hx hb dX4_renewSheet_31 ?_
        refine lv_iload hx hb dX4_renewSheet_32 (lv_at hl 2 rfl) ?_
        refine lv_iadd hx hb dX4_renewSheet_34 ?_
        refine lv_iconst (v := (0 : Int32)) hx hb dX4_renewSheet_35 (by decide) ?_
        obtain ⟨v10, hv, hf⟩ := ob hf
        refine k_iast (wn := [(q_, .inr (4, [.int x_posts, .int x_pairs, .ref q_widths, .ref q_lengths, .ref q_told, .ref q_behind])), (q_widths, .inl (cI, 11, .inl v1)), (q_lengths, .inl (cI, 11, .inl v2)), (q_told, .inl (cI, 121, .inl v10))]) hx hb hK hP hD hS 3 0 rfl rfl hv rfl dX4_renewSheet_36 ?_
        clear hP hD hS
        intro H locs hP hD hS
        refine lv_iinc (v := (s5 + (1 : Int32))) (lv' := [(4, .int (s5 + (1 : Int32))), (0, .ref q_), (1, .int i1)]) hx hb dX4_renewSheet_37 hl (k := 2) rfl rfl (by decide) rfl (fun ls hl => ?_)
        refine lv_goto (tgt := 17) hx hb dX4_renewSheet_40 (by decide) ?_
        cases hf
        exact ih1 _ _ (itl hn1) _ _ _ hP hD hS (lv_sub hl [1, 2, 0] rfl)
  exact kl7 n0 _ _ hn0 _ _ _ hP hD hS (lv_sub hl [1, 2, 0] rfl)
theorem vf_X4_sheets : VF yX4_sheets cX4_sheets 3 (some .int) 0 := ⟨t_811, t_812, t_2, t_813, by decide +kernel, by decide +kernel, by decide +kernel⟩
theorem dX4_sheets_0 : decode cX4_sheets 0 = .ok (.iconst 0, 1) := by decide +kernel
theorem dX4_sheets_1 : decode cX4_sheets 1 = .ok (.istore_n 1, 1) := by decide +kernel
theorem dX4_sheets_2 : decode cX4_sheets 2 = .ok (.iconst 0, 1) := by decide +kernel
theorem dX4_sheets_3 : decode cX4_sheets 3 = .ok (.istore_n 2, 1) := by decide +kernel
theorem dX4_sheets_4 : decode cX4_sheets 4 = .ok (.iload_n 2, 1) := by decide +kernel
theorem dX4_sheets_5 : decode cX4_sheets 5 = .ok (.aload_n 0, 1) := by decide +kernel
theorem dX4_sheets_6 : decode cX4_sheets 6 = .ok (.getfield 30, 3) := by decide +kernel
theorem dX4_sheets_9 : decode cX4_sheets 9 = .ok (.if_icmp .ge 20, 3) := by decide +kernel
theorem dX4_sheets_12 : decode cX4_sheets 12 = .ok (.aload_n 0, 1) := by decide +kernel
theorem dX4_sheets_13 : decode cX4_sheets 13 = .ok (.iload_n 2, 1) := by decide +kernel
theorem dX4_sheets_14 : decode cX4_sheets 14 = .ok (.invokevirtual 38, 3) := by decide +kernel
theorem dX4_sheets_17 : decode cX4_sheets 17 = .ok (.ifCond .ne 6, 3) := by decide +kernel
theorem dX4_sheets_20 : decode cX4_sheets 20 = .ok (.iinc 1 1, 3) := by decide +kernel
theorem dX4_sheets_23 : decode cX4_sheets 23 = .ok (.iinc 2 1, 3) := by decide +kernel
theorem dX4_sheets_26 : decode cX4_sheets 26 = .ok (.goto (-22), 3) := by decide +kernel
theorem dX4_sheets_29 : decode cX4_sheets 29 = .ok (.iload_n 1, 1) := by decide +kernel
theorem dX4_sheets_30 : decode cX4_sheets 30 = .ok (.ireturn, 1) := by decide +kernel
noncomputable def f_X4_sheets_L4 (x_posts : Int32) (x_widths : Nat → Int32) (i1 : Int32) (i2 : Int32) : Option ((Int32 × Int32) ⊕ (Int32)) :=
  if x_posts ≤ i2 then (some (.inr i1)) else ((f_X4_isMissing x_widths i2).bind fun v2 =>
  ((if v2 = 0 then (some (i1 + (1 : Int32))) else (some i1) : Option (Int32))).bind fun t3 =>
  some (.inl (t3, (i2 + (1 : Int32)))))
noncomputable def f_X4_sheets (x_posts : Int32) (x_widths : Nat → Int32) : Option (Int32) :=
  (loopS (fun (s : Int32 × Int32) => f_X4_sheets_L4 x_posts x_widths s.1 s.2) ((0 : Int32), (0 : Int32))).bind fun x1 =>
  some (x1)
set_option maxHeartbeats 4000000 in
set_option maxRecDepth 100000 in
theorem c_X4_sheets (l : Launch) (dC : Nat → ClassId) (dI : Nat → Nat → Nat) (cI cZ cN : ClassId) (q_ : Nat) (q_widths : Nat) (q_lengths : Nat) (q_told : Nat) (q_behind : Nat) (x_posts : Int32) (x_pairs : Int32) (x_widths : Nat → Int32) (r : Int32) (hf : f_X4_sheets x_posts x_widths = some r) : CI l yX4_sheets cX4_sheets 3 (some .int) 3 81 (dC, dI) (TY cI cZ cN) [.ref q_] [(q_, .inr (4, [.int x_posts, .int x_pairs, .ref q_widths, .ref q_lengths, .ref q_told, .ref q_behind])), (q_widths, .inl (cI, 11, .inl x_widths))] [(q_, .inr (4, [.int x_posts, .int x_pairs, .ref q_widths, .ref q_lengths, .ref q_told, .ref q_behind])), (q_widths, .inl (cI, 11, .inl x_widths))] r := by
  refine CI.of rfl (by decide) (Nat.le_of_ble_eq_true rfl) ?_
  intro p e s m args below meth c Q A ls hx hb hml hown htb hK hN hA hP hD hS hl hret
  have hown : s.vm.findClass RX4 = some m.cls := hown
  have hl : lv_has ls 3 [(0, .ref q_)] := hl
  have hret : ∀ (r9 : Int32), some r9 = some r → ∀ (H : Heap) (locs : List Loc) (pc : Nat) (ls : Array Slot), narrow .int (.int r9) = .int r9 → decode cX4_sheets pc = .ok (.ireturn, 1) → va_P (dC, dI) vwCl [(q_, .inr (4, [.int x_posts, .int x_pairs, .ref q_widths, .ref q_lengths, .ref q_told, .ref q_behind])), (q_widths, .inl (cI, 11, .inl x_widths))] H → va_D A [(q_, .inr (4, [.int x_posts, .int x_pairs, .ref q_widths, .ref q_lengths, .ref q_told, .ref q_behind])), (q_widths, .inl (cI, 11, .inl x_widths))] → va_S A s.heap H locs → W p l e (rmK 3 81) s m args below meth c H locs 0 0 Q (F0 m pc ls [.int r9]) := by
    intro r9 h9
    cases h9
    exact hret
  unfold f_X4_sheets at hf
  refine lv_iconst (v := (0 : Int32)) hx hb dX4_sheets_0 (by decide) ?_
  refine lv_istore_n (lv' := [(1, .int (0 : Int32)), (0, .ref q_)]) hx hb dX4_sheets_1 rfl hl (by decide) rfl (fun ls hl => ?_)
  refine lv_iconst (v := (0 : Int32)) hx hb dX4_sheets_2 (by decide) ?_
  refine lv_istore_n (lv' := [(2, .int (0 : Int32)), (1, .int (0 : Int32)), (0, .ref q_)]) hx hb dX4_sheets_3 rfl hl (by decide) rfl (fun ls hl => ?_)
  obtain ⟨x1, hL, hf⟩ := ob hf
  have kx2 : ∀ (H : Heap) (locs : List Loc) (ls : Array Slot), va_P (dC, dI) vwCl [(q_, .inr (4, [.int x_posts, .int x_pairs, .ref q_widths, .ref q_lengths, .ref q_told, .ref q_behind])), (q_widths, .inl (cI, 11, .inl x_widths))] H → va_D A [(q_, .inr (4, [.int x_posts, .int x_pairs, .ref q_widths, .ref q_lengths, .ref q_told, .ref q_behind])), (q_widths, .inl (cI, 11, .inl x_widths))] → va_S A s.heap H locs → lv_has ls 3 [(1, .int x1)] → W p l e (rmK 3 81) s m args below meth c H locs 0 0 Q (F0 m 29 ls []) := by
    intro H locs ls hP hD hS hl
    refine lv_iload_n hx hb dX4_sheets_29 rfl (lv_at hl 0 rfl) ?_
    exact hret _ hf _ _ _ _ rfl dX4_sheets_30 hP hD hS
  obtain ⟨n0, hn0⟩ := loopS_iter hL
  clear hf
  have kl5 : ∀ (n : Nat) (s3 : Int32) (s4 : Int32), iterS (fun (s : Int32 × Int32) => f_X4_sheets_L4 x_posts x_widths s.1 s.2) n (s3, s4) = some x1 → ∀ (H : Heap) (locs : List Loc) (ls : Array Slot), va_P (dC, dI) vwCl [(q_, .inr (4, [.int x_posts, .int x_pairs, .ref q_widths, .ref q_lengths, .ref q_told, .ref q_behind])), (q_widths, .inl (cI, 11, .inl x_widths))] H → va_D A [(q_, .inr (4, [.int x_posts, .int x_pairs, .ref q_widths, .ref q_lengths, .ref q_told, .ref q_behind])), (q_widths, .inl (cI, 11, .inl x_widths))] → va_S A s.heap H locs → lv_has ls 3 [(0, .ref q_), (1, .int s3), (2, .int s4)] → W p l e (rmK 3 81) s m args below meth c H locs 0 0 Q (F0 m 4 ls []) := by
    intro n
    induction n with
    | zero =>
      intro s3 s4 hn1
      cases hn1
    | succ n ih1 =>
      intro s3 s4 hn1 H locs ls hP hD hS hl
      obtain ⟨r6, hf, hn1⟩ := it1 hn1
      replace hf : f_X4_sheets_L4 x_posts x_widths s3 s4 = some r6 := hf
      unfold f_X4_sheets_L4 at hf
      refine lv_iload_n hx hb dX4_sheets_4 rfl (lv_at hl 2 rfl) ?_
      refine lv_aload_n hx hb dX4_sheets_5 rfl (lv_at hl 0 rfl) ?_
      refine va_get (D := (dC, dI)) (ci := 4) (v := .int x_posts) (C := RX4) (T := TX4) (N := 6) hx hb htb inX4 hown hK hP 0 rfl rfl 0 (Nat.le_of_ble_eq_true rfl) (htb _ t_36) (fun _ h9 => h9) rfl dX4_sheets_6 ?_
      refine lv_icmp_ge (tgt := 29) hx hb dX4_sheets_9 (by decide) (fun c7 => ?_) (fun c7 => ?_)
      · have hf := ip c7 hf
        cases hf
        cases (itr hn1)
        exact kx2 _ _ _ hP hD hS (lv_sub hl [1] rfl)
      · have hf := im c7 hf
        refine lv_aload_n hx hb dX4_sheets_12 rfl (lv_at hl 0 rfl) ?_
        refine lv_iload_n hx hb dX4_sheets_13 rfl (lv_at hl 2 rfl) ?_
        obtain ⟨v8, hv, hf⟩ := ob hf
        refine k_afterI (wr := []) (wn := [(q_, .inr (4, [.int x_posts, .int x_pairs, .ref q_widths, .ref q_lengths, .ref q_told, .ref q_behind])), (q_widths, .inl (cI, 11, .inl x_widths))]) (k_runV (rest := []) (ci := 4) (q0 := 0) hx hb hml hown htb hK hN (c_X4_isMissing l dC dI cI cZ cN q_ q_widths q_lengths q_told q_behind x_posts x_pairs x_widths s4 v8 hv _) vf_X4_isMissing t_814 hP hD [0, 1] rfl rfl rfl rfl ⟨(Nat.le_of_ble_eq_true rfl), (Nat.le_of_ble_eq_true rfl)⟩ rfl hl.1 rfl (Nat.le_of_ble_eq_true rfl) dX4_sheets_14 ⟨Nat.zero_le _, Nat.zero_le _⟩) hA hP hD hS [0, 1] [] [0, 1] rfl rfl rfl rfl ?_
        clear hP hD hS
        intro H locs hP hD hS
        obtain ⟨t9, hv, hf⟩ := ob hf
        have key10 : ∀ (H : Heap) (locs : List Loc) (ls : Array Slot), va_P (dC, dI) vwCl [(q_, .inr (4, [.int x_posts, .int x_pairs, .ref q_widths, .ref q_lengths, .ref q_told, .ref q_behind])), (q_widths, .inl (cI, 11, .inl x_widths))] H → va_D A [(q_, .inr (4, [.int x_posts, .int x_pairs, .ref q_widths, .ref q_lengths, .ref q_told, .ref q_behind])), (q_widths, .inl (cI, 11, .inl x_widths))] → va_S A s.heap H locs → lv_has ls 3 [(0, .ref q_), (1, .int t9), (2, .int s4)] → W p l e (rmK 3 81) s m args below meth c H locs 0 0 Q (F0 m 23 ls []) := by
          intro H locs ls hP hD hS hl
          refine lv_iinc (v := (s4 + (1 : Int32))) (lv' := [(2, .int (s4 + (1 : Int32))), (0, .ref q_), (1, .int t9)]) hx hb dX4_sheets_23 hl (k := 2) rfl rfl (by decide) rfl (fun ls hl => ?_)
          refine lv_goto (tgt := 4) hx hb dX4_sheets_26 (by decide) ?_
          cases hf
          exact ih1 _ _ (itl hn1) _ _ _ hP hD hS (lv_sub hl [1, 2, 0] rfl)
        replace hf := hv
        refine lv_if_ne (tgt := 23) hx hb dX4_sheets_17 (by decide) (fun c11 => ?_) (fun c11 => ?_)
        · have hf := im c11 hf
          cases hf
          exact key10 _ _ _ hP hD hS (lv_sub hl [0, 1, 2] rfl)
        · have hf := ip c11 hf
          refine lv_iinc (v := (s3 + (1 : Int32))) (lv' := [(1, .int (s3 + (1 : Int32))), (0, .ref q_), (2, .int s4)]) hx hb dX4_sheets_20 hl (k := 1) rfl rfl (by decide) rfl (fun ls hl => ?_)
          cases hf
          exact key10 _ _ _ hP hD hS (lv_sub hl [1, 0, 2] rfl)
  exact kl5 n0 _ _ hn0 _ _ _ hP hD hS (lv_sub hl [2, 1, 0] rfl)
theorem vf_X4_allBehind : VF yX4_allBehind cX4_allBehind 6 (some .int) 1 := ⟨t_391, t_392, t_2, t_393, by decide +kernel, by decide +kernel, by decide +kernel⟩
theorem dX4_allBehind_0 : decode cX4_allBehind 0 = .ok (.aload_n 0, 1) := by decide +kernel
theorem dX4_allBehind_1 : decode cX4_allBehind 1 = .ok (.getfield 21, 3) := by decide +kernel
theorem dX4_allBehind_4 : decode cX4_allBehind 4 = .ok (.iload_n 1, 1) := by decide +kernel
theorem dX4_allBehind_5 : decode cX4_allBehind 5 = .ok (.iaload, 1) := by decide +kernel
theorem dX4_allBehind_6 : decode cX4_allBehind 6 = .ok (.istore_n 2, 1) := by decide +kernel
theorem dX4_allBehind_7 : decode cX4_allBehind 7 = .ok (.iconst 0, 1) := by decide +kernel
theorem dX4_allBehind_8 : decode cX4_allBehind 8 = .ok (.istore_n 3, 1) := by decide +kernel
theorem dX4_allBehind_9 : decode cX4_allBehind 9 = .ok (.iload_n 3, 1) := by decide +kernel
theorem dX4_allBehind_10 : decode cX4_allBehind 10 = .ok (.aload_n 0, 1) := by decide +kernel
theorem dX4_allBehind_11 : decode cX4_allBehind 11 = .ok (.getfield 30, 3) := by decide +kernel
theorem dX4_allBehind_14 : decode cX4_allBehind 14 = .ok (.if_icmp .ge 63, 3) := by decide +kernel
theorem dX4_allBehind_17 : decode cX4_allBehind 17 = .ok (.iload_n 2, 1) := by decide +kernel
theorem dX4_allBehind_18 : decode cX4_allBehind 18 = .ok (.istore 4, 2) := by decide +kernel
theorem dX4_allBehind_20 : decode cX4_allBehind 20 = .ok (.iconst 0, 1) := by decide +kernel
theorem dX4_allBehind_21 : decode cX4_allBehind 21 = .ok (.istore 5, 2) := by decide +kernel
theorem dX4_allBehind_23 : decode cX4_allBehind 23 = .ok (.iload 5, 2) := by decide +kernel
theorem dX4_allBehind_25 : decode cX4_allBehind 25 = .ok (.aload_n 0, 1) := by decide +kernel
theorem dX4_allBehind_26 : decode cX4_allBehind 26 = .ok (.getfield 30, 3) := by decide +kernel
theorem dX4_allBehind_29 : decode cX4_allBehind 29 = .ok (.if_icmp .ge 30, 3) := by decide +kernel
theorem dX4_allBehind_32 : decode cX4_allBehind 32 = .ok (.iload_n 2, 1) := by decide +kernel
theorem dX4_allBehind_33 : decode cX4_allBehind 33 = .ok (.iload 5, 2) := by decide +kernel
theorem dX4_allBehind_35 : decode cX4_allBehind 35 = .ok (.invokestatic 41, 3) := by decide +kernel
theorem dX4_allBehind_38 : decode cX4_allBehind 38 = .ok (.ifCond .eq 15, 3) := by decide +kernel
theorem dX4_allBehind_41 : decode cX4_allBehind 41 = .ok (.iload 4, 2) := by decide +kernel
theorem dX4_allBehind_43 : decode cX4_allBehind 43 = .ok (.aload_n 0, 1) := by decide +kernel
theorem dX4_allBehind_44 : decode cX4_allBehind 44 = .ok (.getfield 21, 3) := by decide +kernel
theorem dX4_allBehind_47 : decode cX4_allBehind 47 = .ok (.iload 5, 2) := by decide +kernel
theorem dX4_allBehind_49 : decode cX4_allBehind 49 = .ok (.iaload, 1) := by decide +kernel
theorem dX4_allBehind_50 : decode cX4_allBehind 50 = .ok (.ior, 1) := by decide +kernel
theorem dX4_allBehind_51 : decode cX4_allBehind 51 = .ok (.istore 4, 2) := by decide +kernel
theorem dX4_allBehind_53 : decode cX4_allBehind 53 = .ok (.iinc 5 1, 3) := by decide +kernel
theorem dX4_allBehind_56 : decode cX4_allBehind 56 = .ok (.goto (-33), 3) := by decide +kernel
theorem dX4_allBehind_59 : decode cX4_allBehind 59 = .ok (.iload 4, 2) := by decide +kernel
theorem dX4_allBehind_61 : decode cX4_allBehind 61 = .ok (.iload_n 2, 1) := by decide +kernel
theorem dX4_allBehind_62 : decode cX4_allBehind 62 = .ok (.if_icmp .ne 6, 3) := by decide +kernel
theorem dX4_allBehind_65 : decode cX4_allBehind 65 = .ok (.goto 12, 3) := by decide +kernel
theorem dX4_allBehind_68 : decode cX4_allBehind 68 = .ok (.iload 4, 2) := by decide +kernel
theorem dX4_allBehind_70 : decode cX4_allBehind 70 = .ok (.istore_n 2, 1) := by decide +kernel
theorem dX4_allBehind_71 : decode cX4_allBehind 71 = .ok (.iinc 3 1, 3) := by decide +kernel
theorem dX4_allBehind_74 : decode cX4_allBehind 74 = .ok (.goto (-65), 3) := by decide +kernel
theorem dX4_allBehind_77 : decode cX4_allBehind 77 = .ok (.iload_n 2, 1) := by decide +kernel
theorem dX4_allBehind_78 : decode cX4_allBehind 78 = .ok (.ireturn, 1) := by decide +kernel
noncomputable def f_X4_allBehind_L23 (i2 : Int32) (x_posts : Int32) (x_behind : Nat → Int32) (i4 : Int32) (i5 : Int32) : Option ((Int32 × Int32) ⊕ (Int32)) :=
  if x_posts ≤ i5 then (some (.inr i4)) else ((f_X10_holds i2 i5).bind fun v4 =>
  ((if v4 = 0 then (some i4) else ((gi x_behind 11 i5).bind fun v8 =>
  some (i4 ||| v8)) : Option (Int32))).bind fun t5 =>
  some (.inl (t5, (i5 + (1 : Int32)))))
noncomputable def f_X4_allBehind_L9 (x_posts : Int32) (x_behind : Nat → Int32) (i2 : Int32) (i3 : Int32) : Option ((Int32 × Int32) ⊕ (Int32)) :=
  if x_posts ≤ i3 then (some (.inr (i2))) else ((loopS (fun (s : Int32 × Int32) => f_X4_allBehind_L23 i2 x_posts x_behind s.1 s.2) (i2, (0 : Int32))).bind fun x3 =>
  if x3 = i2 then (some (.inr (i2))) else (some (.inl (x3, (i3 + (1 : Int32))))))
noncomputable def f_X4_allBehind (x_posts : Int32) (x_behind : Nat → Int32) (i1 : Int32) : Option (Int32) :=
  (gi x_behind 11 i1).bind fun v1 =>
  loopS (fun (s : Int32 × Int32) => f_X4_allBehind_L9 x_posts x_behind s.1 s.2) (v1, (0 : Int32))
set_option maxHeartbeats 4000000 in
set_option maxRecDepth 100000 in
theorem c_X4_allBehind (l : Launch) (dC : Nat → ClassId) (dI : Nat → Nat → Nat) (cI cZ cN : ClassId) (q_ : Nat) (q_widths : Nat) (q_lengths : Nat) (q_told : Nat) (q_behind : Nat) (x_posts : Int32) (x_pairs : Int32) (x_behind : Nat → Int32) (i1 : Int32) (r : Int32) (hf : f_X4_allBehind x_posts x_behind i1 = some r) : CI l yX4_allBehind cX4_allBehind 6 (some .int) 3 81 (dC, dI) (TY cI cZ cN) [.ref q_, .int i1] [(q_, .inr (4, [.int x_posts, .int x_pairs, .ref q_widths, .ref q_lengths, .ref q_told, .ref q_behind])), (q_behind, .inl (cI, 11, .inl x_behind))] [(q_, .inr (4, [.int x_posts, .int x_pairs, .ref q_widths, .ref q_lengths, .ref q_told, .ref q_behind])), (q_behind, .inl (cI, 11, .inl x_behind))] r := by
  refine CI.of rfl (by decide) (Nat.le_of_ble_eq_true rfl) ?_
  intro p e s m args below meth c Q A ls hx hb hml hown htb hK hN hA hP hD hS hl hret
  have hown : s.vm.findClass RX4 = some m.cls := hown
  have hl : lv_has ls 6 [(0, .ref q_), (1, .int i1)] := hl
  have hret : ∀ (r9 : Int32), some r9 = some r → ∀ (H : Heap) (locs : List Loc) (pc : Nat) (ls : Array Slot), narrow .int (.int r9) = .int r9 → decode cX4_allBehind pc = .ok (.ireturn, 1) → va_P (dC, dI) vwCl [(q_, .inr (4, [.int x_posts, .int x_pairs, .ref q_widths, .ref q_lengths, .ref q_told, .ref q_behind])), (q_behind, .inl (cI, 11, .inl x_behind))] H → va_D A [(q_, .inr (4, [.int x_posts, .int x_pairs, .ref q_widths, .ref q_lengths, .ref q_told, .ref q_behind])), (q_behind, .inl (cI, 11, .inl x_behind))] → va_S A s.heap H locs → W p l e (rmK 3 81) s m args below meth c H locs 0 0 Q (F0 m pc ls [.int r9]) := by
    intro r9 h9
    cases h9
    exact hret
  unfold f_X4_allBehind at hf
  refine lv_aload_n hx hb dX4_allBehind_0 rfl (lv_at hl 0 rfl) ?_
  refine va_get (D := (dC, dI)) (ci := 4) (v := .ref q_behind) (C := RX4) (T := TX4) (N := 6) hx hb htb inX4 hown hK hP 0 rfl rfl 5 (Nat.le_of_ble_eq_true rfl) (htb _ t_46) (fun _ h9 => h9) rfl dX4_allBehind_1 ?_
  refine lv_iload_n hx hb dX4_allBehind_4 rfl (lv_at hl 1 rfl) ?_
  obtain ⟨v1, hv, hf⟩ := ob hf
  refine k_iald hx hb hK hP 1 0 rfl rfl hv dX4_allBehind_5 ?_
  refine lv_istore_n (lv' := [(2, .int v1), (0, .ref q_), (1, .int i1)]) hx hb dX4_allBehind_6 rfl hl (by decide) rfl (fun ls hl => ?_)
  refine lv_iconst (v := (0 : Int32)) hx hb dX4_allBehind_7 (by decide) ?_
  refine lv_istore_n (lv' := [(3, .int (0 : Int32)), (2, .int v1), (0, .ref q_), (1, .int i1)]) hx hb dX4_allBehind_8 rfl hl (by decide) rfl (fun ls hl => ?_)
  obtain ⟨n0, hn0⟩ := loopS_iter hf
  clear hf
  have kl4 : ∀ (n : Nat) (s2 : Int32) (s3 : Int32), iterS (fun (s : Int32 × Int32) => f_X4_allBehind_L9 x_posts x_behind s.1 s.2) n (s2, s3) = some r → ∀ (H : Heap) (locs : List Loc) (ls : Array Slot), va_P (dC, dI) vwCl [(q_, .inr (4, [.int x_posts, .int x_pairs, .ref q_widths, .ref q_lengths, .ref q_told, .ref q_behind])), (q_behind, .inl (cI, 11, .inl x_behind))] H → va_D A [(q_, .inr (4, [.int x_posts, .int x_pairs, .ref q_widths, .ref q_lengths, .ref q_told, .ref q_behind])), (q_behind, .inl (cI, 11, .inl x_behind))] → va_S A s.heap H locs → lv_has ls 6 [(0, .ref q_), (2, .int s2), (3, .int s3)] → W p l e (rmK 3 81) s m args below meth c H locs 0 0 Q (F0 m 9 ls []) := by
    intro n
    induction n with
    | zero =>
      intro s2 s3 hn1
      cases hn1
    | succ n ih1 =>
      intro s2 s3 hn1 H locs ls hP hD hS hl
      obtain ⟨r5, hf, hn1⟩ := it1 hn1
      replace hf : f_X4_allBehind_L9 x_posts x_behind s2 s3 = some r5 := hf
      unfold f_X4_allBehind_L9 at hf
      refine lv_iload_n hx hb dX4_allBehind_9 rfl (lv_at hl 2 rfl) ?_
      refine lv_aload_n hx hb dX4_allBehind_10 rfl (lv_at hl 0 rfl) ?_
      refine va_get (D := (dC, dI)) (ci := 4) (v := .int x_posts) (C := RX4) (T := TX4) (N := 6) hx hb htb inX4 hown hK hP 0 rfl rfl 0 (Nat.le_of_ble_eq_true rfl) (htb _ t_36) (fun _ h9 => h9) rfl dX4_allBehind_11 ?_
      refine lv_icmp_ge (tgt := 77) hx hb dX4_allBehind_14 (by decide) (fun c6 => ?_) (fun c6 => ?_)
      · have hf := ip c6 hf
        refine lv_iload_n hx hb dX4_allBehind_77 rfl (lv_at hl 1 rfl) ?_
        cases hf
        have hf := congrArg some (itr hn1)
        exact hret _ hf _ _ _ _ rfl dX4_allBehind_78 hP hD hS
      · have hf := im c6 hf
        refine lv_iload_n hx hb dX4_allBehind_17 rfl (lv_at hl 1 rfl) ?_
        refine lv_istore (lv' := [(4, .int s2), (0, .ref q_), (2, .int s2), (3, .int s3)]) hx hb dX4_allBehind_18 hl (by decide) rfl (fun ls hl => ?_)
        refine lv_iconst (v := (0 : Int32)) hx hb dX4_allBehind_20 (by decide) ?_
        refine lv_istore (lv' := [(5, .int (0 : Int32)), (4, .int s2), (0, .ref q_), (2, .int s2), (3, .int s3)]) hx hb dX4_allBehind_21 hl (by decide) rfl (fun ls hl => ?_)
        obtain ⟨x7, hL, hf⟩ := ob hf
        have kx8 : ∀ (H : Heap) (locs : List Loc) (ls : Array Slot), va_P (dC, dI) vwCl [(q_, .inr (4, [.int x_posts, .int x_pairs, .ref q_widths, .ref q_lengths, .ref q_told, .ref q_behind])), (q_behind, .inl (cI, 11, .inl x_behind))] H → va_D A [(q_, .inr (4, [.int x_posts, .int x_pairs, .ref q_widths, .ref q_lengths, .ref q_told, .ref q_behind])), (q_behind, .inl (cI, 11, .inl x_behind))] → va_S A s.heap H locs → lv_has ls 6 [(0, .ref q_), (2, .int s2), (3, .int s3), (4, .int x7)] → W p l e (rmK 3 81) s m args below meth c H locs 0 0 Q (F0 m 59 ls []) := by
          intro H locs ls hP hD hS hl
          refine lv_iload hx hb dX4_allBehind_59 (lv_at hl 3 rfl) ?_
          refine lv_iload_n hx hb dX4_allBehind_61 rfl (lv_at hl 1 rfl) ?_
          refine lv_icmp_ne (tgt := 68) hx hb dX4_allBehind_62 (by decide) (fun c9 => ?_) (fun c9 => ?_)
          · have hf := im c9 hf
            refine lv_iload hx hb dX4_allBehind_68 (lv_at hl 3 rfl) ?_
            refine lv_istore_n (lv' := [(2, .int x7), (0, .ref q_), (3, .int s3), (4, .int x7)]) hx hb dX4_allBehind_70 rfl hl (by decide) rfl (fun ls hl => ?_)
            refine lv_iinc (v := (s3 + (1 : Int32))) (lv' := [(3, .int (s3 + (1 : Int32))), (2, .int x7), (0, .ref q_), (4, .int x7)]) hx hb dX4_allBehind_71 hl (k := 2) rfl rfl (by decide) rfl (fun ls hl => ?_)
            refine lv_goto (tgt := 9) hx hb dX4_allBehind_74 (by decide) ?_
            cases hf
            exact ih1 _ _ (itl hn1) _ _ _ hP hD hS (lv_sub hl [2, 1, 0] rfl)
          · have hf := ip c9 hf
            refine lv_goto (tgt := 77) hx hb dX4_allBehind_65 (by decide) ?_
            refine lv_iload_n hx hb dX4_allBehind_77 rfl (lv_at hl 1 rfl) ?_
            cases hf
            have hf := congrArg some (itr hn1)
            exact hret _ hf _ _ _ _ rfl dX4_allBehind_78 hP hD hS
        obtain ⟨n0, hn0⟩ := loopS_iter hL
        clear hf
        have kl12 : ∀ (n : Nat) (s10 : Int32) (s11 : Int32), iterS (fun (s : Int32 × Int32) => f_X4_allBehind_L23 s2 x_posts x_behind s.1 s.2) n (s10, s11) = some x7 → ∀ (H : Heap) (locs : List Loc) (ls : Array Slot), va_P (dC, dI) vwCl [(q_, .inr (4, [.int x_posts, .int x_pairs, .ref q_widths, .ref q_lengths, .ref q_told, .ref q_behind])), (q_behind, .inl (cI, 11, .inl x_behind))] H → va_D A [(q_, .inr (4, [.int x_posts, .int x_pairs, .ref q_widths, .ref q_lengths, .ref q_told, .ref q_behind])), (q_behind, .inl (cI, 11, .inl x_behind))] → va_S A s.heap H locs → lv_has ls 6 [(0, .ref q_), (2, .int s2), (3, .int s3), (4, .int s10), (5, .int s11)] → W p l e (rmK 3 81) s m args below meth c H locs 0 0 Q (F0 m 23 ls []) := by
          intro n
          induction n with
          | zero =>
            intro s10 s11 hn2
            cases hn2
          | succ n ih2 =>
            intro s10 s11 hn2 H locs ls hP hD hS hl
            obtain ⟨r13, hf, hn2⟩ := it1 hn2
            replace hf : f_X4_allBehind_L23 s2 x_posts x_behind s10 s11 = some r13 := hf
            unfold f_X4_allBehind_L23 at hf
            refine lv_iload hx hb dX4_allBehind_23 (lv_at hl 4 rfl) ?_
            refine lv_aload_n hx hb dX4_allBehind_25 rfl (lv_at hl 0 rfl) ?_
            refine va_get (D := (dC, dI)) (ci := 4) (v := .int x_posts) (C := RX4) (T := TX4) (N := 6) hx hb htb inX4 hown hK hP 0 rfl rfl 0 (Nat.le_of_ble_eq_true rfl) (htb _ t_36) (fun _ h9 => h9) rfl dX4_allBehind_26 ?_
            refine lv_icmp_ge (tgt := 59) hx hb dX4_allBehind_29 (by decide) (fun c14 => ?_) (fun c14 => ?_)
            · have hf := ip c14 hf
              cases hf
              cases (itr hn2)
              exact kx8 _ _ _ hP hD hS (lv_sub hl [0, 1, 2, 3] rfl)
            · have hf := im c14 hf
              refine lv_iload_n hx hb dX4_allBehind_32 rfl (lv_at hl 1 rfl) ?_
              refine lv_iload hx hb dX4_allBehind_33 (lv_at hl 4 rfl) ?_
              obtain ⟨v15, hv, hf⟩ := ob hf
              refine k_afterI (wr := [(q_, .inr (4, [.int x_posts, .int x_pairs, .ref q_widths, .ref q_lengths, .ref q_told, .ref q_behind])), (q_behind, .inl (cI, 11, .inl x_behind))]) (wn := [(q_, .inr (4, [.int x_posts, .int x_pairs, .ref q_widths, .ref q_lengths, .ref q_told, .ref q_behind])), (q_behind, .inl (cI, 11, .inl x_behind))]) (k_runSN (rest := []) (host := "NarrowRows") hx hb hml hown htb hK hN (c_X10_holds l dC dI cI cZ cN s2 s11 v15 hv _) sf_X10_holds nm_6 hP hD [] rfl rfl ⟨(Nat.le_of_ble_eq_true rfl), (Nat.le_of_ble_eq_true rfl)⟩ rfl hl.1 rfl (Nat.le_of_ble_eq_true rfl) dX4_allBehind_35 ⟨Nat.zero_le _, Nat.zero_le _⟩) hA hP hD hS [] [0, 1] [0, 1] rfl rfl rfl rfl ?_
              clear hP hD hS
              intro H locs hP hD hS
              obtain ⟨t16, hv, hf⟩ := ob hf
              have key17 : ∀ (H : Heap) (locs : List Loc) (ls : Array Slot), va_P (dC, dI) vwCl [(q_, .inr (4, [.int x_posts, .int x_pairs, .ref q_widths, .ref q_lengths, .ref q_told, .ref q_behind])), (q_behind, .inl (cI, 11, .inl x_behind))] H → va_D A [(q_, .inr (4, [.int x_posts, .int x_pairs, .ref q_widths, .ref q_lengths, .ref q_told, .ref q_behind])), (q_behind, .inl (cI, 11, .inl x_behind))] → va_S A s.heap H locs → lv_has ls 6 [(0, .ref q_), (2, .int s2), (3, .int s3), (4, .int t16), (5, .int s11)] → W p l e (rmK 3 81) s m args below meth c H locs 0 0 Q (F0 m 53 ls []) := by
                intro H locs ls hP hD hS hl
                refine lv_iinc (v := (s11 + (1 : Int32))) (lv' := [(5, .int (s11 + (1 : Int32))), (0, .ref q_), (2, .int s2), (3, .int s3), (4, .int t16)]) hx hb dX4_allBehind_53 hl (k := 4) rfl rfl (by decide) rfl (fun ls hl => ?_)
                refine lv_goto (tgt := 23) hx hb dX4_allBehind_56 (by decide) ?_
                cases hf
                exact ih2 _ _ (itl hn2) _ _ _ hP hD hS (lv_sub hl [1, 2, 3, 4, 0] rfl)
              replace hf := hv
              refine lv_if_eq (tgt := 53) hx hb dX4_allBehind_38 (by decide) (fun c18 => ?_) (fun c18 => ?_)
              · have hf := ip c18 hf
                cases hf
                exact key17 _ _ _ hP hD hS (lv_sub hl [0, 1, 2, 3, 4] rfl)
              · have hf := im c18 hf
                refine lv_iload hx hb dX4_allBehind_41 (lv_at hl 3 rfl) ?_
                refine lv_aload_n hx hb dX4_allBehind_43 rfl (lv_at hl 0 rfl) ?_
                refine va_get (D := (dC, dI)) (ci := 4) (v := .ref q_behind) (C := RX4) (T := TX4) (N := 6) hx hb htb inX4 hown hK hP 0 rfl rfl 5 (Nat.le_of_ble_eq_true rfl) (htb _ t_46) (fun _ h9 => h9) rfl dX4_allBehind_44 ?_
                refine lv_iload hx hb dX4_allBehind_47 (lv_at hl 4 rfl) ?_
                obtain ⟨v19, hv, hf⟩ := ob hf
                refine k_iald hx hb hK hP 1 0 rfl rfl hv dX4_allBehind_49 ?_
                refine lv_ior hx hb dX4_allBehind_50 ?_
                refine lv_istore (lv' := [(4, .int (s10 ||| v19)), (0, .ref q_), (2, .int s2), (3, .int s3), (5, .int s11)]) hx hb dX4_allBehind_51 hl (by decide) rfl (fun ls hl => ?_)
                cases hf
                exact key17 _ _ _ hP hD hS (lv_sub hl [1, 2, 3, 0, 4] rfl)
        exact kl12 n0 _ _ hn0 _ _ _ hP hD hS (lv_sub hl [2, 3, 4, 1, 0] rfl)
  exact kl4 n0 _ _ hn0 _ _ _ hP hD hS (lv_sub hl [2, 1, 0] rfl)
theorem vf_X4_takeFrom : VF yX4_takeFrom cX4_takeFrom 2 none 1 := ⟨t_318, t_319, t_2, t_320, by decide +kernel, by decide +kernel, by decide +kernel⟩
theorem dX4_takeFrom_0 : decode cX4_takeFrom 0 = .ok (.aload_n 0, 1) := by decide +kernel
theorem dX4_takeFrom_1 : decode cX4_takeFrom 1 = .ok (.aload_n 1, 1) := by decide +kernel
theorem dX4_takeFrom_2 : decode cX4_takeFrom 2 = .ok (.getfield 30, 3) := by decide +kernel
theorem dX4_takeFrom_5 : decode cX4_takeFrom 5 = .ok (.putfield 30, 3) := by decide +kernel
theorem dX4_takeFrom_8 : decode cX4_takeFrom 8 = .ok (.aload_n 0, 1) := by decide +kernel
theorem dX4_takeFrom_9 : decode cX4_takeFrom 9 = .ok (.aload_n 1, 1) := by decide +kernel
theorem dX4_takeFrom_10 : decode cX4_takeFrom 10 = .ok (.getfield 45, 3) := by decide +kernel
theorem dX4_takeFrom_13 : decode cX4_takeFrom 13 = .ok (.putfield 45, 3) := by decide +kernel
theorem dX4_takeFrom_16 : decode cX4_takeFrom 16 = .ok (.aload_n 1, 1) := by decide +kernel
theorem dX4_takeFrom_17 : decode cX4_takeFrom 17 = .ok (.getfield 9, 3) := by decide +kernel
theorem dX4_takeFrom_20 : decode cX4_takeFrom 20 = .ok (.iconst 0, 1) := by decide +kernel
theorem dX4_takeFrom_21 : decode cX4_takeFrom 21 = .ok (.aload_n 0, 1) := by decide +kernel
theorem dX4_takeFrom_22 : decode cX4_takeFrom 22 = .ok (.getfield 9, 3) := by decide +kernel
theorem dX4_takeFrom_25 : decode cX4_takeFrom 25 = .ok (.iconst 0, 1) := by decide +kernel
theorem dX4_takeFrom_26 : decode cX4_takeFrom 26 = .ok (.bipush 11, 2) := by decide +kernel
theorem dX4_takeFrom_28 : decode cX4_takeFrom 28 = .ok (.invokestatic 48, 3) := by decide +kernel
theorem dX4_takeFrom_31 : decode cX4_takeFrom 31 = .ok (.aload_n 1, 1) := by decide +kernel
theorem dX4_takeFrom_32 : decode cX4_takeFrom 32 = .ok (.getfield 15, 3) := by decide +kernel
theorem dX4_takeFrom_35 : decode cX4_takeFrom 35 = .ok (.iconst 0, 1) := by decide +kernel
theorem dX4_takeFrom_36 : decode cX4_takeFrom 36 = .ok (.aload_n 0, 1) := by decide +kernel
theorem dX4_takeFrom_37 : decode cX4_takeFrom 37 = .ok (.getfield 15, 3) := by decide +kernel
theorem dX4_takeFrom_40 : decode cX4_takeFrom 40 = .ok (.iconst 0, 1) := by decide +kernel
theorem dX4_takeFrom_41 : decode cX4_takeFrom 41 = .ok (.bipush 11, 2) := by decide +kernel
theorem dX4_takeFrom_43 : decode cX4_takeFrom 43 = .ok (.invokestatic 48, 3) := by decide +kernel
theorem dX4_takeFrom_46 : decode cX4_takeFrom 46 = .ok (.aload_n 1, 1) := by decide +kernel
theorem dX4_takeFrom_47 : decode cX4_takeFrom 47 = .ok (.getfield 18, 3) := by decide +kernel
theorem dX4_takeFrom_50 : decode cX4_takeFrom 50 = .ok (.iconst 0, 1) := by decide +kernel
theorem dX4_takeFrom_51 : decode cX4_takeFrom 51 = .ok (.aload_n 0, 1) := by decide +kernel
theorem dX4_takeFrom_52 : decode cX4_takeFrom 52 = .ok (.getfield 18, 3) := by decide +kernel
theorem dX4_takeFrom_55 : decode cX4_takeFrom 55 = .ok (.iconst 0, 1) := by decide +kernel
theorem dX4_takeFrom_56 : decode cX4_takeFrom 56 = .ok (.bipush 121, 2) := by decide +kernel
theorem dX4_takeFrom_58 : decode cX4_takeFrom 58 = .ok (.invokestatic 48, 3) := by decide +kernel
theorem dX4_takeFrom_61 : decode cX4_takeFrom 61 = .ok (.aload_n 1, 1) := by decide +kernel
theorem dX4_takeFrom_62 : decode cX4_takeFrom 62 = .ok (.getfield 21, 3) := by decide +kernel
theorem dX4_takeFrom_65 : decode cX4_takeFrom 65 = .ok (.iconst 0, 1) := by decide +kernel
theorem dX4_takeFrom_66 : decode cX4_takeFrom 66 = .ok (.aload_n 0, 1) := by decide +kernel
theorem dX4_takeFrom_67 : decode cX4_takeFrom 67 = .ok (.getfield 21, 3) := by decide +kernel
theorem dX4_takeFrom_70 : decode cX4_takeFrom 70 = .ok (.iconst 0, 1) := by decide +kernel
theorem dX4_takeFrom_71 : decode cX4_takeFrom 71 = .ok (.bipush 11, 2) := by decide +kernel
theorem dX4_takeFrom_73 : decode cX4_takeFrom 73 = .ok (.invokestatic 48, 3) := by decide +kernel
theorem dX4_takeFrom_76 : decode cX4_takeFrom 76 = .ok (.return_, 1) := by decide +kernel
noncomputable def f_X4_takeFrom (x_posts : Int32) (x_pairs : Int32) (x_widths : Nat → Int32) (x_lengths : Nat → Int32) (x_told : Nat → Int32) (x_behind : Nat → Int32) (x_p1_posts : Int32) (x_p1_pairs : Int32) (x_p1_widths : Nat → Int32) (x_p1_lengths : Nat → Int32) (x_p1_told : Nat → Int32) (x_p1_behind : Nat → Int32) : Option (Int32 × Int32 × (Nat → Int32) × (Nat → Int32) × (Nat → Int32) × (Nat → Int32)) :=
  (cp x_p1_widths 11 x_widths 11 (0 : Int32) (0 : Int32) (11 : Int32)).bind fun v1 =>
  (cp x_p1_lengths 11 x_lengths 11 (0 : Int32) (0 : Int32) (11 : Int32)).bind fun v2 =>
  (cp x_p1_told 121 x_told 121 (0 : Int32) (0 : Int32) (121 : Int32)).bind fun v3 =>
  (cp x_p1_behind 11 x_behind 11 (0 : Int32) (0 : Int32) (11 : Int32)).bind fun v4 =>
  some ((x_p1_posts, x_p1_pairs, v1, v2, v3, v4))
set_option maxHeartbeats 4000000 in
set_option maxRecDepth 100000 in
theorem c_X4_takeFrom (l : Launch) (dC : Nat → ClassId) (dI : Nat → Nat → Nat) (cI cZ cN : ClassId) (q_ : Nat) (q_widths : Nat) (q_lengths : Nat) (q_told : Nat) (q_behind : Nat) (q_p1 : Nat) (q_p1_widths : Nat) (q_p1_lengths : Nat) (q_p1_told : Nat) (q_p1_behind : Nat) (x_posts : Int32) (x_pairs : Int32) (x_widths : Nat → Int32) (x_lengths : Nat → Int32) (x_told : Nat → Int32) (x_behind : Nat → Int32) (x_p1_posts : Int32) (x_p1_pairs : Int32) (x_p1_widths : Nat → Int32) (x_p1_lengths : Nat → Int32) (x_p1_told : Nat → Int32) (x_p1_behind : Nat → Int32) (o_posts : Int32) (o_pairs : Int32) (o_widths : Nat → Int32) (o_lengths : Nat → Int32) (o_told : Nat → Int32) (o_behind : Nat → Int32) (hf : f_X4_takeFrom x_posts x_pairs x_widths x_lengths x_told x_behind x_p1_posts x_p1_pairs x_p1_widths x_p1_lengths x_p1_told x_p1_behind = some (o_posts, o_pairs, o_widths, o_lengths, o_told, o_behind)) : CV l yX4_takeFrom cX4_takeFrom 2 none 2 60 (dC, dI) (TY cI cZ cN) [.ref q_, .ref q_p1] [(q_, .inr (4, [.int x_posts, .int x_pairs, .ref q_widths, .ref q_lengths, .ref q_told, .ref q_behind])), (q_widths, .inl (cI, 11, .inl x_widths)), (q_lengths, .inl (cI, 11, .inl x_lengths)), (q_told, .inl (cI, 121, .inl x_told)), (q_behind, .inl (cI, 11, .inl x_behind)), (q_p1, .inr (4, [.int x_p1_posts, .int x_p1_pairs, .ref q_p1_widths, .ref q_p1_lengths, .ref q_p1_told, .ref q_p1_behind])), (q_p1_widths, .inl (cI, 11, .inl x_p1_widths)), (q_p1_lengths, .inl (cI, 11, .inl x_p1_lengths)), (q_p1_told, .inl (cI, 121, .inl x_p1_told)), (q_p1_behind, .inl (cI, 11, .inl x_p1_behind))] [(q_, .inr (4, [.int o_posts, .int o_pairs, .ref q_widths, .ref q_lengths, .ref q_told, .ref q_behind])), (q_widths, .inl (cI, 11, .inl o_widths)), (q_lengths, .inl (cI, 11, .inl o_lengths)), (q_told, .inl (cI, 121, .inl o_told)), (q_behind, .inl (cI, 11, .inl o_behind)), (q_p1, .inr (4, [.int x_p1_posts, .int x_p1_pairs, .ref q_p1_widths, .ref q_p1_lengths, .ref q_p1_told, .ref q_p1_behind])), (q_p1_widths, .inl (cI, 11, .inl x_p1_widths)), (q_p1_lengths, .inl (cI, 11, .inl x_p1_lengths)), (q_p1_told, .inl (cI, 121, .inl x_p1_told)), (q_p1_behind, .inl (cI, 11, .inl x_p1_behind))] := by
  refine CV.of (by decide) (Nat.le_of_ble_eq_true rfl) ?_
  intro p e s m args below meth c Q A ls hx hb hml hown htb hK hN hA hP hD hS hl hret
  have hown : s.vm.findClass RX4 = some m.cls := hown
  have hl : lv_has ls 2 [(0, .ref q_), (1, .ref q_p1)] := hl
  have hret : ∀ (o9_posts : Int32) (o9_pairs : Int32) (o9_widths : Nat → Int32) (o9_lengths : Nat → Int32) (o9_told : Nat → Int32) (o9_behind : Nat → Int32), some (o9_posts, o9_pairs, o9_widths, o9_lengths, o9_told, o9_behind) = some (o_posts, o_pairs, o_widths, o_lengths, o_told, o_behind) → ∀ (H : Heap) (locs : List Loc) (pc : Nat) (ls : Array Slot), decode cX4_takeFrom pc = .ok (.return_, 1) → va_P (dC, dI) vwCl [(q_, .inr (4, [.int o9_posts, .int o9_pairs, .ref q_widths, .ref q_lengths, .ref q_told, .ref q_behind])), (q_widths, .inl (cI, 11, .inl o9_widths)), (q_lengths, .inl (cI, 11, .inl o9_lengths)), (q_told, .inl (cI, 121, .inl o9_told)), (q_behind, .inl (cI, 11, .inl o9_behind)), (q_p1, .inr (4, [.int x_p1_posts, .int x_p1_pairs, .ref q_p1_widths, .ref q_p1_lengths, .ref q_p1_told, .ref q_p1_behind])), (q_p1_widths, .inl (cI, 11, .inl x_p1_widths)), (q_p1_lengths, .inl (cI, 11, .inl x_p1_lengths)), (q_p1_told, .inl (cI, 121, .inl x_p1_told)), (q_p1_behind, .inl (cI, 11, .inl x_p1_behind))] H → va_D A [(q_, .inr (4, [.int o9_posts, .int o9_pairs, .ref q_widths, .ref q_lengths, .ref q_told, .ref q_behind])), (q_widths, .inl (cI, 11, .inl o9_widths)), (q_lengths, .inl (cI, 11, .inl o9_lengths)), (q_told, .inl (cI, 121, .inl o9_told)), (q_behind, .inl (cI, 11, .inl o9_behind)), (q_p1, .inr (4, [.int x_p1_posts, .int x_p1_pairs, .ref q_p1_widths, .ref q_p1_lengths, .ref q_p1_told, .ref q_p1_behind])), (q_p1_widths, .inl (cI, 11, .inl x_p1_widths)), (q_p1_lengths, .inl (cI, 11, .inl x_p1_lengths)), (q_p1_told, .inl (cI, 121, .inl x_p1_told)), (q_p1_behind, .inl (cI, 11, .inl x_p1_behind))] → va_S A s.heap H locs → W p l e (rmK 2 60) s m args below meth c H locs 0 0 Q (F0 m pc ls []) := by
    intro o9_posts o9_pairs o9_widths o9_lengths o9_told o9_behind h9
    cases h9
    exact hret
  unfold f_X4_takeFrom at hf
  refine lv_aload_n hx hb dX4_takeFrom_0 rfl (lv_at hl 0 rfl) ?_
  refine lv_aload_n hx hb dX4_takeFrom_1 rfl (lv_at hl 1 rfl) ?_
  refine va_get (D := (dC, dI)) (ci := 4) (v := .int x_p1_posts) (C := RX4) (T := TX4) (N := 6) hx hb htb inX4 hown hK hP 5 rfl rfl 0 (Nat.le_of_ble_eq_true rfl) (htb _ t_36) (fun _ h9 => h9) rfl dX4_takeFrom_2 ?_
  refine k_put (wn := [(q_, .inr (4, [.int x_p1_posts, .int x_pairs, .ref q_widths, .ref q_lengths, .ref q_told, .ref q_behind])), (q_widths, .inl (cI, 11, .inl x_widths)), (q_lengths, .inl (cI, 11, .inl x_lengths)), (q_told, .inl (cI, 121, .inl x_told)), (q_behind, .inl (cI, 11, .inl x_behind)), (q_p1, .inr (4, [.int x_p1_posts, .int x_p1_pairs, .ref q_p1_widths, .ref q_p1_lengths, .ref q_p1_told, .ref q_p1_behind])), (q_p1_widths, .inl (cI, 11, .inl x_p1_widths)), (q_p1_lengths, .inl (cI, 11, .inl x_p1_lengths)), (q_p1_told, .inl (cI, 121, .inl x_p1_told)), (q_p1_behind, .inl (cI, 11, .inl x_p1_behind))]) (C := RX4) (T := TX4) (N := 6) (ci := 4) hx hb htb inX4 tyX4 tyX4_ok nmX4 hown hK hP hD hS 0 rfl rfl 0 (Nat.le_of_ble_eq_true rfl) t_36 (fun _ h9 => h9) rfl (tyX4_ok 0 (Nat.le_of_ble_eq_true rfl)) (Nat.le_of_ble_eq_true rfl) rfl dX4_takeFrom_5 ?_
  clear hP hD hS
  intro H locs hP hD hS
  refine lv_aload_n hx hb dX4_takeFrom_8 rfl (lv_at hl 0 rfl) ?_
  refine lv_aload_n hx hb dX4_takeFrom_9 rfl (lv_at hl 1 rfl) ?_
  refine va_get (D := (dC, dI)) (ci := 4) (v := .int x_p1_pairs) (C := RX4) (T := TX4) (N := 6) hx hb htb inX4 hown hK hP 5 rfl rfl 1 (Nat.le_of_ble_eq_true rfl) (htb _ t_38) (fun _ h9 => h9) rfl dX4_takeFrom_10 ?_
  refine k_put (wn := [(q_, .inr (4, [.int x_p1_posts, .int x_p1_pairs, .ref q_widths, .ref q_lengths, .ref q_told, .ref q_behind])), (q_widths, .inl (cI, 11, .inl x_widths)), (q_lengths, .inl (cI, 11, .inl x_lengths)), (q_told, .inl (cI, 121, .inl x_told)), (q_behind, .inl (cI, 11, .inl x_behind)), (q_p1, .inr (4, [.int x_p1_posts, .int x_p1_pairs, .ref q_p1_widths, .ref q_p1_lengths, .ref q_p1_told, .ref q_p1_behind])), (q_p1_widths, .inl (cI, 11, .inl x_p1_widths)), (q_p1_lengths, .inl (cI, 11, .inl x_p1_lengths)), (q_p1_told, .inl (cI, 121, .inl x_p1_told)), (q_p1_behind, .inl (cI, 11, .inl x_p1_behind))]) (C := RX4) (T := TX4) (N := 6) (ci := 4) hx hb htb inX4 tyX4 tyX4_ok nmX4 hown hK hP hD hS 0 rfl rfl 1 (Nat.le_of_ble_eq_true rfl) t_38 (fun _ h9 => h9) rfl (tyX4_ok 1 (Nat.le_of_ble_eq_true rfl)) (Nat.le_of_ble_eq_true rfl) rfl dX4_takeFrom_13 ?_
  clear hP hD hS
  intro H locs hP hD hS
  refine lv_aload_n hx hb dX4_takeFrom_16 rfl (lv_at hl 1 rfl) ?_
  refine va_get (D := (dC, dI)) (ci := 4) (v := .ref q_p1_widths) (C := RX4) (T := TX4) (N := 6) hx hb htb inX4 hown hK hP 5 rfl rfl 2 (Nat.le_of_ble_eq_true rfl) (htb _ t_39) (fun _ h9 => h9) rfl dX4_takeFrom_17 ?_
  refine lv_iconst (v := (0 : Int32)) hx hb dX4_takeFrom_20 (by decide) ?_
  refine lv_aload_n hx hb dX4_takeFrom_21 rfl (lv_at hl 0 rfl) ?_
  refine va_get (D := (dC, dI)) (ci := 4) (v := .ref q_widths) (C := RX4) (T := TX4) (N := 6) hx hb htb inX4 hown hK hP 0 rfl rfl 2 (Nat.le_of_ble_eq_true rfl) (htb _ t_39) (fun _ h9 => h9) rfl dX4_takeFrom_22 ?_
  refine lv_iconst (v := (0 : Int32)) hx hb dX4_takeFrom_25 (by decide) ?_
  refine lv_bipush (v := (11 : Int32)) hx hb dX4_takeFrom_26 (by decide) ?_
  obtain ⟨v1, hv, hf⟩ := ob hf
  refine k_copy (wn := [(q_, .inr (4, [.int x_p1_posts, .int x_p1_pairs, .ref q_widths, .ref q_lengths, .ref q_told, .ref q_behind])), (q_widths, .inl (cI, 11, .inl v1)), (q_lengths, .inl (cI, 11, .inl x_lengths)), (q_told, .inl (cI, 121, .inl x_told)), (q_behind, .inl (cI, 11, .inl x_behind)), (q_p1, .inr (4, [.int x_p1_posts, .int x_p1_pairs, .ref q_p1_widths, .ref q_p1_lengths, .ref q_p1_told, .ref q_p1_behind])), (q_p1_widths, .inl (cI, 11, .inl x_p1_widths)), (q_p1_lengths, .inl (cI, 11, .inl x_p1_lengths)), (q_p1_told, .inl (cI, 121, .inl x_p1_told)), (q_p1_behind, .inl (cI, 11, .inl x_p1_behind))]) hx hb (hml.trans hl.1.symm) hown (htb _ t_321) (htb _ t_323) (htb _ t_322) (htb _ t_14) hK hP hD hS 6 1 0 rfl rfl rfl hv rfl (Nat.le_of_ble_eq_true rfl) (Nat.le_of_ble_eq_true rfl) dX4_takeFrom_28 ?_
  clear hP hD hS
  intro H locs hP hD hS
  refine lv_aload_n hx hb dX4_takeFrom_31 rfl (lv_at hl 1 rfl) ?_
  refine va_get (D := (dC, dI)) (ci := 4) (v := .ref q_p1_lengths) (C := RX4) (T := TX4) (N := 6) hx hb htb inX4 hown hK hP 5 rfl rfl 3 (Nat.le_of_ble_eq_true rfl) (htb _ t_41) (fun _ h9 => h9) rfl dX4_takeFrom_32 ?_
  refine lv_iconst (v := (0 : Int32)) hx hb dX4_takeFrom_35 (by decide) ?_
  refine lv_aload_n hx hb dX4_takeFrom_36 rfl (lv_at hl 0 rfl) ?_
  refine va_get (D := (dC, dI)) (ci := 4) (v := .ref q_lengths) (C := RX4) (T := TX4) (N := 6) hx hb htb inX4 hown hK hP 0 rfl rfl 3 (Nat.le_of_ble_eq_true rfl) (htb _ t_41) (fun _ h9 => h9) rfl dX4_takeFrom_37 ?_
  refine lv_iconst (v := (0 : Int32)) hx hb dX4_takeFrom_40 (by decide) ?_
  refine lv_bipush (v := (11 : Int32)) hx hb dX4_takeFrom_41 (by decide) ?_
  obtain ⟨v2, hv, hf⟩ := ob hf
  refine k_copy (wn := [(q_, .inr (4, [.int x_p1_posts, .int x_p1_pairs, .ref q_widths, .ref q_lengths, .ref q_told, .ref q_behind])), (q_widths, .inl (cI, 11, .inl v1)), (q_lengths, .inl (cI, 11, .inl v2)), (q_told, .inl (cI, 121, .inl x_told)), (q_behind, .inl (cI, 11, .inl x_behind)), (q_p1, .inr (4, [.int x_p1_posts, .int x_p1_pairs, .ref q_p1_widths, .ref q_p1_lengths, .ref q_p1_told, .ref q_p1_behind])), (q_p1_widths, .inl (cI, 11, .inl x_p1_widths)), (q_p1_lengths, .inl (cI, 11, .inl x_p1_lengths)), (q_p1_told, .inl (cI, 121, .inl x_p1_told)), (q_p1_behind, .inl (cI, 11, .inl x_p1_behind))]) hx hb (hml.trans hl.1.symm) hown (htb _ t_321) (htb _ t_323) (htb _ t_322) (htb _ t_14) hK hP hD hS 7 2 0 rfl rfl rfl hv rfl (Nat.le_of_ble_eq_true rfl) (Nat.le_of_ble_eq_true rfl) dX4_takeFrom_43 ?_
  clear hP hD hS
  intro H locs hP hD hS
  refine lv_aload_n hx hb dX4_takeFrom_46 rfl (lv_at hl 1 rfl) ?_
  refine va_get (D := (dC, dI)) (ci := 4) (v := .ref q_p1_told) (C := RX4) (T := TX4) (N := 6) hx hb htb inX4 hown hK hP 5 rfl rfl 4 (Nat.le_of_ble_eq_true rfl) (htb _ t_43) (fun _ h9 => h9) rfl dX4_takeFrom_47 ?_
  refine lv_iconst (v := (0 : Int32)) hx hb dX4_takeFrom_50 (by decide) ?_
  refine lv_aload_n hx hb dX4_takeFrom_51 rfl (lv_at hl 0 rfl) ?_
  refine va_get (D := (dC, dI)) (ci := 4) (v := .ref q_told) (C := RX4) (T := TX4) (N := 6) hx hb htb inX4 hown hK hP 0 rfl rfl 4 (Nat.le_of_ble_eq_true rfl) (htb _ t_43) (fun _ h9 => h9) rfl dX4_takeFrom_52 ?_
  refine lv_iconst (v := (0 : Int32)) hx hb dX4_takeFrom_55 (by decide) ?_
  refine lv_bipush (v := (121 : Int32)) hx hb dX4_takeFrom_56 (by decide) ?_
  obtain ⟨v3, hv, hf⟩ := ob hf
  refine k_copy (wn := [(q_, .inr (4, [.int x_p1_posts, .int x_p1_pairs, .ref q_widths, .ref q_lengths, .ref q_told, .ref q_behind])), (q_widths, .inl (cI, 11, .inl v1)), (q_lengths, .inl (cI, 11, .inl v2)), (q_told, .inl (cI, 121, .inl v3)), (q_behind, .inl (cI, 11, .inl x_behind)), (q_p1, .inr (4, [.int x_p1_posts, .int x_p1_pairs, .ref q_p1_widths, .ref q_p1_lengths, .ref q_p1_told, .ref q_p1_behind])), (q_p1_widths, .inl (cI, 11, .inl x_p1_widths)), (q_p1_lengths, .inl (cI, 11, .inl x_p1_lengths)), (q_p1_told, .inl (cI, 121, .inl x_p1_told)), (q_p1_behind, .inl (cI, 11, .inl x_p1_behind))]) hx hb (hml.trans hl.1.symm) hown (htb _ t_321) (htb _ t_323) (htb _ t_322) (htb _ t_14) hK hP hD hS 8 3 0 rfl rfl rfl hv rfl (Nat.le_of_ble_eq_true rfl) (Nat.le_of_ble_eq_true rfl) dX4_takeFrom_58 ?_
  clear hP hD hS
  intro H locs hP hD hS
  refine lv_aload_n hx hb dX4_takeFrom_61 rfl (lv_at hl 1 rfl) ?_
  refine va_get (D := (dC, dI)) (ci := 4) (v := .ref q_p1_behind) (C := RX4) (T := TX4) (N := 6) hx hb htb inX4 hown hK hP 5 rfl rfl 5 (Nat.le_of_ble_eq_true rfl) (htb _ t_46) (fun _ h9 => h9) rfl dX4_takeFrom_62 ?_
  refine lv_iconst (v := (0 : Int32)) hx hb dX4_takeFrom_65 (by decide) ?_
  refine lv_aload_n hx hb dX4_takeFrom_66 rfl (lv_at hl 0 rfl) ?_
  refine va_get (D := (dC, dI)) (ci := 4) (v := .ref q_behind) (C := RX4) (T := TX4) (N := 6) hx hb htb inX4 hown hK hP 0 rfl rfl 5 (Nat.le_of_ble_eq_true rfl) (htb _ t_46) (fun _ h9 => h9) rfl dX4_takeFrom_67 ?_
  refine lv_iconst (v := (0 : Int32)) hx hb dX4_takeFrom_70 (by decide) ?_
  refine lv_bipush (v := (11 : Int32)) hx hb dX4_takeFrom_71 (by decide) ?_
  obtain ⟨v4, hv, hf⟩ := ob hf
  refine k_copy (wn := [(q_, .inr (4, [.int x_p1_posts, .int x_p1_pairs, .ref q_widths, .ref q_lengths, .ref q_told, .ref q_behind])), (q_widths, .inl (cI, 11, .inl v1)), (q_lengths, .inl (cI, 11, .inl v2)), (q_told, .inl (cI, 121, .inl v3)), (q_behind, .inl (cI, 11, .inl v4)), (q_p1, .inr (4, [.int x_p1_posts, .int x_p1_pairs, .ref q_p1_widths, .ref q_p1_lengths, .ref q_p1_told, .ref q_p1_behind])), (q_p1_widths, .inl (cI, 11, .inl x_p1_widths)), (q_p1_lengths, .inl (cI, 11, .inl x_p1_lengths)), (q_p1_told, .inl (cI, 121, .inl x_p1_told)), (q_p1_behind, .inl (cI, 11, .inl x_p1_behind))]) hx hb (hml.trans hl.1.symm) hown (htb _ t_321) (htb _ t_323) (htb _ t_322) (htb _ t_14) hK hP hD hS 9 4 0 rfl rfl rfl hv rfl (Nat.le_of_ble_eq_true rfl) (Nat.le_of_ble_eq_true rfl) dX4_takeFrom_73 ?_
  clear hP hD hS
  intro H locs hP hD hS
  exact hret _ _ _ _ _ _ hf _ _ _ _ dX4_takeFrom_76 hP hD hS
