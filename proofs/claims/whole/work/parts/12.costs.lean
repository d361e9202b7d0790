theorem vf_X2_withSpans : VF yX2_withSpans cX2_withSpans 9 (some .int) 4 := ⟨t_478, t_479, t_9, t_480, by decide +kernel, by decide +kernel, by decide +kernel⟩
theorem dX2_withSpans_0 : decode cX2_withSpans 0 = .ok (.iload_n 2, 1) := by decide +kernel
theorem dX2_withSpans_1 : decode cX2_withSpans 1 = .ok (.istore 5, 2) := by decide +kernel
theorem dX2_withSpans_3 : decode cX2_withSpans 3 = .ok (.iconst 0, 1) := by decide +kernel
theorem dX2_withSpans_4 : decode cX2_withSpans 4 = .ok (.istore 6, 2) := by decide +kernel
theorem dX2_withSpans_6 : decode cX2_withSpans 6 = .ok (.iload 6, 2) := by decide +kernel
theorem dX2_withSpans_8 : decode cX2_withSpans 8 = .ok (.iload 4, 2) := by decide +kernel
theorem dX2_withSpans_10 : decode cX2_withSpans 10 = .ok (.if_icmp .ge 88, 3) := by decide +kernel
theorem dX2_withSpans_13 : decode cX2_withSpans 13 = .ok (.aload_n 0, 1) := by decide +kernel
theorem dX2_withSpans_14 : decode cX2_withSpans 14 = .ok (.getfield 9, 3) := by decide +kernel
theorem dX2_withSpans_17 : decode cX2_withSpans 17 = .ok (.aload_n 3, 1) := by decide +kernel
theorem dX2_withSpans_18 : decode cX2_withSpans 18 = .ok (.getfield 29, 3) := by decide +kernel
theorem dX2_withSpans_21 : decode cX2_withSpans 21 = .ok (.iload 6, 2) := by decide +kernel
theorem dX2_withSpans_23 : decode cX2_withSpans 23 = .ok (.iaload, 1) := by decide +kernel
theorem dX2_withSpans_24 : decode cX2_withSpans 24 = .ok (.aload_n 3, 1) := by decide +kernel
theorem dX2_withSpans_25 : decode cX2_withSpans 25 = .ok (.getfield 29, 3) := by decide +kernel
theorem dX2_withSpans_28 : decode cX2_withSpans 28 = .ok (.iload 4, 2) := by decide +kernel
theorem dX2_withSpans_30 : decode cX2_withSpans 30 = .ok (.iaload, 1) := by decide +kernel
theorem dX2_withSpans_31 : decode cX2_withSpans 31 = .ok (.invokevirtual 45, 3) := by decide +kernel
theorem dX2_withSpans_34 : decode cX2_withSpans 34 = .ok (.istore 7, 2) := by decide +kernel
theorem dX2_withSpans_36 : decode cX2_withSpans 36 = .ok (.iload 4, 2) := by decide +kernel
theorem dX2_withSpans_38 : decode cX2_withSpans 38 = .ok (.iload 6, 2) := by decide +kernel
theorem dX2_withSpans_40 : decode cX2_withSpans 40 = .ok (.isub, 1) := by decide +kernel
theorem dX2_withSpans_41 : decode cX2_withSpans 41 = .ok (.istore 8, 2) := by decide +kernel
theorem dX2_withSpans_43 : decode cX2_withSpans 43 = .ok (.iload 7, 2) := by decide +kernel
theorem dX2_withSpans_45 : decode cX2_withSpans 45 = .ok (.ifCond .le 19, 3) := by decide +kernel
theorem dX2_withSpans_48 : decode cX2_withSpans 48 = .ok (.iload_n 1, 1) := by decide +kernel
theorem dX2_withSpans_49 : decode cX2_withSpans 49 = .ok (.ifCond .ne 15, 3) := by decide +kernel
theorem dX2_withSpans_52 : decode cX2_withSpans 52 = .ok (.iload 5, 2) := by decide +kernel
theorem dX2_withSpans_54 : decode cX2_withSpans 54 = .ok (.iload 8, 2) := by decide +kernel
theorem dX2_withSpans_56 : decode cX2_withSpans 56 = .ok (.invokestatic 50, 3) := by decide +kernel
theorem dX2_withSpans_59 : decode cX2_withSpans 59 = .ok (.istore 5, 2) := by decide +kernel
theorem dX2_withSpans_61 : decode cX2_withSpans 61 = .ok (.goto 31, 3) := by decide +kernel
theorem dX2_withSpans_64 : decode cX2_withSpans 64 = .ok (.iload 7, 2) := by decide +kernel
theorem dX2_withSpans_66 : decode cX2_withSpans 66 = .ok (.ifCond .le 26, 3) := by decide +kernel
theorem dX2_withSpans_69 : decode cX2_withSpans 69 = .ok (.iload 5, 2) := by decide +kernel
theorem dX2_withSpans_71 : decode cX2_withSpans 71 = .ok (.iload 7, 2) := by decide +kernel
theorem dX2_withSpans_73 : decode cX2_withSpans 73 = .ok (.iload 8, 2) := by decide +kernel
theorem dX2_withSpans_75 : decode cX2_withSpans 75 = .ok (.aload_n 0, 1) := by decide +kernel
theorem dX2_withSpans_76 : decode cX2_withSpans 76 = .ok (.getfield 9, 3) := by decide +kernel
theorem dX2_withSpans_79 : decode cX2_withSpans 79 = .ok (.getfield 55, 3) := by decide +kernel
theorem dX2_withSpans_82 : decode cX2_withSpans 82 = .ok (.iload 8, 2) := by decide +kernel
theorem dX2_withSpans_84 : decode cX2_withSpans 84 = .ok (.isub, 1) := by decide +kernel
theorem dX2_withSpans_85 : decode cX2_withSpans 85 = .ok (.invokestatic 57, 3) := by decide +kernel
theorem dX2_withSpans_88 : decode cX2_withSpans 88 = .ok (.imul, 1) := by decide +kernel
theorem dX2_withSpans_89 : decode cX2_withSpans 89 = .ok (.iadd, 1) := by decide +kernel
theorem dX2_withSpans_90 : decode cX2_withSpans 90 = .ok (.istore 5, 2) := by decide +kernel
theorem dX2_withSpans_92 : decode cX2_withSpans 92 = .ok (.iinc 6 1, 3) := by decide +kernel
theorem dX2_withSpans_95 : decode cX2_withSpans 95 = .ok (.goto (-89), 3) := by decide +kernel
theorem dX2_withSpans_98 : decode cX2_withSpans 98 = .ok (.iload 5, 2) := by decide +kernel
theorem dX2_withSpans_100 : decode cX2_withSpans 100 = .ok (.ireturn, 1) := by decide +kernel
noncomputable def f_X2_withSpans_L6 (i1 : Int32) (i4 : Int32) (x_view_posts : Int32) (x_view_weights : Nat → Int32) (x_p3_posts : Nat → Int32) (i5 : Int32) (i6 : Int32) : Option ((Int32 × Int32) ⊕ (Int32)) :=
  if i4 ≤ i6 then (some (.inr i5)) else ((gi x_p3_posts 11 i6).bind fun v2 =>
  (gi x_p3_posts 11 i4).bind fun v3 =>
  (f_X9_weightOf x_view_weights v2 v3).bind fun v4 =>
  ((if v4 ≤ 0 then (if v4 ≤ 0 then (some i5) else (some (i5 + (v4 * (if (x_view_posts - (i4 - i6)) < (i4 - i6) then (x_view_posts - (i4 - i6)) else (i4 - i6)))))) else (if i1 = 0 then (some (if i5 < (i4 - i6) then (i4 - i6) else i5)) else (if v4 ≤ 0 then (some i5) else (some (i5 + (v4 * (if (x_view_posts - (i4 - i6)) < (i4 - i6) then (x_view_posts - (i4 - i6)) else (i4 - i6))))))) : Option (Int32))).bind fun t5 =>
  some (.inl (t5, (i6 + (1 : Int32)))))
noncomputable def f_X2_withSpans (x_view_posts : Int32) (x_view_weights : Nat → Int32) (x_p3_posts : Nat → Int32) (i1 : Int32) (i2 : Int32) (i4 : Int32) : Option (Int32) :=
  (loopS (fun (s : Int32 × Int32) => f_X2_withSpans_L6 i1 i4 x_view_posts x_view_weights x_p3_posts s.1 s.2) (i2, (0 : Int32))).bind fun x1 =>
  some (x1)
set_option maxHeartbeats 4000000 in
set_option maxRecDepth 100000 in
theorem c_X2_withSpans (l : Launch) (dC : Nat → ClassId) (dI : Nat → Nat → Nat) (cI cZ cN : ClassId) (q_ : Nat) (q_view : Nat) (q_view_weights : Nat) (q_view_near : Nat) (q_view_behind : Nat) (q_view_ahead : Nat) (q_p3 : Nat) (q_p3_posts : Nat) (x_view_posts : Int32) (x_view_roads : Int32) (x_view_weight : Int32) (x_view_weights : Nat → Int32) (x_p3_size : Int32) (x_p3_posts : Nat → Int32) (i1 i2 i4 : Int32) (r : Int32) (hf : f_X2_withSpans x_view_posts x_view_weights x_p3_posts i1 i2 i4 = some r) : CI l yX2_withSpans cX2_withSpans 9 (some .int) 3 82 (dC, dI) (TY cI cZ cN) [.ref q_, .int i1, .int i2, .ref q_p3, .int i4] [(q_, .inr (2, [.ref q_view])), (q_view, .inr (8, [.int x_view_posts, .int x_view_roads, .int x_view_weight, .ref q_view_weights, .ref q_view_near, .ref q_view_behind, .ref q_view_ahead])), (q_view_weights, .inl (cI, 121, .inl x_view_weights)), (q_p3, .inr (5, [.ref q_p3_posts, .int x_p3_size])), (q_p3_posts, .inl (cI, 11, .inl x_p3_posts))] [(q_, .inr (2, [.ref q_view])), (q_view, .inr (8, [.int x_view_posts, .int x_view_roads, .int x_view_weight, .ref q_view_weights, .ref q_view_near, .ref q_view_behind, .ref q_view_ahead])), (q_view_weights, .inl (cI, 121, .inl x_view_weights)), (q_p3, .inr (5, [.ref q_p3_posts, .int x_p3_size])), (q_p3_posts, .inl (cI, 11, .inl x_p3_posts))] r := by
  refine CI.of rfl (by decide) (Nat.le_of_ble_eq_true rfl) ?_
  intro p e s m args below meth c Q A ls hx hb hml hown htb hK hN hA hP hD hS hl hret
  have hown : s.vm.findClass RX2 = some m.cls := hown
  have hl : lv_has ls 9 [(0, .ref q_), (1, .int i1), (2, .int i2), (3, .ref q_p3), (4, .int i4)] := hl
  have hret : ∀ (r9 : Int32), some r9 = some r → ∀ (H : Heap) (locs : List Loc) (pc : Nat) (ls : Array Slot), narrow .int (.int r9) = .int r9 → decode cX2_withSpans pc = .ok (.ireturn, 1) → va_P (dC, dI) vwCl [(q_, .inr (2, [.ref q_view])), (q_view, .inr (8, [.int x_view_posts, .int x_view_roads, .int x_view_weight, .ref q_view_weights, .ref q_view_near, .ref q_view_behind, .ref q_view_ahead])), (q_view_weights, .inl (cI, 121, .inl x_view_weights)), (q_p3, .inr (5, [.ref q_p3_posts, .int x_p3_size])), (q_p3_posts, .inl (cI, 11, .inl x_p3_posts))] H → va_D A [(q_, .inr (2, [.ref q_view])), (q_view, .inr (8, [.int x_view_posts, .int x_view_roads, .int x_view_weight, .ref q_view_weights, .ref q_view_near, .ref q_view_behind, .ref q_view_ahead])), (q_view_weights, .inl (cI, 121, .inl x_view_weights)), (q_p3, .inr (5, [.ref q_p3_posts, .int x_p3_size])), (q_p3_posts, .inl (cI, 11, .inl x_p3_posts))] → va_S A s.heap H locs → W p l e (rmK 3 82) s m args below meth c H locs 0 0 Q (F0 m pc ls [.int r9]) := by
    intro r9 h9
    cases h9
    exact hret
  unfold f_X2_withSpans at hf
  refine lv_iload_n hx hb dX2_withSpans_0 rfl (lv_at hl 2 rfl) ?_
  refine lv_istore (lv' := [(5, .int i2), (0, .ref q_), (1, .int i1), (2, .int i2), (3, .ref q_p3), (4, .int i4)]) hx hb dX2_withSpans_1 hl (by decide) rfl (fun ls hl => ?_)
  refine lv_iconst (v := (0 : Int32)) hx hb dX2_withSpans_3 (by decide) ?_
  refine lv_istore (lv' := [(6, .int (0 : Int32)), (5, .int i2), (0, .ref q_), (1, .int i1), (2, .int i2), (3, .ref q_p3), (4, .int i4)]) hx hb dX2_withSpans_4 hl (by decide) rfl (fun ls hl => ?_)
  obtain ⟨x1, hL, hf⟩ := ob hf
  have kx2 : ∀ (H : Heap) (locs : List Loc) (ls : Array Slot), va_P (dC, dI) vwCl [(q_, .inr (2, [.ref q_view])), (q_view, .inr (8, [.int x_view_posts, .int x_view_roads, .int x_view_weight, .ref q_view_weights, .ref q_view_near, .ref q_view_behind, .ref q_view_ahead])), (q_view_weights, .inl (cI, 121, .inl x_view_weights)), (q_p3, .inr (5, [.ref q_p3_posts, .int x_p3_size])), (q_p3_posts, .inl (cI, 11, .inl x_p3_posts))] H → va_D A [(q_, .inr (2, [.ref q_view])), (q_view, .inr (8, [.int x_view_posts, .int x_view_roads, .int x_view_weight, .ref q_view_weights, .ref q_view_near, .ref q_view_behind, .ref q_view_ahead])), (q_view_weights, .inl (cI, 121, .inl x_view_weights)), (q_p3, .inr (5, [.ref q_p3_posts, .int x_p3_size])), (q_p3_posts, .inl (cI, 11, .inl x_p3_posts))] → va_S A s.heap H locs → lv_has ls 9 [(5, .int x1)] → W p l e (rmK 3 82) s m args below meth c H locs 0 0 Q (F0 m 98 ls []) := by
    intro H locs ls hP hD hS hl
    refine lv_iload hx hb dX2_withSpans_98 (lv_at hl 0 rfl) ?_
    exact hret _ hf _ _ _ _ rfl dX2_withSpans_100 hP hD hS
  obtain ⟨n0, hn0⟩ := loopS_iter hL
  clear hf
  have kl5 : ∀ (n : Nat) (s3 : Int32) (s4 : Int32), iterS (fun (s : Int32 × Int32) => f_X2_withSpans_L6 i1 i4 x_view_posts x_view_weights x_p3_posts s.1 s.2) n (s3, s4) = some x1 → ∀ (H : Heap) (locs : List Loc) (ls : Array Slot), va_P (dC, dI) vwCl [(q_, .inr (2, [.ref q_view])), (q_view, .inr (8, [.int x_view_posts, .int x_view_roads, .int x_view_weight, .ref q_view_weights, .ref q_view_near, .ref q_view_behind, .ref q_view_ahead])), (q_view_weights, .inl (cI, 121, .inl x_view_weights)), (q_p3, .inr (5, [.ref q_p3_posts, .int x_p3_size])), (q_p3_posts, .inl (cI, 11, .inl x_p3_posts))] H → va_D A [(q_, .inr (2, [.ref q_view])), (q_view, .inr (8, [.int x_view_posts, .int x_view_roads, .int x_view_weight, .ref q_view_weights, .ref q_view_near, .ref q_view_behind, .ref q_view_ahead])), (q_view_weights, .inl (cI, 121, .inl x_view_weights)), (q_p3, .inr (5, [.ref q_p3_posts, .int x_p3_size])), (q_p3_posts, .inl (cI, 11, .inl x_p3_posts))] → va_S A s.heap H locs → lv_has ls 9 [(0, .ref q_), (1, .int i1), (3, .ref q_p3), (4, .int i4), (5, .int s3), (6, .int s4)] → W p l e (rmK 3 82) s m args below meth c H locs 0 0 Q (F0 m 6 ls []) := by
    intro n
    induction n with
    | zero =>
      intro s3 s4 hn1
      cases hn1
    | succ n ih1 =>
      intro s3 s4 hn1 H locs ls hP hD hS hl
      obtain ⟨r6, hf, hn1⟩ := it1 hn1
      replace hf : f_X2_withSpans_L6 i1 i4 x_view_posts x_view_weights x_p3_posts s3 s4 = some r6 := hf
      unfold f_X2_withSpans_L6 at hf
      refine lv_iload hx hb dX2_withSpans_6 (lv_at hl 5 rfl) ?_
      refine lv_iload hx hb dX2_withSpans_8 (lv_at hl 3 rfl) ?_
      refine lv_icmp_ge (tgt := 98) hx hb dX2_withSpans_10 (by decide) (fun c7 => ?_) (fun c7 => ?_)
      · have hf := ip c7 hf
        cases hf
        cases (itr hn1)
        exact kx2 _ _ _ hP hD hS (lv_sub hl [4] rfl)
      · have hf := im c7 hf
        refine lv_aload_n hx hb dX2_withSpans_13 rfl (lv_at hl 0 rfl) ?_
        refine va_get (D := (dC, dI)) (ci := 2) (v := .ref q_view) (C := RX2) (T := TX2) (N := 1) hx hb htb inX2 hown hK hP 0 rfl rfl 0 (Nat.le_of_ble_eq_true rfl) (htb _ t_197) (fun _ h9 => h9) rfl dX2_withSpans_14 ?_
        refine lv_aload_n hx hb dX2_withSpans_17 rfl (lv_at hl 2 rfl) ?_
        refine va_get (D := (dC, dI)) (ci := 5) (v := .ref q_p3_posts) (C := RX5) (T := TX5) (N := 2) hx hb htb inX5 hown hK hP 3 rfl rfl 0 (Nat.le_of_ble_eq_true rfl) (htb _ t_129) (fun _ h9 => h9) rfl dX2_withSpans_18 ?_
        refine lv_iload hx hb dX2_withSpans_21 (lv_at hl 5 rfl) ?_
        obtain ⟨v8, hv, hf⟩ := ob hf
        refine k_iald hx hb hK hP 4 0 rfl rfl hv dX2_withSpans_23 ?_
        refine lv_aload_n hx hb dX2_withSpans_24 rfl (lv_at hl 2 rfl) ?_
        refine va_get (D := (dC, dI)) (ci := 5) (v := .ref q_p3_posts) (C := RX5) (T := TX5) (N := 2) hx hb htb inX5 hown hK hP 3 rfl rfl 0 (Nat.le_of_ble_eq_true rfl) (htb _ t_129) (fun _ h9 => h9) rfl dX2_withSpans_25 ?_
        refine lv_iload hx hb dX2_withSpans_28 (lv_at hl 3 rfl) ?_
        obtain ⟨v9, hv, hf⟩ := ob hf
        refine k_iald hx hb hK hP 4 0 rfl rfl hv dX2_withSpans_30 ?_
        obtain ⟨v10, hv, hf⟩ := ob hf
        refine k_afterI (wr := [(q_, .inr (2, [.ref q_view])), (q_p3, .inr (5, [.ref q_p3_posts, .int x_p3_size])), (q_p3_posts, .inl (cI, 11, .inl x_p3_posts))]) (wn := [(q_, .inr (2, [.ref q_view])), (q_view, .inr (8, [.int x_view_posts, .int x_view_roads, .int x_view_weight, .ref q_view_weights, .ref q_view_near, .ref q_view_behind, .ref q_view_ahead])), (q_view_weights, .inl (cI, 121, .inl x_view_weights)), (q_p3, .inr (5, [.ref q_p3_posts, .int x_p3_size])), (q_p3_posts, .inl (cI, 11, .inl x_p3_posts))]) (k_runV (rest := []) (ci := 8) (q0 := 1) hx hb hml hown htb hK hN (c_X9_weightOf l dC dI cI cZ cN q_view q_view_weights q_view_near q_view_behind q_view_ahead x_view_posts x_view_roads x_view_weight x_view_weights v8 v9 v10 hv _) vf_X9_weightOf t_481 hP hD [1, 2] rfl rfl rfl rfl ⟨(Nat.le_of_ble_eq_true rfl), (Nat.le_of_ble_eq_true rfl)⟩ rfl hl.1 rfl (Nat.le_of_ble_eq_true rfl) dX2_withSpans_31 ⟨Nat.zero_le _, Nat.zero_le _⟩) hA hP hD hS [1, 2] [0, 3, 4] [0, 3, 4, 1, 2] rfl rfl rfl rfl ?_
        clear hP hD hS
        intro H locs hP hD hS
        refine lv_istore (lv' := [(7, .int v10), (0, .ref q_), (1, .int i1), (3, .ref q_p3), (4, .int i4), (5, .int s3), (6, .int s4)]) hx hb dX2_withSpans_34 hl (by decide) rfl (fun ls hl => ?_)
        refine lv_iload hx hb dX2_withSpans_36 (lv_at hl 4 rfl) ?_
        refine lv_iload hx hb dX2_withSpans_38 (lv_at hl 6 rfl) ?_
        refine lv_isub hx hb dX2_withSpans_40 ?_
        refine lv_istore (lv' := [(8, .int (i4 - s4)), (7, .int v10), (0, .ref q_), (1, .int i1), (3, .ref q_p3), (4, .int i4), (5, .int s3), (6, .int s4)]) hx hb dX2_withSpans_41 hl (by decide) rfl (fun ls hl => ?_)
        refine lv_iload hx hb dX2_withSpans_43 (lv_at hl 1 rfl) ?_
        obtain ⟨t11, hv, hf⟩ := ob hf
        have key12 : ∀ (H : Heap) (locs : List Loc) (ls : Array Slot), va_P (dC, dI) vwCl [(q_, .inr (2, [.ref q_view])), (q_view, .inr (8, [.int x_view_posts, .int x_view_roads, .int x_view_weight, .ref q_view_weights, .ref q_view_near, .ref q_view_behind, .ref q_view_ahead])), (q_view_weights, .inl (cI, 121, .inl x_view_weights)), (q_p3, .inr (5, [.ref q_p3_posts, .int x_p3_size])), (q_p3_posts, .inl (cI, 11, .inl x_p3_posts))] H → va_D A [(q_, .inr (2, [.ref q_view])), (q_view, .inr (8, [.int x_view_posts, .int x_view_roads, .int x_view_weight, .ref q_view_weights, .ref q_view_near, .ref q_view_behind, .ref q_view_ahead])), (q_view_weights, .inl (cI, 121, .inl x_view_weights)), (q_p3, .inr (5, [.ref q_p3_posts, .int x_p3_size])), (q_p3_posts, .inl (cI, 11, .inl x_p3_posts))] → va_S A s.heap H locs → lv_has ls 9 [(0, .ref q_), (1, .int i1), (3, .ref q_p3), (4, .int i4), (5, .int t11), (6, .int s4)] → W p l e (rmK 3 82) s m args below meth c H locs 0 0 Q (F0 m 92 ls []) := by
          intro H locs ls hP hD hS hl
          refine lv_iinc (v := (s4 + (1 : Int32))) (lv' := [(6, .int (s4 + (1 : Int32))), (0, .ref q_), (1, .int i1), (3, .ref q_p3), (4, .int i4), (5, .int t11)]) hx hb dX2_withSpans_92 hl (k := 5) rfl rfl (by decide) rfl (fun ls hl => ?_)
          refine lv_goto (tgt := 6) hx hb dX2_withSpans_95 (by decide) ?_
          cases hf
          exact ih1 _ _ (itl hn1) _ _ _ hP hD hS (lv_sub hl [1, 2, 3, 4, 5, 0] rfl)
        replace hf := hv
        refine lv_if_le (tgt := 64) hx hb dX2_withSpans_45 (by decide) (fun c13 => ?_) (fun c13 => ?_)
        · have hf := ip c13 hf
          refine lv_iload hx hb dX2_withSpans_64 (lv_at hl 1 rfl) ?_
          refine lv_if_le (tgt := 92) hx hb dX2_withSpans_66 (by decide) (fun c14 => ?_) (fun c14 => ?_)
          · have hf := ip c14 hf
            cases hf
            exact key12 _ _ _ hP hD hS (lv_sub hl [2, 3, 4, 5, 6, 7] rfl)
          · have hf := im c14 hf
            refine lv_iload hx hb dX2_withSpans_69 (lv_at hl 6 rfl) ?_
            refine lv_iload hx hb dX2_withSpans_71 (lv_at hl 1 rfl) ?_
            refine lv_iload hx hb dX2_withSpans_73 (lv_at hl 0 rfl) ?_
            refine lv_aload_n hx hb dX2_withSpans_75 rfl (lv_at hl 2 rfl) ?_
            refine va_get (D := (dC, dI)) (ci := 2) (v := .ref q_view) (C := RX2) (T := TX2) (N := 1) hx hb htb inX2 hown hK hP 0 rfl rfl 0 (Nat.le_of_ble_eq_true rfl) (htb _ t_197) (fun _ h9 => h9) rfl dX2_withSpans_76 ?_
            refine va_get (D := (dC, dI)) (ci := 8) (v := .int x_view_posts) (C := RX9) (T := TX9) (N := 7) hx hb htb inX9 hown hK hP 1 rfl rfl 0 (Nat.le_of_ble_eq_true rfl) (htb _ t_71) (fun _ h9 => h9) rfl dX2_withSpans_79 ?_
            refine lv_iload hx hb dX2_withSpans_82 (lv_at hl 0 rfl) ?_
            refine lv_isub hx hb dX2_withSpans_84 ?_
            refine va_mmin hx hb (hml.trans hl.1.symm) hown (htb _ t_485) (htb _ t_486) (htb _ t_16) (htb _ t_487) (Nat.le_of_ble_eq_true rfl) (Nat.le_of_ble_eq_true rfl) (Nat.zero_le _) (Nat.zero_le _) dX2_withSpans_85 ?_
            refine lv_imul hx hb dX2_withSpans_88 ?_
            refine lv_iadd hx hb dX2_withSpans_89 ?_
            refine lv_istore (lv' := [(5, .int (s3 + (v10 * (if (x_view_posts - (i4 - s4)) < (i4 - s4) then (x_view_posts - (i4 - s4)) else (i4 - s4))))), (8, .int (i4 - s4)), (7, .int v10), (0, .ref q_), (1, .int i1), (3, .ref q_p3), (4, .int i4), (6, .int s4)]) hx hb dX2_withSpans_90 hl (by decide) rfl (fun ls hl => ?_)
            cases hf
            exact key12 _ _ _ hP hD hS (lv_sub hl [3, 4, 5, 6, 0, 7] rfl)
        · have hf := im c13 hf
          refine lv_iload_n hx hb dX2_withSpans_48 rfl (lv_at hl 3 rfl) ?_
          refine lv_if_ne (tgt := 64) hx hb dX2_withSpans_49 (by decide) (fun c15 => ?_) (fun c15 => ?_)
          · have hf := im c15 hf
            refine lv_iload hx hb dX2_withSpans_64 (lv_at hl 1 rfl) ?_
            refine lv_if_le (tgt := 92) hx hb dX2_withSpans_66 (by decide) (fun c16 => ?_) (fun c16 => ?_)
            · have hf := ip c16 hf
              cases hf
              exact key12 _ _ _ hP hD hS (lv_sub hl [2, 3, 4, 5, 6, 7] rfl)
            · have hf := im c16 hf
              refine lv_iload hx hb dX2_withSpans_69 (lv_at hl 6 rfl) ?_
              refine lv_iload hx hb dX2_withSpans_71 (lv_at hl 1 rfl) ?_
              refine lv_iload hx hb dX2_withSpans_73 (lv_at hl 0 rfl) ?_
              refine lv_aload_n hx hb dX2_withSpans_75 rfl (lv_at hl 2 rfl) ?_
              refine va_get (D := (dC, dI)) (ci := 2) (v := .ref q_view) (C := RX2) (T := TX2) (N := 1) hx hb htb inX2 hown hK hP 0 rfl rfl 0 (Nat.le_of_ble_eq_true rfl) (htb _ t_197) (fun _ h9 => h9) rfl dX2_withSpans_76 ?_
              refine va_get (D := (dC, dI)) (ci := 8) (v := .int x_view_posts) (C := RX9) (T := TX9) (N := 7) hx hb htb inX9 hown hK hP 1 rfl rfl 0 (Nat.le_of_ble_eq_true rfl) (htb _ t_71) (fun _ h9 => h9) rfl dX2_withSpans_79 ?_
              refine lv_iload hx hb dX2_withSpans_82 (lv_at hl 0 rfl) ?_
              refine lv_isub hx hb dX2_withSpans_84 ?_
              refine va_mmin hx hb (hml.trans hl.1.symm) hown (htb _ t_485) (htb _ t_486) (htb _ t_16) (htb _ t_487) (Nat.le_of_ble_eq_true rfl) (Nat.le_of_ble_eq_true rfl) (Nat.zero_le _) (Nat.zero_le _) dX2_withSpans_85 ?_
              refine lv_imul hx hb dX2_withSpans_88 ?_
              refine lv_iadd hx hb dX2_withSpans_89 ?_
              refine lv_istore (lv' := [(5, .int (s3 + (v10 * (if (x_view_posts - (i4 - s4)) < (i4 - s4) then (x_view_posts - (i4 - s4)) else (i4 - s4))))), (8, .int (i4 - s4)), (7, .int v10), (0, .ref q_), (1, .int i1), (3, .ref q_p3), (4, .int i4), (6, .int s4)]) hx hb dX2_withSpans_90 hl (by decide) rfl (fun ls hl => ?_)
              cases hf
              exact key12 _ _ _ hP hD hS (lv_sub hl [3, 4, 5, 6, 0, 7] rfl)
          · have hf := ip c15 hf
            refine lv_iload hx hb dX2_withSpans_52 (lv_at hl 6 rfl) ?_
            refine lv_iload hx hb dX2_withSpans_54 (lv_at hl 0 rfl) ?_
            refine va_mmax hx hb (hml.trans hl.1.symm) hown (htb _ t_482) (htb _ t_483) (htb _ t_16) (htb _ t_484) (Nat.le_of_ble_eq_true rfl) (Nat.le_of_ble_eq_true rfl) (Nat.zero_le _) (Nat.zero_le _) dX2_withSpans_56 ?_
            refine lv_istore (lv' := [(5, .int (if s3 < (i4 - s4) then (i4 - s4) else s3)), (8, .int (i4 - s4)), (7, .int v10), (0, .ref q_), (1, .int i1), (3, .ref q_p3), (4, .int i4), (6, .int s4)]) hx hb dX2_withSpans_59 hl (by decide) rfl (fun ls hl => ?_)
            refine lv_goto (tgt := 92) hx hb dX2_withSpans_61 (by decide) ?_
            cases hf
            exact key12 _ _ _ hP hD hS (lv_sub hl [3, 4, 5, 6, 0, 7] rfl)
  exact kl5 n0 _ _ hn0 _ _ _ hP hD hS (lv_sub hl [2, 3, 5, 6, 1, 0] rfl)
theorem vf_X2_leadingOut : VF yX2_leadingOut cX2_leadingOut 5 (some .int) 2 := ⟨t_494, tp_2, t_9, t_495, by decide +kernel, by decide +kernel, by decide +kernel⟩
theorem dX2_leadingOut_0 : decode cX2_leadingOut 0 = .ok (.iconst 0, 1) := by decide +kernel
theorem dX2_leadingOut_1 : decode cX2_leadingOut 1 = .ok (.istore_n 3, 1) := by decide +kernel
theorem dX2_leadingOut_2 : decode cX2_leadingOut 2 = .ok (.iconst 0, 1) := by decide +kernel
theorem dX2_leadingOut_3 : decode cX2_leadingOut 3 = .ok (.istore 4, 2) := by decide +kernel
theorem dX2_leadingOut_5 : decode cX2_leadingOut 5 = .ok (.iload 4, 2) := by decide +kernel
theorem dX2_leadingOut_7 : decode cX2_leadingOut 7 = .ok (.aload_n 0, 1) := by decide +kernel
theorem dX2_leadingOut_8 : decode cX2_leadingOut 8 = .ok (.getfield 9, 3) := by decide +kernel
theorem dX2_leadingOut_11 : decode cX2_leadingOut 11 = .ok (.getfield 55, 3) := by decide +kernel
theorem dX2_leadingOut_14 : decode cX2_leadingOut 14 = .ok (.if_icmp .ge 36, 3) := by decide +kernel
theorem dX2_leadingOut_17 : decode cX2_leadingOut 17 = .ok (.iload_n 1, 1) := by decide +kernel
theorem dX2_leadingOut_18 : decode cX2_leadingOut 18 = .ok (.iload 4, 2) := by decide +kernel
theorem dX2_leadingOut_20 : decode cX2_leadingOut 20 = .ok (.invokestatic 76, 3) := by decide +kernel
theorem dX2_leadingOut_23 : decode cX2_leadingOut 23 = .ok (.ifCond .eq 21, 3) := by decide +kernel
theorem dX2_leadingOut_26 : decode cX2_leadingOut 26 = .ok (.aload_n 2, 1) := by decide +kernel
theorem dX2_leadingOut_27 : decode cX2_leadingOut 27 = .ok (.iload 4, 2) := by decide +kernel
theorem dX2_leadingOut_29 : decode cX2_leadingOut 29 = .ok (.iaload, 1) := by decide +kernel
theorem dX2_leadingOut_30 : decode cX2_leadingOut 30 = .ok (.iload_n 1, 1) := by decide +kernel
theorem dX2_leadingOut_31 : decode cX2_leadingOut 31 = .ok (.iconst (-1), 1) := by decide +kernel
theorem dX2_leadingOut_32 : decode cX2_leadingOut 32 = .ok (.ixor, 1) := by decide +kernel
theorem dX2_leadingOut_33 : decode cX2_leadingOut 33 = .ok (.iand, 1) := by decide +kernel
theorem dX2_leadingOut_34 : decode cX2_leadingOut 34 = .ok (.ifCond .eq 10, 3) := by decide +kernel
theorem dX2_leadingOut_37 : decode cX2_leadingOut 37 = .ok (.iload_n 3, 1) := by decide +kernel
theorem dX2_leadingOut_38 : decode cX2_leadingOut 38 = .ok (.iconst 1, 1) := by decide +kernel
theorem dX2_leadingOut_39 : decode cX2_leadingOut 39 = .ok (.iload 4, 2) := by decide +kernel
theorem dX2_leadingOut_41 : decode cX2_leadingOut 41 = .ok (.ishl, 1) := by decide +kernel
theorem dX2_leadingOut_42 : decode cX2_leadingOut 42 = .ok (.ior, 1) := by decide +kernel
theorem dX2_leadingOut_43 : decode cX2_leadingOut 43 = .ok (.istore_n 3, 1) := by decide +kernel
theorem dX2_leadingOut_44 : decode cX2_leadingOut 44 = .ok (.iinc 4 1, 3) := by decide +kernel
theorem dX2_leadingOut_47 : decode cX2_leadingOut 47 = .ok (.goto (-42), 3) := by decide +kernel
theorem dX2_leadingOut_50 : decode cX2_leadingOut 50 = .ok (.iload_n 3, 1) := by decide +kernel
theorem dX2_leadingOut_51 : decode cX2_leadingOut 51 = .ok (.ireturn, 1) := by decide +kernel
noncomputable def f_X2_leadingOut_near_L5 (i1 : Int32) (x_view_posts : Int32) (x_view_near : Nat → Int32) (i3 : Int32) (i4 : Int32) : Option ((Int32 × Int32) ⊕ (Int32)) :=
  if x_view_posts ≤ i4 then (some (.inr i3)) else ((f_X10_holds i1 i4).bind fun v2 =>
  ((if v2 = 0 then (some i3) else ((gi x_view_near 11 i4).bind fun v6 =>
  if (v6 &&& (i1 ^^^ (-1 : Int32))) = 0 then (some i3) else (some (i3 ||| ((1 : Int32) <<< (i4 &&& 31))))) : Option (Int32))).bind fun t3 =>
  some (.inl (t3, (i4 + (1 : Int32)))))
noncomputable def f_X2_leadingOut_near (x_view_posts : Int32) (x_view_near : Nat → Int32) (i1 : Int32) : Option (Int32) :=
  (loopS (fun (s : Int32 × Int32) => f_X2_leadingOut_near_L5 i1 x_view_posts x_view_near s.1 s.2) ((0 : Int32), (0 : Int32))).bind fun x1 =>
  some (x1)
set_option maxHeartbeats 4000000 in
set_option maxRecDepth 100000 in
theorem c_X2_leadingOut_near (l : Launch) (dC : Nat → ClassId) (dI : Nat → Nat → Nat) (cI cZ cN : ClassId) (q_ : Nat) (q_view : Nat) (q_view_weights : Nat) (q_view_near : Nat) (q_view_behind : Nat) (q_view_ahead : Nat) (x_view_posts : Int32) (x_view_roads : Int32) (x_view_weight : Int32) (x_view_near : Nat → Int32) (i1 : Int32) (r : Int32) (hf : f_X2_leadingOut_near x_view_posts x_view_near i1 = some r) : CI l yX2_leadingOut cX2_leadingOut 5 (some .int) 3 81 (dC, dI) (TY cI cZ cN) [.ref q_, .int i1, .ref q_view_near] [(q_, .inr (2, [.ref q_view])), (q_view, .inr (8, [.int x_view_posts, .int x_view_roads, .int x_view_weight, .ref q_view_weights, .ref q_view_near, .ref q_view_behind, .ref q_view_ahead])), (q_view_near, .inl (cI, 11, .inl x_view_near))] [(q_, .inr (2, [.ref q_view])), (q_view, .inr (8, [.int x_view_posts, .int x_view_roads, .int x_view_weight, .ref q_view_weights, .ref q_view_near, .ref q_view_behind, .ref q_view_ahead])), (q_view_near, .inl (cI, 11, .inl x_view_near))] r := by
  refine CI.of rfl (by decide) (Nat.le_of_ble_eq_true rfl) ?_
  intro p e s m args below meth c Q A ls hx hb hml hown htb hK hN hA hP hD hS hl hret
  have hown : s.vm.findClass RX2 = some m.cls := hown
  have hl : lv_has ls 5 [(0, .ref q_), (1, .int i1), (2, .ref q_view_near)] := hl
  have hret : ∀ (r9 : Int32), some r9 = some r → ∀ (H : Heap) (locs : List Loc) (pc : Nat) (ls : Array Slot), narrow .int (.int r9) = .int r9 → decode cX2_leadingOut pc = .ok (.ireturn, 1) → va_P (dC, dI) vwCl [(q_, .inr (2, [.ref q_view])), (q_view, .inr (8, [.int x_view_posts, .int x_view_roads, .int x_view_weight, .ref q_view_weights, .ref q_view_near, .ref q_view_behind, .ref q_view_ahead])), (q_view_near, .inl (cI, 11, .inl x_view_near))] H → va_D A [(q_, .inr (2, [.ref q_view])), (q_view, .inr (8, [.int x_view_posts, .int x_view_roads, .int x_view_weight, .ref q_view_weights, .ref q_view_near, .ref q_view_behind, .ref q_view_ahead])), (q_view_near, .inl (cI, 11, .inl x_view_near))] → va_S A s.heap H locs → W p l e (rmK 3 81) s m args below meth c H locs 0 0 Q (F0 m pc ls [.int r9]) := by
    intro r9 h9
    cases h9
    exact hret
  unfold f_X2_leadingOut_near at hf
  refine lv_iconst (v := (0 : Int32)) hx hb dX2_leadingOut_0 (by decide) ?_
  refine lv_istore_n (lv' := [(3, .int (0 : Int32)), (0, .ref q_), (1, .int i1), (2, .ref q_view_near)]) hx hb dX2_leadingOut_1 rfl hl (by decide) rfl (fun ls hl => ?_)
  refine lv_iconst (v := (0 : Int32)) hx hb dX2_leadingOut_2 (by decide) ?_
  refine lv_istore (lv' := [(4, .int (0 : Int32)), (3, .int (0 : Int32)), (0, .ref q_), (1, .int i1), (2, .ref q_view_near)]) hx hb dX2_leadingOut_3 hl (by decide) rfl (fun ls hl => ?_)
  obtain ⟨x1, hL, hf⟩ := ob hf
  have kx2 : ∀ (H : Heap) (locs : List Loc) (ls : Array Slot), va_P (dC, dI) vwCl [(q_, .inr (2, [.ref q_view])), (q_view, .inr (8, [.int x_view_posts, .int x_view_roads, .int x_view_weight, .ref q_view_weights, .ref q_view_near, .ref q_view_behind, .ref q_view_ahead])), (q_view_near, .inl (cI, 11, .inl x_view_near))] H → va_D A [(q_, .inr (2, [.ref q_view])), (q_view, .inr (8, [.int x_view_posts, .int x_view_roads, .int x_view_weight, .ref q_view_weights, .ref q_view_near, .ref q_view_behind, .ref q_view_ahead])), (q_view_near, .inl (cI, 11, .inl x_view_near))] → va_S A s.heap H locs → lv_has ls 5 [(3, .int x1)] → W p l e (rmK 3 81) s m args below meth c H locs 0 0 Q (F0 m 50 ls []) := by
    intro H locs ls hP hD hS hl
    refine lv_iload_n hx hb dX2_leadingOut_50 rfl (lv_at hl 0 rfl) ?_
    exact hret _ hf _ _ _ _ rfl dX2_leadingOut_51 hP hD hS
  obtain ⟨n0, hn0⟩ := loopS_iter hL
  clear hf
  have kl5 : ∀ (n : Nat) (s3 : Int32) (s4 : Int32), iterS (fun (s : Int32 × Int32) => f_X2_leadingOut_near_L5 i1 x_view_posts x_view_near s.1 s.2) n (s3, s4) = some x1 → ∀ (H : Heap) (locs : List Loc) (ls : Array Slot), va_P (dC, dI) vwCl [(q_, .inr (2, [.ref q_view])), (q_view, .inr (8, [.int x_view_posts, .int x_view_roads, .int x_view_weight, .ref q_view_weights, .ref q_view_near, .ref q_view_behind, .ref q_view_ahead])), (q_view_near, .inl (cI, 11, .inl x_view_near))] H → va_D A [(q_, .inr (2, [.ref q_view])), (q_view, .inr (8, [.int x_view_posts, .int x_view_roads, .int x_view_weight, .ref q_view_weights, .ref q_view_near, .ref q_view_behind, .ref q_view_ahead])), (q_view_near, .inl (cI, 11, .inl x_view_near))] → va_S A s.heap H locs → lv_has ls 5 [(0, .ref q_), (1, .int i1), (2, .ref q_view_near), (3, .int s3), (4, .int s4)] → W p l e (rmK 3 81) s m args below meth c H locs 0 0 Q (F0 m 5 ls []) := by
    intro n
    induction n with
    | zero =>
      intro s3 s4 hn1
      cases hn1
    | succ n ih1 =>
      intro s3 s4 hn1 H locs ls hP hD hS hl
      obtain ⟨r6, hf, hn1⟩ := it1 hn1
      replace hf : f_X2_leadingOut_near_L5 i1 x_view_posts x_view_near s3 s4 = some r6 := hf
      unfold f_X2_leadingOut_near_L5 at hf
      refine lv_iload hx hb dX2_leadingOut_5 (lv_at hl 4 rfl) ?_
      refine lv_aload_n hx hb dX2_leadingOut_7 rfl (lv_at hl 0 rfl) ?_
      refine va_get (D := (dC, dI)) (ci := 2) (v := .ref q_view) (C := RX2) (T := TX2) (N := 1) hx hb htb inX2 hown hK hP 0 rfl rfl 0 (Nat.le_of_ble_eq_true rfl) (htb _ t_197) (fun _ h9 => h9) rfl dX2_leadingOut_8 ?_
      refine va_get (D := (dC, dI)) (ci := 8) (v := .int x_view_posts) (C := RX9) (T := TX9) (N := 7) hx hb htb inX9 hown hK hP 1 rfl rfl 0 (Nat.le_of_ble_eq_true rfl) (htb _ t_71) (fun _ h9 => h9) rfl dX2_leadingOut_11 ?_
      refine lv_icmp_ge (tgt := 50) hx hb dX2_leadingOut_14 (by decide) (fun c7 => ?_) (fun c7 => ?_)
      · have hf := ip c7 hf
        cases hf
        cases (itr hn1)
        exact kx2 _ _ _ hP hD hS (lv_sub hl [3] rfl)
      · have hf := im c7 hf
        refine lv_iload_n hx hb dX2_leadingOut_17 rfl (lv_at hl 1 rfl) ?_
        refine lv_iload hx hb dX2_leadingOut_18 (lv_at hl 4 rfl) ?_
        obtain ⟨v8, hv, hf⟩ := ob hf
        refine k_afterI (wr := [(q_, .inr (2, [.ref q_view])), (q_view, .inr (8, [.int x_view_posts, .int x_view_roads, .int x_view_weight, .ref q_view_weights, .ref q_view_near, .ref q_view_behind, .ref q_view_ahead])), (q_view_near, .inl (cI, 11, .inl x_view_near))]) (wn := [(q_, .inr (2, [.ref q_view])), (q_view, .inr (8, [.int x_view_posts, .int x_view_roads, .int x_view_weight, .ref q_view_weights, .ref q_view_near, .ref q_view_behind, .ref q_view_ahead])), (q_view_near, .inl (cI, 11, .inl x_view_near))]) (k_runSN (rest := []) (host := "NarrowRows") hx hb hml hown htb hK hN (c_X10_holds l dC dI cI cZ cN i1 s4 v8 hv _) sf_X10_holds nm_8 hP hD [] rfl rfl ⟨(Nat.le_of_ble_eq_true rfl), (Nat.le_of_ble_eq_true rfl)⟩ rfl hl.1 rfl (Nat.le_of_ble_eq_true rfl) dX2_leadingOut_20 ⟨Nat.zero_le _, Nat.zero_le _⟩) hA hP hD hS [] [0, 1, 2] [0, 1, 2] rfl rfl rfl rfl ?_
        clear hP hD hS
        intro H locs hP hD hS
        obtain ⟨t9, hv, hf⟩ := ob hf
        have key10 : ∀ (H : Heap) (locs : List Loc) (ls : Array Slot), va_P (dC, dI) vwCl [(q_, .inr (2, [.ref q_view])), (q_view, .inr (8, [.int x_view_posts, .int x_view_roads, .int x_view_weight, .ref q_view_weights, .ref q_view_near, .ref q_view_behind, .ref q_view_ahead])), (q_view_near, .inl (cI, 11, .inl x_view_near))] H → va_D A [(q_, .inr (2, [.ref q_view])), (q_view, .inr (8, [.int x_view_posts, .int x_view_roads, .int x_view_weight, .ref q_view_weights, .ref q_view_near, .ref q_view_behind, .ref q_view_ahead])), (q_view_near, .inl (cI, 11, .inl x_view_near))] → va_S A s.heap H locs → lv_has ls 5 [(0, .ref q_), (1, .int i1), (2, .ref q_view_near), (3, .int t9), (4, .int s4)] → W p l e (rmK 3 81) s m args below meth c H locs 0 0 Q (F0 m 44 ls []) := by
          intro H locs ls hP hD hS hl
          refine lv_iinc (v := (s4 + (1 : Int32))) (lv' := [(4, .int (s4 + (1 : Int32))), (0, .ref q_), (1, .int i1), (2, .ref q_view_near), (3, .int t9)]) hx hb dX2_leadingOut_44 hl (k := 4) rfl rfl (by decide) rfl (fun ls hl => ?_)
          refine lv_goto (tgt := 5) hx hb dX2_leadingOut_47 (by decide) ?_
          cases hf
          exact ih1 _ _ (itl hn1) _ _ _ hP hD hS (lv_sub hl [1, 2, 3, 4, 0] rfl)
        replace hf := hv
        refine lv_if_eq (tgt := 44) hx hb dX2_leadingOut_23 (by decide) (fun c11 => ?_) (fun c11 => ?_)
        · have hf := ip c11 hf
          cases hf
          exact key10 _ _ _ hP hD hS (lv_sub hl [0, 1, 2, 3, 4] rfl)
        · have hf := im c11 hf
          refine lv_aload_n hx hb dX2_leadingOut_26 rfl (lv_at hl 2 rfl) ?_
          refine lv_iload hx hb dX2_leadingOut_27 (lv_at hl 4 rfl) ?_
          obtain ⟨v12, hv, hf⟩ := ob hf
          refine k_iald hx hb hK hP 2 0 rfl rfl hv dX2_leadingOut_29 ?_
          refine lv_iload_n hx hb dX2_leadingOut_30 rfl (lv_at hl 1 rfl) ?_
          refine lv_iconst (v := (-1 : Int32)) hx hb dX2_leadingOut_31 (by decide) ?_
          refine lv_ixor hx hb dX2_leadingOut_32 ?_
          refine lv_iand hx hb dX2_leadingOut_33 ?_
          refine lv_if_eq (tgt := 44) hx hb dX2_leadingOut_34 (by decide) (fun c13 => ?_) (fun c13 => ?_)
          · have hf := ip c13 hf
            cases hf
            exact key10 _ _ _ hP hD hS (lv_sub hl [0, 1, 2, 3, 4] rfl)
          · have hf := im c13 hf
            refine lv_iload_n hx hb dX2_leadingOut_37 rfl (lv_at hl 3 rfl) ?_
            refine lv_iconst (v := (1 : Int32)) hx hb dX2_leadingOut_38 (by decide) ?_
            refine lv_iload hx hb dX2_leadingOut_39 (lv_at hl 4 rfl) ?_
            refine lv_ishl hx hb dX2_leadingOut_41 ?_
            refine lv_ior hx hb dX2_leadingOut_42 ?_
            refine lv_istore_n (lv' := [(3, .int (s3 ||| ((1 : Int32) <<< (s4 &&& 31)))), (0, .ref q_), (1, .int i1), (2, .ref q_view_near), (4, .int s4)]) hx hb dX2_leadingOut_43 rfl hl (by decide) rfl (fun ls hl => ?_)
            cases hf
            exact key10 _ _ _ hP hD hS (lv_sub hl [1, 2, 3, 0, 4] rfl)
  exact kl5 n0 _ _ hn0 _ _ _ hP hD hS (lv_sub hl [2, 3, 4, 1, 0] rfl)
noncomputable def f_X2_leadingOut_behind_L5 (i1 : Int32) (x_view_posts : Int32) (x_view_behind : Nat → Int32) (i3 : Int32) (i4 : Int32) : Option ((Int32 × Int32) ⊕ (Int32)) :=
  if x_view_posts ≤ i4 then (some (.inr i3)) else ((f_X10_holds i1 i4).bind fun v2 =>
  ((if v2 = 0 then (some i3) else ((gi x_view_behind 11 i4).bind fun v6 =>
  if (v6 &&& (i1 ^^^ (-1 : Int32))) = 0 then (some i3) else (some (i3 ||| ((1 : Int32) <<< (i4 &&& 31))))) : Option (Int32))).bind fun t3 =>
  some (.inl (t3, (i4 + (1 : Int32)))))
noncomputable def f_X2_leadingOut_behind (x_view_posts : Int32) (x_view_behind : Nat → Int32) (i1 : Int32) : Option (Int32) :=
  (loopS (fun (s : Int32 × Int32) => f_X2_leadingOut_behind_L5 i1 x_view_posts x_view_behind s.1 s.2) ((0 : Int32), (0 : Int32))).bind fun x1 =>
  some (x1)
set_option maxHeartbeats 4000000 in
set_option maxRecDepth 100000 in
theorem c_X2_leadingOut_behind (l : Launch) (dC : Nat → ClassId) (dI : Nat → Nat → Nat) (cI cZ cN : ClassId) (q_ : Nat) (q_view : Nat) (q_view_weights : Nat) (q_view_near : Nat) (q_view_behind : Nat) (q_view_ahead : Nat) (x_view_posts : Int32) (x_view_roads : Int32) (x_view_weight : Int32) (x_view_behind : Nat → Int32) (i1 : Int32) (r : Int32) (hf : f_X2_leadingOut_behind x_view_posts x_view_behind i1 = some r) : CI l yX2_leadingOut cX2_leadingOut 5 (some .int) 3 81 (dC, dI) (TY cI cZ cN) [.ref q_, .int i1, .ref q_view_behind] [(q_, .inr (2, [.ref q_view])), (q_view, .inr (8, [.int x_view_posts, .int x_view_roads, .int x_view_weight, .ref q_view_weights, .ref q_view_near, .ref q_view_behind, .ref q_view_ahead])), (q_view_behind, .inl (cI, 11, .inl x_view_behind))] [(q_, .inr (2, [.ref q_view])), (q_view, .inr (8, [.int x_view_posts, .int x_view_roads, .int x_view_weight, .ref q_view_weights, .ref q_view_near, .ref q_view_behind, .ref q_view_ahead])), (q_view_behind, .inl (cI, 11, .inl x_view_behind))] r := by
  refine CI.of rfl (by decide) (Nat.le_of_ble_eq_true rfl) ?_
  intro p e s m args below meth c Q A ls hx hb hml hown htb hK hN hA hP hD hS hl hret
  have hown : s.vm.findClass RX2 = some m.cls := hown
  have hl : lv_has ls 5 [(0, .ref q_), (1, .int i1), (2, .ref q_view_behind)] := hl
  have hret : ∀ (r9 : Int32), some r9 = some r → ∀ (H : Heap) (locs : List Loc) (pc : Nat) (ls : Array Slot), narrow .int (.int r9) = .int r9 → decode cX2_leadingOut pc = .ok (.ireturn, 1) → va_P (dC, dI) vwCl [(q_, .inr (2, [.ref q_view])), (q_view, .inr (8, [.int x_view_posts, .int x_view_roads, .int x_view_weight, .ref q_view_weights, .ref q_view_near, .ref q_view_behind, .ref q_view_ahead])), (q_view_behind, .inl (cI, 11, .inl x_view_behind))] H → va_D A [(q_, .inr (2, [.ref q_view])), (q_view, .inr (8, [.int x_view_posts, .int x_view_roads, .int x_view_weight, .ref q_view_weights, .ref q_view_near, .ref q_view_behind, .ref q_view_ahead])), (q_view_behind, .inl (cI, 11, .inl x_view_behind))] → va_S A s.heap H locs → W p l e (rmK 3 81) s m args below meth c H locs 0 0 Q (F0 m pc ls [.int r9]) := by
    intro r9 h9
    cases h9
    exact hret
  unfold f_X2_leadingOut_behind at hf
  refine lv_iconst (v := (0 : Int32)) hx hb dX2_leadingOut_0 (by decide) ?_
  refine lv_istore_n (lv' := [(3, .int (0 : Int32)), (0, .ref q_), (1, .int i1), (2, .ref q_view_behind)]) hx hb dX2_leadingOut_1 rfl hl (by decide) rfl (fun ls hl => ?_)
  refine lv_iconst (v := (0 : Int32)) hx hb dX2_leadingOut_2 (by decide) ?_
  refine lv_istore (lv' := [(4, .int (0 : Int32)), (3, .int (0 : Int32)), (0, .ref q_), (1, .int i1), (2, .ref q_view_behind)]) hx hb dX2_leadingOut_3 hl (by decide) rfl (fun ls hl => ?_)
  obtain ⟨x1, hL, hf⟩ := ob hf
  have kx2 : ∀ (H : Heap) (locs : List Loc) (ls : Array Slot), va_P (dC, dI) vwCl [(q_, .inr (2, [.ref q_view])), (q_view, .inr (8, [.int x_view_posts, .int x_view_roads, .int x_view_weight, .ref q_view_weights, .ref q_view_near, .ref q_view_behind, .ref q_view_ahead])), (q_view_behind, .inl (cI, 11, .inl x_view_behind))] H → va_D A [(q_, .inr (2, [.ref q_view])), (q_view, .inr (8, [.int x_view_posts, .int x_view_roads, .int x_view_weight, .ref q_view_weights, .ref q_view_near, .ref q_view_behind, .ref q_view_ahead])), (q_view_behind, .inl (cI, 11, .inl x_view_behind))] → va_S A s.heap H locs → lv_has ls 5 [(3, .int x1)] → W p l e (rmK 3 81) s m args below meth c H locs 0 0 Q (F0 m 50 ls []) := by
    intro H locs ls hP hD hS hl
    refine lv_iload_n hx hb dX2_leadingOut_50 rfl (lv_at hl 0 rfl) ?_
    exact hret _ hf _ _ _ _ rfl dX2_leadingOut_51 hP hD hS
  obtain ⟨n0, hn0⟩ := loopS_iter hL
  clear hf
  have kl5 : ∀ (n : Nat) (s3 : Int32) (s4 : Int32), iterS (fun (s : Int32 × Int32) => f_X2_leadingOut_behind_L5 i1 x_view_posts x_view_behind s.1 s.2) n (s3, s4) = some x1 → ∀ (H : Heap) (locs : List Loc) (ls : Array Slot), va_P (dC, dI) vwCl [(q_, .inr (2, [.ref q_view])), (q_view, .inr (8, [.int x_view_posts, .int x_view_roads, .int x_view_weight, .ref q_view_weights, .ref q_view_near, .ref q_view_behind, .ref q_view_ahead])), (q_view_behind, .inl (cI, 11, .inl x_view_behind))] H → va_D A [(q_, .inr (2, [.ref q_view])), (q_view, .inr (8, [.int x_view_posts, .int x_view_roads, .int x_view_weight, .ref q_view_weights, .ref q_view_near, .ref q_view_behind, .ref q_view_ahead])), (q_view_behind, .inl (cI, 11, .inl x_view_behind))] → va_S A s.heap H locs → lv_has ls 5 [(0, .ref q_), (1, .int i1), (2, .ref q_view_behind), (3, .int s3), (4, .int s4)] → W p l e (rmK 3 81) s m args below meth c H locs 0 0 Q (F0 m 5 ls []) := by
    intro n
    induction n with
    | zero =>
      intro s3 s4 hn1
      cases hn1
    | succ n ih1 =>
      intro s3 s4 hn1 H locs ls hP hD hS hl
      obtain ⟨r6, hf, hn1⟩ := it1 hn1
      replace hf : f_X2_leadingOut_behind_L5 i1 x_view_posts x_view_behind s3 s4 = some r6 := hf
      unfold f_X2_leadingOut_behind_L5 at hf
      refine lv_iload hx hb dX2_leadingOut_5 (lv_at hl 4 rfl) ?_
      refine lv_aload_n hx hb dX2_leadingOut_7 rfl (lv_at hl 0 rfl) ?_
      refine va_get (D := (dC, dI)) (ci := 2) (v := .ref q_view) (C := RX2) (T := TX2) (N := 1) hx hb htb inX2 hown hK hP 0 rfl rfl 0 (Nat.le_of_ble_eq_true rfl) (htb _ t_197) (fun _ h9 => h9) rfl dX2_leadingOut_8 ?_
      refine va_get (D := (dC, dI)) (ci := 8) (v := .int x_view_posts) (C := RX9) (T := TX9) (N := 7) hx hb htb inX9 hown hK hP 1 rfl rfl 0 (Nat.le_of_ble_eq_true rfl) (htb _ t_71) (fun _ h9 => h9) rfl dX2_leadingOut_11 ?_
      refine lv_icmp_ge (tgt := 50) hx hb dX2_leadingOut_14 (by decide) (fun c7 => ?_) (fun c7 => ?_)
      · have hf := ip c7 hf
        cases hf
        cases (itr hn1)
        exact kx2 _ _ _ hP hD hS (lv_sub hl [3] rfl)
      · have hf := im c7 hf
        refine lv_iload_n hx hb dX2_leadingOut_17 rfl (lv_at hl 1 rfl) ?_
        refine lv_iload hx hb dX2_leadingOut_18 (lv_at hl 4 rfl) ?_
        obtain ⟨v8, hv, hf⟩ := ob hf
        refine k_afterI (wr := [(q_, .inr (2, [.ref q_view])), (q_view, .inr (8, [.int x_view_posts, .int x_view_roads, .int x_view_weight, .ref q_view_weights, .ref q_view_near, .ref q_view_behind, .ref q_view_ahead])), (q_view_behind, .inl (cI, 11, .inl x_view_behind))]) (wn := [(q_, .inr (2, [.ref q_view])), (q_view, .inr (8, [.int x_view_posts, .int x_view_roads, .int x_view_weight, .ref q_view_weights, .ref q_view_near, .ref q_view_behind, .ref q_view_ahead])), (q_view_behind, .inl (cI, 11, .inl x_view_behind))]) (k_runSN (rest := []) (host := "NarrowRows") hx hb hml hown htb hK hN (c_X10_holds l dC dI cI cZ cN i1 s4 v8 hv _) sf_X10_holds nm_8 hP hD [] rfl rfl ⟨(Nat.le_of_ble_eq_true rfl), (Nat.le_of_ble_eq_true rfl)⟩ rfl hl.1 rfl (Nat.le_of_ble_eq_true rfl) dX2_leadingOut_20 ⟨Nat.zero_le _, Nat.zero_le _⟩) hA hP hD hS [] [0, 1, 2] [0, 1, 2] rfl rfl rfl rfl ?_
        clear hP hD hS
        intro H locs hP hD hS
        obtain ⟨t9, hv, hf⟩ := ob hf
        have key10 : ∀ (H : Heap) (locs : List Loc) (ls : Array Slot), va_P (dC, dI) vwCl [(q_, .inr (2, [.ref q_view])), (q_view, .inr (8, [.int x_view_posts, .int x_view_roads, .int x_view_weight, .ref q_view_weights, .ref q_view_near, .ref q_view_behind, .ref q_view_ahead])), (q_view_behind, .inl (cI, 11, .inl x_view_behind))] H → va_D A [(q_, .inr (2, [.ref q_view])), (q_view, .inr (8, [.int x_view_posts, .int x_view_roads, .int x_view_weight, .ref q_view_weights, .ref q_view_near, .ref q_view_behind, .ref q_view_ahead])), (q_view_behind, .inl (cI, 11, .inl x_view_behind))] → va_S A s.heap H locs → lv_has ls 5 [(0, .ref q_), (1, .int i1), (2, .ref q_view_behind), (3, .int t9), (4, .int s4)] → W p l e (rmK 3 81) s m args below meth c H locs 0 0 Q (F0 m 44 ls []) := by
          intro H locs ls hP hD hS hl
          refine lv_iinc (v := (s4 + (1 : Int32))) (lv' := [(4, .int (s4 + (1 : Int32))), (0, .ref q_), (1, .int i1), (2, .ref q_view_behind), (3, .int t9)]) hx hb dX2_leadingOut_44 hl (k := 4) rfl rfl (by decide) rfl (fun ls hl => ?_)
          refine lv_goto (tgt := 5) hx hb dX2_leadingOut_47 (by decide) ?_
          cases hf
          exact ih1 _ _ (itl hn1) _ _ _ hP hD hS (lv_sub hl [1, 2, 3, 4, 0] rfl)
        replace hf := hv
        refine lv_if_eq (tgt := 44) hx hb dX2_leadingOut_23 (by decide) (fun c11 => ?_) (fun c11 => ?_)
        · have hf := ip c11 hf
          cases hf
          exact key10 _ _ _ hP hD hS (lv_sub hl [0, 1, 2, 3, 4] rfl)
        · have hf := im c11 hf
          refine lv_aload_n hx hb dX2_leadingOut_26 rfl (lv_at hl 2 rfl) ?_
          refine lv_iload hx hb dX2_leadingOut_27 (lv_at hl 4 rfl) ?_
          obtain ⟨v12, hv, hf⟩ := ob hf
          refine k_iald hx hb hK hP 2 0 rfl rfl hv dX2_leadingOut_29 ?_
          refine lv_iload_n hx hb dX2_leadingOut_30 rfl (lv_at hl 1 rfl) ?_
          refine lv_iconst (v := (-1 : Int32)) hx hb dX2_leadingOut_31 (by decide) ?_
          refine lv_ixor hx hb dX2_leadingOut_32 ?_
          refine lv_iand hx hb dX2_leadingOut_33 ?_
          refine lv_if_eq (tgt := 44) hx hb dX2_leadingOut_34 (by decide) (fun c13 => ?_) (fun c13 => ?_)
          · have hf := ip c13 hf
            cases hf
            exact key10 _ _ _ hP hD hS (lv_sub hl [0, 1, 2, 3, 4] rfl)
          · have hf := im c13 hf
            refine lv_iload_n hx hb dX2_leadingOut_37 rfl (lv_at hl 3 rfl) ?_
            refine lv_iconst (v := (1 : Int32)) hx hb dX2_leadingOut_38 (by decide) ?_
            refine lv_iload hx hb dX2_leadingOut_39 (lv_at hl 4 rfl) ?_
            refine lv_ishl hx hb dX2_leadingOut_41 ?_
            refine lv_ior hx hb dX2_leadingOut_42 ?_
            refine lv_istore_n (lv' := [(3, .int (s3 ||| ((1 : Int32) <<< (s4 &&& 31)))), (0, .ref q_), (1, .int i1), (2, .ref q_view_behind), (4, .int s4)]) hx hb dX2_leadingOut_43 rfl hl (by decide) rfl (fun ls hl => ?_)
            cases hf
            exact key10 _ _ _ hP hD hS (lv_sub hl [1, 2, 3, 0, 4] rfl)
  exact kl5 n0 _ _ hn0 _ _ _ hP hD hS (lv_sub hl [2, 3, 4, 1, 0] rfl)
theorem vf_X2_priceWith : VF yX2_priceWith cX2_priceWith 8 (some .int) 4 := ⟨t_489, t_490, t_9, t_491, by decide +kernel, by decide +kernel, by decide +kernel⟩
theorem dX2_priceWith_0 : decode cX2_priceWith 0 = .ok (.iload_n 1, 1) := by decide +kernel
theorem dX2_priceWith_1 : decode cX2_priceWith 1 = .ok (.iconst 2, 1) := by decide +kernel
theorem dX2_priceWith_2 : decode cX2_priceWith 2 = .ok (.if_icmp .ne 24, 3) := by decide +kernel
theorem dX2_priceWith_5 : decode cX2_priceWith 5 = .ok (.aload_n 0, 1) := by decide +kernel
theorem dX2_priceWith_6 : decode cX2_priceWith 6 = .ok (.iload_n 3, 1) := by decide +kernel
theorem dX2_priceWith_7 : decode cX2_priceWith 7 = .ok (.iconst 1, 1) := by decide +kernel
theorem dX2_priceWith_8 : decode cX2_priceWith 8 = .ok (.iload 4, 2) := by decide +kernel
theorem dX2_priceWith_10 : decode cX2_priceWith 10 = .ok (.ishl, 1) := by decide +kernel
theorem dX2_priceWith_11 : decode cX2_priceWith 11 = .ok (.ior, 1) := by decide +kernel
theorem dX2_priceWith_12 : decode cX2_priceWith 12 = .ok (.aload_n 0, 1) := by decide +kernel
theorem dX2_priceWith_13 : decode cX2_priceWith 13 = .ok (.getfield 9, 3) := by decide +kernel
theorem dX2_priceWith_16 : decode cX2_priceWith 16 = .ok (.getfield 60, 3) := by decide +kernel
theorem dX2_priceWith_19 : decode cX2_priceWith 19 = .ok (.invokevirtual 63, 3) := by decide +kernel
theorem dX2_priceWith_22 : decode cX2_priceWith 22 = .ok (.invokestatic 67, 3) := by decide +kernel
theorem dX2_priceWith_25 : decode cX2_priceWith 25 = .ok (.ireturn, 1) := by decide +kernel
theorem dX2_priceWith_26 : decode cX2_priceWith 26 = .ok (.iload_n 1, 1) := by decide +kernel
theorem dX2_priceWith_27 : decode cX2_priceWith 27 = .ok (.iconst 5, 1) := by decide +kernel
theorem dX2_priceWith_28 : decode cX2_priceWith 28 = .ok (.if_icmp .ne 24, 3) := by decide +kernel
theorem dX2_priceWith_31 : decode cX2_priceWith 31 = .ok (.aload_n 0, 1) := by decide +kernel
theorem dX2_priceWith_32 : decode cX2_priceWith 32 = .ok (.iload_n 3, 1) := by decide +kernel
theorem dX2_priceWith_33 : decode cX2_priceWith 33 = .ok (.iconst 1, 1) := by decide +kernel
theorem dX2_priceWith_34 : decode cX2_priceWith 34 = .ok (.iload 4, 2) := by decide +kernel
theorem dX2_priceWith_36 : decode cX2_priceWith 36 = .ok (.ishl, 1) := by decide +kernel
theorem dX2_priceWith_37 : decode cX2_priceWith 37 = .ok (.ior, 1) := by decide +kernel
theorem dX2_priceWith_38 : decode cX2_priceWith 38 = .ok (.aload_n 0, 1) := by decide +kernel
theorem dX2_priceWith_39 : decode cX2_priceWith 39 = .ok (.getfield 9, 3) := by decide +kernel
theorem dX2_priceWith_42 : decode cX2_priceWith 42 = .ok (.getfield 73, 3) := by decide +kernel
theorem dX2_priceWith_45 : decode cX2_priceWith 45 = .ok (.invokevirtual 63, 3) := by decide +kernel
theorem dX2_priceWith_48 : decode cX2_priceWith 48 = .ok (.invokestatic 67, 3) := by decide +kernel
theorem dX2_priceWith_51 : decode cX2_priceWith 51 = .ok (.ireturn, 1) := by decide +kernel
theorem dX2_priceWith_52 : decode cX2_priceWith 52 = .ok (.iload_n 2, 1) := by decide +kernel
theorem dX2_priceWith_53 : decode cX2_priceWith 53 = .ok (.istore 5, 2) := by decide +kernel
theorem dX2_priceWith_55 : decode cX2_priceWith 55 = .ok (.iconst 0, 1) := by decide +kernel
theorem dX2_priceWith_56 : decode cX2_priceWith 56 = .ok (.istore 6, 2) := by decide +kernel
theorem dX2_priceWith_58 : decode cX2_priceWith 58 = .ok (.iload 6, 2) := by decide +kernel
theorem dX2_priceWith_60 : decode cX2_priceWith 60 = .ok (.aload_n 0, 1) := by decide +kernel
theorem dX2_priceWith_61 : decode cX2_priceWith 61 = .ok (.getfield 9, 3) := by decide +kernel
theorem dX2_priceWith_64 : decode cX2_priceWith 64 = .ok (.getfield 55, 3) := by decide +kernel
theorem dX2_priceWith_67 : decode cX2_priceWith 67 = .ok (.if_icmp .ge 44, 3) := by decide +kernel
theorem dX2_priceWith_70 : decode cX2_priceWith 70 = .ok (.aload_n 0, 1) := by decide +kernel
theorem dX2_priceWith_71 : decode cX2_priceWith 71 = .ok (.getfield 9, 3) := by decide +kernel
theorem dX2_priceWith_74 : decode cX2_priceWith 74 = .ok (.iload 4, 2) := by decide +kernel
theorem dX2_priceWith_76 : decode cX2_priceWith 76 = .ok (.iload 6, 2) := by decide +kernel
theorem dX2_priceWith_78 : decode cX2_priceWith 78 = .ok (.invokevirtual 45, 3) := by decide +kernel
theorem dX2_priceWith_81 : decode cX2_priceWith 81 = .ok (.istore 7, 2) := by decide +kernel
theorem dX2_priceWith_83 : decode cX2_priceWith 83 = .ok (.iload 5, 2) := by decide +kernel
theorem dX2_priceWith_85 : decode cX2_priceWith 85 = .ok (.iload_n 3, 1) := by decide +kernel
theorem dX2_priceWith_86 : decode cX2_priceWith 86 = .ok (.iload 6, 2) := by decide +kernel
theorem dX2_priceWith_88 : decode cX2_priceWith 88 = .ok (.invokestatic 76, 3) := by decide +kernel
theorem dX2_priceWith_91 : decode cX2_priceWith 91 = .ok (.ifCond .eq 9, 3) := by decide +kernel
theorem dX2_priceWith_94 : decode cX2_priceWith 94 = .ok (.iload 7, 2) := by decide +kernel
theorem dX2_priceWith_96 : decode cX2_priceWith 96 = .ok (.ineg, 1) := by decide +kernel
theorem dX2_priceWith_97 : decode cX2_priceWith 97 = .ok (.goto 5, 3) := by decide +kernel
theorem dX2_priceWith_100 : decode cX2_priceWith 100 = .ok (.iload 7, 2) := by decide +kernel
theorem dX2_priceWith_102 : decode cX2_priceWith 102 = .ok (.iadd, 1) := by decide +kernel
theorem dX2_priceWith_103 : decode cX2_priceWith 103 = .ok (.istore 5, 2) := by decide +kernel
theorem dX2_priceWith_105 : decode cX2_priceWith 105 = .ok (.iinc 6 1, 3) := by decide +kernel
theorem dX2_priceWith_108 : decode cX2_priceWith 108 = .ok (.goto (-50), 3) := by decide +kernel
theorem dX2_priceWith_111 : decode cX2_priceWith 111 = .ok (.iload 5, 2) := by decide +kernel
theorem dX2_priceWith_113 : decode cX2_priceWith 113 = .ok (.ireturn, 1) := by decide +kernel
noncomputable def f_X2_priceWith_L58 (i3 : Int32) (i4 : Int32) (x_view_posts : Int32) (x_view_weights : Nat → Int32) (i5 : Int32) (i6 : Int32) : Option ((Int32 × Int32) ⊕ (Int32)) :=
  if x_view_posts ≤ i6 then (some (.inr i5)) else ((f_X9_weightOf x_view_weights i4 i6).bind fun v4 =>
  (f_X10_holds i3 i6).bind fun v5 =>
  ((if v5 = 0 then (some v4) else (some (-v4)) : Option (Int32))).bind fun t6 =>
  some (.inl ((i5 + t6), (i6 + (1 : Int32)))))
noncomputable def f_X2_priceWith (x_view_posts : Int32) (x_view_weights : Nat → Int32) (x_view_near : Nat → Int32) (x_view_behind : Nat → Int32) (i1 : Int32) (i2 : Int32) (i3 : Int32) (i4 : Int32) : Option (Int32) :=
  if i1 = (2 : Int32) then ((f_X2_leadingOut_near x_view_posts x_view_near (i3 ||| ((1 : Int32) <<< (i4 &&& 31)))).bind fun v11 =>
  (f_J6_bitCount_0f7a4 v11).bind fun v12 =>
  some (v12)) else (if i1 = (5 : Int32) then ((f_X2_leadingOut_behind x_view_posts x_view_behind (i3 ||| ((1 : Int32) <<< (i4 &&& 31)))).bind fun v9 =>
  (f_J6_bitCount_0f7a4 v9).bind fun v10 =>
  some (v10)) else ((loopS (fun (s : Int32 × Int32) => f_X2_priceWith_L58 i3 i4 x_view_posts x_view_weights s.1 s.2) (i2, (0 : Int32))).bind fun x3 =>
  some (x3)))
set_option maxHeartbeats 4000000 in
set_option maxRecDepth 100000 in
theorem c_X2_priceWith (l : Launch) (dC : Nat → ClassId) (dI : Nat → Nat → Nat) (cI cZ cN : ClassId) (q_ : Nat) (q_view : Nat) (q_view_weights : Nat) (q_view_near : Nat) (q_view_behind : Nat) (q_view_ahead : Nat) (x_view_posts : Int32) (x_view_roads : Int32) (x_view_weight : Int32) (x_view_weights : Nat → Int32) (x_view_near : Nat → Int32) (x_view_behind : Nat → Int32) (i1 i2 i3 i4 : Int32) (r : Int32) (hf : f_X2_priceWith x_view_posts x_view_weights x_view_near x_view_behind i1 i2 i3 i4 = some r) : CI l yX2_priceWith cX2_priceWith 8 (some .int) 4 105 (dC, dI) (TY cI cZ cN) [.ref q_, .int i1, .int i2, .int i3, .int i4] [(q_, .inr (2, [.ref q_view])), (q_view, .inr (8, [.int x_view_posts, .int x_view_roads, .int x_view_weight, .ref q_view_weights, .ref q_view_near, .ref q_view_behind, .ref q_view_ahead])), (q_view_weights, .inl (cI, 121, .inl x_view_weights)), (q_view_near, .inl (cI, 11, .inl x_view_near)), (q_view_behind, .inl (cI, 11, .inl x_view_behind))] [(q_, .inr (2, [.ref q_view])), (q_view, .inr (8, [.int x_view_posts, .int x_view_roads, .int x_view_weight, .ref q_view_weights, .ref q_view_near, .ref q_view_behind, .ref q_view_ahead])), (q_view_weights, .inl (cI, 121, .inl x_view_weights)), (q_view_near, .inl (cI, 11, .inl x_view_near)), (q_view_behind, .inl (cI, 11, .inl x_view_behind))] r := by
  refine CI.of rfl (by decide) (Nat.le_of_ble_eq_true rfl) ?_
  intro p e s m args below meth c Q A ls hx hb hml hown htb hK hN hA hP hD hS hl hret
  have hown : s.vm.findClass RX2 = some m.cls := hown
  have hl : lv_has ls 8 [(0, .ref q_), (1, .int i1), (2, .int i2), (3, .int i3), (4, .int i4)] := hl
  have hret : ∀ (r9 : Int32), some r9 = some r → ∀ (H : Heap) (locs : List Loc) (pc : Nat) (ls : Array Slot), narrow .int (.int r9) = .int r9 → decode cX2_priceWith pc = .ok (.ireturn, 1) → va_P (dC, dI) vwCl [(q_, .inr (2, [.ref q_view])), (q_view, .inr (8, [.int x_view_posts, .int x_view_roads, .int x_view_weight, .ref q_view_weights, .ref q_view_near, .ref q_view_behind, .ref q_view_ahead])), (q_view_weights, .inl (cI, 121, .inl x_view_weights)), (q_view_near, .inl (cI, 11, .inl x_view_near)), (q_view_behind, .inl (cI, 11, .inl x_view_behind))] H → va_D A [(q_, .inr (2, [.ref q_view])), (q_view, .inr (8, [.int x_view_posts, .int x_view_roads, .int x_view_weight, .ref q_view_weights, .ref q_view_near, .ref q_view_behind, .ref q_view_ahead])), (q_view_weights, .inl (cI, 121, .inl x_view_weights)), (q_view_near, .inl (cI, 11, .inl x_view_near)), (q_view_behind, .inl (cI, 11, .inl x_view_behind))] → va_S A s.heap H locs → W p l e (rmK 4 105) s m args below meth c H locs 0 0 Q (F0 m pc ls [.int r9]) := by
    intro r9 h9
    cases h9
    exact hret
  unfold f_X2_priceWith at hf
  refine lv_iload_n hx hb dX2_priceWith_0 rfl (lv_at hl 1 rfl) ?_
  refine lv_iconst (v := (2 : Int32)) hx hb dX2_priceWith_1 (by decide) ?_
  refine lv_icmp_ne (tgt := 26) hx hb dX2_priceWith_2 (by decide) (fun c1 => ?_) (fun c1 => ?_)
  · have hf := im c1 hf
    refine lv_iload_n hx hb dX2_priceWith_26 rfl (lv_at hl 1 rfl) ?_
    refine lv_iconst (v := (5 : Int32)) hx hb dX2_priceWith_27 (by decide) ?_
    refine lv_icmp_ne (tgt := 52) hx hb dX2_priceWith_28 (by decide) (fun c2 => ?_) (fun c2 => ?_)
    · have hf := im c2 hf
      refine lv_iload_n hx hb dX2_priceWith_52 rfl (lv_at hl 2 rfl) ?_
      refine lv_istore (lv' := [(5, .int i2), (0, .ref q_), (1, .int i1), (2, .int i2), (3, .int i3), (4, .int i4)]) hx hb dX2_priceWith_53 hl (by decide) rfl (fun ls hl => ?_)
      refine lv_iconst (v := (0 : Int32)) hx hb dX2_priceWith_55 (by decide) ?_
      refine lv_istore (lv' := [(6, .int (0 : Int32)), (5, .int i2), (0, .ref q_), (1, .int i1), (2, .int i2), (3, .int i3), (4, .int i4)]) hx hb dX2_priceWith_56 hl (by decide) rfl (fun ls hl => ?_)
      obtain ⟨x3, hL, hf⟩ := ob hf
      have kx4 : ∀ (H : Heap) (locs : List Loc) (ls : Array Slot), va_P (dC, dI) vwCl [(q_, .inr (2, [.ref q_view])), (q_view, .inr (8, [.int x_view_posts, .int x_view_roads, .int x_view_weight, .ref q_view_weights, .ref q_view_near, .ref q_view_behind, .ref q_view_ahead])), (q_view_weights, .inl (cI, 121, .inl x_view_weights)), (q_view_near, .inl (cI, 11, .inl x_view_near)), (q_view_behind, .inl (cI, 11, .inl x_view_behind))] H → va_D A [(q_, .inr (2, [.ref q_view])), (q_view, .inr (8, [.int x_view_posts, .int x_view_roads, .int x_view_weight, .ref q_view_weights, .ref q_view_near, .ref q_view_behind, .ref q_view_ahead])), (q_view_weights, .inl (cI, 121, .inl x_view_weights)), (q_view_near, .inl (cI, 11, .inl x_view_near)), (q_view_behind, .inl (cI, 11, .inl x_view_behind))] → va_S A s.heap H locs → lv_has ls 8 [(5, .int x3)] → W p l e (rmK 4 105) s m args below meth c H locs 0 0 Q (F0 m 111 ls []) := by
        intro H locs ls hP hD hS hl
        refine lv_iload hx hb dX2_priceWith_111 (lv_at hl 0 rfl) ?_
        exact hret _ hf _ _ _ _ rfl dX2_priceWith_113 hP hD hS
      obtain ⟨n0, hn0⟩ := loopS_iter hL
      clear hf
      have kl7 : ∀ (n : Nat) (s5 : Int32) (s6 : Int32), iterS (fun (s : Int32 × Int32) => f_X2_priceWith_L58 i3 i4 x_view_posts x_view_weights s.1 s.2) n (s5, s6) = some x3 → ∀ (H : Heap) (locs : List Loc) (ls : Array Slot), va_P (dC, dI) vwCl [(q_, .inr (2, [.ref q_view])), (q_view, .inr (8, [.int x_view_posts, .int x_view_roads, .int x_view_weight, .ref q_view_weights, .ref q_view_near, .ref q_view_behind, .ref q_view_ahead])), (q_view_weights, .inl (cI, 121, .inl x_view_weights)), (q_view_near, .inl (cI, 11, .inl x_view_near)), (q_view_behind, .inl (cI, 11, .inl x_view_behind))] H → va_D A [(q_, .inr (2, [.ref q_view])), (q_view, .inr (8, [.int x_view_posts, .int x_view_roads, .int x_view_weight, .ref q_view_weights, .ref q_view_near, .ref q_view_behind, .ref q_view_ahead])), (q_view_weights, .inl (cI, 121, .inl x_view_weights)), (q_view_near, .inl (cI, 11, .inl x_view_near)), (q_view_behind, .inl (cI, 11, .inl x_view_behind))] → va_S A s.heap H locs → lv_has ls 8 [(0, .ref q_), (3, .int i3), (4, .int i4), (5, .int s5), (6, .int s6)] → W p l e (rmK 4 105) s m args below meth c H locs 0 0 Q (F0 m 58 ls []) := by
        intro n
        induction n with
        | zero =>
          intro s5 s6 hn1
          cases hn1
        | succ n ih1 =>
          intro s5 s6 hn1 H locs ls hP hD hS hl
          obtain ⟨r8, hf, hn1⟩ := it1 hn1
          replace hf : f_X2_priceWith_L58 i3 i4 x_view_posts x_view_weights s5 s6 = some r8 := hf
          unfold f_X2_priceWith_L58 at hf
          refine lv_iload hx hb dX2_priceWith_58 (lv_at hl 4 rfl) ?_
          refine lv_aload_n hx hb dX2_priceWith_60 rfl (lv_at hl 0 rfl) ?_
          refine va_get (D := (dC, dI)) (ci := 2) (v := .ref q_view) (C := RX2) (T := TX2) (N := 1) hx hb htb inX2 hown hK hP 0 rfl rfl 0 (Nat.le_of_ble_eq_true rfl) (htb _ t_197) (fun _ h9 => h9) rfl dX2_priceWith_61 ?_
          refine va_get (D := (dC, dI)) (ci := 8) (v := .int x_view_posts) (C := RX9) (T := TX9) (N := 7) hx hb htb inX9 hown hK hP 1 rfl rfl 0 (Nat.le_of_ble_eq_true rfl) (htb _ t_71) (fun _ h9 => h9) rfl dX2_priceWith_64 ?_
          refine lv_icmp_ge (tgt := 111) hx hb dX2_priceWith_67 (by decide) (fun c9 => ?_) (fun c9 => ?_)
          · have hf := ip c9 hf
            cases hf
            cases (itr hn1)
            exact kx4 _ _ _ hP hD hS (lv_sub hl [3] rfl)
          · have hf := im c9 hf
            refine lv_aload_n hx hb dX2_priceWith_70 rfl (lv_at hl 0 rfl) ?_
            refine va_get (D := (dC, dI)) (ci := 2) (v := .ref q_view) (C := RX2) (T := TX2) (N := 1) hx hb htb inX2 hown hK hP 0 rfl rfl 0 (Nat.le_of_ble_eq_true rfl) (htb _ t_197) (fun _ h9 => h9) rfl dX2_priceWith_71 ?_
            refine lv_iload hx hb dX2_priceWith_74 (lv_at hl 2 rfl) ?_
            refine lv_iload hx hb dX2_priceWith_76 (lv_at hl 4 rfl) ?_
            obtain ⟨v10, hv, hf⟩ := ob hf
            refine k_afterI (wr := [(q_, .inr (2, [.ref q_view])), (q_view_near, .inl (cI, 11, .inl x_view_near)), (q_view_behind, .inl (cI, 11, .inl x_view_behind))]) (wn := [(q_, .inr (2, [.ref q_view])), (q_view, .inr (8, [.int x_view_posts, .int x_view_roads, .int x_view_weight, .ref q_view_weights, .ref q_view_near, .ref q_view_behind, .ref q_view_ahead])), (q_view_weights, .inl (cI, 121, .inl x_view_weights)), (q_view_near, .inl (cI, 11, .inl x_view_near)), (q_view_behind, .inl (cI, 11, .inl x_view_behind))]) (k_runV (rest := []) (ci := 8) (q0 := 1) hx hb hml hown htb hK hN (c_X9_weightOf l dC dI cI cZ cN q_view q_view_weights q_view_near q_view_behind q_view_ahead x_view_posts x_view_roads x_view_weight x_view_weights i4 s6 v10 hv _) vf_X9_weightOf t_481 hP hD [1, 2] rfl rfl rfl rfl ⟨(Nat.le_of_ble_eq_true rfl), (Nat.le_of_ble_eq_true rfl)⟩ rfl hl.1 rfl (Nat.le_of_ble_eq_true rfl) dX2_priceWith_78 ⟨Nat.zero_le _, Nat.zero_le _⟩) hA hP hD hS [1, 2] [0, 3, 4] [0, 3, 4, 1, 2] rfl rfl rfl rfl ?_
            clear hP hD hS
            intro H locs hP hD hS
            refine lv_istore (lv' := [(7, .int v10), (0, .ref q_), (3, .int i3), (4, .int i4), (5, .int s5), (6, .int s6)]) hx hb dX2_priceWith_81 hl (by decide) rfl (fun ls hl => ?_)
            refine lv_iload hx hb dX2_priceWith_83 (lv_at hl 4 rfl) ?_
            refine lv_iload_n hx hb dX2_priceWith_85 rfl (lv_at hl 2 rfl) ?_
            refine lv_iload hx hb dX2_priceWith_86 (lv_at hl 5 rfl) ?_
            obtain ⟨v11, hv, hf⟩ := ob hf
            refine k_afterI (wr := [(q_, .inr (2, [.ref q_view])), (q_view, .inr (8, [.int x_view_posts, .int x_view_roads, .int x_view_weight, .ref q_view_weights, .ref q_view_near, .ref q_view_behind, .ref q_view_ahead])), (q_view_weights, .inl (cI, 121, .inl x_view_weights)), (q_view_near, .inl (cI, 11, .inl x_view_near)), (q_view_behind, .inl (cI, 11, .inl x_view_behind))]) (wn := [(q_, .inr (2, [.ref q_view])), (q_view, .inr (8, [.int x_view_posts, .int x_view_roads, .int x_view_weight, .ref q_view_weights, .ref q_view_near, .ref q_view_behind, .ref q_view_ahead])), (q_view_weights, .inl (cI, 121, .inl x_view_weights)), (q_view_near, .inl (cI, 11, .inl x_view_near)), (q_view_behind, .inl (cI, 11, .inl x_view_behind))]) (k_runSN (rest := [.int s5]) (host := "NarrowRows") hx hb hml hown htb hK hN (c_X10_holds l dC dI cI cZ cN i3 s6 v11 hv _) sf_X10_holds nm_8 hP hD [] rfl rfl ⟨(Nat.le_of_ble_eq_true rfl), (Nat.le_of_ble_eq_true rfl)⟩ rfl hl.1 rfl (Nat.le_of_ble_eq_true rfl) dX2_priceWith_88 ⟨Nat.zero_le _, Nat.zero_le _⟩) hA hP hD hS [] [0, 1, 2, 3, 4] [0, 1, 2, 3, 4] rfl rfl rfl rfl ?_
            clear hP hD hS
            intro H locs hP hD hS
            obtain ⟨t12, hv, hf⟩ := ob hf
            have key13 : ∀ (H : Heap) (locs : List Loc) (ls : Array Slot), va_P (dC, dI) vwCl [(q_, .inr (2, [.ref q_view])), (q_view, .inr (8, [.int x_view_posts, .int x_view_roads, .int x_view_weight, .ref q_view_weights, .ref q_view_near, .ref q_view_behind, .ref q_view_ahead])), (q_view_weights, .inl (cI, 121, .inl x_view_weights)), (q_view_near, .inl (cI, 11, .inl x_view_near)), (q_view_behind, .inl (cI, 11, .inl x_view_behind))] H → va_D A [(q_, .inr (2, [.ref q_view])), (q_view, .inr (8, [.int x_view_posts, .int x_view_roads, .int x_view_weight, .ref q_view_weights, .ref q_view_near, .ref q_view_behind, .ref q_view_ahead])), (q_view_weights, .inl (cI, 121, .inl x_view_weights)), (q_view_near, .inl (cI, 11, .inl x_view_near)), (q_view_behind, .inl (cI, 11, .inl x_view_behind))] → va_S A s.heap H locs → lv_has ls 8 [(0, .ref q_), (3, .int i3), (4, .int i4), (6, .int s6)] → W p l e (rmK 4 105) s m args below meth c H locs 0 0 Q (F0 m 102 ls [.int t12, .int s5]) := by
              intro H locs ls hP hD hS hl
              refine lv_iadd hx hb dX2_priceWith_102 ?_
              refine lv_istore (lv' := [(5, .int (s5 + t12)), (0, .ref q_), (3, .int i3), (4, .int i4), (6, .int s6)]) hx hb dX2_priceWith_103 hl (by decide) rfl (fun ls hl => ?_)
              refine lv_iinc (v := (s6 + (1 : Int32))) (lv' := [(6, .int (s6 + (1 : Int32))), (5, .int (s5 + t12)), (0, .ref q_), (3, .int i3), (4, .int i4)]) hx hb dX2_priceWith_105 hl (k := 4) rfl rfl (by decide) rfl (fun ls hl => ?_)
              refine lv_goto (tgt := 58) hx hb dX2_priceWith_108 (by decide) ?_
              cases hf
              exact ih1 _ _ (itl hn1) _ _ _ hP hD hS (lv_sub hl [2, 3, 4, 1, 0] rfl)
            replace hf := hv
            refine lv_if_eq (tgt := 100) hx hb dX2_priceWith_91 (by decide) (fun c14 => ?_) (fun c14 => ?_)
            · have hf := ip c14 hf
              refine lv_iload hx hb dX2_priceWith_100 (lv_at hl 0 rfl) ?_
              cases hf
              exact key13 _ _ _ hP hD hS (lv_sub hl [1, 2, 3, 5] rfl)
            · have hf := im c14 hf
              refine lv_iload hx hb dX2_priceWith_94 (lv_at hl 0 rfl) ?_
              refine lv_ineg hx hb dX2_priceWith_96 ?_
              refine lv_goto (tgt := 102) hx hb dX2_priceWith_97 (by decide) ?_
              cases hf
              exact key13 _ _ _ hP hD hS (lv_sub hl [1, 2, 3, 5] rfl)
      exact kl7 n0 _ _ hn0 _ _ _ hP hD hS (lv_sub hl [2, 5, 6, 1, 0] rfl)
    · have hf := ip c2 hf
      refine lv_aload_n hx hb dX2_priceWith_31 rfl (lv_at hl 0 rfl) ?_
      refine lv_iload_n hx hb dX2_priceWith_32 rfl (lv_at hl 3 rfl) ?_
      refine lv_iconst (v := (1 : Int32)) hx hb dX2_priceWith_33 (by decide) ?_
      refine lv_iload hx hb dX2_priceWith_34 (lv_at hl 4 rfl) ?_
      refine lv_ishl hx hb dX2_priceWith_36 ?_
      refine lv_ior hx hb dX2_priceWith_37 ?_
      refine lv_aload_n hx hb dX2_priceWith_38 rfl (lv_at hl 0 rfl) ?_
      refine va_get (D := (dC, dI)) (ci := 2) (v := .ref q_view) (C := RX2) (T := TX2) (N := 1) hx hb htb inX2 hown hK hP 0 rfl rfl 0 (Nat.le_of_ble_eq_true rfl) (htb _ t_197) (fun _ h9 => h9) rfl dX2_priceWith_39 ?_
      refine va_get (D := (dC, dI)) (ci := 8) (v := .ref q_view_behind) (C := RX9) (T := TX9) (N := 7) hx hb htb inX9 hown hK hP 1 rfl rfl 5 (Nat.le_of_ble_eq_true rfl) (htb _ t_85) (fun _ h9 => h9) rfl dX2_priceWith_42 ?_
      obtain ⟨v15, hv, hf⟩ := ob hf
      refine k_afterI (wr := [(q_view_weights, .inl (cI, 121, .inl x_view_weights)), (q_view_near, .inl (cI, 11, .inl x_view_near))]) (wn := [(q_, .inr (2, [.ref q_view])), (q_view, .inr (8, [.int x_view_posts, .int x_view_roads, .int x_view_weight, .ref q_view_weights, .ref q_view_near, .ref q_view_behind, .ref q_view_ahead])), (q_view_weights, .inl (cI, 121, .inl x_view_weights)), (q_view_near, .inl (cI, 11, .inl x_view_near)), (q_view_behind, .inl (cI, 11, .inl x_view_behind))]) (k_runV (rest := []) (ci := 2) (q0 := 0) hx hb hml hown htb hK hN (c_X2_leadingOut_behind l dC dI cI cZ cN q_ q_view q_view_weights q_view_near q_view_behind q_view_ahead x_view_posts x_view_roads x_view_weight x_view_behind (i3 ||| ((1 : Int32) <<< (i4 &&& 31))) v15 hv _) vf_X2_leadingOut t_492 hP hD [0, 1, 4] rfl rfl rfl rfl ⟨(Nat.le_of_ble_eq_true rfl), (Nat.le_of_ble_eq_true rfl)⟩ rfl hl.1 rfl (Nat.le_of_ble_eq_true rfl) dX2_priceWith_45 ⟨Nat.zero_le _, Nat.zero_le _⟩) hA hP hD hS [0, 1, 4] [2, 3] [2, 3, 0, 1, 4] rfl rfl rfl rfl ?_
      clear hP hD hS
      intro H locs hP hD hS
      obtain ⟨v16, hv, hf⟩ := ob hf
      refine k_afterI (wr := [(q_, .inr (2, [.ref q_view])), (q_view, .inr (8, [.int x_view_posts, .int x_view_roads, .int x_view_weight, .ref q_view_weights, .ref q_view_near, .ref q_view_behind, .ref q_view_ahead])), (q_view_weights, .inl (cI, 121, .inl x_view_weights)), (q_view_near, .inl (cI, 11, .inl x_view_near)), (q_view_behind, .inl (cI, 11, .inl x_view_behind))]) (wn := [(q_, .inr (2, [.ref q_view])), (q_view, .inr (8, [.int x_view_posts, .int x_view_roads, .int x_view_weight, .ref q_view_weights, .ref q_view_near, .ref q_view_behind, .ref q_view_ahead])), (q_view_weights, .inl (cI, 121, .inl x_view_weights)), (q_view_near, .inl (cI, 11, .inl x_view_near)), (q_view_behind, .inl (cI, 11, .inl x_view_behind))]) (k_runS (rest := []) hx hb hml hown htb hK hN (c_J6_bitCount_0f7a4 l dC dI cI cZ cN v15 v16 hv _) sf_J6_bitCount_0f7a4 t_497 hP hD [] rfl rfl ⟨(Nat.le_of_ble_eq_true rfl), (Nat.le_of_ble_eq_true rfl)⟩ rfl hl.1 rfl (Nat.le_of_ble_eq_true rfl) dX2_priceWith_48 ⟨Nat.zero_le _, Nat.zero_le _⟩) hA hP hD hS [] [0, 1, 2, 3, 4] [0, 1, 2, 3, 4] rfl rfl rfl rfl ?_
      clear hP hD hS
      intro H locs hP hD hS
      exact hret _ hf _ _ _ _ rfl dX2_priceWith_51 hP hD hS
  · have hf := ip c1 hf
    refine lv_aload_n hx hb dX2_priceWith_5 rfl (lv_at hl 0 rfl) ?_
    refine lv_iload_n hx hb dX2_priceWith_6 rfl (lv_at hl 3 rfl) ?_
    refine lv_iconst (v := (1 : Int32)) hx hb dX2_priceWith_7 (by decide) ?_
    refine lv_iload hx hb dX2_priceWith_8 (lv_at hl 4 rfl) ?_
    refine lv_ishl hx hb dX2_priceWith_10 ?_
    refine lv_ior hx hb dX2_priceWith_11 ?_
    refine lv_aload_n hx hb dX2_priceWith_12 rfl (lv_at hl 0 rfl) ?_
    refine va_get (D := (dC, dI)) (ci := 2) (v := .ref q_view) (C := RX2) (T := TX2) (N := 1) hx hb htb inX2 hown hK hP 0 rfl rfl 0 (Nat.le_of_ble_eq_true rfl) (htb _ t_197) (fun _ h9 => h9) rfl dX2_priceWith_13 ?_
    refine va_get (D := (dC, dI)) (ci := 8) (v := .ref q_view_near) (C := RX9) (T := TX9) (N := 7) hx hb htb inX9 hown hK hP 1 rfl rfl 4 (Nat.le_of_ble_eq_true rfl) (htb _ t_82) (fun _ h9 => h9) rfl dX2_priceWith_16 ?_
    obtain ⟨v17, hv, hf⟩ := ob hf
    refine k_afterI (wr := [(q_view_weights, .inl (cI, 121, .inl x_view_weights)), (q_view_behind, .inl (cI, 11, .inl x_view_behind))]) (wn := [(q_, .inr (2, [.ref q_view])), (q_view, .inr (8, [.int x_view_posts, .int x_view_roads, .int x_view_weight, .ref q_view_weights, .ref q_view_near, .ref q_view_behind, .ref q_view_ahead])), (q_view_weights, .inl (cI, 121, .inl x_view_weights)), (q_view_near, .inl (cI, 11, .inl x_view_near)), (q_view_behind, .inl (cI, 11, .inl x_view_behind))]) (k_runV (rest := []) (ci := 2) (q0 := 0) hx hb hml hown htb hK hN (c_X2_leadingOut_near l dC dI cI cZ cN q_ q_view q_view_weights q_view_near q_view_behind q_view_ahead x_view_posts x_view_roads x_view_weight x_view_near (i3 ||| ((1 : Int32) <<< (i4 &&& 31))) v17 hv _) vf_X2_leadingOut t_492 hP hD [0, 1, 3] rfl rfl rfl rfl ⟨(Nat.le_of_ble_eq_true rfl), (Nat.le_of_ble_eq_true rfl)⟩ rfl hl.1 rfl (Nat.le_of_ble_eq_true rfl) dX2_priceWith_19 ⟨Nat.zero_le _, Nat.zero_le _⟩) hA hP hD hS [0, 1, 3] [2, 4] [2, 3, 0, 4, 1] rfl rfl rfl rfl ?_
    clear hP hD hS
    intro H locs hP hD hS
    obtain ⟨v18, hv, hf⟩ := ob hf
    refine k_afterI (wr := [(q_, .inr (2, [.ref q_view])), (q_view, .inr (8, [.int x_view_posts, .int x_view_roads, .int x_view_weight, .ref q_view_weights, .ref q_view_near, .ref q_view_behind, .ref q_view_ahead])), (q_view_weights, .inl (cI, 121, .inl x_view_weights)), (q_view_near, .inl (cI, 11, .inl x_view_near)), (q_view_behind, .inl (cI, 11, .inl x_view_behind))]) (wn := [(q_, .inr (2, [.ref q_view])), (q_view, .inr (8, [.int x_view_posts, .int x_view_roads, .int x_view_weight, .ref q_view_weights, .ref q_view_near, .ref q_view_behind, .ref q_view_ahead])), (q_view_weights, .inl (cI, 121, .inl x_view_weights)), (q_view_near, .inl (cI, 11, .inl x_view_near)), (q_view_behind, .inl (cI, 11, .inl x_view_behind))]) (k_runS (rest := []) hx hb hml hown htb hK hN (c_J6_bitCount_0f7a4 l dC dI cI cZ cN v17 v18 hv _) sf_J6_bitCount_0f7a4 t_497 hP hD [] rfl rfl ⟨(Nat.le_of_ble_eq_true rfl), (Nat.le_of_ble_eq_true rfl)⟩ rfl hl.1 rfl (Nat.le_of_ble_eq_true rfl) dX2_priceWith_22 ⟨Nat.zero_le _, Nat.zero_le _⟩) hA hP hD hS [] [0, 1, 2, 3, 4] [0, 1, 2, 3, 4] rfl rfl rfl rfl ?_
    clear hP hD hS
    intro H locs hP hD hS
    exact hret _ hf _ _ _ _ rfl dX2_priceWith_25 hP hD hS
theorem vf_X2_join : VF yX2_join cX2_join 4 (some .int) 3 := ⟨t_499, t_500, t_9, t_501, by decide +kernel, by decide +kernel, by decide +kernel⟩
theorem dX2_join_0 : decode cX2_join 0 = .ok (.iload_n 1, 1) := by decide +kernel
theorem dX2_join_1 : decode cX2_join 1 = .ok (.iconst 3, 1) := by decide +kernel
theorem dX2_join_2 : decode cX2_join 2 = .ok (.if_icmp .ne 9, 3) := by decide +kernel
theorem dX2_join_5 : decode cX2_join 5 = .ok (.iload_n 2, 1) := by decide +kernel
theorem dX2_join_6 : decode cX2_join 6 = .ok (.iload_n 3, 1) := by decide +kernel
theorem dX2_join_7 : decode cX2_join 7 = .ok (.iadd, 1) := by decide +kernel
theorem dX2_join_8 : decode cX2_join 8 = .ok (.goto 8, 3) := by decide +kernel
theorem dX2_join_11 : decode cX2_join 11 = .ok (.iload_n 2, 1) := by decide +kernel
theorem dX2_join_12 : decode cX2_join 12 = .ok (.iload_n 3, 1) := by decide +kernel
theorem dX2_join_13 : decode cX2_join 13 = .ok (.invokestatic 50, 3) := by decide +kernel
theorem dX2_join_16 : decode cX2_join 16 = .ok (.ireturn, 1) := by decide +kernel
noncomputable def f_X2_join (i1 : Int32) (i2 : Int32) (i3 : Int32) : Option (Int32) :=
  if i1 = (3 : Int32) then (some ((i2 + i3))) else (some ((if i2 < i3 then i3 else i2)))
set_option maxHeartbeats 4000000 in
set_option maxRecDepth 100000 in
theorem c_X2_join (l : Launch) (dC : Nat → ClassId) (dI : Nat → Nat → Nat) (cI cZ cN : ClassId) (q_ : Nat) (i1 i2 i3 : Int32) (r : Int32) (hf : f_X2_join i1 i2 i3 = some r) : CI l yX2_join cX2_join 4 (some .int) 2 60 (dC, dI) (TY cI cZ cN) [.ref q_, .int i1, .int i2, .int i3] [] [] r := by
  refine CI.of rfl (by decide) (Nat.le_of_ble_eq_true rfl) ?_
  intro p e s m args below meth c Q A ls hx hb hml hown htb hK hN hA hP hD hS hl hret
  have hown : s.vm.findClass RX2 = some m.cls := hown
  have hl : lv_has ls 4 [(0, .ref q_), (1, .int i1), (2, .int i2), (3, .int i3)] := hl
  have hret : ∀ (r9 : Int32), some r9 = some r → ∀ (H : Heap) (locs : List Loc) (pc : Nat) (ls : Array Slot), narrow .int (.int r9) = .int r9 → decode cX2_join pc = .ok (.ireturn, 1) → va_P (dC, dI) vwCl [] H → va_D A [] → va_S A s.heap H locs → W p l e (rmK 2 60) s m args below meth c H locs 0 0 Q (F0 m pc ls [.int r9]) := by
    intro r9 h9
    cases h9
    exact hret
  unfold f_X2_join at hf
  refine lv_iload_n hx hb dX2_join_0 rfl (lv_at hl 1 rfl) ?_
  refine lv_iconst (v := (3 : Int32)) hx hb dX2_join_1 (by decide) ?_
  refine lv_icmp_ne (tgt := 11) hx hb dX2_join_2 (by decide) (fun c1 => ?_) (fun c1 => ?_)
  · have hf := im c1 hf
    refine lv_iload_n hx hb dX2_join_11 rfl (lv_at hl 2 rfl) ?_
    refine lv_iload_n hx hb dX2_join_12 rfl (lv_at hl 3 rfl) ?_
    refine va_mmax hx hb (hml.trans hl.1.symm) hown (htb _ t_482) (htb _ t_483) (htb _ t_16) (htb _ t_484) (Nat.le_of_ble_eq_true rfl) (Nat.le_of_ble_eq_true rfl) (Nat.zero_le _) (Nat.zero_le _) dX2_join_13 ?_
    exact hret _ hf _ _ _ _ rfl dX2_join_16 hP hD hS
  · have hf := ip c1 hf
    refine lv_iload_n hx hb dX2_join_5 rfl (lv_at hl 2 rfl) ?_
    refine lv_iload_n hx hb dX2_join_6 rfl (lv_at hl 3 rfl) ?_
    refine lv_iadd hx hb dX2_join_7 ?_
    refine lv_goto (tgt := 16) hx hb dX2_join_8 (by decide) ?_
    exact hret _ hf _ _ _ _ rfl dX2_join_16 hP hD hS
theorem vf_X2_finish : VF yX2_finish cX2_finish 3 (some .int) 2 := ⟨t_503, t_504, t_9, t_505, by decide +kernel, by decide +kernel, by decide +kernel⟩
theorem dX2_finish_0 : decode cX2_finish 0 = .ok (.iload_n 1, 1) := by decide +kernel
theorem dX2_finish_1 : decode cX2_finish 1 = .ok (.iconst 5, 1) := by decide +kernel
theorem dX2_finish_2 : decode cX2_finish 2 = .ok (.if_icmp .ne 19, 3) := by decide +kernel
theorem dX2_finish_5 : decode cX2_finish 5 = .ok (.aload_n 0, 1) := by decide +kernel
theorem dX2_finish_6 : decode cX2_finish 6 = .ok (.getfield 9, 3) := by decide +kernel
theorem dX2_finish_9 : decode cX2_finish 9 = .ok (.getfield 55, 3) := by decide +kernel
theorem dX2_finish_12 : decode cX2_finish 12 = .ok (.ifCond .le 9, 3) := by decide +kernel
theorem dX2_finish_15 : decode cX2_finish 15 = .ok (.iload_n 2, 1) := by decide +kernel
theorem dX2_finish_16 : decode cX2_finish 16 = .ok (.iconst 1, 1) := by decide +kernel
theorem dX2_finish_17 : decode cX2_finish 17 = .ok (.iadd, 1) := by decide +kernel
theorem dX2_finish_18 : decode cX2_finish 18 = .ok (.goto 4, 3) := by decide +kernel
theorem dX2_finish_21 : decode cX2_finish 21 = .ok (.iload_n 2, 1) := by decide +kernel
theorem dX2_finish_22 : decode cX2_finish 22 = .ok (.ireturn, 1) := by decide +kernel
noncomputable def f_X2_finish (x_view_posts : Int32) (i1 : Int32) (i2 : Int32) : Option (Int32) :=
  if i1 = (5 : Int32) then (if x_view_posts ≤ 0 then (some (i2)) else (some ((i2 + (1 : Int32))))) else (some (i2))
set_option maxHeartbeats 4000000 in
set_option maxRecDepth 100000 in
theorem c_X2_finish (l : Launch) (dC : Nat → ClassId) (dI : Nat → Nat → Nat) (cI cZ cN : ClassId) (q_ : Nat) (q_view : Nat) (q_view_weights : Nat) (q_view_near : Nat) (q_view_behind : Nat) (q_view_ahead : Nat) (x_view_posts : Int32) (x_view_roads : Int32) (x_view_weight : Int32) (i1 i2 : Int32) (r : Int32) (hf : f_X2_finish x_view_posts i1 i2 = some r) : CI l yX2_finish cX2_finish 3 (some .int) 2 60 (dC, dI) (TY cI cZ cN) [.ref q_, .int i1, .int i2] [(q_, .inr (2, [.ref q_view])), (q_view, .inr (8, [.int x_view_posts, .int x_view_roads, .int x_view_weight, .ref q_view_weights, .ref q_view_near, .ref q_view_behind, .ref q_view_ahead]))] [(q_, .inr (2, [.ref q_view])), (q_view, .inr (8, [.int x_view_posts, .int x_view_roads, .int x_view_weight, .ref q_view_weights, .ref q_view_near, .ref q_view_behind, .ref q_view_ahead]))] r := by
  refine CI.of rfl (by decide) (Nat.le_of_ble_eq_true rfl) ?_
  intro p e s m args below meth c Q A ls hx hb hml hown htb hK hN hA hP hD hS hl hret
  have hown : s.vm.findClass RX2 = some m.cls := hown
  have hl : lv_has ls 3 [(0, .ref q_), (1, .int i1), (2, .int i2)] := hl
  have hret : ∀ (r9 : Int32), some r9 = some r → ∀ (H : Heap) (locs : List Loc) (pc : Nat) (ls : Array Slot), narrow .int (.int r9) = .int r9 → decode cX2_finish pc = .ok (.ireturn, 1) → va_P (dC, dI) vwCl [(q_, .inr (2, [.ref q_view])), (q_view, .inr (8, [.int x_view_posts, .int x_view_roads, .int x_view_weight, .ref q_view_weights, .ref q_view_near, .ref q_view_behind, .ref q_view_ahead]))] H → va_D A [(q_, .inr (2, [.ref q_view])), (q_view, .inr (8, [.int x_view_posts, .int x_view_roads, .int x_view_weight, .ref q_view_weights, .ref q_view_near, .ref q_view_behind, .ref q_view_ahead]))] → va_S A s.heap H locs → W p l e (rmK 2 60) s m args below meth c H locs 0 0 Q (F0 m pc ls [.int r9]) := by
    intro r9 h9
    cases h9
    exact hret
  unfold f_X2_finish at hf
  refine lv_iload_n hx hb dX2_finish_0 rfl (lv_at hl 1 rfl) ?_
  refine lv_iconst (v := (5 : Int32)) hx hb dX2_finish_1 (by decide) ?_
  refine lv_icmp_ne (tgt := 21) hx hb dX2_finish_2 (by decide) (fun c1 => ?_) (fun c1 => ?_)
  · have hf := im c1 hf
    refine lv_iload_n hx hb dX2_finish_21 rfl (lv_at hl 2 rfl) ?_
    exact hret _ hf _ _ _ _ rfl dX2_finish_22 hP hD hS
  · have hf := ip c1 hf
    refine lv_aload_n hx hb dX2_finish_5 rfl (lv_at hl 0 rfl) ?_
    refine va_get (D := (dC, dI)) (ci := 2) (v := .ref q_view) (C := RX2) (T := TX2) (N := 1) hx hb htb inX2 hown hK hP 0 rfl rfl 0 (Nat.le_of_ble_eq_true rfl) (htb _ t_197) (fun _ h9 => h9) rfl dX2_finish_6 ?_
    refine va_get (D := (dC, dI)) (ci := 8) (v := .int x_view_posts) (C := RX9) (T := TX9) (N := 7) hx hb htb inX9 hown hK hP 1 rfl rfl 0 (Nat.le_of_ble_eq_true rfl) (htb _ t_71) (fun _ h9 => h9) rfl dX2_finish_9 ?_
    refine lv_if_le (tgt := 21) hx hb dX2_finish_12 (by decide) (fun c2 => ?_) (fun c2 => ?_)
    · have hf := ip c2 hf
      refine lv_iload_n hx hb dX2_finish_21 rfl (lv_at hl 2 rfl) ?_
      exact hret _ hf _ _ _ _ rfl dX2_finish_22 hP hD hS
    · have hf := im c2 hf
      refine lv_iload_n hx hb dX2_finish_15 rfl (lv_at hl 2 rfl) ?_
      refine lv_iconst (v := (1 : Int32)) hx hb dX2_finish_16 (by decide) ?_
      refine lv_iadd hx hb dX2_finish_17 ?_
      refine lv_goto (tgt := 22) hx hb dX2_finish_18 (by decide) ?_
      exact hret _ hf _ _ _ _ rfl dX2_finish_22 hP hD hS
theorem vf_X2_costOf : VF yX2_costOf cX2_costOf 7 (some .int) 2 := ⟨t_471, t_472, t_9, t_473, by decide +kernel, by decide +kernel, by decide +kernel⟩
theorem dX2_costOf_0 : decode cX2_costOf 0 = .ok (.iconst 0, 1) := by decide +kernel
theorem dX2_costOf_1 : decode cX2_costOf 1 = .ok (.istore_n 3, 1) := by decide +kernel
theorem dX2_costOf_2 : decode cX2_costOf 2 = .ok (.iconst 0, 1) := by decide +kernel
theorem dX2_costOf_3 : decode cX2_costOf 3 = .ok (.istore 4, 2) := by decide +kernel
theorem dX2_costOf_5 : decode cX2_costOf 5 = .ok (.iconst 0, 1) := by decide +kernel
theorem dX2_costOf_6 : decode cX2_costOf 6 = .ok (.istore 5, 2) := by decide +kernel
theorem dX2_costOf_8 : decode cX2_costOf 8 = .ok (.iconst 0, 1) := by decide +kernel
theorem dX2_costOf_9 : decode cX2_costOf 9 = .ok (.istore 6, 2) := by decide +kernel
theorem dX2_costOf_11 : decode cX2_costOf 11 = .ok (.iload 6, 2) := by decide +kernel
theorem dX2_costOf_13 : decode cX2_costOf 13 = .ok (.aload_n 2, 1) := by decide +kernel
theorem dX2_costOf_14 : decode cX2_costOf 14 = .ok (.getfield 15, 3) := by decide +kernel
theorem dX2_costOf_17 : decode cX2_costOf 17 = .ok (.if_icmp .ge 70, 3) := by decide +kernel
theorem dX2_costOf_20 : decode cX2_costOf 20 = .ok (.iload_n 1, 1) := by decide +kernel
theorem dX2_costOf_21 : decode cX2_costOf 21 = .ok (.invokestatic 21, 3) := by decide +kernel
theorem dX2_costOf_24 : decode cX2_costOf 24 = .ok (.ifCond .eq 16, 3) := by decide +kernel
theorem dX2_costOf_27 : decode cX2_costOf 27 = .ok (.aload_n 0, 1) := by decide +kernel
theorem dX2_costOf_28 : decode cX2_costOf 28 = .ok (.iload_n 1, 1) := by decide +kernel
theorem dX2_costOf_29 : decode cX2_costOf 29 = .ok (.iload_n 3, 1) := by decide +kernel
theorem dX2_costOf_30 : decode cX2_costOf 30 = .ok (.aload_n 2, 1) := by decide +kernel
theorem dX2_costOf_31 : decode cX2_costOf 31 = .ok (.iload 6, 2) := by decide +kernel
theorem dX2_costOf_33 : decode cX2_costOf 33 = .ok (.invokevirtual 25, 3) := by decide +kernel
theorem dX2_costOf_36 : decode cX2_costOf 36 = .ok (.istore_n 3, 1) := by decide +kernel
theorem dX2_costOf_37 : decode cX2_costOf 37 = .ok (.goto 44, 3) := by decide +kernel
theorem dX2_costOf_40 : decode cX2_costOf 40 = .ok (.aload_n 0, 1) := by decide +kernel
theorem dX2_costOf_41 : decode cX2_costOf 41 = .ok (.iload_n 1, 1) := by decide +kernel
theorem dX2_costOf_42 : decode cX2_costOf 42 = .ok (.iload 4, 2) := by decide +kernel
theorem dX2_costOf_44 : decode cX2_costOf 44 = .ok (.iload 5, 2) := by decide +kernel
theorem dX2_costOf_46 : decode cX2_costOf 46 = .ok (.aload_n 2, 1) := by decide +kernel
theorem dX2_costOf_47 : decode cX2_costOf 47 = .ok (.getfield 29, 3) := by decide +kernel
theorem dX2_costOf_50 : decode cX2_costOf 50 = .ok (.iload 6, 2) := by decide +kernel
theorem dX2_costOf_52 : decode cX2_costOf 52 = .ok (.iaload, 1) := by decide +kernel
theorem dX2_costOf_53 : decode cX2_costOf 53 = .ok (.invokevirtual 33, 3) := by decide +kernel
theorem dX2_costOf_56 : decode cX2_costOf 56 = .ok (.istore 4, 2) := by decide +kernel
theorem dX2_costOf_58 : decode cX2_costOf 58 = .ok (.iload 5, 2) := by decide +kernel
theorem dX2_costOf_60 : decode cX2_costOf 60 = .ok (.iconst 1, 1) := by decide +kernel
theorem dX2_costOf_61 : decode cX2_costOf 61 = .ok (.aload_n 2, 1) := by decide +kernel
theorem dX2_costOf_62 : decode cX2_costOf 62 = .ok (.getfield 29, 3) := by decide +kernel
theorem dX2_costOf_65 : decode cX2_costOf 65 = .ok (.iload 6, 2) := by decide +kernel
theorem dX2_costOf_67 : decode cX2_costOf 67 = .ok (.iaload, 1) := by decide +kernel
theorem dX2_costOf_68 : decode cX2_costOf 68 = .ok (.ishl, 1) := by decide +kernel
theorem dX2_costOf_69 : decode cX2_costOf 69 = .ok (.ior, 1) := by decide +kernel
theorem dX2_costOf_70 : decode cX2_costOf 70 = .ok (.istore 5, 2) := by decide +kernel
theorem dX2_costOf_72 : decode cX2_costOf 72 = .ok (.aload_n 0, 1) := by decide +kernel
theorem dX2_costOf_73 : decode cX2_costOf 73 = .ok (.iload_n 1, 1) := by decide +kernel
theorem dX2_costOf_74 : decode cX2_costOf 74 = .ok (.iload_n 3, 1) := by decide +kernel
theorem dX2_costOf_75 : decode cX2_costOf 75 = .ok (.iload 4, 2) := by decide +kernel
theorem dX2_costOf_77 : decode cX2_costOf 77 = .ok (.invokevirtual 37, 3) := by decide +kernel
theorem dX2_costOf_80 : decode cX2_costOf 80 = .ok (.istore_n 3, 1) := by decide +kernel
theorem dX2_costOf_81 : decode cX2_costOf 81 = .ok (.iinc 6 1, 3) := by decide +kernel
theorem dX2_costOf_84 : decode cX2_costOf 84 = .ok (.goto (-73), 3) := by decide +kernel
theorem dX2_costOf_87 : decode cX2_costOf 87 = .ok (.aload_n 0, 1) := by decide +kernel
theorem dX2_costOf_88 : decode cX2_costOf 88 = .ok (.iload_n 1, 1) := by decide +kernel
theorem dX2_costOf_89 : decode cX2_costOf 89 = .ok (.iload_n 3, 1) := by decide +kernel
theorem dX2_costOf_90 : decode cX2_costOf 90 = .ok (.invokevirtual 41, 3) := by decide +kernel
theorem dX2_costOf_93 : decode cX2_costOf 93 = .ok (.ireturn, 1) := by decide +kernel
noncomputable def f_X2_costOf_L11 (i1 : Int32) (x_view_posts : Int32) (x_view_weights : Nat → Int32) (x_view_near : Nat → Int32) (x_view_behind : Nat → Int32) (x_p2_size : Int32) (x_p2_posts : Nat → Int32) (i3 : Int32) (i4 : Int32) (i5 : Int32) (i6 : Int32) : Option ((Int32 × Int32 × Int32 × Int32) ⊕ (Int32)) :=
  if x_p2_size ≤ i6 then (some (.inr i3)) else ((f_X10_isBySpans i1).bind fun v2 =>
  b3 ((if v2 = 0 then ((gi x_p2_posts 11 i6).bind fun v8 =>
  (f_X2_priceWith x_view_posts x_view_weights x_view_near x_view_behind i1 i4 i5 v8).bind fun v9 =>
  (gi x_p2_posts 11 i6).bind fun v10 =>
  (f_X2_join i1 i3 v9).bind fun v11 =>
  some (v11, v9, (i5 ||| ((1 : Int32) <<< (v10 &&& 31))))) else ((f_X2_withSpans x_view_posts x_view_weights x_p2_posts i1 i3 i6).bind fun v12 =>
  some (v12, i4, i5)) : Option (Int32 × Int32 × Int32))) fun t3 t4 t5 =>
  some (.inl (t3, t4, t5, (i6 + (1 : Int32)))))
noncomputable def f_X2_costOf (x_view_posts : Int32) (x_view_weights : Nat → Int32) (x_view_near : Nat → Int32) (x_view_behind : Nat → Int32) (x_p2_size : Int32) (x_p2_posts : Nat → Int32) (i1 : Int32) : Option (Int32) :=
  (loopS (fun (s : Int32 × Int32 × Int32 × Int32) => f_X2_costOf_L11 i1 x_view_posts x_view_weights x_view_near x_view_behind x_p2_size x_p2_posts s.1 s.2.1 s.2.2.1 s.2.2.2) ((0 : Int32), (0 : Int32), (0 : Int32), (0 : Int32))).bind fun x1 =>
  (f_X2_finish x_view_posts i1 x1).bind fun v3 =>
  some (v3)
set_option maxHeartbeats 4000000 in
set_option maxRecDepth 100000 in
theorem c_X2_costOf (l : Launch) (dC : Nat → ClassId) (dI : Nat → Nat → Nat) (cI cZ cN : ClassId) (q_ : Nat) (q_view : Nat) (q_view_weights : Nat) (q_view_near : Nat) (q_view_behind : Nat) (q_view_ahead : Nat) (q_p2 : Nat) (q_p2_posts : Nat) (x_view_posts : Int32) (x_view_roads : Int32) (x_view_weight : Int32) (x_view_weights : Nat → Int32) (x_view_near : Nat → Int32) (x_view_behind : Nat → Int32) (x_p2_size : Int32) (x_p2_posts : Nat → Int32) (i1 : Int32) (r : Int32) (hf : f_X2_costOf x_view_posts x_view_weights x_view_near x_view_behind x_p2_size x_p2_posts i1 = some r) : CI l yX2_costOf cX2_costOf 7 (some .int) 5 132 (dC, dI) (TY cI cZ cN) [.ref q_, .int i1, .ref q_p2] [(q_, .inr (2, [.ref q_view])), (q_view, .inr (8, [.int x_view_posts, .int x_view_roads, .int x_view_weight, .ref q_view_weights, .ref q_view_near, .ref q_view_behind, .ref q_view_ahead])), (q_view_weights, .inl (cI, 121, .inl x_view_weights)), (q_view_near, .inl (cI, 11, .inl x_view_near)), (q_view_behind, .inl (cI, 11, .inl x_view_behind)), (q_p2, .inr (5, [.ref q_p2_posts, .int x_p2_size])), (q_p2_posts, .inl (cI, 11, .inl x_p2_posts))] [(q_, .inr (2, [.ref q_view])), (q_view, .inr (8, [.int x_view_posts, .int x_view_roads, .int x_view_weight, .ref q_view_weights, .ref q_view_near, .ref q_view_behind, .ref q_view_ahead])), (q_view_weights, .inl (cI, 121, .inl x_view_weights)), (q_view_near, .inl (cI, 11, .inl x_view_near)), (q_view_behind, .inl (cI, 11, .inl x_view_behind)), (q_p2, .inr (5, [.ref q_p2_posts, .int x_p2_size])), (q_p2_posts, .inl (cI, 11, .inl x_p2_posts))] r := by
  refine CI.of rfl (by decide) (Nat.le_of_ble_eq_true rfl) ?_
  intro p e s m args below meth c Q A ls hx hb hml hown htb hK hN hA hP hD hS hl hret
  have hown : s.vm.findClass RX2 = some m.cls := hown
  have hl : lv_has ls 7 [(0, .ref q_), (1, .int i1), (2, .ref q_p2)] := hl
  have hret : ∀ (r9 : Int32), some r9 = some r → ∀ (H : Heap) (locs : List Loc) (pc : Nat) (ls : Array Slot), narrow .int (.int r9) = .int r9 → decode cX2_costOf pc = .ok (.ireturn, 1) → va_P (dC, dI) vwCl [(q_, .inr (2, [.ref q_view])), (q_view, .inr (8, [.int x_view_posts, .int x_view_roads, .int x_view_weight, .ref q_view_weights, .ref q_view_near, .ref q_view_behind, .ref q_view_ahead])), (q_view_weights, .inl (cI, 121, .inl x_view_weights)), (q_view_near, .inl (cI, 11, .inl x_view_near)), (q_view_behind, .inl (cI, 11, .inl x_view_behind)), (q_p2, .inr (5, [.ref q_p2_posts, .int x_p2_size])), (q_p2_posts, .inl (cI, 11, .inl x_p2_posts))] H → va_D A [(q_, .inr (2, [.ref q_view])), (q_view, .inr (8, [.int x_view_posts, .int x_view_roads, .int x_view_weight, .ref q_view_weights, .ref q_view_near, .ref q_view_behind, .ref q_view_ahead])), (q_view_weights, .inl (cI, 121, .inl x_view_weights)), (q_view_near, .inl (cI, 11, .inl x_view_near)), (q_view_behind, .inl (cI, 11, .inl x_view_behind)), (q_p2, .inr (5, [.ref q_p2_posts, .int x_p2_size])), (q_p2_posts, .inl (cI, 11, .inl x_p2_posts))] → va_S A s.heap H locs → W p l e (rmK 5 132) s m args below meth c H locs 0 0 Q (F0 m pc ls [.int r9]) := by
    intro r9 h9
    cases h9
    exact hret
  unfold f_X2_costOf at hf
  refine lv_iconst (v := (0 : Int32)) hx hb dX2_costOf_0 (by decide) ?_
  refine lv_istore_n (lv' := [(3, .int (0 : Int32)), (0, .ref q_), (1, .int i1), (2, .ref q_p2)]) hx hb dX2_costOf_1 rfl hl (by decide) rfl (fun ls hl => ?_)
  refine lv_iconst (v := (0 : Int32)) hx hb dX2_costOf_2 (by decide) ?_
  refine lv_istore (lv' := [(4, .int (0 : Int32)), (3, .int (0 : Int32)), (0, .ref q_), (1, .int i1), (2, .ref q_p2)]) hx hb dX2_costOf_3 hl (by decide) rfl (fun ls hl => ?_)
  refine lv_iconst (v := (0 : Int32)) hx hb dX2_costOf_5 (by decide) ?_
  refine lv_istore (lv' := [(5, .int (0 : Int32)), (4, .int (0 : Int32)), (3, .int (0 : Int32)), (0, .ref q_), (1, .int i1), (2, .ref q_p2)]) hx hb dX2_costOf_6 hl (by decide) rfl (fun ls hl => ?_)
  refine lv_iconst (v := (0 : Int32)) hx hb dX2_costOf_8 (by decide) ?_
  refine lv_istore (lv' := [(6, .int (0 : Int32)), (5, .int (0 : Int32)), (4, .int (0 : Int32)), (3, .int (0 : Int32)), (0, .ref q_), (1, .int i1), (2, .ref q_p2)]) hx hb dX2_costOf_9 hl (by decide) rfl (fun ls hl => ?_)
  obtain ⟨x1, hL, hf⟩ := ob hf
  have kx2 : ∀ (H : Heap) (locs : List Loc) (ls : Array Slot), va_P (dC, dI) vwCl [(q_, .inr (2, [.ref q_view])), (q_view, .inr (8, [.int x_view_posts, .int x_view_roads, .int x_view_weight, .ref q_view_weights, .ref q_view_near, .ref q_view_behind, .ref q_view_ahead])), (q_view_weights, .inl (cI, 121, .inl x_view_weights)), (q_view_near, .inl (cI, 11, .inl x_view_near)), (q_view_behind, .inl (cI, 11, .inl x_view_behind)), (q_p2, .inr (5, [.ref q_p2_posts, .int x_p2_size])), (q_p2_posts, .inl (cI, 11, .inl x_p2_posts))] H → va_D A [(q_, .inr (2, [.ref q_view])), (q_view, .inr (8, [.int x_view_posts, .int x_view_roads, .int x_view_weight, .ref q_view_weights, .ref q_view_near, .ref q_view_behind, .ref q_view_ahead])), (q_view_weights, .inl (cI, 121, .inl x_view_weights)), (q_view_near, .inl (cI, 11, .inl x_view_near)), (q_view_behind, .inl (cI, 11, .inl x_view_behind)), (q_p2, .inr (5, [.ref q_p2_posts, .int x_p2_size])), (q_p2_posts, .inl (cI, 11, .inl x_p2_posts))] → va_S A s.heap H locs → lv_has ls 7 [(0, .ref q_), (1, .int i1), (3, .int x1)] → W p l e (rmK 5 132) s m args below meth c H locs 0 0 Q (F0 m 87 ls []) := by
    intro H locs ls hP hD hS hl
    refine lv_aload_n hx hb dX2_costOf_87 rfl (lv_at hl 0 rfl) ?_
    refine lv_iload_n hx hb dX2_costOf_88 rfl (lv_at hl 1 rfl) ?_
    refine lv_iload_n hx hb dX2_costOf_89 rfl (lv_at hl 2 rfl) ?_
    obtain ⟨v3, hv, hf⟩ := ob hf
    refine k_afterI (wr := [(q_view_weights, .inl (cI, 121, .inl x_view_weights)), (q_view_near, .inl (cI, 11, .inl x_view_near)), (q_view_behind, .inl (cI, 11, .inl x_view_behind)), (q_p2, .inr (5, [.ref q_p2_posts, .int x_p2_size])), (q_p2_posts, .inl (cI, 11, .inl x_p2_posts))]) (wn := [(q_, .inr (2, [.ref q_view])), (q_view, .inr (8, [.int x_view_posts, .int x_view_roads, .int x_view_weight, .ref q_view_weights, .ref q_view_near, .ref q_view_behind, .ref q_view_ahead])), (q_view_weights, .inl (cI, 121, .inl x_view_weights)), (q_view_near, .inl (cI, 11, .inl x_view_near)), (q_view_behind, .inl (cI, 11, .inl x_view_behind)), (q_p2, .inr (5, [.ref q_p2_posts, .int x_p2_size])), (q_p2_posts, .inl (cI, 11, .inl x_p2_posts))]) (k_runV (rest := []) (ci := 2) (q0 := 0) hx hb hml hown htb hK hN (c_X2_finish l dC dI cI cZ cN q_ q_view q_view_weights q_view_near q_view_behind q_view_ahead x_view_posts x_view_roads x_view_weight i1 x1 v3 hv _) vf_X2_finish t_502 hP hD [0, 1] rfl rfl rfl rfl ⟨(Nat.le_of_ble_eq_true rfl), (Nat.le_of_ble_eq_true rfl)⟩ rfl hl.1 rfl (Nat.le_of_ble_eq_true rfl) dX2_costOf_90 ⟨Nat.zero_le _, Nat.zero_le _⟩) hA hP hD hS [0, 1] [2, 3, 4, 5, 6] [5, 6, 0, 1, 2, 3, 4] rfl rfl rfl rfl ?_
    clear hP hD hS
    intro H locs hP hD hS
    exact hret _ hf _ _ _ _ rfl dX2_costOf_93 hP hD hS
  obtain ⟨n0, hn0⟩ := loopS_iter hL
  clear hf
  have kl8 : ∀ (n : Nat) (s4 : Int32) (s5 : Int32) (s6 : Int32) (s7 : Int32), iterS (fun (s : Int32 × Int32 × Int32 × Int32) => f_X2_costOf_L11 i1 x_view_posts x_view_weights x_view_near x_view_behind x_p2_size x_p2_posts s.1 s.2.1 s.2.2.1 s.2.2.2) n (s4, s5, s6, s7) = some x1 → ∀ (H : Heap) (locs : List Loc) (ls : Array Slot), va_P (dC, dI) vwCl [(q_, .inr (2, [.ref q_view])), (q_view, .inr (8, [.int x_view_posts, .int x_view_roads, .int x_view_weight, .ref q_view_weights, .ref q_view_near, .ref q_view_behind, .ref q_view_ahead])), (q_view_weights, .inl (cI, 121, .inl x_view_weights)), (q_view_near, .inl (cI, 11, .inl x_view_near)), (q_view_behind, .inl (cI, 11, .inl x_view_behind)), (q_p2, .inr (5, [.ref q_p2_posts, .int x_p2_size])), (q_p2_posts, .inl (cI, 11, .inl x_p2_posts))] H → va_D A [(q_, .inr (2, [.ref q_view])), (q_view, .inr (8, [.int x_view_posts, .int x_view_roads, .int x_view_weight, .ref q_view_weights, .ref q_view_near, .ref q_view_behind, .ref q_view_ahead])), (q_view_weights, .inl (cI, 121, .inl x_view_weights)), (q_view_near, .inl (cI, 11, .inl x_view_near)), (q_view_behind, .inl (cI, 11, .inl x_view_behind)), (q_p2, .inr (5, [.ref q_p2_posts, .int x_p2_size])), (q_p2_posts, .inl (cI, 11, .inl x_p2_posts))] → va_S A s.heap H locs → lv_has ls 7 [(0, .ref q_), (1, .int i1), (2, .ref q_p2), (3, .int s4), (4, .int s5), (5, .int s6), (6, .int s7)] → W p l e (rmK 5 132) s m args below meth c H locs 0 0 Q (F0 m 11 ls []) := by
    intro n
    induction n with
    | zero =>
      intro s4 s5 s6 s7 hn1
      cases hn1
    | succ n ih1 =>
      intro s4 s5 s6 s7 hn1 H locs ls hP hD hS hl
      obtain ⟨r9, hf, hn1⟩ := it1 hn1
      replace hf : f_X2_costOf_L11 i1 x_view_posts x_view_weights x_view_near x_view_behind x_p2_size x_p2_posts s4 s5 s6 s7 = some r9 := hf
      unfold f_X2_costOf_L11 at hf
      refine lv_iload hx hb dX2_costOf_11 (lv_at hl 6 rfl) ?_
      refine lv_aload_n hx hb dX2_costOf_13 rfl (lv_at hl 2 rfl) ?_
      refine va_get (D := (dC, dI)) (ci := 5) (v := .int x_p2_size) (C := RX5) (T := TX5) (N := 2) hx hb htb inX5 hown hK hP 5 rfl rfl 1 (Nat.le_of_ble_eq_true rfl) (htb _ t_135) (fun _ h9 => h9) rfl dX2_costOf_14 ?_
      refine lv_icmp_ge (tgt := 87) hx hb dX2_costOf_17 (by decide) (fun c10 => ?_) (fun c10 => ?_)
      · have hf := ip c10 hf
        cases hf
        cases (itr hn1)
        exact kx2 _ _ _ hP hD hS (lv_sub hl [0, 1, 3] rfl)
      · have hf := im c10 hf
        refine lv_iload_n hx hb dX2_costOf_20 rfl (lv_at hl 1 rfl) ?_
        obtain ⟨v11, hv, hf⟩ := ob hf
        refine k_afterI (wr := [(q_, .inr (2, [.ref q_view])), (q_view, .inr (8, [.int x_view_posts, .int x_view_roads, .int x_view_weight, .ref q_view_weights, .ref q_view_near, .ref q_view_behind, .ref q_view_ahead])), (q_view_weights, .inl (cI, 121, .inl x_view_weights)), (q_view_near, .inl (cI, 11, .inl x_view_near)), (q_view_behind, .inl (cI, 11, .inl x_view_behind)), (q_p2, .inr (5, [.ref q_p2_posts, .int x_p2_size])), (q_p2_posts, .inl (cI, 11, .inl x_p2_posts))]) (wn := [(q_, .inr (2, [.ref q_view])), (q_view, .inr (8, [.int x_view_posts, .int x_view_roads, .int x_view_weight, .ref q_view_weights, .ref q_view_near, .ref q_view_behind, .ref q_view_ahead])), (q_view_weights, .inl (cI, 121, .inl x_view_weights)), (q_view_near, .inl (cI, 11, .inl x_view_near)), (q_view_behind, .inl (cI, 11, .inl x_view_behind)), (q_p2, .inr (5, [.ref q_p2_posts, .int x_p2_size])), (q_p2_posts, .inl (cI, 11, .inl x_p2_posts))]) (k_runSN (rest := []) (host := "NarrowRows") hx hb hml hown htb hK hN (c_X10_isBySpans l dC dI cI cZ cN i1 v11 hv _) sf_X10_isBySpans nm_7 hP hD [] rfl rfl ⟨(Nat.le_of_ble_eq_true rfl), (Nat.le_of_ble_eq_true rfl)⟩ rfl hl.1 rfl (Nat.le_of_ble_eq_true rfl) dX2_costOf_21 ⟨Nat.zero_le _, Nat.zero_le _⟩) hA hP hD hS [] [0, 1, 2, 3, 4, 5, 6] [0, 1, 2, 3, 4, 5, 6] rfl rfl rfl rfl ?_
        clear hP hD hS
        intro H locs hP hD hS
        obtain ⟨t12, t13, t14, hv, hf⟩ := ob3 hf
        have key15 : ∀ (H : Heap) (locs : List Loc) (ls : Array Slot), va_P (dC, dI) vwCl [(q_, .inr (2, [.ref q_view])), (q_view, .inr (8, [.int x_view_posts, .int x_view_roads, .int x_view_weight, .ref q_view_weights, .ref q_view_near, .ref q_view_behind, .ref q_view_ahead])), (q_view_weights, .inl (cI, 121, .inl x_view_weights)), (q_view_near, .inl (cI, 11, .inl x_view_near)), (q_view_behind, .inl (cI, 11, .inl x_view_behind)), (q_p2, .inr (5, [.ref q_p2_posts, .int x_p2_size])), (q_p2_posts, .inl (cI, 11, .inl x_p2_posts))] H → va_D A [(q_, .inr (2, [.ref q_view])), (q_view, .inr (8, [.int x_view_posts, .int x_view_roads, .int x_view_weight, .ref q_view_weights, .ref q_view_near, .ref q_view_behind, .ref q_view_ahead])), (q_view_weights, .inl (cI, 121, .inl x_view_weights)), (q_view_near, .inl (cI, 11, .inl x_view_near)), (q_view_behind, .inl (cI, 11, .inl x_view_behind)), (q_p2, .inr (5, [.ref q_p2_posts, .int x_p2_size])), (q_p2_posts, .inl (cI, 11, .inl x_p2_posts))] → va_S A s.heap H locs → lv_has ls 7 [(0, .ref q_), (1, .int i1), (2, .ref q_p2), (3, .int t12), (4, .int t13), (5, .int t14), (6, .int s7)] → W p l e (rmK 5 132) s m args below meth c H locs 0 0 Q (F0 m 81 ls []) := by
          intro H locs ls hP hD hS hl
          refine lv_iinc (v := (s7 + (1 : Int32))) (lv' := [(6, .int (s7 + (1 : Int32))), (0, .ref q_), (1, .int i1), (2, .ref q_p2), (3, .int t12), (4, .int t13), (5, .int t14)]) hx hb dX2_costOf_81 hl (k := 6) rfl rfl (by decide) rfl (fun ls hl => ?_)
          refine lv_goto (tgt := 11) hx hb dX2_costOf_84 (by decide) ?_
          cases hf
          exact ih1 _ _ _ _ (itl hn1) _ _ _ hP hD hS (lv_sub hl [1, 2, 3, 4, 5, 6, 0] rfl)
        replace hf := hv
        refine lv_if_eq (tgt := 40) hx hb dX2_costOf_24 (by decide) (fun c16 => ?_) (fun c16 => ?_)
        · have hf := ip c16 hf
          refine lv_aload_n hx hb dX2_costOf_40 rfl (lv_at hl 0 rfl) ?_
          refine lv_iload_n hx hb dX2_costOf_41 rfl (lv_at hl 1 rfl) ?_
          refine lv_iload hx hb dX2_costOf_42 (lv_at hl 4 rfl) ?_
          refine lv_iload hx hb dX2_costOf_44 (lv_at hl 5 rfl) ?_
          refine lv_aload_n hx hb dX2_costOf_46 rfl (lv_at hl 2 rfl) ?_
          refine va_get (D := (dC, dI)) (ci := 5) (v := .ref q_p2_posts) (C := RX5) (T := TX5) (N := 2) hx hb htb inX5 hown hK hP 5 rfl rfl 0 (Nat.le_of_ble_eq_true rfl) (htb _ t_129) (fun _ h9 => h9) rfl dX2_costOf_47 ?_
          refine lv_iload hx hb dX2_costOf_50 (lv_at hl 6 rfl) ?_
          obtain ⟨v17, hv, hf⟩ := ob hf
          refine k_iald hx hb hK hP 6 0 rfl rfl hv dX2_costOf_52 ?_
          obtain ⟨v18, hv, hf⟩ := ob hf
          refine k_afterI (wr := [(q_p2, .inr (5, [.ref q_p2_posts, .int x_p2_size])), (q_p2_posts, .inl (cI, 11, .inl x_p2_posts))]) (wn := [(q_, .inr (2, [.ref q_view])), (q_view, .inr (8, [.int x_view_posts, .int x_view_roads, .int x_view_weight, .ref q_view_weights, .ref q_view_near, .ref q_view_behind, .ref q_view_ahead])), (q_view_weights, .inl (cI, 121, .inl x_view_weights)), (q_view_near, .inl (cI, 11, .inl x_view_near)), (q_view_behind, .inl (cI, 11, .inl x_view_behind)), (q_p2, .inr (5, [.ref q_p2_posts, .int x_p2_size])), (q_p2_posts, .inl (cI, 11, .inl x_p2_posts))]) (k_runV (rest := []) (ci := 2) (q0 := 0) hx hb hml hown htb hK hN (c_X2_priceWith l dC dI cI cZ cN q_ q_view q_view_weights q_view_near q_view_behind q_view_ahead x_view_posts x_view_roads x_view_weight x_view_weights x_view_near x_view_behind i1 s5 s6 v17 v18 hv _) vf_X2_priceWith t_488 hP hD [0, 1, 2, 3, 4] rfl rfl rfl rfl ⟨(Nat.le_of_ble_eq_true rfl), (Nat.le_of_ble_eq_true rfl)⟩ rfl hl.1 rfl (Nat.le_of_ble_eq_true rfl) dX2_costOf_53 ⟨Nat.zero_le _, Nat.zero_le _⟩) hA hP hD hS [0, 1, 2, 3, 4] [5, 6] [2, 3, 4, 5, 6, 0, 1] rfl rfl rfl rfl ?_
          clear hP hD hS
          intro H locs hP hD hS
          refine lv_istore (lv' := [(4, .int v18), (0, .ref q_), (1, .int i1), (2, .ref q_p2), (3, .int s4), (5, .int s6), (6, .int s7)]) hx hb dX2_costOf_56 hl (by decide) rfl (fun ls hl => ?_)
          refine lv_iload hx hb dX2_costOf_58 (lv_at hl 5 rfl) ?_
          refine lv_iconst (v := (1 : Int32)) hx hb dX2_costOf_60 (by decide) ?_
          refine lv_aload_n hx hb dX2_costOf_61 rfl (lv_at hl 3 rfl) ?_
          refine va_get (D := (dC, dI)) (ci := 5) (v := .ref q_p2_posts) (C := RX5) (T := TX5) (N := 2) hx hb htb inX5 hown hK hP 5 rfl rfl 0 (Nat.le_of_ble_eq_true rfl) (htb _ t_129) (fun _ h9 => h9) rfl dX2_costOf_62 ?_
          refine lv_iload hx hb dX2_costOf_65 (lv_at hl 6 rfl) ?_
          obtain ⟨v19, hv, hf⟩ := ob hf
          refine k_iald hx hb hK hP 6 0 rfl rfl hv dX2_costOf_67 ?_
          refine lv_ishl hx hb dX2_costOf_68 ?_
          refine lv_ior hx hb dX2_costOf_69 ?_
          refine lv_istore (lv' := [(5, .int (s6 ||| ((1 : Int32) <<< (v19 &&& 31)))), (4, .int v18), (0, .ref q_), (1, .int i1), (2, .ref q_p2), (3, .int s4), (6, .int s7)]) hx hb dX2_costOf_70 hl (by decide) rfl (fun ls hl => ?_)
          refine lv_aload_n hx hb dX2_costOf_72 rfl (lv_at hl 2 rfl) ?_
          refine lv_iload_n hx hb dX2_costOf_73 rfl (lv_at hl 3 rfl) ?_
          refine lv_iload_n hx hb dX2_costOf_74 rfl (lv_at hl 5 rfl) ?_
          refine lv_iload hx hb dX2_costOf_75 (lv_at hl 1 rfl) ?_
          obtain ⟨v20, hv, hf⟩ := ob hf
          refine k_afterI (wr := [(q_, .inr (2, [.ref q_view])), (q_view, .inr (8, [.int x_view_posts, .int x_view_roads, .int x_view_weight, .ref q_view_weights, .ref q_view_near, .ref q_view_behind, .ref q_view_ahead])), (q_view_weights, .inl (cI, 121, .inl x_view_weights)), (q_view_near, .inl (cI, 11, .inl x_view_near)), (q_view_behind, .inl (cI, 11, .inl x_view_behind)), (q_p2, .inr (5, [.ref q_p2_posts, .int x_p2_size])), (q_p2_posts, .inl (cI, 11, .inl x_p2_posts))]) (wn := [(q_, .inr (2, [.ref q_view])), (q_view, .inr (8, [.int x_view_posts, .int x_view_roads, .int x_view_weight, .ref q_view_weights, .ref q_view_near, .ref q_view_behind, .ref q_view_ahead])), (q_view_weights, .inl (cI, 121, .inl x_view_weights)), (q_view_near, .inl (cI, 11, .inl x_view_near)), (q_view_behind, .inl (cI, 11, .inl x_view_behind)), (q_p2, .inr (5, [.ref q_p2_posts, .int x_p2_size])), (q_p2_posts, .inl (cI, 11, .inl x_p2_posts))]) (k_runV (rest := []) (ci := 2) (q0 := 0) hx hb hml hown htb hK hN (c_X2_join l dC dI cI cZ cN q_ i1 s4 v18 v20 hv _) vf_X2_join t_498 hP hD [] rfl rfl rfl rfl ⟨(Nat.le_of_ble_eq_true rfl), (Nat.le_of_ble_eq_true rfl)⟩ rfl hl.1 rfl (Nat.le_of_ble_eq_true rfl) dX2_costOf_77 ⟨Nat.zero_le _, Nat.zero_le _⟩) hA hP hD hS [] [0, 1, 2, 3, 4, 5, 6] [0, 1, 2, 3, 4, 5, 6] rfl rfl rfl rfl ?_
          clear hP hD hS
          intro H locs hP hD hS
          refine lv_istore_n (lv' := [(3, .int v20), (5, .int (s6 ||| ((1 : Int32) <<< (v19 &&& 31)))), (4, .int v18), (0, .ref q_), (1, .int i1), (2, .ref q_p2), (6, .int s7)]) hx hb dX2_costOf_80 rfl hl (by decide) rfl (fun ls hl => ?_)
          cases hf
          exact key15 _ _ _ hP hD hS (lv_sub hl [3, 4, 5, 0, 2, 1, 6] rfl)
        · have hf := im c16 hf
          refine lv_aload_n hx hb dX2_costOf_27 rfl (lv_at hl 0 rfl) ?_
          refine lv_iload_n hx hb dX2_costOf_28 rfl (lv_at hl 1 rfl) ?_
          refine lv_iload_n hx hb dX2_costOf_29 rfl (lv_at hl 3 rfl) ?_
          refine lv_aload_n hx hb dX2_costOf_30 rfl (lv_at hl 2 rfl) ?_
          refine lv_iload hx hb dX2_costOf_31 (lv_at hl 6 rfl) ?_
          obtain ⟨v21, hv, hf⟩ := ob hf
          refine k_afterI (wr := [(q_view_near, .inl (cI, 11, .inl x_view_near)), (q_view_behind, .inl (cI, 11, .inl x_view_behind))]) (wn := [(q_, .inr (2, [.ref q_view])), (q_view, .inr (8, [.int x_view_posts, .int x_view_roads, .int x_view_weight, .ref q_view_weights, .ref q_view_near, .ref q_view_behind, .ref q_view_ahead])), (q_view_weights, .inl (cI, 121, .inl x_view_weights)), (q_view_near, .inl (cI, 11, .inl x_view_near)), (q_view_behind, .inl (cI, 11, .inl x_view_behind)), (q_p2, .inr (5, [.ref q_p2_posts, .int x_p2_size])), (q_p2_posts, .inl (cI, 11, .inl x_p2_posts))]) (k_runV (rest := []) (ci := 2) (q0 := 0) hx hb hml hown htb hK hN (c_X2_withSpans l dC dI cI cZ cN q_ q_view q_view_weights q_view_near q_view_behind q_view_ahead q_p2 q_p2_posts x_view_posts x_view_roads x_view_weight x_view_weights x_p2_size x_p2_posts i1 s4 s7 v21 hv _) vf_X2_withSpans t_477 hP hD [0, 1, 2, 5, 6] rfl rfl rfl rfl ⟨(Nat.le_of_ble_eq_true rfl), (Nat.le_of_ble_eq_true rfl)⟩ rfl hl.1 rfl (Nat.le_of_ble_eq_true rfl) dX2_costOf_33 ⟨Nat.zero_le _, Nat.zero_le _⟩) hA hP hD hS [0, 1, 2, 5, 6] [3, 4] [2, 3, 4, 0, 1, 5, 6] rfl rfl rfl rfl ?_
          clear hP hD hS
          intro H locs hP hD hS
          refine lv_istore_n (lv' := [(3, .int v21), (0, .ref q_), (1, .int i1), (2, .ref q_p2), (4, .int s5), (5, .int s6), (6, .int s7)]) hx hb dX2_costOf_36 rfl hl (by decide) rfl (fun ls hl => ?_)
          refine lv_goto (tgt := 81) hx hb dX2_costOf_37 (by decide) ?_
          cases hf
          exact key15 _ _ _ hP hD hS (lv_sub hl [1, 2, 3, 0, 4, 5, 6] rfl)
  exact kl8 n0 _ _ _ _ hn0 _ _ _ hP hD hS (lv_sub hl [4, 5, 6, 3, 2, 1, 0] rfl)
theorem vf_X2_placeOfPeak : VF yX2_placeOfPeak cX2_placeOfPeak 8 (some .int) 2 := ⟨t_515, t_516, t_9, t_517, by decide +kernel, by decide +kernel, by decide +kernel⟩
theorem dX2_placeOfPeak_0 : decode cX2_placeOfPeak 0 = .ok (.iconst 0, 1) := by decide +kernel
theorem dX2_placeOfPeak_1 : decode cX2_placeOfPeak 1 = .ok (.istore_n 3, 1) := by decide +kernel
theorem dX2_placeOfPeak_2 : decode cX2_placeOfPeak 2 = .ok (.iconst (-1), 1) := by decide +kernel
theorem dX2_placeOfPeak_3 : decode cX2_placeOfPeak 3 = .ok (.istore 4, 2) := by decide +kernel
theorem dX2_placeOfPeak_5 : decode cX2_placeOfPeak 5 = .ok (.iconst 0, 1) := by decide +kernel
theorem dX2_placeOfPeak_6 : decode cX2_placeOfPeak 6 = .ok (.istore 5, 2) := by decide +kernel
theorem dX2_placeOfPeak_8 : decode cX2_placeOfPeak 8 = .ok (.iconst 0, 1) := by decide +kernel
theorem dX2_placeOfPeak_9 : decode cX2_placeOfPeak 9 = .ok (.istore 6, 2) := by decide +kernel
theorem dX2_placeOfPeak_11 : decode cX2_placeOfPeak 11 = .ok (.iconst 0, 1) := by decide +kernel
theorem dX2_placeOfPeak_12 : decode cX2_placeOfPeak 12 = .ok (.istore 7, 2) := by decide +kernel
theorem dX2_placeOfPeak_14 : decode cX2_placeOfPeak 14 = .ok (.iload 7, 2) := by decide +kernel
theorem dX2_placeOfPeak_16 : decode cX2_placeOfPeak 16 = .ok (.aload_n 2, 1) := by decide +kernel
theorem dX2_placeOfPeak_17 : decode cX2_placeOfPeak 17 = .ok (.getfield 15, 3) := by decide +kernel
theorem dX2_placeOfPeak_20 : decode cX2_placeOfPeak 20 = .ok (.if_icmp .ge 54, 3) := by decide +kernel
theorem dX2_placeOfPeak_23 : decode cX2_placeOfPeak 23 = .ok (.aload_n 0, 1) := by decide +kernel
theorem dX2_placeOfPeak_24 : decode cX2_placeOfPeak 24 = .ok (.iload_n 1, 1) := by decide +kernel
theorem dX2_placeOfPeak_25 : decode cX2_placeOfPeak 25 = .ok (.iload 5, 2) := by decide +kernel
theorem dX2_placeOfPeak_27 : decode cX2_placeOfPeak 27 = .ok (.iload 6, 2) := by decide +kernel
theorem dX2_placeOfPeak_29 : decode cX2_placeOfPeak 29 = .ok (.aload_n 2, 1) := by decide +kernel
theorem dX2_placeOfPeak_30 : decode cX2_placeOfPeak 30 = .ok (.getfield 29, 3) := by decide +kernel
theorem dX2_placeOfPeak_33 : decode cX2_placeOfPeak 33 = .ok (.iload 7, 2) := by decide +kernel
theorem dX2_placeOfPeak_35 : decode cX2_placeOfPeak 35 = .ok (.iaload, 1) := by decide +kernel
theorem dX2_placeOfPeak_36 : decode cX2_placeOfPeak 36 = .ok (.invokevirtual 33, 3) := by decide +kernel
theorem dX2_placeOfPeak_39 : decode cX2_placeOfPeak 39 = .ok (.istore 5, 2) := by decide +kernel
theorem dX2_placeOfPeak_41 : decode cX2_placeOfPeak 41 = .ok (.iload 6, 2) := by decide +kernel
theorem dX2_placeOfPeak_43 : decode cX2_placeOfPeak 43 = .ok (.iconst 1, 1) := by decide +kernel
theorem dX2_placeOfPeak_44 : decode cX2_placeOfPeak 44 = .ok (.aload_n 2, 1) := by decide +kernel
theorem dX2_placeOfPeak_45 : decode cX2_placeOfPeak 45 = .ok (.getfield 29, 3) := by decide +kernel
theorem dX2_placeOfPeak_48 : decode cX2_placeOfPeak 48 = .ok (.iload 7, 2) := by decide +kernel
theorem dX2_placeOfPeak_50 : decode cX2_placeOfPeak 50 = .ok (.iaload, 1) := by decide +kernel
theorem dX2_placeOfPeak_51 : decode cX2_placeOfPeak 51 = .ok (.ishl, 1) := by decide +kernel
theorem dX2_placeOfPeak_52 : decode cX2_placeOfPeak 52 = .ok (.ior, 1) := by decide +kernel
theorem dX2_placeOfPeak_53 : decode cX2_placeOfPeak 53 = .ok (.istore 6, 2) := by decide +kernel
theorem dX2_placeOfPeak_55 : decode cX2_placeOfPeak 55 = .ok (.iload 5, 2) := by decide +kernel
theorem dX2_placeOfPeak_57 : decode cX2_placeOfPeak 57 = .ok (.iload_n 3, 1) := by decide +kernel
theorem dX2_placeOfPeak_58 : decode cX2_placeOfPeak 58 = .ok (.if_icmp .le 10, 3) := by decide +kernel
theorem dX2_placeOfPeak_61 : decode cX2_placeOfPeak 61 = .ok (.iload 5, 2) := by decide +kernel
theorem dX2_placeOfPeak_63 : decode cX2_placeOfPeak 63 = .ok (.istore_n 3, 1) := by decide +kernel
theorem dX2_placeOfPeak_64 : decode cX2_placeOfPeak 64 = .ok (.iload 7, 2) := by decide +kernel
theorem dX2_placeOfPeak_66 : decode cX2_placeOfPeak 66 = .ok (.istore 4, 2) := by decide +kernel
theorem dX2_placeOfPeak_68 : decode cX2_placeOfPeak 68 = .ok (.iinc 7 1, 3) := by decide +kernel
theorem dX2_placeOfPeak_71 : decode cX2_placeOfPeak 71 = .ok (.goto (-57), 3) := by decide +kernel
theorem dX2_placeOfPeak_74 : decode cX2_placeOfPeak 74 = .ok (.iload 4, 2) := by decide +kernel
theorem dX2_placeOfPeak_76 : decode cX2_placeOfPeak 76 = .ok (.ireturn, 1) := by decide +kernel
noncomputable def f_X2_placeOfPeak_L14 (i1 : Int32) (x_view_posts : Int32) (x_view_weights : Nat → Int32) (x_view_near : Nat → Int32) (x_view_behind : Nat → Int32) (x_p2_size : Int32) (x_p2_posts : Nat → Int32) (i3 : Int32) (i4 : Int32) (i5 : Int32) (i6 : Int32) (i7 : Int32) : Option ((Int32 × Int32 × Int32 × Int32 × Int32) ⊕ (Int32)) :=
  if x_p2_size ≤ i7 then (some (.inr i4)) else ((gi x_p2_posts 11 i7).bind fun v2 =>
  (f_X2_priceWith x_view_posts x_view_weights x_view_near x_view_behind i1 i5 i6 v2).bind fun v3 =>
  (gi x_p2_posts 11 i7).bind fun v4 =>
  b2 ((if v3 ≤ i3 then (some (i3, i4)) else (some (v3, i7)) : Option (Int32 × Int32))) fun t5 t6 =>
  some (.inl (t5, t6, v3, (i6 ||| ((1 : Int32) <<< (v4 &&& 31))), (i7 + (1 : Int32)))))
noncomputable def f_X2_placeOfPeak (x_view_posts : Int32) (x_view_weights : Nat → Int32) (x_view_near : Nat → Int32) (x_view_behind : Nat → Int32) (x_p2_size : Int32) (x_p2_posts : Nat → Int32) (i1 : Int32) : Option (Int32) :=
  (loopS (fun (s : Int32 × Int32 × Int32 × Int32 × Int32) => f_X2_placeOfPeak_L14 i1 x_view_posts x_view_weights x_view_near x_view_behind x_p2_size x_p2_posts s.1 s.2.1 s.2.2.1 s.2.2.2.1 s.2.2.2.2) ((0 : Int32), (-1 : Int32), (0 : Int32), (0 : Int32), (0 : Int32))).bind fun x1 =>
  some (x1)
set_option maxHeartbeats 4000000 in
set_option maxRecDepth 100000 in
theorem c_X2_placeOfPeak (l : Launch) (dC : Nat → ClassId) (dI : Nat → Nat → Nat) (cI cZ cN : ClassId) (q_ : Nat) (q_view : Nat) (q_view_weights : Nat) (q_view_near : Nat) (q_view_behind : Nat) (q_view_ahead : Nat) (q_p2 : Nat) (q_p2_posts : Nat) (x_view_posts : Int32) (x_view_roads : Int32) (x_view_weight : Int32) (x_view_weights : Nat → Int32) (x_view_near : Nat → Int32) (x_view_behind : Nat → Int32) (x_p2_size : Int32) (x_p2_posts : Nat → Int32) (i1 : Int32) (r : Int32) (hf : f_X2_placeOfPeak x_view_posts x_view_weights x_view_near x_view_behind x_p2_size x_p2_posts i1 = some r) : CI l yX2_placeOfPeak cX2_placeOfPeak 8 (some .int) 5 132 (dC, dI) (TY cI cZ cN) [.ref q_, .int i1, .ref q_p2] [(q_, .inr (2, [.ref q_view])), (q_view, .inr (8, [.int x_view_posts, .int x_view_roads, .int x_view_weight, .ref q_view_weights, .ref q_view_near, .ref q_view_behind, .ref q_view_ahead])), (q_view_weights, .inl (cI, 121, .inl x_view_weights)), (q_view_near, .inl (cI, 11, .inl x_view_near)), (q_view_behind, .inl (cI, 11, .inl x_view_behind)), (q_p2, .inr (5, [.ref q_p2_posts, .int x_p2_size])), (q_p2_posts, .inl (cI, 11, .inl x_p2_posts))] [(q_, .inr (2, [.ref q_view])), (q_view, .inr (8, [.int x_view_posts, .int x_view_roads, .int x_view_weight, .ref q_view_weights, .ref q_view_near, .ref q_view_behind, .ref q_view_ahead])), (q_view_weights, .inl (cI, 121, .inl x_view_weights)), (q_view_near, .inl (cI, 11, .inl x_view_near)), (q_view_behind, .inl (cI, 11, .inl x_view_behind)), (q_p2, .inr (5, [.ref q_p2_posts, .int x_p2_size])), (q_p2_posts, .inl (cI, 11, .inl x_p2_posts))] r := by
  refine CI.of rfl (by decide) (Nat.le_of_ble_eq_true rfl) ?_
  intro p e s m args below meth c Q A ls hx hb hml hown htb hK hN hA hP hD hS hl hret
  have hown : s.vm.findClass RX2 = some m.cls := hown
  have hl : lv_has ls 8 [(0, .ref q_), (1, .int i1), (2, .ref q_p2)] := hl
  have hret : ∀ (r9 : Int32), some r9 = some r → ∀ (H : Heap) (locs : List Loc) (pc : Nat) (ls : Array Slot), narrow .int (.int r9) = .int r9 → decode cX2_placeOfPeak pc = .ok (.ireturn, 1) → va_P (dC, dI) vwCl [(q_, .inr (2, [.ref q_view])), (q_view, .inr (8, [.int x_view_posts, .int x_view_roads, .int x_view_weight, .ref q_view_weights, .ref q_view_near, .ref q_view_behind, .ref q_view_ahead])), (q_view_weights, .inl (cI, 121, .inl x_view_weights)), (q_view_near, .inl (cI, 11, .inl x_view_near)), (q_view_behind, .inl (cI, 11, .inl x_view_behind)), (q_p2, .inr (5, [.ref q_p2_posts, .int x_p2_size])), (q_p2_posts, .inl (cI, 11, .inl x_p2_posts))] H → va_D A [(q_, .inr (2, [.ref q_view])), (q_view, .inr (8, [.int x_view_posts, .int x_view_roads, .int x_view_weight, .ref q_view_weights, .ref q_view_near, .ref q_view_behind, .ref q_view_ahead])), (q_view_weights, .inl (cI, 121, .inl x_view_weights)), (q_view_near, .inl (cI, 11, .inl x_view_near)), (q_view_behind, .inl (cI, 11, .inl x_view_behind)), (q_p2, .inr (5, [.ref q_p2_posts, .int x_p2_size])), (q_p2_posts, .inl (cI, 11, .inl x_p2_posts))] → va_S A s.heap H locs → W p l e (rmK 5 132) s m args below meth c H locs 0 0 Q (F0 m pc ls [.int r9]) := by
    intro r9 h9
    cases h9
    exact hret
  unfold f_X2_placeOfPeak at hf
  refine lv_iconst (v := (0 : Int32)) hx hb dX2_placeOfPeak_0 (by decide) ?_
  refine lv_istore_n (lv' := [(3, .int (0 : Int32)), (0, .ref q_), (1, .int i1), (2, .ref q_p2)]) hx hb dX2_placeOfPeak_1 rfl hl (by decide) rfl (fun ls hl => ?_)
  refine lv_iconst (v := (-1 : Int32)) hx hb dX2_placeOfPeak_2 (by decide) ?_
  refine lv_istore (lv' := [(4, .int (-1 : Int32)), (3, .int (0 : Int32)), (0, .ref q_), (1, .int i1), (2, .ref q_p2)]) hx hb dX2_placeOfPeak_3 hl (by decide) rfl (fun ls hl => ?_)
  refine lv_iconst (v := (0 : Int32)) hx hb dX2_placeOfPeak_5 (by decide) ?_
  refine lv_istore (lv' := [(5, .int (0 : Int32)), (4, .int (-1 : Int32)), (3, .int (0 : Int32)), (0, .ref q_), (1, .int i1), (2, .ref q_p2)]) hx hb dX2_placeOfPeak_6 hl (by decide) rfl (fun ls hl => ?_)
  refine lv_iconst (v := (0 : Int32)) hx hb dX2_placeOfPeak_8 (by decide) ?_
  refine lv_istore (lv' := [(6, .int (0 : Int32)), (5, .int (0 : Int32)), (4, .int (-1 : Int32)), (3, .int (0 : Int32)), (0, .ref q_), (1, .int i1), (2, .ref q_p2)]) hx hb dX2_placeOfPeak_9 hl (by decide) rfl (fun ls hl => ?_)
  refine lv_iconst (v := (0 : Int32)) hx hb dX2_placeOfPeak_11 (by decide) ?_
  refine lv_istore (lv' := [(7, .int (0 : Int32)), (6, .int (0 : Int32)), (5, .int (0 : Int32)), (4, .int (-1 : Int32)), (3, .int (0 : Int32)), (0, .ref q_), (1, .int i1), (2, .ref q_p2)]) hx hb dX2_placeOfPeak_12 hl (by decide) rfl (fun ls hl => ?_)
  obtain ⟨x1, hL, hf⟩ := ob hf
  have kx2 : ∀ (H : Heap) (locs : List Loc) (ls : Array Slot), va_P (dC, dI) vwCl [(q_, .inr (2, [.ref q_view])), (q_view, .inr (8, [.int x_view_posts, .int x_view_roads, .int x_view_weight, .ref q_view_weights, .ref q_view_near, .ref q_view_behind, .ref q_view_ahead])), (q_view_weights, .inl (cI, 121, .inl x_view_weights)), (q_view_near, .inl (cI, 11, .inl x_view_near)), (q_view_behind, .inl (cI, 11, .inl x_view_behind)), (q_p2, .inr (5, [.ref q_p2_posts, .int x_p2_size])), (q_p2_posts, .inl (cI, 11, .inl x_p2_posts))] H → va_D A [(q_, .inr (2, [.ref q_view])), (q_view, .inr (8, [.int x_view_posts, .int x_view_roads, .int x_view_weight, .ref q_view_weights, .ref q_view_near, .ref q_view_behind, .ref q_view_ahead])), (q_view_weights, .inl (cI, 121, .inl x_view_weights)), (q_view_near, .inl (cI, 11, .inl x_view_near)), (q_view_behind, .inl (cI, 11, .inl x_view_behind)), (q_p2, .inr (5, [.ref q_p2_posts, .int x_p2_size])), (q_p2_posts, .inl (cI, 11, .inl x_p2_posts))] → va_S A s.heap H locs → lv_has ls 8 [(4, .int x1)] → W p l e (rmK 5 132) s m args below meth c H locs 0 0 Q (F0 m 74 ls []) := by
    intro H locs ls hP hD hS hl
    refine lv_iload hx hb dX2_placeOfPeak_74 (lv_at hl 0 rfl) ?_
    exact hret _ hf _ _ _ _ rfl dX2_placeOfPeak_76 hP hD hS
  obtain ⟨n0, hn0⟩ := loopS_iter hL
  clear hf
  have kl8 : ∀ (n : Nat) (s3 : Int32) (s4 : Int32) (s5 : Int32) (s6 : Int32) (s7 : Int32), iterS (fun (s : Int32 × Int32 × Int32 × Int32 × Int32) => f_X2_placeOfPeak_L14 i1 x_view_posts x_view_weights x_view_near x_view_behind x_p2_size x_p2_posts s.1 s.2.1 s.2.2.1 s.2.2.2.1 s.2.2.2.2) n (s3, s4, s5, s6, s7) = some x1 → ∀ (H : Heap) (locs : List Loc) (ls : Array Slot), va_P (dC, dI) vwCl [(q_, .inr (2, [.ref q_view])), (q_view, .inr (8, [.int x_view_posts, .int x_view_roads, .int x_view_weight, .ref q_view_weights, .ref q_view_near, .ref q_view_behind, .ref q_view_ahead])), (q_view_weights, .inl (cI, 121, .inl x_view_weights)), (q_view_near, .inl (cI, 11, .inl x_view_near)), (q_view_behind, .inl (cI, 11, .inl x_view_behind)), (q_p2, .inr (5, [.ref q_p2_posts, .int x_p2_size])), (q_p2_posts, .inl (cI, 11, .inl x_p2_posts))] H → va_D A [(q_, .inr (2, [.ref q_view])), (q_view, .inr (8, [.int x_view_posts, .int x_view_roads, .int x_view_weight, .ref q_view_weights, .ref q_view_near, .ref q_view_behind, .ref q_view_ahead])), (q_view_weights, .inl (cI, 121, .inl x_view_weights)), (q_view_near, .inl (cI, 11, .inl x_view_near)), (q_view_behind, .inl (cI, 11, .inl x_view_behind)), (q_p2, .inr (5, [.ref q_p2_posts, .int x_p2_size])), (q_p2_posts, .inl (cI, 11, .inl x_p2_posts))] → va_S A s.heap H locs → lv_has ls 8 [(0, .ref q_), (1, .int i1), (2, .ref q_p2), (3, .int s3), (4, .int s4), (5, .int s5), (6, .int s6), (7, .int s7)] → W p l e (rmK 5 132) s m args below meth c H locs 0 0 Q (F0 m 14 ls []) := by
    intro n
    induction n with
    | zero =>
      intro s3 s4 s5 s6 s7 hn1
      cases hn1
    | succ n ih1 =>
      intro s3 s4 s5 s6 s7 hn1 H locs ls hP hD hS hl
      obtain ⟨r9, hf, hn1⟩ := it1 hn1
      replace hf : f_X2_placeOfPeak_L14 i1 x_view_posts x_view_weights x_view_near x_view_behind x_p2_size x_p2_posts s3 s4 s5 s6 s7 = some r9 := hf
      unfold f_X2_placeOfPeak_L14 at hf
      refine lv_iload hx hb dX2_placeOfPeak_14 (lv_at hl 7 rfl) ?_
      refine lv_aload_n hx hb dX2_placeOfPeak_16 rfl (lv_at hl 2 rfl) ?_
      refine va_get (D := (dC, dI)) (ci := 5) (v := .int x_p2_size) (C := RX5) (T := TX5) (N := 2) hx hb htb inX5 hown hK hP 5 rfl rfl 1 (Nat.le_of_ble_eq_true rfl) (htb _ t_135) (fun _ h9 => h9) rfl dX2_placeOfPeak_17 ?_
      refine lv_icmp_ge (tgt := 74) hx hb dX2_placeOfPeak_20 (by decide) (fun c10 => ?_) (fun c10 => ?_)
      · have hf := ip c10 hf
        cases hf
        cases (itr hn1)
        exact kx2 _ _ _ hP hD hS (lv_sub hl [4] rfl)
      · have hf := im c10 hf
        refine lv_aload_n hx hb dX2_placeOfPeak_23 rfl (lv_at hl 0 rfl) ?_
        refine lv_iload_n hx hb dX2_placeOfPeak_24 rfl (lv_at hl 1 rfl) ?_
        refine lv_iload hx hb dX2_placeOfPeak_25 (lv_at hl 5 rfl) ?_
        refine lv_iload hx hb dX2_placeOfPeak_27 (lv_at hl 6 rfl) ?_
        refine lv_aload_n hx hb dX2_placeOfPeak_29 rfl (lv_at hl 2 rfl) ?_
        refine va_get (D := (dC, dI)) (ci := 5) (v := .ref q_p2_posts) (C := RX5) (T := TX5) (N := 2) hx hb htb inX5 hown hK hP 5 rfl rfl 0 (Nat.le_of_ble_eq_true rfl) (htb _ t_129) (fun _ h9 => h9) rfl dX2_placeOfPeak_30 ?_
        refine lv_iload hx hb dX2_placeOfPeak_33 (lv_at hl 7 rfl) ?_
        obtain ⟨v11, hv, hf⟩ := ob hf
        refine k_iald hx hb hK hP 6 0 rfl rfl hv dX2_placeOfPeak_35 ?_
        obtain ⟨v12, hv, hf⟩ := ob hf
        refine k_afterI (wr := [(q_p2, .inr (5, [.ref q_p2_posts, .int x_p2_size])), (q_p2_posts, .inl (cI, 11, .inl x_p2_posts))]) (wn := [(q_, .inr (2, [.ref q_view])), (q_view, .inr (8, [.int x_view_posts, .int x_view_roads, .int x_view_weight, .ref q_view_weights, .ref q_view_near, .ref q_view_behind, .ref q_view_ahead])), (q_view_weights, .inl (cI, 121, .inl x_view_weights)), (q_view_near, .inl (cI, 11, .inl x_view_near)), (q_view_behind, .inl (cI, 11, .inl x_view_behind)), (q_p2, .inr (5, [.ref q_p2_posts, .int x_p2_size])), (q_p2_posts, .inl (cI, 11, .inl x_p2_posts))]) (k_runV (rest := []) (ci := 2) (q0 := 0) hx hb hml hown htb hK hN (c_X2_priceWith l dC dI cI cZ cN q_ q_view q_view_weights q_view_near q_view_behind q_view_ahead x_view_posts x_view_roads x_view_weight x_view_weights x_view_near x_view_behind i1 s5 s6 v11 v12 hv _) vf_X2_priceWith t_488 hP hD [0, 1, 2, 3, 4] rfl rfl rfl rfl ⟨(Nat.le_of_ble_eq_true rfl), (Nat.le_of_ble_eq_true rfl)⟩ rfl hl.1 rfl (Nat.le_of_ble_eq_true rfl) dX2_placeOfPeak_36 ⟨Nat.zero_le _, Nat.zero_le _⟩) hA hP hD hS [0, 1, 2, 3, 4] [5, 6] [2, 3, 4, 5, 6, 0, 1] rfl rfl rfl rfl ?_
        clear hP hD hS
        intro H locs hP hD hS
        refine lv_istore (lv' := [(5, .int v12), (0, .ref q_), (1, .int i1), (2, .ref q_p2), (3, .int s3), (4, .int s4), (6, .int s6), (7, .int s7)]) hx hb dX2_placeOfPeak_39 hl (by decide) rfl (fun ls hl => ?_)
        refine lv_iload hx hb dX2_placeOfPeak_41 (lv_at hl 6 rfl) ?_
        refine lv_iconst (v := (1 : Int32)) hx hb dX2_placeOfPeak_43 (by decide) ?_
        refine lv_aload_n hx hb dX2_placeOfPeak_44 rfl (lv_at hl 3 rfl) ?_
        refine va_get (D := (dC, dI)) (ci := 5) (v := .ref q_p2_posts) (C := RX5) (T := TX5) (N := 2) hx hb htb inX5 hown hK hP 5 rfl rfl 0 (Nat.le_of_ble_eq_true rfl) (htb _ t_129) (fun _ h9 => h9) rfl dX2_placeOfPeak_45 ?_
        refine lv_iload hx hb dX2_placeOfPeak_48 (lv_at hl 7 rfl) ?_
        obtain ⟨v13, hv, hf⟩ := ob hf
        refine k_iald hx hb hK hP 6 0 rfl rfl hv dX2_placeOfPeak_50 ?_
        refine lv_ishl hx hb dX2_placeOfPeak_51 ?_
        refine lv_ior hx hb dX2_placeOfPeak_52 ?_
        refine lv_istore (lv' := [(6, .int (s6 ||| ((1 : Int32) <<< (v13 &&& 31)))), (5, .int v12), (0, .ref q_), (1, .int i1), (2, .ref q_p2), (3, .int s3), (4, .int s4), (7, .int s7)]) hx hb dX2_placeOfPeak_53 hl (by decide) rfl (fun ls hl => ?_)
        refine lv_iload hx hb dX2_placeOfPeak_55 (lv_at hl 1 rfl) ?_
        refine lv_iload_n hx hb dX2_placeOfPeak_57 rfl (lv_at hl 5 rfl) ?_
        obtain ⟨t14, t15, hv, hf⟩ := ob2 hf
        have key16 : ∀ (H : Heap) (locs : List Loc) (ls : Array Slot), va_P (dC, dI) vwCl [(q_, .inr (2, [.ref q_view])), (q_view, .inr (8, [.int x_view_posts, .int x_view_roads, .int x_view_weight, .ref q_view_weights, .ref q_view_near, .ref q_view_behind, .ref q_view_ahead])), (q_view_weights, .inl (cI, 121, .inl x_view_weights)), (q_view_near, .inl (cI, 11, .inl x_view_near)), (q_view_behind, .inl (cI, 11, .inl x_view_behind)), (q_p2, .inr (5, [.ref q_p2_posts, .int x_p2_size])), (q_p2_posts, .inl (cI, 11, .inl x_p2_posts))] H → va_D A [(q_, .inr (2, [.ref q_view])), (q_view, .inr (8, [.int x_view_posts, .int x_view_roads, .int x_view_weight, .ref q_view_weights, .ref q_view_near, .ref q_view_behind, .ref q_view_ahead])), (q_view_weights, .inl (cI, 121, .inl x_view_weights)), (q_view_near, .inl (cI, 11, .inl x_view_near)), (q_view_behind, .inl (cI, 11, .inl x_view_behind)), (q_p2, .inr (5, [.ref q_p2_posts, .int x_p2_size])), (q_p2_posts, .inl (cI, 11, .inl x_p2_posts))] → va_S A s.heap H locs → lv_has ls 8 [(0, .ref q_), (1, .int i1), (2, .ref q_p2), (3, .int t14), (4, .int t15), (5, .int v12), (6, .int (s6 ||| ((1 : Int32) <<< (v13 &&& 31)))), (7, .int s7)] → W p l e (rmK 5 132) s m args below meth c H locs 0 0 Q (F0 m 68 ls []) := by
          intro H locs ls hP hD hS hl
          refine lv_iinc (v := (s7 + (1 : Int32))) (lv' := [(7, .int (s7 + (1 : Int32))), (0, .ref q_), (1, .int i1), (2, .ref q_p2), (3, .int t14), (4, .int t15), (5, .int v12), (6, .int (s6 ||| ((1 : Int32) <<< (v13 &&& 31))))]) hx hb dX2_placeOfPeak_68 hl (k := 7) rfl rfl (by decide) rfl (fun ls hl => ?_)
          refine lv_goto (tgt := 14) hx hb dX2_placeOfPeak_71 (by decide) ?_
          cases hf
          exact ih1 _ _ _ _ _ (itl hn1) _ _ _ hP hD hS (lv_sub hl [1, 2, 3, 4, 5, 6, 7, 0] rfl)
        replace hf := hv
        refine lv_icmp_le (tgt := 68) hx hb dX2_placeOfPeak_58 (by decide) (fun c17 => ?_) (fun c17 => ?_)
        · have hf := ip c17 hf
          cases hf
          exact key16 _ _ _ hP hD hS (lv_sub hl [2, 3, 4, 5, 6, 1, 0, 7] rfl)
        · have hf := im c17 hf
          refine lv_iload hx hb dX2_placeOfPeak_61 (lv_at hl 1 rfl) ?_
          refine lv_istore_n (lv' := [(3, .int v12), (6, .int (s6 ||| ((1 : Int32) <<< (v13 &&& 31)))), (5, .int v12), (0, .ref q_), (1, .int i1), (2, .ref q_p2), (4, .int s4), (7, .int s7)]) hx hb dX2_placeOfPeak_63 rfl hl (by decide) rfl (fun ls hl => ?_)
          refine lv_iload hx hb dX2_placeOfPeak_64 (lv_at hl 7 rfl) ?_
          refine lv_istore (lv' := [(4, .int s7), (3, .int v12), (6, .int (s6 ||| ((1 : Int32) <<< (v13 &&& 31)))), (5, .int v12), (0, .ref q_), (1, .int i1), (2, .ref q_p2), (7, .int s7)]) hx hb dX2_placeOfPeak_66 hl (by decide) rfl (fun ls hl => ?_)
          cases hf
          exact key16 _ _ _ hP hD hS (lv_sub hl [4, 5, 6, 1, 0, 3, 2, 7] rfl)
  exact kl8 n0 _ _ _ _ _ hn0 _ _ _ hP hD hS (lv_sub hl [5, 6, 7, 4, 3, 2, 1, 0] rfl)
theorem vf_X2_placeOfSpan : VF yX2_placeOfSpan cX2_placeOfSpan 7 (some .int) 1 := ⟨t_511, t_512, t_9, t_513, by decide +kernel, by decide +kernel, by decide +kernel⟩
theorem dX2_placeOfSpan_0 : decode cX2_placeOfSpan 0 = .ok (.iconst 0, 1) := by decide +kernel
theorem dX2_placeOfSpan_1 : decode cX2_placeOfSpan 1 = .ok (.istore_n 2, 1) := by decide +kernel
theorem dX2_placeOfSpan_2 : decode cX2_placeOfSpan 2 = .ok (.iconst (-1), 1) := by decide +kernel
theorem dX2_placeOfSpan_3 : decode cX2_placeOfSpan 3 = .ok (.istore_n 3, 1) := by decide +kernel
theorem dX2_placeOfSpan_4 : decode cX2_placeOfSpan 4 = .ok (.iconst 0, 1) := by decide +kernel
theorem dX2_placeOfSpan_5 : decode cX2_placeOfSpan 5 = .ok (.istore 4, 2) := by decide +kernel
theorem dX2_placeOfSpan_7 : decode cX2_placeOfSpan 7 = .ok (.iload 4, 2) := by decide +kernel
theorem dX2_placeOfSpan_9 : decode cX2_placeOfSpan 9 = .ok (.aload_n 1, 1) := by decide +kernel
theorem dX2_placeOfSpan_10 : decode cX2_placeOfSpan 10 = .ok (.getfield 15, 3) := by decide +kernel
theorem dX2_placeOfSpan_13 : decode cX2_placeOfSpan 13 = .ok (.if_icmp .ge 84, 3) := by decide +kernel
theorem dX2_placeOfSpan_16 : decode cX2_placeOfSpan 16 = .ok (.iload 4, 2) := by decide +kernel
theorem dX2_placeOfSpan_18 : decode cX2_placeOfSpan 18 = .ok (.iconst 1, 1) := by decide +kernel
theorem dX2_placeOfSpan_19 : decode cX2_placeOfSpan 19 = .ok (.iadd, 1) := by decide +kernel
theorem dX2_placeOfSpan_20 : decode cX2_placeOfSpan 20 = .ok (.istore 5, 2) := by decide +kernel
theorem dX2_placeOfSpan_22 : decode cX2_placeOfSpan 22 = .ok (.iload 5, 2) := by decide +kernel
theorem dX2_placeOfSpan_24 : decode cX2_placeOfSpan 24 = .ok (.aload_n 1, 1) := by decide +kernel
theorem dX2_placeOfSpan_25 : decode cX2_placeOfSpan 25 = .ok (.getfield 15, 3) := by decide +kernel
theorem dX2_placeOfSpan_28 : decode cX2_placeOfSpan 28 = .ok (.if_icmp .ge 63, 3) := by decide +kernel
theorem dX2_placeOfSpan_31 : decode cX2_placeOfSpan 31 = .ok (.iload 5, 2) := by decide +kernel
theorem dX2_placeOfSpan_33 : decode cX2_placeOfSpan 33 = .ok (.iload 4, 2) := by decide +kernel
theorem dX2_placeOfSpan_35 : decode cX2_placeOfSpan 35 = .ok (.isub, 1) := by decide +kernel
theorem dX2_placeOfSpan_36 : decode cX2_placeOfSpan 36 = .ok (.iload_n 2, 1) := by decide +kernel
theorem dX2_placeOfSpan_37 : decode cX2_placeOfSpan 37 = .ok (.if_icmp .le 7, 3) := by decide +kernel
theorem dX2_placeOfSpan_40 : decode cX2_placeOfSpan 40 = .ok (.iconst 1, 1) := by decide +kernel
theorem dX2_placeOfSpan_41 : decode cX2_placeOfSpan 41 = .ok (.goto 4, 3) := by decide +kernel
theorem dX2_placeOfSpan_44 : decode cX2_placeOfSpan 44 = .ok (.iconst 0, 1) := by decide +kernel
theorem dX2_placeOfSpan_45 : decode cX2_placeOfSpan 45 = .ok (.istore 6, 2) := by decide +kernel
theorem dX2_placeOfSpan_47 : decode cX2_placeOfSpan 47 = .ok (.iload 6, 2) := by decide +kernel
theorem dX2_placeOfSpan_49 : decode cX2_placeOfSpan 49 = .ok (.ifCond .eq 36, 3) := by decide +kernel
theorem dX2_placeOfSpan_52 : decode cX2_placeOfSpan 52 = .ok (.aload_n 0, 1) := by decide +kernel
theorem dX2_placeOfSpan_53 : decode cX2_placeOfSpan 53 = .ok (.getfield 9, 3) := by decide +kernel
theorem dX2_placeOfSpan_56 : decode cX2_placeOfSpan 56 = .ok (.aload_n 1, 1) := by decide +kernel
theorem dX2_placeOfSpan_57 : decode cX2_placeOfSpan 57 = .ok (.getfield 29, 3) := by decide +kernel
theorem dX2_placeOfSpan_60 : decode cX2_placeOfSpan 60 = .ok (.iload 4, 2) := by decide +kernel
theorem dX2_placeOfSpan_62 : decode cX2_placeOfSpan 62 = .ok (.iaload, 1) := by decide +kernel
theorem dX2_placeOfSpan_63 : decode cX2_placeOfSpan 63 = .ok (.aload_n 1, 1) := by decide +kernel
theorem dX2_placeOfSpan_64 : decode cX2_placeOfSpan 64 = .ok (.getfield 29, 3) := by decide +kernel
theorem dX2_placeOfSpan_67 : decode cX2_placeOfSpan 67 = .ok (.iload 5, 2) := by decide +kernel
theorem dX2_placeOfSpan_69 : decode cX2_placeOfSpan 69 = .ok (.iaload, 1) := by decide +kernel
theorem dX2_placeOfSpan_70 : decode cX2_placeOfSpan 70 = .ok (.invokevirtual 45, 3) := by decide +kernel
theorem dX2_placeOfSpan_73 : decode cX2_placeOfSpan 73 = .ok (.ifCond .le 12, 3) := by decide +kernel
theorem dX2_placeOfSpan_76 : decode cX2_placeOfSpan 76 = .ok (.iload 5, 2) := by decide +kernel
theorem dX2_placeOfSpan_78 : decode cX2_placeOfSpan 78 = .ok (.iload 4, 2) := by decide +kernel
theorem dX2_placeOfSpan_80 : decode cX2_placeOfSpan 80 = .ok (.isub, 1) := by decide +kernel
theorem dX2_placeOfSpan_81 : decode cX2_placeOfSpan 81 = .ok (.istore_n 2, 1) := by decide +kernel
theorem dX2_placeOfSpan_82 : decode cX2_placeOfSpan 82 = .ok (.iload 4, 2) := by decide +kernel
theorem dX2_placeOfSpan_84 : decode cX2_placeOfSpan 84 = .ok (.istore_n 3, 1) := by decide +kernel
theorem dX2_placeOfSpan_85 : decode cX2_placeOfSpan 85 = .ok (.iinc 5 1, 3) := by decide +kernel
theorem dX2_placeOfSpan_88 : decode cX2_placeOfSpan 88 = .ok (.goto (-66), 3) := by decide +kernel
theorem dX2_placeOfSpan_91 : decode cX2_placeOfSpan 91 = .ok (.iinc 4 1, 3) := by decide +kernel
theorem dX2_placeOfSpan_94 : decode cX2_placeOfSpan 94 = .ok (.goto (-87), 3) := by decide +kernel
theorem dX2_placeOfSpan_97 : decode cX2_placeOfSpan 97 = .ok (.iload_n 3, 1) := by decide +kernel
theorem dX2_placeOfSpan_98 : decode cX2_placeOfSpan 98 = .ok (.ireturn, 1) := by decide +kernel
noncomputable def f_X2_placeOfSpan_L22 (i4 : Int32) (x_view_weights : Nat → Int32) (x_p1_size : Int32) (x_p1_posts : Nat → Int32) (i2 : Int32) (i3 : Int32) (i5 : Int32) : Option ((Int32 × Int32 × Int32) ⊕ (Int32 × Int32)) :=
  if x_p1_size ≤ i5 then (some (.inr (i2, i3))) else (((if (i5 - i4) ≤ i2 then (some (0 : Int32)) else (some (1 : Int32)) : Option (Int32))).bind fun t3 =>
  b2 ((if t3 = 0 then (some (i2, i3)) else ((gi x_p1_posts 11 i4).bind fun v9 =>
  (gi x_p1_posts 11 i5).bind fun v10 =>
  (f_X9_weightOf x_view_weights v9 v10).bind fun v11 =>
  if v11 ≤ 0 then (some (i2, i3)) else (some ((i5 - i4), i4))) : Option (Int32 × Int32))) fun t5 t6 =>
  some (.inl (t5, t6, (i5 + (1 : Int32)))))
noncomputable def f_X2_placeOfSpan_L7 (x_view_weights : Nat → Int32) (x_p1_size : Int32) (x_p1_posts : Nat → Int32) (i2 : Int32) (i3 : Int32) (i4 : Int32) : Option ((Int32 × Int32 × Int32) ⊕ (Int32)) :=
  if x_p1_size ≤ i4 then (some (.inr i3)) else (b2 (loopS (fun (s : Int32 × Int32 × Int32) => f_X2_placeOfSpan_L22 i4 x_view_weights x_p1_size x_p1_posts s.1 s.2.1 s.2.2) (i2, i3, (i4 + (1 : Int32)))) fun x2 x3 =>
  some (.inl (x2, x3, (i4 + (1 : Int32)))))
noncomputable def f_X2_placeOfSpan (x_view_weights : Nat → Int32) (x_p1_size : Int32) (x_p1_posts : Nat → Int32) : Option (Int32) :=
  (loopS (fun (s : Int32 × Int32 × Int32) => f_X2_placeOfSpan_L7 x_view_weights x_p1_size x_p1_posts s.1 s.2.1 s.2.2) ((0 : Int32), (-1 : Int32), (0 : Int32))).bind fun x1 =>
  some (x1)
set_option maxHeartbeats 4000000 in
set_option maxRecDepth 100000 in
theorem c_X2_placeOfSpan (l : Launch) (dC : Nat → ClassId) (dI : Nat → Nat → Nat) (cI cZ cN : ClassId) (q_ : Nat) (q_view : Nat) (q_view_weights : Nat) (q_view_near : Nat) (q_view_behind : Nat) (q_view_ahead : Nat) (q_p1 : Nat) (q_p1_posts : Nat) (x_view_posts : Int32) (x_view_roads : Int32) (x_view_weight : Int32) (x_view_weights : Nat → Int32) (x_p1_size : Int32) (x_p1_posts : Nat → Int32) (r : Int32) (hf : f_X2_placeOfSpan x_view_weights x_p1_size x_p1_posts = some r) : CI l yX2_placeOfSpan cX2_placeOfSpan 7 (some .int) 3 82 (dC, dI) (TY cI cZ cN) [.ref q_, .ref q_p1] [(q_, .inr (2, [.ref q_view])), (q_view, .inr (8, [.int x_view_posts, .int x_view_roads, .int x_view_weight, .ref q_view_weights, .ref q_view_near, .ref q_view_behind, .ref q_view_ahead])), (q_view_weights, .inl (cI, 121, .inl x_view_weights)), (q_p1, .inr (5, [.ref q_p1_posts, .int x_p1_size])), (q_p1_posts, .inl (cI, 11, .inl x_p1_posts))] [(q_, .inr (2, [.ref q_view])), (q_view, .inr (8, [.int x_view_posts, .int x_view_roads, .int x_view_weight, .ref q_view_weights, .ref q_view_near, .ref q_view_behind, .ref q_view_ahead])), (q_view_weights, .inl (cI, 121, .inl x_view_weights)), (q_p1, .inr (5, [.ref q_p1_posts, .int x_p1_size])), (q_p1_posts, .inl (cI, 11, .inl x_p1_posts))] r := by
  refine CI.of rfl (by decide) (Nat.le_of_ble_eq_true rfl) ?_
  intro p e s m args below meth c Q A ls hx hb hml hown htb hK hN hA hP hD hS hl hret
  have hown : s.vm.findClass RX2 = some m.cls := hown
  have hl : lv_has ls 7 [(0, .ref q_), (1, .ref q_p1)] := hl
  have hret : ∀ (r9 : Int32), some r9 = some r → ∀ (H : Heap) (locs : List Loc) (pc : Nat) (ls : Array Slot), narrow .int (.int r9) = .int r9 → decode cX2_placeOfSpan pc = .ok (.ireturn, 1) → va_P (dC, dI) vwCl [(q_, .inr (2, [.ref q_view])), (q_view, .inr (8, [.int x_view_posts, .int x_view_roads, .int x_view_weight, .ref q_view_weights, .ref q_view_near, .ref q_view_behind, .ref q_view_ahead])), (q_view_weights, .inl (cI, 121, .inl x_view_weights)), (q_p1, .inr (5, [.ref q_p1_posts, .int x_p1_size])), (q_p1_posts, .inl (cI, 11, .inl x_p1_posts))] H → va_D A [(q_, .inr (2, [.ref q_view])), (q_view, .inr (8, [.int x_view_posts, .int x_view_roads, .int x_view_weight, .ref q_view_weights, .ref q_view_near, .ref q_view_behind, .ref q_view_ahead])), (q_view_weights, .inl (cI, 121, .inl x_view_weights)), (q_p1, .inr (5, [.ref q_p1_posts, .int x_p1_size])), (q_p1_posts, .inl (cI, 11, .inl x_p1_posts))] → va_S A s.heap H locs → W p l e (rmK 3 82) s m args below meth c H locs 0 0 Q (F0 m pc ls [.int r9]) := by
    intro r9 h9
    cases h9
    exact hret
  unfold f_X2_placeOfSpan at hf
  refine lv_iconst (v := (0 : Int32)) hx hb dX2_placeOfSpan_0 (by decide) ?_
  refine lv_istore_n (lv' := [(2, .int (0 : Int32)), (0, .ref q_), (1, .ref q_p1)]) hx hb dX2_placeOfSpan_1 rfl hl (by decide) rfl (fun ls hl => ?_)
  refine lv_iconst (v := (-1 : Int32)) hx hb dX2_placeOfSpan_2 (by decide) ?_
  refine lv_istore_n (lv' := [(3, .int (-1 : Int32)), (2, .int (0 : Int32)), (0, .ref q_), (1, .ref q_p1)]) hx hb dX2_placeOfSpan_3 rfl hl (by decide) rfl (fun ls hl => ?_)
  refine lv_iconst (v := (0 : Int32)) hx hb dX2_placeOfSpan_4 (by decide) ?_
  refine lv_istore (lv' := [(4, .int (0 : Int32)), (3, .int (-1 : Int32)), (2, .int (0 : Int32)), (0, .ref q_), (1, .ref q_p1)]) hx hb dX2_placeOfSpan_5 hl (by decide) rfl (fun ls hl => ?_)
  obtain ⟨x1, hL, hf⟩ := ob hf
  have kx2 : ∀ (H : Heap) (locs : List Loc) (ls : Array Slot), va_P (dC, dI) vwCl [(q_, .inr (2, [.ref q_view])), (q_view, .inr (8, [.int x_view_posts, .int x_view_roads, .int x_view_weight, .ref q_view_weights, .ref q_view_near, .ref q_view_behind, .ref q_view_ahead])), (q_view_weights, .inl (cI, 121, .inl x_view_weights)), (q_p1, .inr (5, [.ref q_p1_posts, .int x_p1_size])), (q_p1_posts, .inl (cI, 11, .inl x_p1_posts))] H → va_D A [(q_, .inr (2, [.ref q_view])), (q_view, .inr (8, [.int x_view_posts, .int x_view_roads, .int x_view_weight, .ref q_view_weights, .ref q_view_near, .ref q_view_behind, .ref q_view_ahead])), (q_view_weights, .inl (cI, 121, .inl x_view_weights)), (q_p1, .inr (5, [.ref q_p1_posts, .int x_p1_size])), (q_p1_posts, .inl (cI, 11, .inl x_p1_posts))] → va_S A s.heap H locs → lv_has ls 7 [(3, .int x1)] → W p l e (rmK 3 82) s m args below meth c H locs 0 0 Q (F0 m 97 ls []) := by
    intro H locs ls hP hD hS hl
    refine lv_iload_n hx hb dX2_placeOfSpan_97 rfl (lv_at hl 0 rfl) ?_
    exact hret _ hf _ _ _ _ rfl dX2_placeOfSpan_98 hP hD hS
  obtain ⟨n0, hn0⟩ := loopS_iter hL
  clear hf
  have kl6 : ∀ (n : Nat) (s3 : Int32) (s4 : Int32) (s5 : Int32), iterS (fun (s : Int32 × Int32 × Int32) => f_X2_placeOfSpan_L7 x_view_weights x_p1_size x_p1_posts s.1 s.2.1 s.2.2) n (s3, s4, s5) = some x1 → ∀ (H : Heap) (locs : List Loc) (ls : Array Slot), va_P (dC, dI) vwCl [(q_, .inr (2, [.ref q_view])), (q_view, .inr (8, [.int x_view_posts, .int x_view_roads, .int x_view_weight, .ref q_view_weights, .ref q_view_near, .ref q_view_behind, .ref q_view_ahead])), (q_view_weights, .inl (cI, 121, .inl x_view_weights)), (q_p1, .inr (5, [.ref q_p1_posts, .int x_p1_size])), (q_p1_posts, .inl (cI, 11, .inl x_p1_posts))] H → va_D A [(q_, .inr (2, [.ref q_view])), (q_view, .inr (8, [.int x_view_posts, .int x_view_roads, .int x_view_weight, .ref q_view_weights, .ref q_view_near, .ref q_view_behind, .ref q_view_ahead])), (q_view_weights, .inl (cI, 121, .inl x_view_weights)), (q_p1, .inr (5, [.ref q_p1_posts, .int x_p1_size])), (q_p1_posts, .inl (cI, 11, .inl x_p1_posts))] → va_S A s.heap H locs → lv_has ls 7 [(0, .ref q_), (1, .ref q_p1), (2, .int s3), (3, .int s4), (4, .int s5)] → W p l e (rmK 3 82) s m args below meth c H locs 0 0 Q (F0 m 7 ls []) := by
    intro n
    induction n with
    | zero =>
      intro s3 s4 s5 hn1
      cases hn1
    | succ n ih1 =>
      intro s3 s4 s5 hn1 H locs ls hP hD hS hl
      obtain ⟨r7, hf, hn1⟩ := it1 hn1
      replace hf : f_X2_placeOfSpan_L7 x_view_weights x_p1_size x_p1_posts s3 s4 s5 = some r7 := hf
      unfold f_X2_placeOfSpan_L7 at hf
      refine lv_iload hx hb dX2_placeOfSpan_7 (lv_at hl 4 rfl) ?_
      refine lv_aload_n hx hb dX2_placeOfSpan_9 rfl (lv_at hl 1 rfl) ?_
      refine va_get (D := (dC, dI)) (ci := 5) (v := .int x_p1_size) (C := RX5) (T := TX5) (N := 2) hx hb htb inX5 hown hK hP 3 rfl rfl 1 (Nat.le_of_ble_eq_true rfl) (htb _ t_135) (fun _ h9 => h9) rfl dX2_placeOfSpan_10 ?_
      refine lv_icmp_ge (tgt := 97) hx hb dX2_placeOfSpan_13 (by decide) (fun c8 => ?_) (fun c8 => ?_)
      · have hf := ip c8 hf
        cases hf
        cases (itr hn1)
        exact kx2 _ _ _ hP hD hS (lv_sub hl [3] rfl)
      · have hf := im c8 hf
        refine lv_iload hx hb dX2_placeOfSpan_16 (lv_at hl 4 rfl) ?_
        refine lv_iconst (v := (1 : Int32)) hx hb dX2_placeOfSpan_18 (by decide) ?_
        refine lv_iadd hx hb dX2_placeOfSpan_19 ?_
        refine lv_istore (lv' := [(5, .int (s5 + (1 : Int32))), (0, .ref q_), (1, .ref q_p1), (2, .int s3), (3, .int s4), (4, .int s5)]) hx hb dX2_placeOfSpan_20 hl (by decide) rfl (fun ls hl => ?_)
        obtain ⟨x9, x10, hL, hf⟩ := ob2 hf
        have kx11 : ∀ (H : Heap) (locs : List Loc) (ls : Array Slot), va_P (dC, dI) vwCl [(q_, .inr (2, [.ref q_view])), (q_view, .inr (8, [.int x_view_posts, .int x_view_roads, .int x_view_weight, .ref q_view_weights, .ref q_view_near, .ref q_view_behind, .ref q_view_ahead])), (q_view_weights, .inl (cI, 121, .inl x_view_weights)), (q_p1, .inr (5, [.ref q_p1_posts, .int x_p1_size])), (q_p1_posts, .inl (cI, 11, .inl x_p1_posts))] H → va_D A [(q_, .inr (2, [.ref q_view])), (q_view, .inr (8, [.int x_view_posts, .int x_view_roads, .int x_view_weight, .ref q_view_weights, .ref q_view_near, .ref q_view_behind, .ref q_view_ahead])), (q_view_weights, .inl (cI, 121, .inl x_view_weights)), (q_p1, .inr (5, [.ref q_p1_posts, .int x_p1_size])), (q_p1_posts, .inl (cI, 11, .inl x_p1_posts))] → va_S A s.heap H locs → lv_has ls 7 [(0, .ref q_), (1, .ref q_p1), (2, .int x9), (3, .int x10), (4, .int s5)] → W p l e (rmK 3 82) s m args below meth c H locs 0 0 Q (F0 m 91 ls []) := by
          intro H locs ls hP hD hS hl
          refine lv_iinc (v := (s5 + (1 : Int32))) (lv' := [(4, .int (s5 + (1 : Int32))), (0, .ref q_), (1, .ref q_p1), (2, .int x9), (3, .int x10)]) hx hb dX2_placeOfSpan_91 hl (k := 4) rfl rfl (by decide) rfl (fun ls hl => ?_)
          refine lv_goto (tgt := 7) hx hb dX2_placeOfSpan_94 (by decide) ?_
          cases hf
          exact ih1 _ _ _ (itl hn1) _ _ _ hP hD hS (lv_sub hl [1, 2, 3, 4, 0] rfl)
        obtain ⟨n0, hn0⟩ := loopS_iter hL
        clear hf
        have kl15 : ∀ (n : Nat) (s12 : Int32) (s13 : Int32) (s14 : Int32), iterS (fun (s : Int32 × Int32 × Int32) => f_X2_placeOfSpan_L22 s5 x_view_weights x_p1_size x_p1_posts s.1 s.2.1 s.2.2) n (s12, s13, s14) = some (x9, x10) → ∀ (H : Heap) (locs : List Loc) (ls : Array Slot), va_P (dC, dI) vwCl [(q_, .inr (2, [.ref q_view])), (q_view, .inr (8, [.int x_view_posts, .int x_view_roads, .int x_view_weight, .ref q_view_weights, .ref q_view_near, .ref q_view_behind, .ref q_view_ahead])), (q_view_weights, .inl (cI, 121, .inl x_view_weights)), (q_p1, .inr (5, [.ref q_p1_posts, .int x_p1_size])), (q_p1_posts, .inl (cI, 11, .inl x_p1_posts))] H → va_D A [(q_, .inr (2, [.ref q_view])), (q_view, .inr (8, [.int x_view_posts, .int x_view_roads, .int x_view_weight, .ref q_view_weights, .ref q_view_near, .ref q_view_behind, .ref q_view_ahead])), (q_view_weights, .inl (cI, 121, .inl x_view_weights)), (q_p1, .inr (5, [.ref q_p1_posts, .int x_p1_size])), (q_p1_posts, .inl (cI, 11, .inl x_p1_posts))] → va_S A s.heap H locs → lv_has ls 7 [(0, .ref q_), (1, .ref q_p1), (2, .int s12), (3, .int s13), (4, .int s5), (5, .int s14)] → W p l e (rmK 3 82) s m args below meth c H locs 0 0 Q (F0 m 22 ls []) := by
          intro n
          induction n with
          | zero =>
            intro s12 s13 s14 hn2
            cases hn2
          | succ n ih2 =>
            intro s12 s13 s14 hn2 H locs ls hP hD hS hl
            obtain ⟨r16, hf, hn2⟩ := it1 hn2
            replace hf : f_X2_placeOfSpan_L22 s5 x_view_weights x_p1_size x_p1_posts s12 s13 s14 = some r16 := hf
            unfold f_X2_placeOfSpan_L22 at hf
            refine lv_iload hx hb dX2_placeOfSpan_22 (lv_at hl 5 rfl) ?_
            refine lv_aload_n hx hb dX2_placeOfSpan_24 rfl (lv_at hl 1 rfl) ?_
            refine va_get (D := (dC, dI)) (ci := 5) (v := .int x_p1_size) (C := RX5) (T := TX5) (N := 2) hx hb htb inX5 hown hK hP 3 rfl rfl 1 (Nat.le_of_ble_eq_true rfl) (htb _ t_135) (fun _ h9 => h9) rfl dX2_placeOfSpan_25 ?_
            refine lv_icmp_ge (tgt := 91) hx hb dX2_placeOfSpan_28 (by decide) (fun c17 => ?_) (fun c17 => ?_)
            · have hf := ip c17 hf
              cases hf
              cases (itr hn2)
              exact kx11 _ _ _ hP hD hS (lv_sub hl [0, 1, 2, 3, 4] rfl)
            · have hf := im c17 hf
              refine lv_iload hx hb dX2_placeOfSpan_31 (lv_at hl 5 rfl) ?_
              refine lv_iload hx hb dX2_placeOfSpan_33 (lv_at hl 4 rfl) ?_
              refine lv_isub hx hb dX2_placeOfSpan_35 ?_
              refine lv_iload_n hx hb dX2_placeOfSpan_36 rfl (lv_at hl 2 rfl) ?_
              obtain ⟨t18, hv, hf⟩ := ob hf
              have key19 : ∀ (H : Heap) (locs : List Loc) (ls : Array Slot), va_P (dC, dI) vwCl [(q_, .inr (2, [.ref q_view])), (q_view, .inr (8, [.int x_view_posts, .int x_view_roads, .int x_view_weight, .ref q_view_weights, .ref q_view_near, .ref q_view_behind, .ref q_view_ahead])), (q_view_weights, .inl (cI, 121, .inl x_view_weights)), (q_p1, .inr (5, [.ref q_p1_posts, .int x_p1_size])), (q_p1_posts, .inl (cI, 11, .inl x_p1_posts))] H → va_D A [(q_, .inr (2, [.ref q_view])), (q_view, .inr (8, [.int x_view_posts, .int x_view_roads, .int x_view_weight, .ref q_view_weights, .ref q_view_near, .ref q_view_behind, .ref q_view_ahead])), (q_view_weights, .inl (cI, 121, .inl x_view_weights)), (q_p1, .inr (5, [.ref q_p1_posts, .int x_p1_size])), (q_p1_posts, .inl (cI, 11, .inl x_p1_posts))] → va_S A s.heap H locs → lv_has ls 7 [(0, .ref q_), (1, .ref q_p1), (2, .int s12), (3, .int s13), (4, .int s5), (5, .int s14)] → W p l e (rmK 3 82) s m args below meth c H locs 0 0 Q (F0 m 45 ls [.int t18]) := by
                intro H locs ls hP hD hS hl
                refine lv_istore (lv' := [(6, .int t18), (0, .ref q_), (1, .ref q_p1), (2, .int s12), (3, .int s13), (4, .int s5), (5, .int s14)]) hx hb dX2_placeOfSpan_45 hl (by decide) rfl (fun ls hl => ?_)
                refine lv_iload hx hb dX2_placeOfSpan_47 (lv_at hl 0 rfl) ?_
                obtain ⟨t20, t21, hv, hf⟩ := ob2 hf
                have key22 : ∀ (H : Heap) (locs : List Loc) (ls : Array Slot), va_P (dC, dI) vwCl [(q_, .inr (2, [.ref q_view])), (q_view, .inr (8, [.int x_view_posts, .int x_view_roads, .int x_view_weight, .ref q_view_weights, .ref q_view_near, .ref q_view_behind, .ref q_view_ahead])), (q_view_weights, .inl (cI, 121, .inl x_view_weights)), (q_p1, .inr (5, [.ref q_p1_posts, .int x_p1_size])), (q_p1_posts, .inl (cI, 11, .inl x_p1_posts))] H → va_D A [(q_, .inr (2, [.ref q_view])), (q_view, .inr (8, [.int x_view_posts, .int x_view_roads, .int x_view_weight, .ref q_view_weights, .ref q_view_near, .ref q_view_behind, .ref q_view_ahead])), (q_view_weights, .inl (cI, 121, .inl x_view_weights)), (q_p1, .inr (5, [.ref q_p1_posts, .int x_p1_size])), (q_p1_posts, .inl (cI, 11, .inl x_p1_posts))] → va_S A s.heap H locs → lv_has ls 7 [(0, .ref q_), (1, .ref q_p1), (2, .int t20), (3, .int t21), (4, .int s5), (5, .int s14)] → W p l e (rmK 3 82) s m args below meth c H locs 0 0 Q (F0 m 85 ls []) := by
                  intro H locs ls hP hD hS hl
                  refine lv_iinc (v := (s14 + (1 : Int32))) (lv' := [(5, .int (s14 + (1 : Int32))), (0, .ref q_), (1, .ref q_p1), (2, .int t20), (3, .int t21), (4, .int s5)]) hx hb dX2_placeOfSpan_85 hl (k := 5) rfl rfl (by decide) rfl (fun ls hl => ?_)
                  refine lv_goto (tgt := 22) hx hb dX2_placeOfSpan_88 (by decide) ?_
                  cases hf
                  exact ih2 _ _ _ (itl hn2) _ _ _ hP hD hS (lv_sub hl [1, 2, 3, 4, 5, 0] rfl)
                replace hf := hv
                refine lv_if_eq (tgt := 85) hx hb dX2_placeOfSpan_49 (by decide) (fun c23 => ?_) (fun c23 => ?_)
                · have hf := ip c23 hf
                  cases hf
                  exact key22 _ _ _ hP hD hS (lv_sub hl [1, 2, 3, 4, 5, 6] rfl)
                · have hf := im c23 hf
                  refine lv_aload_n hx hb dX2_placeOfSpan_52 rfl (lv_at hl 1 rfl) ?_
                  refine va_get (D := (dC, dI)) (ci := 2) (v := .ref q_view) (C := RX2) (T := TX2) (N := 1) hx hb htb inX2 hown hK hP 0 rfl rfl 0 (Nat.le_of_ble_eq_true rfl) (htb _ t_197) (fun _ h9 => h9) rfl dX2_placeOfSpan_53 ?_
                  refine lv_aload_n hx hb dX2_placeOfSpan_56 rfl (lv_at hl 2 rfl) ?_
                  refine va_get (D := (dC, dI)) (ci := 5) (v := .ref q_p1_posts) (C := RX5) (T := TX5) (N := 2) hx hb htb inX5 hown hK hP 3 rfl rfl 0 (Nat.le_of_ble_eq_true rfl) (htb _ t_129) (fun _ h9 => h9) rfl dX2_placeOfSpan_57 ?_
                  refine lv_iload hx hb dX2_placeOfSpan_60 (lv_at hl 5 rfl) ?_
                  obtain ⟨v24, hv, hf⟩ := ob hf
                  refine k_iald hx hb hK hP 4 0 rfl rfl hv dX2_placeOfSpan_62 ?_
                  refine lv_aload_n hx hb dX2_placeOfSpan_63 rfl (lv_at hl 2 rfl) ?_
                  refine va_get (D := (dC, dI)) (ci := 5) (v := .ref q_p1_posts) (C := RX5) (T := TX5) (N := 2) hx hb htb inX5 hown hK hP 3 rfl rfl 0 (Nat.le_of_ble_eq_true rfl) (htb _ t_129) (fun _ h9 => h9) rfl dX2_placeOfSpan_64 ?_
                  refine lv_iload hx hb dX2_placeOfSpan_67 (lv_at hl 6 rfl) ?_
                  obtain ⟨v25, hv, hf⟩ := ob hf
                  refine k_iald hx hb hK hP 4 0 rfl rfl hv dX2_placeOfSpan_69 ?_
                  obtain ⟨v26, hv, hf⟩ := ob hf
                  refine k_afterI (wr := [(q_, .inr (2, [.ref q_view])), (q_p1, .inr (5, [.ref q_p1_posts, .int x_p1_size])), (q_p1_posts, .inl (cI, 11, .inl x_p1_posts))]) (wn := [(q_, .inr (2, [.ref q_view])), (q_view, .inr (8, [.int x_view_posts, .int x_view_roads, .int x_view_weight, .ref q_view_weights, .ref q_view_near, .ref q_view_behind, .ref q_view_ahead])), (q_view_weights, .inl (cI, 121, .inl x_view_weights)), (q_p1, .inr (5, [.ref q_p1_posts, .int x_p1_size])), (q_p1_posts, .inl (cI, 11, .inl x_p1_posts))]) (k_runV (rest := []) (ci := 8) (q0 := 1) hx hb hml hown htb hK hN (c_X9_weightOf l dC dI cI cZ cN q_view q_view_weights q_view_near q_view_behind q_view_ahead x_view_posts x_view_roads x_view_weight x_view_weights v24 v25 v26 hv _) vf_X9_weightOf t_481 hP hD [1, 2] rfl rfl rfl rfl ⟨(Nat.le_of_ble_eq_true rfl), (Nat.le_of_ble_eq_true rfl)⟩ rfl hl.1 rfl (Nat.le_of_ble_eq_true rfl) dX2_placeOfSpan_70 ⟨Nat.zero_le _, Nat.zero_le _⟩) hA hP hD hS [1, 2] [0, 3, 4] [0, 3, 4, 1, 2] rfl rfl rfl rfl ?_
                  clear hP hD hS
                  intro H locs hP hD hS
                  refine lv_if_le (tgt := 85) hx hb dX2_placeOfSpan_73 (by decide) (fun c27 => ?_) (fun c27 => ?_)
                  · have hf := ip c27 hf
                    cases hf
                    exact key22 _ _ _ hP hD hS (lv_sub hl [1, 2, 3, 4, 5, 6] rfl)
                  · have hf := im c27 hf
                    refine lv_iload hx hb dX2_placeOfSpan_76 (lv_at hl 6 rfl) ?_
                    refine lv_iload hx hb dX2_placeOfSpan_78 (lv_at hl 5 rfl) ?_
                    refine lv_isub hx hb dX2_placeOfSpan_80 ?_
                    refine lv_istore_n (lv' := [(2, .int (s14 - s5)), (6, .int t18), (0, .ref q_), (1, .ref q_p1), (3, .int s13), (4, .int s5), (5, .int s14)]) hx hb dX2_placeOfSpan_81 rfl hl (by decide) rfl (fun ls hl => ?_)
                    refine lv_iload hx hb dX2_placeOfSpan_82 (lv_at hl 5 rfl) ?_
                    refine lv_istore_n (lv' := [(3, .int s5), (2, .int (s14 - s5)), (6, .int t18), (0, .ref q_), (1, .ref q_p1), (4, .int s5), (5, .int s14)]) hx hb dX2_placeOfSpan_84 rfl hl (by decide) rfl (fun ls hl => ?_)
                    cases hf
                    exact key22 _ _ _ hP hD hS (lv_sub hl [3, 4, 1, 0, 5, 6] rfl)
              replace hf := hv
              refine lv_icmp_le (tgt := 44) hx hb dX2_placeOfSpan_37 (by decide) (fun c28 => ?_) (fun c28 => ?_)
              · have hf := ip c28 hf
                refine lv_iconst (v := (0 : Int32)) hx hb dX2_placeOfSpan_44 (by decide) ?_
                cases hf
                exact key19 _ _ _ hP hD hS (lv_sub hl [0, 1, 2, 3, 4, 5] rfl)
              · have hf := im c28 hf
                refine lv_iconst (v := (1 : Int32)) hx hb dX2_placeOfSpan_40 (by decide) ?_
                refine lv_goto (tgt := 45) hx hb dX2_placeOfSpan_41 (by decide) ?_
                cases hf
                exact key19 _ _ _ hP hD hS (lv_sub hl [0, 1, 2, 3, 4, 5] rfl)
        exact kl15 n0 _ _ _ hn0 _ _ _ hP hD hS (lv_sub hl [1, 2, 3, 4, 5, 0] rfl)
  exact kl6 n0 _ _ _ hn0 _ _ _ hP hD hS (lv_sub hl [3, 4, 2, 1, 0] rfl)
theorem vf_X2_bagOf : VF yX2_bagOf cX2_bagOf 5 (some .int) 2 := ⟨t_680, t_681, t_9, t_682, by decide +kernel, by decide +kernel, by decide +kernel⟩
theorem dX2_bagOf_0 : decode cX2_bagOf 0 = .ok (.iconst 0, 1) := by decide +kernel
theorem dX2_bagOf_1 : decode cX2_bagOf 1 = .ok (.istore_n 3, 1) := by decide +kernel
theorem dX2_bagOf_2 : decode cX2_bagOf 2 = .ok (.iconst 0, 1) := by decide +kernel
theorem dX2_bagOf_3 : decode cX2_bagOf 3 = .ok (.istore 4, 2) := by decide +kernel
theorem dX2_bagOf_5 : decode cX2_bagOf 5 = .ok (.iload 4, 2) := by decide +kernel
theorem dX2_bagOf_7 : decode cX2_bagOf 7 = .ok (.iload_n 2, 1) := by decide +kernel
theorem dX2_bagOf_8 : decode cX2_bagOf 8 = .ok (.if_icmp .ge 21, 3) := by decide +kernel
theorem dX2_bagOf_11 : decode cX2_bagOf 11 = .ok (.iload_n 3, 1) := by decide +kernel
theorem dX2_bagOf_12 : decode cX2_bagOf 12 = .ok (.iconst 1, 1) := by decide +kernel
theorem dX2_bagOf_13 : decode cX2_bagOf 13 = .ok (.aload_n 1, 1) := by decide +kernel
theorem dX2_bagOf_14 : decode cX2_bagOf 14 = .ok (.getfield 29, 3) := by decide +kernel
theorem dX2_bagOf_17 : decode cX2_bagOf 17 = .ok (.iload 4, 2) := by decide +kernel
theorem dX2_bagOf_19 : decode cX2_bagOf 19 = .ok (.iaload, 1) := by decide +kernel
theorem dX2_bagOf_20 : decode cX2_bagOf 20 = .ok (.ishl, 1) := by decide +kernel
theorem dX2_bagOf_21 : decode cX2_bagOf 21 = .ok (.ior, 1) := by decide +kernel
theorem dX2_bagOf_22 : decode cX2_bagOf 22 = .ok (.istore_n 3, 1) := by decide +kernel
theorem dX2_bagOf_23 : decode cX2_bagOf 23 = .ok (.iinc 4 1, 3) := by decide +kernel
theorem dX2_bagOf_26 : decode cX2_bagOf 26 = .ok (.goto (-21), 3) := by decide +kernel
theorem dX2_bagOf_29 : decode cX2_bagOf 29 = .ok (.aload_n 0, 1) := by decide +kernel
theorem dX2_bagOf_30 : decode cX2_bagOf 30 = .ok (.iload_n 3, 1) := by decide +kernel
theorem dX2_bagOf_31 : decode cX2_bagOf 31 = .ok (.aload_n 0, 1) := by decide +kernel
theorem dX2_bagOf_32 : decode cX2_bagOf 32 = .ok (.getfield 9, 3) := by decide +kernel
theorem dX2_bagOf_35 : decode cX2_bagOf 35 = .ok (.getfield 60, 3) := by decide +kernel
theorem dX2_bagOf_38 : decode cX2_bagOf 38 = .ok (.invokevirtual 63, 3) := by decide +kernel
theorem dX2_bagOf_41 : decode cX2_bagOf 41 = .ok (.iconst 1, 1) := by decide +kernel
theorem dX2_bagOf_42 : decode cX2_bagOf 42 = .ok (.aload_n 1, 1) := by decide +kernel
theorem dX2_bagOf_43 : decode cX2_bagOf 43 = .ok (.getfield 29, 3) := by decide +kernel
theorem dX2_bagOf_46 : decode cX2_bagOf 46 = .ok (.iload_n 2, 1) := by decide +kernel
theorem dX2_bagOf_47 : decode cX2_bagOf 47 = .ok (.iaload, 1) := by decide +kernel
theorem dX2_bagOf_48 : decode cX2_bagOf 48 = .ok (.ishl, 1) := by decide +kernel
theorem dX2_bagOf_49 : decode cX2_bagOf 49 = .ok (.ior, 1) := by decide +kernel
theorem dX2_bagOf_50 : decode cX2_bagOf 50 = .ok (.ireturn, 1) := by decide +kernel
noncomputable def f_X2_bagOf_L5 (i2 : Int32) (x_p1_posts : Nat → Int32) (i3 : Int32) (i4 : Int32) : Option ((Int32 × Int32) ⊕ (Int32)) :=
  if i2 ≤ i4 then (some (.inr i3)) else ((gi x_p1_posts 11 i4).bind fun v2 =>
  some (.inl ((i3 ||| ((1 : Int32) <<< (v2 &&& 31))), (i4 + (1 : Int32)))))
noncomputable def f_X2_bagOf (x_view_posts : Int32) (x_view_near : Nat → Int32) (x_p1_posts : Nat → Int32) (i2 : Int32) : Option (Int32) :=
  (loopS (fun (s : Int32 × Int32) => f_X2_bagOf_L5 i2 x_p1_posts s.1 s.2) ((0 : Int32), (0 : Int32))).bind fun x1 =>
  (f_X2_leadingOut_near x_view_posts x_view_near x1).bind fun v3 =>
  (gi x_p1_posts 11 i2).bind fun v4 =>
  some ((v3 ||| ((1 : Int32) <<< (v4 &&& 31))))
set_option maxHeartbeats 4000000 in
set_option maxRecDepth 100000 in
theorem c_X2_bagOf (l : Launch) (dC : Nat → ClassId) (dI : Nat → Nat → Nat) (cI cZ cN : ClassId) (q_ : Nat) (q_view : Nat) (q_view_weights : Nat) (q_view_near : Nat) (q_view_behind : Nat) (q_view_ahead : Nat) (q_p1 : Nat) (q_p1_posts : Nat) (x_view_posts : Int32) (x_view_roads : Int32) (x_view_weight : Int32) (x_view_near : Nat → Int32) (x_p1_size : Int32) (x_p1_posts : Nat → Int32) (i2 : Int32) (r : Int32) (hf : f_X2_bagOf x_view_posts x_view_near x_p1_posts i2 = some r) : CI l yX2_bagOf cX2_bagOf 5 (some .int) 4 105 (dC, dI) (TY cI cZ cN) [.ref q_, .ref q_p1, .int i2] [(q_, .inr (2, [.ref q_view])), (q_view, .inr (8, [.int x_view_posts, .int x_view_roads, .int x_view_weight, .ref q_view_weights, .ref q_view_near, .ref q_view_behind, .ref q_view_ahead])), (q_view_near, .inl (cI, 11, .inl x_view_near)), (q_p1, .inr (5, [.ref q_p1_posts, .int x_p1_size])), (q_p1_posts, .inl (cI, 11, .inl x_p1_posts))] [(q_, .inr (2, [.ref q_view])), (q_view, .inr (8, [.int x_view_posts, .int x_view_roads, .int x_view_weight, .ref q_view_weights, .ref q_view_near, .ref q_view_behind, .ref q_view_ahead])), (q_view_near, .inl (cI, 11, .inl x_view_near)), (q_p1, .inr (5, [.ref q_p1_posts, .int x_p1_size])), (q_p1_posts, .inl (cI, 11, .inl x_p1_posts))] r := by
  refine CI.of rfl (by decide) (Nat.le_of_ble_eq_true rfl) ?_
  intro p e s m args below meth c Q A ls hx hb hml hown htb hK hN hA hP hD hS hl hret
  have hown : s.vm.findClass RX2 = some m.cls := hown
  have hl : lv_has ls 5 [(0, .ref q_), (1, .ref q_p1), (2, .int i2)] := hl
  have hret : ∀ (r9 : Int32), some r9 = some r → ∀ (H : Heap) (locs : List Loc) (pc : Nat) (ls : Array Slot), narrow .int (.int r9) = .int r9 → decode cX2_bagOf pc = .ok (.ireturn, 1) → va_P (dC, dI) vwCl [(q_, .inr (2, [.ref q_view])), (q_view, .inr (8, [.int x_view_posts, .int x_view_roads, .int x_view_weight, .ref q_view_weights, .ref q_view_near, .ref q_view_behind, .ref q_view_ahead])), (q_view_near, .inl (cI, 11, .inl x_view_near)), (q_p1, .inr (5, [.ref q_p1_posts, .int x_p1_size])), (q_p1_posts, .inl (cI, 11, .inl x_p1_posts))] H → va_D A [(q_, .inr (2, [.ref q_view])), (q_view, .inr (8, [.int x_view_posts, .int x_view_roads, .int x_view_weight, .ref q_view_weights, .ref q_view_near, .ref q_view_behind, .ref q_view_ahead])), (q_view_near, .inl (cI, 11, .inl x_view_near)), (q_p1, .inr (5, [.ref q_p1_posts, .int x_p1_size])), (q_p1_posts, .inl (cI, 11, .inl x_p1_posts))] → va_S A s.heap H locs → W p l e (rmK 4 105) s m args below meth c H locs 0 0 Q (F0 m pc ls [.int r9]) := by
    intro r9 h9
    cases h9
    exact hret
  unfold f_X2_bagOf at hf
  refine lv_iconst (v := (0 : Int32)) hx hb dX2_bagOf_0 (by decide) ?_
  refine lv_istore_n (lv' := [(3, .int (0 : Int32)), (0, .ref q_), (1, .ref q_p1), (2, .int i2)]) hx hb dX2_bagOf_1 rfl hl (by decide) rfl (fun ls hl => ?_)
  refine lv_iconst (v := (0 : Int32)) hx hb dX2_bagOf_2 (by decide) ?_
  refine lv_istore (lv' := [(4, .int (0 : Int32)), (3, .int (0 : Int32)), (0, .ref q_), (1, .ref q_p1), (2, .int i2)]) hx hb dX2_bagOf_3 hl (by decide) rfl (fun ls hl => ?_)
  obtain ⟨x1, hL, hf⟩ := ob hf
  have kx2 : ∀ (H : Heap) (locs : List Loc) (ls : Array Slot), va_P (dC, dI) vwCl [(q_, .inr (2, [.ref q_view])), (q_view, .inr (8, [.int x_view_posts, .int x_view_roads, .int x_view_weight, .ref q_view_weights, .ref q_view_near, .ref q_view_behind, .ref q_view_ahead])), (q_view_near, .inl (cI, 11, .inl x_view_near)), (q_p1, .inr (5, [.ref q_p1_posts, .int x_p1_size])), (q_p1_posts, .inl (cI, 11, .inl x_p1_posts))] H → va_D A [(q_, .inr (2, [.ref q_view])), (q_view, .inr (8, [.int x_view_posts, .int x_view_roads, .int x_view_weight, .ref q_view_weights, .ref q_view_near, .ref q_view_behind, .ref q_view_ahead])), (q_view_near, .inl (cI, 11, .inl x_view_near)), (q_p1, .inr (5, [.ref q_p1_posts, .int x_p1_size])), (q_p1_posts, .inl (cI, 11, .inl x_p1_posts))] → va_S A s.heap H locs → lv_has ls 5 [(0, .ref q_), (1, .ref q_p1), (2, .int i2), (3, .int x1)] → W p l e (rmK 4 105) s m args below meth c H locs 0 0 Q (F0 m 29 ls []) := by
    intro H locs ls hP hD hS hl
    refine lv_aload_n hx hb dX2_bagOf_29 rfl (lv_at hl 0 rfl) ?_
    refine lv_iload_n hx hb dX2_bagOf_30 rfl (lv_at hl 3 rfl) ?_
    refine lv_aload_n hx hb dX2_bagOf_31 rfl (lv_at hl 0 rfl) ?_
    refine va_get (D := (dC, dI)) (ci := 2) (v := .ref q_view) (C := RX2) (T := TX2) (N := 1) hx hb htb inX2 hown hK hP 0 rfl rfl 0 (Nat.le_of_ble_eq_true rfl) (htb _ t_197) (fun _ h9 => h9) rfl dX2_bagOf_32 ?_
    refine va_get (D := (dC, dI)) (ci := 8) (v := .ref q_view_near) (C := RX9) (T := TX9) (N := 7) hx hb htb inX9 hown hK hP 1 rfl rfl 4 (Nat.le_of_ble_eq_true rfl) (htb _ t_82) (fun _ h9 => h9) rfl dX2_bagOf_35 ?_
    obtain ⟨v3, hv, hf⟩ := ob hf
    refine k_afterI (wr := [(q_p1, .inr (5, [.ref q_p1_posts, .int x_p1_size])), (q_p1_posts, .inl (cI, 11, .inl x_p1_posts))]) (wn := [(q_, .inr (2, [.ref q_view])), (q_view, .inr (8, [.int x_view_posts, .int x_view_roads, .int x_view_weight, .ref q_view_weights, .ref q_view_near, .ref q_view_behind, .ref q_view_ahead])), (q_view_near, .inl (cI, 11, .inl x_view_near)), (q_p1, .inr (5, [.ref q_p1_posts, .int x_p1_size])), (q_p1_posts, .inl (cI, 11, .inl x_p1_posts))]) (k_runV (rest := []) (ci := 2) (q0 := 0) hx hb hml hown htb hK hN (c_X2_leadingOut_near l dC dI cI cZ cN q_ q_view q_view_weights q_view_near q_view_behind q_view_ahead x_view_posts x_view_roads x_view_weight x_view_near x1 v3 hv _) vf_X2_leadingOut t_492 hP hD [0, 1, 2] rfl rfl rfl rfl ⟨(Nat.le_of_ble_eq_true rfl), (Nat.le_of_ble_eq_true rfl)⟩ rfl hl.1 rfl (Nat.le_of_ble_eq_true rfl) dX2_bagOf_38 ⟨Nat.zero_le _, Nat.zero_le _⟩) hA hP hD hS [0, 1, 2] [3, 4] [2, 3, 4, 0, 1] rfl rfl rfl rfl ?_
    clear hP hD hS
    intro H locs hP hD hS
    refine lv_iconst (v := (1 : Int32)) hx hb dX2_bagOf_41 (by decide) ?_
    refine lv_aload_n hx hb dX2_bagOf_42 rfl (lv_at hl 1 rfl) ?_
    refine va_get (D := (dC, dI)) (ci := 5) (v := .ref q_p1_posts) (C := RX5) (T := TX5) (N := 2) hx hb htb inX5 hown hK hP 3 rfl rfl 0 (Nat.le_of_ble_eq_true rfl) (htb _ t_129) (fun _ h9 => h9) rfl dX2_bagOf_43 ?_
    refine lv_iload_n hx hb dX2_bagOf_46 rfl (lv_at hl 2 rfl) ?_
    obtain ⟨v4, hv, hf⟩ := ob hf
    refine k_iald hx hb hK hP 4 0 rfl rfl hv dX2_bagOf_47 ?_
    refine lv_ishl hx hb dX2_bagOf_48 ?_
    refine lv_ior hx hb dX2_bagOf_49 ?_
    exact hret _ hf _ _ _ _ rfl dX2_bagOf_50 hP hD hS
  obtain ⟨n0, hn0⟩ := loopS_iter hL
  clear hf
  have kl7 : ∀ (n : Nat) (s5 : Int32) (s6 : Int32), iterS (fun (s : Int32 × Int32) => f_X2_bagOf_L5 i2 x_p1_posts s.1 s.2) n (s5, s6) = some x1 → ∀ (H : Heap) (locs : List Loc) (ls : Array Slot), va_P (dC, dI) vwCl [(q_, .inr (2, [.ref q_view])), (q_view, .inr (8, [.int x_view_posts, .int x_view_roads, .int x_view_weight, .ref q_view_weights, .ref q_view_near, .ref q_view_behind, .ref q_view_ahead])), (q_view_near, .inl (cI, 11, .inl x_view_near)), (q_p1, .inr (5, [.ref q_p1_posts, .int x_p1_size])), (q_p1_posts, .inl (cI, 11, .inl x_p1_posts))] H → va_D A [(q_, .inr (2, [.ref q_view])), (q_view, .inr (8, [.int x_view_posts, .int x_view_roads, .int x_view_weight, .ref q_view_weights, .ref q_view_near, .ref q_view_behind, .ref q_view_ahead])), (q_view_near, .inl (cI, 11, .inl x_view_near)), (q_p1, .inr (5, [.ref q_p1_posts, .int x_p1_size])), (q_p1_posts, .inl (cI, 11, .inl x_p1_posts))] → va_S A s.heap H locs → lv_has ls 5 [(0, .ref q_), (1, .ref q_p1), (2, .int i2), (3, .int s5), (4, .int s6)] → W p l e (rmK 4 105) s m args below meth c H locs 0 0 Q (F0 m 5 ls []) := by
    intro n
    induction n with
    | zero =>
      intro s5 s6 hn1
      cases hn1
    | succ n ih1 =>
      intro s5 s6 hn1 H locs ls hP hD hS hl
      obtain ⟨r8, hf, hn1⟩ := it1 hn1
      replace hf : f_X2_bagOf_L5 i2 x_p1_posts s5 s6 = some r8 := hf
      unfold f_X2_bagOf_L5 at hf
      refine lv_iload hx hb dX2_bagOf_5 (lv_at hl 4 rfl) ?_
      refine lv_iload_n hx hb dX2_bagOf_7 rfl (lv_at hl 2 rfl) ?_
      refine lv_icmp_ge (tgt := 29) hx hb dX2_bagOf_8 (by decide) (fun c9 => ?_) (fun c9 => ?_)
      · have hf := ip c9 hf
        cases hf
        cases (itr hn1)
        exact kx2 _ _ _ hP hD hS (lv_sub hl [0, 1, 2, 3] rfl)
      · have hf := im c9 hf
        refine lv_iload_n hx hb dX2_bagOf_11 rfl (lv_at hl 3 rfl) ?_
        refine lv_iconst (v := (1 : Int32)) hx hb dX2_bagOf_12 (by decide) ?_
        refine lv_aload_n hx hb dX2_bagOf_13 rfl (lv_at hl 1 rfl) ?_
        refine va_get (D := (dC, dI)) (ci := 5) (v := .ref q_p1_posts) (C := RX5) (T := TX5) (N := 2) hx hb htb inX5 hown hK hP 3 rfl rfl 0 (Nat.le_of_ble_eq_true rfl) (htb _ t_129) (fun _ h9 => h9) rfl dX2_bagOf_14 ?_
        refine lv_iload hx hb dX2_bagOf_17 (lv_at hl 4 rfl) ?_
        obtain ⟨v10, hv, hf⟩ := ob hf
        refine k_iald hx hb hK hP 4 0 rfl rfl hv dX2_bagOf_19 ?_
        refine lv_ishl hx hb dX2_bagOf_20 ?_
        refine lv_ior hx hb dX2_bagOf_21 ?_
        refine lv_istore_n (lv' := [(3, .int (s5 ||| ((1 : Int32) <<< (v10 &&& 31)))), (0, .ref q_), (1, .ref q_p1), (2, .int i2), (4, .int s6)]) hx hb dX2_bagOf_22 rfl hl (by decide) rfl (fun ls hl => ?_)
        refine lv_iinc (v := (s6 + (1 : Int32))) (lv' := [(4, .int (s6 + (1 : Int32))), (3, .int (s5 ||| ((1 : Int32) <<< (v10 &&& 31)))), (0, .ref q_), (1, .ref q_p1), (2, .int i2)]) hx hb dX2_bagOf_23 hl (k := 4) rfl rfl (by decide) rfl (fun ls hl => ?_)
        refine lv_goto (tgt := 5) hx hb dX2_bagOf_26 (by decide) ?_
        cases hf
        exact ih1 _ _ (itl hn1) _ _ _ hP hD hS (lv_sub hl [2, 3, 4, 1, 0] rfl)
  exact kl7 n0 _ _ hn0 _ _ _ hP hD hS (lv_sub hl [2, 3, 4, 1, 0] rfl)
