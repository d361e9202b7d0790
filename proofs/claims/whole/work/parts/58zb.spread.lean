/-! LAYER 2: hunts, the class runs -/
theorem soilF_sub {p : Nat} {O : Nat → Bool} {F : Nat → Nat → Bool} (a b : Nat) (h : F a b = true) : soilF p O F a b = true := by
  unfold soilF
  rw [h]
  rfl
theorem fullB_sub {Q F G : Nat → Nat → Bool} {a : Nat} (hQ : ∀ b, Q a b = true → b < 11) (hFG : ∀ b, F a b = true → G a b = true) (h : fullB Q F a = true) : fullB Q G a = true := by
  rw [fullB_iff hQ] at h ⊢
  exact fun b hb => hFG b (h b hb)
theorem Grd_soil {p g : Nat} {O : Nat → Bool} {F : Nat → Nat → Bool} (hg : g.testBit p = false) (h : GrdF g F) : GrdF g (soilF p O F) := by
  intro a b ha hb
  unfold soilF
  have h1 : ¬ a = p := fun e => by rw [e, hg] at ha; cases ha
  have h2 : ¬ b = p := fun e => by rw [e, hg] at hb; cases hb
  rw [h a b ha hb, decide_eq_false h1, decide_eq_false h2]
  rfl
theorem spread_n {Q : Nat → Nat → Bool} {n g again : Nat} {F0 F : Nat → Nat → Bool} {near foul : Nat → Int32} (hn : n ≤ 11) (hQ : ∀ a b, Q a b = true → a < n ∧ b < n) (hQs : SymF Q) (hQd : ∀ a, Q a a = false) (hnear : ∀ a, a < 11 → near a = nI (mkB (Q a) 11)) (hg : g < 2 ^ 11) (hW : WayF Q n g F0 F) (hG : GrdF g F) (hF : CF F foul) : ∃ v again2 F2 f2, f_X1_spread (nI g) (nI again) foul (nI n) near = some (v, nI again2, f2) ∧ CF F2 f2 ∧ WayF Q n g F0 F2 ∧ GrdF g F2 ∧ again2 + cntF n F = again + cntF n F2 ∧ ((v = 0 ∧ F2 = F ∧ StabF Q n g F) ∨ (v = 1 ∧ fullC Q F n + 1 ≤ fullC Q F2 n)) := by
  have hloop : ∃ x : Int32 × Int32 × (Nat → Int32), loopS (fun (s : Int32 × Int32 × Int32 × (Nat → Int32)) => f_X1_spread_L4 (nI g) (nI n) near s.1 s.2.1 s.2.2.1 s.2.2.2) ((0 : Int32), (0 : Int32), nI again, foul) = some x ∧ ∃ again2 F2, x.2.1 = nI again2 ∧ CF F2 x.2.2 ∧ WayF Q n g F0 F2 ∧ GrdF g F2 ∧ again2 + cntF n F = again + cntF n F2 ∧ ((x.1 = 0 ∧ F2 = F ∧ StabF Q n g F) ∨ (x.1 = 1 ∧ fullC Q F n + 1 ≤ fullC Q F2 n)) := by
    refine loop_inv (fun k (s : Int32 × Int32 × Int32 × (Nat → Int32)) => s.2.1 = nI k ∧ ∃ again2 F2, s.2.2.1 = nI again2 ∧ CF F2 s.2.2.2 ∧ WayF Q n g F0 F2 ∧ GrdF g F2 ∧ again2 + cntF n F = again + cntF n F2 ∧ (∀ a b, F a b = true → F2 a b = true) ∧ ((s.1 = 0 ∧ F2 = F ∧ ∀ a, a < k → g.testBit a = false → (∃ b, F a b = true) → ∀ b, Q a b = true → F a b = true) ∨ (s.1 = 1 ∧ fullC Q F n + 1 ≤ fullC Q F2 n))) (fun (x : Int32 × Int32 × (Nat → Int32)) => ∃ again2 F2, x.2.1 = nI again2 ∧ CF F2 x.2.2 ∧ WayF Q n g F0 F2 ∧ GrdF g F2 ∧ again2 + cntF n F = again + cntF n F2 ∧ ((x.1 = 0 ∧ F2 = F ∧ StabF Q n g F) ∨ (x.1 = 1 ∧ fullC Q F n + 1 ≤ fullC Q F2 n))) n ?_ ?_ ⟨nI_0.symm, again, F, rfl, hF, hW, hG, rfl, fun a b h => h, Or.inl ⟨rfl, rfl, fun a ha => absurd ha (by omega)⟩⟩
    · rintro k ⟨more, i, ag, f⟩ hk ⟨hi, again2, F2, e1, hC, hW2, hG2, hcnt, hsub, hor⟩
      dsimp only at hi e1 hC hor ⊢
      subst hi
      subst e1
      have hQ11 : ∀ b, Q k b = true → b < 11 := fun b hb => by have := (hQ k b hb).2; omega
      have hand : near k &&& (f k ^^^ (-1 : Int32)) = nI (mkB (fun b => Q k b && !F2 k b) 11) := by
        rw [hnear k (by omega), hC k (by omega)]
        exact and_mk (fun y hy => by rw [mkB_tb, decide_eq_true hy, Bool.true_and])
      have hl1 := mkB_lt (F2 k) 11
      have hl2 := mkB_lt (fun b => Q k b && !F2 k b) 11
      unfold f_X1_spread_L4
      rw [if_neg (show ¬ nI n ≤ nI k from nI_ge hk (by omega)), gi_n (by omega) (by omega), Option.bind_some, gi_n (by omega) (by omega), Option.bind_some, holds_n (by omega) (by omega), Option.bind_some, hand, nI_1]
      have same : (∀ a, a < k → g.testBit a = false → (∃ b, F a b = true) → ∀ b, Q a b = true → F a b = true) → (F2 = F → g.testBit k = false → (∃ b, F k b = true) → ∀ b, Q k b = true → F k b = true) → F2 = F → ∀ a, a < k + 1 → g.testBit a = false → (∃ b, F a b = true) → ∀ b, Q a b = true → F a b = true := fun q1 q2 q3 a ha => by
        by_cases hak : a = k
        · subst hak
          exact q2 q3
        · exact q1 a (by omega)
      have keep : (F2 = F → g.testBit k = false → (∃ b, F k b = true) → ∀ b, Q k b = true → F k b = true) → ((more = 0 ∧ F2 = F ∧ ∀ a, a < k + 1 → g.testBit a = false → (∃ b, F a b = true) → ∀ b, Q a b = true → F a b = true) ∨ (more = 1 ∧ fullC Q F n + 1 ≤ fullC Q F2 n)) := fun q => by
        rcases hor with ⟨q1, q2, q3⟩ | q1
        · exact Or.inl ⟨q1, q2, same q3 q q2⟩
        · exact Or.inr q1
      cases hgk : g.testBit k with
      | true =>
        rw [if_pos (show true = true from rfl), if_neg (show ¬ (1 : Int32) = 0 by decide)]
        exact ⟨_, rfl, rfl, again2, F2, rfl, hC, hW2, hG2, hcnt, hsub, keep (fun _ h => by rw [hgk] at h; cases h)⟩
      | false =>
        rw [if_neg (show ¬ false = true by decide), if_pos (show (0 : Int32) = 0 from rfl), Option.bind_some, hC k (by omega)]
        by_cases h0 : mkB (F2 k) 11 = 0
        · rw [if_pos (show nI (mkB (F2 k) 11) = 0 by rw [h0]; exact nI_0)]
          refine ⟨_, rfl, rfl, again2, F2, rfl, hC, hW2, hG2, hcnt, hsub, keep (fun e _ hb => ?_)⟩
          obtain ⟨b, hb⟩ := hb
          have h1 : (mkB (F2 k) 11).testBit b = false := by rw [h0]; exact Nat.zero_testBit b
          rw [mkB_tb, decide_eq_true (hQ11 b (hW2.2.1 k b (hsub k b hb))), Bool.true_and, hsub k b hb] at h1
          cases h1
        · rw [if_neg (show ¬ nI (mkB (F2 k) 11) = 0 from fun e => h0 ((nI_z (by omega)).mp e))]
          by_cases h3 : mkB (fun b => Q k b && !F2 k b) 11 = 0
          · rw [if_pos (show nI (mkB (fun b => Q k b && !F2 k b) 11) = 0 by rw [h3]; exact nI_0)]
            refine ⟨_, rfl, rfl, again2, F2, rfl, hC, hW2, hG2, hcnt, hsub, keep (fun e _ hb => ?_)⟩
            have h4 : fullB Q F2 k = true := decide_eq_true h3
            rw [e] at h4
            exact (fullB_iff hQ11).mp h4
          · rw [if_neg (show ¬ nI (mkB (fun b => Q k b && !F2 k b) 11) = 0 from fun e => h3 ((nI_z (by omega)).mp e))]
            obtain ⟨f3, e3, hC3⟩ := soil_n (p := k) (again := again2) (O := fun b => Q k b && !F2 k b) (F := F2) (foul := f) (by omega) (by show (Q k k && !F2 k k) = false; rw [hQd]; rfl) hC
            rw [e3]
            have hO : ∀ b, (Q k b && !F2 k b) = true → b < n ∧ F2 k b = false ∧ F2 b k = false ∧ b ≠ k := fun b hb => by
              rw [Bool.and_eq_true, Bool.not_eq_true'] at hb
              refine ⟨(hQ k b hb.1).2, hb.2, ?_, fun e => ?_⟩
              · rw [hW2.2.2.1 b k]; exact hb.2
              · rw [e, hQd] at hb; cases hb.1
            have hc := cnt_soil (n := n) (p := k) (O := fun b => Q k b && !F2 k b) (F := F2) hk hO hn
            have hex : ∃ b, F2 k b = true := by
              apply Classical.byContradiction
              intro hne
              apply h0
              apply Nat.eq_of_testBit_eq
              intro i
              rw [mkB_tb, Nat.zero_testBit]
              cases hf : F2 k i with
              | false => rw [Bool.and_false]
              | true => exact absurd ⟨i, hf⟩ hne
            have hfull : fullB Q (soilF k (fun b => Q k b && !F2 k b) F2) k = true := by
              rw [fullB_iff hQ11]
              intro b hb
              unfold soilF
              dsimp only
              rw [decide_eq_true (show k = k from rfl), hb]
              cases F2 k b <;> simp
            refine ⟨_, rfl, rfl, again2 + pcN (mkB (fun b => Q k b && !F2 k b) 11) 11, soilF k (fun b => Q k b && !F2 k b) F2, rfl, hC3, WayF_soil hQs hW2 hk hgk hex, Grd_soil hgk hG2, by omega, fun a b h => soilF_sub a b (hsub a b h), Or.inr ⟨rfl, ?_⟩⟩
            refine fullC_grow hk (fun a ha h => ?_) ?_ hfull
            · exact fullB_sub (fun b hb => by have := (hQ a b hb).2; omega) (fun b hb => soilF_sub a b (hsub a b hb)) h
            · cases h5 : fullB Q F k with
              | false => rfl
              | true => exact absurd (of_decide_eq_true (fullB_sub hQ11 (hsub k) h5)) h3
    · rintro ⟨more, i, ag, f⟩ ⟨hi, again2, F2, e1, hC, hW2, hG2, hcnt, hsub, hor⟩
      dsimp only at hi e1 hC hor ⊢
      subst hi
      refine ⟨(more, ag, f), ?_, again2, F2, e1, hC, hW2, hG2, hcnt, hor⟩
      unfold f_X1_spread_L4
      rw [if_pos (show nI n ≤ nI n from nI_le (Nat.le_refl n) (by omega))]
  obtain ⟨⟨more, ag, f2⟩, g1, again2, F2, e1, hC, hW2, hG2, hcnt, hor⟩ := hloop
  dsimp only at e1 hC hor
  subst e1
  refine ⟨more, again2, F2, f2, ?_, hC, hW2, hG2, hcnt, hor⟩
  unfold f_X1_spread
  rw [g1]
  have hb : bz more = some more := by
    rcases hor with ⟨q, -⟩ | ⟨q, -⟩
    · rw [q]; exact bz0
    · rw [q]; exact bz1
  show (bz more).bind (fun v5 => some (v5, nI again2, f2)) = _
  rw [hb]
  rfl
theorem leave_n {Q : Nat → Nat → Bool} {n g g2 again p : Nat} {F : Nat → Nat → Bool} {near foul : Nat → Int32} (hn : n ≤ 11) (hQ : ∀ a b, Q a b = true → a < n ∧ b < n) (hQs : SymF Q) (hQd : ∀ a, Q a a = false) (hnear : ∀ a, a < 11 → near a = nI (mkB (Q a) 11)) (hg2 : g2 < 2 ^ 11) (hp : p < 11) (he : nI g &&& (nI (2 ^ p) ^^^ (-1 : Int32)) = nI g2) (hS : SubF Q F) (hY : SymF F) (hG : GrdF g2 F) (hF : CF F foul) : ∃ again2 F2 f2, f_X1_leave (nI g) (nI again) foul (nI n) near (nI p) = some (nI g2, nI again2, f2) ∧ CF F2 f2 ∧ WayF Q n g2 F F2 ∧ GrdF g2 F2 ∧ StabF Q n g2 F2 ∧ again2 + cntF n F = again + cntF n F2 := by
  unfold f_X1_leave
  rw [one_shl (by omega), he]
  have hloop : ∃ x : Int32 × Int32 × (Nat → Int32), loopS (fun (s : Int32 × Int32 × (Nat → Int32)) => f_X1_leave_L16 (nI g2) (nI n) near s.1 s.2.1 s.2.2) ((0 : Int32), nI again, foul) = some x ∧ ∃ again2 F2, x.1 = nI g2 ∧ x.2.1 = nI again2 ∧ CF F2 x.2.2 ∧ WayF Q n g2 F F2 ∧ GrdF g2 F2 ∧ StabF Q n g2 F2 ∧ again2 + cntF n F = again + cntF n F2 := by
    refine loop_or (fun k (s : Int32 × Int32 × (Nat → Int32)) => s.1 = nI k ∧ ∃ again2 F2, s.2.1 = nI again2 ∧ CF F2 s.2.2 ∧ WayF Q n g2 F F2 ∧ GrdF g2 F2 ∧ again2 + cntF n F = again + cntF n F2 ∧ k ≤ fullC Q F2 n) (fun (x : Int32 × Int32 × (Nat → Int32)) => ∃ again2 F2, x.1 = nI g2 ∧ x.2.1 = nI again2 ∧ CF F2 x.2.2 ∧ WayF Q n g2 F F2 ∧ GrdF g2 F2 ∧ StabF Q n g2 F2 ∧ again2 + cntF n F = again + cntF n F2) 12 ?_ ?_ ⟨nI_0.symm, again, F, rfl, hF, ⟨fun a b h => h, hS, hY, fun P _ _ h3 a b h => h3 a b h⟩, hG, rfl, Nat.zero_le _⟩
    · rintro k ⟨i, ag, f⟩ hk ⟨hi, again2, F2, e1, hC, hW2, hG2, hcnt, hful⟩
      dsimp only at hi e1 hC ⊢
      subst hi
      subst e1
      obtain ⟨v, again3, F3, f3, e3, hC3, hW3, hG3, hcnt3, hor⟩ := spread_n (again := again2) hn hQ hQs hQd hnear hg2 hW2 hG2 hC
      unfold f_X1_leave_L16
      rw [if_neg (show ¬ (11 : Int32) < nI k from nI_nlt (a := 11) (by omega) (by omega)), e3, nI_1]
      rcases hor with ⟨q1, q2, q3⟩ | ⟨q1, q2⟩
      · refine Or.inr ⟨(nI g2, nI again3, f3), ?_, again3, F3, rfl, rfl, hC3, hW3, hG3, ?_, by omega⟩
        · subst q1
          rfl
        · rw [q2]; exact q3
      · refine Or.inl ⟨(nI (k + 1), nI again3, f3), ?_, rfl, again3, F3, rfl, hC3, hW3, hG3, by omega, by omega⟩
        subst q1
        rfl
    · rintro ⟨i, ag, f⟩ ⟨hi, again2, F2, e1, hC, hW2, hG2, hcnt, hful⟩
      have := fullC_le (Q := Q) (F := F2) (n := n)
      exact absurd hful (by omega)
  obtain ⟨⟨x1, x2, x3⟩, g1, again2, F2, e0, e1, hC, hW2, hG2, hS2, hcnt⟩ := hloop
  dsimp only at e0 e1 hC
  subst e0
  subst e1
  exact ⟨again2, F2, x3, g1, hC, hW2, hG2, hS2, hcnt⟩
/-! all ends of foul roads -/
theorem ends_two {F : Nat → Nat → Bool} (hY : SymF F) (hD : ∀ a, F a a = false) : ∀ m, fo (fun x y => x + y) (fun a => fo (fun x y => x + y) (fun b => bN (F a b)) m) m = 2 * cntF m F
  | 0 => rfl
  | m + 1 => by
    have ih := ends_two hY hD m
    have h1 : fo (fun x y => x + y) (fun a => fo (fun x y => x + y) (fun b => bN (F a b)) (m + 1)) m = fo (fun x y => x + y) (fun a => fo (fun x y => x + y) (fun b => bN (F a b)) m) m + fo (fun x y => x + y) (fun a => bN (F a m)) m := by
      rw [← fo_op (op := fun x y => x + y) OpOk_add]
      rfl
    have h2 : fo (fun x y => x + y) (fun a => bN (F a m)) m = fo (fun x y => x + y) (fun b => bN (F m b)) m := fo_congr (fun a _ => by rw [hY a m])
    have h3 : cntF (m + 1) F = cntF m F + fo (fun x y => x + y) (fun b => bN (F m b)) m := rfl
    have h4 : fo (fun x y => x + y) (fun a => fo (fun x y => x + y) (fun b => bN (F a b)) (m + 1)) (m + 1) = fo (fun x y => x + y) (fun a => fo (fun x y => x + y) (fun b => bN (F a b)) (m + 1)) m + (fo (fun x y => x + y) (fun b => bN (F m b)) m + bN (F m m)) := rfl
    rw [h4, h1, h2, ih, h3, hD]
    show _ + _ + (_ + 0) = _
    omega
theorem cntF_le {F : Nat → Nat → Bool} {n : Nat} (hn : n ≤ 11) : cntF n F ≤ 121 := by
  have h1 : ∀ a, a < n → fo (fun x y => x + y) (fun b => bN (F a b)) a ≤ 11 := fun a ha => by
    have := fo_sum_le (f := fun b => bN (F a b)) (M := 1) (n := a) (fun k _ => by
      show bN (F a k) ≤ 1
      unfold bN
      split <;> omega)
    omega
  have h2 := fo_sum_le (f := fun a => fo (fun x y => x + y) (fun b => bN (F a b)) a) (M := 11) (n := n) h1
  unfold cntF
  omega
theorem cntF_big {F : Nat → Nat → Bool} {n : Nat} (h : ∀ a b, F a b = true → a < n) : ∀ m, n ≤ m → cntF m F = cntF n F
  | 0, hm => by rw [show n = 0 by omega]
  | m + 1, hm => by
    by_cases hnm : n = m + 1
    · rw [hnm]
    · have ih := cntF_big h m (by omega)
      have h3 : cntF (m + 1) F = cntF m F + fo (fun x y => x + y) (fun b => bN (F m b)) m := rfl
      have h4 : fo (fun x y => x + y) (fun b => bN (F m b)) m = 0 := by
        rw [fo_congr (g := fun _ => 0) (fun b _ => ?_), fo_zero OpOk_add]
        cases hf : F m b with
        | false => rfl
        | true => exact absurd (h m b hf) (by omega)
      rw [h3, h4, ih]
      rfl
theorem foulRoads_n {Q F : Nat → Nat → Bool} {n : Nat} {foul : Nat → Int32} (hn : n ≤ 11) (hQ : ∀ a b, Q a b = true → a < n ∧ b < n) (hQd : ∀ a, Q a a = false) (hS : SubF Q F) (hY : SymF F) (hF : CF F foul) : f_X1_foulRoads foul = some (nI (cntF n F)) := by
  have hD : ∀ a, F a a = false := fun a => by
    cases h : F a a with
    | false => rfl
    | true => have := hS a a h; rw [hQd] at this; cases this
  have hpc : ∀ a, pcN (mkB (F a) 11) 11 = fo (fun x y => x + y) (fun b => bN (F a b)) 11 := fun a => pcN_fo (fun k hk => by rw [mkB_tb, decide_eq_true hk, Bool.true_and])
  have hloop : loopS (fun (s : Int32 × Int32) => f_X1_foulRoads_L4 foul s.1 s.2) ((0 : Int32), (0 : Int32)) = some (nI (fo (fun x y => x + y) (fun a => fo (fun x y => x + y) (fun b => bN (F a b)) 11) 11)) := by
    refine loop_go (fun k => (nI (fo (fun x y => x + y) (fun a => fo (fun x y => x + y) (fun b => bN (F a b)) 11) k), nI k)) 11 (by rw [fo, nI_0]) (fun k hk => ?_) ?_
    · dsimp only
      unfold f_X1_foulRoads_L4
      rw [if_neg (show ¬ (11 : Int32) ≤ nI k from nI_ge (b := 11) hk (by decide)), gi_n hk (by omega), Option.bind_some, hF k hk, bitCount_n _ (mkB_lt (F k) 11), Option.bind_some, nI_1, nI_add, hpc]
      rfl
    · dsimp only
      unfold f_X1_foulRoads_L4
      rw [if_pos (show (11 : Int32) ≤ nI 11 from nI_le (a := 11) (by omega) (by decide))]
  unfold f_X1_foulRoads
  rw [hloop, Option.bind_some, ends_two hY hD 11, cntF_big (fun a b h => (hQ a b (hS a b h)).1) 11 hn]
  have := cntF_le (F := F) (n := n) hn
  rw [show (2 : Int32) = nI 2 from rfl, pk_div (by omega) (by decide) (by decide), show 2 * cntF n F / 2 = cntF n F by omega]
