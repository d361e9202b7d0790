/-! LAYER 2: hunts, both run; clean -/
theorem xor_dif {g p : Nat} (hg : g < 2 ^ 11) (hp : p < 11) (h : g.testBit p = true) : g ^^^ 2 ^ p = dif g (2 ^ p) := by
  have hpw : 2 ^ p < 2 ^ 11 := Nat.pow_lt_pow_right (by decide) hp
  have h1 : g ^^^ 2 ^ p < 2 ^ 11 := Nat.xor_lt_two_pow hg hpw
  have h2 := dif_le g (2 ^ p)
  apply Nat.eq_of_testBit_eq
  intro i
  by_cases hi : i < 32
  · rw [dif_tb hi, Nat.testBit_xor, Nat.testBit_two_pow]
    by_cases e : p = i
    · subst e
      rw [h, decide_eq_true (show p = p from rfl)]
      rfl
    · rw [decide_eq_false e]
      cases g.testBit i <;> rfl
  · have hb : (2 : Nat) ^ 11 ≤ 2 ^ i := Nat.pow_le_pow_right (by decide) (by omega)
    rw [Nat.testBit_lt_two_pow (Nat.lt_of_lt_of_le h1 hb), Nat.testBit_lt_two_pow (Nat.lt_of_lt_of_le (show dif g (2 ^ p) < 2 ^ 11 by omega) hb)]
theorem xor_or {g p : Nat} (h : g.testBit p = false) : g ^^^ 2 ^ p = g ||| 2 ^ p := by
  apply Nat.eq_of_testBit_eq
  intro i
  rw [Nat.testBit_xor, Nat.testBit_or, Nat.testBit_two_pow]
  by_cases e : p = i
  · subst e
    rw [h, decide_eq_true (show p = p from rfl)]
    rfl
  · rw [decide_eq_false e]
    cases g.testBit i <;> rfl
theorem or_tb {g p i : Nat} : (g ||| 2 ^ p).testBit i = (g.testBit i || decide (p = i)) := by
  rw [Nat.testBit_or, Nat.testBit_two_pow]
theorem come_same {g p : Nat} {F : Nat → Nat → Bool} (hG : GrdF g F) : comeF (g ||| 2 ^ p) p F = comeG (g ||| 2 ^ p) F := by
  funext a b
  unfold comeF comeG
  rw [or_tb, or_tb]
  cases hf : F a b with
  | false => rfl
  | true =>
    have hno : (g.testBit a && g.testBit b) = false := by
      cases h1 : g.testBit a with
      | false => rfl
      | true =>
        cases h2 : g.testBit b with
        | false => rfl
        | true => rw [hG a b h1 h2] at hf; cases hf
    rw [show decide (p = a) = decide (a = p) from decide_eq_decide.mpr ⟨fun q => q.symm, fun q => q.symm⟩, show decide (p = b) = decide (b = p) from decide_eq_decide.mpr ⟨fun q => q.symm, fun q => q.symm⟩]
    generalize decide (a = p) = X
    generalize decide (b = p) = Y
    revert hno
    cases g.testBit a <;> cases g.testBit b <;> cases X <;> cases Y <;> decide
theorem comeG_same {g : Nat} {F : Nat → Nat → Bool} (hG : GrdF g F) : comeG g F = F := by
  funext a b
  unfold comeG
  cases h1 : g.testBit a with
  | false => rw [Bool.false_and, Bool.not_false, Bool.and_true]
  | true =>
    cases h2 : g.testBit b with
    | false => rw [Bool.and_false, Bool.not_false, Bool.and_true]
    | true => rw [hG a b h1 h2]; rfl
theorem comeG_grd {g : Nat} {F : Nat → Nat → Bool} : GrdF g (comeG g F) := fun a b h1 h2 => by
  unfold comeG
  rw [h1, h2, Bool.true_and, Bool.not_true, Bool.and_false]
theorem comeG_stab {Q F : Nat → Nat → Bool} {n g p : Nat} (hS : StabF Q n g F) : StabF Q n (g ||| 2 ^ p) (comeG (g ||| 2 ^ p) F) := fun a ha hga hex b hq => by
  obtain ⟨y, hy⟩ := hex
  have h1 : g.testBit a = false := by
    rw [or_tb, Bool.or_eq_false_iff] at hga
    exact hga.1
  have h2 := hS a ha h1 ⟨y, comeG_sub hy⟩ b hq
  unfold comeG
  rw [h2, hga, Bool.false_and]
  rfl
theorem L37_n {n K k v p : Nat} {d e : Int32} {moves near foul : Nat → Int32} {G M A D : Int32} {r1 r2 r3 r4 : Int32} {r5 : Nat → Int32} (hK : K ≤ 60) (hk : k < K) (hv : moves k = nI v) (hd : (v < 11 ∧ d = 0 ∧ e = 1 ∧ p = v) ∨ (100 ≤ v ∧ v < 111 ∧ d = 1 ∧ e = 0 ∧ p = v - 100)) (h : (if nI n ≤ nI p then (some (G, M, A, (D + (1 : Int32)), foul)) else ((f_X10_holds G (nI p)).bind fun v15 => if v15 = d then (if d = 0 then (b3 (f_X1_come G M foul (nI p)) fun o18 o19 o20 => some (o18, o19, A, D, o20)) else (b3 (f_X1_leave G A foul (nI n) near (nI p)) fun o21 o22 o23 => some (o21, M, o22, D, o23))) else (some (G, M, A, (D + (1 : Int32)), foul))) : Option (Int32 × Int32 × Int32 × Int32 × (Nat → Int32))) = some (r1, r2, r3, r4, r5)) : f_X1_run_L37 (nI K) moves (nI n) near (nI k) G M A D foul = some (.inl (nI (k + 1), r1, r2, r3, r4, r5)) := by
  unfold f_X1_run_L37
  rw [if_neg (nI_ge hk (by omega)), gi_n (by omega) (by omega), hv, Option.bind_some]
  rcases hd with ⟨h1, hd0, -, hp0⟩ | ⟨h1, h2, hd0, -, hp0⟩
  · rw [hd0, hp0] at h
    rw [if_pos (show nI v < (100 : Int32) from nI_lt (b := 100) (by omega) (by decide)), Option.bind_some, if_pos (show (0 : Int32) = 0 from rfl), Option.bind_some, Option.bind_some, h, nI_1 k]
    rfl
  · rw [hd0, hp0] at h
    rw [if_neg (show ¬ nI v < (100 : Int32) from nI_nlt (b := 100) (by omega) (by omega)), Option.bind_some, if_neg (show ¬ (1 : Int32) = 0 by decide), Option.bind_some, Option.bind_some, show nI v - (100 : Int32) = nI (v - 100) from pk_sub (b := 100) h1, h, nI_1 k]
    rfl
theorem L53_n {n K k v p : Nat} {d e v10 : Int32} {hunt wide places weights cl : Nat → Int32} {G M A D : Int32} {r1 r2 r3 r4 : Int32} {r5 : Nat → Int32} (hK : K ≤ 60) (hk : k < K) (hv : hunt k = nI v) (hd : (v < 11 ∧ d = 0 ∧ e = 1 ∧ p = v) ∨ (100 ≤ v ∧ v < 111 ∧ d = 1 ∧ e = 0 ∧ p = v - 100)) (hpost : f_X11_isPost (nI n) (nI p) = some v10) (h : (if v10 = 0 then (some (G, M, (D + (1 : Int32)), A, cl)) else ((f_X11_has G (nI p)).bind fun v18 => if v18 = e then (some (G, M, (D + (1 : Int32)), A, cl)) else ((f_X11_sizeOf (G ^^^ ((1 : Int32) <<< (nI p &&& 31)))).bind fun v20 => ((if v20 ≤ M then (some M) else ((f_X11_sizeOf (G ^^^ ((1 : Int32) <<< (nI p &&& 31)))).bind fun v26 => some v26) : Option (Int32))).bind fun t21 => b2 (f_X11_search (nI n) A wide places weights cl (G ^^^ ((1 : Int32) <<< (nI p &&& 31)))) fun o23 o24 => some ((G ^^^ ((1 : Int32) <<< (nI p &&& 31))), t21, D, o23, o24))) : Option (Int32 × Int32 × Int32 × Int32 × (Nat → Int32))) = some (r1, r2, r3, r4, r5)) : f_X11_clean_L53 (nI n) (nI K) wide places weights hunt G M D (nI k) A cl = some (.inl (r1, r2, r3, nI (k + 1), r4, r5)) := by
  unfold f_X11_clean_L53
  have hv11 : v < 111 := by
    rcases hd with ⟨h1, -⟩ | ⟨-, h2, -⟩ <;> omega
  have hvp : v % 100 = p := by
    rcases hd with ⟨h1, -, -, hp0⟩ | ⟨h1, h2, -, -, hp0⟩ <;> omega
  rw [if_neg (nI_ge hk (by omega)), gi_n (by omega) (by omega), hv, Option.bind_some, Option.bind_some, show nI v - nI v / (100 : Int32) * (100 : Int32) = nI (v % 100) from pk_rem (a := v) (d := 100) (by omega) (by decide) (by decide), hvp]
  rcases hd with ⟨h1, -, he0, -⟩ | ⟨h1, h2, -, he0, -⟩
  · rw [he0] at h
    rw [if_neg (show ¬ (100 : Int32) ≤ nI v from nI_ge (b := 100) (by omega) (by decide)), Option.bind_some, hpost, Option.bind_some, h, nI_1 k]
    rfl
  · rw [he0] at h
    rw [if_pos (show (100 : Int32) ≤ nI v from nI_le (a := 100) (by omega) (by omega)), Option.bind_some, hpost, Option.bind_some, h, nI_1 k]
    rfl
theorem isPostB {n p : Nat} (hn : n ≤ 11) (hp : p < 11) : f_X11_isPost (nI n) (nI p) = some (if p < n then 1 else 0) := by
  rcases isPost_n hn (nI p) with ⟨j, hj, e, h1, -⟩ | ⟨h0, h1, -⟩
  · have : p = j := (nI_eq (by omega) (by omega)).mp e
    rw [h1, if_pos (by omega)]
  · have hnp : n ≤ p := by
      rcases h0 with h | h
      · exact absurd h (nI_pos (by omega))
      · exact (nI_leI (by omega) (by omega)).mp h
    rw [h1, if_neg (by omega)]
def MainI (n K : Nat) (Q : Nat → Nat → Bool) (k : Nat) (s1 : Int32 × Int32 × Int32 × Int32 × Int32 × (Nat → Int32)) (s2 : Int32 × Int32 × Int32 × Int32 × Int32 × (Nat → Int32)) : Prop := ∃ g most again idle F f c, s1 = (nI k, nI g, nI most, nI again, nI idle, f) ∧ s2 = (nI g, nI most, nI idle, nI k, nI again, c) ∧ g < 2 ^ 11 ∧ most ≤ 11 ∧ pcN g 11 ≤ most ∧ CF F f ∧ RF Q F c ∧ SubF Q F ∧ SymF F ∧ StabF Q n g F ∧ GrdF g F
theorem main_n {n K : Nat} {moves hunt near foul wide places weights cl : Nat → Int32} (hn : n ≤ 11) (hK : K ≤ 60) (hm : ∀ j, j < K → moves j = hunt j ∧ ∃ v, (v < 11 ∨ (100 ≤ v ∧ v < 111)) ∧ hunt j = nI v) (hnear : ∀ a, a < 11 → near a = nI (mkB (QN n (rdM wide places weights) a) 11)) (hF : CF (QN n (rdM wide places weights)) foul) (hR : RF (QN n (rdM wide places weights)) (QN n (rdM wide places weights)) cl) : ∃ x1 x2, loopS (fun (s : Int32 × Int32 × Int32 × Int32 × Int32 × (Nat → Int32)) => f_X1_run_L37 (nI K) moves (nI n) near s.1 s.2.1 s.2.2.1 s.2.2.2.1 s.2.2.2.2.1 s.2.2.2.2.2) ((0 : Int32), (0 : Int32), (0 : Int32), (0 : Int32), (0 : Int32), foul) = some x1 ∧ loopS (fun (s : Int32 × Int32 × Int32 × Int32 × Int32 × (Nat → Int32)) => f_X11_clean_L53 (nI n) (nI K) wide places weights hunt s.1 s.2.1 s.2.2.1 s.2.2.2.1 s.2.2.2.2.1 s.2.2.2.2.2) ((0 : Int32), (0 : Int32), (0 : Int32), (0 : Int32), (0 : Int32), cl) = some x2 ∧ ∃ g most again idle F f c, x1 = (nI g, nI most, nI again, nI idle, f) ∧ x2 = (nI most, nI idle, nI again, c) ∧ CF F f ∧ RF (QN n (rdM wide places weights)) F c ∧ SubF (QN n (rdM wide places weights)) F ∧ SymF F := by
  have hQ : ∀ a b, QN n (rdM wide places weights) a b = true → a < n ∧ b < n := fun a b h => ⟨(QN_lt h).1, (QN_lt h).2.1⟩
  have hQs : SymF (QN n (rdM wide places weights)) := fun a b => by
    unfold QN rdQ
    rw [rdM_sym wide places weights a b]
    cases decide (a < n) <;> cases decide (b < n) <;> rfl
  have hQd : ∀ a, QN n (rdM wide places weights) a a = false := fun a => by
    unfold QN
    rw [rdQ_f (show rdM wide places weights a a ≤ 0 by rw [rdM_xx]; decide)]
    cases decide (a < n) <;> rfl
  refine loop_two (MainI n K (QN n (rdM wide places weights))) (fun (x1 : Int32 × Int32 × Int32 × Int32 × (Nat → Int32)) (x2 : Int32 × Int32 × Int32 × (Nat → Int32)) => ∃ g most again idle F f c, x1 = (nI g, nI most, nI again, nI idle, f) ∧ x2 = (nI most, nI idle, nI again, c) ∧ CF F f ∧ RF (QN n (rdM wide places weights)) F c ∧ SubF (QN n (rdM wide places weights)) F ∧ SymF F) K ?_ ?_ ⟨0, 0, 0, 0, QN n (rdM wide places weights), foul, cl, rfl, rfl, by decide, by decide, by decide, hF, hR, fun a b h => h, hQs, fun a ha hg hex b hq => hq, fun a b h => by rw [Nat.zero_testBit] at h; cases h⟩
  · rintro k s1 s2 hk ⟨g, most, again, idle, F, f, c, rfl, rfl, hg, hmo, hpc, hC, hR1, hS, hY, hSt, hG⟩
    obtain ⟨hmv, v, hv, hhv⟩ := hm k hk
    have hmv2 : moves k = nI v := hmv.trans hhv
    dsimp only
    obtain ⟨d, e, p, hp11, hd⟩ : ∃ (d e : Int32) (p : Nat), p < 11 ∧ ((v < 11 ∧ d = 0 ∧ e = 1 ∧ p = v) ∨ (100 ≤ v ∧ v < 111 ∧ d = 1 ∧ e = 0 ∧ p = v - 100)) := by
      rcases hv with h | ⟨h1, h2⟩
      · exact ⟨0, 1, v, h, Or.inl ⟨h, rfl, rfl, rfl⟩⟩
      · exact ⟨1, 0, v - 100, by omega, Or.inr ⟨h1, h2, rfl, rfl, rfl⟩⟩
    have hde : (d = 0 ∧ e = 1) ∨ (d = 1 ∧ e = 0) := by
      rcases hd with ⟨-, h1, h2, -⟩ | ⟨-, -, h1, h2, -⟩
      · exact Or.inl ⟨h1, h2⟩
      · exact Or.inr ⟨h1, h2⟩
    have hpost := isPostB (n := n) hn hp11
    by_cases hpn : p < n
    · rw [if_pos hpn] at hpost
      have hhold := holds_n (s := g) (p := p) (by omega) (by omega)
      have hhas := has_n (s := g) (p := p) (by omega) (by omega)
      have hidle : (if g.testBit p = true then (1 : Int32) else 0) = e → (if g.testBit p = true then (1 : Int32) else 0) ≠ d → ∃ t1 t2, f_X1_run_L37 (nI K) moves (nI n) near (nI k) (nI g) (nI most) (nI again) (nI idle) f = some (.inl t1) ∧ f_X11_clean_L53 (nI n) (nI K) wide places weights hunt (nI g) (nI most) (nI idle) (nI k) (nI again) c = some (.inl t2) ∧ MainI n K (QN n (rdM wide places weights)) (k + 1) t1 t2 := fun z1 z2 => by
        refine ⟨_, _, L37_n (G := nI g) (M := nI most) (A := nI again) (D := nI idle) (r1 := nI g) (r2 := nI most) (r3 := nI again) (r4 := nI (idle + 1)) (r5 := f) hK hk hmv2 hd ?_, L53_n (G := nI g) (M := nI most) (A := nI again) (D := nI idle) (r1 := nI g) (r2 := nI most) (r3 := nI (idle + 1)) (r4 := nI again) (r5 := c) hK hk hhv hd hpost ?_, g, most, again, idle + 1, F, f, c, rfl, rfl, hg, hmo, hpc, hC, hR1, hS, hY, hSt, hG⟩
        · rw [if_neg (nI_ge hpn (by omega)), hhold, Option.bind_some, if_neg z2, nI_1 idle]
        · rw [if_neg (show ¬ (1 : Int32) = 0 by decide), hhas, Option.bind_some, if_pos z1, nI_1 idle]
      cases hgp : g.testBit p with
      | false =>
        rw [hgp, if_neg (show ¬ false = true by decide)] at hidle hhold hhas
        rcases hde with ⟨d0, e0⟩ | ⟨d1, e1⟩
        · have hpw : 2 ^ p < 2 ^ 11 := Nat.pow_lt_pow_right (by decide) hp11
          have hor : g ||| 2 ^ p < 2 ^ 11 := Nat.or_lt_two_pow hg hpw
          obtain ⟨f2, y1, y2⟩ := come_n (p := p) (most := most) hg hp11 (by omega) hC
          rw [come_same hG] at y2
          obtain ⟨again2, F2, c2, y3, y4, y5, y6, y7⟩ := search_n (again := again) (g := g ||| 2 ^ p) hn hor hQs hQd hS hY hR1
          have hsame : comeG (g ||| 2 ^ p) F = F2 := WayF_one (Q := QN n (rdM wide places weights)) (n := n) (g := g ||| 2 ^ p) (F0 := comeG (g ||| 2 ^ p) F) ⟨fun a b h => h, fun a b h => hS a b (comeG_sub h), comeG_sym hY, fun P _ _ h3 a b h => h3 a b h⟩ (comeG_stab hSt) y5 y6
          rw [← hsame] at y4 y7
          have hag : again2 = again := by omega
          rw [hag] at y3
          have hpl := pcN_le11 (g ||| 2 ^ p) 11
          refine ⟨_, _, L37_n (G := nI g) (M := nI most) (A := nI again) (D := nI idle) (r1 := nI (g ||| 2 ^ p)) (r2 := nI (max most (pcN (g ||| 2 ^ p) 11))) (r3 := nI again) (r4 := nI idle) (r5 := f2) hK hk hmv2 hd ?_, L53_n (G := nI g) (M := nI most) (A := nI again) (D := nI idle) (r1 := nI (g ||| 2 ^ p)) (r2 := nI (max most (pcN (g ||| 2 ^ p) 11))) (r3 := nI idle) (r4 := nI again) (r5 := c2) hK hk hhv hd hpost ?_, g ||| 2 ^ p, max most (pcN (g ||| 2 ^ p) 11), again, idle, comeG (g ||| 2 ^ p) F, f2, c2, rfl, rfl, hor, by omega, by omega, y2, y4, fun a b h => hS a b (comeG_sub h), comeG_sym hY, comeG_stab hSt, comeG_grd⟩
          · rw [if_neg (nI_ge hpn (by omega)), hhold, Option.bind_some, d0, if_pos (show (0 : Int32) = 0 from rfl), if_pos (show (0 : Int32) = 0 from rfl), y1]
            rfl
          · rw [if_neg (show ¬ (1 : Int32) = 0 by decide), hhas, Option.bind_some, e0, if_neg (show ¬ (0 : Int32) = 1 by decide), one_shl (by omega), xor_n, xor_or hgp, sizeOf_n (by omega), Option.bind_some, y3]
            by_cases hle : pcN (g ||| 2 ^ p) 11 ≤ most
            · rw [if_pos (nI_le hle (by omega)), Option.bind_some, Nat.max_eq_left hle]
              rfl
            · rw [if_neg (nI_ge (show most < pcN (g ||| 2 ^ p) 11 by omega) (by omega)), Option.bind_some, Option.bind_some, Nat.max_eq_right (by omega)]
              rfl
        · exact hidle e1.symm (by rw [d1]; decide)
      | true =>
        rw [hgp, if_pos (show true = true from rfl)] at hidle hhold hhas
        rcases hde with ⟨d0, e0⟩ | ⟨d1, e1⟩
        · exact hidle e0.symm (by rw [d0]; decide)
        · have hx := xor_dif hg hp11 hgp
          have hg2 : dif g (2 ^ p) < 2 ^ 11 := by have := dif_le g (2 ^ p); omega
          have hsub : ∀ a, (dif g (2 ^ p)).testBit a = true → g.testBit a = true := fun a ha => by
            by_cases hi : a < 32
            · rw [dif_tb hi, Bool.and_eq_true] at ha
              exact ha.1
            · rw [Nat.testBit_lt_two_pow (Nat.lt_of_lt_of_le hg2 (Nat.pow_le_pow_right (by decide) (by omega)))] at ha
              cases ha
          have hG2 : GrdF (dif g (2 ^ p)) F := fun a b h1 h2 => hG a b (hsub a h1) (hsub b h2)
          have hpc2 : pcN (dif g (2 ^ p)) 11 ≤ most := Nat.le_trans (pcN_grow (fun y _ h => hsub y h)).1 hpc
          obtain ⟨again2, F2, f2, y1, y2, y3, y4, y5, y6⟩ := leave_n (again := again) hn hQ hQs hQd hnear hg2 hp11 (difI g (2 ^ p)) hS hY hG2 hC
          obtain ⟨again3, F3, c3, w1, w2, w3, w4, w5⟩ := search_n (again := again) (g := dif g (2 ^ p)) hn hg2 hQs hQd hS hY hR1
          rw [comeG_same hG2] at w3 w5
          have hsame := WayF_one w3 w4 y3 y5
          rw [hsame] at w2 w5
          have hag : again3 = again2 := by omega
          rw [hag] at w1
          refine ⟨_, _, L37_n (G := nI g) (M := nI most) (A := nI again) (D := nI idle) (r1 := nI (dif g (2 ^ p))) (r2 := nI most) (r3 := nI again2) (r4 := nI idle) (r5 := f2) hK hk hmv2 hd ?_, L53_n (G := nI g) (M := nI most) (A := nI again) (D := nI idle) (r1 := nI (dif g (2 ^ p))) (r2 := nI most) (r3 := nI idle) (r4 := nI again2) (r5 := c3) hK hk hhv hd hpost ?_, dif g (2 ^ p), most, again2, idle, F2, f2, c3, rfl, rfl, hg2, hmo, hpc2, y2, w2, y3.2.1, y3.2.2.1, y5, y4⟩
          · rw [if_neg (nI_ge hpn (by omega)), hhold, Option.bind_some, d1, if_pos (show (1 : Int32) = 1 from rfl), if_neg (show ¬ (1 : Int32) = 0 by decide), y1]
            rfl
          · rw [if_neg (show ¬ (1 : Int32) = 0 by decide), hhas, Option.bind_some, e1, if_neg (show ¬ (1 : Int32) = 0 by decide), one_shl (by omega), xor_n, hx, sizeOf_n (by omega), Option.bind_some, w1, if_pos (nI_le hpc2 (by omega)), Option.bind_some]
            rfl
    · rw [if_neg hpn] at hpost
      refine ⟨_, _, L37_n (G := nI g) (M := nI most) (A := nI again) (D := nI idle) (r1 := nI g) (r2 := nI most) (r3 := nI again) (r4 := nI (idle + 1)) (r5 := f) hK hk hmv2 hd ?_, L53_n (G := nI g) (M := nI most) (A := nI again) (D := nI idle) (r1 := nI g) (r2 := nI most) (r3 := nI (idle + 1)) (r4 := nI again) (r5 := c) hK hk hhv hd hpost ?_, g, most, again, idle + 1, F, f, c, rfl, rfl, hg, hmo, hpc, hC, hR1, hS, hY, hSt, hG⟩
      · rw [if_pos (nI_le (show n ≤ p by omega) (by omega)), nI_1 idle]
      · rw [if_pos (show (0 : Int32) = 0 from rfl), nI_1 idle]
  · rintro s1 s2 ⟨g, most, again, idle, F, f, c, rfl, rfl, hg, hmo, hpc, hC, hR1, hS, hY, hSt, hG⟩
    dsimp only
    refine ⟨(nI g, nI most, nI again, nI idle, f), (nI most, nI idle, nI again, c), ?_, ?_, g, most, again, idle, F, f, c, rfl, rfl, hC, hR1, hS, hY⟩
    · unfold f_X1_run_L37
      rw [if_pos (nI_le (Nat.le_refl K) (by omega))]
    · unfold f_X11_clean_L53
      rw [if_pos (nI_le (Nat.le_refl K) (by omega))]
theorem zero_n {cl : Nat → Int32} : ∃ c2, loopS (fun (s : Int32 × (Nat → Int32)) => f_X11_clean_L19 s.1 s.2) ((0 : Int32), cl) = some c2 ∧ ∀ j, j < 121 → c2 j = 0 := by
  refine loop_inv (fun k (s : Int32 × (Nat → Int32)) => s.1 = nI k ∧ ∀ j, j < k → s.2 j = 0) (fun (c2 : Nat → Int32) => ∀ j, j < 121 → c2 j = 0) 121 ?_ ?_ ⟨nI_0.symm, fun j hj => absurd hj (by omega)⟩
  · rintro k ⟨i, c⟩ hk ⟨hi, hI⟩
    dsimp only at hi hI ⊢
    subst hi
    unfold f_X11_clean_L19
    rw [if_neg (show ¬ (121 : Int32) ≤ nI k from nI_ge (b := 121) hk (by decide)), sb_n hk (by omega), Option.bind_some, nI_1, vz0]
    refine ⟨_, rfl, rfl, fun j hj => ?_⟩
    show upd c k 0 j = 0
    by_cases e : j = k
    · rw [e, pk_us]
    · rw [pk_un e]
      exact hI j (by omega)
  · rintro ⟨i, c⟩ ⟨hi, hI⟩
    dsimp only at hi hI ⊢
    subst hi
    refine ⟨c, ?_, hI⟩
    unfold f_X11_clean_L19
    rw [if_pos (show (121 : Int32) ≤ nI 121 from nI_le (a := 121) (by omega) (by decide))]
theorem cleanM_n {n : Nat} {F : Nat → Nat → Bool} {wide places weights cl : Nat → Int32} (hn : n ≤ 11) (hS : SubF (QN n (rdM wide places weights)) F) (hR : RF (QN n (rdM wide places weights)) F cl) : loopS (fun (s : Int32 × Int32) => f_X11_clean_L160 (nI n) wide places weights cl s.1 s.2) ((0 : Int32), (0 : Int32)) = some (nI (cntF n F)) := by
  refine loop_go (fun k => (nI (cntF k F), nI k)) n (by rw [nI_0]; show _ = (nI 0, _); rw [nI_0]) (fun k hk => ?_) ?_
  · dsimp only
    have hin : loopS (fun (s : Int32 × Int32) => f_X11_clean_L172 (nI k) wide places weights cl s.1 s.2) (nI (cntF k F), (0 : Int32)) = some (nI (cntF k F + fo (fun x y => x + y) (fun b => bN (F k b)) k)) := by
      refine loop_go (fun j => (nI (cntF k F + fo (fun x y => x + y) (fun b => bN (F k b)) j), nI j)) k (by rw [fo, nI_0]; rfl) (fun j hj => ?_) ?_
      · dsimp only
        unfold f_X11_clean_L172
        rw [if_neg (nI_ge hj (by omega)), roadOf_n (by omega) (by omega), Option.bind_some, nI_1 j, fo]
        by_cases hr : rdM wide places weights k j ≤ 0
        · have hf : F k j = false := by
            cases h : F k j with
            | false => rfl
            | true =>
              have := (QN_lt (hS k j h)).2.2
              rw [rdQ_f hr] at this
              cases this
          rw [if_pos hr, hf, Option.bind_some, show (0 : Int32) = nI 0 from nI_0.symm, nI_add]
          rfl
        · have hq : QN n (rdM wide places weights) k j = true := by
            unfold QN
            rw [decide_eq_true hk, decide_eq_true (show j < n by omega), rdQ_t hr]
            rfl
          have hiff := hR k j hq
          rw [if_neg hr, ix11, gi_n (by omega) (by omega), Option.bind_some]
          cases hf : F k j with
          | true =>
            rw [if_pos (hiff.mpr hf), Option.bind_some, nI_1]
            rfl
          | false =>
            rw [if_neg (fun z => by rw [hiff.mp z] at hf; cases hf), Option.bind_some, show (0 : Int32) = nI 0 from nI_0.symm, nI_add]
            rfl
      · dsimp only
        unfold f_X11_clean_L172
        rw [if_pos (nI_le (Nat.le_refl k) (by omega))]
    unfold f_X11_clean_L160
    rw [if_neg (nI_ge hk (by omega)), hin, Option.bind_some, nI_1]
    rfl
  · dsimp only
    unfold f_X11_clean_L160
    rw [if_pos (nI_le (Nat.le_refl n) (by omega))]
theorem l2_clean (x_x_net_posts : Int32) (x_x_net_pairs : Int32) (x_x_net_widths : Nat → Int32) (x_x_net_lengths : Nat → Int32) (x_x_net_told : Nat → Int32) (x_x_net_behind : Nat → Int32) (x_x_view_posts : Int32) (x_x_view_roads : Int32) (x_x_view_weight : Int32) (x_x_view_weights : Nat → Int32) (x_x_view_near : Nat → Int32) (x_x_view_behind : Nat → Int32) (x_x_view_ahead : Nat → Int32) (x_x_history_oldest : Int32) (x_x_history_size : Int32) (x_x_history_kept_posts : Nat → Int32) (x_x_history_kept_pairs : Nat → Int32) (x_x_history_kept_widths : Nat → Nat → Int32) (x_x_history_kept_lengths : Nat → Nat → Int32) (x_x_history_kept_told : Nat → Nat → Int32) (x_x_history_kept_behind : Nat → Nat → Int32) (x_x_hand_size : Int32) (x_x_hand_posts : Nat → Int32) (x_x_trial_size : Int32) (x_x_trial_posts : Nat → Int32) (x_x_bags_size : Int32) (x_x_bags_sets : Nat → Int32) (x_x_chase_size : Int32) (x_x_chase_guarded : Int32) (x_x_chase_most : Int32) (x_x_chase_again : Int32) (x_x_chase_idle : Int32) (x_x_chase_moves : Nat → Int32) (x_x_chase_foul : Nat → Int32) (x_x_sets_solvedFor : Int32) (x_x_sets_lowest : Int32) (x_x_sets_total : Int32) (x_x_sets_pricedFor : Int32) (x_x_sets_prices : Nat → Int32) (x_x_sets_rests : Nat → Int32) (x_x_sets_ways : Nat → Int32) (x_x_trials_solvedFor : Int32) (x_x_trials_lowest : Int32) (x_x_trials_total : Int32) (x_x_trials_found : Nat → Int32) (x_x_trials_row_size : Int32) (x_x_trials_row_posts : Nat → Int32) (x_m_thrown : Int32) (x_m_posts : Int32) (x_m_pairs : Int32) (x_m_keptEnd : Int32) (x_m_kept : Int32) (x_m_many : Int32) (x_m_bags : Int32) (x_m_moves : Int32) (x_m_pen : Int32) (x_m_savedMany : Int32) (x_m_leastRow : Int32) (x_m_bestRows : Int32) (x_m_askedRow : Int32) (x_m_rankOfSaved : Int32) (x_m_wallSet : Int32) (x_m_fouledAgain : Int32) (x_m_wide : Nat → Int32) (x_m_places : Nat → Int32) (x_m_weights : Nat → Int32) (x_m_pair : Nat → Int32) (x_m_old : Nat → Int32) (x_m_row : Nat → Int32) (x_m_bag : Nat → Int32) (x_m_hunt : Nat → Int32) (x_m_behind : Nat → Int32) (x_m_least : Nat → Int32) (x_m_ways : Nat → Int32) (x_m_saved : Nat → Int32) (x_m_kth : Nat → Int32) (x_m_clean : Nat → Int32) (a1 : Int32) (h : Rel x_x_net_posts x_x_net_pairs x_x_net_widths x_x_net_lengths x_x_net_told x_x_net_behind x_x_view_posts x_x_view_roads x_x_view_weight x_x_view_weights x_x_view_near x_x_view_behind x_x_view_ahead x_x_history_oldest x_x_history_size x_x_history_kept_posts x_x_history_kept_pairs x_x_history_kept_widths x_x_history_kept_lengths x_x_history_kept_told x_x_history_kept_behind x_x_hand_size x_x_hand_posts x_x_trial_size x_x_trial_posts x_x_bags_size x_x_bags_sets x_x_chase_size x_x_chase_guarded x_x_chase_most x_x_chase_again x_x_chase_idle x_x_chase_moves x_x_chase_foul x_x_sets_solvedFor x_x_sets_lowest x_x_sets_total x_x_sets_pricedFor x_x_sets_prices x_x_sets_rests x_x_sets_ways x_x_trials_solvedFor x_x_trials_lowest x_x_trials_total x_x_trials_found x_x_trials_row_size x_x_trials_row_posts x_m_thrown x_m_posts x_m_pairs x_m_keptEnd x_m_kept x_m_many x_m_bags x_m_moves x_m_pen x_m_savedMany x_m_leastRow x_m_bestRows x_m_askedRow x_m_rankOfSaved x_m_wallSet x_m_fouledAgain x_m_wide x_m_places x_m_weights x_m_pair x_m_old x_m_row x_m_bag x_m_hunt x_m_behind x_m_least x_m_ways x_m_saved x_m_kth x_m_clean) : ∃ (r : Int32) (o_x_chase_guarded : Int32) (o_x_chase_most : Int32) (o_x_chase_again : Int32) (o_x_chase_idle : Int32) (o_x_chase_foul : Nat → Int32) (o_m_thrown : Int32) (o_m_fouledAgain : Int32) (o_m_clean : Nat → Int32), f_X10_clean x_x_view_posts x_x_view_near x_x_chase_size x_x_chase_guarded x_x_chase_most x_x_chase_again x_x_chase_idle x_x_chase_moves x_x_chase_foul a1 = some (r, o_x_chase_guarded, o_x_chase_most, o_x_chase_again, o_x_chase_idle, o_x_chase_foul) ∧ f_X11_clean x_m_thrown x_m_posts x_m_moves x_m_fouledAgain x_m_wide x_m_places x_m_weights x_m_hunt x_m_clean a1 = some (r, o_m_thrown, o_m_fouledAgain, o_m_clean) ∧ Rel x_x_net_posts x_x_net_pairs x_x_net_widths x_x_net_lengths x_x_net_told x_x_net_behind x_x_view_posts x_x_view_roads x_x_view_weight x_x_view_weights x_x_view_near x_x_view_behind x_x_view_ahead x_x_history_oldest x_x_history_size x_x_history_kept_posts x_x_history_kept_pairs x_x_history_kept_widths x_x_history_kept_lengths x_x_history_kept_told x_x_history_kept_behind x_x_hand_size x_x_hand_posts x_x_trial_size x_x_trial_posts x_x_bags_size x_x_bags_sets x_x_chase_size o_x_chase_guarded o_x_chase_most o_x_chase_again o_x_chase_idle x_x_chase_moves o_x_chase_foul x_x_sets_solvedFor x_x_sets_lowest x_x_sets_total x_x_sets_pricedFor x_x_sets_prices x_x_sets_rests x_x_sets_ways x_x_trials_solvedFor x_x_trials_lowest x_x_trials_total x_x_trials_found x_x_trials_row_size x_x_trials_row_posts o_m_thrown x_m_posts x_m_pairs x_m_keptEnd x_m_kept x_m_many x_m_bags x_m_moves x_m_pen x_m_savedMany x_m_leastRow x_m_bestRows x_m_askedRow x_m_rankOfSaved x_m_wallSet o_m_fouledAgain x_m_wide x_m_places x_m_weights x_m_pair x_m_old x_m_row x_m_bag x_m_hunt x_m_behind x_m_least x_m_ways x_m_saved x_m_kth o_m_clean := by
  obtain ⟨n, h1, h2, h3, h4, h5, h6, h7, h8⟩ := h
  have hn : n ≤ 11 := h1.1
  have ep := h1.2.1
  have em := h1.2.2.1
  subst ep
  subst em
  have d10 : ¬ (1 : Int32) = 0 := by decide
  have hQd : ∀ a, QN n (rdM x_m_wide x_m_places x_m_weights) a a = false := fun a => by
    unfold QN
    rw [rdQ_f (show rdM x_m_wide x_m_places x_m_weights a a ≤ 0 by rw [rdM_xx]; decide)]
    cases decide (a < n) <;> rfl
  have hin := in_gen (x := a1) (v := 3) (by decide)
  by_cases hbad : a1 < 0 ∨ nI 3 < a1
  · refine ⟨(-3 : Int32), x_x_chase_guarded, x_x_chase_most, x_x_chase_again, x_x_chase_idle, x_x_chase_foul, 0, x_m_fouledAgain, x_m_clean, ?_, ?_, Rel_mk h1 h2 h3 h4 h5 h6 h7 h8⟩
    · unfold f_X10_clean
      rcases hbad with h | h
      · rw [if_pos h]
      · by_cases h0 : a1 < 0
        · rw [if_pos h0]
        · rw [if_neg h0, if_neg (show ¬ a1 ≤ (3 : Int32) from Int32.not_le.mpr h)]
    · unfold f_X11_clean
      rw [show (3 : Int32) = nI 3 from rfl, hin, if_pos hbad]
      rfl
  · rw [if_neg hbad] at hin
    have h0 : ¬ a1 < 0 := fun z => hbad (Or.inl z)
    have h3a : a1 ≤ (3 : Int32) := Int32.not_lt.mp (fun z => hbad (Or.inr z))
    obtain ⟨K, hK, eK1, eK2, hm⟩ := id h6
    have ev := h2.1
    obtain ⟨c0, z1, z2⟩ := zero_n (cl := x_m_clean)
    obtain ⟨x1, x2, m1, m2, g, most, again, idle, F, f, c, e1, e2, hC, hR, hS, hY⟩ := main_n (moves := x_x_chase_moves) (hunt := x_m_hunt) (near := x_x_view_near) (foul := va_cpy x_x_view_near x_x_chase_foul 0 0 11) (wide := x_m_wide) (places := x_m_places) (weights := x_m_weights) (cl := c0) hn hK hm h2.2.2.2.2.1 (fun a ha => by rw [pk_cpy_in (by omega) (by omega)]; show x_x_view_near (0 + (a - 0)) = _; rw [show 0 + (a - 0) = a by omega]; exact h2.2.2.2.2.1 a ha) (fun a b hq => ⟨fun _ => hq, fun _ => z2 _ (by have := QN_lt hq; omega)⟩)
    have hcnt := cleanM_n hn hS hR
    have hfr := foulRoads_n (Q := QN n (rdM x_m_wide x_m_places x_m_weights)) hn (fun a b h => ⟨(QN_lt h).1, (QN_lt h).2.1⟩) hQd hS hY hC
    rw [e1] at m1
    rw [e2] at m2
    have hrun : f_X1_run x_x_chase_size x_x_chase_guarded x_x_chase_most x_x_chase_again x_x_chase_idle x_x_chase_moves x_x_chase_foul x_x_view_posts x_x_view_near = some (nI g, nI most, nI again, nI idle, f) := by
      unfold f_X1_run
      rw [show cp x_x_view_near 11 x_x_chase_foul 11 (0 : Int32) (0 : Int32) (11 : Int32) = some (va_cpy x_x_view_near x_x_chase_foul 0 0 11) from cp_n (a := 0) (b := 0) (k := 11) (by omega) (by omega) (by omega) (by omega), Option.bind_some, eK1, ev, m1]
      rfl
    have hcls : ∀ r, (if a1 = (0 : Int32) then ((f_X1_foulRoads f).bind fun v9 => some ((v9, nI g, nI most, nI again, nI idle, f))) else (if a1 = (1 : Int32) then (some ((nI most, nI g, nI most, nI again, nI idle, f))) else (if a1 = (2 : Int32) then (some ((nI again, nI g, nI most, nI again, nI idle, f))) else (some ((nI idle, nI g, nI most, nI again, nI idle, f))))) : Option (Int32 × Int32 × Int32 × Int32 × Int32 × (Nat → Int32))) = some (r, nI g, nI most, nI again, nI idle, f) → f_X10_clean x_x_view_posts x_x_view_near x_x_chase_size x_x_chase_guarded x_x_chase_most x_x_chase_again x_x_chase_idle x_x_chase_moves x_x_chase_foul a1 = some (r, nI g, nI most, nI again, nI idle, f) := fun r hr => by
      unfold f_X10_clean
      rw [if_neg h0, if_pos h3a, hrun]
      exact hr
    have refer : ∀ r, (if a1 = 0 then (some ((nI (cntF n F), (0 : Int32), nI again, c))) else (if a1 = (1 : Int32) then (some ((nI most, (0 : Int32), nI again, c))) else (if a1 = (2 : Int32) then (some ((nI again, (0 : Int32), nI again, c))) else (some ((nI idle, (0 : Int32), nI again, c))))) : Option (Int32 × Int32 × Int32 × (Nat → Int32))) = some (r, 0, nI again, c) → f_X11_clean x_m_thrown (nI n) x_m_moves x_m_fouledAgain x_m_wide x_m_places x_m_weights x_m_hunt x_m_clean a1 = some (r, 0, nI again, c) := fun r hr => by
      unfold f_X11_clean
      rw [show (3 : Int32) = nI 3 from rfl, hin, Option.bind_some, if_neg (show ¬ (1 : Int32) = 0 by decide), z1, Option.bind_some, eK2, m2]
      show (loopS (fun (s : Int32 × Int32) => f_X11_clean_L160 (nI n) x_m_wide x_m_places x_m_weights c s.1 s.2) ((0 : Int32), (0 : Int32))).bind _ = _
      rw [hcnt, Option.bind_some]
      exact hr
    by_cases q0 : a1 = 0
    · refine ⟨nI (cntF n F), nI g, nI most, nI again, nI idle, f, 0, nI again, c, hcls _ ?_, refer _ ?_, Rel_mk h1 h2 h3 h4 h5 h6 h7 h8⟩
      · rw [if_pos q0, hfr]
        rfl
      · rw [if_pos q0]
    · by_cases q1 : a1 = 1
      · refine ⟨nI most, nI g, nI most, nI again, nI idle, f, 0, nI again, c, hcls _ ?_, refer _ ?_, Rel_mk h1 h2 h3 h4 h5 h6 h7 h8⟩
        · rw [if_neg q0, if_pos q1]
        · rw [if_neg q0, if_pos q1]
      · by_cases q2 : a1 = 2
        · refine ⟨nI again, nI g, nI most, nI again, nI idle, f, 0, nI again, c, hcls _ ?_, refer _ ?_, Rel_mk h1 h2 h3 h4 h5 h6 h7 h8⟩
          · rw [if_neg q0, if_neg q1, if_pos q2]
          · rw [if_neg q0, if_neg q1, if_pos q2]
        · refine ⟨nI idle, nI g, nI most, nI again, nI idle, f, 0, nI again, c, hcls _ ?_, refer _ ?_, Rel_mk h1 h2 h3 h4 h5 h6 h7 h8⟩
          · rw [if_neg q0, if_neg q1, if_neg q2]
          · rw [if_neg q0, if_neg q1, if_neg q2]
