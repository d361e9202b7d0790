/-! LAYER 2: hunts, the reference searches -/
def RF (Q F : Nat → Nat → Bool) (cl : Nat → Int32) : Prop := ∀ a b, Q a b = true → (cl (11 * a + b) = 0 ↔ F a b = true)
theorem setC_n {cl : Nat → Int32} {a b : Nat} {v : Int32} (hv : vp_nar .boolean v = v) (ha : a < 11) (hb : b < 11) : f_X11_set cl (nI a) (nI b) v = some (upd (upd cl (11 * a + b) v) (11 * b + a) v) := by
  unfold f_X11_set
  rw [ix11, sb_n (by omega) (by omega), Option.bind_some, ix11, sb_n (by omega) (by omega), Option.bind_some, hv]
theorem set_at {cl : Nat → Int32} {a b x y : Nat} {v : Int32} (ha : a < 11) (hb : b < 11) (hx : x < 11) (hy : y < 11) : upd (upd cl (11 * a + b) v) (11 * b + a) v (11 * x + y) = if (x = a ∧ y = b) ∨ (x = b ∧ y = a) then v else cl (11 * x + y) := by
  by_cases h1 : x = b ∧ y = a
  · rw [if_pos (Or.inr h1), h1.1, h1.2, pk_us]
  · rw [pk_un (by omega)]
    by_cases h2 : x = a ∧ y = b
    · rw [if_pos (Or.inl h2), h2.1, h2.2, pk_us]
    · rw [pk_un (by omega), if_neg (by omega)]
def exF (A : Nat → Bool) : Nat → Bool
  | 0 => false
  | k + 1 => exF A k || A k
theorem exF_iff {A : Nat → Bool} : ∀ {k : Nat}, exF A k = true ↔ ∃ j, j < k ∧ A j = true
  | 0 => ⟨(fun h => by cases h), (fun ⟨j, hj, _⟩ => absurd hj (by omega))⟩
  | k + 1 => by
    rw [exF, Bool.or_eq_true, exF_iff]
    constructor
    · rintro (⟨j, hj, h⟩ | h)
      · exact ⟨j, by omega, h⟩
      · exact ⟨k, by omega, h⟩
    · rintro ⟨j, hj, h⟩
      by_cases hjk : j = k
      · rw [hjk] at h
        exact Or.inr h
      · exact Or.inl ⟨j, by omega, h⟩
def foulA (g : Nat) (F : Nat → Nat → Bool) (n a : Nat) : Bool := !g.testBit a && exF (F a) n
theorem isFoul_n {n g p : Nat} {F : Nat → Nat → Bool} {wide places weights cl : Nat → Int32} (hn : n ≤ 11) (hp : p < n) (hg : g < 2 ^ 11) (hS : SubF (QN n (rdM wide places weights)) F) (hR : RF (QN n (rdM wide places weights)) F cl) : f_X11_isFoulAt (nI n) wide places weights cl (nI p) (nI g) = some (b2I (foulA g F n p)) := by
  have hloop : loopS (fun (s : Int32 × Int32) => f_X11_isFoulAt_L5 (nI p) (nI g) (nI n) wide places weights cl s.1 s.2) ((0 : Int32), (0 : Int32)) = some (b2I (foulA g F n p)) := by
    unfold foulA
    cases hgp : g.testBit p with
    | true =>
      refine loop_go (fun _ => ((0 : Int32), (0 : Int32))) 0 rfl (fun k hk => absurd hk (by omega)) ?_
      dsimp only
      unfold f_X11_isFoulAt_L5
      rw [if_neg (nI_nle (by omega) (by omega)), has_n (by omega) (by omega), Option.bind_some, hgp, if_pos (show true = true from rfl), if_neg (show ¬ (1 : Int32) = 0 by decide)]
      rfl
    | false =>
      refine loop_go (fun k => (b2I (exF (F p) k), nI k)) n (by rw [exF, nI_0]; rfl) (fun k hk => ?_) ?_
      · dsimp only
        unfold f_X11_isFoulAt_L5
        rw [if_neg (nI_ge hk (by omega)), has_n (by omega) (by omega), Option.bind_some, hgp, if_neg (show ¬ false = true by decide), if_pos (show (0 : Int32) = 0 from rfl), nI_1, exF]
        cases hex : exF (F p) k with
        | true =>
          rw [if_neg (show ¬ b2I true = 0 by decide)]
          rfl
        | false =>
          rw [if_pos (show b2I false = 0 from rfl), roadOf_n (by omega) (by omega), Option.bind_some, Bool.false_or]
          by_cases hr : rdM wide places weights p k ≤ 0
          · have hf : F p k = false := by
              cases h : F p k with
              | false => rfl
              | true =>
                have := (QN_lt (hS p k h)).2.2
                rw [rdQ_f hr] at this
                cases this
            rw [if_pos hr, hf]
            rfl
          · have hq : QN n (rdM wide places weights) p k = true := by
              unfold QN
              rw [decide_eq_true hp, decide_eq_true hk, rdQ_t hr]
              rfl
            rw [if_neg hr, ix11, gi_n (by omega) (by omega), Option.bind_some]
            have hiff := hR p k hq
            cases hf : F p k with
            | true => rw [if_pos (hiff.mpr hf)]; rfl
            | false =>
              rw [if_neg (fun z => by rw [hiff.mp z] at hf; cases hf)]
              rfl
      · dsimp only
        unfold f_X11_isFoulAt_L5
        rw [if_pos (nI_le (Nat.le_refl n) (by omega))]
        rfl
  unfold f_X11_isFoulAt
  rw [hloop, Option.bind_some]
  cases foulA g F n p <;> rfl
def doneP (k j a b : Nat) : Prop := (a < k ∧ b < k) ∨ (a = k ∧ b < j) ∨ (b = k ∧ a < j)
def comeG (g : Nat) (F : Nat → Nat → Bool) (a b : Nat) : Bool := F a b && !(g.testBit a && g.testBit b)
theorem clear_n {n g : Nat} {Q F : Nat → Nat → Bool} {cl : Nat → Int32} (hn : n ≤ 11) (hQ : ∀ a b, Q a b = true → a < n ∧ b < n) (hQd : ∀ a, Q a a = false) (hg : g < 2 ^ 11) (hR : RF Q F cl) : ∃ cl2, loopS (fun (s : Int32 × (Nat → Int32)) => f_X11_search_L2 (nI g) (nI n) s.1 s.2) ((0 : Int32), cl) = some cl2 ∧ RF Q (comeG g F) cl2 := by
  refine loop_inv (fun k (s : Int32 × (Nat → Int32)) => s.1 = nI k ∧ ∀ a b, Q a b = true → (s.2 (11 * a + b) = 0 ↔ F a b = true ∧ ¬ (g.testBit a = true ∧ g.testBit b = true ∧ doneP k 0 a b))) (fun (cl2 : Nat → Int32) => RF Q (comeG g F) cl2) n ?_ ?_ ⟨nI_0.symm, fun a b hq => ?_⟩
  · rintro k ⟨i, c⟩ hk ⟨hi, hI⟩
    dsimp only at hi hI ⊢
    subst hi
    have hin : ∃ c2, loopS (fun (s : Int32 × (Nat → Int32)) => f_X11_search_L12 (nI g) (nI k) s.1 s.2) ((0 : Int32), c) = some c2 ∧ ∀ a b, Q a b = true → (c2 (11 * a + b) = 0 ↔ F a b = true ∧ ¬ (g.testBit a = true ∧ g.testBit b = true ∧ doneP k k a b)) := by
      refine loop_inv (fun j (s : Int32 × (Nat → Int32)) => s.1 = nI j ∧ ∀ a b, Q a b = true → (s.2 (11 * a + b) = 0 ↔ F a b = true ∧ ¬ (g.testBit a = true ∧ g.testBit b = true ∧ doneP k j a b))) (fun (c2 : Nat → Int32) => ∀ a b, Q a b = true → (c2 (11 * a + b) = 0 ↔ F a b = true ∧ ¬ (g.testBit a = true ∧ g.testBit b = true ∧ doneP k k a b))) k ?_ ?_ ⟨nI_0.symm, hI⟩
      · rintro j ⟨i, c⟩ hj ⟨hi, hJ⟩
        dsimp only at hi hJ ⊢
        subst hi
        have same : (g.testBit k = false ∨ g.testBit j = false) → ∀ a b, Q a b = true → (c (11 * a + b) = 0 ↔ F a b = true ∧ ¬ (g.testBit a = true ∧ g.testBit b = true ∧ doneP k (j + 1) a b)) := fun hno a b hq => by
          rw [hJ a b hq]
          constructor
          · rintro ⟨q1, q2⟩
            refine ⟨q1, fun ⟨x, y, z⟩ => q2 ⟨x, y, ?_⟩⟩
            have hne : ¬ ((a = k ∧ b = j) ∨ (a = j ∧ b = k)) := by
              rintro (⟨e1, e2⟩ | ⟨e1, e2⟩)
              · rw [e1] at x
                rw [e2] at y
                rcases hno with h | h
                · rw [h] at x; cases x
                · rw [h] at y; cases y
              · rw [e1] at x
                rw [e2] at y
                rcases hno with h | h
                · rw [h] at y; cases y
                · rw [h] at x; cases x
            unfold doneP at z ⊢
            omega
          · rintro ⟨q1, q2⟩
            refine ⟨q1, fun ⟨x, y, z⟩ => q2 ⟨x, y, ?_⟩⟩
            unfold doneP at z ⊢
            omega
        unfold f_X11_search_L12
        rw [if_neg (nI_ge hj (by omega)), has_n (by omega) (by omega), Option.bind_some, nI_1]
        cases hgk : g.testBit k with
        | false =>
          rw [if_neg (show ¬ false = true by decide), if_pos (show (0 : Int32) = 0 from rfl)]
          exact ⟨_, rfl, rfl, same (Or.inl hgk)⟩
        | true =>
          rw [if_pos (show true = true from rfl), if_neg (show ¬ (1 : Int32) = 0 by decide), has_n (by omega) (by omega), Option.bind_some]
          cases hgj : g.testBit j with
          | false =>
            rw [if_neg (show ¬ false = true by decide), if_pos (show (0 : Int32) = 0 from rfl)]
            exact ⟨_, rfl, rfl, same (Or.inr hgj)⟩
          | true =>
            rw [if_pos (show true = true from rfl), if_neg (show ¬ (1 : Int32) = 0 by decide), setC_n vz1 (by omega) (by omega)]
            refine ⟨_, rfl, rfl, fun a b hq => ?_⟩
            have hlt := hQ a b hq
            show upd (upd c (11 * k + j) 1) (11 * j + k) 1 (11 * a + b) = 0 ↔ _
            rw [set_at (by omega) (by omega) (by omega) (by omega)]
            by_cases hne : (a = k ∧ b = j) ∨ (a = j ∧ b = k)
            · rw [if_pos hne]
              constructor
              · intro z
                exact absurd z (by decide)
              · rintro ⟨-, q2⟩
                exfalso
                apply q2
                rcases hne with ⟨e1, e2⟩ | ⟨e1, e2⟩
                · rw [e1, e2]
                  refine ⟨hgk, hgj, ?_⟩
                  unfold doneP
                  omega
                · rw [e1, e2]
                  refine ⟨hgj, hgk, ?_⟩
                  unfold doneP
                  omega
            · rw [if_neg hne, hJ a b hq]
              constructor
              · rintro ⟨q1, q2⟩
                refine ⟨q1, fun ⟨x, y, z⟩ => q2 ⟨x, y, ?_⟩⟩
                unfold doneP at z ⊢
                omega
              · rintro ⟨q1, q2⟩
                refine ⟨q1, fun ⟨x, y, z⟩ => q2 ⟨x, y, ?_⟩⟩
                unfold doneP at z ⊢
                omega
      · rintro ⟨i, c⟩ ⟨hi, hJ⟩
        dsimp only at hi hJ ⊢
        subst hi
        refine ⟨c, ?_, hJ⟩
        unfold f_X11_search_L12
        rw [if_pos (nI_le (Nat.le_refl k) (by omega))]
    obtain ⟨c2, g1, g2⟩ := hin
    unfold f_X11_search_L2
    rw [if_neg (nI_ge hk (by omega)), g1, Option.bind_some, nI_1]
    refine ⟨_, rfl, rfl, fun a b hq => ?_⟩
    show c2 (11 * a + b) = 0 ↔ _
    have hab : a ≠ b := fun e => by rw [e, hQd] at hq; cases hq
    rw [g2 a b hq]
    constructor
    · rintro ⟨q1, q2⟩
      refine ⟨q1, fun ⟨x, y, z⟩ => q2 ⟨x, y, ?_⟩⟩
      unfold doneP at z ⊢
      omega
    · rintro ⟨q1, q2⟩
      refine ⟨q1, fun ⟨x, y, z⟩ => q2 ⟨x, y, ?_⟩⟩
      unfold doneP at z ⊢
      omega
  · rintro ⟨i, c⟩ ⟨hi, hI⟩
    dsimp only at hi hI ⊢
    subst hi
    refine ⟨c, ?_, fun a b hq => ?_⟩
    · unfold f_X11_search_L2
      rw [if_pos (nI_le (Nat.le_refl n) (by omega))]
    · rw [hI a b hq]
      have hlt := hQ a b hq
      unfold comeG
      rw [Bool.and_eq_true, Bool.not_eq_true', Bool.and_eq_false_iff]
      constructor
      · rintro ⟨q1, q2⟩
        refine ⟨q1, ?_⟩
        cases h1 : g.testBit a with
        | false => exact Or.inl rfl
        | true =>
          cases h2 : g.testBit b with
          | false => exact Or.inr rfl
          | true => exact absurd ⟨h1, h2, Or.inl hlt⟩ q2
      · rintro ⟨q1, q2⟩
        refine ⟨q1, fun ⟨x, y, _⟩ => ?_⟩
        rcases q2 with h | h
        · rw [h] at x; cases x
        · rw [h] at y; cases y
  · show cl (11 * a + b) = 0 ↔ _
    rw [hR a b hq]
    constructor
    · intro q1
      refine ⟨q1, fun ⟨_, _, z⟩ => ?_⟩
      unfold doneP at z
      omega
    · exact fun q => q.1
theorem WayF_soil2 {Q F0 F : Nat → Nat → Bool} {n g p : Nat} {O : Nat → Bool} (hO : ∀ b, O b = true → Q p b = true) (hQs : SymF Q) (h : WayF Q n g F0 F) (hp : p < n) (hg : g.testBit p = false) (hex : ∃ b, F p b = true) : WayF Q n g F0 (soilF p O F) := by
  obtain ⟨h1, h2, h3, h4⟩ := h
  refine ⟨fun a b hab => soilF_sub a b (h1 a b hab), fun a b hab => ?_, fun a b => ?_, fun P hP1 hP2 hP3 a b hab => ?_⟩
  · unfold soilF at hab
    rw [Bool.or_eq_true, Bool.or_eq_true, Bool.and_eq_true, Bool.and_eq_true, decide_eq_true_eq, decide_eq_true_eq] at hab
    rcases hab with (hab | ⟨hab, hq⟩) | ⟨hab, hq⟩
    · exact h2 a b hab
    · rw [hab]; exact hO b hq
    · rw [hab, hQs]; exact hO a hq
  · unfold soilF
    rw [h3 a b]
    generalize (decide (a = p) && O b) = X
    generalize (decide (b = p) && O a) = Y
    cases F b a <;> cases X <;> cases Y <;> rfl
  · unfold soilF at hab
    rw [Bool.or_eq_true, Bool.or_eq_true, Bool.and_eq_true, Bool.and_eq_true, decide_eq_true_eq, decide_eq_true_eq] at hab
    have hpx : ∀ x, Q p x = true → P p x = true := hP2 p hp hg (by
      obtain ⟨b, hb⟩ := hex
      exact ⟨b, h4 P hP1 hP2 hP3 p b hb⟩)
    rcases hab with (hab | ⟨hab, hq⟩) | ⟨hab, hq⟩
    · exact h4 P hP1 hP2 hP3 a b hab
    · rw [hab]; exact hpx b (hO b hq)
    · rw [hab, hP1]; exact hpx a (hO a hq)
theorem add_ok {Q F0 F : Nat → Nat → Bool} {n g p q : Nat} {cl cl2 : Nat → Int32} (hn : n ≤ 11) (hQ : ∀ a b, Q a b = true → a < n ∧ b < n) (hQs : SymF Q) (hQd : ∀ a, Q a a = false) (hW : WayF Q n g F0 F) (hq : Q p q = true) (hf : F p q = false) (hA : foulA g F n p = true) (hR : RF Q F cl) (hcl : ∀ a b, a < 11 → b < 11 → cl2 (11 * a + b) = if (a = p ∧ b = q) ∨ (a = q ∧ b = p) then 0 else cl (11 * a + b)) : WayF Q n g F0 (soilF p (fun y => decide (y = q)) F) ∧ cntF n (soilF p (fun y => decide (y = q)) F) = cntF n F + 1 ∧ RF Q (soilF p (fun y => decide (y = q)) F) cl2 := by
  obtain ⟨hp, hqn⟩ := hQ p q hq
  have hpq : q ≠ p := fun e => by rw [e, hQd] at hq; cases hq
  unfold foulA at hA
  rw [Bool.and_eq_true, Bool.not_eq_true', exF_iff] at hA
  obtain ⟨hgp, b0, -, hb0⟩ := hA
  refine ⟨WayF_soil2 (fun b hb => by rw [of_decide_eq_true hb]; exact hq) hQs hW hp hgp ⟨b0, hb0⟩, ?_, fun a b hab => ?_⟩
  · rw [cnt_soil hp (fun b hb => by
      have e := of_decide_eq_true hb
      subst e
      exact ⟨hqn, hf, by rw [hW.2.2.1 b p]; exact hf, hpq⟩) hn]
    rw [pcN_fo (O := fun y => decide (y = q)) (fun k hk => by rw [mkB_tb, decide_eq_true hk, Bool.true_and]), fo_congr (g := fun k => if k = q then 1 else 0) (fun k hk => by
      by_cases e : k = q
      · rw [if_pos e, decide_eq_true e]; rfl
      · rw [if_neg e, decide_eq_false e]; rfl), fo_point, if_pos (by omega)]
  · have hlt := hQ a b hab
    rw [hcl a b (by omega) (by omega)]
    unfold soilF
    dsimp only
    by_cases hne : (a = p ∧ b = q) ∨ (a = q ∧ b = p)
    · rw [if_pos hne]
      rcases hne with ⟨e1, e2⟩ | ⟨e1, e2⟩
      · rw [e1, e2, decide_eq_true (show p = p from rfl), decide_eq_true (show q = q from rfl)]
        simp
      · rw [e1, e2, decide_eq_true (show p = p from rfl), decide_eq_true (show q = q from rfl)]
        simp
    · rw [if_neg hne, hR a b hab]
      have e1 : (decide (a = p) && decide (b = q)) = false := by
        cases h : (decide (a = p) && decide (b = q)) with
        | false => rfl
        | true =>
          rw [Bool.and_eq_true, decide_eq_true_eq, decide_eq_true_eq] at h
          exact absurd (Or.inl h) hne
      have e2 : (decide (b = p) && decide (a = q)) = false := by
        cases h : (decide (b = p) && decide (a = q)) with
        | false => rfl
        | true =>
          rw [Bool.and_eq_true, decide_eq_true_eq, decide_eq_true_eq] at h
          exact absurd (Or.inr ⟨h.2, h.1⟩) hne
      rw [e1, e2, Bool.or_false, Bool.or_false]
def PassI (Q F0 F : Nat → Nat → Bool) (n g again0 k j : Nat) (more ag : Int32) (cl : Nat → Int32) : Prop := ∃ again2 F2, ag = nI again2 ∧ RF Q F2 cl ∧ WayF Q n g F0 F2 ∧ again2 + cntF n F0 = again0 + cntF n F2 ∧ ((more = 0 ∧ F2 = F ∧ ∀ a b, doneP k j a b → Q a b = true → F a b = false → foulA g F n a = false ∧ foulA g F n b = false) ∨ (more = 1 ∧ cntF n F + 1 ≤ cntF n F2))
theorem row_n {F0 F : Nat → Nat → Bool} {n g k again0 : Nat} {wide places weights cl : Nat → Int32} {more ag : Int32} (hn : n ≤ 11) (hk : k < n) (hg : g < 2 ^ 11) (hFs : SymF F) (h : PassI (QN n (rdM wide places weights)) F0 F n g again0 k 0 more ag cl) (hQs : SymF (QN n (rdM wide places weights))) (hQd : ∀ a, QN n (rdM wide places weights) a a = false) : ∃ x : Int32 × Int32 × (Nat → Int32), loopS (fun (s : Int32 × Int32 × Int32 × (Nat → Int32)) => f_X11_search_L73 (nI g) (nI k) (nI n) wide places weights s.1 s.2.1 s.2.2.1 s.2.2.2) (more, (0 : Int32), ag, cl) = some x ∧ PassI (QN n (rdM wide places weights)) F0 F n g again0 k k x.1 x.2.1 x.2.2 := by
  have hQ : ∀ a b, QN n (rdM wide places weights) a b = true → a < n ∧ b < n := fun a b h => ⟨(QN_lt h).1, (QN_lt h).2.1⟩
  refine loop_inv (fun j (s : Int32 × Int32 × Int32 × (Nat → Int32)) => s.2.1 = nI j ∧ PassI (QN n (rdM wide places weights)) F0 F n g again0 k j s.1 s.2.2.1 s.2.2.2) (fun (x : Int32 × Int32 × (Nat → Int32)) => PassI (QN n (rdM wide places weights)) F0 F n g again0 k k x.1 x.2.1 x.2.2) k ?_ ?_ ⟨nI_0.symm, h⟩
  · rintro j ⟨mo, i, ag, c⟩ hj ⟨hi, again2, F2, e1, hR, hW, hc, hor⟩
    dsimp only at hi e1 hR hor ⊢
    subst hi
    subst e1
    have keep : (F2 = F → QN n (rdM wide places weights) k j = true → F k j = false → foulA g F n k = false ∧ foulA g F n j = false) → PassI (QN n (rdM wide places weights)) F0 F n g again0 k (j + 1) mo (nI again2) c := fun q => by
      refine ⟨again2, F2, rfl, hR, hW, hc, ?_⟩
      rcases hor with ⟨q1, q2, q3⟩ | q1
      · refine Or.inl ⟨q1, q2, fun a b hd hq hf => ?_⟩
        by_cases h1 : a = k ∧ b = j
        · rw [h1.1, h1.2] at hq hf ⊢
          exact q q2 hq hf
        · by_cases h2 : a = j ∧ b = k
          · rw [h2.1, h2.2] at hq hf ⊢
            rw [hQs] at hq
            rw [hFs] at hf
            exact ⟨(q q2 hq hf).2, (q q2 hq hf).1⟩
          · exact q3 a b (by unfold doneP at hd ⊢; omega) hq hf
      · exact Or.inr q1
    have grow : ∀ F3 c3, RF (QN n (rdM wide places weights)) F3 c3 → WayF (QN n (rdM wide places weights)) n g F0 F3 → cntF n F3 = cntF n F2 + 1 → PassI (QN n (rdM wide places weights)) F0 F n g again0 k (j + 1) 1 (nI (again2 + 1)) c3 := fun F3 c3 r1 r2 r3 => by
      refine ⟨again2 + 1, F3, rfl, r1, r2, by omega, Or.inr ⟨rfl, ?_⟩⟩
      rcases hor with ⟨-, q2, -⟩ | ⟨-, q1⟩
      · rw [← q2]; omega
      · omega
    unfold f_X11_search_L73
    rw [if_neg (nI_ge hj (by omega)), roadOf_n (by omega) (by omega), Option.bind_some, nI_1 j]
    by_cases hr : rdM wide places weights k j ≤ 0
    · rw [if_pos hr]
      refine ⟨_, rfl, rfl, keep (fun _ hq _ => ?_)⟩
      have := (QN_lt hq).2.2
      rw [rdQ_f hr] at this
      cases this
    · have hq : QN n (rdM wide places weights) k j = true := by
        unfold QN
        rw [decide_eq_true hk, decide_eq_true (show j < n by omega), rdQ_t hr]
        rfl
      have hiff := hR k j hq
      rw [if_neg hr, ix11, gi_n (by omega) (by omega), Option.bind_some]
      cases hf : F2 k j with
      | true =>
        rw [if_pos (hiff.mpr hf)]
        exact ⟨_, rfl, rfl, keep (fun e _ hff => by rw [e, hff] at hf; cases hf)⟩
      | false =>
        rw [if_neg (fun z => by rw [hiff.mp z] at hf; cases hf), isFoul_n hn hk hg hW.2.1 hR, Option.bind_some]
        cases hA : foulA g F2 n k with
        | true =>
          rw [if_neg (show ¬ b2I true = 0 by decide), setC_n vz0 (by omega) (by omega), Option.bind_some, nI_1 again2]
          obtain ⟨r1, r2, r3⟩ := add_ok (cl2 := upd (upd c (11 * k + j) 0) (11 * j + k) 0) hn hQ hQs hQd hW hq hf hA hR (fun a b ha hb => set_at (by omega) (by omega) ha hb)
          exact ⟨_, rfl, rfl, grow _ _ r3 r1 r2⟩
        | false =>
          rw [if_pos (show b2I false = 0 from rfl), isFoul_n hn (show j < n by omega) hg hW.2.1 hR, Option.bind_some]
          cases hB : foulA g F2 n j with
          | true =>
            rw [if_neg (show ¬ b2I true = 0 by decide), setC_n vz0 (by omega) (by omega), Option.bind_some, nI_1 again2]
            obtain ⟨r1, r2, r3⟩ := add_ok (p := j) (q := k) (cl2 := upd (upd c (11 * k + j) 0) (11 * j + k) 0) hn hQ hQs hQd hW (by rw [hQs]; exact hq) (by rw [hW.2.2.1]; exact hf) hB hR (fun a b ha hb => by
              rw [set_at (by omega) (by omega) ha hb]
              by_cases z : (a = k ∧ b = j) ∨ (a = j ∧ b = k)
              · rw [if_pos z, if_pos (show (a = j ∧ b = k) ∨ (a = k ∧ b = j) from z.symm)]
              · rw [if_neg z, if_neg (show ¬ ((a = j ∧ b = k) ∨ (a = k ∧ b = j)) from fun y => z y.symm)])
            exact ⟨_, rfl, rfl, grow _ _ r3 r1 r2⟩
          | false =>
            rw [if_pos (show b2I false = 0 from rfl)]
            exact ⟨_, rfl, rfl, keep (fun e _ _ => by rw [← e]; exact ⟨hA, hB⟩)⟩
  · rintro ⟨mo, i, ag, c⟩ ⟨hi, hP⟩
    dsimp only at hi hP ⊢
    subst hi
    refine ⟨(mo, ag, c), ?_, hP⟩
    unfold f_X11_search_L73
    rw [if_pos (nI_le (Nat.le_refl k) (by omega))]
theorem pass_n {F0 F : Nat → Nat → Bool} {n g again0 again : Nat} {wide places weights cl : Nat → Int32} (hn : n ≤ 11) (hg : g < 2 ^ 11) (hQs : SymF (QN n (rdM wide places weights))) (hQd : ∀ a, QN n (rdM wide places weights) a a = false) (hR : RF (QN n (rdM wide places weights)) F cl) (hW : WayF (QN n (rdM wide places weights)) n g F0 F) (hc : again + cntF n F0 = again0 + cntF n F) : ∃ x : Int32 × Int32 × (Nat → Int32), loopS (fun (s : Int32 × Int32 × Int32 × (Nat → Int32)) => f_X11_search_L62 (nI g) (nI n) wide places weights s.1 s.2.1 s.2.2.1 s.2.2.2) ((0 : Int32), (0 : Int32), nI again, cl) = some x ∧ PassI (QN n (rdM wide places weights)) F0 F n g again0 n 0 x.1 x.2.1 x.2.2 := by
  refine loop_inv (fun k (s : Int32 × Int32 × Int32 × (Nat → Int32)) => s.2.1 = nI k ∧ PassI (QN n (rdM wide places weights)) F0 F n g again0 k 0 s.1 s.2.2.1 s.2.2.2) (fun (x : Int32 × Int32 × (Nat → Int32)) => PassI (QN n (rdM wide places weights)) F0 F n g again0 n 0 x.1 x.2.1 x.2.2) n ?_ ?_ ⟨nI_0.symm, again, F, rfl, hR, hW, hc, Or.inl ⟨rfl, rfl, fun a b hd => by unfold doneP at hd; omega⟩⟩
  · rintro k ⟨mo, i, ag, c⟩ hk ⟨hi, hP⟩
    dsimp only at hi hP ⊢
    subst hi
    obtain ⟨⟨x1, x2, x3⟩, g1, again2, F2, e1, hR2, hW2, hc2, hor⟩ := row_n hn hk hg hW.2.2.1 hP hQs hQd
    unfold f_X11_search_L62
    rw [if_neg (nI_ge hk (by omega)), g1, nI_1]
    refine ⟨_, rfl, rfl, again2, F2, e1, hR2, hW2, hc2, ?_⟩
    rcases hor with ⟨q1, q2, q3⟩ | q1
    · refine Or.inl ⟨q1, q2, fun a b hd hq hf => q3 a b ?_ hq hf⟩
      have hab : a ≠ b := fun e => by rw [e, hQd] at hq; cases hq
      unfold doneP at hd ⊢
      omega
    · exact Or.inr q1
  · rintro ⟨mo, i, ag, c⟩ ⟨hi, hP⟩
    dsimp only at hi hP ⊢
    subst hi
    refine ⟨(mo, ag, c), ?_, hP⟩
    unfold f_X11_search_L62
    rw [if_pos (nI_le (Nat.le_refl n) (by omega))]
theorem comeG_sub {g : Nat} {F : Nat → Nat → Bool} {a b : Nat} (h : comeG g F a b = true) : F a b = true := by
  unfold comeG at h
  rw [Bool.and_eq_true] at h
  exact h.1
theorem comeG_sym {g : Nat} {F : Nat → Nat → Bool} (h : SymF F) : SymF (comeG g F) := fun a b => by
  unfold comeG
  rw [h a b, Bool.and_comm (g.testBit a) (g.testBit b)]
theorem search_n {F : Nat → Nat → Bool} {n g again : Nat} {wide places weights cl : Nat → Int32} (hn : n ≤ 11) (hg : g < 2 ^ 11) (hQs : SymF (QN n (rdM wide places weights))) (hQd : ∀ a, QN n (rdM wide places weights) a a = false) (hS : SubF (QN n (rdM wide places weights)) F) (hY : SymF F) (hR : RF (QN n (rdM wide places weights)) F cl) : ∃ again2 F2 cl2, f_X11_search (nI n) (nI again) wide places weights cl (nI g) = some (nI again2, cl2) ∧ RF (QN n (rdM wide places weights)) F2 cl2 ∧ WayF (QN n (rdM wide places weights)) n g (comeG g F) F2 ∧ StabF (QN n (rdM wide places weights)) n g F2 ∧ again2 + cntF n (comeG g F) = again + cntF n F2 := by
  have hQ : ∀ a b, QN n (rdM wide places weights) a b = true → a < n ∧ b < n := fun a b h => ⟨(QN_lt h).1, (QN_lt h).2.1⟩
  obtain ⟨c1, k1, k2⟩ := clear_n hn hQ hQd hg hR
  have hloop : ∃ x : Int32 × (Nat → Int32), loopS (fun (s : Int32 × Int32 × (Nat → Int32)) => f_X11_search_L54 (nI g) (nI n) wide places weights s.1 s.2.1 s.2.2) ((1 : Int32), nI again, c1) = some x ∧ ∃ again2 F2, x.1 = nI again2 ∧ RF (QN n (rdM wide places weights)) F2 x.2 ∧ WayF (QN n (rdM wide places weights)) n g (comeG g F) F2 ∧ StabF (QN n (rdM wide places weights)) n g F2 ∧ again2 + cntF n (comeG g F) = again + cntF n F2 := by
    refine loop_or (fun k (s : Int32 × Int32 × (Nat → Int32)) => ∃ again2 F2, s.2.1 = nI again2 ∧ RF (QN n (rdM wide places weights)) F2 s.2.2 ∧ WayF (QN n (rdM wide places weights)) n g (comeG g F) F2 ∧ again2 + cntF n (comeG g F) = again + cntF n F2 ∧ ((s.1 = 1 ∧ k ≤ cntF n F2) ∨ (s.1 = 0 ∧ StabF (QN n (rdM wide places weights)) n g F2))) (fun (x : Int32 × (Nat → Int32)) => ∃ again2 F2, x.1 = nI again2 ∧ RF (QN n (rdM wide places weights)) F2 x.2 ∧ WayF (QN n (rdM wide places weights)) n g (comeG g F) F2 ∧ StabF (QN n (rdM wide places weights)) n g F2 ∧ again2 + cntF n (comeG g F) = again + cntF n F2) 122 ?_ ?_ ⟨again, comeG g F, rfl, k2, ⟨fun a b h => h, fun a b h => hS a b (comeG_sub h), comeG_sym hY, fun P _ _ h3 a b h => h3 a b h⟩, rfl, Or.inl ⟨rfl, Nat.zero_le _⟩⟩
    · rintro k ⟨mo, ag, c⟩ hk ⟨again2, F2, e1, hR2, hW2, hc2, hor⟩
      dsimp only at e1 hR2 hor ⊢
      subst e1
      rcases hor with ⟨q1, q2⟩ | ⟨q1, q2⟩
      · left
        obtain ⟨⟨x1, x2, x3⟩, g1, again3, F3, e3, hR3, hW3, hc3, hor3⟩ := pass_n hn hg hQs hQd hR2 hW2 hc2
        dsimp only at e3 hR3 hor3
        subst q1
        refine ⟨(x1, x2, x3), ?_, again3, F3, e3, hR3, hW3, hc3, ?_⟩
        · unfold f_X11_search_L54
          rw [if_neg (show ¬ (1 : Int32) = 0 by decide), g1]
          rfl
        · rcases hor3 with ⟨z1, z2, z3⟩ | ⟨z1, z2⟩
          · refine Or.inr ⟨z1, fun a ha hga hex b hq => ?_⟩
            rw [z2] at hex ⊢
            cases hf : F2 a b with
            | true => rfl
            | false =>
              have hd : doneP n 0 a b := Or.inl ⟨ha, (hQ a b hq).2⟩
              have hz := (z3 a b hd hq hf).1
              obtain ⟨y, hy⟩ := hex
              have hex2 : exF (F2 a) n = true := exF_iff.mpr ⟨y, (hQ a y (hW2.2.1 a y hy)).2, hy⟩
              unfold foulA at hz
              rw [hga, hex2] at hz
              cases hz
          · exact Or.inl ⟨z1, by omega⟩
      · right
        subst q1
        refine ⟨(nI again2, c), ?_, again2, F2, rfl, hR2, hW2, q2, hc2⟩
        unfold f_X11_search_L54
        rw [if_pos (show (0 : Int32) = 0 from rfl)]
    · rintro ⟨mo, ag, c⟩ ⟨again2, F2, e1, hR2, hW2, hc2, hor⟩
      dsimp only at e1 hR2 hor ⊢
      rcases hor with ⟨q1, q2⟩ | ⟨q1, q2⟩
      · have := cntF_le (F := F2) (n := n) hn
        exact absurd q2 (by omega)
      · subst q1
        refine ⟨(ag, c), ?_, again2, F2, e1, hR2, hW2, q2, hc2⟩
        unfold f_X11_search_L54
        rw [if_pos (show (0 : Int32) = 0 from rfl)]
  obtain ⟨⟨x1, x2⟩, g1, again2, F2, e1, hR2, hW2, hS2, hc2⟩ := hloop
  dsimp only at e1 hR2
  subst e1
  refine ⟨again2, F2, x2, ?_, hR2, hW2, hS2, hc2⟩
  unfold f_X11_search
  rw [k1, Option.bind_some, g1]
  rfl
