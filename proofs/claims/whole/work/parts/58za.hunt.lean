/-! LAYER 2: hunts, the class -/
theorem loop_two {S1 X1 S2 X2 : Type} {f1 : S1 → Option (S1 ⊕ X1)} {f2 : S2 → Option (S2 ⊕ X2)} (I : Nat → S1 → S2 → Prop) (P : X1 → X2 → Prop) (N : Nat) (hs : ∀ k s1 s2, k < N → I k s1 s2 → ∃ t1 t2, f1 s1 = some (.inl t1) ∧ f2 s2 = some (.inl t2) ∧ I (k + 1) t1 t2) (hx : ∀ s1 s2, I N s1 s2 → ∃ x1 x2, f1 s1 = some (.inr x1) ∧ f2 s2 = some (.inr x2) ∧ P x1 x2) {s1 : S1} {s2 : S2} (h0 : I 0 s1 s2) : ∃ x1 x2, loopS f1 s1 = some x1 ∧ loopS f2 s2 = some x2 ∧ P x1 x2 := by
  have key : ∀ j, j ≤ N → ∀ s1 s2, I (N - j) s1 s2 → ∃ x1 x2, loopS f1 s1 = some x1 ∧ loopS f2 s2 = some x2 ∧ P x1 x2 := by
    intro j
    induction j with
    | zero =>
      intro _ s1 s2 hI
      obtain ⟨x1, x2, h1, h2, h3⟩ := hx s1 s2 hI
      exact ⟨x1, x2, by rw [loopS_eq, h1]; rfl, by rw [loopS_eq, h2]; rfl, h3⟩
    | succ j ih =>
      intro hj s1 s2 hI
      obtain ⟨t1, t2, h1, h2, h3⟩ := hs (N - (j + 1)) s1 s2 (by omega) hI
      rw [show N - (j + 1) + 1 = N - j by omega] at h3
      obtain ⟨x1, x2, h4, h5, h6⟩ := ih (by omega) t1 t2 h3
      exact ⟨x1, x2, by rw [loopS_eq, h1]; exact h4, by rw [loopS_eq, h2]; exact h5, h6⟩
  exact key N (Nat.le_refl N) s1 s2 (by rw [Nat.sub_self]; exact h0)
def QN (n : Nat) (rd : Nat → Nat → Int32) (a b : Nat) : Bool := decide (a < n) && (decide (b < n) && rdQ rd a b)
theorem QN_lt {n : Nat} {rd : Nat → Nat → Int32} {a b : Nat} (h : QN n rd a b = true) : a < n ∧ b < n ∧ rdQ rd a b = true := by
  unfold QN at h
  rw [Bool.and_eq_true, Bool.and_eq_true, decide_eq_true_eq, decide_eq_true_eq] at h
  exact h
def SubF (Q F : Nat → Nat → Bool) : Prop := ∀ a b, F a b = true → Q a b = true
def SymF (F : Nat → Nat → Bool) : Prop := ∀ a b, F a b = F b a
def StabF (Q : Nat → Nat → Bool) (n g : Nat) (F : Nat → Nat → Bool) : Prop := ∀ a, a < n → g.testBit a = false → (∃ b, F a b = true) → ∀ b, Q a b = true → F a b = true
def GrdF (g : Nat) (F : Nat → Nat → Bool) : Prop := ∀ a b, g.testBit a = true → g.testBit b = true → F a b = false
def CF (F : Nat → Nat → Bool) (foul : Nat → Int32) : Prop := ∀ a, a < 11 → foul a = nI (mkB (F a) 11)
def comeF (g p : Nat) (F : Nat → Nat → Bool) (a b : Nat) : Bool := F a b && !(decide (a = p) && g.testBit b) && !(g.testBit a && decide (b = p))
theorem and_mk {A B : Nat → Bool} {m : Nat} (h : ∀ y, y < 11 → B y = (A y && !m.testBit y)) : nI (mkB A 11) &&& (nI m ^^^ (-1 : Int32)) = nI (mkB B 11) := by
  rw [difI]
  congr 1
  apply Nat.eq_of_testBit_eq
  intro i
  by_cases hi : i < 11
  · rw [dif_tb (by omega), mkB_tb, mkB_tb, h i hi, decide_eq_true hi, Bool.true_and, Bool.true_and]
  · rw [mkB_tb, decide_eq_false hi, Bool.false_and]
    have hle := dif_le (mkB A 11) m
    have hlt := mkB_lt A 11
    exact Nat.testBit_lt_two_pow (Nat.lt_of_lt_of_le (show dif (mkB A 11) m < 2 ^ 11 by omega) (Nat.pow_le_pow_right (by decide) (by omega)))
theorem come_n {g p most : Nat} {F : Nat → Nat → Bool} {foul : Nat → Int32} (hg : g < 2 ^ 11) (hp : p < 11) (hm : most ≤ 100) (hF : CF F foul) : ∃ fo2, f_X1_come (nI g) (nI most) foul (nI p) = some (nI (g ||| 2 ^ p), nI (max most (pcN (g ||| 2 ^ p) 11)), fo2) ∧ CF (comeF (g ||| 2 ^ p) p F) fo2 := by
  have hpw : 2 ^ p < 2 ^ 11 := Nat.pow_lt_pow_right (by decide) hp
  have hor : g ||| 2 ^ p < 2 ^ 11 := Nat.or_lt_two_pow hg hpw
  have hpc := pcN_le11 (g ||| 2 ^ p) 11
  generalize hG : g ||| 2 ^ p = G at hor hpc
  have hloop : ∃ f2, loopS (fun (s : Int32 × (Nat → Int32)) => f_X1_come_L47 (nI p) (nI G) s.1 s.2) ((0 : Int32), upd foul p (nI (mkB (fun b => F p b && !G.testBit b) 11))) = some f2 ∧ CF (comeF G p F) f2 := by
    refine loop_inv (fun k (s : Int32 × (Nat → Int32)) => s.1 = nI k ∧ ∀ a, a < 11 → s.2 a = nI (mkB (fun b => F a b && !(decide (a = p) && G.testBit b) && !(decide (a < k) && (G.testBit a && decide (b = p)))) 11)) (fun (f2 : Nat → Int32) => CF (comeF G p F) f2) 11 ?_ ?_ ⟨nI_0.symm, fun a ha => ?_⟩
    · rintro k ⟨i, f⟩ hk ⟨hi, hI⟩
      dsimp only at hi hI ⊢
      subst hi
      unfold f_X1_come_L47
      rw [if_neg (show ¬ (11 : Int32) ≤ nI k from nI_ge (b := 11) hk (by decide)), holds_n (by omega) (by omega), nI_1]
      cases hgk : G.testBit k with
      | false =>
        refine ⟨_, rfl, rfl, fun a ha => ?_⟩
        show f a = _
        rw [hI a ha]
        congr 1
        apply mkB_congr
        intro b hb
        by_cases hak : a = k
        · subst hak
          rw [hgk, Bool.false_and, Bool.and_false, Bool.and_false]
        · rw [show decide (a < k + 1) = decide (a < k) from decide_eq_decide.mpr (by omega)]
      | true =>
        simp only [Option.bind_some, if_true]
        rw [if_neg (show ¬ (1 : Int32) = 0 by decide), gi_n (by omega) (by omega), one_shl (by omega), hI k hk]
        simp only [Option.bind_some]
        rw [and_mk (B := fun b => F k b && !(decide (k = p) && G.testBit b) && !(decide (k < k + 1) && (G.testBit k && decide (b = p)))) (fun y hy => by
          rw [decide_eq_false (show ¬ k < k by omega), decide_eq_true (show k < k + 1 by omega), hgk, Nat.testBit_two_pow]
          simp only [Bool.false_and, Bool.not_false, Bool.and_true, Bool.true_and]
          congr 2
          exact decide_eq_decide.mpr ⟨fun q => q.symm, fun q => q.symm⟩), si_n (by omega) (by omega)]
        refine ⟨_, rfl, rfl, fun a ha => ?_⟩
        show upd f k _ a = _
        by_cases hak : a = k
        · subst hak
          rw [pk_us]
        · rw [pk_un hak, hI a ha]
          congr 1
          apply mkB_congr
          intro b hb
          rw [show decide (a < k + 1) = decide (a < k) from decide_eq_decide.mpr (by omega)]
    · rintro ⟨i, f⟩ ⟨hi, hI⟩
      dsimp only at hi hI ⊢
      subst hi
      refine ⟨f, ?_, fun a ha => ?_⟩
      · unfold f_X1_come_L47
        rw [if_pos (show (11 : Int32) ≤ nI 11 from nI_le (a := 11) (by omega) (by decide))]
      · rw [hI a ha]
        congr 1
        apply mkB_congr
        intro b hb
        unfold comeF
        rw [decide_eq_true ha, Bool.true_and]
    · show upd foul p _ a = _
      by_cases hap : a = p
      · subst hap
        rw [pk_us]
        congr 1
        apply mkB_congr
        intro b hb
        rw [decide_eq_true (show a = a from rfl), decide_eq_false (show ¬ a < 0 by omega)]
        simp
      · rw [pk_un hap, hF a ha]
        congr 1
        apply mkB_congr
        intro b hb
        rw [decide_eq_false hap, decide_eq_false (show ¬ a < 0 by omega)]
        simp
  obtain ⟨f2, g1, g2⟩ := hloop
  refine ⟨f2, ?_, g2⟩
  unfold f_X1_come
  rw [one_shl (by omega), or_n, hG, bitCount_n _ hor, Option.bind_some, gi_n hp (by omega), Option.bind_some, hF p hp, and_mk (B := fun b => F p b && !G.testBit b) (fun y _ => rfl), si_n hp (by omega), Option.bind_some, g1, Option.bind_some]
  by_cases hlt : most < pcN G 11
  · rw [if_pos (nI_lt hlt (by omega)), Nat.max_eq_right (by omega)]
  · rw [if_neg (nI_nlt (by omega) (by omega)), Nat.max_eq_left (by omega)]
def soilF (p : Nat) (O : Nat → Bool) (F : Nat → Nat → Bool) (a b : Nat) : Bool := F a b || (decide (a = p) && O b) || (decide (b = p) && O a)
theorem or_mk {A B C : Nat → Bool} (h : ∀ y, y < 11 → C y = (A y || B y)) : nI (mkB A 11) ||| nI (mkB B 11) = nI (mkB C 11) := by
  rw [or_n]
  congr 1
  apply Nat.eq_of_testBit_eq
  intro i
  rw [Nat.testBit_or, mkB_tb, mkB_tb, mkB_tb]
  by_cases hi : i < 11
  · rw [h i hi, decide_eq_true hi, Bool.true_and, Bool.true_and, Bool.true_and]
  · rw [decide_eq_false hi, Bool.false_and, Bool.false_and, Bool.false_and]
    rfl
theorem soil_n {p again : Nat} {O : Nat → Bool} {F : Nat → Nat → Bool} {foul : Nat → Int32} (hp : p < 11) (hO : O p = false) (hF : CF F foul) : ∃ f2, f_X1_soil (nI again) foul (nI p) (nI (mkB O 11)) = some (nI (again + pcN (mkB O 11) 11), f2) ∧ CF (soilF p O F) f2 := by
  have hlt := mkB_lt O 11
  have hloop : ∃ f2, loopS (fun (s : Int32 × (Nat → Int32)) => f_X1_soil_L25 (nI p) (nI (mkB O 11)) s.1 s.2) ((0 : Int32), upd foul p (nI (mkB (fun b => F p b || O b) 11))) = some f2 ∧ CF (soilF p O F) f2 := by
    refine loop_inv (fun k (s : Int32 × (Nat → Int32)) => s.1 = nI k ∧ ∀ a, a < 11 → s.2 a = nI (mkB (fun b => F a b || (decide (a = p) && O b) || (decide (b = p) && (decide (a < k) && O a))) 11)) (fun (f2 : Nat → Int32) => CF (soilF p O F) f2) 11 ?_ ?_ ⟨nI_0.symm, fun a ha => ?_⟩
    · rintro k ⟨i, f⟩ hk ⟨hi, hI⟩
      dsimp only at hi hI ⊢
      subst hi
      unfold f_X1_soil_L25
      rw [if_neg (show ¬ (11 : Int32) ≤ nI k from nI_ge (b := 11) hk (by decide)), holds_n (by omega) (by omega), nI_1, mkB_tb, decide_eq_true hk, Bool.true_and]
      cases hok : O k with
      | false =>
        refine ⟨_, rfl, rfl, fun a ha => ?_⟩
        show f a = _
        rw [hI a ha]
        congr 1
        apply mkB_congr
        intro b hb
        by_cases hak : a = k
        · subst hak
          simp only [hok, Bool.and_false]
        · rw [show decide (a < k + 1) = decide (a < k) from decide_eq_decide.mpr (by omega)]
      | true =>
        simp only [Option.bind_some, if_true]
        rw [if_neg (show ¬ (1 : Int32) = 0 by decide), gi_n (by omega) (by omega), one_shl (by omega), hI k hk]
        simp only [Option.bind_some]
        rw [or_n, mkB_or (R := fun b => F k b || (decide (k = p) && O b) || (decide (b = p) && (decide (k < k + 1) && O k))) hp (fun y hy => by
          rw [decide_eq_false (show ¬ k < k by omega), decide_eq_true (show k < k + 1 by omega), hok]
          simp only [Bool.false_and, Bool.and_false, Bool.or_false, Bool.true_and, Bool.and_true]
          congr 1
          exact decide_eq_decide.mpr ⟨fun q => q.symm, fun q => q.symm⟩), si_n (by omega) (by omega)]
        refine ⟨_, rfl, rfl, fun a ha => ?_⟩
        show upd f k _ a = _
        by_cases hak : a = k
        · subst hak
          rw [pk_us]
        · rw [pk_un hak, hI a ha]
          congr 1
          apply mkB_congr
          intro b hb
          rw [show decide (a < k + 1) = decide (a < k) from decide_eq_decide.mpr (by omega)]
    · rintro ⟨i, f⟩ ⟨hi, hI⟩
      dsimp only at hi hI ⊢
      subst hi
      refine ⟨f, ?_, fun a ha => ?_⟩
      · unfold f_X1_soil_L25
        rw [if_pos (show (11 : Int32) ≤ nI 11 from nI_le (a := 11) (by omega) (by decide))]
      · rw [hI a ha]
        congr 1
        apply mkB_congr
        intro b hb
        unfold soilF
        rw [decide_eq_true ha, Bool.true_and]
    · show upd foul p _ a = _
      by_cases hap : a = p
      · subst hap
        rw [pk_us]
        congr 1
        apply mkB_congr
        intro b hb
        rw [decide_eq_true (show a = a from rfl), decide_eq_false (show ¬ a < 0 by omega)]
        simp
      · rw [pk_un hap, hF a ha]
        congr 1
        apply mkB_congr
        intro b hb
        rw [decide_eq_false hap, decide_eq_false (show ¬ a < 0 by omega)]
        simp
  obtain ⟨f2, g1, g2⟩ := hloop
  refine ⟨f2, ?_, g2⟩
  unfold f_X1_soil
  rw [gi_n hp (by omega), Option.bind_some, hF p hp, or_mk (C := fun b => F p b || O b) (fun y _ => rfl), si_n hp (by omega), Option.bind_some, bitCount_n _ hlt, Option.bind_some, g1, Option.bind_some, nI_add]
/-! how many pairs are foul -/
def cntF (n : Nat) (F : Nat → Nat → Bool) : Nat := fo (fun x y => x + y) (fun a => fo (fun x y => x + y) (fun b => bN (F a b)) a) n
theorem fo_point {p v : Nat} : ∀ {n : Nat}, fo (fun x y => x + y) (fun k => if k = p then v else 0) n = if p < n then v else 0
  | 0 => rfl
  | n + 1 => by
    rw [fo, fo_point (n := n)]
    by_cases h1 : p < n
    · rw [if_pos h1, if_neg (show ¬ n = p by omega), if_pos (show p < n + 1 by omega)]
      rfl
    · rw [if_neg h1]
      by_cases h2 : n = p
      · rw [if_pos h2, if_pos (show p < n + 1 by omega)]
        omega
      · rw [if_neg h2, if_neg (show ¬ p < n + 1 by omega)]
theorem pcN_fo {s : Nat} {O : Nat → Bool} : ∀ {n : Nat}, (∀ k, k < n → s.testBit k = O k) → pcN s n = fo (fun x y => x + y) (fun k => bN (O k)) n
  | 0, _ => rfl
  | n + 1, h => by
    rw [pcN, fo, pcN_fo (fun k hk => h k (by omega)), h n (by omega)]
    rfl
theorem cnt_soil {n p : Nat} {O : Nat → Bool} {F : Nat → Nat → Bool} (hp : p < n) (hO : ∀ b, O b = true → b < n ∧ F p b = false ∧ F b p = false ∧ b ≠ p) (hn : n ≤ 11) : cntF n (soilF p O F) = cntF n F + pcN (mkB O 11) 11 := by
  have hOp : O p = false := by
    cases h : O p with
    | false => rfl
    | true => exact absurd rfl (hO p h).2.2.2
  have e0 : pcN (mkB O 11) 11 = fo (fun x y => x + y) (fun k => bN (O k)) n := by
    rw [pcN_stop (s := mkB O 11) (n := n) (fun y hy => by
      rw [mkB_tb]
      cases h : O y with
      | false => rw [Bool.and_false]
      | true => exact absurd (hO y h).1 (by omega)) hn]
    exact pcN_fo (fun k hk => by rw [mkB_tb, decide_eq_true (show k < 11 by omega), Bool.true_and])
  have e1 : ∀ a b, b < a → bN (soilF p O F a b) = (bN (F a b) + (if a = p then bN (O b) else 0)) + (if b = p then bN (O a) else 0) := fun a b hba => by
    unfold soilF
    by_cases h1 : a = p
    · subst h1
      rw [if_pos rfl, if_neg (by omega), decide_eq_true (show a = a from rfl), decide_eq_false (show ¬ b = a by omega)]
      cases hob : O b with
      | false => simp [bN]
      | true => rw [(hO b hob).2.1]; rfl
    · rw [if_neg h1, decide_eq_false h1]
      by_cases h2 : b = p
      · subst h2
        rw [if_pos rfl, decide_eq_true (show b = b from rfl)]
        cases hoa : O a with
        | false => simp [bN]
        | true => rw [(hO a hoa).2.2.1]; rfl
      · rw [if_neg h2, decide_eq_false h2]
        simp [bN]
  unfold cntF
  rw [fo_congr (g := fun a => (fo (fun x y => x + y) (fun b => bN (F a b)) a + (if a = p then fo (fun x y => x + y) (fun b => bN (O b)) p else 0)) + (if p < a then bN (O a) else 0)) (fun a ha => ?_)]
  · rw [fo_op (op := fun x y => x + y) OpOk_add (fun a => fo (fun x y => x + y) (fun b => bN (F a b)) a + (if a = p then fo (fun x y => x + y) (fun b => bN (O b)) p else 0)) (fun a => if p < a then bN (O a) else 0), fo_op (op := fun x y => x + y) OpOk_add (fun a => fo (fun x y => x + y) (fun b => bN (F a b)) a) (fun a => if a = p then fo (fun x y => x + y) (fun b => bN (O b)) p else 0), fo_point, if_pos hp, e0]
    have e2 : fo (fun x y => x + y) (fun k => bN (O k)) n = fo (fun x y => x + y) (fun b => bN (O b)) p + fo (fun x y => x + y) (fun a => if p < a then bN (O a) else 0) n := by
      rw [← fo_stop OpOk_add (fun b => bN (O b)) p n (by omega), ← fo_op (op := fun x y => x + y) OpOk_add]
      apply fo_congr
      intro k hk
      show bN (O k) = (if k < p then bN (O k) else 0) + (if p < k then bN (O k) else 0)
      rcases Nat.lt_trichotomy k p with h | h | h
      · rw [if_pos h, if_neg (by omega)]
        rfl
      · subst h
        rw [if_neg (by omega), hOp]
        rfl
      · rw [if_neg (by omega), if_pos h]
        omega
    rw [e2]
    show fo _ _ n + _ + _ = fo _ _ n + (_ + _)
    omega
  · rw [fo_congr (fun b hb => e1 a b hb), fo_op (op := fun x y => x + y) OpOk_add (fun b => bN (F a b) + (if a = p then bN (O b) else 0)) (fun b => if b = p then bN (O a) else 0), fo_op (op := fun x y => x + y) OpOk_add (fun b => bN (F a b)) (fun b => if a = p then bN (O b) else 0), fo_point]
    by_cases h1 : a = p
    · subst h1
      rw [if_pos rfl, fo_congr (g := fun b => bN (O b)) (fun b hb => if_pos rfl)]
    · rw [if_neg h1, fo_congr (g := fun _ => 0) (fun b hb => if_neg h1), fo_zero OpOk_add]
def fullB (Q F : Nat → Nat → Bool) (a : Nat) : Bool := decide (mkB (fun b => Q a b && !F a b) 11 = 0)
theorem fullB_iff {Q F : Nat → Nat → Bool} {a : Nat} (hQ : ∀ b, Q a b = true → b < 11) : fullB Q F a = true ↔ ∀ b, Q a b = true → F a b = true := by
  unfold fullB
  rw [decide_eq_true_eq]
  constructor
  · intro h b hb
    have h1 : (mkB (fun b => Q a b && !F a b) 11).testBit b = false := by rw [h]; exact Nat.zero_testBit b
    rw [mkB_tb, decide_eq_true (hQ b hb), Bool.true_and, hb, Bool.true_and] at h1
    cases hf : F a b with
    | true => rfl
    | false => rw [hf] at h1; cases h1
  · intro h
    apply Nat.eq_of_testBit_eq
    intro b
    rw [mkB_tb, Nat.zero_testBit]
    cases hq : Q a b with
    | false => simp
    | true => rw [h b hq]; simp
def fullC (Q F : Nat → Nat → Bool) (n : Nat) : Nat := fo (fun x y => x + y) (fun a => bN (fullB Q F a)) n
theorem fullC_le {Q F : Nat → Nat → Bool} {n : Nat} : fullC Q F n ≤ n := by
  have := fo_sum_le (f := fun a => bN (fullB Q F a)) (M := 1) (n := n) (fun k _ => by
    show bN (fullB Q F k) ≤ 1
    unfold bN
    split <;> omega)
  unfold fullC
  omega
theorem fullC_grow {Q F G : Nat → Nat → Bool} {n p : Nat} (hp : p < n) (h1 : ∀ a, a < n → fullB Q F a = true → fullB Q G a = true) (h2 : fullB Q F p = false) (h3 : fullB Q G p = true) : fullC Q F n + 1 ≤ fullC Q G n := by
  unfold fullC
  have key : ∀ k, k ≤ n → fo (fun x y => x + y) (fun a => bN (fullB Q F a)) k + (if p < k then 1 else 0) ≤ fo (fun x y => x + y) (fun a => bN (fullB Q G a)) k := fun k => by
    induction k with
    | zero => intro _; exact Nat.le_refl 0
    | succ k ih =>
      intro hk
      have h4 := ih (by omega)
      rw [fo, fo]
      by_cases hpk : p = k
      · subst hpk
        rw [if_neg (by omega)] at h4
        rw [if_pos (by omega), h2, h3]
        show _ + 0 + 1 ≤ _ + 1
        omega
      · have h5 : bN (fullB Q F k) ≤ bN (fullB Q G k) := by
          cases hf : fullB Q F k with
          | false => exact Nat.zero_le _
          | true => rw [h1 k (by omega) hf]; exact Nat.le_refl _
        by_cases h6 : p < k
        · rw [if_pos h6] at h4
          rw [if_pos (by omega)]
          omega
        · rw [if_neg h6] at h4
          rw [if_neg (by omega)]
          omega
  have := key n (Nat.le_refl n)
  rw [if_pos hp] at this
  exact this
/-- on the way to the least stable set above F0 -/
def WayF (Q : Nat → Nat → Bool) (n g : Nat) (F0 F : Nat → Nat → Bool) : Prop := (∀ a b, F0 a b = true → F a b = true) ∧ SubF Q F ∧ SymF F ∧ ∀ P, SymF P → StabF Q n g P → (∀ a b, F0 a b = true → P a b = true) → ∀ a b, F a b = true → P a b = true
theorem WayF_soil {Q F0 F : Nat → Nat → Bool} {n g p : Nat} (hQs : SymF Q) (h : WayF Q n g F0 F) (hp : p < n) (hg : g.testBit p = false) (hex : ∃ b, F p b = true) : WayF Q n g F0 (soilF p (fun b => Q p b && !F p b) F) := by
  obtain ⟨h1, h2, h3, h4⟩ := h
  refine ⟨fun a b hab => ?_, fun a b hab => ?_, fun a b => ?_, fun P hP1 hP2 hP3 a b hab => ?_⟩
  · unfold soilF
    rw [h1 a b hab]
    rfl
  · unfold soilF at hab
    rw [Bool.or_eq_true, Bool.or_eq_true, Bool.and_eq_true, Bool.and_eq_true, Bool.and_eq_true, Bool.and_eq_true, decide_eq_true_eq, decide_eq_true_eq] at hab
    rcases hab with (hab | ⟨hab, hq, -⟩) | ⟨hab, hq, -⟩
    · exact h2 a b hab
    · rw [hab]; exact hq
    · rw [hab, hQs]; exact hq
  · unfold soilF
    rw [h3 a b]
    generalize (decide (a = p) && (Q p b && !F p b)) = X
    generalize (decide (b = p) && (Q p a && !F p a)) = Y
    cases F b a <;> cases X <;> cases Y <;> rfl
  · unfold soilF at hab
    rw [Bool.or_eq_true, Bool.or_eq_true, Bool.and_eq_true, Bool.and_eq_true, Bool.and_eq_true, Bool.and_eq_true, decide_eq_true_eq, decide_eq_true_eq] at hab
    have hpx : ∀ x, Q p x = true → P p x = true := hP2 p hp hg (by
      obtain ⟨b, hb⟩ := hex
      exact ⟨b, h4 P hP1 hP2 hP3 p b hb⟩)
    rcases hab with (hab | ⟨hab, hq, -⟩) | ⟨hab, hq, -⟩
    · exact h4 P hP1 hP2 hP3 a b hab
    · rw [hab]; exact hpx b hq
    · rw [hab, hP1]; exact hpx a hq
theorem WayF_one {Q F0 F G : Nat → Nat → Bool} {n g : Nat} (h1 : WayF Q n g F0 F) (s1 : StabF Q n g F) (h2 : WayF Q n g F0 G) (s2 : StabF Q n g G) : F = G := by
  funext a b
  have q1 := h1.2.2.2 G h2.2.2.1 s2 h2.1 a b
  have q2 := h2.2.2.2 F h1.2.2.1 s1 h1.1 a b
  cases hf : F a b with
  | true => exact (q1 hf).symm
  | false =>
    cases hg : G a b with
    | false => rfl
    | true => rw [q2 hg] at hf; cases hf
