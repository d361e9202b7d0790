/-! LAYER 2: what a row costs -/
def OpOk (op : Nat → Nat → Nat) : Prop := (∀ x y, op x y = op y x) ∧ (∀ x y z, op (op x y) z = op x (op y z)) ∧ ∀ x, op x 0 = x
theorem OpOk_add : OpOk (fun x y => x + y) := ⟨fun x y => Nat.add_comm x y, fun x y z => Nat.add_assoc x y z, fun x => Nat.add_zero x⟩
theorem OpOk_max : OpOk (fun x y => max x y) := ⟨fun x y => by show max x y = max y x; omega, fun x y z => by show max (max x y) z = max x (max y z); omega, fun x => by show max x 0 = x; omega⟩
theorem fo_congr {op : Nat → Nat → Nat} {f g : Nat → Nat} : ∀ {n : Nat}, (∀ k, k < n → f k = g k) → fo op f n = fo op g n
  | 0, _ => rfl
  | n + 1, h => by rw [fo, fo, fo_congr (fun k hk => h k (by omega)), h n (by omega)]
theorem fo_op {op : Nat → Nat → Nat} (ho : OpOk op) (f g : Nat → Nat) : ∀ n, fo op (fun k => op (f k) (g k)) n = op (fo op f n) (fo op g n)
  | 0 => (ho.2.2 0).symm
  | n + 1 => by
    have h1 := ho.1
    have h2 := ho.2.1
    rw [fo, fo, fo, fo_op ho f g n, h2, h2, ← h2 (fo op g n) (f n) (g n), h1 (fo op g n) (f n), h2]
theorem fo_zero {op : Nat → Nat → Nat} (ho : OpOk op) : ∀ n, fo op (fun _ => 0) n = 0
  | 0 => rfl
  | n + 1 => by rw [fo, fo_zero ho n, ho.2.2]
theorem fo_swap {op : Nat → Nat → Nat} (ho : OpOk op) (f : Nat → Nat → Nat) : ∀ (n m : Nat), fo op (fun a => fo op (fun b => f a b) m) n = fo op (fun b => fo op (fun a => f a b) n) m
  | 0, m => by
    show 0 = fo op (fun _ => 0) m
    rw [fo_zero ho]
  | n + 1, m => by
    rw [fo, fo_swap ho f n m, ← fo_op ho]
    rfl
theorem fo_stop {op : Nat → Nat → Nat} (ho : OpOk op) (f : Nat → Nat) (k : Nat) : ∀ n, k ≤ n → fo op (fun b => if b < k then f b else 0) n = fo op f k
  | 0, h => by
    have : k = 0 := by omega
    subst this
    rfl
  | n + 1, h => by
    rcases Nat.lt_or_ge k (n + 1) with h1 | h1
    · rw [fo, fo_stop ho f k n (by omega), if_neg (by omega), ho.2.2]
    · have : k = n + 1 := by omega
      subst this
      apply fo_congr
      intro b hb
      rw [if_pos hb]
theorem fo_tri {op : Nat → Nat → Nat} (ho : OpOk op) (h : Nat → Nat → Nat) (n : Nat) : fo op (fun b => fo op (fun a => h a b) b) n = fo op (fun a => fo op (fun b => if a < b then h a b else 0) n) n := by
  rw [← fo_swap ho (fun b a => if a < b then h a b else 0)]
  apply fo_congr
  intro b hb
  rw [fo_stop ho (fun a => h a b) b n (by omega)]
theorem fo_sum_le {f : Nat → Nat} {M : Nat} : ∀ {n : Nat}, (∀ k, k < n → f k ≤ M) → fo (fun x y => x + y) f n ≤ n * M
  | 0, _ => by simp [fo]
  | n + 1, h => by
    rw [fo, Nat.add_mul, Nat.one_mul]
    exact Nat.add_le_add (fo_sum_le (fun k hk => h k (by omega))) (h n (by omega))
theorem fo_max_le {f : Nat → Nat} {M : Nat} : ∀ {n : Nat}, (∀ k, k < n → f k ≤ M) → fo (fun x y => max x y) f n ≤ M
  | 0, _ => Nat.zero_le M
  | n + 1, h => by
    rw [fo]
    have h1 := fo_max_le (M := M) (fun k hk => h k (show k < n + 1 by omega)) (n := n)
    have h2 := h n (by omega)
    omega
theorem sumI_fo {f : Nat → Int32} {g : Nat → Nat} : ∀ {n : Nat}, (∀ k, k < n → f k = nI (g k)) → sumI f n = nI (fo (fun x y => x + y) g n)
  | 0, _ => nI_0.symm
  | n + 1, h => by rw [sumI, fo, sumI_fo (fun k hk => h k (by omega)), h n (by omega), nI_add]
/-! the net by numbers -/
def Cx (n : Nat) (rd : Nat → Nat → Int32) (rN : Nat → Nat → Nat) : Prop := n ≤ 11 ∧ (∀ a b, a < n → b < n → rd a b = nI (rN a b) ∧ rN a b ≤ 2000) ∧ (∀ a b, rd a b = rd b a) ∧ ∀ a, rd a a = 0
def VC (n : Nat) (rd : Nat → Nat → Int32) (pr : Nat → Nat → Bool) (weights near behind : Nat → Int32) : Prop := (∀ a b, a < n → b < n → weights (11 * a + b) = rd a b) ∧ (∃ mk : Nat → Nat, (∀ a, a < n → near a = nI (mk a) ∧ mk a < 2 ^ n) ∧ ∀ a b, a < n → b < n → (mk a).testBit b = rdQ rd a b) ∧ ∃ mk : Nat → Nat, (∀ a, a < n → behind a = nI (mk a) ∧ mk a < 2 ^ n) ∧ ∀ a b, a < n → b < n → (mk a).testBit b = pr a b
theorem Cx_of {n : Nat} {posts pairs mposts mpairs : Int32} {w l t b wd pl wt pr : Nat → Int32} (h : NetR n posts pairs w l t b mposts mpairs wd pl wt pr) : Cx n (rdM wd pl wt) (fun x y => (rdM wd pl wt x y).toNatClampNeg) := by
  refine ⟨h.1, fun x y hx hy => ?_, rdM_sym wd pl wt, rdM_xx wd pl wt⟩
  obtain ⟨v, hv, ev⟩ := NetR_rd h x y hx hy
  show _ = nI (Int32.toNatClampNeg _) ∧ Int32.toNatClampNeg _ ≤ 2000
  rw [ev, nI_clamp (by omega)]
  exact ⟨rfl, hv⟩
theorem VC_of {n : Nat} {rd : Nat → Nat → Int32} {pr : Nat → Nat → Bool} {posts roads weight : Int32} {weights near behind ahead : Nat → Int32} (hn : n ≤ 11) (h : ViewR n rd pr posts roads weight weights near behind ahead) (hpr : ∀ x y, x < 11 → y < 11 → pr x y = true → x < n ∧ y < n) : VC n rd pr weights near behind := by
  obtain ⟨-, -, -, h4, h5, h6, -⟩ := h
  refine ⟨fun a b ha hb => by rw [h4 a b (by omega) (by omega), if_pos ⟨ha, hb⟩], ⟨_, near_mk hn h5⟩, fun a => mkB (fun b => pr a b) 11, fun a ha => ⟨h6 a (by omega), ?_⟩, fun a b ha hb => ?_⟩
  · apply Nat.lt_pow_two_of_testBit
    intro b hb
    rw [mkB_tb]
    by_cases h11 : b < 11
    · cases hc : pr a b with
      | false => rw [Bool.and_false]
      | true => exact absurd (hpr a b (by omega) h11 hc).2 (by omega)
    · rw [decide_eq_false h11, Bool.false_and]
  · rw [mkB_tb, decide_eq_true (show b < 11 by omega), Bool.true_and]
def cutN (rN : Nat → Nat → Nat) (n s : Nat) : Nat := fo (fun x y => x + y) (fun a => if s.testBit a then fo (fun x y => x + y) (fun b => if s.testBit b then 0 else rN a b) n else 0) n
theorem cutN_eq {n s : Nat} {rd : Nat → Nat → Int32} {rN : Nat → Nat → Nat} (h : Cx n rd rN) : cutM rd n s n = nI (cutN rN n s) := by
  rw [cutM_sum]
  apply sumI_fo
  intro a ha
  cases s.testBit a with
  | false => exact nI_0.symm
  | true =>
    show cutRow rd s a n = _
    rw [cutRow_sum]
    apply sumI_fo
    intro b hb
    cases s.testBit b with
    | true => exact nI_0.symm
    | false => exact (h.2.1 a b ha hb).1
theorem cutN_le {n s : Nat} {rd : Nat → Nat → Int32} {rN : Nat → Nat → Nat} (h : Cx n rd rN) : cutN rN n s ≤ 242000 := by
  have hn := h.1
  have h1 : cutN rN n s ≤ n * (n * 2000) := by
    apply fo_sum_le
    intro a ha
    cases s.testBit a with
    | false => exact Nat.zero_le _
    | true =>
      apply fo_sum_le
      intro b hb
      cases s.testBit b with
      | true => exact Nat.zero_le _
      | false => exact (h.2.1 a b ha hb).2
  have h2 : n * (n * 2000) ≤ 11 * (11 * 2000) := Nat.mul_le_mul hn (Nat.mul_le_mul hn (Nat.le_refl _))
  omega
def priceN (n : Nat) (rN : Nat → Nat → Nat) (qr pr : Nat → Nat → Bool) (c s : Nat) : Nat := if c = 2 then pcN (outM qr n s n) 11 else if c = 5 then pcN (outM pr n s n) 11 else cutN rN n s
theorem priceN_eq {n c s : Nat} {rd : Nat → Nat → Int32} {rN : Nat → Nat → Nat} {pr : Nat → Nat → Bool} (h : Cx n rd rN) : priceM n rd pr c s = nI (priceN n rN (rdQ rd) pr c s) := by
  unfold priceM priceN
  by_cases h2 : c = 2
  · rw [if_pos h2, if_pos h2]
  · rw [if_neg h2, if_neg h2]
    by_cases h5 : c = 5
    · rw [if_pos h5, if_pos h5]
    · rw [if_neg h5, if_neg h5, cutN_eq h]
theorem priceN_le {n c s : Nat} {rd : Nat → Nat → Int32} {rN : Nat → Nat → Nat} {qr pr : Nat → Nat → Bool} (h : Cx n rd rN) : priceN n rN qr pr c s ≤ 242000 := by
  unfold priceN
  have h1 := pcN_le11 (outM qr n s n) 11
  have h2 := pcN_le11 (outM pr n s n) 11
  have h3 := cutN_le (s := s) h
  split
  · omega
  · split
    · omega
    · exact h3
theorem outM_lt {q : Nat → Nat → Bool} {n s : Nat} (hn : n ≤ 11) : outM q n s n < 2 ^ 11 := by
  apply Nat.lt_pow_two_of_testBit
  intro y hy
  cases hc : (outM q n s n).testBit y with
  | false => rfl
  | true =>
    have := (outM_tb.mp hc).1
    omega
theorem nI_c {c d : Nat} (hc : c < 100000) (hd : d < 100000) : (nI c = nI d) ↔ c = d := nI_eq (by omega) (by omega)
theorem priceWith_n {n c s p : Nat} {rd : Nat → Nat → Int32} {rN : Nat → Nat → Nat} {pr : Nat → Nat → Bool} {weights near behind : Nat → Int32} {price : Int32} (hx : Cx n rd rN) (hv : VC n rd pr weights near behind) (hc : c ≤ 5) (hs : s < 2 ^ 11) (hp : p < n) (hps : s.testBit p = false) (hprice : c ≠ 2 → c ≠ 5 → price = priceM n rd pr c s) : f_X2_priceWith (nI n) weights near behind (nI c) price (nI s) (nI p) = some (priceM n rd pr c (s ||| 2 ^ p)) := by
  obtain ⟨hn, hr, hsym, hxx⟩ := hx
  obtain ⟨hw, ⟨mk, hk1, hk2⟩, ⟨mk', hb1, hb2⟩⟩ := hv
  have hpow : 2 ^ p < 2 ^ 11 := Nat.pow_lt_pow_right (by decide) (by omega)
  have hor : s ||| 2 ^ p < 2 ^ 11 := Nat.or_lt_two_pow hs hpow
  by_cases h2 : c = 2
  · subst h2
    unfold f_X2_priceWith
    rw [if_pos (show nI 2 = (2 : Int32) from rfl), one_shl (by omega), or_n, leadNear_n hn (by omega) hk1, outM_congr hk2, Option.bind_some, bitCount_n _ (outM_lt hn), Option.bind_some]
    rfl
  · by_cases h5 : c = 5
    · subst h5
      unfold f_X2_priceWith
      rw [if_neg (show ¬ nI 5 = (2 : Int32) by decide), if_pos (show nI 5 = (5 : Int32) from rfl), one_shl (by omega), or_n, leadBehind_n hn (by omega) hb1, outM_congr hb2, Option.bind_some, bitCount_n _ (outM_lt hn), Option.bind_some]
      rfl
    · rw [priceCut_n hn (by omega) (by omega) (show ¬ nI c = (2 : Int32) from fun q => h2 ((nI_c (d := 2) (by omega) (by omega)).mp q)) (show ¬ nI c = (5 : Int32) from fun q => h5 ((nI_c (d := 5) (by omega) (by omega)).mp q)), hprice h2 h5]
      unfold priceM
      rw [if_neg h2, if_neg h5, if_neg h2, if_neg h5, cut_more hp hps hsym (hxx p)]
      congr 2
      apply sumI_congr
      intro b hb
      rw [hw p b hp hb]
theorem price_0 {n c : Nat} {rd : Nat → Nat → Int32} {pr : Nat → Nat → Bool} : priceM n rd pr c 0 = 0 := by
  have ho : ∀ q k, outM q n 0 k = 0 := fun q k => by
    induction k with
    | zero => rfl
    | succ k ih => rw [outM, ih]; simp
  have hc : ∀ k, cutM rd n 0 k = 0 := fun k => by
    induction k with
    | zero => rfl
    | succ k ih => rw [cutM, ih]; simp
  unfold priceM
  rw [ho, ho, hc]
  split
  · decide
  · split
    · decide
    · rfl
theorem priceN_all {n c : Nat} {rN : Nat → Nat → Nat} {qr pr : Nat → Nat → Bool} : priceN n rN qr pr c (2 ^ n - 1) = 0 := by
  have hb : ∀ b, b < n → (2 ^ n - 1).testBit b = true := fun b hb => by rw [Nat.testBit_two_pow_sub_one, decide_eq_true hb]
  have ho : ∀ q, outM q n (2 ^ n - 1) n = 0 := fun q => by
    apply Nat.eq_of_testBit_eq
    intro y
    rw [Nat.zero_testBit]
    cases hc : (outM q n (2 ^ n - 1) n).testBit y with
    | false => rfl
    | true =>
      obtain ⟨-, -, h3⟩ := outM_tb.mp hc
      obtain ⟨b, h4, h5, -⟩ := anyOut_iff.mp h3
      rw [hb b h4] at h5
      cases h5
  unfold priceN
  rw [ho, ho]
  split
  · decide
  · split
    · decide
    · unfold cutN
      rw [fo_congr (g := fun _ => 0) (fun a ha => by
        rw [hb a ha, if_pos rfl, fo_congr (g := fun _ => 0) (fun b hb2 => by rw [hb b hb2]; rfl), fo_zero OpOk_add]), fo_zero OpOk_add]
def jnN (c : Nat) (pN : Nat → Nat) (F : Nat → Nat) : Nat → Nat
  | 0 => 0
  | i + 1 => if c = 3 then jnN c pN F i + pN (setM F (i + 1)) else max (jnN c pN F i) (pN (setM F (i + 1)))
theorem jnN_le {c : Nat} {pN F : Nat → Nat} (hp : ∀ s, pN s ≤ 242000) : ∀ i, jnN c pN F i ≤ i * 242000
  | 0 => Nat.zero_le _
  | i + 1 => by
    have h1 := jnN_le (c := c) (F := F) hp i
    have h2 := hp (setM F (i + 1))
    rw [jnN, Nat.add_mul]
    split
    · omega
    · omega
theorem join_n {c x y : Nat} (hc : c ≤ 5) (hx : x < 100000000) (hy : y < 100000000) : f_X2_join (nI c) (nI x) (nI y) = some (nI (if c = 3 then x + y else max x y)) := by
  unfold f_X2_join
  by_cases h3 : c = 3
  · rw [if_pos (by rw [h3]; rfl), if_pos h3, nI_add]
  · rw [if_neg (show ¬ nI c = (3 : Int32) from fun q => h3 ((nI_c (d := 3) (by omega) (by omega)).mp q)), if_neg h3]
    by_cases h : x < y
    · rw [if_pos (nI_lt h (by omega)), show max x y = y by omega]
    · rw [if_neg (nI_nlt (by omega) (by omega)), show max x y = x by omega]
def finN (c n : Nat) : Nat := if c = 5 ∧ 0 < n then 1 else 0
theorem finish_n {c n x : Nat} (hc : c ≤ 5) (hn : n ≤ 11) : f_X2_finish (nI n) (nI c) (nI x) = some (nI (x + finN c n)) := by
  unfold f_X2_finish finN
  by_cases h5 : c = 5
  · rw [if_pos (by rw [h5]; rfl)]
    by_cases h0 : 0 < n
    · rw [if_neg (nI_nle h0 (by omega)), if_pos ⟨h5, h0⟩, nI_1]
    · rw [if_pos (show nI n ≤ 0 from by rw [show n = 0 by omega, nI_0]; exact Int32.le_refl 0), if_neg (fun q => h0 q.2)]
      rfl
  · rw [if_neg (show ¬ nI c = (5 : Int32) from fun q => h5 ((nI_c (d := 5) (by omega) (by omega)).mp q)), if_neg (fun q => h5 q.1)]
    rfl
theorem isBySpans_n {c : Nat} (hc : c ≤ 5) : f_X10_isBySpans (nI c) = some (b2I (decide (c = 0 ∨ c = 4))) := by
  rcases (show c = 0 ∨ c = 1 ∨ c = 2 ∨ c = 3 ∨ c = 4 ∨ c = 5 by omega) with rfl | rfl | rfl | rfl | rfl | rfl <;> rfl
theorem setM_new {F : Nat → Nat} {n i : Nat} (hi : ∀ i j, i < n → j < n → F i = F j → i = j) (hin : i < n) : (setM F i).testBit (F i) = false := by
  cases hc : (setM F i).testBit (F i) with
  | false => rfl
  | true =>
    obtain ⟨j, h1, h2⟩ := setM_tb.mp hc
    have := hi j i (by omega) hin h2
    omega
theorem costC_set {n c : Nat} {F : Nat → Nat} {rd : Nat → Nat → Int32} {rN : Nat → Nat → Nat} {pr : Nat → Nat → Bool} {weights near behind posts : Nat → Int32} (hx : Cx n rd rN) (hv : VC n rd pr weights near behind) (hc : c ≤ 5) (hc2 : ¬ (c = 0 ∨ c = 4)) (hp : ∀ j, j < n → posts j = nI (F j)) (hlt : ∀ j, j < n → F j < n) (hi : ∀ i j, i < n → j < n → F i = F j → i = j) : f_X2_costOf (nI n) weights near behind (nI n) posts (nI c) = some (nI (jnN c (priceN n rN (rdQ rd) pr c) F n + finN c n)) := by
  have hn := hx.1
  unfold f_X2_costOf
  have h : loopS (fun (s : Int32 × Int32 × Int32 × Int32) => f_X2_costOf_L11 (nI c) (nI n) weights near behind (nI n) posts s.1 s.2.1 s.2.2.1 s.2.2.2) ((0 : Int32), (0 : Int32), (0 : Int32), (0 : Int32)) = some (nI (jnN c (priceN n rN (rdQ rd) pr c) F n)) := by
    refine loop_go (fun i => (nI (jnN c (priceN n rN (rdQ rd) pr c) F i), priceM n rd pr c (setM F i), nI (setM F i), nI i)) n ?_ (fun i hin => ?_) ?_
    · show _ = (nI 0, priceM n rd pr c 0, nI 0, nI 0)
      rw [price_0]
      rfl
    · try dsimp only
      unfold f_X2_costOf_L11
      have hs : setM F i < 2 ^ 11 := setM_lt (fun j hj => by have := hlt j (by omega); omega)
      have hf := hlt i hin
      have hj := jnN_le (c := c) (pN := priceN n rN (rdQ rd) pr c) (F := F) (fun s => priceN_le hx) i
      have hle : i * 242000 ≤ 11 * 242000 := Nat.mul_le_mul_right _ (by omega)
      have hpl := priceN_le (c := c) (s := setM F (i + 1)) (qr := rdQ rd) (pr := pr) hx
      rw [if_neg (nI_ge hin (by omega)), isBySpans_n hc, decide_eq_false hc2, gi_n (by omega) (by omega), hp i hin, nI_1]
      simp only [Option.bind_some, b2I, Bool.false_eq_true, if_false, if_true]
      rw [priceWith_n hx hv hc hs hf (setM_new hi hin) (fun _ _ => rfl), one_shl (by omega), or_n]
      simp only [Option.bind_some]
      rw [show setM F i ||| 2 ^ F i = setM F (i + 1) from rfl, priceN_eq hx, join_n hc (by omega) (by omega)]
      rfl
    · try dsimp only
      unfold f_X2_costOf_L11
      rw [if_pos (nI_le (Nat.le_refl n) (by omega))]
  rw [h]
  simp only [Option.bind_some]
  rw [finish_n hc hn]
  rfl
theorem costOfSet_n {n c s : Nat} {wide places weights pair : Nat → Int32} {rN : Nat → Nat → Nat} (hx : Cx n (rdM wide places weights) rN) (hc : c = 1 ∨ c = 2 ∨ c = 3 ∨ c = 5) (hs : s < 2 ^ 11) : f_X11_costOfSet (nI n) wide places weights pair (nI c) (nI s) = some (nI (priceN n rN (rdQ (rdM wide places weights)) (prQ pair) c s + (if c = 5 then 1 else 0))) := by
  have hn := hx.1
  have hO := outM_lt (q := rdQ (rdM wide places weights)) (s := s) hn
  have hH := outM_lt (q := prQ pair) (s := s) hn
  unfold f_X11_costOfSet
  rcases hc with rfl | rfl | rfl | rfl
  · rw [if_pos (show nI 1 = (1 : Int32) from rfl), cutOf_n hn (by omega), cutN_eq hx]
    rfl
  · rw [if_neg (show ¬ nI 2 = (1 : Int32) by decide), if_neg (show ¬ nI 2 = (3 : Int32) by decide), if_pos (show nI 2 = (2 : Int32) from rfl), openSet_n hn (by omega)]
    simp only [Option.bind_some]
    rw [sizeOf_n (by omega)]
    rfl
  · rw [if_neg (show ¬ nI 3 = (1 : Int32) by decide), if_pos (show nI 3 = (3 : Int32) from rfl), cutOf_n hn (by omega), cutN_eq hx]
    rfl
  · rw [if_neg (show ¬ nI 5 = (1 : Int32) by decide), if_neg (show ¬ nI 5 = (3 : Int32) by decide), if_neg (show ¬ nI 5 = (2 : Int32) by decide), heldSet_n hn (by omega)]
    simp only [Option.bind_some]
    rw [sizeOf_n (by omega)]
    simp only [Option.bind_some]
    rw [nI_1]
    rfl
def mxA (e e5 : Nat) (pN F : Nat → Nat) : Nat → Nat
  | 0 => e
  | i + 1 => max (mxA e e5 pN F i) (pN (setM F (i + 1)) + e5)
def smA (e5 : Nat) (pN F : Nat → Nat) : Nat → Nat
  | 0 => 0
  | i + 1 => smA e5 pN F i + (pN (setM F (i + 1)) + e5)
theorem mxA_le {e e5 : Nat} {pN F : Nat → Nat} (hp : ∀ s, pN s ≤ 242000) (he : e ≤ 1) (he5 : e5 ≤ 1) : ∀ i, mxA e e5 pN F i ≤ 242001
  | 0 => by rw [mxA]; omega
  | i + 1 => by
    have h1 := mxA_le (F := F) hp he he5 i
    have h2 := hp (setM F (i + 1))
    rw [mxA]
    omega
theorem costM_loop {n c : Nat} {F : Nat → Nat} {e : Nat} {wide places weights pair row : Nat → Int32} {rN : Nat → Nat → Nat} (hx : Cx n (rdM wide places weights) rN) (hc : c = 1 ∨ c = 2 ∨ c = 3 ∨ c = 5) (he : e ≤ 1) (hp : ∀ j, j < n → row j = nI (F j)) (hlt : ∀ j, j < n → F j < n) : loopS (fun (s : Int32 × Int32 × Int32 × Int32) => f_X11_costOfRow_L152 (nI c) (nI n) (nI n) wide places weights pair row s.1 s.2.1 s.2.2.1 s.2.2.2) (nI e, (0 : Int32), (0 : Int32), (0 : Int32)) = some (nI (mxA e (if c = 5 then 1 else 0) (priceN n rN (rdQ (rdM wide places weights)) (prQ pair) c) F (n - 1)), nI (smA (if c = 5 then 1 else 0) (priceN n rN (rdQ (rdM wide places weights)) (prQ pair) c) F (n - 1))) := by
  have hn := hx.1
  refine loop_go (fun i => (nI (mxA e (if c = 5 then 1 else 0) (priceN n rN (rdQ (rdM wide places weights)) (prQ pair) c) F i), nI (setM F i), nI (smA (if c = 5 then 1 else 0) (priceN n rN (rdQ (rdM wide places weights)) (prQ pair) c) F i), nI i)) (n - 1) rfl (fun i hi => ?_) ?_
  · try dsimp only
    unfold f_X11_costOfRow_L152
    have hf := hlt i (by omega)
    have hs : setM F i < 2 ^ 11 := setM_lt (fun j hj => by have := hlt j (by omega); omega)
    have hpow : 2 ^ F i < 2 ^ 11 := Nat.pow_lt_pow_right (by decide) (by omega)
    have hor : setM F i ||| 2 ^ F i < 2 ^ 11 := Nat.or_lt_two_pow hs hpow
    have he5 : (if c = 5 then 1 else 0) ≤ 1 := by split <;> omega
    have hm := mxA_le (pN := priceN n rN (rdQ (rdM wide places weights)) (prQ pair) c) (F := F) (fun s => priceN_le hx) he he5 i
    have hpl := priceN_le (c := c) (s := setM F (i + 1)) (qr := rdQ (rdM wide places weights)) (pr := prQ pair) hx
    rw [nI_1 i, if_neg (nI_ge (by omega) (by omega)), gi_n (by omega) (by omega), hp i (by omega)]
    simp only [Option.bind_some]
    rw [one_shl (by omega), or_n, costOfSet_n hx hc hor]
    simp only [Option.bind_some]
    rw [show setM F i ||| 2 ^ F i = setM F (i + 1) from rfl, nI_add, smA, mxA]
    by_cases h : priceN n rN (rdQ (rdM wide places weights)) (prQ pair) c (setM F (i + 1)) + (if c = 5 then 1 else 0) ≤ mxA e (if c = 5 then 1 else 0) (priceN n rN (rdQ (rdM wide places weights)) (prQ pair) c) F i
    · rw [if_pos (nI_le h (by omega)), Nat.max_eq_left h]
      rfl
    · rw [if_neg (nI_ge (by omega) (by omega)), Nat.max_eq_right (by omega)]
      rfl
  · try dsimp only
    unfold f_X11_costOfRow_L152
    rw [nI_1, if_pos (nI_le (by omega) (by omega))]
theorem jn_last {c n : Nat} {pN F : Nat → Nat} (hz : pN (setM F n) = 0) : jnN c pN F n = jnN c pN F (n - 1) := by
  cases n with
  | zero => rfl
  | succ n =>
    rw [jnN, hz, Nat.add_sub_cancel]
    split
    · rfl
    · omega
theorem smA_jn {pN F : Nat → Nat} : ∀ i, smA 0 pN F i = jnN 3 pN F i
  | 0 => rfl
  | i + 1 => by rw [smA, jnN, if_pos rfl, smA_jn i]; rfl
theorem mxA_jn {c e : Nat} {pN F : Nat → Nat} (hc : c ≠ 3) : ∀ i, mxA e e pN F i = jnN c pN F i + e
  | 0 => by rw [mxA, jnN, Nat.zero_add]
  | i + 1 => by
    rw [mxA, jnN, if_neg hc, mxA_jn hc i]
    omega
theorem costM_set {n c : Nat} {F : Nat → Nat} {wide places weights pair row : Nat → Int32} {rN : Nat → Nat → Nat} (hx : Cx n (rdM wide places weights) rN) (hc : c = 1 ∨ c = 2 ∨ c = 3 ∨ c = 5) (hp : ∀ j, j < n → row j = nI (F j)) (hlt : ∀ j, j < n → F j < n) (hi : ∀ i j, i < n → j < n → F i = F j → i = j) : f_X11_costOfRow (nI n) (nI n) wide places weights pair row (nI c) = some (nI (jnN c (priceN n rN (rdQ (rdM wide places weights)) (prQ pair) c) F n + finN c n)) := by
  have hn := hx.1
  have hz : priceN n rN (rdQ (rdM wide places weights)) (prQ pair) c (setM F n) = 0 := by rw [(setM_all hi).mpr ⟨rfl, hlt⟩, priceN_all]
  rw [jn_last hz]
  unfold f_X11_costOfRow
  rcases hc with rfl | rfl | rfl | rfl
  · rw [if_neg (show ¬ nI 1 = (5 : Int32) by decide), Option.bind_some, if_neg (show ¬ nI 1 = (0 : Int32) by decide), if_neg (show ¬ nI 1 = (4 : Int32) by decide)]
    rw [show loopS (fun (s : Int32 × Int32 × Int32 × Int32) => f_X11_costOfRow_L152 (nI 1) (nI n) (nI n) wide places weights pair row s.1 s.2.1 s.2.2.1 s.2.2.2) ((0 : Int32), (0 : Int32), (0 : Int32), (0 : Int32)) = _ from costM_loop (pair := pair) (F := F) (e := 0) (row := row) hx (by decide) (by omega) hp hlt, if_neg (show ¬ (1 : Nat) = 5 by decide), mxA_jn (c := 1) (by omega)]
    rfl
  · rw [if_neg (show ¬ nI 2 = (5 : Int32) by decide), Option.bind_some, if_neg (show ¬ nI 2 = (0 : Int32) by decide), if_neg (show ¬ nI 2 = (4 : Int32) by decide)]
    rw [show loopS (fun (s : Int32 × Int32 × Int32 × Int32) => f_X11_costOfRow_L152 (nI 2) (nI n) (nI n) wide places weights pair row s.1 s.2.1 s.2.2.1 s.2.2.2) ((0 : Int32), (0 : Int32), (0 : Int32), (0 : Int32)) = _ from costM_loop (pair := pair) (F := F) (e := 0) (row := row) hx (by decide) (by omega) hp hlt, if_neg (show ¬ (2 : Nat) = 5 by decide), mxA_jn (c := 2) (by omega)]
    rfl
  · rw [if_neg (show ¬ nI 3 = (5 : Int32) by decide), Option.bind_some, if_neg (show ¬ nI 3 = (0 : Int32) by decide), if_neg (show ¬ nI 3 = (4 : Int32) by decide)]
    rw [show loopS (fun (s : Int32 × Int32 × Int32 × Int32) => f_X11_costOfRow_L152 (nI 3) (nI n) (nI n) wide places weights pair row s.1 s.2.1 s.2.2.1 s.2.2.2) ((0 : Int32), (0 : Int32), (0 : Int32), (0 : Int32)) = _ from costM_loop (pair := pair) (F := F) (e := 0) (row := row) hx (by decide) (by omega) hp hlt, if_neg (show ¬ (3 : Nat) = 5 by decide), smA_jn]
    rfl
  · by_cases hn0 : 0 < n
    · rw [if_pos (show nI 5 = (5 : Int32) from rfl), if_neg (nI_nle hn0 (by omega)), Option.bind_some, if_neg (show ¬ nI 5 = (0 : Int32) by decide), if_neg (show ¬ nI 5 = (4 : Int32) by decide)]
      rw [show loopS (fun (s : Int32 × Int32 × Int32 × Int32) => f_X11_costOfRow_L152 (nI 5) (nI n) (nI n) wide places weights pair row s.1 s.2.1 s.2.2.1 s.2.2.2) ((1 : Int32), (0 : Int32), (0 : Int32), (0 : Int32)) = _ from costM_loop (pair := pair) (F := F) (e := 1) (row := row) hx (by decide) (by omega) hp hlt, if_pos (show (5 : Nat) = 5 from rfl), mxA_jn (c := 5) (by omega)]
      unfold finN
      rw [if_pos ⟨rfl, hn0⟩]
      rfl
    · have : n = 0 := by omega
      subst this
      rw [if_pos (show nI 5 = (5 : Int32) from rfl), if_pos (show nI 0 ≤ (0 : Int32) by decide), Option.bind_some, if_neg (show ¬ nI 5 = (0 : Int32) by decide), if_neg (show ¬ nI 5 = (4 : Int32) by decide)]
      rw [show loopS (fun (s : Int32 × Int32 × Int32 × Int32) => f_X11_costOfRow_L152 (nI 5) (nI 0) (nI 0) wide places weights pair row s.1 s.2.1 s.2.2.1 s.2.2.2) ((0 : Int32), (0 : Int32), (0 : Int32), (0 : Int32)) = _ from costM_loop (pair := pair) (F := F) (e := 0) (row := row) hx (by decide) (by omega) hp hlt]
      rfl
