/-! LAYER 2: costs by spans; cost -/
theorem opC_ok (c : Nat) : OpOk (opC c) := by
  unfold opC
  split
  · exact OpOk_add
  · exact OpOk_max
theorem opC_le (c x y : Nat) : opC c x y ≤ x + y := by
  unfold opC
  split
  · exact Nat.le_refl _
  · show max x y ≤ x + y
    omega
theorem opC_ge (c x y : Nat) : x ≤ opC c x y := by
  unfold opC
  split
  · exact Nat.le_add_right _ _
  · show x ≤ max x y
    omega
theorem fo_le {op : Nat → Nat → Nat} (ho : ∀ x y, op x y ≤ x + y) {f : Nat → Nat} {M : Nat} : ∀ {n : Nat}, (∀ k, k < n → f k ≤ M) → fo op f n ≤ n * M
  | 0, _ => by simp [fo]
  | n + 1, h => by
    rw [fo, Nat.add_mul, Nat.one_mul]
    exact Nat.le_trans (ho _ _) (Nat.add_le_add (fo_le ho (fun k hk => h k (by omega))) (h n (by omega)))
theorem spN_le {c n d : Nat} (hn : n ≤ 11) (hd : d ≤ 11) : spN c n d ≤ 11 := by
  unfold spN
  split
  · split <;> omega
  · exact hd
theorem hC_le {c n : Nat} {w : Nat → Nat → Nat} {a b : Nat} (hn : n ≤ 11) (hw : w a b ≤ 2000) (hb : b ≤ 11) : hC c n w a b ≤ 22000 := by
  unfold hC
  split
  · have h1 : spN 4 n (b - a) ≤ 11 := spN_le hn (by omega)
    have h2 : w a b * spN 4 n (b - a) ≤ 2000 * 11 := Nat.mul_le_mul hw h1
    omega
  · split <;> omega
theorem spanStep_n {n c d r w : Nat} (hc : c = 0 ∨ c = 4) (hn : n ≤ 11) (hd : d ≤ n) (hr : r < 100000000) (hw : w ≤ 2000) : ((if nI w ≤ 0 then (if nI w ≤ 0 then (some (nI r)) else (some (nI r + (nI w * (if (nI n - nI d) < nI d then (nI n - nI d) else nI d))))) else (if nI c = (0 : Int32) then (some (if nI r < nI d then nI d else nI r)) else (if nI w ≤ 0 then (some (nI r)) else (some (nI r + (nI w * (if (nI n - nI d) < nI d then (nI n - nI d) else nI d)))))) : Option (Int32))) = some (nI (opC c r (if c = 4 then w * spN 4 n d else if w = 0 then 0 else d))) := by
  by_cases h0 : w = 0
  · subst h0
    rw [if_pos (show nI 0 ≤ (0 : Int32) by decide), if_pos (show nI 0 ≤ (0 : Int32) by decide)]
    congr 2
    rcases hc with rfl | rfl
    · show r = max r 0
      omega
    · show r = r + 0 * _
      omega
  · have hz : ¬ nI w ≤ 0 := nI_nle (by omega) (by omega)
    rw [if_neg hz]
    rcases hc with rfl | rfl
    · rw [if_pos (show nI 0 = (0 : Int32) from rfl), if_neg (show ¬ (0 : Nat) = 4 by decide), if_neg h0]
      show some _ = some (nI (max r d))
      by_cases h : r < d
      · rw [if_pos (nI_lt h (by omega)), show max r d = d by omega]
      · rw [if_neg (nI_nlt (by omega) (by omega)), show max r d = r by omega]
    · rw [if_neg (show ¬ nI 4 = (0 : Int32) by decide), if_neg hz, if_pos (show (4 : Nat) = 4 from rfl), pk_sub hd]
      show some _ = some (nI (r + w * spN 4 n d))
      unfold spN
      rw [if_pos rfl]
      by_cases h : d ≤ n - d
      · rw [if_neg (nI_nlt h (by omega)), if_pos h, pk_mul, nI_add]
      · rw [if_pos (nI_lt (by omega) (by omega)), if_neg h, pk_mul, nI_add]
theorem withSpans_n {n c place acc : Nat} {F : Nat → Nat} {rd : Nat → Nat → Int32} {rN : Nat → Nat → Nat} {weights posts : Nat → Int32} (hx : Cx n rd rN) (hw : ∀ a b, a < n → b < n → weights (11 * a + b) = rd a b) (hc : c = 0 ∨ c = 4) (hpl : place < n) (hp : ∀ j, j ≤ place → posts j = nI (F j) ∧ F j < n) (hacc : acc ≤ 10000000) : f_X2_withSpans (nI n) weights posts (nI c) (nI acc) (nI place) = some (nI (opC c acc (fo (opC c) (fun a => hC c n (fun a b => rN (F a) (F b)) a place) place))) := by
  have hn := hx.1
  unfold f_X2_withSpans
  have hhc : ∀ k, k < place → hC c n (fun a b => rN (F a) (F b)) k place ≤ 22000 := fun k hk => hC_le hn (hx.2.1 _ _ (hp k (by omega)).2 (hp place (by omega)).2).2 (by omega)
  have h : loopS (fun (s : Int32 × Int32) => f_X2_withSpans_L6 (nI c) (nI place) (nI n) weights posts s.1 s.2) (nI acc, (0 : Int32)) = some (nI (opC c acc (fo (opC c) (fun a => hC c n (fun a b => rN (F a) (F b)) a place) place))) := by
    refine loop_go (fun k => (nI (opC c acc (fo (opC c) (fun a => hC c n (fun a b => rN (F a) (F b)) a place) k)), nI k)) place ?_ (fun k hk => ?_) ?_
    · show _ = (nI (opC c acc 0), nI 0)
      rw [(opC_ok c).2.2]
      rfl
    · try dsimp only
      unfold f_X2_withSpans_L6
      obtain ⟨p1, p2⟩ := hp k (by omega)
      obtain ⟨q1, q2⟩ := hp place (by omega)
      obtain ⟨r1, r2⟩ := hx.2.1 (F k) (F place) p2 q2
      have hfo := fo_le (opC_le c) (f := fun a => hC c n (fun a b => rN (F a) (F b)) a place) (M := 22000) (n := k) (fun j hj => hhc j (by omega))
      have hkk : k * 22000 ≤ 11 * 22000 := Nat.mul_le_mul_right _ (by omega)
      have hb := opC_le c acc (fo (opC c) (fun a => hC c n (fun a b => rN (F a) (F b)) a place) k)
      rw [if_neg (nI_ge hk (by omega)), gi_n (by omega) (by omega), gi_n (by omega) (by omega), p1, q1, nI_1]
      simp only [Option.bind_some]
      rw [weightOf_n (by omega) (by omega), hw _ _ p2 q2, r1, pk_sub (show k ≤ place by omega)]
      simp only [Option.bind_some]
      rw [spanStep_n hc hn (by omega) (by omega) r2, fo, ← (opC_ok c).2.1]
      rfl
    · try dsimp only
      unfold f_X2_withSpans_L6
      rw [if_pos (nI_le (Nat.le_refl place) (by omega))]
  rw [h]
  rfl
theorem spanCost_le {c n k : Nat} {w : Nat → Nat → Nat} (hn : n ≤ 11) (hk : k ≤ n) (hw : ∀ a b, a < k → b < k → w a b ≤ 2000) : spanCost c n w k ≤ 2662000 := by
  have h1 : spanCost c n w k ≤ k * (11 * 22000) := by
    apply fo_le (opC_le c)
    intro b hb
    refine Nat.le_trans (fo_le (opC_le c) (M := 22000) (fun a ha => hC_le hn (hw a b (by omega) hb) (by omega))) ?_
    exact Nat.mul_le_mul_right _ (by omega)
  have h2 : k * (11 * 22000) ≤ 11 * (11 * 22000) := Nat.mul_le_mul_right _ (by omega)
  omega
theorem costC_span {n c : Nat} {F : Nat → Nat} {rd : Nat → Nat → Int32} {rN : Nat → Nat → Nat} {weights near behind posts : Nat → Int32} (hx : Cx n rd rN) (hw : ∀ a b, a < n → b < n → weights (11 * a + b) = rd a b) (hc : c = 0 ∨ c = 4) (hp : ∀ j, j < n → posts j = nI (F j)) (hlt : ∀ j, j < n → F j < n) : f_X2_costOf (nI n) weights near behind (nI n) posts (nI c) = some (nI (spanCost c n (fun a b => rN (F a) (F b)) n)) := by
  have hn := hx.1
  unfold f_X2_costOf
  have h : loopS (fun (s : Int32 × Int32 × Int32 × Int32) => f_X2_costOf_L11 (nI c) (nI n) weights near behind (nI n) posts s.1 s.2.1 s.2.2.1 s.2.2.2) ((0 : Int32), (0 : Int32), (0 : Int32), (0 : Int32)) = some (nI (spanCost c n (fun a b => rN (F a) (F b)) n)) := by
    refine loop_go (fun i => (nI (spanCost c n (fun a b => rN (F a) (F b)) i), (0 : Int32), (0 : Int32), nI i)) n rfl (fun i hin => ?_) ?_
    · try dsimp only
      unfold f_X2_costOf_L11
      have hb := spanCost_le (c := c) (n := n) (k := i) (w := fun a b => rN (F a) (F b)) hn (by omega) (fun a b ha hb => (hx.2.1 _ _ (hlt a (by omega)) (hlt b (by omega))).2)
      rw [if_neg (nI_ge hin (by omega)), isBySpans_n (by omega), decide_eq_true hc, withSpans_n (F := F) hx hw hc hin (fun j hj => ⟨hp j (by omega), hlt j (by omega)⟩) (by omega), nI_1]
      rfl
    · try dsimp only
      unfold f_X2_costOf_L11
      rw [if_pos (nI_le (Nat.le_refl n) (by omega))]
  rw [h]
  simp only [Option.bind_some]
  rw [finish_n (by omega) hn]
  unfold finN
  rw [if_neg (by omega)]
  rfl
theorem spanOf_n {n c a b : Nat} (hc : c = 0 ∨ c = 4) (hn : n ≤ 11) (hab : a < b) (hb : b ≤ n) : f_X11_spanOf (nI n) (nI a) (nI b) (b2I (decide (c = 4))) = some (nI (spN c n (b - a))) := by
  unfold f_X11_spanOf
  rw [if_neg (nI_ge hab (by omega)), pk_sub (show a ≤ b by omega)]
  simp only [Option.bind_some]
  rcases hc with rfl | rfl
  · rfl
  · show (if (1 : Int32) = 0 then _ else _) = _
    unfold spN
    rw [if_neg (by decide), if_pos rfl, pk_sub (show b - a ≤ n by omega)]
    by_cases h : b - a ≤ n - (b - a)
    · rw [if_pos (nI_le h (by omega)), if_pos h]
    · rw [if_neg (nI_ge (by omega) (by omega)), if_neg h]
theorem fo_low {op : Nat → Nat → Nat} (ho : OpOk op) (f : Nat → Nat) (a : Nat) : fo op (fun b => if a < b then f b else 0) (a + 1) = 0 := by
  rw [fo_congr (g := fun _ => 0) (fun b hb => if_neg (by omega)), fo_zero ho]
def h0C (c n : Nat) (w : Nat → Nat → Nat) (a b : Nat) : Nat := if w a b = 0 then 0 else spN c n (b - a)
def h4C (c n : Nat) (w : Nat → Nat → Nat) (a b : Nat) : Nat := w a b * spN c n (b - a)
theorem costM_in {n c a : Nat} {F : Nat → Nat} {mx sm : Nat} {wide places weights row : Nat → Int32} {rN : Nat → Nat → Nat} (hx : Cx n (rdM wide places weights) rN) (hc : c = 0 ∨ c = 4) (ha : a < n) (hmx : mx ≤ 11) (hp : ∀ j, j < n → row j = nI (F j)) (hlt : ∀ j, j < n → F j < n) : loopS (fun (s : Int32 × Int32 × Int32) => f_X11_costOfRow_L47 (nI c) (nI a) (nI n) (nI n) wide places weights row s.1 s.2.1 s.2.2) (nI mx, nI sm, nI a + (1 : Int32)) = some (nI (max mx (fo (fun x y => max x y) (fun b => if a < b then h0C c n (fun a b => rN (F a) (F b)) a b else 0) n)), nI (sm + fo (fun x y => x + y) (fun b => if a < b then h4C c n (fun a b => rN (F a) (F b)) a b else 0) n)) := by
  have hn := hx.1
  refine loop_go (fun k => (nI (max mx (fo (fun x y => max x y) (fun b => if a < b then h0C c n (fun a b => rN (F a) (F b)) a b else 0) (a + 1 + k))), nI (sm + fo (fun x y => x + y) (fun b => if a < b then h4C c n (fun a b => rN (F a) (F b)) a b else 0) (a + 1 + k)), nI (a + 1 + k))) (n - (a + 1)) ?_ (fun k hk => ?_) ?_
  · try dsimp only
    rw [Nat.add_zero, fo_low OpOk_max, fo_low OpOk_add, show max mx 0 = mx by omega, Nat.add_zero, nI_1]
  · try dsimp only
    unfold f_X11_costOfRow_L47
    have hb : a + 1 + k < n := by omega
    obtain ⟨r1, r2⟩ := hx.2.1 (F a) (F (a + 1 + k)) (hlt a ha) (hlt _ hb)
    have f1 := hlt a ha
    have f2 := hlt _ hb
    have ht : ((if nI c = (4 : Int32) then (some (1 : Int32)) else (some (0 : Int32)) : Option (Int32))) = some (b2I (decide (c = 4))) := by
      rcases hc with rfl | rfl <;> rfl
    have hsp : spN c n (a + 1 + k - a) ≤ 11 := spN_le hn (by omega)
    have hM : fo (fun x y => max x y) (fun b => if a < b then h0C c n (fun a b => rN (F a) (F b)) a b else 0) (a + 1 + k) ≤ 11 := by
      apply fo_max_le
      intro b hb2
      split
      · unfold h0C
        split
        · omega
        · exact spN_le hn (by omega)
      · omega
    rw [if_neg (nI_ge hb (by omega)), gi_n (by omega) (by omega), gi_n (by omega) (by omega), hp a ha, hp _ hb, ht, nI_1 (a + 1 + k)]
    simp only [Option.bind_some]
    rw [roadOf_n (by omega) (by omega), r1, spanOf_n hc hn (by omega) (by omega)]
    simp only [Option.bind_some]
    rw [pk_mul, nI_add, show a + 1 + (k + 1) = a + 1 + k + 1 by omega, fo, fo, if_pos (show a < a + 1 + k by omega), if_pos (show a < a + 1 + k by omega), ← Nat.add_assoc sm]
    have hstep : ((if nI (rN (F a) (F (a + 1 + k))) ≤ 0 then (some (nI (max mx (fo (fun x y => max x y) (fun b => if a < b then h0C c n (fun a b => rN (F a) (F b)) a b else 0) (a + 1 + k))))) else (if nI (spN c n (a + 1 + k - a)) ≤ nI (max mx (fo (fun x y => max x y) (fun b => if a < b then h0C c n (fun a b => rN (F a) (F b)) a b else 0) (a + 1 + k))) then (some (nI (max mx (fo (fun x y => max x y) (fun b => if a < b then h0C c n (fun a b => rN (F a) (F b)) a b else 0) (a + 1 + k))))) else (some (nI (spN c n (a + 1 + k - a))))) : Option (Int32))) = some (nI (max mx (max (fo (fun x y => max x y) (fun b => if a < b then h0C c n (fun a b => rN (F a) (F b)) a b else 0) (a + 1 + k)) (h0C c n (fun a b => rN (F a) (F b)) a (a + 1 + k))))) := by
      generalize fo (fun x y => max x y) (fun b => if a < b then h0C c n (fun a b => rN (F a) (F b)) a b else 0) (a + 1 + k) = X at hM ⊢
      unfold h0C
      by_cases h0 : rN (F a) (F (a + 1 + k)) = 0
      · rw [if_pos h0, h0, if_pos (show nI 0 ≤ (0 : Int32) by decide)]
        congr 2
        omega
      · rw [if_neg h0, if_neg (nI_nle (by omega) (by omega))]
        by_cases h1 : spN c n (a + 1 + k - a) ≤ max mx X
        · rw [if_pos (nI_le h1 (by omega))]
          congr 2
          omega
        · rw [if_neg (nI_ge (by omega) (by omega))]
          congr 2
          omega
    rw [hstep]
    rfl
  · try dsimp only
    unfold f_X11_costOfRow_L47
    rw [if_pos (nI_le (by omega) (by omega)), show a + 1 + (n - (a + 1)) = n by omega]
theorem costM_span {n c : Nat} {F : Nat → Nat} {wide places weights pair row : Nat → Int32} {rN : Nat → Nat → Nat} (hx : Cx n (rdM wide places weights) rN) (hc : c = 0 ∨ c = 4) (hp : ∀ j, j < n → row j = nI (F j)) (hlt : ∀ j, j < n → F j < n) : f_X11_costOfRow (nI n) (nI n) wide places weights pair row (nI c) = some (nI (spanCost c n (fun a b => rN (F a) (F b)) n)) := by
  have hn := hx.1
  have h : loopS (fun (s : Int32 × Int32 × Int32) => f_X11_costOfRow_L32 (nI c) (nI n) (nI n) wide places weights row s.1 s.2.1 s.2.2) ((0 : Int32), (0 : Int32), (0 : Int32)) = some (nI (fo (fun x y => max x y) (fun a => fo (fun x y => max x y) (fun b => if a < b then h0C c n (fun a b => rN (F a) (F b)) a b else 0) n) n), nI (fo (fun x y => x + y) (fun a => fo (fun x y => x + y) (fun b => if a < b then h4C c n (fun a b => rN (F a) (F b)) a b else 0) n) n)) := by
    refine loop_go (fun i => (nI (fo (fun x y => max x y) (fun a => fo (fun x y => max x y) (fun b => if a < b then h0C c n (fun a b => rN (F a) (F b)) a b else 0) n) i), nI (fo (fun x y => x + y) (fun a => fo (fun x y => x + y) (fun b => if a < b then h4C c n (fun a b => rN (F a) (F b)) a b else 0) n) i), nI i)) n rfl (fun i hi => ?_) ?_
    · try dsimp only
      unfold f_X11_costOfRow_L32
      have hM : fo (fun x y => max x y) (fun a => fo (fun x y => max x y) (fun b => if a < b then h0C c n (fun a b => rN (F a) (F b)) a b else 0) n) i ≤ 11 := by
        apply fo_max_le
        intro a ha
        apply fo_max_le
        intro b hb2
        split
        · unfold h0C
          split
          · omega
          · exact spN_le hn (by omega)
        · omega
      rw [if_neg (nI_ge hi (by omega)), costM_in hx hc hi hM hp hlt, nI_1]
      rfl
    · try dsimp only
      unfold f_X11_costOfRow_L32
      rw [if_pos (nI_le (Nat.le_refl n) (by omega))]
  unfold f_X11_costOfRow spanCost
  rcases hc with rfl | rfl
  · rw [if_neg (show ¬ nI 0 = (5 : Int32) by decide), Option.bind_some, if_pos (show nI 0 = (0 : Int32) from rfl), h]
    rw [fo_tri (opC_ok 0)]
    rfl
  · rw [if_neg (show ¬ nI 4 = (5 : Int32) by decide), Option.bind_some, if_neg (show ¬ nI 4 = (0 : Int32) by decide), if_pos (show nI 4 = (4 : Int32) from rfl), h]
    rw [fo_tri (opC_ok 4)]
    rfl
/-- what a whole row costs -/
def costN (c n : Nat) (rN : Nat → Nat → Nat) (qr pr : Nat → Nat → Bool) (F : Nat → Nat) : Nat := if c = 0 ∨ c = 4 then spanCost c n (fun a b => rN (F a) (F b)) n else jnN c (priceN n rN qr pr c) F n + finN c n
theorem costN_le {c n : Nat} {rd : Nat → Nat → Int32} {rN : Nat → Nat → Nat} {qr pr : Nat → Nat → Bool} {F : Nat → Nat} (hx : Cx n rd rN) (hlt : ∀ j, j < n → F j < n) : costN c n rN qr pr F ≤ 2662001 := by
  have hn := hx.1
  unfold costN
  split
  · have := spanCost_le (c := c) (n := n) (k := n) (w := fun a b => rN (F a) (F b)) hn (by omega) (fun a b ha hb => (hx.2.1 _ _ (hlt a ha) (hlt b hb)).2)
    omega
  · have h1 := jnN_le (c := c) (pN := priceN n rN qr pr c) (F := F) (fun s => priceN_le hx) n
    have h2 : n * 242000 ≤ 11 * 242000 := Nat.mul_le_mul_right _ (by omega)
    have h3 : finN c n ≤ 1 := by unfold finN; split <;> omega
    omega
theorem costC_n {n c : Nat} {F : Nat → Nat} {rd : Nat → Nat → Int32} {rN : Nat → Nat → Nat} {pr : Nat → Nat → Bool} {weights near behind posts : Nat → Int32} (hx : Cx n rd rN) (hv : VC n rd pr weights near behind) (hc : c ≤ 5) (hp : ∀ j, j < n → posts j = nI (F j)) (hlt : ∀ j, j < n → F j < n) (hi : ∀ i j, i < n → j < n → F i = F j → i = j) : f_X2_costOf (nI n) weights near behind (nI n) posts (nI c) = some (nI (costN c n rN (rdQ rd) pr F)) := by
  unfold costN
  by_cases h : c = 0 ∨ c = 4
  · rw [if_pos h]
    exact costC_span hx hv.1 h hp hlt
  · rw [if_neg h]
    exact costC_set hx hv hc h hp hlt hi
theorem costM_n {n c : Nat} {F : Nat → Nat} {wide places weights pair row : Nat → Int32} {rN : Nat → Nat → Nat} (hx : Cx n (rdM wide places weights) rN) (hc : c ≤ 5) (hp : ∀ j, j < n → row j = nI (F j)) (hlt : ∀ j, j < n → F j < n) (hi : ∀ i j, i < n → j < n → F i = F j → i = j) : f_X11_costOfRow (nI n) (nI n) wide places weights pair row (nI c) = some (nI (costN c n rN (rdQ (rdM wide places weights)) (prQ pair) F)) := by
  unfold costN
  by_cases h : c = 0 ∨ c = 4
  · rw [if_pos h]
    exact costM_span hx h hp hlt
  · rw [if_neg h]
    exact costM_set hx (by omega) hp hlt hi
theorem isCost_n (x : Int32) : (∃ c, c ≤ 5 ∧ x = nI c ∧ f_X10_isCost x = some 1 ∧ f_X11_isCost x = some 1) ∨ (f_X10_isCost x = some 0 ∧ f_X11_isCost x = some 0 ∧ (x < 0 ∨ nI 5 < x)) := by
  have h5 : f_X11_in x (0 : Int32) (5 : Int32) = _ := in_gen (x := x) (v := 5) (by omega)
  unfold f_X10_isCost f_X11_isCost
  rw [h5]
  by_cases h : x < 0 ∨ nI 5 < x
  · refine Or.inr ⟨?_, ?_, h⟩
    · by_cases h0 : x < 0
      · rw [if_pos h0]
      · rw [if_neg h0, if_pos (show (5 : Int32) < x from h.resolve_left h0)]
    · rw [if_pos h]
      show (bz 0).bind _ = _
      rw [bz0]; rfl
  · have h0 : ¬ x < 0 := fun q => h (Or.inl q)
    have h1 : ¬ nI 5 < x := fun q => h (Or.inr q)
    obtain ⟨c, hc, rfl⟩ := nI_upto (by omega) h0 h1
    refine Or.inl ⟨c, hc, rfl, ?_, ?_⟩
    · rw [if_neg h0, if_neg (show ¬ (5 : Int32) < nI c from h1)]
    · rw [if_neg h]
      show (bz 1).bind _ = _
      rw [bz1]; rfl
theorem l2_cost (x_x_net_posts : Int32) (x_x_net_pairs : Int32) (x_x_net_widths : Nat → Int32) (x_x_net_lengths : Nat → Int32) (x_x_net_told : Nat → Int32) (x_x_net_behind : Nat → Int32) (x_x_view_posts : Int32) (x_x_view_roads : Int32) (x_x_view_weight : Int32) (x_x_view_weights : Nat → Int32) (x_x_view_near : Nat → Int32) (x_x_view_behind : Nat → Int32) (x_x_view_ahead : Nat → Int32) (x_x_history_oldest : Int32) (x_x_history_size : Int32) (x_x_history_kept_posts : Nat → Int32) (x_x_history_kept_pairs : Nat → Int32) (x_x_history_kept_widths : Nat → Nat → Int32) (x_x_history_kept_lengths : Nat → Nat → Int32) (x_x_history_kept_told : Nat → Nat → Int32) (x_x_history_kept_behind : Nat → Nat → Int32) (x_x_hand_size : Int32) (x_x_hand_posts : Nat → Int32) (x_x_trial_size : Int32) (x_x_trial_posts : Nat → Int32) (x_x_bags_size : Int32) (x_x_bags_sets : Nat → Int32) (x_x_chase_size : Int32) (x_x_chase_guarded : Int32) (x_x_chase_most : Int32) (x_x_chase_again : Int32) (x_x_chase_idle : Int32) (x_x_chase_moves : Nat → Int32) (x_x_chase_foul : Nat → Int32) (x_x_sets_solvedFor : Int32) (x_x_sets_lowest : Int32) (x_x_sets_total : Int32) (x_x_sets_pricedFor : Int32) (x_x_sets_prices : Nat → Int32) (x_x_sets_rests : Nat → Int32) (x_x_sets_ways : Nat → Int32) (x_x_trials_solvedFor : Int32) (x_x_trials_lowest : Int32) (x_x_trials_total : Int32) (x_x_trials_found : Nat → Int32) (x_x_trials_row_size : Int32) (x_x_trials_row_posts : Nat → Int32) (x_m_thrown : Int32) (x_m_posts : Int32) (x_m_pairs : Int32) (x_m_keptEnd : Int32) (x_m_kept : Int32) (x_m_many : Int32) (x_m_bags : Int32) (x_m_moves : Int32) (x_m_pen : Int32) (x_m_savedMany : Int32) (x_m_leastRow : Int32) (x_m_bestRows : Int32) (x_m_askedRow : Int32) (x_m_rankOfSaved : Int32) (x_m_wallSet : Int32) (x_m_fouledAgain : Int32) (x_m_wide : Nat → Int32) (x_m_places : Nat → Int32) (x_m_weights : Nat → Int32) (x_m_pair : Nat → Int32) (x_m_old : Nat → Int32) (x_m_row : Nat → Int32) (x_m_bag : Nat → Int32) (x_m_hunt : Nat → Int32) (x_m_behind : Nat → Int32) (x_m_least : Nat → Int32) (x_m_ways : Nat → Int32) (x_m_saved : Nat → Int32) (x_m_kth : Nat → Int32) (x_m_clean : Nat → Int32) (a1 : Int32) (h : Rel x_x_net_posts x_x_net_pairs x_x_net_widths x_x_net_lengths x_x_net_told x_x_net_behind x_x_view_posts x_x_view_roads x_x_view_weight x_x_view_weights x_x_view_near x_x_view_behind x_x_view_ahead x_x_history_oldest x_x_history_size x_x_history_kept_posts x_x_history_kept_pairs x_x_history_kept_widths x_x_history_kept_lengths x_x_history_kept_told x_x_history_kept_behind x_x_hand_size x_x_hand_posts x_x_trial_size x_x_trial_posts x_x_bags_size x_x_bags_sets x_x_chase_size x_x_chase_guarded x_x_chase_most x_x_chase_again x_x_chase_idle x_x_chase_moves x_x_chase_foul x_x_sets_solvedFor x_x_sets_lowest x_x_sets_total x_x_sets_pricedFor x_x_sets_prices x_x_sets_rests x_x_sets_ways x_x_trials_solvedFor x_x_trials_lowest x_x_trials_total x_x_trials_found x_x_trials_row_size x_x_trials_row_posts x_m_thrown x_m_posts x_m_pairs x_m_keptEnd x_m_kept x_m_many x_m_bags x_m_moves x_m_pen x_m_savedMany x_m_leastRow x_m_bestRows x_m_askedRow x_m_rankOfSaved x_m_wallSet x_m_fouledAgain x_m_wide x_m_places x_m_weights x_m_pair x_m_old x_m_row x_m_bag x_m_hunt x_m_behind x_m_least x_m_ways x_m_saved x_m_kth x_m_clean) : ∃ (r : Int32) (o_m_thrown : Int32), f_X10_cost x_x_net_posts x_x_view_posts x_x_view_weights x_x_view_near x_x_view_behind x_x_hand_size x_x_hand_posts a1 = some r ∧ f_X11_cost x_m_thrown x_m_posts x_m_many x_m_wide x_m_places x_m_weights x_m_pair x_m_row a1 = some (r, o_m_thrown) ∧ Rel x_x_net_posts x_x_net_pairs x_x_net_widths x_x_net_lengths x_x_net_told x_x_net_behind x_x_view_posts x_x_view_roads x_x_view_weight x_x_view_weights x_x_view_near x_x_view_behind x_x_view_ahead x_x_history_oldest x_x_history_size x_x_history_kept_posts x_x_history_kept_pairs x_x_history_kept_widths x_x_history_kept_lengths x_x_history_kept_told x_x_history_kept_behind x_x_hand_size x_x_hand_posts x_x_trial_size x_x_trial_posts x_x_bags_size x_x_bags_sets x_x_chase_size x_x_chase_guarded x_x_chase_most x_x_chase_again x_x_chase_idle x_x_chase_moves x_x_chase_foul x_x_sets_solvedFor x_x_sets_lowest x_x_sets_total x_x_sets_pricedFor x_x_sets_prices x_x_sets_rests x_x_sets_ways x_x_trials_solvedFor x_x_trials_lowest x_x_trials_total x_x_trials_found x_x_trials_row_size x_x_trials_row_posts o_m_thrown x_m_posts x_m_pairs x_m_keptEnd x_m_kept x_m_many x_m_bags x_m_moves x_m_pen x_m_savedMany x_m_leastRow x_m_bestRows x_m_askedRow x_m_rankOfSaved x_m_wallSet x_m_fouledAgain x_m_wide x_m_places x_m_weights x_m_pair x_m_old x_m_row x_m_bag x_m_hunt x_m_behind x_m_least x_m_ways x_m_saved x_m_kth x_m_clean := by
  obtain ⟨n, h1, h2, h3, h4, h5, h6, h7, h8⟩ := h
  have hn : n ≤ 11 := h1.1
  have ep := h1.2.1
  have em := h1.2.2.1
  subst ep
  subst em
  have d10 : ¬ (1 : Int32) = 0 := by decide
  have ev := h2.1
  rcases isCost_n a1 with ⟨c, hc, rfl, p1, p2⟩ | ⟨p1, p2, -⟩
  · obtain ⟨k, F, hk, e1, e2, e3, e4, e5⟩ := RowR_nums h4
    cases hw : (decide (k = n) && allLt F n k) with
    | false =>
      refine ⟨(-4 : Int32), 0, ?_, ?_, Rel_mk h1 h2 h3 h4 h5 h6 h7 h8⟩
      · unfold f_X10_cost
        rw [p1, e1, isWholeC_n hk hn e3, hw]
        rfl
      · unfold f_X11_cost
        rw [p2, e2, isWholeM_n hk hn e4 e5, hw]
        rfl
    | true =>
      have hw2 := hw
      rw [Bool.and_eq_true, decide_eq_true_eq, allLt_iff] at hw2
      obtain ⟨hkn, hlt⟩ := hw2
      subst hkn
      refine ⟨nI (costN c k (fun x y => (rdM x_m_wide x_m_places x_m_weights x y).toNatClampNeg) (rdQ (rdM x_m_wide x_m_places x_m_weights)) (prQ x_m_pair) F), 0, ?_, ?_, Rel_mk h1 h2 h3 h4 h5 h6 h7 h8⟩
      · unfold f_X10_cost
        rw [p1, e1, isWholeC_n hk hn e3, hw, ev, costC_n (Cx_of h1) (VC_of hn h2 (NetR_pr h1)) hc (fun j hj => (e3 j hj).1) hlt e5]
        rfl
      · unfold f_X11_cost
        rw [p2, e2, isWholeM_n hk hn e4 e5, hw, costM_n (Cx_of h1) hc (fun j hj => (e4 j hj).1) hlt e5]
        rfl
  · refine ⟨(-3 : Int32), 0, ?_, ?_, Rel_mk h1 h2 h3 h4 h5 h6 h7 h8⟩
    · unfold f_X10_cost
      rw [p1]
      rfl
    · unfold f_X11_cost
      rw [p2]
      rfl
