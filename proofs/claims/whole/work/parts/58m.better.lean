/-! LAYER 2: better -/
def lawB (q : Nat → Nat → Bool) (F : Nat → Nat) (n : Nat) : Bool := decide (∀ i, i < n → allAhead q (setM F i) (F i) n = true)
theorem keepsB_n {ahead posts : Nat → Int32} {F : Nat → Nat} {n : Nat} {q : Nat → Nat → Bool} (hn : n ≤ 11) (hp : ∀ j, j < n → posts j = nI (F j)) (hlt : ∀ j, j < n → F j < n) (ha : ∀ b, b < 11 → ahead b = nI (mkB (fun a => q a b) 11)) (hq : ∀ a b, a < 11 → b < 11 → q a b = true → a < n ∧ b < n) : f_X9_keepsPairs ahead (nI n) posts = some (b2I (lawB q F n)) := by
  obtain ⟨v, hv, hv2⟩ := keepsPairs_n (F := F) (k := n) hn hn (fun j hj => ⟨hp j hj, by have := hlt j hj; omega⟩) ha hq
  rw [hv]
  unfold lawB
  rcases hv2 with ⟨rfl, h⟩ | ⟨rfl, i, h1, h2⟩
  · rw [decide_eq_true h]
    rfl
  · rw [decide_eq_false (fun h => by rw [h i h1] at h2; cases h2)]
    rfl
theorem lawfulB_n {pair row : Nat → Int32} {F : Nat → Nat} {n : Nat} (hn : n ≤ 11) (hp : ∀ j, j < n → row j = nI (F j)) (hlt : ∀ j, j < n → F j < n) (hi : ∀ i j, i < n → j < n → F i = F j → i = j) (hirr : ∀ a, a < n → prQ pair a a = false) : f_X11_isLawful (nI n) pair row = some (b2I (lawB (prQ pair) F n)) := by
  obtain ⟨v, hv, hv2⟩ := isLawful_n (pair := pair) (F := F) (k := n) hn (fun j hj => ⟨hp j hj, by have := hlt j hj; omega⟩)
  rw [hv]
  unfold lawB
  have hs := law_same (q := prQ pair) hlt hi hirr
  rcases hv2 with ⟨rfl, h⟩ | ⟨rfl, h⟩
  · rw [decide_eq_true (hs.mp h)]
    rfl
  · rw [decide_eq_false (fun h2 => h (hs.mpr h2))]
    rfl
theorem srcM_inv (a b j : Nat) : srcM a b (srcM b a j) = j := by
  unfold srcM
  repeat' split
  all_goals omega
theorem srcM_id (a j : Nat) : srcM a a j = j := by
  unfold srcM
  repeat' split
  all_goals omega
theorem mvM_back (f : Nat → Int32) (a b : Nat) : mvM (mvM f a b) b a = f := by
  funext j
  rw [mvM_src, mvM_src, srcM_inv]
def mvF (F : Nat → Nat) (a b : Nat) : Nat → Nat := fun j => F (srcM a b j)
theorem mvF_lt {F : Nat → Nat} {n a b : Nat} (hlt : ∀ j, j < n → F j < n) (ha : a < n) (hb : b < n) : ∀ j, j < n → mvF F a b j < n := fun _ hj => hlt _ (srcM_lt ha hb hj)
theorem mvF_inj {F : Nat → Nat} {n a b : Nat} (hi : ∀ i j, i < n → j < n → F i = F j → i = j) (ha : a < n) (hb : b < n) : ∀ i j, i < n → j < n → mvF F a b i = mvF F a b j → i = j := fun _ _ h1 h2 h3 => srcM_inj (hi _ _ (srcM_lt ha hb h1) (srcM_lt ha hb h2) h3)
theorem mvF_id (F : Nat → Nat) (a : Nat) : mvF F a a = F := by
  funext j
  show F (srcM a a j) = F j
  rw [srcM_id]
theorem mvM_F {f : Nat → Int32} {F : Nat → Nat} {n a b : Nat} (hp : ∀ j, j < n → f j = nI (F j)) (ha : a < n) (hb : b < n) : ∀ j, j < n → mvM f a b j = nI (mvF F a b j) := fun j hj => by
  rw [mvM_src]
  exact hp _ (srcM_lt ha hb hj)
def bIn (ok : Nat → Nat → Bool) (v : Nat → Nat → Nat) (a : Nat) (st : Nat × Option (Nat × Nat)) : Nat → Nat × Option (Nat × Nat)
  | 0 => st
  | b + 1 => if ok a b && decide (v a b < (bIn ok v a st b).1) then (v a b, some (a, b)) else bIn ok v a st b
def bAll (ok : Nat → Nat → Bool) (v : Nat → Nat → Nat) (v0 n : Nat) : Nat → Nat × Option (Nat × Nat)
  | 0 => (v0, none)
  | a + 1 => bIn ok v a (bAll ok v v0 n a) n
theorem bIn_le {ok : Nat → Nat → Bool} {v : Nat → Nat → Nat} {a : Nat} {st : Nat × Option (Nat × Nat)} : ∀ {b : Nat}, (bIn ok v a st b).1 ≤ st.1
  | 0 => Nat.le_refl _
  | b + 1 => by
    have h := bIn_le (ok := ok) (v := v) (a := a) (st := st) (b := b)
    rw [bIn]
    split
    · rename_i hc
      rw [Bool.and_eq_true, decide_eq_true_eq] at hc
      exact Nat.le_trans (Nat.le_of_lt hc.2) h
    · exact h
theorem bAll_le {ok : Nat → Nat → Bool} {v : Nat → Nat → Nat} {v0 n : Nat} : ∀ {a : Nat}, (bAll ok v v0 n a).1 ≤ v0
  | 0 => Nat.le_refl _
  | a + 1 => Nat.le_trans bIn_le bAll_le
theorem bIn_same {ok ok2 : Nat → Nat → Bool} {v : Nat → Nat → Nat} {a v0 : Nat} {st : Nat × Option (Nat × Nat)} (hst : st.1 ≤ v0) (hv : v a a = v0) (h : ∀ b, b ≠ a → ok2 a b = ok a b) (hf : ok2 a a = false) : ∀ {b : Nat}, bIn ok v a st b = bIn ok2 v a st b
  | 0 => rfl
  | b + 1 => by
    rw [bIn, bIn, bIn_same hst hv h hf (b := b)]
    by_cases hb : b = a
    · subst hb
      have := bIn_le (ok := ok2) (v := v) (a := b) (st := st) (b := b)
      rw [hf, Bool.false_and, decide_eq_false (by omega), Bool.and_false]
    · rw [h b hb]
theorem bAll_same {ok ok2 : Nat → Nat → Bool} {v : Nat → Nat → Nat} {v0 n : Nat} (hv : ∀ a, v a a = v0) (h : ∀ a b, b ≠ a → ok2 a b = ok a b) (hf : ∀ a, ok2 a a = false) : ∀ {a : Nat}, bAll ok v v0 n a = bAll ok2 v v0 n a
  | 0 => rfl
  | a + 1 => by
    rw [bAll, bAll, bAll_same hv h hf (a := a)]
    exact bIn_same bAll_le (hv a) (h a) (hf a)
def eF : Option (Nat × Nat) → Int32
  | none => (-1 : Int32)
  | some (a, _) => nI a
def eT : Option (Nat × Nat) → Int32
  | none => (-1 : Int32)
  | some (_, b) => nI b
theorem bIn_in {ok : Nat → Nat → Bool} {v : Nat → Nat → Nat} {a n : Nat} {st : Nat × Option (Nat × Nat)} (ha : a < n) (h : ∀ x y, st.2 = some (x, y) → x < n ∧ y < n) : ∀ {b : Nat}, b ≤ n → ∀ x y, (bIn ok v a st b).2 = some (x, y) → x < n ∧ y < n
  | 0, _ => h
  | b + 1, hb => by
    intro x y
    rw [bIn]
    split
    · intro hxy
      cases hxy
      exact ⟨ha, by omega⟩
    · exact bIn_in ha h (by omega) x y
theorem bAll_in {ok : Nat → Nat → Bool} {v : Nat → Nat → Nat} {v0 n : Nat} : ∀ {a : Nat}, a ≤ n → ∀ x y, (bAll ok v v0 n a).2 = some (x, y) → x < n ∧ y < n
  | 0, _ => fun x y h => by cases h
  | a + 1, ha => bIn_in (by omega) (bAll_in (by omega)) (Nat.le_refl n)
theorem takeFromRow_n {s s1 : Int32} {p p1 : Nat → Int32} : f_X5_takeFrom s p s1 p1 = some (s1, cp0 p1 p 11) := by
  unfold f_X5_takeFrom
  rw [show cp p1 11 p 11 (0 : Int32) (0 : Int32) (11 : Int32) = some (cp0 p1 p 11) from cp_n (a := 0) (b := 0) (k := 11) (by omega) (by omega) (by omega) (by omega)]
  rfl
section BETTER
variable {n c : Nat} {rN : Nat → Nat → Nat} {rd : Nat → Nat → Int32} {pr : Nat → Nat → Bool} {weights near behind ahead posts : Nat → Int32} {F : Nat → Nat}
theorem costWithMove_n (hx : Cx n rd rN) (hv : VC n rd pr weights near behind) (hah : ∀ b, b < 11 → ahead b = nI (mkB (fun a => pr a b) 11)) (hq : ∀ a b, a < 11 → b < 11 → pr a b = true → a < n ∧ b < n) (hc : c ≤ 5) (hp : ∀ j, j < n → posts j = nI (F j)) (hlt : ∀ j, j < n → F j < n) (hi : ∀ i j, i < n → j < n → F i = F j → i = j) {a b : Nat} (ha : a < n) (hb : b < n) (ts : Int32) (tp : Nat → Int32) : f_X10_costWithMove (nI n) weights near behind ahead (nI n) posts ts tp (nI c) (nI a) (nI b) = some ((if lawB pr (mvF F a b) n then nI (costN c n rN (rdQ rd) pr (mvF F a b)) else (1073741824 : Int32)), nI n, mvM (cp0 posts tp 11) a b) := by
  have hn := hx.1
  have hp2 : ∀ j, j < n → mvM (cp0 posts tp 11) a b j = nI (mvF F a b j) := mvM_F (fun j hj => by rw [cp0_lt (by omega)]; exact hp j hj) ha hb
  unfold f_X10_costWithMove
  rw [takeFromRow_n]
  simp only [b2, Option.bind_some]
  rw [shiftC_n (by omega) (by omega)]
  simp only [Option.bind_some]
  rw [keepsB_n hn hp2 (mvF_lt hlt ha hb) hah hq]
  simp only [Option.bind_some]
  cases lawB pr (mvF F a b) n with
  | false => rfl
  | true =>
    show (if (1 : Int32) = 0 then _ else _) = _
    rw [if_neg (by decide), costC_n hx hv hc hp2 (mvF_lt hlt ha hb) (mvF_inj hi ha hb)]
    rfl
theorem improveIn_n (hx : Cx n rd rN) (hv : VC n rd pr weights near behind) (hah : ∀ b, b < 11 → ahead b = nI (mkB (fun a => pr a b) 11)) (hq : ∀ a b, a < 11 → b < 11 → pr a b = true → a < n ∧ b < n) (hc : c ≤ 5) (hp : ∀ j, j < n → posts j = nI (F j)) (hlt : ∀ j, j < n → F j < n) (hi : ∀ i j, i < n → j < n → F i = F j → i = j) {a : Nat} (ha : a < n) {st : Nat × Option (Nat × Nat)} (hst : st.1 ≤ 2662001) (ts : Int32) (tp : Nat → Int32) : ∃ x, loopS (fun (s : Int32 × Int32 × Int32 × Int32 × Int32 × (Nat → Int32)) => f_X10_improve_L36 (nI c) (nI a) (nI n) weights near behind ahead (nI n) posts s.1 s.2.1 s.2.2.1 s.2.2.2.1 s.2.2.2.2.1 s.2.2.2.2.2) (nI st.1, eF st.2, eT st.2, (0 : Int32), ts, tp) = some x ∧ x.1 = nI (bIn (fun a b => lawB pr (mvF F a b) n) (fun a b => costN c n rN (rdQ rd) pr (mvF F a b)) a st n).1 ∧ x.2.1 = eF (bIn (fun a b => lawB pr (mvF F a b) n) (fun a b => costN c n rN (rdQ rd) pr (mvF F a b)) a st n).2 ∧ x.2.2.1 = eT (bIn (fun a b => lawB pr (mvF F a b) n) (fun a b => costN c n rN (rdQ rd) pr (mvF F a b)) a st n).2 := by
  have hn := hx.1
  refine loop_inv (fun b (s : Int32 × Int32 × Int32 × Int32 × Int32 × (Nat → Int32)) => s.1 = nI (bIn (fun a b => lawB pr (mvF F a b) n) (fun a b => costN c n rN (rdQ rd) pr (mvF F a b)) a st b).1 ∧ s.2.1 = eF (bIn (fun a b => lawB pr (mvF F a b) n) (fun a b => costN c n rN (rdQ rd) pr (mvF F a b)) a st b).2 ∧ s.2.2.1 = eT (bIn (fun a b => lawB pr (mvF F a b) n) (fun a b => costN c n rN (rdQ rd) pr (mvF F a b)) a st b).2 ∧ s.2.2.2.1 = nI b) (fun (x : Int32 × Int32 × Int32 × Int32 × (Nat → Int32)) => x.1 = nI (bIn (fun a b => lawB pr (mvF F a b) n) (fun a b => costN c n rN (rdQ rd) pr (mvF F a b)) a st n).1 ∧ x.2.1 = eF (bIn (fun a b => lawB pr (mvF F a b) n) (fun a b => costN c n rN (rdQ rd) pr (mvF F a b)) a st n).2 ∧ x.2.2.1 = eT (bIn (fun a b => lawB pr (mvF F a b) n) (fun a b => costN c n rN (rdQ rd) pr (mvF F a b)) a st n).2) n ?_ ?_ ⟨rfl, rfl, rfl, nI_0.symm⟩
  · rintro b ⟨s1, s2, s3, s4, s5, s6⟩ hb ⟨i1, i2, i3, i4⟩
    dsimp only at i1 i2 i3 i4 ⊢
    subst i1 i2 i3 i4
    have hle := bIn_le (ok := fun a b => lawB pr (mvF F a b) n) (v := fun a b => costN c n rN (rdQ rd) pr (mvF F a b)) (a := a) (st := st) (b := b)
    have hcl := costN_le (c := c) (qr := rdQ rd) (pr := pr) hx (mvF_lt hlt ha hb)
    unfold f_X10_improve_L36
    rw [if_neg (nI_ge hb (by omega)), costWithMove_n hx hv hah hq hc hp hlt hi ha hb s5 s6, nI_1]
    simp only [b3, Option.bind_some]
    rw [bIn]
    generalize bIn (fun a b => lawB pr (mvF F a b) n) (fun a b => costN c n rN (rdQ rd) pr (mvF F a b)) a st b = X at hle ⊢
    cases hl : lawB pr (mvF F a b) n with
    | false =>
      rw [if_neg (by decide : ¬ false = true), if_pos (show nI X.1 ≤ (1073741824 : Int32) from nI_le (b := 1073741824) (by omega) (by decide))]
      exact ⟨_, rfl, rfl, rfl, rfl, rfl⟩
    | true =>
      by_cases hlt2 : costN c n rN (rdQ rd) pr (mvF F a b) < X.1
      · rw [if_pos rfl, if_neg (nI_ge hlt2 (by omega)), decide_eq_true hlt2]
        exact ⟨_, rfl, rfl, rfl, rfl, rfl⟩
      · rw [if_pos rfl, if_pos (nI_le (by omega) (by omega)), decide_eq_false hlt2]
        exact ⟨_, rfl, rfl, rfl, rfl, rfl⟩
  · rintro ⟨s1, s2, s3, s4, s5, s6⟩ ⟨i1, i2, i3, i4⟩
    dsimp only at i1 i2 i3 i4 ⊢
    subst i1 i2 i3 i4
    unfold f_X10_improve_L36
    rw [if_pos (nI_le (Nat.le_refl n) (by omega))]
    exact ⟨_, rfl, rfl, rfl, rfl⟩
def bestMv (c n : Nat) (rN : Nat → Nat → Nat) (qr pr : Nat → Nat → Bool) (F : Nat → Nat) : Option (Nat × Nat) := (bAll (fun a b => lawB pr (mvF F a b) n) (fun a b => costN c n rN qr pr (mvF F a b)) (costN c n rN qr pr F) n n).2
theorem improve_n (hx : Cx n rd rN) (hv : VC n rd pr weights near behind) (hah : ∀ b, b < 11 → ahead b = nI (mkB (fun a => pr a b) 11)) (hq : ∀ a b, a < 11 → b < 11 → pr a b = true → a < n ∧ b < n) (hc : c ≤ 5) (hp : ∀ j, j < n → posts j = nI (F j)) (hlt : ∀ j, j < n → F j < n) (hi : ∀ i j, i < n → j < n → F i = F j → i = j) (ts : Int32) (tp : Nat → Int32) : ∃ ts2 tp2, f_X10_improve (nI n) weights near behind ahead (nI n) posts ts tp (nI c) = some (match bestMv c n rN (rdQ rd) pr F with
    | none => (0, posts, ts2, tp2)
    | some (a, b) => (1, mvM posts a b, ts2, tp2)) := by
  have hn := hx.1
  have hc0 := costN_le (c := c) (qr := rdQ rd) (pr := pr) hx hlt
  have h : ∃ x, loopS (fun (s : Int32 × Int32 × Int32 × Int32 × Int32 × (Nat → Int32)) => f_X10_improve_L21 (nI c) (nI n) weights near behind ahead (nI n) posts s.1 s.2.1 s.2.2.1 s.2.2.2.1 s.2.2.2.2.1 s.2.2.2.2.2) (nI (costN c n rN (rdQ rd) pr F), (-1 : Int32), (-1 : Int32), (0 : Int32), ts, tp) = some x ∧ x.1 = eF (bestMv c n rN (rdQ rd) pr F) ∧ x.2.1 = eT (bestMv c n rN (rdQ rd) pr F) := by
    refine loop_inv (fun a (s : Int32 × Int32 × Int32 × Int32 × Int32 × (Nat → Int32)) => s.1 = nI (bAll (fun a b => lawB pr (mvF F a b) n) (fun a b => costN c n rN (rdQ rd) pr (mvF F a b)) (costN c n rN (rdQ rd) pr F) n a).1 ∧ s.2.1 = eF (bAll (fun a b => lawB pr (mvF F a b) n) (fun a b => costN c n rN (rdQ rd) pr (mvF F a b)) (costN c n rN (rdQ rd) pr F) n a).2 ∧ s.2.2.1 = eT (bAll (fun a b => lawB pr (mvF F a b) n) (fun a b => costN c n rN (rdQ rd) pr (mvF F a b)) (costN c n rN (rdQ rd) pr F) n a).2 ∧ s.2.2.2.1 = nI a) (fun (x : Int32 × Int32 × Int32 × (Nat → Int32)) => x.1 = eF (bestMv c n rN (rdQ rd) pr F) ∧ x.2.1 = eT (bestMv c n rN (rdQ rd) pr F)) n ?_ ?_ ⟨rfl, rfl, rfl, nI_0.symm⟩
    · rintro a ⟨s1, s2, s3, s4, s5, s6⟩ ha ⟨i1, i2, i3, i4⟩
      dsimp only at i1 i2 i3 i4 ⊢
      subst i1 i2 i3 i4
      have hle := bAll_le (ok := fun a b => lawB pr (mvF F a b) n) (v := fun a b => costN c n rN (rdQ rd) pr (mvF F a b)) (v0 := costN c n rN (rdQ rd) pr F) (n := n) (a := a)
      obtain ⟨⟨x1, x2, x3, x4, x5⟩, g1, g2, g3, g4⟩ := improveIn_n hx hv hah hq hc hp hlt hi ha (st := bAll (fun a b => lawB pr (mvF F a b) n) (fun a b => costN c n rN (rdQ rd) pr (mvF F a b)) (costN c n rN (rdQ rd) pr F) n a) (by omega) s5 s6
      dsimp only at g2 g3 g4
      unfold f_X10_improve_L21
      rw [if_neg (nI_ge ha (by omega)), g1, nI_1]
      exact ⟨_, rfl, g2, g3, g4, rfl⟩
    · rintro ⟨s1, s2, s3, s4, s5, s6⟩ ⟨i1, i2, i3, i4⟩
      dsimp only at i1 i2 i3 i4 ⊢
      subst i1 i2 i3 i4
      unfold f_X10_improve_L21
      rw [if_pos (nI_le (Nat.le_refl n) (by omega))]
      exact ⟨_, rfl, rfl, rfl⟩
  obtain ⟨⟨x1, x2, x3, x4⟩, g1, g2, g3⟩ := h
  dsimp only at g2 g3
  refine ⟨x3, x4, ?_⟩
  unfold f_X10_improve
  rw [costC_n hx hv hc hp hlt hi]
  simp only [Option.bind_some]
  rw [g1]
  simp only [b4, Option.bind_some]
  rw [g2, g3]
  have hin := bAll_in (ok := fun a b => lawB pr (mvF F a b) n) (v := fun a b => costN c n rN (rdQ rd) pr (mvF F a b)) (v0 := costN c n rN (rdQ rd) pr F) (n := n) (Nat.le_refl n)
  cases hbm : bestMv c n rN (rdQ rd) pr F with
  | none =>
    rw [if_pos (show eF none = (-1 : Int32) from rfl)]
  | some ab =>
    obtain ⟨a, b⟩ := ab
    obtain ⟨ha, hb⟩ := hin a b hbm
    rw [if_neg (show ¬ eF (some (a, b)) = (-1 : Int32) from nI_m1 (by omega)), show eF (some (a, b)) = nI a from rfl, show eT (some (a, b)) = nI b from rfl, shiftC_n (by omega) (by omega)]
    rfl
end BETTER
section BETTERM
variable {n c : Nat} {rN : Nat → Nat → Nat} {wide places weights pair row : Nat → Int32} {F : Nat → Nat}
theorem betterIn_n (hx : Cx n (rdM wide places weights) rN) (hirr : ∀ a, a < n → prQ pair a a = false) (hc : c ≤ 5) (hp : ∀ j, j < n → row j = nI (F j)) (hlt : ∀ j, j < n → F j < n) (hi : ∀ i j, i < n → j < n → F i = F j → i = j) {a : Nat} (ha : a < n) {st : Nat × Option (Nat × Nat)} (hst : st.1 ≤ 2662001) : loopS (fun (s : Int32 × Int32 × Int32 × Int32 × (Nat → Int32)) => f_X11_betterOnce_L26 (nI c) (nI a) (nI n) (nI n) wide places weights pair s.1 s.2.1 s.2.2.1 s.2.2.2.1 s.2.2.2.2) (nI st.1, eF st.2, eT st.2, (0 : Int32), row) = some (nI (bIn (fun a b => decide (a ≠ b) && lawB (prQ pair) (mvF F a b) n) (fun a b => costN c n rN (rdQ (rdM wide places weights)) (prQ pair) (mvF F a b)) a st n).1, eF (bIn (fun a b => decide (a ≠ b) && lawB (prQ pair) (mvF F a b) n) (fun a b => costN c n rN (rdQ (rdM wide places weights)) (prQ pair) (mvF F a b)) a st n).2, eT (bIn (fun a b => decide (a ≠ b) && lawB (prQ pair) (mvF F a b) n) (fun a b => costN c n rN (rdQ (rdM wide places weights)) (prQ pair) (mvF F a b)) a st n).2, row) := by
  have hn := hx.1
  refine loop_go (fun b => (nI (bIn (fun a b => decide (a ≠ b) && lawB (prQ pair) (mvF F a b) n) (fun a b => costN c n rN (rdQ (rdM wide places weights)) (prQ pair) (mvF F a b)) a st b).1, eF (bIn (fun a b => decide (a ≠ b) && lawB (prQ pair) (mvF F a b) n) (fun a b => costN c n rN (rdQ (rdM wide places weights)) (prQ pair) (mvF F a b)) a st b).2, eT (bIn (fun a b => decide (a ≠ b) && lawB (prQ pair) (mvF F a b) n) (fun a b => costN c n rN (rdQ (rdM wide places weights)) (prQ pair) (mvF F a b)) a st b).2, nI b, row)) n rfl (fun b hb => ?_) ?_
  · try dsimp only
    have hle := bIn_le (ok := fun a b => decide (a ≠ b) && lawB (prQ pair) (mvF F a b) n) (v := fun a b => costN c n rN (rdQ (rdM wide places weights)) (prQ pair) (mvF F a b)) (a := a) (st := st) (b := b)
    have hcl := costN_le (c := c) (qr := rdQ (rdM wide places weights)) (pr := prQ pair) hx (mvF_lt hlt ha hb)
    have hp2 : ∀ j, j < n → mvM row a b j = nI (mvF F a b j) := mvM_F hp ha hb
    unfold f_X11_betterOnce_L26
    rw [if_neg (nI_ge hb (by omega)), shiftM_n (by omega) (by omega), nI_1]
    simp only [Option.bind_some]
    rw [shiftM_n (by omega) (by omega), mvM_back, lawfulB_n hn hp2 (mvF_lt hlt ha hb) (mvF_inj hi ha hb) hirr, costM_n hx hc hp2 (mvF_lt hlt ha hb) (mvF_inj hi ha hb)]
    simp only [b3, Option.bind_some]
    rw [bIn]
    generalize bIn (fun a b => decide (a ≠ b) && lawB (prQ pair) (mvF F a b) n) (fun a b => costN c n rN (rdQ (rdM wide places weights)) (prQ pair) (mvF F a b)) a st b = X at hle ⊢
    by_cases hab : a = b
    · rw [if_pos (by rw [hab]), decide_eq_false (fun q => q hab)]
      rfl
    · rw [if_neg (fun q => hab ((nI_eq (by omega) (by omega)).mp q)), decide_eq_true hab]
      cases hl : lawB (prQ pair) (mvF F a b) n with
      | false => rfl
      | true =>
        show ((if (1 : Int32) = 0 then _ else _ : Option (Int32 × Int32 × Int32))).bind _ = _
        rw [if_neg (by decide)]
        by_cases hlt2 : costN c n rN (rdQ (rdM wide places weights)) (prQ pair) (mvF F a b) < X.1
        · rw [if_neg (nI_ge hlt2 (by omega)), decide_eq_true hlt2]
          rfl
        · rw [if_pos (nI_le (by omega) (by omega)), decide_eq_false hlt2]
          rfl
  · try dsimp only
    unfold f_X11_betterOnce_L26
    rw [if_pos (nI_le (Nat.le_refl n) (by omega))]
theorem betterOnce_n (hx : Cx n (rdM wide places weights) rN) (hirr : ∀ a, a < n → prQ pair a a = false) (hc : c ≤ 5) (hp : ∀ j, j < n → row j = nI (F j)) (hlt : ∀ j, j < n → F j < n) (hi : ∀ i j, i < n → j < n → F i = F j → i = j) : f_X11_betterOnce (nI n) (nI n) wide places weights pair row (nI c) = some (match bestMv c n rN (rdQ (rdM wide places weights)) (prQ pair) F with
    | none => (0, row)
    | some (a, b) => (1, mvM row a b)) := by
  have hn := hx.1
  have hc0 := costN_le (c := c) (qr := rdQ (rdM wide places weights)) (pr := prQ pair) hx hlt
  have hsame : bestMv c n rN (rdQ (rdM wide places weights)) (prQ pair) F = (bAll (fun a b => decide (a ≠ b) && lawB (prQ pair) (mvF F a b) n) (fun a b => costN c n rN (rdQ (rdM wide places weights)) (prQ pair) (mvF F a b)) (costN c n rN (rdQ (rdM wide places weights)) (prQ pair) F) n n).2 := by
    unfold bestMv
    rw [bAll_same (ok2 := fun a b => decide (a ≠ b) && lawB (prQ pair) (mvF F a b) n) (fun a => by show costN _ _ _ _ _ (mvF F a a) = _; rw [mvF_id]) (fun a b hab => by show (decide (a ≠ b) && _) = _; rw [decide_eq_true (show a ≠ b from fun q => hab q.symm)]; rfl) (fun a => by show (decide (a ≠ a) && _) = _; rw [decide_eq_false (show ¬ a ≠ a from fun q => q rfl)]; rfl)]
  have h : loopS (fun (s : Int32 × Int32 × Int32 × Int32 × (Nat → Int32)) => f_X11_betterOnce_L14 (nI c) (nI n) (nI n) wide places weights pair s.1 s.2.1 s.2.2.1 s.2.2.2.1 s.2.2.2.2) (nI (costN c n rN (rdQ (rdM wide places weights)) (prQ pair) F), (-1 : Int32), (-1 : Int32), (0 : Int32), row) = some (eF (bestMv c n rN (rdQ (rdM wide places weights)) (prQ pair) F), eT (bestMv c n rN (rdQ (rdM wide places weights)) (prQ pair) F), row) := by
    rw [hsame]
    refine loop_go (fun a => (nI (bAll (fun a b => decide (a ≠ b) && lawB (prQ pair) (mvF F a b) n) (fun a b => costN c n rN (rdQ (rdM wide places weights)) (prQ pair) (mvF F a b)) (costN c n rN (rdQ (rdM wide places weights)) (prQ pair) F) n a).1, eF (bAll (fun a b => decide (a ≠ b) && lawB (prQ pair) (mvF F a b) n) (fun a b => costN c n rN (rdQ (rdM wide places weights)) (prQ pair) (mvF F a b)) (costN c n rN (rdQ (rdM wide places weights)) (prQ pair) F) n a).2, eT (bAll (fun a b => decide (a ≠ b) && lawB (prQ pair) (mvF F a b) n) (fun a b => costN c n rN (rdQ (rdM wide places weights)) (prQ pair) (mvF F a b)) (costN c n rN (rdQ (rdM wide places weights)) (prQ pair) F) n a).2, nI a, row)) n rfl (fun a ha => ?_) ?_
    · try dsimp only
      have hle := bAll_le (ok := fun a b => decide (a ≠ b) && lawB (prQ pair) (mvF F a b) n) (v := fun a b => costN c n rN (rdQ (rdM wide places weights)) (prQ pair) (mvF F a b)) (v0 := costN c n rN (rdQ (rdM wide places weights)) (prQ pair) F) (n := n) (a := a)
      unfold f_X11_betterOnce_L14
      rw [if_neg (nI_ge ha (by omega)), betterIn_n hx hirr hc hp hlt hi ha (by omega), nI_1]
      rfl
    · try dsimp only
      unfold f_X11_betterOnce_L14
      rw [if_pos (nI_le (Nat.le_refl n) (by omega))]
  unfold f_X11_betterOnce
  rw [costM_n hx hc hp hlt hi]
  simp only [Option.bind_some]
  rw [h]
  simp only [b3, Option.bind_some]
  have hin := bAll_in (ok := fun a b => lawB (prQ pair) (mvF F a b) n) (v := fun a b => costN c n rN (rdQ (rdM wide places weights)) (prQ pair) (mvF F a b)) (v0 := costN c n rN (rdQ (rdM wide places weights)) (prQ pair) F) (n := n) (Nat.le_refl n)
  cases hbm : bestMv c n rN (rdQ (rdM wide places weights)) (prQ pair) F with
  | none =>
    rw [if_pos (show eF none = (-1 : Int32) from rfl)]
  | some ab =>
    obtain ⟨a, b⟩ := ab
    obtain ⟨ha, hb⟩ := hin a b hbm
    rw [if_neg (show ¬ eF (some (a, b)) = (-1 : Int32) from nI_m1 (by omega)), show eF (some (a, b)) = nI a from rfl, show eT (some (a, b)) = nI b from rfl, shiftM_n (by omega) (by omega)]
    rfl
end BETTERM
/-- so many turns at most, made better -/
def btr (bm : (Nat → Nat) → Option (Nat × Nat)) : Nat → (Nat → Nat) → Nat × (Nat → Nat)
  | 0, F => (0, F)
  | m + 1, F => match bm F with
    | none => (0, F)
    | some (a, b) => ((btr bm m (mvF F a b)).1 + 1, (btr bm m (mvF F a b)).2)
theorem bestMv_in {c n : Nat} {rN : Nat → Nat → Nat} {qr pr : Nat → Nat → Bool} {F : Nat → Nat} {a b : Nat} (h : bestMv c n rN qr pr F = some (a, b)) : a < n ∧ b < n := bAll_in (Nat.le_refl n) a b h
theorem btr_perm {c n : Nat} {rN : Nat → Nat → Nat} {qr pr : Nat → Nat → Bool} : ∀ (m : Nat) {F : Nat → Nat}, (∀ j, j < n → F j < n) → (∀ i j, i < n → j < n → F i = F j → i = j) → (∀ j, j < n → (btr (bestMv c n rN qr pr) m F).2 j < n) ∧ ∀ i j, i < n → j < n → (btr (bestMv c n rN qr pr) m F).2 i = (btr (bestMv c n rN qr pr) m F).2 j → i = j
  | 0, F, h1, h2 => ⟨h1, h2⟩
  | m + 1, F, h1, h2 => by
    rw [btr]
    cases hb : bestMv c n rN qr pr F with
    | none => exact ⟨h1, h2⟩
    | some ab =>
      obtain ⟨a, b⟩ := ab
      obtain ⟨ha, hb2⟩ := bestMv_in hb
      exact btr_perm m (mvF_lt h1 ha hb2) (mvF_inj h2 ha hb2)
theorem betterC_n {n c : Nat} {rN : Nat → Nat → Nat} {rd : Nat → Nat → Int32} {pr : Nat → Nat → Bool} {weights near behind ahead : Nat → Int32} (hx : Cx n rd rN) (hv : VC n rd pr weights near behind) (hah : ∀ b, b < 11 → ahead b = nI (mkB (fun a => pr a b) 11)) (hq : ∀ a b, a < 11 → b < 11 → pr a b = true → a < n ∧ b < n) (hc : c ≤ 5) (T : Nat) (hT : T ≤ 60) : ∀ (m d : Nat), m + d = T → ∀ {F : Nat → Nat} {posts : Nat → Int32} (ts : Int32) (tp : Nat → Int32), (∀ j, j < n → posts j = nI (F j)) → (∀ j, j < n → F j < n) → (∀ i j, i < n → j < n → F i = F j → i = j) → ∃ ps ts2 tp2, loopS (fun (s : Int32 × (Nat → Int32) × Int32 × (Nat → Int32)) => f_X10_better_L43 (nI c) (nI T) (nI n) weights near behind ahead (nI n) s.1 s.2.1 s.2.2.1 s.2.2.2) (nI d, posts, ts, tp) = some (nI (d + (btr (bestMv c n rN (rdQ rd) pr) m F).1), ps, ts2, tp2) ∧ ∀ j, j < n → ps j = nI ((btr (bestMv c n rN (rdQ rd) pr) m F).2 j)
  | 0, d, hd, F, posts, ts, tp, hp, hlt, hi => by
    refine ⟨posts, ts, tp, ?_, hp⟩
    rw [loopS_eq]
    try dsimp only
    unfold f_X10_better_L43
    rw [if_pos (nI_le (by omega) (by omega))]
    rfl
  | m + 1, d, hd, F, posts, ts, tp, hp, hlt, hi => by
    obtain ⟨ts2, tp2, h1⟩ := improve_n hx hv hah hq hc hp hlt hi ts tp
    rw [loopS_eq]
    try dsimp only
    unfold f_X10_better_L43
    rw [if_neg (nI_ge (by omega) (by omega)), h1, btr]
    cases hb : bestMv c n rN (rdQ rd) pr F with
    | none => exact ⟨posts, ts2, tp2, rfl, hp⟩
    | some ab =>
      obtain ⟨a, b⟩ := ab
      obtain ⟨ha, hb2⟩ := bestMv_in hb
      obtain ⟨ps, ts3, tp3, g1, g2⟩ := betterC_n hx hv hah hq hc T hT m (d + 1) (by omega) (F := mvF F a b) (posts := mvM posts a b) ts2 tp2 (mvM_F hp ha hb2) (mvF_lt hlt ha hb2) (mvF_inj hi ha hb2)
      refine ⟨ps, ts3, tp3, ?_, g2⟩
      simp only [b4, Option.bind_some]
      rw [if_neg (show ¬ (1 : Int32) = 0 by decide), nI_1]
      simp only [Option.bind_some]
      refine Eq.trans g1 ?_
      rw [show d + 1 + (btr (bestMv c n rN (rdQ rd) pr) m (mvF F a b)).1 = d + ((btr (bestMv c n rN (rdQ rd) pr) m (mvF F a b)).1 + 1) by omega]
theorem betterM_n {n c : Nat} {rN : Nat → Nat → Nat} {wide places weights pair : Nat → Int32} (hx : Cx n (rdM wide places weights) rN) (hirr : ∀ a, a < n → prQ pair a a = false) (hc : c ≤ 5) (T : Nat) (hT : T ≤ 60) : ∀ (m d : Nat), m + d = T → ∀ {F : Nat → Nat} {row : Nat → Int32}, (∀ j, j < n → row j = nI (F j)) → (∀ j, j < n → F j < n) → (∀ i j, i < n → j < n → F i = F j → i = j) → ∃ ps, loopS (fun (s : Int32 × (Nat → Int32)) => f_X11_better_L37 (nI c) (nI T) (nI n) (nI n) wide places weights pair s.1 s.2) (nI d, row) = some (nI (d + (btr (bestMv c n rN (rdQ (rdM wide places weights)) (prQ pair)) m F).1), ps) ∧ ∀ j, j < n → ps j = nI ((btr (bestMv c n rN (rdQ (rdM wide places weights)) (prQ pair)) m F).2 j)
  | 0, d, hd, F, row, hp, hlt, hi => by
    refine ⟨row, ?_, hp⟩
    rw [loopS_eq]
    try dsimp only
    unfold f_X11_better_L37
    rw [if_pos (nI_le (by omega) (by omega))]
    rfl
  | m + 1, d, hd, F, row, hp, hlt, hi => by
    have h1 := betterOnce_n hx hirr hc hp hlt hi
    rw [loopS_eq]
    try dsimp only
    unfold f_X11_better_L37
    rw [if_neg (nI_ge (by omega) (by omega)), h1, btr]
    cases hb : bestMv c n rN (rdQ (rdM wide places weights)) (prQ pair) F with
    | none => exact ⟨row, rfl, hp⟩
    | some ab =>
      obtain ⟨a, b⟩ := ab
      obtain ⟨ha, hb2⟩ := bestMv_in hb
      obtain ⟨ps, g1, g2⟩ := betterM_n hx hirr hc T hT m (d + 1) (by omega) (F := mvF F a b) (row := mvM row a b) (mvM_F hp ha hb2) (mvF_lt hlt ha hb2) (mvF_inj hi ha hb2)
      refine ⟨ps, ?_, g2⟩
      simp only [b2, Option.bind_some]
      rw [if_neg (show ¬ (1 : Int32) = 0 by decide), nI_1]
      simp only [Option.bind_some]
      refine Eq.trans g1 ?_
      rw [show d + 1 + (btr (bestMv c n rN (rdQ (rdM wide places weights)) (prQ pair)) m (mvF F a b)).1 = d + ((btr (bestMv c n rN (rdQ (rdM wide places weights)) (prQ pair)) m (mvF F a b)).1 + 1) by omega]
theorem turns_n (x : Int32) : (∃ T, 1 ≤ T ∧ T ≤ 60 ∧ x = nI T ∧ ¬ x < (1 : Int32) ∧ x ≤ (60 : Int32) ∧ f_X11_in x (1 : Int32) (60 : Int32) = some 1) ∨ ((x < (1 : Int32) ∨ ¬ x ≤ (60 : Int32)) ∧ f_X11_in x (1 : Int32) (60 : Int32) = some 0) := by
  unfold f_X11_in
  by_cases h1 : x < (1 : Int32)
  · exact Or.inr ⟨Or.inl h1, by rw [if_pos h1]⟩
  · by_cases h2 : x ≤ (60 : Int32)
    · refine Or.inl ?_
      have h0 : ¬ x < 0 := fun q => h1 (Int32.lt_trans q (by decide))
      obtain ⟨T, hT, rfl⟩ := nI_of h0
      refine ⟨T, ?_, ?_, rfl, h1, h2, by rw [if_neg h1, if_neg (Int32.not_lt.mpr h2)]⟩
      · rcases Nat.eq_zero_or_pos T with h | h
        · subst h; exact absurd (by decide : nI 0 < (1 : Int32)) h1
        · exact h
      · rcases Nat.lt_or_ge 60 T with h | h
        · exact absurd h2 (nI_ge (a := 60) h hT)
        · exact h
    · exact Or.inr ⟨Or.inr h2, by rw [if_neg h1, if_pos (Int32.not_le.mp h2)]⟩
theorem l2_better (x_x_net_posts : Int32) (x_x_net_pairs : Int32) (x_x_net_widths : Nat → Int32) (x_x_net_lengths : Nat → Int32) (x_x_net_told : Nat → Int32) (x_x_net_behind : Nat → Int32) (x_x_view_posts : Int32) (x_x_view_roads : Int32) (x_x_view_weight : Int32) (x_x_view_weights : Nat → Int32) (x_x_view_near : Nat → Int32) (x_x_view_behind : Nat → Int32) (x_x_view_ahead : Nat → Int32) (x_x_history_oldest : Int32) (x_x_history_size : Int32) (x_x_history_kept_posts : Nat → Int32) (x_x_history_kept_pairs : Nat → Int32) (x_x_history_kept_widths : Nat → Nat → Int32) (x_x_history_kept_lengths : Nat → Nat → Int32) (x_x_history_kept_told : Nat → Nat → Int32) (x_x_history_kept_behind : Nat → Nat → Int32) (x_x_hand_size : Int32) (x_x_hand_posts : Nat → Int32) (x_x_trial_size : Int32) (x_x_trial_posts : Nat → Int32) (x_x_bags_size : Int32) (x_x_bags_sets : Nat → Int32) (x_x_chase_size : Int32) (x_x_chase_guarded : Int32) (x_x_chase_most : Int32) (x_x_chase_again : Int32) (x_x_chase_idle : Int32) (x_x_chase_moves : Nat → Int32) (x_x_chase_foul : Nat → Int32) (x_x_sets_solvedFor : Int32) (x_x_sets_lowest : Int32) (x_x_sets_total : Int32) (x_x_sets_pricedFor : Int32) (x_x_sets_prices : Nat → Int32) (x_x_sets_rests : Nat → Int32) (x_x_sets_ways : Nat → Int32) (x_x_trials_solvedFor : Int32) (x_x_trials_lowest : Int32) (x_x_trials_total : Int32) (x_x_trials_found : Nat → Int32) (x_x_trials_row_size : Int32) (x_x_trials_row_posts : Nat → Int32) (x_m_thrown : Int32) (x_m_posts : Int32) (x_m_pairs : Int32) (x_m_keptEnd : Int32) (x_m_kept : Int32) (x_m_many : Int32) (x_m_bags : Int32) (x_m_moves : Int32) (x_m_pen : Int32) (x_m_savedMany : Int32) (x_m_leastRow : Int32) (x_m_bestRows : Int32) (x_m_askedRow : Int32) (x_m_rankOfSaved : Int32) (x_m_wallSet : Int32) (x_m_fouledAgain : Int32) (x_m_wide : Nat → Int32) (x_m_places : Nat → Int32) (x_m_weights : Nat → Int32) (x_m_pair : Nat → Int32) (x_m_old : Nat → Int32) (x_m_row : Nat → Int32) (x_m_bag : Nat → Int32) (x_m_hunt : Nat → Int32) (x_m_behind : Nat → Int32) (x_m_least : Nat → Int32) (x_m_ways : Nat → Int32) (x_m_saved : Nat → Int32) (x_m_kth : Nat → Int32) (x_m_clean : Nat → Int32) (a1 : Int32) (a2 : Int32) (h : Rel x_x_net_posts x_x_net_pairs x_x_net_widths x_x_net_lengths x_x_net_told x_x_net_behind x_x_view_posts x_x_view_roads x_x_view_weight x_x_view_weights x_x_view_near x_x_view_behind x_x_view_ahead x_x_history_oldest x_x_history_size x_x_history_kept_posts x_x_history_kept_pairs x_x_history_kept_widths x_x_history_kept_lengths x_x_history_kept_told x_x_history_kept_behind x_x_hand_size x_x_hand_posts x_x_trial_size x_x_trial_posts x_x_bags_size x_x_bags_sets x_x_chase_size x_x_chase_guarded x_x_chase_most x_x_chase_again x_x_chase_idle x_x_chase_moves x_x_chase_foul x_x_sets_solvedFor x_x_sets_lowest x_x_sets_total x_x_sets_pricedFor x_x_sets_prices x_x_sets_rests x_x_sets_ways x_x_trials_solvedFor x_x_trials_lowest x_x_trials_total x_x_trials_found x_x_trials_row_size x_x_trials_row_posts x_m_thrown x_m_posts x_m_pairs x_m_keptEnd x_m_kept x_m_many x_m_bags x_m_moves x_m_pen x_m_savedMany x_m_leastRow x_m_bestRows x_m_askedRow x_m_rankOfSaved x_m_wallSet x_m_fouledAgain x_m_wide x_m_places x_m_weights x_m_pair x_m_old x_m_row x_m_bag x_m_hunt x_m_behind x_m_least x_m_ways x_m_saved x_m_kth x_m_clean) : ∃ (r : Int32) (o_x_hand_posts : Nat → Int32) (o_x_trial_size : Int32) (o_x_trial_posts : Nat → Int32) (o_m_thrown : Int32) (o_m_row : Nat → Int32), f_X10_better x_x_net_posts x_x_view_posts x_x_view_weights x_x_view_near x_x_view_behind x_x_view_ahead x_x_hand_size x_x_hand_posts x_x_trial_size x_x_trial_posts a1 a2 = some (r, o_x_hand_posts, o_x_trial_size, o_x_trial_posts) ∧ f_X11_better x_m_thrown x_m_posts x_m_many x_m_wide x_m_places x_m_weights x_m_pair x_m_row a1 a2 = some (r, o_m_thrown, o_m_row) ∧ Rel x_x_net_posts x_x_net_pairs x_x_net_widths x_x_net_lengths x_x_net_told x_x_net_behind x_x_view_posts x_x_view_roads x_x_view_weight x_x_view_weights x_x_view_near x_x_view_behind x_x_view_ahead x_x_history_oldest x_x_history_size x_x_history_kept_posts x_x_history_kept_pairs x_x_history_kept_widths x_x_history_kept_lengths x_x_history_kept_told x_x_history_kept_behind x_x_hand_size o_x_hand_posts o_x_trial_size o_x_trial_posts x_x_bags_size x_x_bags_sets x_x_chase_size x_x_chase_guarded x_x_chase_most x_x_chase_again x_x_chase_idle x_x_chase_moves x_x_chase_foul x_x_sets_solvedFor x_x_sets_lowest x_x_sets_total x_x_sets_pricedFor x_x_sets_prices x_x_sets_rests x_x_sets_ways x_x_trials_solvedFor x_x_trials_lowest x_x_trials_total x_x_trials_found x_x_trials_row_size x_x_trials_row_posts o_m_thrown x_m_posts x_m_pairs x_m_keptEnd x_m_kept x_m_many x_m_bags x_m_moves x_m_pen x_m_savedMany x_m_leastRow x_m_bestRows x_m_askedRow x_m_rankOfSaved x_m_wallSet x_m_fouledAgain x_m_wide x_m_places x_m_weights x_m_pair x_m_old o_m_row x_m_bag x_m_hunt x_m_behind x_m_least x_m_ways x_m_saved x_m_kth x_m_clean := by
  obtain ⟨n, h1, h2, h3, h4, h5, h6, h7, h8⟩ := h
  have hn : n ≤ 11 := h1.1
  have ep := h1.2.1
  have em := h1.2.2.1
  subst ep
  subst em
  have d10 : ¬ (1 : Int32) = 0 := by decide
  have ev := h2.1
  have hahead := h2.2.2.2.2.2.2
  obtain ⟨-, -, -, -, -, -, -, -, -, -, -, hpair, rk, hrk⟩ := id h1
  rcases isCost_n a1 with ⟨c, hc, rfl, p1, p2⟩ | ⟨p1, p2, -⟩
  · rcases turns_n a2 with ⟨T, hT1, hT, rfl, t1, t2, t3⟩ | ⟨t1, t3⟩
    · obtain ⟨k, F, hk, e1, e2, e3, e4, e5⟩ := RowR_nums h4
      cases hw : (decide (k = n) && allLt F n k) with
      | false =>
        refine ⟨(-4 : Int32), x_x_hand_posts, x_x_trial_size, x_x_trial_posts, 0, x_m_row, ?_, ?_, Rel_mk h1 h2 h3 h4 h5 h6 h7 h8⟩
        · unfold f_X10_better
          rw [p1, e1, isWholeC_n hk hn e3, hw, if_neg t1, if_pos t2]
          rfl
        · unfold f_X11_better
          rw [p2, t3, e2, isWholeM_n hk hn e4 e5, hw]
          rfl
      | true =>
        have hw2 := hw
        rw [Bool.and_eq_true, decide_eq_true_eq, allLt_iff] at hw2
        obtain ⟨hkn, hlt⟩ := hw2
        subst hkn
        have hirr : ∀ a, a < k → prQ x_m_pair a a = false := fun a ha => by
          cases hcc : prQ x_m_pair a a with
          | false => rfl
          | true => exact absurd (hrk a a (by omega) (by omega) hcc) (by omega)
        obtain ⟨ps, ts2, tp2, g1, g2⟩ := betterC_n (Cx_of h1) (VC_of hn h2 (NetR_pr h1)) hahead (NetR_pr h1) hc T hT T 0 (by omega) x_x_trial_size x_x_trial_posts (fun j hj => (e3 j hj).1) hlt e5
        obtain ⟨ps2, g3, g4⟩ := betterM_n (Cx_of h1) hirr hc T hT T 0 (by omega) (fun j hj => (e4 j hj).1) hlt e5
        obtain ⟨b1, b2'⟩ := btr_perm (c := c) (rN := fun x y => (rdM x_m_wide x_m_places x_m_weights x y).toNatClampNeg) (qr := rdQ (rdM x_m_wide x_m_places x_m_weights)) (pr := prQ x_m_pair) T hlt e5
        have hR : RowR x_x_hand_size x_m_many ps ps2 := ⟨k, hk, e1, e2, fun j hj => ⟨by rw [g2 j hj, g4 j hj], _, by have := b1 j hj; omega, g4 j hj⟩, fun i j hi hj hij => b2' i j hi hj (by
          rw [g4 i hi, g4 j hj] at hij
          have q1 := b1 i hi
          have q2 := b1 j hj
          exact (nI_eq (by omega) (by omega)).mp hij)⟩
        refine ⟨nI (0 + (btr (bestMv c k (fun x y => (rdM x_m_wide x_m_places x_m_weights x y).toNatClampNeg) (rdQ (rdM x_m_wide x_m_places x_m_weights)) (prQ x_m_pair)) T F).1), ps, ts2, tp2, 0, ps2, ?_, ?_, Rel_mk h1 h2 h3 hR h5 h6 h7 h8⟩
        · unfold f_X10_better
          rw [p1, e1, isWholeC_n hk hn e3, hw, if_neg t1, if_pos t2, ev]
          simp only [Option.bind_some, b2I, if_true, if_neg d10]
          rw [show loopS (fun (s : Int32 × (Nat → Int32) × Int32 × (Nat → Int32)) => f_X10_better_L43 (nI c) (nI T) (nI k) x_x_view_weights x_x_view_near x_x_view_behind x_x_view_ahead (nI k) s.1 s.2.1 s.2.2.1 s.2.2.2) ((0 : Int32), x_x_hand_posts, x_x_trial_size, x_x_trial_posts) = _ from g1]
          rfl
        · unfold f_X11_better
          rw [p2, t3, e2, isWholeM_n hk hn e4 e5, hw]
          simp only [Option.bind_some, b2I, if_true, if_neg d10]
          rw [show loopS (fun (s : Int32 × (Nat → Int32)) => f_X11_better_L37 (nI c) (nI T) (nI k) (nI k) x_m_wide x_m_places x_m_weights x_m_pair s.1 s.2) ((0 : Int32), x_m_row) = _ from g3]
          rfl
    · refine ⟨(-3 : Int32), x_x_hand_posts, x_x_trial_size, x_x_trial_posts, 0, x_m_row, ?_, ?_, Rel_mk h1 h2 h3 h4 h5 h6 h7 h8⟩
      · unfold f_X10_better
        rw [p1]
        simp only [Option.bind_some, if_neg d10]
        by_cases q : a2 < (1 : Int32)
        · rw [if_pos q]
        · rw [if_neg q, if_neg (t1.resolve_left q)]
      · unfold f_X11_better
        rw [p2, t3]
        rfl
  · refine ⟨(-3 : Int32), x_x_hand_posts, x_x_trial_size, x_x_trial_posts, 0, x_m_row, ?_, ?_, Rel_mk h1 h2 h3 h4 h5 h6 h7 h8⟩
    · unfold f_X10_better
      rw [p1]
      rfl
    · unfold f_X11_better
      rw [p2]
      rfl
