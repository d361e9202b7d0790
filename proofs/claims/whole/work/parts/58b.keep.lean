/-! LAYER 2: what is kept ahead of a change -/
theorem loop_go {S X : Type} {step : S → Option (S ⊕ X)} {s0 : S} {x : X} (run : Nat → S) (N : Nat) (h0 : s0 = run 0) (h : ∀ k, k < N → step (run k) = some (.inl (run (k + 1)))) (hx : step (run N) = some (.inr x)) : loopS step s0 = some x := by
  rw [h0]
  exact loop_run run N h hx
theorem cntM_congr {f g : Nat → Int32} : ∀ {k : Nat}, (∀ j, j < k → f j = g j) → cntM f k = cntM g k
  | 0, _ => rfl
  | k + 1, h => by rw [cntM, cntM, cntM_congr (fun j hj => h j (by omega)), h k (by omega)]
theorem mkB_congr {q r : Nat → Bool} : ∀ {k : Nat}, (∀ j, j < k → q j = r j) → mkB q k = mkB r k
  | 0, _ => rfl
  | k + 1, h => by rw [mkB, mkB, mkB_congr (fun j hj => h j (by omega)), h k (by omega)]
theorem tdM_congr {w1 p1 t1 w2 p2 t2 : Nat → Int32} {a b : Nat} (h1 : w1 a = w2 a) (h2 : p1 a = p2 a) (h3 : t1 (11 * a + b) = t2 (11 * a + b)) : tdM w1 p1 t1 a b = tdM w2 p2 t2 a b := by
  unfold tdM
  rw [h1, h2, h3]
theorem prQ_congr {p1 p2 : Nat → Int32} {a b : Nat} (h : p1 (11 * a + b) = p2 (11 * a + b)) : prQ p1 a b = prQ p2 a b := by
  unfold prQ
  rw [h]
theorem NetR_congr {n : Nat} {posts pairs mposts mpairs : Int32} {w l t b wd pl wt pr w2 l2 t2 b2 wd2 pl2 wt2 pr2 : Nat → Int32} (h : NetR n posts pairs w l t b mposts mpairs wd pl wt pr) (c1 : ∀ i, i < 11 → w2 i = w i) (c2 : ∀ i, i < 11 → l2 i = l i) (c3 : ∀ i, i < 121 → t2 i = t i) (c4 : ∀ i, i < 11 → b2 i = b i) (c5 : ∀ i, i < 11 → wd2 i = wd i) (c6 : ∀ i, i < 11 → pl2 i = pl i) (c7 : ∀ i, i < 121 → wt2 i = wt i) (c8 : ∀ i, i < 121 → pr2 i = pr i) : NetR n posts pairs w2 l2 t2 b2 mposts mpairs wd2 pl2 wt2 pr2 := by
  obtain ⟨hn, e1, e2, e3, e4, e5, h6, h7, h8, h9, h10, h11, rk, h12⟩ := h
  have c : cntM pr2 121 = cntM pr 121 := cntM_congr c8
  have td : ∀ a b, a < 11 → b < 11 → tdM wd2 pl2 wt2 a b = tdM wd pl wt a b := fun a b ha hb => tdM_congr (c5 a ha) (c6 a ha) (c7 _ (by omega))
  have pq : ∀ a b, a < 11 → b < 11 → prQ pr2 a b = prQ pr a b := fun a b ha hb => prQ_congr (c8 _ (by omega))
  refine ⟨hn, e1, e2, by rw [c]; exact e3, by rw [c]; exact e4, by rw [c]; exact e5, fun a ha => ?_, fun a ha hb => ?_, fun a b ha hb => ?_, fun a b ha hb => ?_, fun a ha => ?_, fun a b ha hb => ?_, rk, fun a b ha hb hab => ?_⟩
  · rw [c1 a (by omega), c2 a (by omega), c5 a (by omega), c6 a (by omega)]
    exact h6 a ha
  · rw [c1 a hb, c2 a hb]
    exact h7 a ha hb
  · rw [c3 _ (by omega), td a b ha hb]
    exact h8 a b ha hb
  · rw [td a b (by omega) hb]
    exact h9 a b ha hb
  · rw [c4 a ha, h10 a ha, mkB_congr (fun b hb => pq a b ha hb)]
  · rw [c8 _ (by omega)]
    exact h11 a b ha hb
  · rw [pq a b ha hb] at hab
    exact h12 a b ha hb hab
/-- k numbers of f written from a pen on -/
def wrM (old : Nat → Int32) (pen : Nat) (f : Nat → Int32) (k : Nat) : Nat → Int32 := fun j => if pen ≤ j ∧ j < pen + k then f (j - pen) else old j
theorem wrM_0 (old : Nat → Int32) (pen : Nat) (f : Nat → Int32) : wrM old pen f 0 = old := by
  funext j
  unfold wrM
  rw [if_neg (by omega)]
theorem wrM_s (old : Nat → Int32) (pen : Nat) (f : Nat → Int32) (k : Nat) : upd (wrM old pen f k) (pen + k) (f k) = wrM old pen f (k + 1) := by
  funext j
  unfold upd wrM
  by_cases h : j = pen + k
  · subst h
    rw [if_pos rfl, if_pos (by omega)]
    congr 1
    omega
  · rw [if_neg h]
    by_cases h2 : pen ≤ j ∧ j < pen + k
    · rw [if_pos h2, if_pos (by omega)]
    · rw [if_neg h2, if_neg (by omega)]
theorem wr_n {f old : Nat → Int32} {L K pen : Nat} {i2 : Int32} (h2 : i2 = nI K) (hK : K ≤ L) (hL : L ≤ 121) (hp : pen + K ≤ 2128) : loopS (fun (s : Int32 × Int32 × (Nat → Int32)) => if i2 ≤ s.1 then (some (.inr (s.2.1, s.2.2))) else ((gi f L s.1).bind fun v2 => (si s.2.2 2128 s.2.1 v2).bind fun v3 => some (.inl ((s.1 + (1 : Int32)), (s.2.1 + (1 : Int32)), v3)))) ((0 : Int32), nI pen, old) = some (nI (pen + K), wrM old pen f K) := by
  subst h2
  refine loop_go (fun k => (nI k, nI (pen + k), wrM old pen f k)) K ?_ (fun k hk => ?_) ?_
  · rw [wrM_0]
    rfl
  · dsimp only
    rw [if_neg (nI_ge hk (by omega)), gi_n (by omega) (by omega)]
    simp only [Option.bind_some]
    rw [si_n (by omega) (by omega), nI_1, nI_1, wrM_s]
    rfl
  · dsimp only
    rw [if_pos (nI_le (Nat.le_refl K) (by omega))]
theorem rd_n {f old : Nat → Int32} {L K pen : Nat} {i2 : Int32} (h2 : i2 = nI K) (hK : K ≤ L) (hL : L ≤ 121) (hp : pen + K ≤ 2128) : loopS (fun (s : Int32 × Int32 × (Nat → Int32)) => if i2 ≤ s.1 then (some (.inr (s.2.1, s.2.2))) else ((gi old 2128 s.2.1).bind fun v2 => (si s.2.2 L s.1 v2).bind fun v3 => some (.inl ((s.1 + (1 : Int32)), (s.2.1 + (1 : Int32)), v3)))) ((0 : Int32), nI pen, f) = some (nI (pen + K), wrM f 0 (fun j => old (pen + j)) K) := by
  subst h2
  refine loop_go (fun k => (nI k, nI (pen + k), wrM f 0 (fun j => old (pen + j)) k)) K ?_ (fun k hk => ?_) ?_
  · rw [wrM_0]
    rfl
  · dsimp only
    rw [if_neg (nI_ge hk (by omega)), gi_n (by omega) (by omega)]
    simp only [Option.bind_some]
    rw [si_n (by omega) (by omega), nI_1, nI_1]
    have := wrM_s f 0 (fun j => old (pen + j)) k
    rw [Nat.zero_add] at this
    rw [← this]
    rfl
  · dsimp only
    rw [if_pos (nI_le (Nat.le_refl K) (by omega))]
theorem write_wide_n {f old : Nat → Int32} {pen : Nat} (hp : pen + 11 ≤ 2128) : f_X11_write_wide (nI pen) f old (11 : Int32) = some (nI (pen + 11), wrM old pen f 11) :=
  congrArg (fun o => b2 o fun x1 x2 => some (x1, x2)) (wr_n (f := f) (old := old) (L := 11) (K := 11) (i2 := (11 : Int32)) rfl (by omega) (by omega) hp)
theorem write_places_n {f old : Nat → Int32} {pen : Nat} (hp : pen + 11 ≤ 2128) : f_X11_write_places (nI pen) f old (11 : Int32) = some (nI (pen + 11), wrM old pen f 11) :=
  congrArg (fun o => b2 o fun x1 x2 => some (x1, x2)) (wr_n (f := f) (old := old) (L := 11) (K := 11) (i2 := (11 : Int32)) rfl (by omega) (by omega) hp)
theorem write_weights_n {f old : Nat → Int32} {pen : Nat} (hp : pen + 121 ≤ 2128) : f_X11_write_weights (nI pen) f old (121 : Int32) = some (nI (pen + 121), wrM old pen f 121) :=
  congrArg (fun o => b2 o fun x1 x2 => some (x1, x2)) (wr_n (f := f) (old := old) (L := 121) (K := 121) (i2 := (121 : Int32)) rfl (by omega) (by omega) hp)
theorem write_pair_n {f old : Nat → Int32} {pen : Nat} (hp : pen + 121 ≤ 2128) : f_X11_write_pair (nI pen) f old (121 : Int32) = some (nI (pen + 121), wrM old pen f 121) :=
  congrArg (fun o => b2 o fun x1 x2 => some (x1, x2)) (wr_n (f := f) (old := old) (L := 121) (K := 121) (i2 := (121 : Int32)) rfl (by omega) (by omega) hp)
theorem read_wide_n {f old : Nat → Int32} {pen : Nat} (hp : pen + 11 ≤ 2128) : f_X11_read_wide (nI pen) f old (11 : Int32) = some (nI (pen + 11), wrM f 0 (fun j => old (pen + j)) 11) :=
  congrArg (fun o => b2 o fun x1 x2 => some (x1, x2)) (rd_n (f := f) (old := old) (L := 11) (K := 11) (i2 := (11 : Int32)) rfl (by omega) (by omega) hp)
theorem read_places_n {f old : Nat → Int32} {pen : Nat} (hp : pen + 11 ≤ 2128) : f_X11_read_places (nI pen) f old (11 : Int32) = some (nI (pen + 11), wrM f 0 (fun j => old (pen + j)) 11) :=
  congrArg (fun o => b2 o fun x1 x2 => some (x1, x2)) (rd_n (f := f) (old := old) (L := 11) (K := 11) (i2 := (11 : Int32)) rfl (by omega) (by omega) hp)
theorem read_weights_n {f old : Nat → Int32} {pen : Nat} (hp : pen + 121 ≤ 2128) : f_X11_read_weights (nI pen) f old (121 : Int32) = some (nI (pen + 121), wrM f 0 (fun j => old (pen + j)) 121) :=
  congrArg (fun o => b2 o fun x1 x2 => some (x1, x2)) (rd_n (f := f) (old := old) (L := 121) (K := 121) (i2 := (121 : Int32)) rfl (by omega) (by omega) hp)
theorem read_pair_n {f old : Nat → Int32} {pen : Nat} (hp : pen + 121 ≤ 2128) : f_X11_read_pair (nI pen) f old (121 : Int32) = some (nI (pen + 121), wrM f 0 (fun j => old (pen + j)) 121) :=
  congrArg (fun o => b2 o fun x1 x2 => some (x1, x2)) (rd_n (f := f) (old := old) (L := 121) (K := 121) (i2 := (121 : Int32)) rfl (by omega) (by omega) hp)
theorem rem8 {a : Nat} (ha : a < 100000) : nI a - nI a / (8 : Int32) * (8 : Int32) = nI (a % 8) := pk_rem (a := a) (d := 8) (by omega) (by decide) (by decide)
def oldM (old : Nat → Int32) (e : Nat) (posts pairs : Int32) (wide places weights pair : Nat → Int32) : Nat → Int32 :=
  wrM (wrM (wrM (wrM (upd (upd old (266 * e) posts) (266 * e + 1) pairs) (266 * e + 2) wide 11) (266 * e + 13) places 11) (266 * e + 24) weights 121) (266 * e + 145) pair 121
theorem keepM_n {posts pairs pen : Int32} {wide places weights pair old : Nat → Int32} {e k : Nat} (he : e < 8) (hk : k ≤ 8) : f_X11_keep posts pairs (nI e) (nI k) pen wide places weights pair old = some (nI ((e + 1) % 8), nI (if k < 8 then k + 1 else 8), nI (266 * e + 266), oldM old e posts pairs wide places weights pair) := by
  unfold f_X11_keep
  rw [show (266 : Int32) * nI e = nI (266 * e) from pk_mul 266 e, si_n (by omega) (by omega), nI_1, show nI (266 * e) + (2 : Int32) = nI (266 * e + 2) from nI_add (266 * e) 2]
  simp only [Option.bind_some]
  rw [si_n (by omega) (by omega)]
  simp only [Option.bind_some]
  rw [write_wide_n (by omega)]
  simp only [b2, Option.bind_some]
  rw [write_places_n (by omega)]
  simp only [Option.bind_some]
  rw [write_weights_n (by omega)]
  simp only [Option.bind_some]
  rw [write_pair_n (by omega)]
  simp only [Option.bind_some]
  rw [nI_1, nI_1, rem8 (by omega)]
  by_cases h8 : k < 8
  · rw [if_neg (show ¬ (8 : Int32) ≤ nI k from nI_ge (b := 8) h8 (by decide)), if_pos h8]
    rfl
  · rw [if_pos (show (8 : Int32) ≤ nI k from nI_le (a := 8) (by omega) (by omega)), if_neg h8]
    rfl
theorem oldM_posts {old wide places weights pair : Nat → Int32} {e : Nat} {posts pairs : Int32} : oldM old e posts pairs wide places weights pair (266 * e) = posts := by
  unfold oldM wrM upd
  rw [if_neg (by omega), if_neg (by omega), if_neg (by omega), if_neg (by omega), if_neg (by omega), if_pos rfl]
theorem oldM_pairs {old wide places weights pair : Nat → Int32} {e : Nat} {posts pairs : Int32} : oldM old e posts pairs wide places weights pair (266 * e + 1) = pairs := by
  unfold oldM wrM upd
  rw [if_neg (by omega), if_neg (by omega), if_neg (by omega), if_neg (by omega), if_pos rfl]
theorem oldM_wide {old wide places weights pair : Nat → Int32} {e j : Nat} {posts pairs : Int32} (hj : j < 11) : oldM old e posts pairs wide places weights pair (266 * e + 2 + j) = wide j := by
  unfold oldM wrM
  rw [if_neg (by omega), if_neg (by omega), if_neg (by omega), if_pos (by omega)]
  rw [show 266 * e + 2 + j - (266 * e + 2) = j by omega]
theorem oldM_places {old wide places weights pair : Nat → Int32} {e j : Nat} {posts pairs : Int32} (hj : j < 11) : oldM old e posts pairs wide places weights pair (266 * e + 13 + j) = places j := by
  unfold oldM wrM
  rw [if_neg (by omega), if_neg (by omega), if_pos (by omega)]
  rw [show 266 * e + 13 + j - (266 * e + 13) = j by omega]
theorem oldM_weights {old wide places weights pair : Nat → Int32} {e j : Nat} {posts pairs : Int32} (hj : j < 121) : oldM old e posts pairs wide places weights pair (266 * e + 24 + j) = weights j := by
  unfold oldM wrM
  rw [if_neg (by omega), if_pos (by omega)]
  rw [show 266 * e + 24 + j - (266 * e + 24) = j by omega]
theorem oldM_pair {old wide places weights pair : Nat → Int32} {e j : Nat} {posts pairs : Int32} (hj : j < 121) : oldM old e posts pairs wide places weights pair (266 * e + 145 + j) = pair j := by
  unfold oldM wrM
  rw [if_pos (by omega)]
  rw [show 266 * e + 145 + j - (266 * e + 145) = j by omega]
theorem oldM_out {old wide places weights pair : Nat → Int32} {e j : Nat} {posts pairs : Int32} (hj : j < 266 * e ∨ 266 * e + 266 ≤ j) : oldM old e posts pairs wide places weights pair j = old j := by
  unfold oldM wrM upd
  rw [if_neg (by omega), if_neg (by omega), if_neg (by omega), if_neg (by omega), if_neg (by omega), if_neg (by omega)]
def cp0 (f g : Nat → Int32) (n : Nat) : Nat → Int32 := va_cpy f g 0 0 n
theorem cp0_lt {f g : Nat → Int32} {n j : Nat} (h : j < n) : cp0 f g n j = f j := by
  unfold cp0
  rw [pk_cpy_in (by omega) (by omega)]
  congr 1
  omega
theorem takeFrom_n {p q p1 q1 : Int32} {w l t b w1 l1 t1 b1 : Nat → Int32} : f_X4_takeFrom p q w l t b p1 q1 w1 l1 t1 b1 = some (p1, q1, cp0 w1 w 11, cp0 l1 l 11, cp0 t1 t 121, cp0 b1 b 11) := by
  unfold f_X4_takeFrom
  rw [show cp w1 11 w 11 (0 : Int32) (0 : Int32) (11 : Int32) = some (cp0 w1 w 11) from cp_n (a := 0) (b := 0) (k := 11) (by omega) (by omega) (by omega) (by omega), show cp l1 11 l 11 (0 : Int32) (0 : Int32) (11 : Int32) = some (cp0 l1 l 11) from cp_n (a := 0) (b := 0) (k := 11) (by omega) (by omega) (by omega) (by omega), show cp t1 121 t 121 (0 : Int32) (0 : Int32) (121 : Int32) = some (cp0 t1 t 121) from cp_n (a := 0) (b := 0) (k := 121) (by omega) (by omega) (by omega) (by omega), show cp b1 11 b 11 (0 : Int32) (0 : Int32) (11 : Int32) = some (cp0 b1 b 11) from cp_n (a := 0) (b := 0) (k := 11) (by omega) (by omega) (by omega) (by omega)]
  rfl
theorem keepC_n {kp kq : Nat → Int32} {kw kl kt kb : Nat → Nat → Int32} {posts pairs : Int32} {w l t b : Nat → Int32} {o k : Nat} (ho : o < 8) (hk : k ≤ 8) : f_X3_keep (nI o) (nI k) kp kq kw kl kt kb posts pairs w l t b = some (nI (if k = 8 then (o + 1) % 8 else o), nI (if k = 8 then 8 else k + 1), va_up kp ((o + k) % 8) posts, va_up kq ((o + k) % 8) pairs, va_up kw ((o + k) % 8) (cp0 w (kw ((o + k) % 8)) 11), va_up kl ((o + k) % 8) (cp0 l (kl ((o + k) % 8)) 11), va_up kt ((o + k) % 8) (cp0 t (kt ((o + k) % 8)) 121), va_up kb ((o + k) % 8) (cp0 b (kb ((o + k) % 8)) 11)) := by
  unfold f_X3_keep
  by_cases h8 : k = 8
  · subst h8
    rw [if_pos (show nI 8 = (8 : Int32) from rfl), if_pos rfl, if_pos rfl, nI_1, rem8 (by omega), show nI 8 - (1 : Int32) = nI 7 from rfl]
    simp only [b2, Option.bind_some]
    rw [nI_add, rem8 (by omega), show ((o + 1) % 8 + 7) % 8 = (o + 8) % 8 by omega, g8_n (by omega)]
    simp only [Option.bind_some]
    rw [takeFrom_n]
    rfl
  · rw [if_neg (show ¬ nI k = (8 : Int32) from fun q => h8 ((nI_eq (b := 8) (by omega) (by decide)).mp q)), if_neg h8, if_neg h8]
    simp only [b2, Option.bind_some]
    rw [nI_add, rem8 (by omega), g8_n (by omega)]
    simp only [Option.bind_some]
    rw [takeFrom_n, nI_1]
    rfl
theorem keep_ok {n : Nat} {oldest size posts pairs mposts mpairs keptEnd kept : Int32} {kp kq : Nat → Int32} {kw kl kt kb : Nat → Nat → Int32} {w l t b wd pl wt pr old : Nat → Int32} (hH : HistR oldest size kp kq kw kl kt kb keptEnd kept old) (hN : NetR n posts pairs w l t b mposts mpairs wd pl wt pr) (pen : Int32) : ∃ (o1 o2 : Int32) (o3 o4 : Nat → Int32) (o5 o6 o7 o8 : Nat → Nat → Int32) (m1 m2 m3 : Int32) (m4 : Nat → Int32), f_X3_keep oldest size kp kq kw kl kt kb posts pairs w l t b = some (o1, o2, o3, o4, o5, o6, o7, o8) ∧ f_X11_keep mposts mpairs keptEnd kept pen wd pl wt pr old = some (m1, m2, m3, m4) ∧ HistR o1 o2 o3 o4 o5 o6 o7 o8 m1 m2 m4 := by
  obtain ⟨o, k, ho, hk, rfl, rfl, rfl, rfl, hi⟩ := hH
  refine ⟨_, _, _, _, _, _, _, _, _, _, _, _, keepC_n ho hk, keepM_n (Nat.mod_lt _ (by decide)) hk, ?_⟩
  have key : ∀ i, i < (if k = 8 then 8 else k + 1) → ((if k = 8 then (o + 1) % 8 else o) + i) % 8 = (o + k) % 8 ∨ (((if k = 8 then (o + 1) % 8 else o) + i) % 8 ≠ (o + k) % 8 ∧ ∃ i0, i0 < k ∧ ((if k = 8 then (o + 1) % 8 else o) + i) % 8 = (o + i0) % 8) := by
    intro i hik
    by_cases h8 : k = 8
    · rw [if_pos h8] at hik ⊢
      by_cases h7 : i = 7
      · left; omega
      · right; exact ⟨by omega, i + 1, by omega, by omega⟩
    · rw [if_neg h8] at hik ⊢
      by_cases h7 : i = k
      · left; rw [h7]
      · right; exact ⟨by omega, i, by omega, rfl⟩
  refine ⟨if k = 8 then (o + 1) % 8 else o, if k = 8 then 8 else k + 1, ?_, ?_, rfl, rfl, ?_, ?_, ?_⟩
  · by_cases h8 : k = 8
    · rw [if_pos h8]; omega
    · rw [if_neg h8]; exact ho
  · by_cases h8 : k = 8
    · rw [if_pos h8]; omega
    · rw [if_neg h8]; omega
  · congr 1
    by_cases h8 : k = 8
    · rw [if_pos h8, if_pos h8]; omega
    · rw [if_neg h8, if_neg h8]; omega
  · congr 1
    by_cases h8 : k = 8
    · rw [if_pos h8, if_neg (by omega)]
    · rw [if_neg h8, if_pos (by omega)]
  · intro i hik
    rcases key i hik with hs | ⟨hs, i0, hi0, hs2⟩
    · refine ⟨n, ?_⟩
      rw [hs, va_up_self, va_up_self, va_up_self, va_up_self, va_up_self, va_up_self, oldM_posts, oldM_pairs]
      exact NetR_congr hN (fun j hj => cp0_lt hj) (fun j hj => cp0_lt hj) (fun j hj => cp0_lt hj) (fun j hj => cp0_lt hj) (fun j hj => oldM_wide hj) (fun j hj => oldM_places hj) (fun j hj => oldM_weights hj) (fun j hj => oldM_pair hj)
    · obtain ⟨m, hm⟩ := hi i0 hi0
      refine ⟨m, ?_⟩
      rw [hs2] at hs ⊢
      rw [va_up_ne _ _ hs, va_up_ne _ _ hs, va_up_ne _ _ hs, va_up_ne _ _ hs, va_up_ne _ _ hs, va_up_ne _ _ hs, oldM_out (by omega), oldM_out (by omega)]
      exact NetR_congr hm (fun j hj => rfl) (fun j hj => rfl) (fun j hj => rfl) (fun j hj => rfl) (fun j hj => oldM_out (by omega)) (fun j hj => oldM_out (by omega)) (fun j hj => oldM_out (by omega)) (fun j hj => oldM_out (by omega))
