/-! LAYER 2: rows by lists, pure -/
theorem atL_lt {L T : List Nat} {j : Nat} (h : j < L.length) : atL (L ++ T) j = atL L j := by
  unfold atL
  rw [List.getElem?_append_left h]
theorem atL_eq (L : List Nat) (p : Nat) : atL (L ++ [p]) L.length = p := by
  unfold atL
  rw [List.getElem?_append_right (Nat.le_refl _), Nat.sub_self]
  rfl
theorem atL_get {L : List Nat} {j : Nat} (h : j < L.length) : atL L j = L[j] := by
  unfold atL
  rw [List.getElem?_eq_getElem h]
  rfl
theorem atL_mem {L : List Nat} {j : Nat} (h : j < L.length) : atL L j ∈ L := by
  rw [atL_get h]
  exact List.getElem_mem h
def Pfx (n s : Nat) (L : List Nat) : Prop := s < 2 ^ n ∧ pcN s n = L.length ∧ (∀ p, p ∈ L → p < n ∧ s.testBit p = true) ∧ L.Nodup
theorem Pfx_0 (n : Nat) : Pfx n 0 [] := by
  have e : ∀ k, pcN 0 k = 0 := fun k => by
    induction k with
    | zero => rfl
    | succ k ih => rw [pcN, ih]; simp
  exact ⟨Nat.pow_pos (by decide), e n, fun p hp => (by cases hp), List.nodup_nil⟩
theorem Pfx_s {n s p : Nat} {L : List Nat} (hn : n ≤ 11) (h : Pfx n s L) (hp : p < n) (hb : s.testBit p = false) : Pfx n (s ||| 2 ^ p) (L ++ [p]) := by
  obtain ⟨h1, h2, h3, h4⟩ := h
  refine ⟨or_lt11 hn h1 hp, ?_, ?_, ?_⟩
  · rw [pcN_or hb hp, h2, List.length_append, List.length_singleton]
  · intro q hq
    rcases List.mem_append.mp hq with hq | hq
    · exact ⟨(h3 q hq).1, by rw [tb_or, (h3 q hq).2]; rfl⟩
    · have : q = p := by simpa using hq
      subst this
      exact ⟨hp, by rw [tb_or]; simp⟩
  · rw [List.nodup_append]
    refine ⟨h4, by simp, ?_⟩
    intro a ha b hb2
    have hbp : b = p := by simpa using hb2
    subst hbp
    intro hab
    subst hab
    have := (h3 a ha).2
    rw [hb] at this
    cases this
theorem may_bit {pr : Nat → Nat → Bool} {n s p : Nat} (h : mayN pr n s p = true) : s.testBit p = false := by
  unfold mayN at h
  rw [Bool.and_eq_true, Bool.not_eq_true'] at h
  exact h.1
theorem cmK_mem {rc : Nat → List Nat → List (List Nat)} {may : Nat → Nat → Bool} {s : Nat} {L r : List Nat} : ∀ {k : Nat}, r ∈ cmK rc may s L k → ∃ p, p < k ∧ may s p = true ∧ r ∈ rc (s ||| 2 ^ p) (L ++ [p])
  | 0, h => by cases h
  | k + 1, h => by
    rw [cmK] at h
    rcases List.mem_append.mp h with h | h
    · obtain ⟨p, h1, h2⟩ := cmK_mem h
      exact ⟨p, by omega, h2⟩
    · cases hm : may s k with
      | false => rw [hm] at h; cases h
      | true =>
        rw [hm] at h
        exact ⟨k, by omega, hm, h⟩
theorem cmL_mem {pr : Nat → Nat → Bool} {n : Nat} (hn : n ≤ 11) {r : List Nat} : ∀ {d s : Nat} {L : List Nat}, Pfx n s L → L.length + d = n → r ∈ cmL (mayN pr n) n d s L → (∃ t, Pfx n t r) ∧ r.length = n ∧ ∃ T, r = L ++ T
  | 0, s, L, hP, hd, h => by
    rw [cmL] at h
    have : r = L := by simpa using h
    subst this
    exact ⟨⟨s, hP⟩, by omega, [], by simp⟩
  | d + 1, s, L, hP, hd, h => by
    rw [cmL] at h
    obtain ⟨p, h1, h2, h3⟩ := cmK_mem h
    obtain ⟨a1, a2, T, a3⟩ := cmL_mem hn (Pfx_s hn hP h1 (may_bit h2)) (by rw [List.length_append, List.length_singleton]; omega) h3
    exact ⟨a1, a2, p :: T, by rw [a3, List.append_assoc]; rfl⟩
theorem cmK_len {rc : Nat → List Nat → List (List Nat)} {may : Nat → Nat → Bool} {s M : Nat} {L : List Nat} (hb : ∀ p, may s p = true → s.testBit p = false) : ∀ {k : Nat}, (∀ p, p < k → may s p = true → (rc (s ||| 2 ^ p) (L ++ [p])).length ≤ M) → (cmK rc may s L k).length ≤ fo (fun x y => x + y) (fun p => if s.testBit p then 0 else M) k
  | 0, _ => Nat.le_refl _
  | k + 1, h => by
    rw [cmK, fo, List.length_append]
    refine Nat.add_le_add (cmK_len hb (fun p hp => h p (by omega))) ?_
    cases hm : may s k with
    | false => exact Nat.zero_le _
    | true =>
      rw [hb k hm]
      exact h k (by omega) hm
theorem cmL_len {pr : Nat → Nat → Bool} {n : Nat} (hn : n ≤ 11) : ∀ {d s : Nat} {L : List Nat}, Pfx n s L → L.length + d = n → (cmL (mayN pr n) n d s L).length ≤ fct d
  | 0, s, L, _, _ => Nat.le_refl _
  | d + 1, s, L, hP, hd => by
    rw [cmL]
    have h1 := cmK_len (rc := cmL (mayN pr n) n d) (may := mayN pr n) (s := s) (M := fct d) (L := L) (fun p hp => may_bit hp) (k := n) (fun p hp hm => cmL_len hn (Pfx_s hn hP hp (may_bit hm)) (by rw [List.length_append, List.length_singleton]; omega))
    rw [miss_sum, hP.2.1, show n - L.length = d + 1 by omega] at h1
    exact h1
theorem cmL_ne {pr : Nat → Nat → Bool} {n : Nat} (hn : n ≤ 11) (hrk : ∃ rk : Nat → Nat, ∀ a b, a < 11 → b < 11 → pr a b = true → rk a < rk b) : ∀ {d s : Nat} {L : List Nat}, Pfx n s L → L.length + d = n → cmL (mayN pr n) n d s L ≠ []
  | 0, s, L, _, _ => by
    rw [cmL]
    simp
  | d + 1, s, L, hP, hd => by
    have hlt : s < 2 ^ n - 1 := by
      rcases Nat.lt_or_ge s (2 ^ n - 1) with z | z
      · exact z
      · have h1 := hP.1
        have e : s = 2 ^ n - 1 := by omega
        have h2 := hP.2.1
        rw [e, pcN_full] at h2
        omega
    obtain ⟨p, hp, hm⟩ := may_ex hn hlt hrk
    have h1 := cmL_ne hn hrk (Pfx_s hn hP hp (may_bit hm)) (show (L ++ [p]).length + d = n by rw [List.length_append, List.length_singleton]; omega)
    have hex : ∃ r, r ∈ cmL (mayN pr n) n d (s ||| 2 ^ p) (L ++ [p]) := by
      cases hc : cmL (mayN pr n) n d (s ||| 2 ^ p) (L ++ [p]) with
      | nil => exact absurd hc h1
      | cons r rs => exact ⟨r, List.mem_cons_self⟩
    obtain ⟨r, hr⟩ := hex
    have hk : ∀ k, p < k → r ∈ cmK (cmL (mayN pr n) n d) (mayN pr n) s L k := fun k => by
      induction k with
      | zero => intro h; omega
      | succ k ih =>
        intro h
        rw [cmK]
        rcases Nat.lt_or_ge p k with z | z
        · exact List.mem_append_left _ (ih z)
        · have : p = k := by omega
          subst this
          rw [hm]
          exact List.mem_append_right _ hr
    rw [cmL]
    intro hc
    have := hk n hp
    rw [hc] at this
    cases this
/-- no row comes twice -/
theorem cmL_nodup {pr : Nat → Nat → Bool} {n : Nat} (hn : n ≤ 11) : ∀ {d s : Nat} {L : List Nat}, Pfx n s L → L.length + d = n → (cmL (mayN pr n) n d s L).Nodup
  | 0, s, L, _, _ => by
    rw [cmL]
    simp
  | d + 1, s, L, hP, hd => by
    rw [cmL]
    have hk : ∀ k, k ≤ n → (cmK (cmL (mayN pr n) n d) (mayN pr n) s L k).Nodup := fun k => by
      induction k with
      | zero => intro _; exact List.nodup_nil
      | succ k ih =>
        intro hkn
        rw [cmK, List.nodup_append]
        refine ⟨ih (by omega), ?_, ?_⟩
        · cases hm : mayN pr n s k with
          | false => exact List.nodup_nil
          | true => exact cmL_nodup hn (Pfx_s hn hP (by omega) (may_bit hm)) (by rw [List.length_append, List.length_singleton]; omega)
        · intro a ha b hb hab
          subst hab
          cases hm : mayN pr n s k with
          | false => rw [hm] at hb; cases hb
          | true =>
            rw [hm] at hb
            obtain ⟨p, h1, h2, h3⟩ := cmK_mem ha
            obtain ⟨-, -, T1, e1⟩ := cmL_mem hn (Pfx_s hn hP (by omega) (may_bit h2)) (by rw [List.length_append, List.length_singleton]; omega) h3
            obtain ⟨-, -, T2, e2⟩ := cmL_mem hn (Pfx_s hn hP (show k < n by omega) (may_bit hm)) (by rw [List.length_append, List.length_singleton]; omega) hb
            have q1 : atL a L.length = p := by
              rw [e1, atL_lt (by rw [List.length_append, List.length_singleton]; omega), atL_eq]
            have q2 : atL a L.length = k := by
              rw [e2, atL_lt (by rw [List.length_append, List.length_singleton]; omega), atL_eq]
            omega
    exact hk n (Nat.le_refl n)
/-! costs of beginnings -/
theorem spanCost_congr {c n : Nat} {w v : Nat → Nat → Nat} {k : Nat} (h : ∀ a b, a < k → b < k → w a b = v a b) : spanCost c n w k = spanCost c n v k := by
  unfold spanCost
  apply fo_congr
  intro b hb
  apply fo_congr
  intro a ha
  unfold hC
  rw [h a b (by omega) hb]
theorem spanCost_mono {c n : Nat} {w : Nat → Nat → Nat} {k : Nat} : ∀ {m : Nat}, k ≤ m → spanCost c n w k ≤ spanCost c n w m
  | 0, h => by
    have : k = 0 := by omega
    rw [this]
    exact Nat.le_refl _
  | m + 1, h => by
    rcases Nat.lt_or_ge k (m + 1) with z | z
    · exact Nat.le_trans (spanCost_mono (show k ≤ m by omega)) (opC_ge c _ _)
    · have : k = m + 1 := by omega
      rw [this]
      exact Nat.le_refl _
theorem rowC_pre {c n : Nat} {rN : Nat → Nat → Nat} (L T : List Nat) : rowC c n rN L ≤ rowC c n rN (L ++ T) := by
  unfold rowC
  rw [spanCost_congr (w := fun a b => rN (atL L a) (atL L b)) (v := fun a b => rN (atL (L ++ T) a) (atL (L ++ T) b)) (fun a b ha hb => by rw [atL_lt ha, atL_lt hb])]
  exact spanCost_mono (by rw [List.length_append]; omega)
theorem rowC_app {c n : Nat} {rN : Nat → Nat → Nat} (L : List Nat) (p : Nat) : rowC c n rN (L ++ [p]) = opC c (rowC c n rN L) (fo (opC c) (fun a => hC c n (fun a b => rN (atL (L ++ [p]) a) (atL (L ++ [p]) b)) a L.length) L.length) := by
  unfold rowC
  rw [List.length_append, List.length_singleton, spanCost_congr (w := fun a b => rN (atL L a) (atL L b)) (v := fun a b => rN (atL (L ++ [p]) a) (atL (L ++ [p]) b)) (k := L.length) (fun a b ha hb => by rw [atL_lt ha, atL_lt hb])]
  rfl
/-! rows met -/
theorem mt_skip {cst : List Nat → Nat} {st : Nat × List (List Nat)} : ∀ {rows : List (List Nat)}, (∀ r, r ∈ rows → st.1 < cst r) → rows.foldl (mtP cst) st = st
  | [], _ => rfl
  | r :: rs, h => by
    have h1 := h r List.mem_cons_self
    rw [List.foldl_cons, show mtP cst st r = st by unfold mtP; rw [if_neg (by omega), if_neg (by omega)]]
    exact mt_skip (fun x hx => h x (List.mem_cons_of_mem _ hx))
theorem mt_le {cst : List Nat → Nat} : ∀ {rows : List (List Nat)} {st : Nat × List (List Nat)}, (rows.foldl (mtP cst) st).1 ≤ st.1
  | [], _ => Nat.le_refl _
  | r :: rs, st => by
    rw [List.foldl_cons]
    refine Nat.le_trans mt_le ?_
    unfold mtP
    split
    · show cst r ≤ st.1
      omega
    · split
      · exact Nat.le_refl _
      · exact Nat.le_refl _
theorem mt_len {cst : List Nat → Nat} : ∀ {rows : List (List Nat)} {st : Nat × List (List Nat)}, (rows.foldl (mtP cst) st).2.length ≤ st.2.length + rows.length
  | [], _ => Nat.le_refl _
  | r :: rs, st => by
    rw [List.foldl_cons]
    refine Nat.le_trans mt_len ?_
    rw [List.length_cons]
    have : (mtP cst st r).2.length ≤ st.2.length + 1 := by
      unfold mtP
      split
      · show 1 ≤ _
        omega
      · split
        · show (st.2 ++ [r]).length ≤ _
          rw [List.length_append, List.length_singleton]
          omega
        · omega
    omega
def minR (cst : List Nat → Nat) (lo : Nat) (rows : List (List Nat)) : Nat := rows.foldl (fun m r => min m (cst r)) lo
theorem minR_le {cst : List Nat → Nat} : ∀ {rows : List (List Nat)} {lo : Nat}, minR cst lo rows ≤ lo
  | [], _ => Nat.le_refl _
  | r :: rs, lo => by
    show minR cst (min lo (cst r)) rs ≤ lo
    have := minR_le (cst := cst) (rows := rs) (lo := min lo (cst r))
    omega
theorem mt_min {cst : List Nat → Nat} : ∀ {rows : List (List Nat)} {lo : Nat} {FL : List (List Nat)}, rows.foldl (mtP cst) (lo, FL) = (minR cst lo rows, (if minR cst lo rows < lo then [] else FL) ++ rows.filter (fun r => decide (cst r = minR cst lo rows)))
  | [], lo, FL => by
    show (lo, FL) = (lo, (if lo < lo then [] else FL) ++ [])
    rw [if_neg (by omega), List.append_nil]
  | r :: rs, lo, FL => by
    rw [List.foldl_cons]
    have hle := minR_le (cst := cst) (rows := rs) (lo := min lo (cst r))
    rw [show minR cst lo (r :: rs) = minR cst (min lo (cst r)) rs from rfl]
    unfold mtP
    by_cases h1 : cst r < lo
    · have e1 : min lo (cst r) = cst r := by omega
      rw [e1] at hle ⊢
      rw [if_pos h1]
      show rs.foldl (mtP cst) (cst r, [r]) = _
      rw [mt_min (rows := rs) (lo := cst r) (FL := [r]), if_pos (show minR cst (cst r) rs < lo by omega), List.filter_cons]
      by_cases h2 : cst r = minR cst (cst r) rs
      · rw [if_neg (by omega), if_pos (by rw [decide_eq_true h2])]
        rfl
      · rw [if_pos (by omega), if_neg (by rw [decide_eq_false h2]; simp)]
    · rw [if_neg h1]
      by_cases h2 : cst r = lo
      · have e1 : min lo (cst r) = lo := by omega
        rw [e1] at hle ⊢
        rw [if_pos h2]
        show rs.foldl (mtP cst) (lo, FL ++ [r]) = _
        rw [mt_min (rows := rs) (lo := lo) (FL := FL ++ [r]), List.filter_cons]
        by_cases h3 : minR cst lo rs < lo
        · rw [if_pos h3, if_pos h3, if_neg (by rw [decide_eq_false (by omega)]; simp)]
        · rw [if_neg h3, if_neg h3, if_pos (by rw [decide_eq_true (by omega)])]
          rw [List.append_assoc]
          rfl
      · have e1 : min lo (cst r) = lo := by omega
        rw [e1] at hle ⊢
        rw [if_neg h2]
        show rs.foldl (mtP cst) (lo, FL) = _
        rw [mt_min (rows := rs) (lo := lo) (FL := FL), List.filter_cons, decide_eq_false (show ¬ cst r = minR cst lo rs by omega)]
        rfl
theorem minR_lo {cst : List Nat → Nat} {a b : Nat} : ∀ {rows : List (List Nat)}, rows ≠ [] → (∀ r, r ∈ rows → cst r ≤ a ∧ cst r ≤ b) → minR cst a rows = minR cst b rows
  | [], h, _ => absurd rfl h
  | r :: rs, _, h => by
    show minR cst (min a (cst r)) rs = minR cst (min b (cst r)) rs
    have := h r List.mem_cons_self
    rw [show min a (cst r) = cst r by omega, show min b (cst r) = cst r by omega]
theorem minR_lt {cst : List Nat → Nat} {a : Nat} {rows : List (List Nat)} (h0 : rows ≠ []) (h : ∀ r, r ∈ rows → cst r < a) : minR cst a rows < a := by
  cases rows with
  | nil => exact absurd rfl h0
  | cons r rs =>
    have h1 := h r List.mem_cons_self
    have h2 := minR_le (cst := cst) (rows := rs) (lo := min a (cst r))
    show minR cst (min a (cst r)) rs < a
    omega
/-! a row as one number -/
def cF (G : Nat → Nat) (x k : Nat) : Nat → Nat
  | 0 => x
  | m + 1 => 8 * cF G x k m + G (k + m)
theorem cF_s (G : Nat → Nat) (x k : Nat) : ∀ m, cF G x k (m + 1) = cF G (8 * x + G k) (k + 1) m
  | 0 => rfl
  | m + 1 => by
    rw [cF, cF_s G x k m, cF, show k + (m + 1) = k + 1 + m by omega]
theorem fold_cF {G : Nat → Nat} : ∀ {L : List Nat} {x k : Nat}, (∀ j, j < L.length → G (k + j) = atL L j) → L.foldl (fun x p => 8 * x + p) x = cF G x k L.length
  | [], x, k, _ => rfl
  | p :: L, x, k, h => by
    rw [List.foldl_cons, List.length_cons, cF_s]
    have h0 := h 0 (by rw [List.length_cons]; omega)
    have hp : G k = p := h0
    rw [hp]
    refine fold_cF (fun j hj => ?_)
    have := h (j + 1) (by rw [List.length_cons]; omega)
    rw [show k + 1 + j = k + (j + 1) by omega, this]
    rfl
theorem codeL_cF (L : List Nat) : codeL L = cF (atL L) 0 0 L.length := fold_cF (fun j _ => by rw [Nat.zero_add])
theorem cF_lt {G : Nat → Nat} : ∀ {m : Nat}, (∀ j, j < m → G j < 8) → cF G 0 0 m < 8 ^ m
  | 0, _ => by
    show 0 < 1
    decide
  | m + 1, h => by
    have h1 := cF_lt (fun j hj => h j (show j < m + 1 by omega)) (m := m)
    have h2 := h m (by omega)
    rw [cF, Nat.pow_succ, Nat.zero_add]
    omega
theorem cF_digit {G : Nat → Nat} : ∀ {m i : Nat}, (∀ j, j < m → G j < 8) → i < m → cF G 0 0 m / 8 ^ (m - 1 - i) % 8 = G i
  | 0, i, _, h => absurd h (by omega)
  | m + 1, i, h, hi => by
    have h2 := h m (by omega)
    rw [cF, Nat.zero_add]
    rcases Nat.lt_or_ge i m with z | z
    · have e : m + 1 - 1 - i = (m - 1 - i) + 1 := by omega
      rw [e, Nat.pow_succ, Nat.mul_comm (8 ^ (m - 1 - i)) 8, ← Nat.div_div_eq_div_mul, show (8 * cF G 0 0 m + G m) / 8 = cF G 0 0 m by omega]
      exact cF_digit (fun j hj => h j (by omega)) z
    · have : i = m := by omega
      subst this
      rw [show i + 1 - 1 - i = 0 by omega, Nat.pow_zero, Nat.div_one]
      omega
theorem cF_inj {G H : Nat → Nat} {m : Nat} (hG : ∀ j, j < m → G j < 8) (hH : ∀ j, j < m → H j < 8) (h : cF G 0 0 m = cF H 0 0 m) : ∀ j, j < m → G j = H j := fun j hj => by
  rw [← cF_digit hG hj, ← cF_digit hH hj, h]
theorem code_n {rp : Nat → Int32} {L : List Nat} (hL : L.length ≤ 7) (h8 : ∀ p, p ∈ L → p < 8) (hp : ∀ j, j < L.length → rp j = nI (atL L j)) : f_X8_code (nI L.length) rp = some (nI (codeL L)) := by
  rw [codeL_cF]
  unfold f_X8_code
  have h : loopS (fun (s : Int32 × Int32) => f_X8_code_L4 (nI L.length) rp s.1 s.2) ((0 : Int32), (0 : Int32)) = some (nI (cF (atL L) 0 0 L.length)) := by
    refine loop_go (fun i => (nI (cF (atL L) 0 0 i), nI i)) L.length rfl (fun i hi => ?_) ?_
    · try dsimp only
      unfold f_X8_code_L4
      have hd := h8 _ (atL_mem hi)
      have hlt := cF_lt (G := atL L) (m := i) (fun j hj => h8 _ (atL_mem (show j < L.length by omega)))
      have hpw : 8 ^ i ≤ 8 ^ 6 := Nat.pow_le_pow_right (by decide) (by omega)
      have hsh : nI (cF (atL L) 0 0 i) <<< ((3 : Int32) &&& 31) = nI (cF (atL L) 0 0 i * 2 ^ 3) := pk_shlN ((3 : Int32) &&& 31) 3 (by decide) (by omega)
      have hor : cF (atL L) 0 0 i * 2 ^ 3 ||| atL L i = 8 * cF (atL L) 0 0 i + atL L i := by
        rw [Nat.mul_comm]
        exact (Nat.two_pow_add_eq_or_of_lt (i := 3) hd (cF (atL L) 0 0 i)).symm
      rw [if_neg (nI_ge hi (by omega)), gi_n (by omega) (by omega), hp i hi, nI_1]
      simp only [Option.bind_some]
      rw [hsh, or_n, hor, cF, Nat.zero_add]
    · try dsimp only
      unfold f_X8_code_L4
      rw [if_pos (nI_le (Nat.le_refl _) (by omega))]
  rw [h]
  rfl
