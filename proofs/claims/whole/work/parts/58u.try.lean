/-! LAYER 2: rows tried by the class -/
theorem FoundOk_app {found : Nat → Int32} {FL : List (List Nat)} {r : List Nat} (h : FoundOk found FL) : FoundOk (upd found FL.length (nI (codeL r))) (FL ++ [r]) := fun k hk => by
  rw [List.length_append, List.length_singleton] at hk
  by_cases e : k = FL.length
  · subst e
    rw [pk_us, List.getElem?_append_right (Nat.le_refl _), Nat.sub_self]
    rfl
  · rw [pk_un e, List.getElem?_append_left (by omega)]
    exact h k (by omega)
theorem FoundOk_one (found : Nat → Int32) (r : List Nat) : FoundOk (upd found 0 (nI (codeL r))) [r] := fun k hk => by
  have : k = 0 := by
    rw [List.length_singleton] at hk
    omega
  subst this
  rw [pk_us]
  rfl
theorem meet_n {found rp : Nat → Int32} {L : List Nat} {FL : List (List Nat)} {lo acc : Nat} {cst : List Nat → Nat} (hL : L.length ≤ 7) (h8 : ∀ p, p ∈ L → p < 8) (hp : ∀ j, j < L.length → rp j = nI (atL L j)) (hacc : acc = cst L) (hle : acc ≤ lo) (hlo : lo ≤ 1073741824) (hF : FoundOk found FL) (hlen : FL.length < 5040) : ∃ fd, f_X8_meet (nI lo) (nI FL.length) found (nI L.length) rp (nI acc) = some (nI (mtP cst (lo, FL) L).1, nI (mtP cst (lo, FL) L).2.length, fd) ∧ FoundOk fd (mtP cst (lo, FL) L).2 := by
  unfold f_X8_meet mtP
  rw [code_n hL h8 hp, ← hacc]
  by_cases h : acc < lo
  · refine ⟨upd found 0 (nI (codeL L)), ?_, ?_⟩
    · rw [if_neg (nI_ge h (by omega)), if_pos h]
      simp only [b2, Option.bind_some]
      rw [if_neg (show ¬ (5040 : Int32) ≤ 0 by decide), show si found 5040 (0 : Int32) (nI (codeL L)) = some (upd found 0 (nI (codeL L))) from si_n (k := 0) (by omega) (by omega)]
      rfl
    · rw [if_pos h]
      exact FoundOk_one found L
  · have e : acc = lo := by omega
    refine ⟨upd found FL.length (nI (codeL L)), ?_, ?_⟩
    · rw [if_pos (nI_le (by omega) (by omega)), if_neg h, if_pos e]
      simp only [b2, Option.bind_some]
      rw [if_neg (show ¬ (5040 : Int32) ≤ nI FL.length from nI_ge (b := 5040) hlen (by decide)), si_n hlen (by omega), nI_1, List.length_append, List.length_singleton]
      rfl
    · rw [if_neg h, if_pos e]
      exact FoundOk_app hF
theorem cmK_mono {rc : Nat → List Nat → List (List Nat)} {may : Nat → Nat → Bool} {s : Nat} {L : List Nat} {k : Nat} : ∀ {m : Nat}, k ≤ m → (cmK rc may s L k).length ≤ (cmK rc may s L m).length
  | 0, h => by
    have : k = 0 := by omega
    rw [this]
    exact Nat.le_refl _
  | m + 1, h => by
    rcases Nat.lt_or_ge k (m + 1) with z | z
    · have := cmK_mono (rc := rc) (may := may) (s := s) (L := L) (show k ≤ m by omega)
      rw [cmK.eq_2 rc may s L m, List.length_append]
      omega
    · have : k = m + 1 := by omega
      rw [this]
      exact Nat.le_refl _
theorem ext_rp {rp : Nat → Int32} {L : List Nat} {p : Nat} (hp : ∀ j, j < L.length → rp j = nI (atL L j)) : ∀ j, j < (L ++ [p]).length → upd rp L.length (nI p) j = nI (atL (L ++ [p]) j) := fun j hj => by
  rw [List.length_append, List.length_singleton] at hj
  by_cases e : j = L.length
  · subst e
    rw [pk_us, atL_eq]
  · rw [pk_un e, atL_lt (by omega)]
    exact hp j (by omega)
theorem rowC_le {c n : Nat} {rd : Nat → Nat → Int32} {rN : Nat → Nat → Nat} {L : List Nat} (hx : Cx n rd rN) (hlen : L.length ≤ n) (hL : ∀ p, p ∈ L → p < n) : rowC c n rN L ≤ 2662000 := spanCost_le hx.1 hlen (fun a b ha hb => (hx.2.1 _ _ (hL _ (atL_mem ha)) (hL _ (atL_mem hb))).2)
section TRY
variable {n c : Nat} {rd : Nat → Nat → Int32} {rN : Nat → Nat → Nat} {pr : Nat → Nat → Bool} {weights ahead : Nat → Int32}
theorem tryB_n (hx : Cx n rd rN) (hn7 : n ≤ 7) (hw : ∀ a b, a < n → b < n → weights (11 * a + b) = rd a b) (ha : ∀ b, b < 11 → ahead b = nI (mkB (fun a => pr a b) 11)) (hq : ∀ a b, a < 11 → b < 11 → pr a b = true → a < n ∧ b < n) (hc : c = 0 ∨ c = 4) : ∀ (d f : Nat), d < f → ∀ (s : Nat) (L : List Nat) (lo : Nat) (FL : List (List Nat)) (found rp : Nat → Int32), Pfx n s L → L.length + d = n → (∀ j, j < L.length → rp j = nI (atL L j)) → lo ≤ 1073741824 → rowC c n rN L ≤ lo → FoundOk found FL → FL.length + (cmL (mayN pr n) n d s L).length ≤ 5040 → ∃ fd rp2, f_X8_tryBehind f (nI c) (nI lo) (nI FL.length) (nI n) weights ahead found (nI L.length) rp (nI s) (nI (rowC c n rN L)) = some (nI ((cmL (mayN pr n) n d s L).foldl (mtP (rowC c n rN)) (lo, FL)).1, nI ((cmL (mayN pr n) n d s L).foldl (mtP (rowC c n rN)) (lo, FL)).2.length, fd, nI L.length, rp2) ∧ FoundOk fd ((cmL (mayN pr n) n d s L).foldl (mtP (rowC c n rN)) (lo, FL)).2 ∧ ∀ j, j < L.length → rp2 j = nI (atL L j)
  | 0, f, hf, s, L, lo, FL, found, rp, hP, hd, hrp, hlo, hacc, hF, hlen => by
    obtain ⟨f, rfl⟩ : ∃ g, f = g + 1 := ⟨f - 1, by omega⟩
    have hlL : L.length = n := by omega
    obtain ⟨fd, g1, g2⟩ := meet_n (rp := rp) (cst := rowC c n rN) (show L.length ≤ 7 by omega) (fun p hp => by have := (hP.2.2.1 p hp).1; omega) hrp rfl hacc hlo hF (by rw [cmL, List.length_singleton] at hlen; omega)
    refine ⟨fd, rp, ?_, g2, hrp⟩
    rw [f_X8_tryBehind]
    unfold f_X8_tryBehind_B
    rw [if_pos (nI_le (by omega) (by omega)), g1]
    rfl
  | d + 1, f, hf, s, L, lo, FL, found, rp, hP, hd, hrp, hlo, hacc, hF, hlen => by
    obtain ⟨f, rfl⟩ : ∃ g, f = g + 1 := ⟨f - 1, by omega⟩
    have hn := hx.1
    have hpw : 2 ^ n ≤ 2 ^ 11 := Nat.pow_le_pow_right (by decide) hn
    have hs := hP.1
    rw [cmL] at hlen
    have hrl := rowC_le (c := c) (L := L) hx (by omega) (fun p hp => (hP.2.2.1 p hp).1)
    have hloop : ∃ x, loopS (fun (t : Int32 × Int32 × Int32 × (Nat → Int32) × Int32 × (Nat → Int32)) => f_X8_tryBehind_L34 (f_X8_tryBehind f) (nI s) (nI (rowC c n rN L)) (nI L.length) (nI c) (nI n) weights ahead t.1 t.2.1 t.2.2.1 t.2.2.2.1 t.2.2.2.2.1 t.2.2.2.2.2) ((0 : Int32), nI lo, nI FL.length, found, nI L.length, rp) = some x ∧ x.1 = nI ((cmK (cmL (mayN pr n) n d) (mayN pr n) s L n).foldl (mtP (rowC c n rN)) (lo, FL)).1 ∧ x.2.1 = nI ((cmK (cmL (mayN pr n) n d) (mayN pr n) s L n).foldl (mtP (rowC c n rN)) (lo, FL)).2.length ∧ FoundOk x.2.2.1 ((cmK (cmL (mayN pr n) n d) (mayN pr n) s L n).foldl (mtP (rowC c n rN)) (lo, FL)).2 ∧ x.2.2.2.1 = nI L.length ∧ ∀ j, j < L.length → x.2.2.2.2 j = nI (atL L j) := by
      refine loop_inv (fun p (t : Int32 × Int32 × Int32 × (Nat → Int32) × Int32 × (Nat → Int32)) => t.1 = nI p ∧ t.2.1 = nI ((cmK (cmL (mayN pr n) n d) (mayN pr n) s L p).foldl (mtP (rowC c n rN)) (lo, FL)).1 ∧ t.2.2.1 = nI ((cmK (cmL (mayN pr n) n d) (mayN pr n) s L p).foldl (mtP (rowC c n rN)) (lo, FL)).2.length ∧ FoundOk t.2.2.2.1 ((cmK (cmL (mayN pr n) n d) (mayN pr n) s L p).foldl (mtP (rowC c n rN)) (lo, FL)).2 ∧ t.2.2.2.2.1 = nI L.length ∧ ∀ j, j < L.length → t.2.2.2.2.2 j = nI (atL L j)) (fun (x : Int32 × Int32 × (Nat → Int32) × Int32 × (Nat → Int32)) => x.1 = nI ((cmK (cmL (mayN pr n) n d) (mayN pr n) s L n).foldl (mtP (rowC c n rN)) (lo, FL)).1 ∧ x.2.1 = nI ((cmK (cmL (mayN pr n) n d) (mayN pr n) s L n).foldl (mtP (rowC c n rN)) (lo, FL)).2.length ∧ FoundOk x.2.2.1 ((cmK (cmL (mayN pr n) n d) (mayN pr n) s L n).foldl (mtP (rowC c n rN)) (lo, FL)).2 ∧ x.2.2.2.1 = nI L.length ∧ ∀ j, j < L.length → x.2.2.2.2 j = nI (atL L j)) n ?_ ?_ ⟨nI_0.symm, rfl, rfl, hF, rfl, hrp⟩
      · rintro p ⟨t1, t2, t3, t4, t5, t6⟩ hp ⟨i1, i2, i3, i4, i5, i6⟩
        dsimp only at i1 i2 i3 i4 i5 i6 ⊢
        subst i1 i2 i3 i5
        have hle0 := mt_le (cst := rowC c n rN) (rows := cmK (cmL (mayN pr n) n d) (mayN pr n) s L p) (st := (lo, FL))
        have hln0 := mt_len (cst := rowC c n rN) (rows := cmK (cmL (mayN pr n) n d) (mayN pr n) s L p) (st := (lo, FL))
        have hmono := cmK_mono (rc := cmL (mayN pr n) n d) (may := mayN pr n) (s := s) (L := L) (show p + 1 ≤ n by omega)
        rw [cmK.eq_2 _ _ _ _ p] at hmono
        rw [cmK.eq_2 _ _ _ _ p, List.foldl_append]
        dsimp only at hle0 hln0
        generalize (cmK (cmL (mayN pr n) n d) (mayN pr n) s L p).foldl (mtP (rowC c n rN)) (lo, FL) = st at i4 hle0 hln0 ⊢
        unfold f_X8_tryBehind_L34
        rw [if_neg (nI_ge hp (by omega)), holds_n (by omega) (by omega), mayF_n hn hp ha hq, nI_1]
        cases hb : s.testBit p with
        | true =>
          rw [show mayN pr n s p = false by unfold mayN; rw [hb]; rfl]
          exact ⟨_, rfl, rfl, rfl, rfl, i4, rfl, i6⟩
        | false =>
          cases hall : allAhead pr s p n with
          | false =>
            rw [show mayN pr n s p = false by unfold mayN; rw [hall, Bool.and_false]]
            exact ⟨_, rfl, rfl, rfl, rfl, i4, rfl, i6⟩
          | true =>
            have hmay : mayN pr n s p = true := by unfold mayN; rw [hb, hall]; rfl
            rw [hmay] at hmono ⊢
            have hP2 := Pfx_s hn hP hp hb
            have hl1 : (L ++ [p]).length = L.length + 1 := by rw [List.length_append, List.length_singleton]
            have hrp2 := ext_rp (p := p) i6
            have hcost := rowC_app (c := c) (n := n) (rN := rN) L p
            have hws := withSpans_n (c := c) (place := L.length) (acc := rowC c n rN L) (F := atL (L ++ [p])) (posts := upd t6 L.length (nI p)) hx hw hc (by omega) (fun j hj => ⟨hrp2 j (by omega), (hP2.2.2.1 _ (atL_mem (by omega))).1⟩) (by omega)
            rw [← hcost] at hws
            have hrl2 := rowC_le (c := c) (L := L ++ [p]) hx (by omega) (fun q hq2 => (hP2.2.2.1 q hq2).1)
            have happ : f_X5_append (nI L.length) t6 (nI p) = some (nI (L.length + 1), upd t6 L.length (nI p)) := by
              unfold f_X5_append
              rw [if_neg (show ¬ (11 : Int32) ≤ nI L.length from nI_ge (b := 11) (by omega) (by decide)), si_n (by omega) (by omega), nI_1]
              rfl
            have hdrop : f_X5_dropLast (nI (L.length + 1)) = some (nI L.length) := by
              unfold f_X5_dropLast
              rw [if_neg (nI_nle (by omega) (by omega)), show nI (L.length + 1) - (1 : Int32) = nI L.length from nI_pred _]
            simp only [Option.bind_some, b2I, Bool.false_eq_true, if_false, if_true]
            rw [if_neg (show ¬ (1 : Int32) = 0 by decide), happ]
            simp only [b2, Option.bind_some]
            rw [hws]
            simp only [Option.bind_some]
            by_cases hcut : st.1 < rowC c n rN (L ++ [p])
            · rw [if_pos (nI_lt hcut (by omega))]
              simp only [b5, Option.bind_some]
              rw [hdrop]
              rw [mt_skip (st := st) (rows := cmL (mayN pr n) n d (s ||| 2 ^ p) (L ++ [p])) (fun r hr => by
                obtain ⟨-, -, T, e⟩ := cmL_mem hn hP2 (by omega) hr
                rw [e]
                exact Nat.lt_of_lt_of_le hcut (rowC_pre (L ++ [p]) T))]
              refine ⟨_, rfl, rfl, rfl, rfl, i4, rfl, fun j hj => ?_⟩
              show upd t6 L.length (nI p) j = _
              rw [pk_un (by omega)]
              exact i6 j hj
            · rw [if_neg (nI_nlt (by omega) (by omega)), one_shl (by omega), or_n]
              rw [if_pos rfl, List.length_append] at hmono
              obtain ⟨fd, rp3, g1, g2, g3⟩ := tryB_n hx hn7 hw ha hq hc d f (by omega) (s ||| 2 ^ p) (L ++ [p]) st.1 st.2 t4 (upd t6 L.length (nI p)) hP2 (by omega) hrp2 (by omega) (by omega) i4 (by omega)
              rw [hl1] at g1 g3
              rw [g1]
              simp only [b5, Option.bind_some]
              rw [hdrop]
              refine ⟨_, rfl, rfl, rfl, rfl, g2, rfl, fun j hj => ?_⟩
              show rp3 j = _
              rw [g3 j (by omega), atL_lt hj]
      · rintro ⟨t1, t2, t3, t4, t5, t6⟩ ⟨i1, i2, i3, i4, i5, i6⟩
        dsimp only at i1 i2 i3 i4 i5 i6 ⊢
        subst i1 i2 i3 i5
        unfold f_X8_tryBehind_L34
        rw [if_pos (nI_le (Nat.le_refl n) (by omega))]
        exact ⟨_, rfl, rfl, rfl, i4, rfl, i6⟩
    obtain ⟨⟨x1, x2, x3, x4, x5⟩, g1, g2, g3, g4, g5, g6⟩ := hloop
    dsimp only at g2 g3 g4 g5 g6
    refine ⟨x3, x5, ?_, g4, g6⟩
    rw [f_X8_tryBehind]
    unfold f_X8_tryBehind_B
    rw [if_neg (nI_ge (by omega) (by omega)), if_pos (show nI L.length < (7 : Int32) from nI_lt (b := 7) (by omega) (by decide)), g1, cmL, g2, g3, g5]
    rfl
theorem trialC_n {sF lo to : Int32} {found rp : Nat → Int32} {rs : Int32} (hx : Cx n rd (fun x y => (rd x y).toNatClampNeg)) (hn7 : n ≤ 7) (hw : ∀ a b, a < n → b < n → weights (11 * a + b) = rd a b) (ha : ∀ b, b < 11 → ahead b = nI (mkB (fun a => pr a b) 11)) (hq : ∀ a b, a < 11 → b < 11 → pr a b = true → a < n ∧ b < n) (hc : c = 0 ∨ c = 4) (hT : TrialInv n rd pr sF lo to found) : ∃ fd rs2 rp2, f_X8_solve sF lo to (nI n) weights ahead found rs rp (nI c) = some (nI c, nI (trialSt n rd pr c).1, nI (trialSt n rd pr c).2.length, fd, rs2, rp2) ∧ FoundOk fd (trialSt n rd pr c).2 := by
  have hn := hx.1
  unfold f_X8_solve
  by_cases hs : sF = nI c
  · rcases hT with q | ⟨c0, q1, q2, q3, q4, q5, q6⟩
    · rw [hs] at q
      exact absurd q (nI_m1 (by omega))
    · have e : c0 = c := (nI_c (by omega) (by omega)).mp (q2.symm.trans hs)
      subst e
      refine ⟨found, rs, rp, ?_, q6⟩
      rw [if_pos hs, q4, q5, hs]
  · have hlen := cmL_len (pr := pr) hn (Pfx_0 n) (show ([] : List Nat).length + n = n by simp)
    have h7 : fct n ≤ 5040 := by
      have : ∀ k, k < 8 → fct k ≤ 5040 := by decide
      exact this n (by omega)
    obtain ⟨fd, rp2, g1, g2, g3⟩ := tryB_n (weights := weights) (ahead := ahead) hx hn7 hw ha hq hc n 8 (by omega) 0 [] 1073741824 [] found rp (Pfx_0 n) (by simp) (fun j hj => by cases hj) (Nat.le_refl _) (Nat.zero_le _) (fun k hk => by cases hk) (by show 0 + _ ≤ 5040; omega)
    refine ⟨fd, (0 : Int32), rp2, ?_, g2⟩
    unfold f_X5_clear
    rw [if_neg hs]
    simp only [Option.bind_some]
    rw [show f_X8_tryBehind 8 (nI c) (1073741824 : Int32) (0 : Int32) (nI n) weights ahead found (0 : Int32) rp (0 : Int32) (0 : Int32) = _ from g1]
    rfl
end TRY
