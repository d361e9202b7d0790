/-! LAYER 2: rows tried by the reference -/
def sameB (saved : Nat → Int32) (r : List Nat) : Nat → Bool
  | 0 => true
  | k + 1 => sameB saved r k && decide (nI (atL r k) = saved k)
def wrA (kth : Nat → Int32) (r : List Nat) (k : Nat) : Nat → Int32 := fun j => if j < k then nI (atL r j) else kth j
theorem wrA_0 (kth : Nat → Int32) (r : List Nat) : wrA kth r 0 = kth := by
  funext j
  unfold wrA
  rw [if_neg (by omega)]
theorem wrA_s (kth : Nat → Int32) (r : List Nat) (k : Nat) : upd (wrA kth r k) k (nI (atL r k)) = wrA kth r (k + 1) := by
  funext j
  unfold upd wrA
  by_cases h : j = k
  · rw [if_pos h, if_pos (by omega), h]
  · rw [if_neg h]
    by_cases h2 : j < k
    · rw [if_pos h2, if_pos (by omega)]
    · rw [if_neg h2, if_neg (by omega)]
def p2 (cst : List Nat → Nat) (m n : Nat) (ask : Int32) (sm : Bool) (saved : Nat → Int32) (st : Nat × Int32 × (Nat → Int32)) (r : List Nat) : Nat × Int32 × (Nat → Int32) := if cst r = m then (st.1 + 1, (if sm && sameB saved r n then nI st.1 else st.2.1), (if nI st.1 = ask then wrA st.2.2 r n else st.2.2)) else st
section TRYM
variable {n c : Nat} {rN : Nat → Nat → Nat} {wide places weights pair : Nat → Int32}
theorem costL_n {row : Nat → Int32} {L : List Nat} (hx : Cx n (rdM wide places weights) rN) (hc : c = 0 ∨ c = 4) (hl : L.length = n) (hL : ∀ p, p ∈ L → p < n) (hr : ∀ j, j < L.length → row j = nI (atL L j)) : f_X11_costOfRow (nI n) (nI L.length) wide places weights pair row (nI c) = some (nI (rowC c n rN L)) := by
  unfold rowC
  rw [hl]
  exact costM_span (F := atL L) hx hc (fun j hj => hr j (by omega)) (fun j hj => hL _ (atL_mem (by omega)))
theorem tryR1_n (hx : Cx n (rdM wide places weights) rN) (h01 : ∀ a b, a < 11 → b < 11 → pair (11 * a + b) = 0 ∨ pair (11 * a + b) = 1) (hc : c = 0 ∨ c = 4) (sm br ask rank : Int32) (saved kth : Nat → Int32) : ∀ (d f : Nat), d < f → ∀ (s : Nat) (L : List Nat) (lr : Nat) (row : Nat → Int32), Pfx n s L → L.length + d = n → (∀ j, j < L.length → row j = nI (atL L j)) → lr ≤ 1000000000 → ∃ row2, f_X11_tryRows f (nI n) (nI L.length) sm (nI lr) br ask rank wide places weights pair row saved kth (nI c) (nI s) (0 : Int32) = some (nI L.length, nI (minR (rowC c n rN) lr (cmL (mayN (prQ pair) n) n d s L)), br, rank, row2, kth) ∧ ∀ j, j < L.length → row2 j = nI (atL L j)
  | 0, f, hf, s, L, lr, row, hP, hd, hrow, hlr => by
    obtain ⟨f, rfl⟩ : ∃ g, f = g + 1 := ⟨f - 1, by omega⟩
    have hn := hx.1
    have hlL : L.length = n := by omega
    have hrl := rowC_le (c := c) (L := L) hx (by omega) (fun p hp => (hP.2.2.1 p hp).1)
    refine ⟨row, ?_, hrow⟩
    rw [f_X11_tryRows]
    unfold f_X11_tryRows_B
    rw [if_pos (by rw [hlL]), costL_n hx hc hlL (fun p hp => (hP.2.2.1 p hp).1) hrow]
    simp only [Option.bind_some, if_true]
    rw [show minR (rowC c n rN) lr (cmL (mayN (prQ pair) n) n 0 s L) = min lr (rowC c n rN L) from rfl]
    by_cases h : lr ≤ rowC c n rN L
    · rw [if_pos (nI_le h (by omega)), Nat.min_eq_left h]
      rfl
    · rw [if_neg (nI_ge (by omega) (by omega)), Nat.min_eq_right (by omega)]
      rfl
  | d + 1, f, hf, s, L, lr, row, hP, hd, hrow, hlr => by
    obtain ⟨f, rfl⟩ : ∃ g, f = g + 1 := ⟨f - 1, by omega⟩
    have hn := hx.1
    have hpw : 2 ^ n ≤ 2 ^ 11 := Nat.pow_le_pow_right (by decide) hn
    have hs := hP.1
    have hloop : ∃ x, loopS (fun (t : Int32 × Int32 × Int32 × Int32 × Int32 × (Nat → Int32) × (Nat → Int32)) => f_X11_tryRows_L190 (f_X11_tryRows f) (nI c) (nI s) (0 : Int32) (nI n) sm ask wide places weights pair saved t.1 t.2.1 t.2.2.1 t.2.2.2.1 t.2.2.2.2.1 t.2.2.2.2.2.1 t.2.2.2.2.2.2) ((0 : Int32), nI L.length, nI lr, br, rank, row, kth) = some x ∧ x.1 = nI L.length ∧ x.2.1 = nI (minR (rowC c n rN) lr (cmK (cmL (mayN (prQ pair) n) n d) (mayN (prQ pair) n) s L n)) ∧ x.2.2.1 = br ∧ x.2.2.2.1 = rank ∧ (∀ j, j < L.length → x.2.2.2.2.1 j = nI (atL L j)) ∧ x.2.2.2.2.2 = kth := by
      refine loop_inv (fun p (t : Int32 × Int32 × Int32 × Int32 × Int32 × (Nat → Int32) × (Nat → Int32)) => t.1 = nI p ∧ t.2.1 = nI L.length ∧ t.2.2.1 = nI (minR (rowC c n rN) lr (cmK (cmL (mayN (prQ pair) n) n d) (mayN (prQ pair) n) s L p)) ∧ t.2.2.2.1 = br ∧ t.2.2.2.2.1 = rank ∧ (∀ j, j < L.length → t.2.2.2.2.2.1 j = nI (atL L j)) ∧ t.2.2.2.2.2.2 = kth) (fun (x : Int32 × Int32 × Int32 × Int32 × (Nat → Int32) × (Nat → Int32)) => x.1 = nI L.length ∧ x.2.1 = nI (minR (rowC c n rN) lr (cmK (cmL (mayN (prQ pair) n) n d) (mayN (prQ pair) n) s L n)) ∧ x.2.2.1 = br ∧ x.2.2.2.1 = rank ∧ (∀ j, j < L.length → x.2.2.2.2.1 j = nI (atL L j)) ∧ x.2.2.2.2.2 = kth) n ?_ ?_ ⟨nI_0.symm, rfl, rfl, rfl, rfl, hrow, rfl⟩
      · rintro p ⟨t1, t2, t3, t4, t5, t6, t7⟩ hp ⟨i1, i2, i3, i4, i5, i6, i7⟩
        dsimp only at i1 i2 i3 i4 i5 i6 i7 ⊢
        subst i1 i2 i3
        have j4 := i4.symm
        have j5 := i5.symm
        have j7 := i7.symm
        subst j4
        subst j5
        subst j7
        have hle0 := minR_le (cst := rowC c n rN) (rows := cmK (cmL (mayN (prQ pair) n) n d) (mayN (prQ pair) n) s L p) (lo := lr)
        have happ : ∀ X, minR (rowC c n rN) lr (cmK (cmL (mayN (prQ pair) n) n d) (mayN (prQ pair) n) s L p ++ X) = minR (rowC c n rN) (minR (rowC c n rN) lr (cmK (cmL (mayN (prQ pair) n) n d) (mayN (prQ pair) n) s L p)) X := fun X => by
          unfold minR
          rw [List.foldl_append]
        rw [cmK.eq_2 _ _ _ _ p, happ]
        generalize minR (rowC c n rN) lr (cmK (cmL (mayN (prQ pair) n) n d) (mayN (prQ pair) n) s L p) = m0 at hle0 ⊢
        unfold f_X11_tryRows_L190
        rw [if_neg (nI_ge hp (by omega)), mayM_n hn (by omega) hp h01, nI_1 p]
        cases hm : mayN (prQ pair) n s p with
        | false => exact ⟨_, rfl, rfl, rfl, rfl, rfl, rfl, i6, rfl⟩
        | true =>
          have hP2 := Pfx_s hn hP hp (may_bit hm)
          have hl1 : (L ++ [p]).length = L.length + 1 := by rw [List.length_append, List.length_singleton]
          obtain ⟨row2, g1, g2⟩ := tryR1_n hx h01 hc sm br ask rank saved kth d f (by omega) (s ||| 2 ^ p) (L ++ [p]) m0 (upd t6 L.length (nI p)) hP2 (by omega) (ext_rp i6) (by omega)
          rw [hl1] at g1 g2
          simp only [Option.bind_some, b2I, if_true]
          rw [if_neg (show ¬ (1 : Int32) = 0 by decide), si_n (by omega) (by omega), nI_1, one_shl (by omega), or_n]
          simp only [Option.bind_some]
          rw [g1]
          simp only [b6, Option.bind_some]
          rw [show nI (L.length + 1) - (1 : Int32) = nI L.length from nI_pred _]
          refine ⟨_, rfl, rfl, rfl, rfl, rfl, rfl, fun j hj => ?_, rfl⟩
          show row2 j = _
          rw [g2 j (by omega), atL_lt hj]
      · rintro ⟨t1, t2, t3, t4, t5, t6, t7⟩ ⟨i1, i2, i3, i4, i5, i6, i7⟩
        dsimp only at i1 i2 i3 i4 i5 i6 i7 ⊢
        subst i1 i2 i3
        have j4 := i4.symm
        have j5 := i5.symm
        have j7 := i7.symm
        subst j4
        subst j5
        subst j7
        unfold f_X11_tryRows_L190
        rw [if_pos (nI_le (Nat.le_refl n) (by omega))]
        exact ⟨_, rfl, rfl, rfl, rfl, rfl, i6, rfl⟩
    obtain ⟨⟨x1, x2, x3, x4, x5, x6⟩, g1, g2, g3, g4, g5, g6, g7⟩ := hloop
    dsimp only at g2 g3 g4 g5 g6 g7
    refine ⟨x5, ?_, g6⟩
    rw [f_X11_tryRows]
    unfold f_X11_tryRows_B
    rw [if_neg (fun q => by have := (nI_eq (by omega) (by omega)).mp q; omega), g1, cmL, g2, g3, g4, g5, g7]
    rfl
theorem tryR2_n (hx : Cx n (rdM wide places weights) rN) (h01 : ∀ a b, a < 11 → b < 11 → pair (11 * a + b) = 0 ∨ pair (11 * a + b) = 1) (hc : c = 0 ∨ c = 4) (sm ask : Int32) (smB : Bool) (hsm : ((if sm = nI n then (some (1 : Int32)) else (some (0 : Int32)) : Option (Int32))) = some (b2I smB)) (saved : Nat → Int32) (m : Nat) (hm0 : m < 100000000) : ∀ (d f : Nat), d < f → ∀ (s : Nat) (L : List Nat) (b : Nat) (rank : Int32) (kth : Nat → Int32) (row : Nat → Int32), Pfx n s L → L.length + d = n → (∀ j, j < L.length → row j = nI (atL L j)) → ∃ row2, f_X11_tryRows f (nI n) (nI L.length) sm (nI m) (nI b) ask rank wide places weights pair row saved kth (nI c) (nI s) (1 : Int32) = some (nI L.length, nI m, nI ((cmL (mayN (prQ pair) n) n d s L).foldl (p2 (rowC c n rN) m n ask smB saved) (b, rank, kth)).1, ((cmL (mayN (prQ pair) n) n d s L).foldl (p2 (rowC c n rN) m n ask smB saved) (b, rank, kth)).2.1, row2, ((cmL (mayN (prQ pair) n) n d s L).foldl (p2 (rowC c n rN) m n ask smB saved) (b, rank, kth)).2.2) ∧ ∀ j, j < L.length → row2 j = nI (atL L j)
  | 0, f, hf, s, L, b, rank, kth, row, hP, hd, hrow => by
    obtain ⟨f, rfl⟩ : ∃ g, f = g + 1 := ⟨f - 1, by omega⟩
    have hn := hx.1
    have hlL : L.length = n := by omega
    have hrl := rowC_le (c := c) (L := L) hx (by omega) (fun p hp => (hP.2.2.1 p hp).1)
    refine ⟨row, ?_, hrow⟩
    rw [f_X11_tryRows]
    unfold f_X11_tryRows_B
    rw [if_pos (by rw [hlL]), costL_n hx hc hlL (fun p hp => (hP.2.2.1 p hp).1) hrow]
    simp only [Option.bind_some]
    rw [if_neg (show ¬ (1 : Int32) = 0 by decide), cmL, List.foldl_cons, List.foldl_nil]
    unfold p2
    by_cases h : rowC c n rN L = m
    · rw [if_pos (by rw [h]), if_pos h, hsm]
      simp only [Option.bind_some]
      have hl : loopS (fun (t : Int32 × Int32 × (Nat → Int32)) => f_X11_tryRows_L77 (nI n) (nI b) ask row saved t.1 t.2.1 t.2.2) (b2I smB, (0 : Int32), kth) = some (b2I (smB && sameB saved L n), if nI b = ask then wrA kth L n else kth) := by
        refine loop_go (fun k => (b2I (smB && sameB saved L k), nI k, if nI b = ask then wrA kth L k else kth)) n ?_ (fun k hk => ?_) ?_
        · show _ = (b2I (smB && true), nI 0, if nI b = ask then wrA kth L 0 else kth)
          rw [wrA_0, Bool.and_true]
          split <;> rfl
        · try dsimp only
          unfold f_X11_tryRows_L77
          rw [if_neg (nI_ge hk (by omega)), gi_n (by omega) (by omega), gi_n (by omega) (by omega), gi_n (by omega) (by omega), hrow k (by omega), nI_1]
          simp only [Option.bind_some]
          have hfl : ((if b2I (smB && sameB saved L k) = 0 then (some (0 : Int32)) else (if nI (atL L k) = saved k then (some (1 : Int32)) else (some (0 : Int32))) : Option (Int32))) = some (b2I (smB && sameB saved L (k + 1))) := by
            rw [sameB, ← Bool.and_assoc]
            cases (smB && sameB saved L k) with
            | false => rfl
            | true =>
              show (if (1 : Int32) = 0 then _ else _) = _
              rw [if_neg (by decide)]
              by_cases e : nI (atL L k) = saved k
              · rw [if_pos e, decide_eq_true e]
                rfl
              · rw [if_neg e, decide_eq_false e]
                rfl
          by_cases hask : nI b = ask
          · rw [if_pos hask, if_pos hask, if_pos hask]
            simp only [Option.bind_some]
            rw [si_n (by omega) (by omega), wrA_s, hfl]
            rfl
          · rw [if_neg hask, if_neg hask, if_neg hask]
            simp only [Option.bind_some]
            rw [si_n (by omega) (by omega), upd_same, hfl]
            rfl
        · try dsimp only
          unfold f_X11_tryRows_L77
          rw [if_pos (nI_le (Nat.le_refl n) (by omega))]
      rw [hl]
      simp only [b2, Option.bind_some]
      cases (smB && sameB saved L n) with
      | false =>
        rw [if_pos (show b2I false = 0 from rfl), nI_1]
        rfl
      | true =>
        rw [if_neg (show ¬ b2I true = 0 by decide), nI_1]
        rfl
    · rw [if_neg (fun q => h ((nI_eq (by omega) (by omega)).mp q)), if_neg h]
  | d + 1, f, hf, s, L, b, rank, kth, row, hP, hd, hrow => by
    obtain ⟨f, rfl⟩ : ∃ g, f = g + 1 := ⟨f - 1, by omega⟩
    have hn := hx.1
    have hpw : 2 ^ n ≤ 2 ^ 11 := Nat.pow_le_pow_right (by decide) hn
    have hs := hP.1
    have hloop : ∃ x, loopS (fun (t : Int32 × Int32 × Int32 × Int32 × Int32 × (Nat → Int32) × (Nat → Int32)) => f_X11_tryRows_L190 (f_X11_tryRows f) (nI c) (nI s) (1 : Int32) (nI n) sm ask wide places weights pair saved t.1 t.2.1 t.2.2.1 t.2.2.2.1 t.2.2.2.2.1 t.2.2.2.2.2.1 t.2.2.2.2.2.2) ((0 : Int32), nI L.length, nI m, nI b, rank, row, kth) = some x ∧ x.1 = nI L.length ∧ x.2.1 = nI m ∧ x.2.2.1 = nI ((cmK (cmL (mayN (prQ pair) n) n d) (mayN (prQ pair) n) s L n).foldl (p2 (rowC c n rN) m n ask smB saved) (b, rank, kth)).1 ∧ x.2.2.2.1 = ((cmK (cmL (mayN (prQ pair) n) n d) (mayN (prQ pair) n) s L n).foldl (p2 (rowC c n rN) m n ask smB saved) (b, rank, kth)).2.1 ∧ (∀ j, j < L.length → x.2.2.2.2.1 j = nI (atL L j)) ∧ x.2.2.2.2.2 = ((cmK (cmL (mayN (prQ pair) n) n d) (mayN (prQ pair) n) s L n).foldl (p2 (rowC c n rN) m n ask smB saved) (b, rank, kth)).2.2 := by
      refine loop_inv (fun p (t : Int32 × Int32 × Int32 × Int32 × Int32 × (Nat → Int32) × (Nat → Int32)) => t.1 = nI p ∧ t.2.1 = nI L.length ∧ t.2.2.1 = nI m ∧ t.2.2.2.1 = nI ((cmK (cmL (mayN (prQ pair) n) n d) (mayN (prQ pair) n) s L p).foldl (p2 (rowC c n rN) m n ask smB saved) (b, rank, kth)).1 ∧ t.2.2.2.2.1 = ((cmK (cmL (mayN (prQ pair) n) n d) (mayN (prQ pair) n) s L p).foldl (p2 (rowC c n rN) m n ask smB saved) (b, rank, kth)).2.1 ∧ (∀ j, j < L.length → t.2.2.2.2.2.1 j = nI (atL L j)) ∧ t.2.2.2.2.2.2 = ((cmK (cmL (mayN (prQ pair) n) n d) (mayN (prQ pair) n) s L p).foldl (p2 (rowC c n rN) m n ask smB saved) (b, rank, kth)).2.2) (fun (x : Int32 × Int32 × Int32 × Int32 × (Nat → Int32) × (Nat → Int32)) => x.1 = nI L.length ∧ x.2.1 = nI m ∧ x.2.2.1 = nI ((cmK (cmL (mayN (prQ pair) n) n d) (mayN (prQ pair) n) s L n).foldl (p2 (rowC c n rN) m n ask smB saved) (b, rank, kth)).1 ∧ x.2.2.2.1 = ((cmK (cmL (mayN (prQ pair) n) n d) (mayN (prQ pair) n) s L n).foldl (p2 (rowC c n rN) m n ask smB saved) (b, rank, kth)).2.1 ∧ (∀ j, j < L.length → x.2.2.2.2.1 j = nI (atL L j)) ∧ x.2.2.2.2.2 = ((cmK (cmL (mayN (prQ pair) n) n d) (mayN (prQ pair) n) s L n).foldl (p2 (rowC c n rN) m n ask smB saved) (b, rank, kth)).2.2) n ?_ ?_ ⟨nI_0.symm, rfl, rfl, rfl, rfl, hrow, rfl⟩
      · rintro p ⟨t1, t2, t3, t4, t5, t6, t7⟩ hp ⟨i1, i2, i3, i4, i5, i6, i7⟩
        dsimp only at i1 i2 i3 i4 i5 i6 i7 ⊢
        subst i1 i2 i3 i4 i5 i7
        rw [cmK.eq_2 _ _ _ _ p, List.foldl_append]
        generalize (cmK (cmL (mayN (prQ pair) n) n d) (mayN (prQ pair) n) s L p).foldl (p2 (rowC c n rN) m n ask smB saved) (b, rank, kth) = st
        obtain ⟨b1, rk1, kt1⟩ := st
        unfold f_X11_tryRows_L190
        rw [if_neg (nI_ge hp (by omega)), mayM_n hn (by omega) hp h01, nI_1 p]
        cases hm : mayN (prQ pair) n s p with
        | false => exact ⟨_, rfl, rfl, rfl, rfl, rfl, rfl, i6, rfl⟩
        | true =>
          have hP2 := Pfx_s hn hP hp (may_bit hm)
          have hl1 : (L ++ [p]).length = L.length + 1 := by rw [List.length_append, List.length_singleton]
          obtain ⟨row2, g1, g2⟩ := tryR2_n hx h01 hc sm ask smB hsm saved m hm0 d f (by omega) (s ||| 2 ^ p) (L ++ [p]) b1 rk1 kt1 (upd t6 L.length (nI p)) hP2 (by omega) (ext_rp i6)
          rw [hl1] at g1 g2
          simp only [Option.bind_some, b2I, if_true]
          rw [if_neg (show ¬ (1 : Int32) = 0 by decide), si_n (by omega) (by omega), nI_1, one_shl (by omega), or_n]
          simp only [Option.bind_some]
          rw [g1]
          simp only [b6, Option.bind_some]
          rw [show nI (L.length + 1) - (1 : Int32) = nI L.length from nI_pred _]
          refine ⟨_, rfl, rfl, rfl, rfl, rfl, rfl, fun j hj => ?_, rfl⟩
          show row2 j = _
          rw [g2 j (by omega), atL_lt hj]
      · rintro ⟨t1, t2, t3, t4, t5, t6, t7⟩ ⟨i1, i2, i3, i4, i5, i6, i7⟩
        dsimp only at i1 i2 i3 i4 i5 i6 i7 ⊢
        subst i1 i2 i3 i4 i5 i7
        unfold f_X11_tryRows_L190
        rw [if_pos (nI_le (Nat.le_refl n) (by omega))]
        exact ⟨_, rfl, rfl, rfl, rfl, rfl, i6, rfl⟩
    obtain ⟨⟨x1, x2, x3, x4, x5, x6⟩, g1, g2, g3, g4, g5, g6, g7⟩ := hloop
    dsimp only at g2 g3 g4 g5 g6 g7
    refine ⟨x5, ?_, g6⟩
    rw [f_X11_tryRows]
    unfold f_X11_tryRows_B
    rw [if_neg (fun q => by have := (nI_eq (by omega) (by omega)).mp q; omega), g1, cmL, g2, g3, g4, g5, g7]
    rfl
theorem save_n {row saved : Nat → Int32} {many sM : Int32} : f_X11_save many sM row saved = some (many, wrM saved 0 row 11) := by
  unfold f_X11_save
  have h : loopS (fun (s : Int32 × (Nat → Int32)) => f_X11_save_L10 row s.1 s.2) ((0 : Int32), saved) = some (wrM saved 0 row 11) := by
    refine loop_go (fun k => (nI k, wrM saved 0 row k)) 11 ?_ (fun k hk => ?_) ?_
    · show _ = (nI 0, wrM saved 0 row 0)
      rw [wrM_0]
      rfl
    · try dsimp only
      unfold f_X11_save_L10
      have := wrM_s saved 0 row k
      rw [Nat.zero_add] at this
      rw [if_neg (show ¬ (11 : Int32) ≤ nI k from nI_ge (b := 11) hk (by decide)), gi_n (by omega) (by omega), nI_1]
      simp only [Option.bind_some]
      rw [si_n (by omega) (by omega), this]
      rfl
    · try dsimp only
      unfold f_X11_save_L10
      rw [if_pos (show (11 : Int32) ≤ nI 11 from nI_le (a := 11) (by omega) (by decide))]
  rw [h]
  rfl
theorem restore_n {row saved : Nat → Int32} {many sM : Int32} : f_X11_restore many sM row saved = some (sM, wrM row 0 saved 11) := by
  unfold f_X11_restore
  have h : loopS (fun (s : Int32 × (Nat → Int32)) => f_X11_restore_L10 saved s.1 s.2) ((0 : Int32), row) = some (wrM row 0 saved 11) := by
    refine loop_go (fun k => (nI k, wrM row 0 saved k)) 11 ?_ (fun k hk => ?_) ?_
    · show _ = (nI 0, wrM row 0 saved 0)
      rw [wrM_0]
      rfl
    · try dsimp only
      unfold f_X11_restore_L10
      have := wrM_s row 0 saved k
      rw [Nat.zero_add] at this
      rw [if_neg (show ¬ (11 : Int32) ≤ nI k from nI_ge (b := 11) hk (by decide)), gi_n (by omega) (by omega), nI_1]
      simp only [Option.bind_some]
      rw [si_n (by omega) (by omega), this]
      rfl
    · try dsimp only
      unfold f_X11_restore_L10
      rw [if_pos (show (11 : Int32) ≤ nI 11 from nI_le (a := 11) (by omega) (by decide))]
  rw [h]
  rfl
theorem solveRows_n {many sM lR bR aR rk ask : Int32} {row saved kth : Nat → Int32} {k : Nat} (hx : Cx n (rdM wide places weights) (fun x y => (rdM wide places weights x y).toNatClampNeg)) (hn7 : n ≤ 7) (hrk : ∃ rk : Nat → Nat, ∀ a b, a < 11 → b < 11 → prQ pair a b = true → rk a < rk b) (h01 : ∀ a b, a < 11 → b < 11 → pair (11 * a + b) = 0 ∨ pair (11 * a + b) = 1) (hc : c = 0 ∨ c = 4) (hmany : many = nI k) (hk : k ≤ 11) : ∃ row2, f_X11_solveRows (nI n) many sM lR bR aR rk wide places weights pair row saved kth (nI c) ask = some (many, many, nI (trialSt n (rdM wide places weights) (prQ pair) c).1, nI ((trialSt n (rdM wide places weights) (prQ pair) c).2.foldl (p2 (rowC c n (fun x y => (rdM wide places weights x y).toNatClampNeg)) (trialSt n (rdM wide places weights) (prQ pair) c).1 n ask (decide (k = n)) (wrM saved 0 row 11)) (0, (-1 : Int32), kth)).1, ask, ((trialSt n (rdM wide places weights) (prQ pair) c).2.foldl (p2 (rowC c n (fun x y => (rdM wide places weights x y).toNatClampNeg)) (trialSt n (rdM wide places weights) (prQ pair) c).1 n ask (decide (k = n)) (wrM saved 0 row 11)) (0, (-1 : Int32), kth)).2.1, row2, wrM saved 0 row 11, ((trialSt n (rdM wide places weights) (prQ pair) c).2.foldl (p2 (rowC c n (fun x y => (rdM wide places weights x y).toNatClampNeg)) (trialSt n (rdM wide places weights) (prQ pair) c).1 n ask (decide (k = n)) (wrM saved 0 row 11)) (0, (-1 : Int32), kth)).2.2) ∧ ∀ j, j < 11 → row2 j = row j := by
  have hn := hx.1
  have hmem : ∀ r, r ∈ cmL (mayN (prQ pair) n) n n 0 [] → rowC c n (fun x y => (rdM wide places weights x y).toNatClampNeg) r ≤ 2662000 := fun r hr => by
    obtain ⟨⟨t, ht⟩, h2, -⟩ := cmL_mem hn (Pfx_0 n) (by simp) hr
    exact rowC_le hx (by omega) (fun p hp => (ht.2.2.1 p hp).1)
  have hne := cmL_ne (pr := prQ pair) hn hrk (Pfx_0 n) (show ([] : List Nat).length + n = n by simp)
  have hst : trialSt n (rdM wide places weights) (prQ pair) c = (minR (rowC c n (fun x y => (rdM wide places weights x y).toNatClampNeg)) 1000000000 (cmL (mayN (prQ pair) n) n n 0 []), (cmL (mayN (prQ pair) n) n n 0 []).filter (fun r => decide (rowC c n (fun x y => (rdM wide places weights x y).toNatClampNeg) r = minR (rowC c n (fun x y => (rdM wide places weights x y).toNatClampNeg)) 1000000000 (cmL (mayN (prQ pair) n) n n 0 [])))) := by
    unfold trialSt
    rw [mt_min, minR_lo (a := 1073741824) (b := 1000000000) hne (fun r hr => by have := hmem r hr; omega)]
    congr 1
    split <;> rfl
  have hmle : minR (rowC c n (fun x y => (rdM wide places weights x y).toNatClampNeg)) 1000000000 (cmL (mayN (prQ pair) n) n n 0 []) < 100000000 := by
    rw [minR_lo (a := 1000000000) (b := 2662001) hne (fun r hr => by have := hmem r hr; omega)]
    have := minR_le (cst := rowC c n (fun x y => (rdM wide places weights x y).toNatClampNeg)) (rows := cmL (mayN (prQ pair) n) n n 0 []) (lo := 2662001)
    omega
  have hfil : ∀ (m : Nat) (sv : Nat → Int32) (sb : Bool) (rows : List (List Nat)) (st : Nat × Int32 × (Nat → Int32)), rows.foldl (p2 (rowC c n (fun x y => (rdM wide places weights x y).toNatClampNeg)) m n ask sb sv) st = (rows.filter (fun r => decide (rowC c n (fun x y => (rdM wide places weights x y).toNatClampNeg) r = m))).foldl (p2 (rowC c n (fun x y => (rdM wide places weights x y).toNatClampNeg)) m n ask sb sv) st := fun m sv sb rows => by
    induction rows with
    | nil => intro st; rfl
    | cons r rs ih =>
      intro st
      rw [List.foldl_cons, List.filter_cons]
      by_cases e : rowC c n (fun x y => (rdM wide places weights x y).toNatClampNeg) r = m
      · rw [if_pos (by rw [decide_eq_true e]), List.foldl_cons]
        exact ih _
      · rw [if_neg (by rw [decide_eq_false e]; simp), show p2 (rowC c n (fun x y => (rdM wide places weights x y).toNatClampNeg)) m n ask sb sv st r = st by unfold p2; rw [if_neg e]]
        exact ih _
  have hsm : ((if nI k = nI n then (some (1 : Int32)) else (some (0 : Int32)) : Option (Int32))) = some (b2I (decide (k = n))) := by
    by_cases e : k = n
    · rw [if_pos (by rw [e]), decide_eq_true e]
      rfl
    · rw [if_neg (fun q => e ((nI_eq (by omega) (by omega)).mp q)), decide_eq_false e]
      rfl
  rw [hst]
  dsimp only
  rw [← hfil]
  generalize hm : minR (rowC c n (fun x y => (rdM wide places weights x y).toNatClampNeg)) 1000000000 (cmL (mayN (prQ pair) n) n n 0 []) = m at hmle
  obtain ⟨r1, g1, -⟩ := tryR1_n (c := c) hx h01 hc many (0 : Int32) ask (-1 : Int32) (wrM saved 0 row 11) kth n 8 (by omega) 0 [] 1000000000 row (Pfx_0 n) (by simp) (fun j hj => by cases hj) (Nat.le_refl _)
  rw [hm] at g1
  obtain ⟨r2, g2, -⟩ := tryR2_n (c := c) hx h01 hc many ask (decide (k = n)) (by rw [hmany]; exact hsm) (wrM saved 0 row 11) m hmle n 8 (by omega) 0 [] 0 (-1 : Int32) kth r1 (Pfx_0 n) (by simp) (fun j hj => by cases hj)
  refine ⟨wrM r2 0 (wrM saved 0 row 11) 11, ?_, fun j hj => by rw [wr0_lt hj, wr0_lt hj]⟩
  unfold f_X11_solveRows
  rw [save_n]
  simp only [b2, Option.bind_some]
  rw [show f_X11_tryRows 8 (nI n) (0 : Int32) many (1000000000 : Int32) (0 : Int32) ask (-1 : Int32) wide places weights pair row (wrM saved 0 row 11) kth (nI c) (0 : Int32) (0 : Int32) = _ from g1]
  simp only [b6, Option.bind_some]
  rw [show f_X11_tryRows 8 (nI n) (0 : Int32) many (nI m) (0 : Int32) ask (-1 : Int32) wide places weights pair r1 (wrM saved 0 row 11) kth (nI c) (0 : Int32) (1 : Int32) = _ from g2]
  simp only [Option.bind_some]
  rw [restore_n]
  rfl
end TRYM
/-! what the second pass finds -/
theorem p2_count {cst : List Nat → Nat} {m n : Nat} {ask : Int32} {sb : Bool} {sv : Nat → Int32} : ∀ {B : List (List Nat)} {st : Nat × Int32 × (Nat → Int32)}, (∀ r, r ∈ B → cst r = m) → (B.foldl (p2 cst m n ask sb sv) st).1 = st.1 + B.length
  | [], st, _ => rfl
  | r :: rs, st, h => by
    rw [List.foldl_cons, p2_count (fun x hx => h x (List.mem_cons_of_mem _ hx)), List.length_cons]
    unfold p2
    rw [if_pos (h r List.mem_cons_self)]
    show st.1 + 1 + rs.length = _
    omega
theorem p2_kth {cst : List Nat → Nat} {m n k : Nat} {sb : Bool} {sv : Nat → Int32} (hk : k < 100000) : ∀ {B : List (List Nat)} {st : Nat × Int32 × (Nat → Int32)}, (∀ r, r ∈ B → cst r = m) → st.1 + B.length < 100000 → (k < st.1 → (B.foldl (p2 cst m n (nI k) sb sv) st).2.2 = st.2.2) ∧ (st.1 ≤ k → k < st.1 + B.length → (B.foldl (p2 cst m n (nI k) sb sv) st).2.2 = wrA st.2.2 ((B[k - st.1]?).getD []) n)
  | [], st, _, _ => ⟨fun _ => rfl, fun h1 h2 => by
    rw [List.length_nil] at h2
    omega⟩
  | r :: rs, st, h, hl => by
    rw [List.length_cons] at hl
    have hr : p2 cst m n (nI k) sb sv st r = (st.1 + 1, (if sb && sameB sv r n then nI st.1 else st.2.1), (if nI st.1 = nI k then wrA st.2.2 r n else st.2.2)) := by
      unfold p2
      rw [if_pos (h r List.mem_cons_self)]
    obtain ⟨a1, a2⟩ := p2_kth (sb := sb) (sv := sv) (n := n) hk (B := rs) (st := p2 cst m n (nI k) sb sv st r) (fun x hx => h x (List.mem_cons_of_mem _ hx)) (by rw [hr]; show st.1 + 1 + _ < _; omega)
    rw [List.foldl_cons, List.length_cons]
    rw [hr] at a1 a2 ⊢
    dsimp only at a1 a2
    refine ⟨fun h1 => ?_, fun h1 h2 => ?_⟩
    · rw [a1 (by omega), if_neg (fun q => by have := (nI_eq (by omega) (by omega)).mp q; omega)]
    · by_cases e : st.1 = k
      · rw [a1 (by omega), if_pos (by rw [e]), show k - st.1 = 0 by omega]
        rfl
      · rw [a2 (by omega) (by omega), if_neg (fun q => e ((nI_eq (by omega) (by omega)).mp q)), show k - st.1 = k - (st.1 + 1) + 1 by omega]
        rfl
theorem p2_rank {cst : List Nat → Nat} {m n : Nat} {ask : Int32} {sv : Nat → Int32} : ∀ {B : List (List Nat)} {st : Nat × Int32 × (Nat → Int32)}, (∀ r, r ∈ B → cst r = m) → ((∀ j, j < B.length → sameB sv ((B[j]?).getD []) n = false) → (B.foldl (p2 cst m n ask true sv) st).2.1 = st.2.1) ∧ ∀ j, j < B.length → sameB sv ((B[j]?).getD []) n = true → (∀ i, i < B.length → i ≠ j → sameB sv ((B[i]?).getD []) n = false) → (B.foldl (p2 cst m n ask true sv) st).2.1 = nI (st.1 + j)
  | [], st, _ => ⟨fun _ => rfl, fun j hj => by cases hj⟩
  | r :: rs, st, h => by
    have hr : p2 cst m n ask true sv st r = (st.1 + 1, (if sameB sv r n then nI st.1 else st.2.1), (if nI st.1 = ask then wrA st.2.2 r n else st.2.2)) := by
      unfold p2
      rw [if_pos (h r List.mem_cons_self), Bool.true_and]
    obtain ⟨a1, a2⟩ := p2_rank (sv := sv) (n := n) (ask := ask) (B := rs) (st := p2 cst m n ask true sv st r) (fun x hx => h x (List.mem_cons_of_mem _ hx))
    rw [List.foldl_cons, List.length_cons]
    rw [hr] at a1 a2 ⊢
    dsimp only at a1 a2
    refine ⟨fun h1 => ?_, fun j hj hs hu => ?_⟩
    · rw [a1 (fun j hj => h1 (j + 1) (by omega))]
      have h0 : sameB sv r n = false := h1 0 (by omega)
      rw [h0]
      rfl
    · cases j with
      | zero =>
        have h0 : sameB sv r n = true := hs
        rw [a1 (fun i hi => hu (i + 1) (by omega) (by omega)), h0]
        rfl
      | succ j =>
        rw [a2 j (by omega) hs (fun i hi hne => hu (i + 1) (by omega) (by omega)), show st.1 + 1 + j = st.1 + (j + 1) by omega]
