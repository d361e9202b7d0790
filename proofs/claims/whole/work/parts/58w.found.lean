/-! LAYER 2: least, many, best, number -/
theorem refusal_n {n c : Nat} (hn : n ≤ 11) (hc : c ≤ 5) (hcc : f_X10_isCost (nI c) = some 1) : f_X10_refusalOfSearch (nI n) (nI c) = some (if (c = 0 ∨ c = 4) ∧ 7 < n then (-6 : Int32) else 0) := by
  unfold f_X10_refusalOfSearch
  rw [hcc, isBySpans_n hc]
  simp only [Option.bind_some]
  rw [if_neg (show ¬ (1 : Int32) = 0 by decide)]
  by_cases h : c = 0 ∨ c = 4
  · rw [decide_eq_true h]
    simp only [b2I, if_true]
    rw [if_neg (show ¬ (1 : Int32) = 0 by decide)]
    by_cases h7 : 7 < n
    · rw [if_neg (show ¬ nI n ≤ (7 : Int32) from nI_ge (a := 7) h7 (by omega)), if_pos ⟨h, h7⟩]
    · rw [if_pos (show nI n ≤ (7 : Int32) from nI_le (b := 7) (by omega) (by decide)), if_neg (fun q => h7 q.2)]
  · rw [decide_eq_false h, if_neg (show ¬ ((c = 0 ∨ c = 4) ∧ 7 < n) from fun q => h q.1), show b2I false = 0 from rfl, if_pos (show (0 : Int32) = 0 from rfl)]
theorem isByRows_n {c : Nat} (hc : c ≤ 5) : f_X11_isByRows (nI c) = some (b2I (decide (c = 0 ∨ c = 4))) := by
  rcases (show c = 0 ∨ c = 1 ∨ c = 2 ∨ c = 3 ∨ c = 4 ∨ c = 5 by omega) with rfl | rfl | rfl | rfl | rfl | rfl <;> rfl
theorem isLarge_n {n c : Nat} (hn : n ≤ 11) (hc : c ≤ 5) : f_X11_isLarge (nI n) (nI c) = some (if (c = 0 ∨ c = 4) ∧ 7 < n then (1 : Int32) else 0) := by
  unfold f_X11_isLarge
  rw [isByRows_n hc]
  simp only [Option.bind_some]
  by_cases h : c = 0 ∨ c = 4
  · rw [decide_eq_true h]
    simp only [b2I, if_true]
    rw [if_neg (show ¬ (1 : Int32) = 0 by decide)]
    by_cases h7 : 7 < n
    · rw [if_neg (show ¬ nI n ≤ (7 : Int32) from nI_ge (a := 7) h7 (by omega)), if_pos ⟨h, h7⟩]
    · rw [if_pos (show nI n ≤ (7 : Int32) from nI_le (b := 7) (by omega) (by decide)), if_neg (fun q => h7 q.2)]
  · rw [decide_eq_false h, if_neg (show ¬ ((c = 0 ∨ c = 4) ∧ 7 < n) from fun q => h q.1), show b2I false = 0 from rfl, if_pos (show (0 : Int32) = 0 from rfl)]
theorem RowR_row {size many : Int32} {posts row row2 : Nat → Int32} (h : RowR size many posts row) (h2 : ∀ j, j < 11 → row2 j = row j) : RowR size many posts row2 := by
  obtain ⟨k, hk, e1, e2, e3, e4⟩ := h
  refine ⟨k, hk, e1, e2, fun j hj => ?_, fun i j hi hj hij => ?_⟩
  · rw [h2 j (by omega)]
    exact e3 j hj
  · rw [h2 i (by omega), h2 j (by omega)] at hij
    exact e4 i j hi hj hij
section ALL
variable {n c : Nat} {posts pairs mposts mpairs vp vr vwt sF lo to pF : Int32} {w l t b wd pl wt pr vws vn vb va prices rests ways : Nat → Int32}
theorem sets_all (hN : NetR n posts pairs w l t b mposts mpairs wd pl wt pr) (hV : ViewR n (rdM wd pl wt) (prQ pr) vp vr vwt vws vn vb va) (hS : SetInv n (rdM wd pl wt) (prQ pr) sF lo to pF prices rests ways) (hc : c = 1 ∨ c = 2 ∨ c = 3 ∨ c = 5) (least0 ways0 : Nat → Int32) : ∃ lo2 to2 q r w2 R W L V, f_X7_solve sF lo to pF (nI n) vws vn vb va prices rests ways (nI c) = some (nI c, lo2, to2, nI (c13 c), q, r, w2) ∧ SetInv n (rdM wd pl wt) (prQ pr) (nI c) lo2 to2 (nI (c13 c)) q r w2 ∧ f_X11_solveSets (nI n) wd pl wt pr least0 ways0 (nI c) = some (L, V) ∧ RestsN n c (priceN n (fun x y => (rdM wd pl wt x y).toNatClampNeg) (rdQ (rdM wd pl wt)) (prQ pr) c) R (prQ pr) r ∧ WaysN n (stepM c q r (prQ pr) n) W w2 ∧ (∀ s, s < 2 ^ n → q s = priceM n (rdM wd pl wt) (prQ pr) c s) ∧ (∀ s, s < 2 ^ n → L s = nI (tN c n R s)) ∧ (∀ s, s < 2 ^ n → V s = nI (W s)) ∧ lo2 = nI (R 0 + finN c n) ∧ to2 = nI (W 0) := by
  have hn : n ≤ 11 := hN.1
  have hpos : 0 < 2 ^ n := Nat.pow_pos (by decide)
  have hx := Cx_of hN
  obtain ⟨-, -, -, -, -, -, -, -, -, -, -, hpair, hrk⟩ := id hN
  have h01 : ∀ a b, a < 11 → b < 11 → pr (11 * a + b) = 0 ∨ pr (11 * a + b) = 1 := fun a b ha hb => by
    rcases hpair a b ha hb with z | ⟨z, -⟩
    · exact Or.inl z
    · exact Or.inr z
  obtain ⟨lo2, to2, q, r, w2, g1, ⟨s1, s2, s3, s4, s5, s6, s7⟩, g3⟩ := solve_n hx (VC_of hn hV (NetR_pr hN)) hc hV.2.2.2.2.2.2 (NetR_pr hN) hS
  obtain ⟨R, hR⟩ := rests_nat hx hrk s1 s2 s3
  obtain ⟨W, hW⟩ := ways_nat hn s4 s5
  obtain ⟨L, V, k1, k2, k3⟩ := solveSets_n (least0 := least0) (ways0 := ways0) hx hR h01 s1 hc s4 s5
  refine ⟨lo2, to2, q, r, w2, R, W, L, V, g1, g3, k1, hR, hW, s1, k2, fun s hs => by rw [k3 s hs]; exact (hW.1 s hs).1, ?_, ?_⟩
  · rw [s6, (hR.1 0 hpos).1]
    unfold finN
    split
    · rw [nI_1]
    · rfl
  · rw [s7]
    exact (hW.1 0 hpos).1
end ALL
/-! by rows -/
theorem wrA_at {kth : Nat → Int32} {r : List Nat} {k j : Nat} (h : j < k) : wrA kth r k j = nI (atL r j) := by
  unfold wrA
  rw [if_pos h]
theorem pickT_n {n k : Nat} {found posts : Nat → Int32} {size : Int32} {r : List Nat} (hn7 : n ≤ 7) (hk : k < 5040) (hl : r.length = n) (h8 : ∀ p, p ∈ r → p < 8) (hf : found k = nI (codeL r)) : f_X8_pick (nI n) found size posts (nI k) = some (nI n, wrA posts r n) := by
  unfold f_X8_pick f_X5_clear
  simp only [Option.bind_some]
  have hlt := cF_lt (G := atL r) (m := r.length) (fun j hj => h8 _ (atL_mem hj))
  have hpw : 8 ^ r.length ≤ 8 ^ 7 := Nat.pow_le_pow_right (by decide) (by omega)
  have h : loopS (fun (s : Int32 × Int32 × (Nat → Int32)) => f_X8_pick_L6 (nI k) (nI n) found s.1 s.2.1 s.2.2) ((0 : Int32), (0 : Int32), posts) = some (nI n, wrA posts r n) := by
    refine loop_go (fun i => (nI i, nI i, wrA posts r i)) n ?_ (fun i hi => ?_) ?_
    · show _ = (nI 0, nI 0, wrA posts r 0)
      rw [wrA_0]
      rfl
    · try dsimp only
      unfold f_X8_pick_L6 f_X5_append
      have e1 : (3 : Int32) * (nI n - (1 : Int32) - nI i) = nI (3 * (n - 1 - i)) := by
        rw [show nI n - (1 : Int32) = nI (n - 1) from pk_sub (b := 1) (by omega), pk_sub (show i ≤ n - 1 by omega)]
        exact pk_mul 3 _
      have e2 : nI (codeL r) >>> (nI (3 * (n - 1 - i)) &&& 31) = nI (codeL r / 2 ^ (3 * (n - 1 - i))) := shr_n (by rw [codeL_cF]; omega) (by omega)
      have e3 : nI (codeL r / 2 ^ (3 * (n - 1 - i))) &&& (7 : Int32) = nI (codeL r / 2 ^ (3 * (n - 1 - i)) % 2 ^ 3) := pk_andN (by
        have := Nat.div_le_self (codeL r) (2 ^ (3 * (n - 1 - i)))
        rw [codeL_cF] at this ⊢
        omega) 3 (by decide)
      have e4 : codeL r / 2 ^ (3 * (n - 1 - i)) % 2 ^ 3 = atL r i := by
        rw [Nat.pow_mul, codeL_cF, ← hl]
        exact cF_digit (fun j hj => h8 _ (atL_mem hj)) (by omega)
      rw [if_neg (nI_ge hi (by omega)), gi_n (by omega) (by omega), hf, e1]
      simp only [Option.bind_some]
      rw [e2, e3, e4, if_neg (show ¬ (11 : Int32) ≤ nI i from nI_ge (b := 11) (by omega) (by decide)), si_n (by omega) (by omega), nI_1, wrA_s]
      rfl
    · try dsimp only
      unfold f_X8_pick_L6
      rw [if_pos (nI_le (Nat.le_refl n) (by omega))]
  rw [h]
  rfl
theorem copyKth_n {n : Nat} {kth row : Nat → Int32} (hn : n ≤ 11) : loopS (fun (s : Int32 × (Nat → Int32)) => f_X11_best_L63 (nI n) kth s.1 s.2) ((0 : Int32), row) = some (wrM row 0 kth n) := by
  refine loop_go (fun k => (nI k, wrM row 0 kth k)) n ?_ (fun k hk => ?_) ?_
  · show _ = (nI 0, wrM row 0 kth 0)
    rw [wrM_0]
    rfl
  · try dsimp only
    unfold f_X11_best_L63
    have := wrM_s row 0 kth k
    rw [Nat.zero_add] at this
    rw [if_neg (nI_ge hk (by omega)), gi_n (by omega) (by omega), nI_1]
    simp only [Option.bind_some]
    rw [si_n (by omega) (by omega), this]
    rfl
  · try dsimp only
    unfold f_X11_best_L63
    rw [if_pos (nI_le (Nat.le_refl n) (by omega))]
theorem RowR_new {n : Nat} {r : List Nat} {p1 p2 : Nat → Int32} (hn : n ≤ 11) (hl : r.length = n) (hr : ∀ p, p ∈ r → p < n) (hd : r.Nodup) (h1 : ∀ j, j < n → p1 j = nI (atL r j)) (h2 : ∀ j, j < n → p2 j = nI (atL r j)) : RowR (nI n) (nI n) p1 p2 := by
  refine ⟨n, hn, rfl, rfl, fun j hj => ⟨by rw [h1 j hj, h2 j hj], atL r j, ?_, h2 j hj⟩, fun i j hi hj hij => ?_⟩
  · have := hr _ (atL_mem (show j < r.length by omega))
    omega
  · rw [h2 i hi, h2 j hj] at hij
    have q1 := hr _ (atL_mem (show i < r.length by omega))
    have q2 := hr _ (atL_mem (show j < r.length by omega))
    have h4 := (nI_eq (by omega) (by omega)).mp hij
    rw [atL_get (show i < r.length by omega), atL_get (show j < r.length by omega)] at h4
    have h5 := List.pairwise_iff_getElem.mp hd
    rcases Nat.lt_trichotomy i j with h6 | h6 | h6
    · exact absurd h4 (h5 i j (by omega) (by omega) h6)
    · exact h6
    · exact absurd h4.symm (h5 j i (by omega) (by omega) h6)
theorem trial_mem {n c : Nat} {rd : Nat → Nat → Int32} {pr : Nat → Nat → Bool} (hn : n ≤ 11) {r : List Nat} (h : r ∈ (trialSt n rd pr c).2) : r.length = n ∧ (∀ p, p ∈ r → p < n) ∧ r.Nodup ∧ rowC c n (fun x y => (rd x y).toNatClampNeg) r = (trialSt n rd pr c).1 := by
  unfold trialSt at h ⊢
  rw [mt_min] at h ⊢
  have hm : r ∈ (cmL (mayN pr n) n n 0 []).filter (fun r => decide (rowC c n (fun x y => (rd x y).toNatClampNeg) r = minR (rowC c n (fun x y => (rd x y).toNatClampNeg)) 1073741824 (cmL (mayN pr n) n n 0 []))) := by
    rcases List.mem_append.mp h with h | h
    · split at h <;> cases h
    · exact h
  obtain ⟨h1, h2⟩ := List.mem_filter.mp hm
  obtain ⟨⟨s, hs⟩, h4, -⟩ := cmL_mem hn (Pfx_0 n) (by simp) h1
  exact ⟨h4, fun p hp => (hs.2.2.1 p hp).1, hs.2.2.2, of_decide_eq_true h2⟩
theorem trial_nodup {n c : Nat} {rd : Nat → Nat → Int32} {pr : Nat → Nat → Bool} (hn : n ≤ 11) : (trialSt n rd pr c).2.Nodup := by
  unfold trialSt
  rw [mt_min]
  have h := cmL_nodup (pr := pr) hn (Pfx_0 n) (show ([] : List Nat).length + n = n by simp)
  have e : ∀ X : List (List Nat), (if minR (rowC c n (fun x y => (rd x y).toNatClampNeg)) 1073741824 (cmL (mayN pr n) n n 0 []) < 1073741824 then ([] : List (List Nat)) else []) ++ X = X := fun X => by
    split <;> rfl
  show ((if minR (rowC c n (fun x y => (rd x y).toNatClampNeg)) 1073741824 (cmL (mayN pr n) n n 0 []) < 1073741824 then ([] : List (List Nat)) else []) ++ _).Nodup
  rw [e]
  exact List.Pairwise.filter _ h
theorem trial_len {n c : Nat} {rd : Nat → Nat → Int32} {pr : Nat → Nat → Bool} (hn7 : n ≤ 7) : (trialSt n rd pr c).2.length ≤ 5040 := by
  unfold trialSt
  have h1 := mt_len (cst := rowC c n (fun x y => (rd x y).toNatClampNeg)) (rows := cmL (mayN pr n) n n 0 []) (st := (1073741824, []))
  have h2 := cmL_len (pr := pr) (show n ≤ 11 by omega) (Pfx_0 n) (show ([] : List Nat).length + n = n by simp)
  have h7 : fct n ≤ 5040 := by
    have : ∀ k, k < 8 → fct k ≤ 5040 := by decide
    exact this n (by omega)
  have h3 : ([] : List (List Nat)).length = 0 := rfl
  dsimp only at h1
  omega
def listF (F : Nat → Nat) (n : Nat) : List Nat := (List.range n).map F
theorem listF_len (F : Nat → Nat) (n : Nat) : (listF F n).length = n := by
  unfold listF
  rw [List.length_map, List.length_range]
theorem listF_at {F : Nat → Nat} {n j : Nat} (h : j < n) : atL (listF F n) j = F j := by
  unfold atL listF
  rw [List.getElem?_map, List.getElem?_range h]
  rfl
theorem sameB_iff {saved : Nat → Int32} {r : List Nat} : ∀ {k : Nat}, sameB saved r k = true ↔ ∀ j, j < k → nI (atL r j) = saved j
  | 0 => ⟨fun _ j hj => absurd hj (by omega), fun _ => rfl⟩
  | k + 1 => by
    rw [sameB, Bool.and_eq_true, sameB_iff (k := k), decide_eq_true_eq]
    constructor
    · rintro ⟨h1, h2⟩ j hj
      rcases Nat.lt_or_ge j k with z | z
      · exact h1 j z
      · have : j = k := by omega
        rw [this]
        exact h2
    · intro h
      exact ⟨fun j hj => h j (by omega), h k (by omega)⟩
theorem numberT_n {total : Nat} {found posts : Nat → Int32} {FL : List (List Nat)} {H : List Nat} (ht : total = FL.length) (hlen : FL.length ≤ 5040) (hF : FoundOk found FL) (hL : H.length ≤ 7) (h8 : ∀ p, p ∈ H → p < 8) (hp : ∀ j, j < H.length → posts j = nI (atL H j)) (hcl : ∀ r, r ∈ FL → codeL r < 2 ^ 31) (hch : codeL H < 2 ^ 31) : f_X8_numberOf (nI total) found (nI H.length) posts = some (encQ (firstQ (fun k => decide (codeL ((FL[k]?).getD []) = codeL H)) FL.length)) := by
  subst ht
  unfold f_X8_numberOf
  rw [code_n hL h8 hp]
  simp only [Option.bind_some]
  obtain ⟨v, h1, h2⟩ := loop_or (step := fun (s : Int32) => f_X8_numberOf_L7 (nI (codeL H)) (nI FL.length) found s) (fun i s => s = nI i ∧ ∀ j, j < i → decide (codeL ((FL[j]?).getD []) = codeL H) = false) (fun v => v = encQ (firstQ (fun k => decide (codeL ((FL[k]?).getD []) = codeL H)) FL.length)) FL.length (s := (0 : Int32)) (by
    rintro i s hi ⟨rfl, hs⟩
    try dsimp only
    unfold f_X8_numberOf_L7
    have hm : codeL ((FL[i]?).getD []) < 2 ^ 31 := by
      rw [List.getElem?_eq_getElem hi]
      exact hcl _ (List.getElem_mem hi)
    rw [if_neg (nI_ge hi (by omega)), gi_n (by omega) (by omega), hF i hi, nI_1]
    simp only [Option.bind_some]
    by_cases e : codeL ((FL[i]?).getD []) = codeL H
    · refine Or.inr ⟨nI i, by rw [if_pos (by rw [e])], ?_⟩
      rw [firstQ_some (P := fun k => decide (codeL ((FL[k]?).getD []) = codeL H)) (j := i) (decide_eq_true e) hs hi]
      rfl
    · refine Or.inl ⟨nI (i + 1), by rw [if_neg (fun q => e ((nI_eq hm hch).mp q))], rfl, fun j hj => ?_⟩
      rcases Nat.lt_or_ge j i with z | z
      · exact hs j z
      · have : j = i := by omega
        rw [this]
        exact decide_eq_false e) (by
    rintro s ⟨rfl, hs⟩
    refine ⟨(-1 : Int32), ?_, by rw [firstQ_none (P := fun k => decide (codeL ((FL[k]?).getD []) = codeL H)) hs]; rfl⟩
    try dsimp only
    unfold f_X8_numberOf_L7
    rw [if_pos (nI_le (Nat.le_refl _) (by omega))]) ⟨nI_0.symm, fun j hj => absurd hj (by omega)⟩
  rw [h1, h2]
