/-! LAYER 2: rowOf, plan -/
/-- an array whose first places hold a list -/
def wrL (r0 : Nat → Int32) (L : List Nat) : Nat → Int32 := fun j => if j < L.length then nI ((L[j]?).getD 0) else r0 j
theorem wrL_0 (r0 : Nat → Int32) : wrL r0 [] = r0 := by
  funext j
  unfold wrL
  rw [if_neg (by simp)]
theorem wrL_app (r0 : Nat → Int32) (L : List Nat) (p : Nat) : upd (wrL r0 L) L.length (nI p) = wrL r0 (L ++ [p]) := by
  funext j
  unfold upd wrL
  rw [List.length_append, List.length_singleton]
  by_cases h : j = L.length
  · subst h
    rw [if_pos rfl, if_pos (by omega), List.getElem?_append_right (Nat.le_refl _), Nat.sub_self]
    rfl
  · rw [if_neg h]
    by_cases h2 : j < L.length
    · rw [if_pos h2, if_pos (by omega), List.getElem?_append_left h2]
    · rw [if_neg h2, if_neg (by omega)]
theorem wrL_at {r0 : Nat → Int32} {L : List Nat} {j : Nat} (h : j < L.length) : wrL r0 L j = nI (L[j]) := by
  unfold wrL
  rw [if_pos h, List.getElem?_eq_getElem h]
  rfl
theorem difN (a b : Nat) : nI a &&& (nI b ^^^ (-1 : Int32)) = nI (a &&& (b ^^^ 4294967295)) := by rw [m1_n, xor_n, and_n]
def dif (a b : Nat) : Nat := a &&& (b ^^^ 4294967295)
theorem dif_tb {a b q : Nat} (hq : q < 32) : (dif a b).testBit q = (a.testBit q && !b.testBit q) := by
  unfold dif
  rw [Nat.testBit_and, Nat.testBit_xor, show (4294967295 : Nat) = 2 ^ 32 - 1 from rfl, Nat.testBit_two_pow_sub_one, decide_eq_true hq, Bool.xor_true]
theorem dif_le (a b : Nat) : dif a b ≤ a := Nat.and_le_left
/-- one post of one bag -/
def rowStep (s p : Nat) (st : Nat × List Nat) : Nat × List Nat := if s.testBit p && !st.1.testBit p then (st.1 ||| 2 ^ p, st.2 ++ [p]) else st
def rowIn (s : Nat) (st : Nat × List Nat) : Nat → Nat × List Nat
  | 0 => st
  | p + 1 => rowStep s p (rowIn s st p)
def rowAll (S : Nat → Nat) (n : Nat) : Nat → Nat × List Nat
  | 0 => (0, [])
  | i + 1 => rowIn (S i) (rowAll S n i) n
def RowOk (st : Nat × List Nat) : Prop := st.1 < 2 ^ 11 ∧ (∀ p, p ∈ st.2 → p < 11 ∧ st.1.testBit p = true) ∧ st.2.Nodup ∧ st.2.length = pcN st.1 11
theorem pcN_or {s p : Nat} (h : s.testBit p = false) : ∀ {k : Nat}, p < k → pcN (s ||| 2 ^ p) k = pcN s k + 1
  | 0, hk => absurd hk (by omega)
  | k + 1, hk => by
    rw [pcN, pcN, tb_or]
    by_cases hp : p = k
    · subst hp
      have e : ∀ j, j ≤ p → pcN (s ||| 2 ^ p) j = pcN s j := fun j => by
        induction j with
        | zero => intro _; rfl
        | succ j ih =>
          intro hj
          rw [pcN, pcN, ih (by omega), tb_or, decide_eq_false (show ¬ p = j by omega), Bool.or_false]
      rw [e p (Nat.le_refl p), h, decide_eq_true rfl]
      simp
    · rw [pcN_or h (k := k) (by omega), decide_eq_false hp, Bool.or_false]
      omega
theorem pcN_le11 (s : Nat) : ∀ k, pcN s k ≤ k
  | 0 => Nat.le_refl 0
  | k + 1 => by
    rw [pcN]
    have := pcN_le11 s k
    cases s.testBit k
    · simp only [Bool.false_eq_true, if_false]; omega
    · simp only [if_true]; omega
theorem rowStep_ok {s p : Nat} {st : Nat × List Nat} (hp : p < 11) (h : RowOk st) : RowOk (rowStep s p st) ∧ ((s.testBit p && !st.1.testBit p) = true → st.2.length < 11) := by
  obtain ⟨h1, h2, h3, h4⟩ := h
  unfold rowStep
  cases hc : (s.testBit p && !st.1.testBit p) with
  | false => exact ⟨⟨h1, h2, h3, h4⟩, fun q => by cases q⟩
  | true =>
    rw [Bool.and_eq_true, Bool.not_eq_true'] at hc
    have hpc := pcN_or hc.2 (k := 11) hp
    have hle := pcN_le11 (st.1 ||| 2 ^ p) 11
    refine ⟨⟨Nat.or_lt_two_pow h1 (Nat.pow_lt_pow_right (by decide) hp), ?_, ?_, ?_⟩, fun _ => by omega⟩
    · intro q hq
      rcases List.mem_append.mp hq with hq | hq
      · exact ⟨(h2 q hq).1, by
          show (st.1 ||| 2 ^ p).testBit q = true
          rw [tb_or, (h2 q hq).2]
          rfl⟩
      · have : q = p := by simpa using hq
        subst this
        exact ⟨hp, by
          show (st.1 ||| 2 ^ q).testBit q = true
          rw [tb_or]
          simp⟩
    · rw [if_pos rfl]
      show (st.2 ++ [p]).Nodup
      rw [List.nodup_append]
      refine ⟨h3, by simp, ?_⟩
      intro a ha b hb
      have hbp : b = p := by simpa using hb
      subst hbp
      intro hab
      subst hab
      have := (h2 a ha).2
      rw [hc.2] at this
      cases this
    · rw [if_pos rfl]
      show (st.2 ++ [p]).length = pcN (st.1 ||| 2 ^ p) 11
      rw [List.length_append, List.length_singleton, hpc, h4]
theorem rowIn_ok {s : Nat} {st : Nat × List Nat} (h : RowOk st) : ∀ {k : Nat}, k ≤ 11 → RowOk (rowIn s st k)
  | 0, _ => h
  | k + 1, hk => (rowStep_ok (by omega) (rowIn_ok h (by omega))).1
theorem rowAll_ok {S : Nat → Nat} {n : Nat} (hn : n ≤ 11) : ∀ {k : Nat}, RowOk (rowAll S n k)
  | 0 => ⟨show 0 < 2 ^ 11 by decide, fun p hp => (by cases hp), List.nodup_nil, show 0 = pcN 0 11 by decide⟩
  | k + 1 => rowIn_ok (rowAll_ok hn) hn
theorem rowIntoIn_n {sets r0 : Nat → Int32} {s i n : Nat} {st : Nat × List Nat} (hn : n ≤ 11) (hi : i < 20) (hs : sets i = nI s) (hs2 : s < 2048) (hst : RowOk st) : loopS (fun (t : Int32 × Int32 × Int32 × (Nat → Int32)) => f_X0_rowInto_L21 (nI n) (nI i) sets t.1 t.2.1 t.2.2.1 t.2.2.2) (nI st.1, (0 : Int32), nI st.2.length, wrL r0 st.2) = some (nI (rowIn s st n).1, nI (rowIn s st n).2.length, wrL r0 (rowIn s st n).2) := by
  refine loop_go (fun k => (nI (rowIn s st k).1, nI k, nI (rowIn s st k).2.length, wrL r0 (rowIn s st k).2)) n rfl (fun k hk => ?_) ?_
  · try dsimp only
    unfold f_X0_rowInto_L21
    have hok := rowIn_ok (s := s) hst (k := k) (by omega)
    obtain ⟨hok2, hlen⟩ := rowStep_ok (s := s) (p := k) (by omega) hok
    have hd : (s &&& ((rowIn s st k).1 ^^^ 4294967295)).testBit k = (s.testBit k && !(rowIn s st k).1.testBit k) := dif_tb (a := s) (b := (rowIn s st k).1) (by omega)
    have hdl : s &&& ((rowIn s st k).1 ^^^ 4294967295) ≤ s := Nat.and_le_left
    rw [if_neg (nI_ge hk (by omega)), gi_n (by omega) (by omega), hs, nI_1]
    simp only [Option.bind_some]
    rw [difN, holds_n (by omega) (by omega), hd, rowIn, rowStep]
    cases hc : (s.testBit k && !(rowIn s st k).1.testBit k) with
    | false => rfl
    | true =>
      have hl := hlen hc
      unfold f_X5_append
      simp only [Option.bind_some, if_true]
      rw [if_neg (show ¬ (1 : Int32) = 0 by decide), if_neg (show ¬ (11 : Int32) ≤ nI (rowIn s st k).2.length from nI_ge (b := 11) hl (by decide)), si_n hl (by omega), wrL_app, one_shl (by omega), or_n, nI_1, List.length_append, List.length_singleton]
      rfl
  · try dsimp only
    unfold f_X0_rowInto_L21
    rw [if_pos (nI_le (Nat.le_refl n) (by omega))]
theorem rowInto_n {sets r0 : Nat → Int32} {S : Nat → Nat} {k n : Nat} {size : Int32} (hk : k ≤ 20) (hn : n ≤ 11) (hS : ∀ j, j < k → sets j = nI (S j) ∧ S j < 2048) : f_X0_rowInto (nI k) sets size r0 (nI n) = some (nI (rowAll S n k).2.length, wrL r0 (rowAll S n k).2) := by
  unfold f_X0_rowInto f_X5_clear
  simp only [Option.bind_some]
  have h : loopS (fun (s : Int32 × Int32 × Int32 × (Nat → Int32)) => f_X0_rowInto_L9 (nI n) (nI k) sets s.1 s.2.1 s.2.2.1 s.2.2.2) ((0 : Int32), (0 : Int32), (0 : Int32), r0) = some (nI (rowAll S n k).2.length, wrL r0 (rowAll S n k).2) := by
    refine loop_go (fun i => (nI (rowAll S n i).1, nI i, nI (rowAll S n i).2.length, wrL r0 (rowAll S n i).2)) k ?_ (fun i hi => ?_) ?_
    · show _ = (nI 0, nI 0, nI 0, wrL r0 [])
      rw [wrL_0]
      rfl
    · try dsimp only
      unfold f_X0_rowInto_L9
      rw [if_neg (nI_ge hi (by omega)), rowIntoIn_n hn (by omega) (hS i hi).1 (hS i hi).2 (rowAll_ok hn), nI_1]
      rfl
    · try dsimp only
      unfold f_X0_rowInto_L9
      rw [if_pos (nI_le (Nat.le_refl k) (by omega))]
  rw [h]
  rfl
def mxN (S : Nat → Nat) (n : Nat) : Nat → Nat
  | 0 => 0
  | i + 1 => if mxN S n i < pcN (S i) n then pcN (S i) n else mxN S n i
theorem mxN_le (S : Nat → Nat) (n : Nat) : ∀ i, mxN S n i ≤ n
  | 0 => Nat.zero_le n
  | i + 1 => by
    rw [mxN]
    have := mxN_le S n i
    have := pcN_le11 (S i) n
    split <;> omega
theorem pcN_mask {s n : Nat} (hn : n ≤ 11) : pcN (s &&& (2 ^ n - 1)) 11 = pcN s n := by
  have e : ∀ k, k ≤ n → pcN (s &&& (2 ^ n - 1)) k = pcN s k := fun k => by
    induction k with
    | zero => intro _; rfl
    | succ k ih =>
      intro hk
      rw [pcN, pcN, ih (by omega), Nat.testBit_and, Nat.testBit_two_pow_sub_one, decide_eq_true (by omega), Bool.and_true]
  rw [← e n (Nat.le_refl n)]
  refine pcN_stop (fun y hy => ?_) hn
  rw [Nat.testBit_and, Nat.testBit_two_pow_sub_one, decide_eq_false (by omega), Bool.and_false]
theorem largestIn_n {sets : Nat → Int32} {S : Nat → Nat} {k n m : Nat} (hm : m = 2 ^ n - 1) (hk : k ≤ 20) (hn : n ≤ 11) (hS : ∀ j, j < k → sets j = nI (S j) ∧ S j < 2048) : loopS (fun (s : Int32 × Int32) => f_X0_largest_L11 (nI m) (nI k) sets s.1 s.2) ((0 : Int32), (0 : Int32)) = some (nI (mxN S n k)) := by
  refine loop_go (fun i => (nI (mxN S n i), nI i)) k rfl (fun i hi => ?_) ?_
  · try dsimp only
    unfold f_X0_largest_L11
    have hlt := (hS i hi).2
    have hle : S i &&& m ≤ S i := Nat.and_le_left
    have h1 := mxN_le S n i
    have h2 := pcN_le11 (S i) n
    have h3 : pcN (S i &&& m) 11 = pcN (S i) n := by rw [hm]; exact pcN_mask hn
    clear hm
    rw [if_neg (nI_ge hi (by omega)), gi_n (by omega) (by omega), (hS i hi).1, nI_1, Option.bind_some, and_n, bitCount_n _ (Nat.lt_of_le_of_lt hle hlt), h3, mxN, Option.bind_some]
    by_cases hc : mxN S n i < pcN (S i) n
    · rw [if_pos hc, if_pos (nI_lt hc (by omega))]
    · rw [if_neg hc, if_neg (nI_nlt (by omega) (by omega))]
  · try dsimp only
    unfold f_X0_largest_L11
    rw [if_pos (nI_le (Nat.le_refl k) (by omega))]
theorem largest_n {sets : Nat → Int32} {S : Nat → Nat} {k n : Nat} (hk : k ≤ 20) (hn : n ≤ 11) (hS : ∀ j, j < k → sets j = nI (S j) ∧ S j < 2048) : f_X0_largest (nI k) sets (nI n) = some (nI (mxN S n k)) := by
  have hpos : 1 ≤ 2 ^ n := Nat.pow_pos (by decide)
  have hw : nI (2 ^ n) - (1 : Int32) = nI (2 ^ n - 1) := pk_sub (b := 1) hpos
  unfold f_X0_largest
  rw [one_shl (by omega), hw, largestIn_n rfl hk hn hS]
  rfl
theorem rowOfIn_n {bag r0 : Nat → Int32} {s i n : Nat} {st : Nat × List Nat} (hn : n ≤ 11) (hi : i < 20) (hs : bag i = nI s) (hs2 : s < 2048) (hst : RowOk st) : loopS (fun (t : Int32 × Int32 × Int32 × Int32 × (Nat → Int32)) => f_X11_rowOf_L40 (nI i) (nI n) bag t.1 t.2.1 t.2.2.1 t.2.2.2.1 t.2.2.2.2) (nI st.1, (0 : Int32), (0 : Int32), nI st.2.length, wrL r0 st.2) = some (nI (rowIn s st n).1, nI (pcN s n), nI (rowIn s st n).2.length, wrL r0 (rowIn s st n).2) := by
  refine loop_go (fun k => (nI (rowIn s st k).1, nI (pcN s k), nI k, nI (rowIn s st k).2.length, wrL r0 (rowIn s st k).2)) n rfl (fun k hk => ?_) ?_
  · try dsimp only
    unfold f_X11_rowOf_L40
    have hok := rowIn_ok (s := s) hst (k := k) (by omega)
    have hm11 := hok.1
    obtain ⟨hok2, hlen⟩ := rowStep_ok (s := s) (p := k) (by omega) hok
    rw [if_neg (nI_ge hk (by omega)), gi_n (by omega) (by omega), hs, nI_1 k]
    simp only [Option.bind_some]
    rw [has_n (by omega) (by omega), has_n (by omega) (by omega), rowIn, rowStep, pcN]
    cases hc : s.testBit k with
    | false => rfl
    | true =>
      cases hm : (rowIn s st k).1.testBit k with
      | true =>
        simp only [Option.bind_some, if_true]
        rw [if_neg (show ¬ (1 : Int32) = 0 by decide), nI_1]
        rfl
      | false =>
        have hl := hlen (by rw [hc, hm]; rfl)
        simp only [Option.bind_some, if_true, Bool.false_eq_true, if_false]
        rw [if_neg (show ¬ (1 : Int32) = 0 by decide), si_n hl (by omega), wrL_app, one_shl (by omega), or_n, nI_1, nI_1]
        simp only [Option.bind_some, b4, Bool.not_false, Bool.and_self, if_true, List.length_append, List.length_singleton]
  · try dsimp only
    unfold f_X11_rowOf_L40
    rw [if_pos (nI_le (Nat.le_refl n) (by omega))]
theorem rowOfM_n {bag r0 : Nat → Int32} {S : Nat → Nat} {k n : Nat} (hk : k ≤ 20) (hn : n ≤ 11) (hS : ∀ j, j < k → bag j = nI (S j) ∧ S j < 2048) : loopS (fun (s : Int32 × Int32 × Int32 × Int32 × (Nat → Int32)) => f_X11_rowOf_L26 (nI n) (nI k) bag s.1 s.2.1 s.2.2.1 s.2.2.2.1 s.2.2.2.2) ((0 : Int32), (0 : Int32), (0 : Int32), (0 : Int32), r0) = some (nI (mxN S n k), nI (rowAll S n k).2.length, wrL r0 (rowAll S n k).2) := by
  refine loop_go (fun i => (nI (mxN S n i), nI (rowAll S n i).1, nI i, nI (rowAll S n i).2.length, wrL r0 (rowAll S n i).2)) k ?_ (fun i hi => ?_) ?_
  · show _ = (nI 0, nI 0, nI 0, nI 0, wrL r0 [])
    rw [wrL_0]
    rfl
  · try dsimp only
    unfold f_X11_rowOf_L26
    have h1 := mxN_le S n i
    have h2 := pcN_le11 (S i) n
    rw [if_neg (nI_ge hi (by omega)), rowOfIn_n hn (by omega) (hS i hi).1 (hS i hi).2 (rowAll_ok hn), nI_1, mxN]
    simp only [b4, Option.bind_some]
    by_cases hc : mxN S n i < pcN (S i) n
    · rw [if_pos hc, if_neg (nI_ge hc (by omega))]
      rfl
    · rw [if_neg hc, if_pos (nI_le (by omega) (by omega))]
      rfl
  · try dsimp only
    unfold f_X11_rowOf_L26
    rw [if_pos (nI_le (Nat.le_refl k) (by omega))]
theorem RowR_list {L : List Nat} (h1 : L.length ≤ 11) (h2 : ∀ p, p ∈ L → p < 11) (h3 : L.Nodup) (r1 r2 : Nat → Int32) : RowR (nI L.length) (nI L.length) (wrL r1 L) (wrL r2 L) := by
  refine ⟨L.length, h1, rfl, rfl, fun j hj => ?_, fun i j hi hj hij => ?_⟩
  · rw [wrL_at hj, wrL_at hj]
    exact ⟨rfl, L[j], h2 _ (List.getElem_mem hj), rfl⟩
  · rw [wrL_at hi, wrL_at hj] at hij
    have a1 := h2 _ (List.getElem_mem hi)
    have a2 := h2 _ (List.getElem_mem hj)
    have h4 := (nI_eq (by omega) (by omega)).mp hij
    have h5 := List.pairwise_iff_getElem.mp h3
    rcases Nat.lt_trichotomy i j with h6 | h6 | h6
    · exact absurd h4 (h5 i j hi hj h6)
    · exact h6
    · exact absurd h4.symm (h5 j i hj hi h6)
theorem l2_rowOf (x_x_net_posts : Int32) (x_x_net_pairs : Int32) (x_x_net_widths : Nat → Int32) (x_x_net_lengths : Nat → Int32) (x_x_net_told : Nat → Int32) (x_x_net_behind : Nat → Int32) (x_x_view_posts : Int32) (x_x_view_roads : Int32) (x_x_view_weight : Int32) (x_x_view_weights : Nat → Int32) (x_x_view_near : Nat → Int32) (x_x_view_behind : Nat → Int32) (x_x_view_ahead : Nat → Int32) (x_x_history_oldest : Int32) (x_x_history_size : Int32) (x_x_history_kept_posts : Nat → Int32) (x_x_history_kept_pairs : Nat → Int32) (x_x_history_kept_widths : Nat → Nat → Int32) (x_x_history_kept_lengths : Nat → Nat → Int32) (x_x_history_kept_told : Nat → Nat → Int32) (x_x_history_kept_behind : Nat → Nat → Int32) (x_x_hand_size : Int32) (x_x_hand_posts : Nat → Int32) (x_x_trial_size : Int32) (x_x_trial_posts : Nat → Int32) (x_x_bags_size : Int32) (x_x_bags_sets : Nat → Int32) (x_x_chase_size : Int32) (x_x_chase_guarded : Int32) (x_x_chase_most : Int32) (x_x_chase_again : Int32) (x_x_chase_idle : Int32) (x_x_chase_moves : Nat → Int32) (x_x_chase_foul : Nat → Int32) (x_x_sets_solvedFor : Int32) (x_x_sets_lowest : Int32) (x_x_sets_total : Int32) (x_x_sets_pricedFor : Int32) (x_x_sets_prices : Nat → Int32) (x_x_sets_rests : Nat → Int32) (x_x_sets_ways : Nat → Int32) (x_x_trials_solvedFor : Int32) (x_x_trials_lowest : Int32) (x_x_trials_total : Int32) (x_x_trials_found : Nat → Int32) (x_x_trials_row_size : Int32) (x_x_trials_row_posts : Nat → Int32) (x_m_thrown : Int32) (x_m_posts : Int32) (x_m_pairs : Int32) (x_m_keptEnd : Int32) (x_m_kept : Int32) (x_m_many : Int32) (x_m_bags : Int32) (x_m_moves : Int32) (x_m_pen : Int32) (x_m_savedMany : Int32) (x_m_leastRow : Int32) (x_m_bestRows : Int32) (x_m_askedRow : Int32) (x_m_rankOfSaved : Int32) (x_m_wallSet : Int32) (x_m_fouledAgain : Int32) (x_m_wide : Nat → Int32) (x_m_places : Nat → Int32) (x_m_weights : Nat → Int32) (x_m_pair : Nat → Int32) (x_m_old : Nat → Int32) (x_m_row : Nat → Int32) (x_m_bag : Nat → Int32) (x_m_hunt : Nat → Int32) (x_m_behind : Nat → Int32) (x_m_least : Nat → Int32) (x_m_ways : Nat → Int32) (x_m_saved : Nat → Int32) (x_m_kth : Nat → Int32) (x_m_clean : Nat → Int32) (h : Rel x_x_net_posts x_x_net_pairs x_x_net_widths x_x_net_lengths x_x_net_told x_x_net_behind x_x_view_posts x_x_view_roads x_x_view_weight x_x_view_weights x_x_view_near x_x_view_behind x_x_view_ahead x_x_history_oldest x_x_history_size x_x_history_kept_posts x_x_history_kept_pairs x_x_history_kept_widths x_x_history_kept_lengths x_x_history_kept_told x_x_history_kept_behind x_x_hand_size x_x_hand_posts x_x_trial_size x_x_trial_posts x_x_bags_size x_x_bags_sets x_x_chase_size x_x_chase_guarded x_x_chase_most x_x_chase_again x_x_chase_idle x_x_chase_moves x_x_chase_foul x_x_sets_solvedFor x_x_sets_lowest x_x_sets_total x_x_sets_pricedFor x_x_sets_prices x_x_sets_rests x_x_sets_ways x_x_trials_solvedFor x_x_trials_lowest x_x_trials_total x_x_trials_found x_x_trials_row_size x_x_trials_row_posts x_m_thrown x_m_posts x_m_pairs x_m_keptEnd x_m_kept x_m_many x_m_bags x_m_moves x_m_pen x_m_savedMany x_m_leastRow x_m_bestRows x_m_askedRow x_m_rankOfSaved x_m_wallSet x_m_fouledAgain x_m_wide x_m_places x_m_weights x_m_pair x_m_old x_m_row x_m_bag x_m_hunt x_m_behind x_m_least x_m_ways x_m_saved x_m_kth x_m_clean) : ∃ (r : Int32) (o_x_hand_size : Int32) (o_x_hand_posts : Nat → Int32) (o_m_thrown : Int32) (o_m_many : Int32) (o_m_row : Nat → Int32), f_X10_rowOf x_x_net_posts x_x_view_posts x_x_view_weights x_x_hand_size x_x_hand_posts x_x_bags_size x_x_bags_sets = some (r, o_x_hand_size, o_x_hand_posts) ∧ f_X11_rowOf x_m_thrown x_m_posts x_m_many x_m_bags x_m_wide x_m_places x_m_weights x_m_row x_m_bag = some (r, o_m_thrown, o_m_many, o_m_row) ∧ Rel x_x_net_posts x_x_net_pairs x_x_net_widths x_x_net_lengths x_x_net_told x_x_net_behind x_x_view_posts x_x_view_roads x_x_view_weight x_x_view_weights x_x_view_near x_x_view_behind x_x_view_ahead x_x_history_oldest x_x_history_size x_x_history_kept_posts x_x_history_kept_pairs x_x_history_kept_widths x_x_history_kept_lengths x_x_history_kept_told x_x_history_kept_behind o_x_hand_size o_x_hand_posts x_x_trial_size x_x_trial_posts x_x_bags_size x_x_bags_sets x_x_chase_size x_x_chase_guarded x_x_chase_most x_x_chase_again x_x_chase_idle x_x_chase_moves x_x_chase_foul x_x_sets_solvedFor x_x_sets_lowest x_x_sets_total x_x_sets_pricedFor x_x_sets_prices x_x_sets_rests x_x_sets_ways x_x_trials_solvedFor x_x_trials_lowest x_x_trials_total x_x_trials_found x_x_trials_row_size x_x_trials_row_posts o_m_thrown x_m_posts x_m_pairs x_m_keptEnd x_m_kept o_m_many x_m_bags x_m_moves x_m_pen x_m_savedMany x_m_leastRow x_m_bestRows x_m_askedRow x_m_rankOfSaved x_m_wallSet x_m_fouledAgain x_m_wide x_m_places x_m_weights x_m_pair x_m_old o_m_row x_m_bag x_m_hunt x_m_behind x_m_least x_m_ways x_m_saved x_m_kth x_m_clean := by
  obtain ⟨n, h1, h2, h3, h4, h5, h6, h7, h8⟩ := h
  have hn : n ≤ 11 := h1.1
  have ep := h1.2.1
  have em := h1.2.2.1
  subst ep
  subst em
  have d10 : ¬ (1 : Int32) = 0 := by decide
  obtain ⟨k, S, hk, e1, e2, e3⟩ := BagsR_nums h5
  have ev := h2.1
  have hww := h2.2.2.2.1
  have hS1 : ∀ j, j < k → x_x_bags_sets j = nI (S j) ∧ S j < 2048 := fun j hj => ⟨(e3 j hj).1, (e3 j hj).2.2⟩
  have hf : f_X0_fault (nI k) x_x_bags_sets (nI n) x_x_view_weights = _ := fault_n (rd := rdM x_m_wide x_m_places x_m_weights) hk hn hS1 (fun a b ha hb => by rw [hww a b (by omega) (by omega), if_pos ⟨ha, hb⟩])
  have hg : f_X11_goodOf (nI n) (nI k) x_m_wide x_m_places x_m_weights x_m_bag = _ := goodOf_n hk hn (fun j hj => (e3 j hj).2)
  by_cases h0 : goodM S k n (rdM x_m_wide x_m_places x_m_weights) = 0
  · obtain ⟨r1, r2, r3, r4⟩ := rowAll_ok (S := S) (n := n) hn (k := k)
    have hR := RowR_list (by rw [r4]; exact pcN_le11 _ 11) (fun p hp => (r2 p hp).1) r3 x_x_hand_posts x_m_row
    refine ⟨nI (mxN S n k), nI (rowAll S n k).2.length, wrL x_x_hand_posts (rowAll S n k).2, 0, nI (rowAll S n k).2.length, wrL x_m_row (rowAll S n k).2, ?_, ?_, Rel_mk h1 h2 h3 hR h5 h6 h7 h8⟩
    · unfold f_X10_rowOf
      rw [ev, e1, hf]
      simp only [Option.bind_some]
      rw [if_pos h0, rowInto_n hk hn hS1, largest_n hk hn hS1]
      rfl
    · unfold f_X11_rowOf
      rw [e2, hg]
      simp only [Option.bind_some]
      rw [if_pos h0, rowOfM_n hk hn (fun j hj => (e3 j hj).2)]
      rfl
  · refine ⟨(-4 : Int32), x_x_hand_size, x_x_hand_posts, 0, x_m_many, x_m_row, ?_, ?_, Rel_mk h1 h2 h3 h4 h5 h6 h7 h8⟩
    · unfold f_X10_rowOf
      rw [ev, e1, hf]
      simp only [Option.bind_some]
      rw [if_neg h0]
    · unfold f_X11_rowOf
      rw [e2, hg]
      simp only [Option.bind_some]
      rw [if_neg h0]
/-! plan -/
def mvL (base s : Nat) : Nat → List Nat
  | 0 => []
  | k + 1 => mvL base s k ++ (if s.testBit k then [base + k] else [])
theorem mvL_len (base s : Nat) : ∀ k, (mvL base s k).length = pcN s k
  | 0 => rfl
  | k + 1 => by
    rw [mvL, pcN, List.length_append, mvL_len base s k]
    cases s.testBit k <;> rfl
theorem mvL_stop {base s n : Nat} (h : ∀ y, n ≤ y → y < 11 → s.testBit y = false) : ∀ {m : Nat}, n ≤ m → m ≤ 11 → mvL base s m = mvL base s n
  | 0, hm, _ => by
    have : n = 0 := by omega
    rw [this]
  | m + 1, hm, h11 => by
    rcases Nat.lt_or_ge n (m + 1) with h1 | h1
    · rw [mvL, mvL_stop h (m := m) (by omega) (by omega), h m (by omega) (by omega)]
      simp
    · have : n = m + 1 := by omega
      rw [this]
theorem mvL_ok {base s v : Nat} : ∀ {k : Nat}, v ∈ mvL base s k → ∃ q, q < k ∧ v = base + q
  | 0, h => by cases h
  | k + 1, h => by
    rw [mvL] at h
    rcases List.mem_append.mp h with h | h
    · obtain ⟨q, h1, h2⟩ := mvL_ok h
      exact ⟨q, by omega, h2⟩
    · cases hs : s.testBit k with
      | false => rw [hs] at h; simp at h
      | true =>
        rw [hs] at h
        exact ⟨k, by omega, by simpa using h⟩
theorem appendAll_n {r0 : Nat → Int32} {s base : Nat} {L : List Nat} {bI : Int32} (hb : bI = nI base) (hs : s < 2 ^ 31) (hl : L.length + pcN s 11 ≤ 60) : f_X1_appendAll (nI L.length) (wrL r0 L) (nI s) bI = some (nI (L ++ mvL base s 11).length, wrL r0 (L ++ mvL base s 11)) := by
  subst hb
  unfold f_X1_appendAll
  have h : loopS (fun (t : Int32 × Int32 × (Nat → Int32)) => f_X1_appendAll_L2 (nI s) (nI base) t.1 t.2.1 t.2.2) ((0 : Int32), nI L.length, wrL r0 L) = some (nI (L ++ mvL base s 11).length, wrL r0 (L ++ mvL base s 11)) := by
    refine loop_go (fun k => (nI k, nI (L ++ mvL base s k).length, wrL r0 (L ++ mvL base s k))) 11 ?_ (fun k hk => ?_) ?_
    · show _ = (nI 0, nI (L ++ []).length, wrL r0 (L ++ []))
      rw [List.append_nil]
      rfl
    · try dsimp only
      unfold f_X1_appendAll_L2
      rw [if_neg (show ¬ (11 : Int32) ≤ nI k from nI_ge (b := 11) hk (by decide)), holds_n hs (by omega), nI_1, mvL]
      cases hc : s.testBit k with
      | false =>
        simp only [Bool.false_eq_true, if_false, List.append_nil]
        rfl
      | true =>
        have hlt : (L ++ mvL base s k).length < 60 := by
          have h1 := (pcN_grow (F := s) (M := s) (k := 11) (fun _ _ h => h)).1
          have h2 : ∀ m, k + 1 ≤ m → pcN s (k + 1) ≤ pcN s m := fun m => by
            induction m with
            | zero => intro h; omega
            | succ m ih =>
              intro h
              rcases Nat.lt_or_ge k m with h3 | h3
              · have := ih (by omega)
                rw [pcN.eq_2 s m]
                omega
              · have : k = m := by omega
                rw [this]
                exact Nat.le_refl _
          have h3 := h2 11 (by omega)
          rw [pcN, hc] at h3
          simp only [if_true] at h3
          rw [List.length_append, mvL_len]
          omega
        simp only [Option.bind_some, if_true]
        rw [if_neg (show ¬ (1 : Int32) = 0 by decide), app60 (g := r0) hlt, nI_add, wrL_app, List.append_assoc]
        simp only [b2, Option.bind_some, List.length_append, List.length_singleton, Nat.add_assoc]
    · try dsimp only
      unfold f_X1_appendAll_L2
      rw [if_pos (show (11 : Int32) ≤ nI 11 from nI_le (a := 11) (by omega) (by decide))]
  rw [h]
  rfl
theorem planGo_n {r0 : Nat → Int32} {on now n : Nat} {L : List Nat} (hn : n ≤ 11) (h1 : on < 2 ^ 31) (h2 : now < 2 ^ 31) (hl : L.length + pcN (dif on now) n ≤ 60) : loopS (fun (t : Int32 × Int32 × (Nat → Int32)) => f_X11_plan_L53 (nI on) (nI now) (nI n) t.1 t.2.1 t.2.2) ((0 : Int32), nI L.length, wrL r0 L) = some (nI (L ++ mvL 100 (dif on now) n).length, wrL r0 (L ++ mvL 100 (dif on now) n)) := by
  refine loop_go (fun k => (nI k, nI (L ++ mvL 100 (dif on now) k).length, wrL r0 (L ++ mvL 100 (dif on now) k))) n ?_ (fun k hk => ?_) ?_
  · show _ = (nI 0, nI (L ++ []).length, wrL r0 (L ++ []))
    rw [List.append_nil]
    rfl
  · try dsimp only
    unfold f_X11_plan_L53
    have hd := dif_tb (a := on) (b := now) (q := k) (by omega)
    have hm : ∀ m, k + 1 ≤ m → pcN (dif on now) (k + 1) ≤ pcN (dif on now) m := fun m => by
      induction m with
      | zero => intro h; omega
      | succ m ih =>
        intro h
        rcases Nat.lt_or_ge k m with h3 | h3
        · have := ih (by omega)
          rw [pcN.eq_2 _ m]
          omega
        · have : k = m := by omega
          rw [this]
          exact Nat.le_refl _
    have h3 := hm n (by omega)
    rw [pcN, hd] at h3
    rw [if_neg (nI_ge hk (by omega)), has_n h1 (by omega), has_n h2 (by omega), nI_1 k, mvL, hd]
    cases hc : on.testBit k with
    | false =>
      simp only [Bool.false_eq_true, if_false, List.append_nil, Bool.false_and]
      rfl
    | true =>
      cases hc2 : now.testBit k with
      | true =>
        simp only [Bool.false_eq_true, if_false, List.append_nil, Bool.true_and, Bool.not_true]
        rfl
      | false =>
        rw [hc, hc2] at h3
        simp only [Bool.not_false, Bool.and_self, if_true] at h3
        have hlt : (L ++ mvL 100 (dif on now) k).length < 60 := by
          rw [List.length_append, mvL_len]
          omega
        simp only [Option.bind_some, if_true, Bool.false_eq_true, if_false, Bool.not_false, Bool.and_self]
        rw [if_neg (show ¬ (1 : Int32) = 0 by decide), si_n hlt (by omega), show (100 : Int32) + nI k = nI (100 + k) from nI_add 100 k, wrL_app, nI_1, List.append_assoc]
        simp only [b2, Option.bind_some, List.length_append, List.length_singleton, Nat.add_assoc]
  · try dsimp only
    unfold f_X11_plan_L53
    rw [if_pos (nI_le (Nat.le_refl n) (by omega))]
theorem planCome_n {r0 : Nat → Int32} {on now n : Nat} {L : List Nat} (hn : n ≤ 11) (h1 : on < 2 ^ 31) (h2 : now < 2 ^ 31) (hl : L.length + pcN (dif now on) n ≤ 60) : loopS (fun (t : Int32 × Int32 × (Nat → Int32)) => f_X11_plan_L113 (nI on) (nI now) (nI n) t.1 t.2.1 t.2.2) ((0 : Int32), nI L.length, wrL r0 L) = some (nI (L ++ mvL 0 (dif now on) n).length, wrL r0 (L ++ mvL 0 (dif now on) n)) := by
  refine loop_go (fun k => (nI k, nI (L ++ mvL 0 (dif now on) k).length, wrL r0 (L ++ mvL 0 (dif now on) k))) n ?_ (fun k hk => ?_) ?_
  · show _ = (nI 0, nI (L ++ []).length, wrL r0 (L ++ []))
    rw [List.append_nil]
    rfl
  · try dsimp only
    unfold f_X11_plan_L113
    have hd := dif_tb (a := now) (b := on) (q := k) (by omega)
    have hm : ∀ m, k + 1 ≤ m → pcN (dif now on) (k + 1) ≤ pcN (dif now on) m := fun m => by
      induction m with
      | zero => intro h; omega
      | succ m ih =>
        intro h
        rcases Nat.lt_or_ge k m with h3 | h3
        · have := ih (by omega)
          rw [pcN.eq_2 _ m]
          omega
        · have : k = m := by omega
          rw [this]
          exact Nat.le_refl _
    have h3 := hm n (by omega)
    rw [pcN, hd] at h3
    rw [if_neg (nI_ge hk (by omega)), has_n h1 (by omega), has_n h2 (by omega), nI_1 k, mvL, hd, Nat.zero_add]
    cases hc : on.testBit k with
    | true =>
      simp only [Bool.false_eq_true, if_false, List.append_nil, Bool.not_true, Bool.and_false]
      rfl
    | false =>
      cases hc2 : now.testBit k with
      | false =>
        simp only [Bool.false_eq_true, if_false, List.append_nil, Bool.false_and]
        rfl
      | true =>
        rw [hc, hc2] at h3
        simp only [Bool.not_false, Bool.and_self, if_true] at h3
        have hlt : (L ++ mvL 0 (dif now on) k).length < 60 := by
          rw [List.length_append, mvL_len]
          omega
        simp only [Option.bind_some, if_true, Bool.false_eq_true, if_false, Bool.not_false, Bool.and_self]
        rw [if_neg (show ¬ (1 : Int32) = 0 by decide), si_n hlt (by omega), wrL_app, nI_1, List.append_assoc]
        simp only [b2, Option.bind_some, List.length_append, List.length_singleton, Nat.add_assoc]
  · try dsimp only
    unfold f_X11_plan_L113
    rw [if_pos (nI_le (Nat.le_refl n) (by omega))]
def prvN (B : Nat → Nat) : Nat → Nat
  | 0 => 0
  | i + 1 => B i
def planL (B : Nat → Nat) : Nat → List Nat
  | 0 => []
  | i + 1 => planL B i ++ mvL 100 (dif (prvN B i) (B i)) 11 ++ mvL 0 (dif (B i) (prvN B i)) 11
theorem pcN_xor {a b : Nat} : ∀ {k : Nat}, k ≤ 32 → pcN (a ^^^ b) k = pcN (dif a b) k + pcN (dif b a) k
  | 0, _ => rfl
  | k + 1, hk => by
    rw [pcN, pcN, pcN, pcN_xor (k := k) (by omega), dif_tb (by omega), dif_tb (by omega), Nat.testBit_xor]
    cases a.testBit k <;> cases b.testBit k <;> simp <;> omega
def plN (B : Nat → Nat) : Nat → Nat
  | 0 => 0
  | i + 1 => plN B i + pcN (prvN B i ^^^ B i) 11
theorem planL_len (B : Nat → Nat) : ∀ i, (planL B i).length = plN B i
  | 0 => rfl
  | i + 1 => by
    rw [planL, plN, List.length_append, List.length_append, mvL_len, mvL_len, planL_len B i, pcN_xor (by omega)]
    omega
theorem planL_ok (B : Nat → Nat) {v : Nat} : ∀ {i : Nat}, v ∈ planL B i → v < 11 ∨ (100 ≤ v ∧ v < 111)
  | 0, h => by cases h
  | i + 1, h => by
    rw [planL] at h
    rcases List.mem_append.mp h with h | h
    · rcases List.mem_append.mp h with h | h
      · exact planL_ok B h
      · obtain ⟨q, h1, h2⟩ := mvL_ok h
        right; omega
    · obtain ⟨q, h1, h2⟩ := mvL_ok h
      left; omega
theorem outM_tb {q : Nat → Nat → Bool} {n s a : Nat} : ∀ {k : Nat}, (outM q n s k).testBit a = true ↔ a < k ∧ s.testBit a = true ∧ anyOut q s a n = true
  | 0 => by simp [outM]
  | k + 1 => by
    rw [outM, Nat.testBit_or, Bool.or_eq_true, outM_tb (k := k)]
    constructor
    · rintro (⟨h1, h2⟩ | h)
      · exact ⟨by omega, h2⟩
      · cases hc : (s.testBit k && anyOut q s k n) with
        | false => rw [hc] at h; simp at h
        | true =>
          rw [hc] at h
          simp only [if_true] at h
          have : k = a := by
            rw [Nat.testBit_two_pow] at h
            simpa using h
          subst this
          rw [Bool.and_eq_true] at hc
          exact ⟨by omega, hc⟩
    · rintro ⟨h1, h2, h3⟩
      rcases Nat.lt_or_ge a k with h4 | h4
      · exact Or.inl ⟨h4, h2, h3⟩
      · have : a = k := by omega
        subst this
        right
        rw [h2, h3]
        simp [Nat.testBit_two_pow_self]
/-- the bags of a row -/
def bagN (q : Nat → Nat → Bool) (n : Nat) (F : Nat → Nat) (i : Nat) : Nat := outM q n (setM F i) n ||| 2 ^ F i
theorem bagN_tb {q : Nat → Nat → Bool} {n : Nat} {F : Nat → Nat} {i y : Nat} : (bagN q n F i).testBit y = true ↔ (y < n ∧ (setM F i).testBit y = true ∧ anyOut q (setM F i) y n = true) ∨ F i = y := by
  unfold bagN
  rw [tb_or, Bool.or_eq_true, outM_tb, decide_eq_true_eq]
theorem anyOut_mono {q : Nat → Nat → Bool} {s t a n : Nat} (hst : ∀ y, s.testBit y = true → t.testBit y = true) (h : anyOut q t a n = true) : anyOut q s a n = true := by
  obtain ⟨b, h1, h2, h3⟩ := anyOut_iff.mp h
  refine anyOut_iff.mpr ⟨b, h1, ?_, h3⟩
  cases hc : s.testBit b with
  | false => rfl
  | true => rw [hst b hc] at h2; cases h2
def bN (b : Bool) : Nat := if b then 1 else 0
theorem pcN_five {a b c d e : Nat} : ∀ {k : Nat}, (∀ y, y < k → bN (a.testBit y) + bN (b.testBit y) + bN (c.testBit y) = bN (d.testBit y) + bN (e.testBit y)) → pcN a k + pcN b k + pcN c k = pcN d k + pcN e k
  | 0, _ => rfl
  | k + 1, h => by
    have h1 := pcN_five (k := k) (fun y hy => h y (by omega))
    have h2 := h k (by omega)
    unfold bN at h2
    rw [pcN, pcN, pcN, pcN, pcN]
    omega
theorem plan_sum {q : Nat → Nat → Bool} {n : Nat} {F : Nat → Nat} (hn : n ≤ 11) (hlt : ∀ j, j < n → F j < n) (hi : ∀ i j, i < n → j < n → F i = F j → i = j) : ∀ {i : Nat}, i ≤ n → plN (bagN q n F) i = pcN (setM F i) 11 + pcN (dif (setM F i) (prvN (bagN q n F) i)) 11
  | 0, _ => by
    show 0 = pcN 0 11 + pcN (dif 0 0) 11
    decide
  | i + 1, hin => by
    rw [plN, plan_sum hn hlt hi (i := i) (by omega), Nat.add_comm, ← Nat.add_assoc]
    apply pcN_five
    intro y hy
    rw [dif_tb (by omega), dif_tb (by omega), Nat.testBit_xor, setM, tb_or]
    show bN (xor ((prvN (bagN q n F) i).testBit y) ((bagN q n F i).testBit y)) + bN ((setM F i).testBit y) + bN ((setM F i).testBit y && !(prvN (bagN q n F) i).testBit y) = bN ((setM F i).testBit y || decide (F i = y)) + bN (((setM F i).testBit y || decide (F i = y)) && !(bagN q n F i).testBit y)
    have hFi : (setM F i).testBit (F i) = false := by
      cases hc : (setM F i).testBit (F i) with
      | false => rfl
      | true =>
        obtain ⟨j, h1, h2⟩ := setM_tb.mp hc
        have := hi j i (by omega) (by omega) h2
        omega
    have hprv : (prvN (bagN q n F) i).testBit y = true → (setM F i).testBit y = true := by
      cases i with
      | zero => intro h; simp [prvN] at h
      | succ i =>
        intro h
        rw [setM, tb_or, Bool.or_eq_true, decide_eq_true_eq]
        rcases bagN_tb.mp h with ⟨-, h2, -⟩ | h2
        · exact Or.inl h2
        · exact Or.inr h2
    have hgone : (setM F i).testBit y = true → (prvN (bagN q n F) i).testBit y = false → (bagN q n F i).testBit y = false := by
      intro h1 h2
      cases hc : (bagN q n F i).testBit y with
      | false => rfl
      | true =>
        exfalso
        rcases bagN_tb.mp hc with ⟨c1, c2, c3⟩ | c1
        · cases i with
          | zero => simp [setM] at h1
          | succ i =>
            have h3 : (bagN q n F i).testBit y = true := by
              rw [setM, tb_or, Bool.or_eq_true, decide_eq_true_eq] at c2
              rcases c2 with c2 | c2
              · refine bagN_tb.mpr (Or.inl ⟨c1, c2, anyOut_mono (fun z hz => ?_) c3⟩)
                rw [setM, tb_or, hz]
                rfl
              · exact bagN_tb.mpr (Or.inr c2)
            have h2' : (bagN q n F i).testBit y = false := h2
            rw [h3] at h2'
            cases h2'
        · rw [c1] at hFi
          rw [hFi] at h1
          cases h1
    by_cases hy2 : F i = y
    · have hb : (bagN q n F i).testBit y = true := bagN_tb.mpr (Or.inr hy2)
      have hp : (prvN (bagN q n F) i).testBit y = false := by
        cases hc : (prvN (bagN q n F) i).testBit y with
        | false => rfl
        | true => rw [← hy2] at hc hprv; rw [hprv hc] at hFi; cases hFi
      rw [hy2] at hFi
      rw [hb, hp, hFi, decide_eq_true hy2]
      rfl
    · rw [decide_eq_false hy2, Bool.or_false]
      cases hs : (setM F i).testBit y with
      | false =>
        have hp : (prvN (bagN q n F) i).testBit y = false := by
          cases hc : (prvN (bagN q n F) i).testBit y with
          | false => rfl
          | true => rw [hprv hc] at hs; cases hs
        have hb : (bagN q n F i).testBit y = false := by
          cases hc : (bagN q n F i).testBit y with
          | false => rfl
          | true =>
            rcases bagN_tb.mp hc with ⟨-, c2, -⟩ | c1
            · rw [hs] at c2; cases c2
            · exact absurd c1 hy2
        rw [hb, hp]
        rfl
      | true =>
        cases hp : (prvN (bagN q n F) i).testBit y with
        | false =>
          rw [hgone hs hp]
          rfl
        | true =>
          cases (bagN q n F i).testBit y <;> rfl
