/-! LAYER 2: a new object -/
theorem l2_init : ∃ o_fill : Nat → Int32, f_J7_fill_53178 11 (fun _ => 0) (-1 : Int32) = some o_fill ∧ Rel (0 : Int32) (0 : Int32) o_fill (fun _ => 0) (fun _ => 0) (fun _ => 0) (0 : Int32) (0 : Int32) (0 : Int32) (fun _ => 0) (fun _ => 0) (fun _ => 0) (fun _ => 0) (0 : Int32) (0 : Int32) (fun _ => 0) (fun _ => 0) (fun _ => o_fill) (fun _ => (fun _ => 0)) (fun _ => (fun _ => 0)) (fun _ => (fun _ => 0)) (0 : Int32) (fun _ => 0) (0 : Int32) (fun _ => 0) (0 : Int32) (fun _ => 0) (0 : Int32) (0 : Int32) (0 : Int32) (0 : Int32) (0 : Int32) (fun _ => 0) (fun _ => 0) (-1 : Int32) (0 : Int32) (0 : Int32) (-1 : Int32) (fun _ => 0) (fun _ => 0) (fun _ => 0) (-1 : Int32) (0 : Int32) (0 : Int32) (fun _ => 0) (0 : Int32) (fun _ => 0) (0 : Int32) (0 : Int32) (0 : Int32) (0 : Int32) (0 : Int32) (0 : Int32) (0 : Int32) (0 : Int32) (0 : Int32) (0 : Int32) (0 : Int32) (0 : Int32) (0 : Int32) (0 : Int32) (0 : Int32) (0 : Int32) (wd 11) (fun _ => 0) (fun _ => 0) (fun _ => 0) (fun _ => 0) (fun _ => 0) (fun _ => 0) (fun _ => 0) (fun _ => 0) (fun _ => 0) (fun _ => 0) (fun _ => 0) (fun _ => 0) (fun _ => 0) := by
  refine ⟨filled (fun _ => 0) (-1 : Int32) 11, fill_n (by omega), ?_⟩
  have hz : ∀ k, cntM (fun _ => (0 : Int32)) k = 0 := by
    intro k
    induction k with
    | zero => rfl
    | succ k ih => rw [cntM, ih]; rfl
  have hm : ∀ (q : Nat → Bool) (k : Nat), (∀ b, q b = false) → mkB q k = 0 := by
    intro q k h
    induction k with
    | zero => rfl
    | succ k ih => rw [mkB, ih, h k]; simp
  have hp : ∀ a b, prQ (fun _ => (0 : Int32)) a b = false := fun a b => by simp [prQ]
  have hw : ∀ a, a < 11 → filled (fun _ => 0) (-1 : Int32) 11 a = (-1 : Int32) := fun a ha => by simp [filled, ha]
  refine Rel_mk (n := 0) ?_ ?_ ?_ ?_ ?_ ?_ ?_ ?_
  · refine ⟨by omega, nI_0.symm, nI_0.symm, ?_, ?_, ?_, fun a ha => absurd ha (by omega), fun a _ ha => ⟨hw a ha, rfl⟩, fun a b ha hb => rfl, fun a b ha => absurd ha (by omega), fun a ha => ?_, fun a b ha hb => Or.inl rfl, fun _ => 0, fun a b ha hb hab => ?_⟩
    · rw [hz, nI_0]
    · rw [hz, nI_0]
    · rw [hz]; omega
    · rw [hm _ _ (fun b => hp a b), nI_0]
    · rw [hp a b] at hab
      cases hab
  · refine ⟨nI_0.symm, nI_0.symm, rfl, fun a b ha hb => by rw [if_neg (by omega)], fun a ha => ?_, fun a ha => ?_, fun a ha => ?_⟩
    · rw [hm _ _ (fun b => by simp), nI_0]
    · rw [hm _ _ (fun b => hp a b), nI_0]
    · rw [hm _ _ (fun b => hp b a), nI_0]
  · exact ⟨0, 0, by omega, by omega, nI_0.symm, nI_0.symm, nI_0.symm, nI_0.symm, fun i hi => absurd hi (by omega)⟩
  · exact ⟨0, by omega, nI_0.symm, nI_0.symm, fun j hj => absurd hj (by omega), fun i j hi => absurd hi (by omega)⟩
  · exact ⟨0, by omega, nI_0.symm, nI_0.symm, fun j hj => absurd hj (by omega)⟩
  · exact ⟨0, by omega, nI_0.symm, nI_0.symm, fun j hj => absurd hj (by omega)⟩
  · exact ⟨Or.inl rfl, Or.inl rfl⟩
  · exact Or.inl rfl
