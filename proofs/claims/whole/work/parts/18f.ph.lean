theorem ph_le : ∀ (E M : Nat) (f : Nat → Nat), (∀ k, k < M → f k < E) → (∀ i j, i < M → j < M → f i = f j → i = j) → M ≤ E := by
  intro E
  induction E with
  | zero =>
    intro M f h1 _
    refine Nat.le_of_not_lt (fun h => ?_)
    have := h1 0 h
    omega
  | succ E ih =>
    intro M f h1 h2
    by_cases hk : ∃ k, k < M ∧ f k = E
    · obtain ⟨k, hk, hfk⟩ := hk
      have h3 := ih (M - 1) (fun i => if i = k then f (M - 1) else f i) (fun i hi => by
        by_cases hik : i = k
        · simp only [if_pos hik]
          have h4 := h1 (M - 1) (by omega)
          have h5 : f (M - 1) ≠ E := fun h6 => by
            have := h2 (M - 1) k (by omega) hk (by rw [h6, hfk])
            omega
          omega
        · simp only [if_neg hik]
          have h4 := h1 i (by omega)
          have h5 : f i ≠ E := fun h6 => hik (h2 i k (by omega) hk (by rw [h6, hfk]))
          omega) (fun i j hi hj h4 => by
        by_cases hik : i = k
        · by_cases hjk : j = k
          · omega
          · simp only [if_pos hik, if_neg hjk] at h4
            have := h2 (M - 1) j (by omega) (by omega) h4
            omega
        · by_cases hjk : j = k
          · simp only [if_neg hik, if_pos hjk] at h4
            have := h2 i (M - 1) (by omega) (by omega) h4
            omega
          · simp only [if_neg hik, if_neg hjk] at h4
            exact h2 i j (by omega) (by omega) h4)
      omega
    · have h3 := ih M f (fun i hi => by
        have h4 := h1 i hi
        have h5 : f i ≠ E := fun h6 => hk ⟨i, hi, h6⟩
        omega) h2
      omega
theorem ph_su {M : Nat} {f : Nat → Nat} (h1 : ∀ k, k < M → f k < M) (h2 : ∀ i j, i < M → j < M → f i = f j → i = j) (l : Nat) (hl : l < M) : ∃ k, k < M ∧ f k = l := by
  refine Classical.byContradiction (fun hh => ?_)
  have h3 := ph_le M (M + 1) (fun k => if k = M then l else f k) (fun k hk => by
    by_cases h : k = M
    · simp only [if_pos h]; exact hl
    · simp only [if_neg h]; exact h1 k (by omega)) (fun i j hi hj h4 => by
    by_cases hi2 : i = M
    · by_cases hj2 : j = M
      · omega
      · simp only [if_pos hi2, if_neg hj2] at h4
        exact absurd ⟨j, by omega, h4.symm⟩ hh
    · by_cases hj2 : j = M
      · simp only [if_neg hi2, if_pos hj2] at h4
        exact absurd ⟨i, by omega, h4⟩ hh
      · simp only [if_neg hi2, if_neg hj2] at h4
        exact h2 i j (by omega) (by omega) h4)
  omega
theorem al_R_mono {p : Int} {L L' : Nat → Prop} {r r' : Nat → Nat → Int} (h : ∀ l, L l → L' l ∧ ∀ i, al_e p (r l i) (r' l i)) {f : Nat → Int} (hf : al_R p L r f) : al_R p L' r' f := by
  intro S hS hr
  exact hf S hS (fun l hl => hS.2.1 _ _ (hr l (h l hl).1) (h l hl).2)
