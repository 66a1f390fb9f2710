theorem mzr_ls2 (e : mz_E) (d : Nat) (M : mx_M) (P : mz_O → mz_H → Prop) (K : Nat → mz_L → List mz_W → mz_H → Prop) (pc : Nat) (L : mz_L) (H : mz_H) (t : List mz_W) (x a b c : Int) (len : Nat) : mz_I e d M P K pc L (.inl x :: t) H (.lookupswitch c #[(0, a), (1, b)]) len = (if x = 0 then (0 ≤ (pc : Int) + a ∧ K (mx_to pc a) L t H) else if x = 1 then (0 ≤ (pc : Int) + b ∧ K (mx_to pc b) L t H) else (0 ≤ (pc : Int) + c ∧ K (mx_to pc c) L t H)) := by
  have h : mz_I e d M P K pc L (.inl x :: t) H (.lookupswitch c #[(0, a), (1, b)]) len = (True ∧ (0 ≤ (pc : Int) + (if (0 : Int) = x then a else if (1 : Int) = x then b else c) ∧ K (mx_to pc (if (0 : Int) = x then a else if (1 : Int) = x then b else c)) L t H)) := by
    refine congr (congrArg And ?_) rfl
    exact propext ⟨fun _ => trivial, fun _ => rfl⟩
  rw [h, true_and]
  by_cases h0 : x = 0
  · rw [if_pos h0, if_pos h0.symm]
  · rw [if_neg h0, if_neg (fun q => h0 q.symm)]
    by_cases h1 : x = 1
    · rw [if_pos h1, if_pos h1.symm]
    · rw [if_neg h1, if_neg (fun q => h1 q.symm)]
theorem mzr_ts4 (e : mz_E) (d : Nat) (M : mx_M) (P : mz_O → mz_H → Prop) (K : Nat → mz_L → List mz_W → mz_H → Prop) (pc : Nat) (L : mz_L) (H : mz_H) (t : List mz_W) (x a0 a1 a2 a3 c : Int) (len : Nat) : mz_I e d M P K pc L (.inl x :: t) H (.tableswitch c 0 3 #[a0, a1, a2, a3]) len = (if x = 0 then (0 ≤ (pc : Int) + a0 ∧ K (mx_to pc a0) L t H) else if x = 1 then (0 ≤ (pc : Int) + a1 ∧ K (mx_to pc a1) L t H) else if x = 2 then (0 ≤ (pc : Int) + a2 ∧ K (mx_to pc a2) L t H) else if x = 3 then (0 ≤ (pc : Int) + a3 ∧ K (mx_to pc a3) L t H) else (0 ≤ (pc : Int) + c ∧ K (mx_to pc c) L t H)) := by
  have h : mz_I e d M P K pc L (.inl x :: t) H (.tableswitch c 0 3 #[a0, a1, a2, a3]) len = ((x < 0 ∨ 3 < x → 0 ≤ (pc : Int) + c ∧ K (mx_to pc c) L t H) ∧ (¬ (x < 0 ∨ 3 < x) → ∃ off, (#[a0, a1, a2, a3] : Array Int)[(x - 0).toNat]? = some off ∧ 0 ≤ (pc : Int) + off ∧ K (mx_to pc off) L t H)) := rfl
  rw [h]
  by_cases h0 : x = 0
  · subst h0; simp
  · by_cases h1 : x = 1
    · subst h1; simp
    · by_cases h2 : x = 2
      · subst h2; simp
      · by_cases h3 : x = 3
        · subst h3; simp
        · have hb : x < 0 ∨ 3 < x := by omega
          rw [if_neg h0, if_neg h1, if_neg h2, if_neg h3]
          exact propext ⟨fun q => q.1 hb, fun q => ⟨fun _ => q, fun q2 => absurd hb q2⟩⟩
theorem mz_af_t {M : mx_M} {pc : Nat} {L : mz_L} {rest : List mz_W} {P : mz_O → mz_H → Prop} {K : Nat → mz_L → List mz_W → mz_H → Prop} {x : Nat} {H : mz_H} (h : M.2.2.2.2.1 = []) (hP : P (.inr x) H) : mz_af M pc L rest P K (.inr x) H := by
  show (if M.2.2.2.2.1 = [] then P (.inr x) H else _)
  rw [if_pos h]
  exact hP
