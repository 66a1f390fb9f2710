def rf_in (o : Nat) (x : al_M) : List al_M → List al_M
  | [] => [x]
  | y :: t => if al_ltb o x y = true then y :: rf_in o x t else x :: y :: t
def rf_en (n : Nat) : List al_M :=
  (List.range (tb_h n + 1)).flatMap (fun a => (List.range (if 1 < n then tb_h n - a + 1 else 1)).flatMap (fun b => (List.range (if 2 < n then tb_h n - a - b + 1 else 1)).flatMap (fun c => (List.range (if 3 < n then tb_h n - a - b - c + 1 else 1)).map (fun d => (a, b, c, d)))))
def rf_eq : List al_M → List al_M → Bool
  | [], [] => true
  | x :: s, y :: t => Nat.beq x.1 y.1 && Nat.beq x.2.1 y.2.1 && Nat.beq x.2.2.1 y.2.2.1 && Nat.beq x.2.2.2 y.2.2.2 && rf_eq s t
  | _, _ => false
theorem rf_eq_t : ∀ s t, rf_eq s t = true → s = t := by
  intro s
  induction s with
  | nil => intro t h; cases t with
    | nil => rfl
    | cons y t => simp [rf_eq] at h
  | cons x s ih => intro t h; cases t with
    | nil => simp [rf_eq] at h
    | cons y t =>
      simp only [rf_eq, Bool.and_eq_true, Nat.beq_eq] at h
      rw [ih t h.2, al_M_x h.1.1.1.1 h.1.1.1.2 h.1.1.2 h.1.2]
def rf_ck (n o : Nat) : Bool := rf_eq ((rf_en n).foldl (fun l x => rf_in o x l) []).reverse (tb n o)
set_option maxRecDepth 100000 in
theorem rf_ck_t : (rf_ck 1 0 && rf_ck 1 1 && rf_ck 2 0 && rf_ck 2 1 && rf_ck 3 0 && rf_ck 3 1 && rf_ck 4 0 && rf_ck 4 1) = true := by decide +kernel
theorem rf_tb {n o : Nat} (h : tb_ok n o) : ((rf_en n).foldl (fun l x => rf_in o x l) []).reverse = tb n o := by
  have h1 := rf_ck_t
  simp only [Bool.and_eq_true] at h1
  obtain ⟨⟨⟨⟨⟨⟨⟨h1, h2⟩, h3⟩, h4⟩, h5⟩, h6⟩, h7⟩, h8⟩ := h1
  obtain ⟨a, b, c⟩ := h
  refine rf_eq_t _ _ ?_
  obtain rfl | rfl | rfl | rfl : n = 1 ∨ n = 2 ∨ n = 3 ∨ n = 4 := by omega
  · obtain rfl | rfl : o = 0 ∨ o = 1 := by omega
    · exact h1
    · exact h2
  · obtain rfl | rfl : o = 0 ∨ o = 1 := by omega
    · exact h3
    · exact h4
  · obtain rfl | rfl : o = 0 ∨ o = 1 := by omega
    · exact h5
    · exact h6
  · obtain rfl | rfl : o = 0 ∨ o = 1 := by omega
    · exact h7
    · exact h8
theorem al_R_all {p : Int} {E : Nat} {L : Nat → Prop} {r : Nat → Nat → Int} (he : al_ec p E L r) (hL : ∀ l, l < E → L l) : ∀ (k : Nat) (f : Nat → Int), k ≤ E → (∀ j, k ≤ j → al_e p (f j) 0) → al_R p L r f := by
  have hR := al_R_L p L r
  intro k
  induction k with
  | zero => intro f _ hf; exact hR.2.1 _ _ hR.1 (fun i => hf i (by omega))
  | succ k ih =>
    intro f hk hf
    have hl := hL k (by omega)
    obtain ⟨h1, h2, h3⟩ := he k hl
    have h4 := ih (fun i => f i - f k * r k i) (by omega) (fun j hj => by
      by_cases h5 : j = k
      · subst h5
        exact al_e_t (al_e_d (al_e_r p _) (al_e_m (al_e_r p _) h2)) (al_e_of (by omega))
      · exact al_e_t (al_e_d (hf j (by omega)) (al_e_m0 (h3 j (by omega)))) (al_e_of (by omega)))
    exact hR.2.1 _ _ (hR.2.2 _ _ (f k) h4 (al_R_r hl)) (fun i => al_e_of (by omega))
