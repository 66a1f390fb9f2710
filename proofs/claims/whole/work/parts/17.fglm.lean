def al_lx (a b : al_M) : Prop := a.1 < b.1 ∨ a.1 = b.1 ∧ (a.2.1 < b.2.1 ∨ a.2.1 = b.2.1 ∧ (a.2.2.1 < b.2.2.1 ∨ a.2.2.1 = b.2.2.1 ∧ a.2.2.2 < b.2.2.2))
theorem al_lx_i (a b : al_M) (h : al_lx a b) (g : al_lx b a) : False := by unfold al_lx at *; omega
def fg_B (B : List al_M) (i : Nat) : al_M := B[i]?.getD (0, 0, 0, 0)
abbrev fg_S := List al_M × List (al_M × (Nat → Int))
def fg_c (n : Nat) (X : fg_S) (m : al_M) : Prop :=
  (∃ i v, i < X.1.length ∧ v < n ∧ m = al_p (fg_B X.1 i) (tb_x v)) ∧ m ∉ X.1 ∧ ∀ e, e ∈ X.2 → ¬ al_le e.1 m
def fg_n (n : Nat) (X : fg_S) (m : al_M) : Prop := fg_c n X m ∧ ∀ m', fg_c n X m' → m' = m ∨ al_lx m m'
def fg_d (p : Int) (nf : al_M → al_M → Int) (S : al_M → Prop) (B : List al_M) (m : al_M) (a : Nat → Int) : Prop :=
  ∀ s, S s → al_e p (nf m s + al_S B.length (fun i => a i * nf (fg_B B i) s)) 0
def fg_k (p : Int) (B : List al_M) (a : Nat → Int) : Prop := ∀ i, (i < B.length → 0 ≤ a i ∧ a i < p) ∧ (B.length ≤ i → a i = 0)
def fg_s (p : Int) (n : Nat) (nf : al_M → al_M → Int) (S : al_M → Prop) (X Y : fg_S) : Prop :=
  ∃ m, fg_n n X m ∧ ((∃ a, fg_k p X.1 a ∧ fg_d p nf S X.1 m a ∧ Y = (X.1, X.2 ++ [(m, a)])) ∨ ((¬ ∃ a, fg_d p nf S X.1 m a) ∧ Y = (X.1 ++ [m], X.2)))
def fg_i (p : Int) (nf : al_M → al_M → Int) (S : al_M → Prop) (B : List al_M) : Prop :=
  ∀ a : Nat → Int, (∀ s, S s → al_e p (al_S B.length (fun i => a i * nf (fg_B B i) s)) 0) → ∀ i, i < B.length → al_e p (a i) 0
theorem fg_d_u {p : Int} {nf : al_M → al_M → Int} {S : al_M → Prop} {B : List al_M} (hi : fg_i p nf S B) {m : al_M} {a b : Nat → Int} (h1 : fg_d p nf S B m a) (h2 : fg_d p nf S B m b) (k1 : fg_k p B a) (k2 : fg_k p B b) : a = b := by
  have h3 := hi (fun i => a i - b i) (fun s hs => by
    have := al_e_d (h1 s hs) (h2 s hs)
    refine al_e_t (al_e_of ?_) (al_e_t this (al_e_of (by omega)))
    have e : al_S B.length (fun i => (a i - b i) * nf (fg_B B i) s) = al_S B.length (fun i => a i * nf (fg_B B i) s) - al_S B.length (fun i => b i * nf (fg_B B i) s) := by
      rw [← al_S_d]; exact al_S_c (fun i _ => by grind)
    omega)
  funext i
  by_cases h : i < B.length
  · have h4 := al_e_a (h3 i h) (al_e_r p (b i))
    have h5 : al_e p (a i) (b i) := al_e_t (al_e_of (by omega)) (al_e_t h4 (al_e_of (by omega)))
    exact al_e_u h5 ((k1 i).1 h).1 ((k1 i).1 h).2 ((k2 i).1 h).1 ((k2 i).1 h).2
  · rw [(k1 i).2 (by omega), (k2 i).2 (by omega)]
theorem fg_n_u {n : Nat} {X : fg_S} {m m' : al_M} (h : fg_n n X m) (g : fg_n n X m') : m = m' := by
  rcases h.2 m' g.1 with h1 | h1
  · exact h1.symm
  · rcases g.2 m h.1 with h2 | h2
    · exact h2
    · exact (al_lx_i _ _ h1 h2).elim
theorem fg_s_u {p : Int} {n : Nat} {nf : al_M → al_M → Int} {S : al_M → Prop} {X Y Z : fg_S} (hi : fg_i p nf S X.1) (h1 : fg_s p n nf S X Y) (h2 : fg_s p n nf S X Z) : Y = Z := by
  obtain ⟨m, hm, h1⟩ := h1
  obtain ⟨m', hm', h2⟩ := h2
  obtain rfl := fg_n_u hm hm'
  rcases h1 with ⟨a, ka, da, rfl⟩ | ⟨na, rfl⟩
  · rcases h2 with ⟨b, kb, db, rfl⟩ | ⟨nb, rfl⟩
    · rw [fg_d_u hi da db ka kb]
    · exact absurd ⟨a, da⟩ nb
  · rcases h2 with ⟨b, kb, db, rfl⟩ | ⟨nb, rfl⟩
    · exact absurd ⟨b, db⟩ na
    · rfl
theorem fg_B_l (B : List al_M) (m : al_M) (i : Nat) (h : i < B.length) : fg_B (B ++ [m]) i = fg_B B i := by
  unfold fg_B
  rw [List.getElem?_append_left h]
theorem fg_B_r (B : List al_M) (m : al_M) : fg_B (B ++ [m]) B.length = m := by
  unfold fg_B
  rw [List.getElem?_append_right (Nat.le_refl _)]
  simp
theorem fg_s_i {p : Nat} (hp : al_pr p) {n : Nat} {nf : al_M → al_M → Int} {S : al_M → Prop} {X Y : fg_S} (hi : fg_i p nf S X.1) (h1 : fg_s p n nf S X Y) : fg_i p nf S Y.1 := by
  obtain ⟨m, hm, h1⟩ := h1
  rcases h1 with ⟨a, ka, da, rfl⟩ | ⟨na, rfl⟩
  · exact hi
  · intro a ha
    have h2 : ∀ s, S s → al_e p (al_S X.1.length (fun i => a i * nf (fg_B X.1 i) s) + a X.1.length * nf m s) 0 := by
      intro s hs
      have h3 := ha s hs
      rw [List.length_append, List.length_singleton, al_S_s, fg_B_r] at h3
      rw [al_S_c (g := fun i => a i * nf (fg_B X.1 i) s) (fun i hi => by rw [fg_B_l _ _ _ hi])] at h3
      exact h3
    have h4 : al_e p (a X.1.length) 0 := by
      refine Classical.byContradiction (fun hz => na ?_)
      have hp2 := hp.1
      have hz2 : 0 < a X.1.length % (p : Int) := by
        have := Int.emod_nonneg (a X.1.length) (show (p : Int) ≠ 0 by omega)
        by_cases h5 : a X.1.length % (p : Int) = 0
        · exact absurd (al_e_t (al_e_s (al_e_q _ _)) (al_e_of h5)) hz
        · omega
      have hz3 := Int.emod_lt_of_pos (a X.1.length) (show (0 : Int) < p by omega)
      have hv := al_inv_e hp hz2 hz3
      have hv2 := al_e_t (al_e_m (al_e_r p ((a X.1.length % (p : Int)) ^ (p - 2))) (al_e_s (al_e_q p (a X.1.length)))) hv
      generalize (a X.1.length % (p : Int)) ^ (p - 2) = y at hv2
      refine ⟨fun i => y * a i, fun s hs => ?_⟩
      have h6 := al_e_m (al_e_r p y) (h2 s hs)
      have h7 := al_e_m hv2 (al_e_r p (nf m s))
      have e : al_S X.1.length (fun i => y * a i * nf (fg_B X.1 i) s) = y * al_S X.1.length (fun i => a i * nf (fg_B X.1 i) s) := by
        rw [← al_S_m]; exact al_S_c (fun i _ => by grind)
      simp only [e]
      have h8 := al_e_d h6 h7
      have h9 := al_e_a h8 (al_e_r p (nf m s))
      refine al_e_t (al_e_of ?_) (al_e_t h9 (al_e_of ?_)) <;> grind
    intro i hii
    rw [List.length_append, List.length_singleton] at hii
    by_cases h5 : i = X.1.length
    · rw [h5]; exact h4
    · refine hi a (fun s hs => ?_) i (by omega)
      have h6 := al_e_d (h2 s hs) (al_e_0m (b := nf m s) h4)
      exact al_e_t (al_e_of (by omega)) (al_e_t h6 (al_e_of (by omega)))
def fg_r (p : Int) (n : Nat) (nf : al_M → al_M → Int) (S : al_M → Prop) : Nat → fg_S → fg_S → Prop
  | 0, X, Y => X = Y
  | k + 1, X, Y => ∃ Z, fg_s p n nf S X Z ∧ fg_r p n nf S k Z Y
theorem fg_r_s {p : Int} {n : Nat} {nf : al_M → al_M → Int} {S : al_M → Prop} : ∀ (k : Nat) (X Y Z : fg_S), fg_r p n nf S k X Y → fg_s p n nf S Y Z → fg_r p n nf S (k + 1) X Z := by
  intro k
  induction k with
  | zero => rintro X Y Z rfl h; exact ⟨Z, h, rfl⟩
  | succ k ih => rintro X Y Z ⟨W, h1, h2⟩ h; exact ⟨W, h1, ih W Y Z h2 h⟩
theorem fg_r_u {p : Nat} (hp : al_pr p) {n : Nat} {nf : al_M → al_M → Int} {S : al_M → Prop} : ∀ (k j : Nat) (X Y Z : fg_S), fg_i p nf S X.1 → fg_r p n nf S k X Y → fg_r p n nf S j X Z → (∀ m, ¬ fg_n n Y m) → (∀ m, ¬ fg_n n Z m) → Y = Z := by
  intro k
  induction k with
  | zero =>
    rintro j X Y Z hi rfl h2 hY hZ
    cases j with
    | zero => exact h2
    | succ j =>
      obtain ⟨W, ⟨m, hm, _⟩, _⟩ := h2
      exact absurd hm (hY m)
  | succ k ih =>
    rintro j X Y Z hi ⟨W, h1, h2⟩ h3 hY hZ
    cases j with
    | zero =>
      obtain rfl : X = Z := h3
      obtain ⟨m, hm, _⟩ := h1
      exact absurd hm (hZ m)
    | succ j =>
      obtain ⟨W', h4, h5⟩ := h3
      obtain rfl := fg_s_u hi h1 h4
      exact ih j W Y Z (fg_s_i hp hi h1) h2 h5 hY hZ
theorem fg_el {p : Int} {b K : Nat} {w : Nat → Nat → Int} {pv : Nat → Nat} (h1 : ∀ k, k < b → pv k < K ∧ al_e p (w k (pv k)) 1) (h2 : ∀ i k, i < k → k < b → al_e p (w k (pv i)) 0)
    {u rho : Nat → Int} (h3 : ∀ c, c < K → al_e p (rho c) (al_S b (fun k => u k * w k c))) (h4 : ∀ k, k < b → al_e p (rho (pv k)) 0) (c : Nat) (hc : c < K) : al_e p (rho c) 0 := by
  have hu : ∀ k, k < b → al_e p (u k) 0 := by
    intro k
    induction k using Nat.strongRecOn with
    | _ k ih =>
      intro hk
      have h5 := al_e_t (al_e_s (h3 (pv k) (h1 k hk).1)) (h4 k hk)
      have h6 : al_e p (al_S b (fun j => u j * w j (pv k))) (u k * w k (pv k)) := by
        refine al_e_S1 (g := fun j => u j * w j (pv k)) hk (fun j hj hne => ?_)
        by_cases h7 : j < k
        · exact al_e_0m (ih j h7 hj)
        · exact al_e_m0 (h2 k j (by omega) hj)
      have h7 := al_e_m (al_e_r p (u k)) (h1 k hk).2
      exact al_e_t (al_e_of (by omega)) (al_e_t (al_e_s h7) (al_e_t (al_e_s h6) h5))
  exact al_e_t (h3 c hc) (al_e_S0 (fun k hk => al_e_0m (hu k hk)))
theorem fg_el2 {p : Int} {nf : al_M → al_M → Int} {S : al_M → Prop} {st : Nat → al_M} {B : List al_M} {K : Nat} (hS : ∀ c, c < K → S (st c)) {w : Nat → Nat → Int} {pv : Nat → Nat}
    (h1 : ∀ k, k < B.length → pv k < K ∧ al_e p (w k (pv k)) 1) (h2 : ∀ i k, i < k → k < B.length → al_e p (w k (pv i)) 0)
    (hw : ∀ i, i < B.length → ∃ t : Nat → Int, ∀ c, c < K → al_e p (nf (fg_B B i) (st c)) (al_S B.length (fun k => t k * w k c)))
    {m : al_M} {q rho : Nat → Int} (h3 : ∀ c, c < K → al_e p (rho c) (nf m (st c) + al_S B.length (fun i => q i * nf (fg_B B i) (st c)))) (h4 : ∀ k, k < B.length → al_e p (rho (pv k)) 0)
    (hd : ∃ a, fg_d p nf S B m a) (c : Nat) (hc : c < K) : al_e p (rho c) 0 := by
  obtain ⟨a, ha⟩ := hd
  have hw2 : ∃ t : Nat → Nat → Int, ∀ i, i < B.length → ∀ c, c < K → al_e p (nf (fg_B B i) (st c)) (al_S B.length (fun k => t i k * w k c)) := by
    refine ⟨fun i => @dite (Nat → Int) (i < B.length) _ (fun h => (hw i h).choose) (fun _ _ => 0), fun i hi c hc => ?_⟩
    have := (hw i hi).choose_spec c hc
    simp only [dif_pos hi]
    exact this
  obtain ⟨t, ht⟩ := hw2
  refine fg_el h1 h2 (u := fun k => al_S B.length (fun i => (q i - a i) * t i k)) (fun c hc => ?_) h4 c hc
  have e2 : al_e p (rho c) (al_S B.length (fun i => (q i - a i) * nf (fg_B B i) (st c))) := by
    have e1 := al_e_a (al_e_r p (al_S B.length (fun i => (q i - a i) * nf (fg_B B i) (st c)))) (ha (st c) (hS c hc))
    have e4 : al_S B.length (fun i => (q i - a i) * nf (fg_B B i) (st c)) = al_S B.length (fun i => q i * nf (fg_B B i) (st c)) - al_S B.length (fun i => a i * nf (fg_B B i) (st c)) := by
      rw [← al_S_d]; exact al_S_c (fun i _ => by grind)
    refine al_e_t (h3 c hc) (al_e_t (al_e_of ?_) (al_e_t e1 (al_e_of ?_))) <;> omega
  refine al_e_t e2 ?_
  have e3 : al_e p (al_S B.length (fun i => (q i - a i) * nf (fg_B B i) (st c))) (al_S B.length (fun i => al_S B.length (fun k => (q i - a i) * t i k * w k c))) := by
    refine al_e_S (fun i hi => ?_)
    refine al_e_t (al_e_m (al_e_r p _) (ht i hi c hc)) (al_e_of ?_)
    rw [← al_S_m]; exact al_S_c (fun k _ => by grind)
  refine al_e_t e3 (al_e_of ?_)
  rw [al_S_w]
  exact al_S_c (fun k _ => al_S_r _ _ _)
