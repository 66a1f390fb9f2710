def al_S : Nat → (Nat → Int) → Int
  | 0, _ => 0
  | n + 1, f => al_S n f + f n
theorem al_S_0 (f : Nat → Int) : al_S 0 f = 0 := rfl
theorem al_S_s (n : Nat) (f : Nat → Int) : al_S (n + 1) f = al_S n f + f n := rfl
theorem al_S_c {n : Nat} {f g : Nat → Int} (h : ∀ i, i < n → f i = g i) : al_S n f = al_S n g := by
  induction n with
  | zero => rfl
  | succ n ih => rw [al_S_s, al_S_s, ih (fun i hi => h i (by omega)), h n (by omega)]
theorem al_S_z {n : Nat} {f : Nat → Int} (h : ∀ i, i < n → f i = 0) : al_S n f = 0 := by
  induction n with
  | zero => rfl
  | succ n ih => rw [al_S_s, ih (fun i hi => h i (by omega)), h n (by omega)]; rfl
theorem al_S_a (n : Nat) (f g : Nat → Int) : al_S n (fun i => f i + g i) = al_S n f + al_S n g := by
  induction n with
  | zero => rfl
  | succ n ih => simp only [al_S_s, ih]; omega
theorem al_S_n (n : Nat) (f : Nat → Int) : al_S n (fun i => - f i) = - al_S n f := by
  induction n with
  | zero => rfl
  | succ n ih => simp only [al_S_s, ih]; omega
theorem al_S_d (n : Nat) (f g : Nat → Int) : al_S n (fun i => f i - g i) = al_S n f - al_S n g := by
  induction n with
  | zero => rfl
  | succ n ih => simp only [al_S_s, ih]; omega
theorem al_S_m (n : Nat) (c : Int) (f : Nat → Int) : al_S n (fun i => c * f i) = c * al_S n f := by
  induction n with
  | zero => simp [al_S_0]
  | succ n ih => simp only [al_S_s, ih]; grind
theorem al_S_r (n : Nat) (c : Int) (f : Nat → Int) : al_S n (fun i => f i * c) = al_S n f * c := by
  induction n with
  | zero => simp [al_S_0]
  | succ n ih => simp only [al_S_s, ih]; grind
theorem al_S_w (n m : Nat) (f : Nat → Nat → Int) : al_S n (fun i => al_S m (fun j => f i j)) = al_S m (fun j => al_S n (fun i => f i j)) := by
  induction n with
  | zero => simp only [al_S_0]; exact (al_S_z (fun _ _ => rfl)).symm
  | succ n ih => simp only [al_S_s, al_S_a, ih]
theorem al_S_1 (n k : Nat) (f : Nat → Int) : al_S n (fun i => if i = k then f i else 0) = if k < n then f k else 0 := by
  induction n with
  | zero => rfl
  | succ n ih =>
    rw [al_S_s, ih]
    by_cases h : k < n
    · rw [if_pos h, if_neg (by omega), if_pos (by omega)]; omega
    · by_cases h2 : n = k
      · subst h2; rw [if_neg h, if_pos rfl, if_pos (by omega)]; omega
      · rw [if_neg h, if_neg h2, if_neg (by omega)]; rfl
theorem al_S_x {n m : Nat} (hn : n ≤ m) {f : Nat → Int} (h : ∀ i, n ≤ i → i < m → f i = 0) : al_S m f = al_S n f := by
  induction m with
  | zero => rw [show n = 0 by omega]
  | succ m ih =>
    by_cases h2 : n = m + 1
    · rw [h2]
    · rw [al_S_s, ih (by omega) (fun i h1 h3 => h i h1 (by omega)), h m (by omega) (by omega)]; omega
theorem al_S_f (n : Nat) (f : Nat → Int) : al_S (n + 1) f = f 0 + al_S n (fun i => f (i + 1)) := by
  induction n with
  | zero => simp [al_S_s, al_S_0]
  | succ n ih => rw [al_S_s, ih, al_S_s]; omega
theorem al_S_v (n : Nat) (f : Nat → Int) : al_S n (fun i => f (n - 1 - i)) = al_S n f := by
  induction n generalizing f with
  | zero => rfl
  | succ n ih =>
    rw [al_S_f n f, al_S_s, ← ih (fun i => f (i + 1))]
    rw [show n + 1 - 1 - n = 0 by omega]
    rw [al_S_c (f := fun i => f (n + 1 - 1 - i)) (g := fun i => f (n - 1 - i + 1)) (fun i hi => by show f _ = f _; congr 1; omega)]
    omega

def al_e (p a b : Int) : Prop := ∃ k, a = b + p * k
theorem al_e_r (p a : Int) : al_e p a a := ⟨0, by omega⟩
theorem al_e_of {p a b : Int} (h : a = b) : al_e p a b := h ▸ al_e_r p a
theorem al_e_s {p a b : Int} (h : al_e p a b) : al_e p b a := by
  obtain ⟨k, h⟩ := h
  exact ⟨-k, by grind⟩
theorem al_e_t {p a b c : Int} (h : al_e p a b) (g : al_e p b c) : al_e p a c := by
  obtain ⟨k, h⟩ := h
  obtain ⟨l, g⟩ := g
  exact ⟨k + l, by grind⟩
theorem al_e_a {p a b c d : Int} (h : al_e p a b) (g : al_e p c d) : al_e p (a + c) (b + d) := by
  obtain ⟨k, h⟩ := h
  obtain ⟨l, g⟩ := g
  exact ⟨k + l, by grind⟩
theorem al_e_d {p a b c d : Int} (h : al_e p a b) (g : al_e p c d) : al_e p (a - c) (b - d) := by
  obtain ⟨k, h⟩ := h
  obtain ⟨l, g⟩ := g
  exact ⟨k - l, by grind⟩
theorem al_e_m {p a b c d : Int} (h : al_e p a b) (g : al_e p c d) : al_e p (a * c) (b * d) := by
  obtain ⟨k, h⟩ := h
  obtain ⟨l, g⟩ := g
  exact ⟨k * d + b * l + p * k * l, by grind⟩
theorem al_e_n {p a b : Int} (h : al_e p a b) : al_e p (-a) (-b) := by
  obtain ⟨k, h⟩ := h
  exact ⟨-k, by grind⟩
theorem al_e_p (p a : Int) : al_e p (a + p) a := ⟨1, by omega⟩
theorem al_e_q (p a : Int) : al_e p (a % p) a := ⟨-(a / p), by have := Int.emod_add_mul_ediv a p; grind⟩
theorem al_e_i {p a b : Int} : al_e p a b ↔ a % p = b % p := by
  constructor
  · rintro ⟨k, h⟩
    rw [h, Int.add_mul_emod_self_left]
  · intro h
    exact al_e_t (al_e_s (al_e_q p a)) (h ▸ al_e_q p b)
theorem al_e_u {p a b : Int} (h : al_e p a b) (a0 : 0 ≤ a) (a1 : a < p) (b0 : 0 ≤ b) (b1 : b < p) : a = b := by
  have := al_e_i.mp h
  rwa [Int.emod_eq_of_lt a0 a1, Int.emod_eq_of_lt b0 b1] at this
theorem al_e_S {p : Int} {n : Nat} {f g : Nat → Int} (h : ∀ i, i < n → al_e p (f i) (g i)) : al_e p (al_S n f) (al_S n g) := by
  induction n with
  | zero => exact al_e_r _ _
  | succ n ih => exact al_e_a (ih (fun i hi => h i (by omega))) (h n (by omega))
theorem al_e_z {p a : Int} (h : al_e p a 0) (a0 : 0 ≤ a) (a1 : a < p) : a = 0 := al_e_u h a0 a1 (by omega) (by omega)
theorem al_e_m0 {p a b : Int} (h : al_e p b 0) : al_e p (a * b) 0 := by
  have := al_e_m (al_e_r p a) h
  simpa using this
theorem al_e_0m {p a b : Int} (h : al_e p a 0) : al_e p (a * b) 0 := by
  have := al_e_m h (al_e_r p b)
  simpa using this
theorem al_e_S1 {p : Int} {n k : Nat} {g : Nat → Int} (hk : k < n) (h : ∀ i, i < n → i ≠ k → al_e p (g i) 0) : al_e p (al_S n g) (g k) := by
  have h1 : al_e p (al_S n g) (al_S n (fun i => if i = k then g i else 0)) := by
    refine al_e_S (fun i hi => ?_)
    by_cases hh : i = k
    · rw [if_pos hh]; exact al_e_r _ _
    · rw [if_neg hh]; exact h i hi hh
  rw [al_S_1, if_pos hk] at h1
  exact h1
theorem al_e_S0 {p : Int} {n : Nat} {g : Nat → Int} (h : ∀ i, i < n → al_e p (g i) 0) : al_e p (al_S n g) 0 := by
  have h1 := al_e_S (p := p) (n := n) (f := g) (g := fun _ => 0) h
  rw [al_S_z (fun _ _ => rfl)] at h1
  exact h1

def al_L (p : Int) (S : (Nat → Int) → Prop) : Prop :=
  S (fun _ => 0) ∧ (∀ f g, S f → (∀ i, al_e p (g i) (f i)) → S g) ∧ (∀ f g c, S f → S g → S (fun i => f i + c * g i))
theorem al_L_S {p : Int} {S : (Nat → Int) → Prop} (h : al_L p S) (n : Nat) (a : Nat → Int) (r : Nat → Nat → Int)
    (hr : ∀ l, l < n → a l = 0 ∨ S (r l)) : S (fun i => al_S n (fun l => a l * r l i)) := by
  induction n with
  | zero => exact h.1
  | succ n ih =>
    have h1 := ih (fun l hl => hr l (by omega))
    rcases hr n (by omega) with h2 | h2
    · refine h.2.1 _ _ h1 (fun i => al_e_of ?_)
      simp only [al_S_s, h2]
      omega
    · exact h.2.1 _ _ (h.2.2 _ _ (a n) h1 h2) (fun i => al_e_of rfl)
theorem al_L_d {p : Int} {S : (Nat → Int) → Prop} (h : al_L p S) {f g : Nat → Int} (hf : S f) (hg : S g) : S (fun i => f i - g i) :=
  h.2.1 _ _ (h.2.2 f g (-1) hf hg) (fun i => al_e_of (by omega))
theorem al_L_m {p : Int} {S : (Nat → Int) → Prop} (h : al_L p S) {f : Nat → Int} (c : Int) (hf : S f) : S (fun i => c * f i) :=
  h.2.1 _ _ (h.2.2 _ f c h.1 hf) (fun i => al_e_of (by omega))

def al_ec (p : Int) (N : Nat) (L : Nat → Prop) (r : Nat → Nat → Int) : Prop :=
  ∀ l, L l → l < N ∧ al_e p (r l l) 1 ∧ ∀ j, l < j → al_e p (r l j) 0
def al_R (p : Int) (L : Nat → Prop) (r : Nat → Nat → Int) (f : Nat → Int) : Prop :=
  ∀ S, al_L p S → (∀ l, L l → S (r l)) → S f
theorem al_R_L (p : Int) (L : Nat → Prop) (r : Nat → Nat → Int) : al_L p (al_R p L r) :=
  ⟨fun _ hS _ => hS.1, fun f g hf he S hS hr => hS.2.1 f g (hf S hS hr) he, fun f g c hf hg S hS hr => hS.2.2 f g c (hf S hS hr) (hg S hS hr)⟩
theorem al_R_r {p : Int} {L : Nat → Prop} {r : Nat → Nat → Int} {l : Nat} (h : L l) : al_R p L r (r l) := fun _ _ hr => hr l h
theorem al_R_a {p : Int} {N : Nat} {L : Nat → Prop} {r : Nat → Nat → Int} (he : al_ec p N L r) {f : Nat → Int} (hf : al_R p L r f) :
    ∃ a : Nat → Int, (∀ l, ¬ L l → a l = 0) ∧ ∀ i, al_e p (f i) (al_S N (fun l => a l * r l i)) := by
  refine hf (fun f => ∃ a : Nat → Int, (∀ l, ¬ L l → a l = 0) ∧ ∀ i, al_e p (f i) (al_S N (fun l => a l * r l i))) ⟨?_, ?_, ?_⟩ ?_
  · refine ⟨fun _ => 0, fun _ _ => rfl, fun i => al_e_of ?_⟩
    exact (al_S_z (fun _ _ => Int.zero_mul _)).symm
  · rintro f g ⟨a, h1, h2⟩ h3
    exact ⟨a, h1, fun i => al_e_t (h3 i) (h2 i)⟩
  · rintro f g c ⟨a, h1, h2⟩ ⟨b, h3, h4⟩
    refine ⟨fun l => a l + c * b l, fun l hl => by simp only [h1 l hl, h3 l hl]; omega, fun i => ?_⟩
    refine al_e_t (al_e_a (h2 i) (al_e_m (al_e_r p c) (h4 i))) (al_e_of ?_)
    rw [← al_S_m, ← al_S_a]
    exact al_S_c (fun l _ => by grind)
  · intro l hl
    refine ⟨fun k => if k = l then 1 else 0, fun k hk => ?_, fun i => al_e_of ?_⟩
    · exact if_neg (fun (h : k = l) => hk (h ▸ hl))
    · have h1 := al_S_1 N l (fun k => r k i)
      rw [if_pos (he l hl).1] at h1
      rw [← h1]
      refine al_S_c (fun k _ => ?_)
      by_cases hh : k = l
      · simp only [if_pos hh]; omega
      · simp only [if_neg hh]; omega
theorem al_R_b {p : Int} {N : Nat} {L : Nat → Prop} {r : Nat → Nat → Int} (he : al_ec p N L r) {a : Nat → Int} (ha : ∀ l, ¬ L l → a l = 0)
    {D : Nat} (hf : ∀ j, D ≤ j → al_e p (al_S N (fun l => a l * r l j)) 0) (k : Nat) (hk : D ≤ k) : al_e p (a k) 0 := by
  have main : ∀ n k, N ≤ k + n → D ≤ k → al_e p (a k) 0 := by
    intro n
    induction n with
    | zero =>
      intro k h1 _
      refine al_e_of (ha k (fun h => ?_))
      have := (he k h).1
      omega
    | succ n ih =>
      intro k h1 h2
      by_cases hL : L k
      · obtain ⟨h3, h4, h5⟩ := he k hL
        have h6 : al_e p (al_S N (fun l => a l * r l k)) (a k * r k k) := by
          refine al_e_S1 (g := fun l => a l * r l k) h3 (fun l h7 h8 => ?_)
          by_cases h9 : l < k
          · by_cases h10 : L l
            · exact al_e_m0 ((he l h10).2.2 k h9)
            · rw [ha l h10]; exact al_e_of (by omega)
          · exact al_e_0m (ih l (by omega) (by omega))
        have h7 := al_e_m (al_e_r p (a k)) h4
        refine al_e_t (al_e_s ?_) (al_e_t (al_e_s h6) (hf k h2))
        simpa using h7
      · exact al_e_of (ha k hL)
  exact main N k (by omega) hk
theorem al_R_l {p : Int} {N : Nat} {L : Nat → Prop} {r : Nat → Nat → Int} (he : al_ec p N L r) {f : Nat → Int} (hf : al_R p L r f)
    {l : Nat} (h1 : ¬ al_e p (f l) 0) (h2 : ∀ j, l < j → al_e p (f j) 0) : L l := by
  obtain ⟨a, h3, h4⟩ := al_R_a he hf
  refine Classical.byContradiction (fun hL => h1 ?_)
  have h5 : ∀ k, l + 1 ≤ k → al_e p (a k) 0 := fun k hk => al_R_b he h3 (D := l + 1) (fun j hj => al_e_t (al_e_s (h4 j)) (h2 j (by omega))) k hk
  refine al_e_t (h4 l) (al_e_S0 (fun k _ => ?_))
  by_cases h6 : l < k
  · exact al_e_0m (h5 k h6)
  · by_cases h7 : L k
    · by_cases h8 : k = l
      · exact absurd (h8 ▸ h7) hL
      · exact al_e_m0 ((he k h7).2.2 l (by omega))
    · rw [h3 k h7]; exact al_e_of (by omega)

def al_V (p : Int) (G : (Nat → Int) → Prop) (U : Nat → (Nat → Int) → Nat → Int) (nv D : Nat) (f : Nat → Int) : Prop :=
  ∀ S, al_L p S → (∀ g, G g → S g) → (∀ g v, v < nv → S g → (∀ j, D ≤ j → al_e p (g j) 0) → S (U v g)) → S f
theorem al_V_L (p : Int) (G : (Nat → Int) → Prop) (U : Nat → (Nat → Int) → Nat → Int) (nv D : Nat) : al_L p (al_V p G U nv D) :=
  ⟨fun _ hS _ _ => hS.1, fun f g hf he S hS hr hu => hS.2.1 f g (hf S hS hr hu) he, fun f g c hf hg S hS hr hu => hS.2.2 f g c (hf S hS hr hu) (hg S hS hr hu)⟩
theorem al_V_g {p : Int} {G : (Nat → Int) → Prop} {U : Nat → (Nat → Int) → Nat → Int} {nv D : Nat} {f : Nat → Int} (h : G f) : al_V p G U nv D f :=
  fun _ _ hg _ => hg f h
theorem al_V_u {p : Int} {G : (Nat → Int) → Prop} {U : Nat → (Nat → Int) → Nat → Int} {nv D : Nat} {f : Nat → Int} {v : Nat} (hv : v < nv)
    (h : al_V p G U nv D f) (hd : ∀ j, D ≤ j → al_e p (f j) 0) : al_V p G U nv D (U v f) :=
  fun S hS hg hu => hu f v hv (h S hS hg hu) hd
def al_Ul (p : Int) (U : Nat → (Nat → Int) → Nat → Int) : Prop :=
  (∀ v f g, (∀ i, al_e p (f i) (g i)) → ∀ i, al_e p (U v f i) (U v g i)) ∧ (∀ v i, U v (fun _ => 0) i = 0) ∧ (∀ v f g c i, U v (fun i => f i + c * g i) i = U v f i + c * U v g i)
theorem al_Ul_S {p : Int} {U : Nat → (Nat → Int) → Nat → Int} (h : al_Ul p U) (v n : Nat) (a : Nat → Int) (r : Nat → Nat → Int) (i : Nat) :
    U v (fun i => al_S n (fun l => a l * r l i)) i = al_S n (fun l => a l * U v (r l) i) := by
  induction n with
  | zero => exact h.2.1 v i
  | succ n ih =>
    have h1 := h.2.2 v (fun i => al_S n (fun l => a l * r l i)) (r n) (a n) i
    rw [ih] at h1
    exact h1
theorem al_V_R {p : Int} {N : Nat} {L : Nat → Prop} {r : Nat → Nat → Int} (he : al_ec p N L r) {G : (Nat → Int) → Prop} {U : Nat → (Nat → Int) → Nat → Int} {nv D : Nat}
    (hU : al_Ul p U) (hG : ∀ g, G g → al_R p L r g) (hv : ∀ l v, L l → l < D → v < nv → al_R p L r (U v (r l))) {f : Nat → Int} (hf : al_V p G U nv D f) : al_R p L r f := by
  refine hf _ (al_R_L p L r) hG ?_
  intro g v h1 h2 h3
  obtain ⟨a, h4, h5⟩ := al_R_a he h2
  have h6 : ∀ k, D ≤ k → al_e p (a k) 0 := fun k hk => al_R_b he h4 (fun j hj => al_e_t (al_e_s (h5 j)) (h3 j hj)) k hk
  have hL := al_R_L p L r
  have h7 : al_R p L r (fun i => al_S N (fun l => (@ite Int (l < D ∧ L l) (Classical.propDecidable _) (a l) 0) * U v (r l) i)) := by
    refine al_L_S hL N _ (fun l => U v (r l)) (fun l _ => ?_)
    by_cases hh : l < D ∧ L l
    · exact Or.inr (hv l v hh.2 hh.1 h1)
    · exact Or.inl (if_neg hh)
  refine hL.2.1 _ _ h7 (fun i => ?_)
  refine al_e_t (hU.1 v _ _ h5 i) ?_
  rw [al_Ul_S hU]
  refine al_e_S (fun l _ => ?_)
  by_cases hh : l < D ∧ L l
  · rw [if_pos hh]; exact al_e_r _ _
  · rw [if_neg hh]
    by_cases h8 : L l
    · refine al_e_t (al_e_0m (h6 l ?_)) (al_e_of (by omega))
      exact Nat.le_of_not_lt (fun hl => hh ⟨hl, h8⟩)
    · rw [h4 l h8]; exact al_e_r _ _
theorem al_top {p : Int} {f : Nat → Int} {N : Nat} (hN : ∀ j, N ≤ j → al_e p (f j) 0) (h : ¬ ∀ j, al_e p (f j) 0) : ∃ l, ¬ al_e p (f l) 0 ∧ ∀ j, l < j → al_e p (f j) 0 := by
  induction N with
  | zero => exact absurd (fun j => hN j (by omega)) h
  | succ N ih =>
    by_cases h1 : al_e p (f N) 0
    · refine ih (fun j hj => ?_)
      by_cases h2 : j = N
      · exact h2 ▸ h1
      · exact hN j (by omega)
    · exact ⟨N, h1, fun j hj => hN j (by omega)⟩
theorem al_nf {p : Int} {S : (Nat → Int) → Prop} {L : Nat → Prop} (hS : al_L p S) (hl : ∀ f l, S f → ¬ al_e p (f l) 0 → (∀ j, l < j → al_e p (f j) 0) → L l)
    {N : Nat} {f g h : Nat → Int} (h1 : S (fun i => f i - g i)) (h2 : S (fun i => f i - h i)) (h3 : ∀ l, L l → al_e p (g l) 0) (h4 : ∀ l, L l → al_e p (h l) 0)
    (h5 : ∀ j, N ≤ j → al_e p (g j) 0) (h6 : ∀ j, N ≤ j → al_e p (h j) 0) (i : Nat) : al_e p (g i) (h i) := by
  have h7 : S (fun i => g i - h i) := hS.2.1 _ _ (al_L_d hS h2 h1) (fun i => al_e_of (by omega))
  have h8 : ∀ i, al_e p (g i - h i) 0 := by
    refine Classical.byContradiction (fun hh => ?_)
    obtain ⟨l, h9, h10⟩ := al_top (f := fun i => g i - h i) (N := N) (fun j hj => al_e_t (al_e_d (h5 j hj) (h6 j hj)) (al_e_of (by omega))) hh
    have h11 := hl _ l h7 h9 h10
    exact h9 (al_e_t (al_e_d (h3 l h11) (h4 l h11)) (al_e_of (by omega)))
  have h9 := al_e_a (h8 i) (al_e_r p (h i))
  refine al_e_t (al_e_of ?_) (al_e_t h9 (al_e_of ?_)) <;> omega
abbrev al_M := Nat × Nat × Nat × Nat
def al_p (a b : al_M) : al_M := (a.1 + b.1, a.2.1 + b.2.1, a.2.2.1 + b.2.2.1, a.2.2.2 + b.2.2.2)
def al_le (a b : al_M) : Prop := a.1 ≤ b.1 ∧ a.2.1 ≤ b.2.1 ∧ a.2.2.1 ≤ b.2.2.1 ∧ a.2.2.2 ≤ b.2.2.2
def al_mx (a b : al_M) : al_M := (max a.1 b.1, max a.2.1 b.2.1, max a.2.2.1 b.2.2.1, max a.2.2.2 b.2.2.2)
def al_mi (a b : al_M) : al_M := (a.1 - b.1, a.2.1 - b.2.1, a.2.2.1 - b.2.2.1, a.2.2.2 - b.2.2.2)
def al_dg (a : al_M) : Nat := a.1 + a.2.1 + a.2.2.1 + a.2.2.2
theorem al_M_x {a b : al_M} (h1 : a.1 = b.1) (h2 : a.2.1 = b.2.1) (h3 : a.2.2.1 = b.2.2.1) (h4 : a.2.2.2 = b.2.2.2) : a = b :=
  Prod.ext h1 (Prod.ext h2 (Prod.ext h3 h4))
theorem al_p_c (a b : al_M) : al_p a b = al_p b a := al_M_x (Nat.add_comm _ _) (Nat.add_comm _ _) (Nat.add_comm _ _) (Nat.add_comm _ _)
theorem al_p_a (a b c : al_M) : al_p (al_p a b) c = al_p a (al_p b c) := al_M_x (Nat.add_assoc _ _ _) (Nat.add_assoc _ _ _) (Nat.add_assoc _ _ _) (Nat.add_assoc _ _ _)
theorem al_p_r {a b c : al_M} (h : al_p a c = al_p b c) : a = b := by
  have h1 := congrArg (fun x => x.1) h
  have h2 := congrArg (fun x => x.2.1) h
  have h3 := congrArg (fun x => x.2.2.1) h
  have h4 := congrArg (fun x => x.2.2.2) h
  simp only [al_p] at h1 h2 h3 h4
  exact al_M_x (by omega) (by omega) (by omega) (by omega)
theorem al_p_l {a b c : al_M} (h : al_p c a = al_p c b) : a = b := by
  rw [al_p_c c a, al_p_c c b] at h
  exact al_p_r h
theorem al_le_i {a b : al_M} : al_le a b ↔ ∃ c, b = al_p a c := by
  constructor
  · rintro ⟨h1, h2, h3, h4⟩
    exact ⟨al_mi b a, al_M_x (by simp only [al_p, al_mi]; omega) (by simp only [al_p, al_mi]; omega) (by simp only [al_p, al_mi]; omega) (by simp only [al_p, al_mi]; omega)⟩
  · rintro ⟨c, h⟩
    subst h
    exact ⟨Nat.le_add_right _ _, Nat.le_add_right _ _, Nat.le_add_right _ _, Nat.le_add_right _ _⟩
theorem al_le_mi {a b : al_M} (h : al_le a b) : al_p a (al_mi b a) = b := by
  obtain ⟨h1, h2, h3, h4⟩ := h
  exact al_M_x (by simp only [al_p, al_mi]; omega) (by simp only [al_p, al_mi]; omega) (by simp only [al_p, al_mi]; omega) (by simp only [al_p, al_mi]; omega)
theorem al_mx_1 (a b : al_M) : al_le a (al_mx a b) := ⟨Nat.le_max_left _ _, Nat.le_max_left _ _, Nat.le_max_left _ _, Nat.le_max_left _ _⟩
theorem al_mx_2 (a b : al_M) : al_le b (al_mx a b) := ⟨Nat.le_max_right _ _, Nat.le_max_right _ _, Nat.le_max_right _ _, Nat.le_max_right _ _⟩
theorem al_mx_l {a b c : al_M} (h : al_le a c) (g : al_le b c) : al_le (al_mx a b) c :=
  ⟨Nat.max_le.mpr ⟨h.1, g.1⟩, Nat.max_le.mpr ⟨h.2.1, g.2.1⟩, Nat.max_le.mpr ⟨h.2.2.1, g.2.2.1⟩, Nat.max_le.mpr ⟨h.2.2.2, g.2.2.2⟩⟩

def al_up (N : Nat) (T : Nat → al_M) (a : al_M) (f : Nat → Int) (j : Nat) : Int :=
  if j < N then al_S N (fun i => if al_p (T i) a = T j then f i else 0) else 0

noncomputable def al_nm (lt : al_M → al_M → Prop) (hw : WellFounded lt) (T : Nat → al_M) (C : Nat → Prop) (r : Nat → Nat → Int) : al_M → al_M → Int :=
  WellFounded.fix (C := fun _ => al_M → Int) hw (fun m rec s =>
    @dite Int (∃ c, C c ∧ al_le (T c) m) (Classical.propDecidable _)
      (fun h => - al_S h.choose (fun j => r h.choose j * @dite Int (lt (al_p (T j) (al_mi m (T h.choose))) m) (Classical.propDecidable _) (fun hl => rec _ hl s) (fun _ => 0)))
      (fun _ => if s = m then 1 else 0))
def al_F (N : Nat) (T : Nat → al_M) (nf : al_M → al_M → Int) (w : al_M) (f : Nat → Int) (s : al_M) : Int := al_S N (fun j => f j * nf (al_p (T j) w) s)
theorem al_nm_s {lt : al_M → al_M → Prop} (hw : WellFounded lt) (T : Nat → al_M) (C : Nat → Prop) (r : Nat → Nat → Int) {m : al_M} (h : ¬ ∃ c, C c ∧ al_le (T c) m) (s : al_M) :
    al_nm lt hw T C r m s = if s = m then 1 else 0 := by
  unfold al_nm
  rw [WellFounded.fix_eq]
  exact dif_neg h
theorem al_nm_c {lt : al_M → al_M → Prop} (hw : WellFounded lt) {T : Nat → al_M} {C : Nat → Prop} {r : Nat → Nat → Int} {N : Nat} {p : Int}
    (hd : ∀ a b c, lt a b → lt (al_p a c) (al_p b c)) (hT : ∀ i j, i < j → j < N → lt (T i) (T j))
    (hC : ∀ c, C c → c < N ∧ al_e p (r c c) 1 ∧ ∀ j, c < j → al_e p (r c j) 0) {m : al_M} (h : ∃ c, C c ∧ al_le (T c) m) :
    ∃ c u, C c ∧ m = al_p (T c) u ∧ (∀ s, al_nm lt hw T C r m s = - al_S c (fun j => r c j * al_nm lt hw T C r (al_p (T j) u) s)) ∧ (∀ s, al_e p (al_F N T (al_nm lt hw T C r) u (r c) s) 0) := by
  obtain ⟨h1, h2⟩ := h.choose_spec
  obtain ⟨h3, h4, h5⟩ := hC _ h1
  have hm := (al_le_mi h2).symm
  have he : ∀ s, al_nm lt hw T C r m s = - al_S h.choose (fun j => r h.choose j * al_nm lt hw T C r (al_p (T j) (al_mi m (T h.choose))) s) := by
    intro s
    have e1 : al_nm lt hw T C r m s = @dite Int (∃ c, C c ∧ al_le (T c) m) (Classical.propDecidable _)
      (fun h => - al_S h.choose (fun j => r h.choose j * @dite Int (lt (al_p (T j) (al_mi m (T h.choose))) m) (Classical.propDecidable _) (fun hl => al_nm lt hw T C r (al_p (T j) (al_mi m (T h.choose))) s) (fun _ => 0)))
      (fun _ => if s = m then 1 else 0) := by
      have e2 := congrFun (WellFounded.fix_eq (C := fun _ => al_M → Int) hw (fun m rec s =>
        @dite Int (∃ c, C c ∧ al_le (T c) m) (Classical.propDecidable _)
          (fun h => - al_S h.choose (fun j => r h.choose j * @dite Int (lt (al_p (T j) (al_mi m (T h.choose))) m) (Classical.propDecidable _) (fun hl => rec _ hl s) (fun _ => 0)))
          (fun _ => if s = m then 1 else 0)) m) s
      exact e2
    rw [e1, dif_pos h]
    congr 1
    refine al_S_c (fun j hj => ?_)
    rw [dif_pos]
    have := hd _ _ (al_mi m (T h.choose)) (hT j _ hj h3)
    rw [← hm] at this
    exact this
  refine ⟨h.choose, al_mi m (T h.choose), h1, hm, he, fun s => ?_⟩
  have h6 := he s
  unfold al_F
  have h7 : al_e p (al_S N (fun j => r h.choose j * al_nm lt hw T C r (al_p (T j) (al_mi m (T h.choose))) s)) (al_S N (fun j => (if j < h.choose + 1 then r h.choose j * al_nm lt hw T C r (al_p (T j) (al_mi m (T h.choose))) s else 0))) := by
    refine al_e_S (fun j _ => ?_)
    by_cases hj : j < h.choose + 1
    · rw [if_pos hj]; exact al_e_r _ _
    · rw [if_neg hj]; exact al_e_0m (h5 j (by omega))
  refine al_e_t h7 ?_
  rw [al_S_x (n := h.choose + 1) (by omega) (fun i h8 _ => if_neg (by omega)), al_S_s, if_pos (by omega)]
  rw [al_S_c (g := fun j => r h.choose j * al_nm lt hw T C r (al_p (T j) (al_mi m (T h.choose))) s) (fun i hi => if_pos (by omega))]
  rw [← hm]
  have h8 := al_e_m h4 (al_e_r p (al_nm lt hw T C r m s))
  have h9 := al_e_a (al_e_r p (al_S h.choose (fun j => r h.choose j * al_nm lt hw T C r (al_p (T j) (al_mi m (T h.choose))) s))) h8
  refine al_e_t h9 (al_e_of ?_)
  omega

def al_B (p : Int) (N : Nat) (T : Nat → al_M) (lt : al_M → al_M → Prop) (V : (Nat → Int) → Prop) (L C : Nat → Prop) (r : Nat → Nat → Int) : Prop :=
  (∀ a b c, lt a b → lt (al_p a c) (al_p b c)) ∧ (∀ a b c, lt a b → lt b c → lt a c) ∧ (∀ i j, i < j → j < N → lt (T i) (T j)) ∧
  (∀ i j, i < N → j < N → T i = T j → i = j) ∧
  (∀ i l l' a, i ≤ l → l < N → l' < N → T l' = al_p (T l) a → ∃ i', i' ≤ l' ∧ (i < l → i' < l') ∧ T i' = al_p (T i) a) ∧
  (al_L p V ∧ (∀ f l, V f → ¬ al_e p (f l) 0 → (∀ j, l < j → al_e p (f j) 0) → L l) ∧ (∀ f j, V f → N ≤ j → al_e p (f j) 0)) ∧
  (∀ l, L l → ∃ c a, C c ∧ T l = al_p (T c) a) ∧
  (∀ c, C c → c < N ∧ al_e p (r c c) 1 ∧ ∀ j, c < j → al_e p (r c j) 0) ∧ (∀ c, C c → V (r c)) ∧
  (∀ f l l' a, V f → (∀ j, l < j → al_e p (f j) 0) → l < N → l' < N → T l' = al_p (T l) a → V (al_up N T a f)) ∧
  (∀ c c', C c → C c' → c ≠ c' → (∃ e, e < N ∧ T e = al_mx (T c) (T c')) ∨ al_mx (T c) (T c') = al_p (T c) (T c'))

theorem al_up_F {p : Int} {N : Nat} {T : Nat → al_M} (hi : ∀ i j, i < N → j < N → T i = T j → i = j)
    (ht : ∀ i l l' a, i ≤ l → l < N → l' < N → T l' = al_p (T l) a → ∃ i', i' ≤ l' ∧ (i < l → i' < l') ∧ T i' = al_p (T i) a)
    (nf : al_M → al_M → Int) (w a : al_M) {f : Nat → Int} {l l' : Nat} (hf : ∀ j, l < j → al_e p (f j) 0) (hl : l < N) (hl' : l' < N) (hh : T l' = al_p (T l) a) (s : al_M) :
    al_e p (al_F N T nf w (al_up N T a f) s) (al_F N T nf (al_p a w) f s) := by
  unfold al_F
  have h1 : al_S N (fun j => al_up N T a f j * nf (al_p (T j) w) s) = al_S N (fun j => al_S N (fun i => (if al_p (T i) a = T j then f i else 0) * nf (al_p (T j) w) s)) := by
    refine al_S_c (fun j hj => ?_)
    unfold al_up
    rw [if_pos hj, al_S_r]
  rw [h1, al_S_w]
  refine al_e_S (fun i hi' => ?_)
  by_cases h2 : i ≤ l
  · obtain ⟨i', h3, _, h4⟩ := ht i l l' a h2 hl hl' hh
    have h5 : al_S N (fun j => (if al_p (T i) a = T j then f i else 0) * nf (al_p (T j) w) s) = al_S N (fun j => if j = i' then f i * nf (al_p (T j) w) s else 0) := by
      refine al_S_c (fun j hj => ?_)
      by_cases h6 : j = i'
      · rw [if_pos h6, if_pos (by rw [h6, h4])]
      · rw [if_neg h6, if_neg (fun h7 => h6 (hi j i' hj (by omega) (by rw [← h7, h4])))]; omega
    rw [h5, al_S_1, if_pos (by omega), h4, al_p_a]
    exact al_e_r _ _
  · have h7 := hf i (by omega)
    refine al_e_t (al_e_S0 (fun j _ => ?_)) (al_e_s (al_e_0m h7))
    by_cases h8 : al_p (T i) a = T j
    · rw [if_pos h8]; exact al_e_0m h7
    · rw [if_neg h8]; exact al_e_of (by omega)
theorem al_up_l {p : Int} {N : Nat} {T : Nat → al_M} (hi : ∀ i j, i < N → j < N → T i = T j → i = j) (a : al_M) {f : Nat → Int} {l l' : Nat} (hl : l < N) (hl' : l' < N) (hh : T l' = al_p (T l) a) :
    al_e p (al_up N T a f l') (f l) := by
  unfold al_up
  rw [if_pos hl']
  have h5 : al_S N (fun i => if al_p (T i) a = T l' then f i else 0) = al_S N (fun i => if i = l then f i else 0) := by
    refine al_S_c (fun i hi' => ?_)
    by_cases h6 : i = l
    · rw [if_pos h6, if_pos (by rw [h6, hh])]
    · rw [if_neg h6, if_neg (fun h7 => h6 (hi i l hi' hl (al_p_r (h7.trans hh))))]
  rw [h5, al_S_1, if_pos hl]
  exact al_e_r _ _
theorem al_up_h {p : Int} {N : Nat} {T : Nat → al_M} (hi : ∀ i j, i < N → j < N → T i = T j → i = j)
    (ht : ∀ i l l' a, i ≤ l → l < N → l' < N → T l' = al_p (T l) a → ∃ i', i' ≤ l' ∧ (i < l → i' < l') ∧ T i' = al_p (T i) a)
    (a : al_M) {f : Nat → Int} {l l' : Nat} (hf : ∀ j, l < j → al_e p (f j) 0) (hl : l < N) (hl' : l' < N) (hh : T l' = al_p (T l) a) (j : Nat) (hj : l' < j) :
    al_e p (al_up N T a f j) 0 := by
  unfold al_up
  by_cases h1 : j < N
  · rw [if_pos h1]
    refine al_e_S0 (fun i _ => ?_)
    by_cases h2 : al_p (T i) a = T j
    · rw [if_pos h2]
      by_cases h3 : l < i
      · exact hf i h3
      · obtain ⟨i', h4, _, h5⟩ := ht i l l' a (by omega) hl hl' hh
        have := hi j i' h1 (by omega) (by rw [← h2, h5])
        omega
    · rw [if_neg h2]; exact al_e_r _ _
  · rw [if_neg h1]; exact al_e_r _ _
theorem al_F_d (N : Nat) (T : Nat → al_M) (nf : al_M → al_M → Int) (w : al_M) (f g : Nat → Int) (c : Int) (s : al_M) :
    al_F N T nf w (fun i => f i - c * g i) s = al_F N T nf w f s - c * al_F N T nf w g s := by
  unfold al_F
  rw [← al_S_m, ← al_S_d]
  exact al_S_c (fun i _ => by grind)
theorem al_B_Q {p : Int} {N : Nat} {T : Nat → al_M} {lt : al_M → al_M → Prop} {V : (Nat → Int) → Prop} {L C : Nat → Prop} {r : Nat → Nat → Int}
    (hB : al_B p N T lt V L C r) (nf : al_M → al_M → Int) (s m w : al_M)
    (ih : ∀ k, lt k m → ∀ c u, C c → k = al_p (T c) u → al_e p (al_F N T nf u (r c) s) 0) :
    ∀ n f, V f → (∀ j, n ≤ j → al_e p (f j) 0) → (∀ j, j < n → j < N → lt (al_p (T j) w) m) → al_e p (al_F N T nf w f s) 0 := by
  obtain ⟨hd, htr, hT, hi, ht, ⟨hV, hVl, hVN⟩, hL, hC, hCV, hup, hpr⟩ := hB
  intro n
  induction n with
  | zero =>
    intro f _ h2 _
    exact al_e_S0 (fun j _ => al_e_0m (h2 j (by omega)))
  | succ n ihn =>
    intro f h1 h2 h3
    by_cases h4 : al_e p (f n) 0
    · refine ihn f h1 (fun j hj => ?_) (fun j hj => h3 j (by omega))
      by_cases h5 : j = n
      · exact h5 ▸ h4
      · exact h2 j (by omega)
    · have hn : n < N := Nat.lt_of_not_le (fun hh => h4 (hVN f n h1 hh))
      obtain ⟨c, a, h5, h6⟩ := hL n (hVl f n h1 h4 (fun j hj => h2 j (by omega)))
      obtain ⟨h7, h8, h9⟩ := hC c h5
      have h10 := hup (r c) c n a (hCV c h5) h9 h7 hn h6
      have h11 := al_up_l (p := p) hi a (f := r c) h7 hn h6
      have h12 := al_up_h (p := p) hi ht a h9 h7 hn h6
      have h13 : V (fun i => f i - f n * al_up N T a (r c) i) := hV.2.1 _ _ (hV.2.2 f _ (- f n) h1 h10) (fun i => al_e_of (by grind))
      have h14 : al_e p (al_F N T nf w (fun i => f i - f n * al_up N T a (r c) i) s) 0 := by
        refine ihn _ h13 (fun j hj => ?_) (fun j hj => h3 j (by omega))
        by_cases h5 : j = n
        · subst h5
          have := al_e_d (al_e_r p (f j)) (al_e_m (al_e_r p (f j)) (al_e_t h11 h8))
          exact al_e_t this (al_e_of (by omega))
        · have := al_e_d (h2 j (by omega)) (al_e_m0 (a := f n) (h12 j (by omega)))
          exact al_e_t this (al_e_of (by omega))
      rw [al_F_d] at h14
      have h15 := al_up_F (p := p) hi ht nf w a h9 h7 hn h6 s
      have h16 := ih (al_p (T n) w) (h3 n (by omega) hn) c (al_p a w) h5 (by rw [h6, al_p_a])
      have h17 := al_e_m0 (a := f n) (al_e_t h15 h16)
      have h18 := al_e_a h14 h17
      exact al_e_t (al_e_of (by omega)) (al_e_t h18 (al_e_of (by omega)))
theorem al_B_P {p : Int} {N : Nat} {T : Nat → al_M} {lt : al_M → al_M → Prop} (hw : WellFounded lt) {V : (Nat → Int) → Prop} {L C : Nat → Prop} {r : Nat → Nat → Int}
    (hB : al_B p N T lt V L C r) (s m : al_M) : ∀ c u, C c → m = al_p (T c) u → al_e p (al_F N T (al_nm lt hw T C r) u (r c) s) 0 := by
  have hB' := hB
  obtain ⟨hd, htr, hT, hi, ht, ⟨hV, hVl, hVN⟩, hL, hC, hCV, hup, hpr⟩ := hB
  refine hw.induction (C := fun m => ∀ c u, C c → m = al_p (T c) u → al_e p (al_F N T (al_nm lt hw T C r) u (r c) s) 0) m ?_
  intro m ih c u h1 h2
  obtain ⟨c', u', h3, h4, _, h5⟩ := al_nm_c (p := p) (N := N) hw hd hT hC ⟨c, h1, al_le_i.mpr ⟨u, h2⟩⟩
  have h5 := h5 s
  by_cases hcc : c = c'
  · subst hcc
    rw [h2] at h4
    rw [al_p_l h4]
    exact h5
  have hle : al_le (al_mx (T c) (T c')) m := al_mx_l (al_le_i.mpr ⟨u, h2⟩) (al_le_i.mpr ⟨u', h4⟩)
  obtain ⟨w, hw'⟩ := al_le_i.mp hle
  obtain ⟨a, ha⟩ := al_le_i.mp (al_mx_1 (T c) (T c'))
  obtain ⟨a', ha'⟩ := al_le_i.mp (al_mx_2 (T c) (T c'))
  have hu : u = al_p a w := al_p_l (c := T c) (by rw [← h2, hw', ← al_p_a, ← ha])
  have hu' : u' = al_p a' w := al_p_l (c := T c') (by rw [← h4, hw', ← al_p_a, ← ha'])
  obtain ⟨c1, c2, c3⟩ := hC c h1
  obtain ⟨d1, d2, d3⟩ := hC c' h3
  rcases hpr c c' h1 h3 hcc with ⟨e, he, hTe⟩ | hco
  · have e1 : T e = al_p (T c) a := hTe.trans ha
    have e2 : T e = al_p (T c') a' := hTe.trans ha'
    have v1 := hup (r c) c e a (hCV c h1) c3 c1 he e1
    have v2 := hup (r c') c' e a' (hCV c' h3) d3 d1 he e2
    have q := al_B_Q hB' (al_nm lt hw T C r) s m w ih e (fun i => al_up N T a (r c) i - 1 * al_up N T a' (r c') i)
      (hV.2.1 _ _ (al_L_d hV v1 v2) (fun i => al_e_of (by omega))) (fun j hj => by
        by_cases h6 : j = e
        · subst h6
          have x1 := al_e_t (al_up_l (p := p) hi a (f := r c) c1 he e1) c2
          have x2 := al_e_t (al_up_l (p := p) hi a' (f := r c') d1 he e2) d2
          exact al_e_t (al_e_d x1 (al_e_m (al_e_r p 1) x2)) (al_e_of (by omega))
        · have x1 := al_up_h (p := p) hi ht a c3 c1 he e1 j (by omega)
          have x2 := al_up_h (p := p) hi ht a' d3 d1 he e2 j (by omega)
          exact al_e_t (al_e_d x1 (al_e_m (al_e_r p 1) x2)) (al_e_of (by omega)))
      (fun j hj _ => by rw [hw', ← hTe]; exact hd _ _ w (hT j e hj he))
    rw [al_F_d] at q
    have f1 := al_up_F (p := p) hi ht (al_nm lt hw T C r) w a c3 c1 he e1 s
    have f2 := al_up_F (p := p) hi ht (al_nm lt hw T C r) w a' d3 d1 he e2 s
    rw [← hu] at f1
    rw [← hu'] at f2
    have f3 := al_e_a q (al_e_m (al_e_r p 1) (al_e_t f2 h5))
    refine al_e_t (al_e_s f1) (al_e_t (al_e_of ?_) (al_e_t f3 (al_e_of ?_))) <;> omega
  ·
    have b1 : a = T c' := al_p_l (c := T c) (by rw [← ha, hco])
    have b2 : a' = T c := al_p_l (c := T c') (by rw [← ha', hco, al_p_c])
    have key : ∀ x y, C x → C y → m = al_p (T x) (al_p (T y) w) → 
        al_e p (al_S N (fun j => r y j * al_F N T (al_nm lt hw T C r) (al_p (T j) w) (r x) s)) (al_F N T (al_nm lt hw T C r) (al_p (T y) w) (r x) s) := by
      intro x y hx hy hm
      obtain ⟨y1, y2, y3⟩ := hC y hy
      have z := al_e_S1 (p := p) (n := N) (k := y) (g := fun j => r y j * al_F N T (al_nm lt hw T C r) (al_p (T j) w) (r x) s) y1 (fun j hj hjy => by
        by_cases hlt : j < y
        · refine al_e_m0 (ih (al_p (T x) (al_p (T j) w)) ?_ x _ hx rfl)
          rw [hm, al_p_c (T x), al_p_c (T x)]
          exact hd _ _ _ (hd _ _ _ (hT j y hlt y1))
        · exact al_e_0m (y3 j (by omega)))
      have z2 := al_e_m y2 (al_e_r p (al_F N T (al_nm lt hw T C r) (al_p (T y) w) (r x) s))
      exact al_e_t z (al_e_t z2 (al_e_of (by omega)))
    have k1 := key c c' h1 h3 (by rw [h2, hu, b1])
    have k2 := key c' c h3 h1 (by rw [h4, hu', b2])
    have k3 : al_S N (fun j => r c' j * al_F N T (al_nm lt hw T C r) (al_p (T j) w) (r c) s) = al_S N (fun j => r c j * al_F N T (al_nm lt hw T C r) (al_p (T j) w) (r c') s) := by
      unfold al_F
      have t1 : al_S N (fun j => r c' j * al_S N (fun i => r c i * al_nm lt hw T C r (al_p (T i) (al_p (T j) w)) s)) = al_S N (fun j => al_S N (fun i => r c' j * (r c i * al_nm lt hw T C r (al_p (T i) (al_p (T j) w)) s))) :=
        al_S_c (fun j _ => (al_S_m _ _ _).symm)
      have t2 : al_S N (fun j => r c j * al_S N (fun i => r c' i * al_nm lt hw T C r (al_p (T i) (al_p (T j) w)) s)) = al_S N (fun j => al_S N (fun i => r c j * (r c' i * al_nm lt hw T C r (al_p (T i) (al_p (T j) w)) s))) :=
        al_S_c (fun j _ => (al_S_m _ _ _).symm)
      rw [t1, t2, al_S_w]
      refine al_S_c (fun i _ => al_S_c (fun j _ => ?_))
      rw [← al_p_a (T i), ← al_p_a (T j), al_p_c (T i) (T j)]
      grind
    rw [hu, b1]
    rw [hu', b2] at h5
    exact al_e_t (al_e_s k1) (al_e_t (al_e_of k3) (al_e_t k2 h5))
theorem al_B_m {p : Int} {N : Nat} {T : Nat → al_M} {lt : al_M → al_M → Prop} (hw : WellFounded lt) {V : (Nat → Int) → Prop} {L C : Nat → Prop} {r : Nat → Nat → Int}
    (hB : al_B p N T lt V L C r) {K : Nat} {st : Nat → al_M} (hj : ∀ k k', k < K → k' < K → st k = st k' → k = k')
    {W : al_M → Prop} (hW : ∀ c u j, C c → j < c → W (al_p (T c) u) → W (al_p (T j) u)) (hall : ∀ m, W m → (¬ ∃ c, C c ∧ al_le (T c) m) → ∃ k, k < K ∧ m = st k) (y s m : al_M) (hm : W m) :
    al_e p (al_nm lt hw T C r (al_p m y) s) (al_S K (fun k => al_nm lt hw T C r m (st k) * al_nm lt hw T C r (al_p (st k) y) s)) := by
  have hB' := hB
  obtain ⟨hd, htr, hT, hi, ht, ⟨hV, hVl, hVN⟩, hL, hC, hCV, hup, hpr⟩ := hB
  refine hw.induction (C := fun m => W m → al_e p (al_nm lt hw T C r (al_p m y) s) (al_S K (fun k => al_nm lt hw T C r m (st k) * al_nm lt hw T C r (al_p (st k) y) s))) m ?_ hm
  intro m ih hm
  by_cases h : ∃ c, C c ∧ al_le (T c) m
  · obtain ⟨c, u, h3, h4, h6, h5⟩ := al_nm_c (p := p) (N := N) hw hd hT hC h
    obtain ⟨c1, c2, c3⟩ := hC c h3
    have q := al_B_P hw hB' s (al_p m y) c (al_p u y) h3 (by rw [h4, al_p_a])
    have q2 : al_e p (al_S c (fun j => r c j * al_nm lt hw T C r (al_p (al_p (T j) u) y) s) + al_nm lt hw T C r (al_p m y) s) 0 := by
      refine al_e_t (al_e_s ?_) q
      unfold al_F
      have z : al_e p (al_S N (fun j => r c j * al_nm lt hw T C r (al_p (T j) (al_p u y)) s)) (al_S N (fun j => if j < c + 1 then r c j * al_nm lt hw T C r (al_p (T j) (al_p u y)) s else 0)) := by
        refine al_e_S (fun j _ => ?_)
        by_cases hj : j < c + 1
        · rw [if_pos hj]; exact al_e_r _ _
        · rw [if_neg hj]; exact al_e_0m (c3 j (by omega))
      refine al_e_t z ?_
      rw [al_S_x (n := c + 1) (by omega) (fun i h8 _ => if_neg (by omega)), al_S_s, if_pos (by omega)]
      refine al_e_a (al_e_of (al_S_c (fun i hi => by rw [if_pos (by omega), al_p_a]))) ?_
      rw [← al_p_a, ← h4]
      exact al_e_t (al_e_m c2 (al_e_r p _)) (al_e_of (by omega))
    have q3 : al_e p (al_S c (fun j => r c j * al_nm lt hw T C r (al_p (al_p (T j) u) y) s)) (al_S c (fun j => r c j * al_S K (fun k => al_nm lt hw T C r (al_p (T j) u) (st k) * al_nm lt hw T C r (al_p (st k) y) s))) := by
      refine al_e_S (fun j hj => al_e_m (al_e_r p _) (ih (al_p (T j) u) ?_ (hW c u j h3 hj (h4 ▸ hm))))
      rw [h4]
      exact hd _ _ u (hT j c hj c1)
    have q4 : al_S K (fun k => al_nm lt hw T C r m (st k) * al_nm lt hw T C r (al_p (st k) y) s) = - al_S c (fun j => r c j * al_S K (fun k => al_nm lt hw T C r (al_p (T j) u) (st k) * al_nm lt hw T C r (al_p (st k) y) s)) := by
      rw [← al_S_n]
      have z1 : al_S K (fun k => al_nm lt hw T C r m (st k) * al_nm lt hw T C r (al_p (st k) y) s) = al_S K (fun k => al_S c (fun j => - (r c j * (al_nm lt hw T C r (al_p (T j) u) (st k) * al_nm lt hw T C r (al_p (st k) y) s)))) := by
        refine al_S_c (fun k _ => ?_)
        rw [h6 (st k), ← al_S_n, ← al_S_r]
        exact al_S_c (fun j _ => by grind)
      rw [z1, al_S_w]
      refine al_S_c (fun j _ => ?_)
      rw [al_S_n, al_S_m]
    rw [q4]
    have q5 := al_e_d q2 q3
    exact al_e_t (al_e_of (by omega)) (al_e_t q5 (al_e_of (by omega)))
  · obtain ⟨k0, h1, h2⟩ := hall m hm h
    have h3 : al_S K (fun k => al_nm lt hw T C r m (st k) * al_nm lt hw T C r (al_p (st k) y) s) = al_S K (fun k => if k = k0 then al_nm lt hw T C r (al_p (st k) y) s else 0) := by
      refine al_S_c (fun k hk => ?_)
      rw [al_nm_s hw T C r h]
      by_cases h4 : k = k0
      · rw [if_pos h4, if_pos (by rw [h4, h2])]; omega
      · rw [if_neg h4, if_neg (fun h5 => h4 (hj k k0 hk h1 (by rw [h5, h2])))]; omega
    rw [h3, al_S_1, if_pos h1, h2]
    exact al_e_r _ _
