/- the space of an ideal up to dd, its leads, its corners; how many below -/
def iv_V (p : Int) (n o : Nat) (g : iG) (dd : Nat) : (Nat → Int) → Prop := sV p n o dd (sG n o dd g.1 g.2.1)
def iv_L (p : Int) (n o : Nat) (g : iG) (dd m : Nat) : Prop := ∃ f, iv_V p n o g dd f ∧ ¬ al_e p (f m) 0 ∧ ∀ j, m < j → al_e p (f j) 0
def iv_C (p : Int) (n o : Nat) (g : iG) (dd : Nat) : Nat → Prop := sC n o (iv_L p n o g dd)
def iv_N (C : Nat → Prop) : Nat → Nat → Prop
  | 0, K => K = 0
  | N + 1, K => (C N ∧ ∃ K', K = K' + 1 ∧ iv_N C N K') ∨ (¬ C N ∧ iv_N C N K)
theorem iv_N_u {C : Nat → Prop} : ∀ (N K K' : Nat), iv_N C N K → iv_N C N K' → K = K' := by
  intro N
  induction N with
  | zero => intro K K' h h'; exact h.trans h'.symm
  | succ N ih =>
    rintro K K' (⟨h1, a, rfl, h2⟩ | ⟨h1, h2⟩) (⟨g1, b, rfl, g2⟩ | ⟨g1, g2⟩)
    · rw [ih _ _ h2 g2]
    · exact absurd h1 g1
    · exact absurd g1 h1
    · exact ih _ _ h2 g2
theorem iv_N_e (C : Nat → Prop) : ∀ N, ∃ K, iv_N C N K := by
  intro N
  induction N with
  | zero => exact ⟨0, rfl⟩
  | succ N ih =>
    obtain ⟨K, hK⟩ := ih
    by_cases h : C N
    · exact ⟨K + 1, Or.inl ⟨h, K, rfl, hK⟩⟩
    · exact ⟨K, Or.inr ⟨h, hK⟩⟩
theorem iv_N_m {C : Nat → Prop} : ∀ (b a K K' : Nat), a ≤ b → iv_N C a K → iv_N C b K' → K ≤ K' := by
  intro b
  induction b with
  | zero =>
    intro a K K' h h1 h2
    obtain rfl : a = 0 := by omega
    rw [iv_N_u 0 _ _ h1 h2]; exact Nat.le_refl _
  | succ b ih =>
    intro a K K' h h1 h2
    by_cases hab : a = b + 1
    · rw [hab] at h1
      rw [iv_N_u _ _ _ h1 h2]; exact Nat.le_refl _
    · rcases h2 with ⟨_, c, rfl, h3⟩ | ⟨_, h3⟩
      · exact Nat.le_succ_of_le (ih a K c (by omega) h1 h3)
      · exact ih a K K' (by omega) h1 h3
theorem iv_N_p {C : Nat → Prop} {m m' k : Nat} (h1 : C m) (h2 : iv_N C m k) (h3 : C m') (h4 : iv_N C m' k) : m = m' := by
  rcases Nat.lt_trichotomy m m' with h | h | h
  · have : iv_N C (m + 1) (k + 1) := Or.inl ⟨h1, k, rfl, h2⟩
    have := iv_N_m m' (m + 1) (k + 1) k h this h4
    omega
  · exact h
  · have : iv_N C (m' + 1) (k + 1) := Or.inl ⟨h3, k, rfl, h4⟩
    have := iv_N_m m (m' + 1) (k + 1) k h this h2
    omega
theorem iv_N_c {C D : Nat → Prop} : ∀ (N K : Nat), (∀ m, m < N → (C m ↔ D m)) → iv_N C N K → iv_N D N K := by
  intro N
  induction N with
  | zero => intro K _ h; exact h
  | succ N ih =>
    rintro K h (⟨h1, a, rfl, h2⟩ | ⟨h1, h2⟩)
    · exact Or.inl ⟨(h N (by omega)).mp h1, a, rfl, ih _ (fun m hm => h m (by omega)) h2⟩
    · exact Or.inr ⟨fun q => h1 ((h N (by omega)).mpr q), ih _ (fun m hm => h m (by omega)) h2⟩
theorem iv_N_z {C : Nat → Prop} {N K : Nat} (h : iv_N C N K) : ∀ d, (∀ m, N ≤ m → m < N + d → ¬ C m) → iv_N C (N + d) K := by
  intro d
  induction d with
  | zero => intro _; exact h
  | succ d ih => intro hz; exact Or.inr ⟨hz (N + d) (by omega) (by omega), ih (fun m h1 h2 => hz m h1 (by omega))⟩
/- corners told in order: the k-th has k below it -/
theorem cn_N {f : Nat → Int} {K : Nat} {c : Nat → Nat} {C : Nat → Prop} {N : Nat} (h : cn_P f K c C N) : ∀ m, m ≤ N → ∀ k, k ≤ K → (∀ j, j < k → c j < m) → (∀ j, k ≤ j → j < K → m ≤ c j) → iv_N C m k := by
  obtain ⟨h1, h2, h3⟩ := h
  intro m
  induction m with
  | zero =>
    intro _ k hk h4 _
    by_cases hk0 : k = 0
    · exact hk0
    · exact absurd (h4 0 (by omega)) (by omega)
  | succ m ih =>
    intro hm k hk h4 h5
    by_cases hC : C m
    · obtain ⟨j, hj, hjm⟩ := h3 m (by omega) hC
      have hjk : j < k := Classical.byContradiction (fun hq => by have := h5 j (by omega) hj; omega)
      have hkj : k = j + 1 := Classical.byContradiction (fun hq => by
        have a1 := h4 (j + 1) (by omega)
        have a2 := h2 j (j + 1) (by omega) (by omega)
        omega)
      refine Or.inl ⟨hC, j, hkj, ih (by omega) j (by omega) (fun i hi => by rw [← hjm]; exact h2 i j hi hj) (fun i hi1 hi2 => ?_)⟩
      by_cases hij : i = j
      · rw [hij, hjm]; exact Nat.le_refl _
      · have := h2 j i (by omega) hi2; omega
    · refine Or.inr ⟨hC, ih (by omega) k hk (fun i hi => ?_) (fun i hi1 hi2 => by have := h5 i hi1 hi2; omega)⟩
      have a1 := h4 i hi
      have a2 : c i ≠ m := fun q => hC (q ▸ (h1 i (by omega)).2.2)
      omega
theorem cn_K {f : Nat → Int} {K : Nat} {c : Nat → Nat} {C : Nat → Prop} {N : Nat} (h : cn_P f K c C N) : iv_N C N K :=
  cn_N h N (Nat.le_refl _) K (Nat.le_refl _) (fun j hj => (h.1 j hj).2.1) (fun j h1 h2 => by omega)
theorem cn_k {f : Nat → Int} {K : Nat} {c : Nat → Nat} {C : Nat → Prop} {N : Nat} (h : cn_P f K c C N) {k : Nat} (hk : k < K) : iv_N C (c k) k :=
  cn_N h (c k) (by have := (h.1 k hk).2.1; omega) k (by omega) (fun j hj => h.2.1 j k hj hk) (fun j h1 h2 => by
    by_cases hjk : j = k
    · rw [hjk]; exact Nat.le_refl _
    · have := h.2.1 k j (by omega) h2; omega)
/- what the space of the class tells is so -/
theorem se_iv {H : mz_H} {s : Nat} {p : Int} {n o d M : Nat} {ld : Nat → Nat} {g : iG} (hp : 2 ≤ p) (hE : tb_F n (d + 1) ≤ 126) (h : se_D H s p n o d M ld g.1 g.2.1) (m : Nat) : se_L M ld m ↔ iv_L p n o g d m := by
  constructor
  · rintro ⟨k, hk, rfl⟩
    obtain ⟨b1, b2, b3, b4, b5, b6⟩ := h.1.1.2.2.1 k hk
    refine ⟨cu (H.2.1 (s + 2 + k)), h.1.2.2 k hk, ?_, fun j hj => ?_⟩
    · rw [cu_1 (by omega), b5]
      intro hq
      have := al_e_z hq (by omega) (by omega)
      omega
    · by_cases hj2 : j < 126
      · rw [cu_1 hj2, b6 j hj hj2]; exact al_e_r _ _
      · unfold cu
        rw [if_neg hj2]; exact al_e_r _ _
  · rintro ⟨f, h1, h2, h3⟩
    exact se_hl hE h f m h1 h2 h3
theorem sC_k {n o : Nat} {L D : Nat → Prop} (h : ∀ m, L m ↔ D m) (m : Nat) : sC n o L m ↔ sC n o D m := by
  unfold sC
  constructor
  · rintro ⟨h1, h2⟩; exact ⟨(h m).mp h1, fun k hk => h2 k ((h k).mpr hk)⟩
  · rintro ⟨h1, h2⟩; exact ⟨(h m).mpr h1, fun k hk => h2 k ((h k).mp hk)⟩
theorem cn_C {f : Nat → Int} {K : Nat} {c : Nat → Nat} {C D : Nat → Prop} {N : Nat} (h : cn_P f K c C N) (hC : ∀ m, C m ↔ D m) : cn_P f K c D N :=
  ⟨fun k hk => ⟨(h.1 k hk).1, (h.1 k hk).2.1, (hC _).mp (h.1 k hk).2.2⟩, h.2.1, fun m hm hD => h.2.2 m hm ((hC m).mpr hD)⟩
/- the k-th element of the basis; the remainder -/
def iv_el (p : Int) (n o : Nat) (g : iG) (dd k : Nat) (r : Nat → Int) : Prop :=
  ∃ m, iv_C p n o g dd m ∧ m < tb_F n (dd + 1) ∧ iv_N (iv_C p n o g dd) m k ∧ (∀ j, j < 126 → 0 ≤ r j ∧ r j < p) ∧ r m = 1 ∧ (∀ l, l < 126 → iv_L p n o g dd l → l ≠ m → r l = 0) ∧ (∀ j, m < j → j < 126 → r j = 0) ∧ iv_V p n o g dd (cu r)
def iv_rm (p : Int) (n o : Nat) (g : iG) (dd : Nat) (f r : Nat → Int) : Prop :=
  (∀ j, j < 126 → 0 ≤ r j ∧ r j < p) ∧ (∀ l, l < 126 → iv_L p n o g dd l → r l = 0) ∧ iv_V p n o g dd (fun j => cu f j - cu r j)
theorem cu_z {f : Nat → Int} {p : Int} {j : Nat} (h : 126 ≤ j) : al_e p (cu f j) 0 := by
  unfold cu
  rw [if_neg (by omega)]; exact al_e_r _ _
theorem iv_nf {p : Int} {n o : Nat} {g : iG} {dd : Nat} {f u w : Nat → Int} (h1 : iv_V p n o g dd (fun i => f i - u i)) (h2 : iv_V p n o g dd (fun i => f i - w i)) (h3 : ∀ l, iv_L p n o g dd l → al_e p (u l) 0) (h4 : ∀ l, iv_L p n o g dd l → al_e p (w l) 0) (h5 : ∀ j, 126 ≤ j → al_e p (u j) 0) (h6 : ∀ j, 126 ≤ j → al_e p (w j) 0) (i : Nat) : al_e p (u i) (w i) :=
  al_nf (S := iv_V p n o g dd) (L := iv_L p n o g dd) (al_V_L _ _ _ _ _) (fun f l a b c => ⟨f, a, b, c⟩) h1 h2 h3 h4 h5 h6 i
theorem al_e_rr {p x y : Int} (h : al_e p x y) (h1 : 0 ≤ x ∧ x < p) (h2 : 0 ≤ y ∧ y < p) : x = y :=
  al_e_u h h1.1 h1.2 h2.1 h2.2
theorem iv_rm_u {p : Int} (hp : 2 ≤ p) {n o : Nat} {g : iG} {dd : Nat} {f f' r r' : Nat → Int} (hf : ∀ j, j < 126 → f j = f' j) (h : iv_rm p n o g dd f r) (h' : iv_rm p n o g dd f' r') : ∀ j, j < 126 → r j = r' j := by
  intro j hj
  have hcf := cu_c hf
  unfold iv_rm at h
  rw [hcf] at h
  have := iv_nf (u := cu r) (w := cu r') h.2.2 h'.2.2 (fun l hl => by
    by_cases hl2 : l < 126
    · rw [cu_1 hl2, h.2.1 l hl2 hl]; exact al_e_r _ _
    · exact cu_z (by omega)) (fun l hl => by
    by_cases hl2 : l < 126
    · rw [cu_1 hl2, h'.2.1 l hl2 hl]; exact al_e_r _ _
    · exact cu_z (by omega)) (fun j hj => cu_z hj) (fun j hj => cu_z hj) j
  rw [cu_1 hj, cu_1 hj] at this
  exact al_e_rr this (h.1 j hj) (h'.1 j hj)
theorem iv_el_u {p : Int} (hp : 2 ≤ p) {n o : Nat} {g : iG} {dd k : Nat} {r r' : Nat → Int} (h : iv_el p n o g dd k r) (h' : iv_el p n o g dd k r') (hE : tb_F n (dd + 1) ≤ 126) : ∀ j, j < 126 → r j = r' j := by
  obtain ⟨m, a1, a2, a3, a4, a5, a6, a7, a8⟩ := h
  obtain ⟨m', b1, b2, b3, b4, b5, b6, b7, b8⟩ := h'
  obtain rfl := iv_N_p a1 a3 b1 b3
  intro j hj
  have kk : ∀ (r : Nat → Int), r m = 1 → (∀ l, l < 126 → iv_L p n o g dd l → l ≠ m → r l = 0) → ∀ l, iv_L p n o g dd l → al_e p ((if l = m then 1 else 0) - cu r l) 0 := by
    intro r h1 h2 l hl
    by_cases hlm : l = m
    · rw [if_pos hlm, hlm, cu_1 (by omega), h1]; exact al_e_of (by omega)
    · rw [if_neg hlm]
      by_cases hl2 : l < 126
      · rw [cu_1 hl2, h2 l hl2 hl hlm]; exact al_e_of (by omega)
      · unfold cu
        rw [if_neg hl2]; exact al_e_of (by omega)
  have zz : ∀ (r : Nat → Int) j, 126 ≤ j → al_e p ((if j = m then 1 else 0) - cu r j) 0 := fun r j hj => by
    rw [if_neg (by omega)]
    unfold cu
    rw [if_neg (by omega)]; exact al_e_of (by omega)
  have := iv_nf (f := fun i => if i = m then 1 else 0) (u := fun i => (if i = m then 1 else 0) - cu r i) (w := fun i => (if i = m then 1 else 0) - cu r' i) ((al_V_L _ _ _ _ _).2.1 _ _ a8 (fun i => al_e_of (by omega))) ((al_V_L _ _ _ _ _).2.1 _ _ b8 (fun i => al_e_of (by omega))) (kk r a5 a6) (kk r' b5 b6) (zz r) (zz r') j
  replace this : al_e p ((if j = m then 1 else 0) - cu r j) ((if j = m then 1 else 0) - cu r' j) := this
  rw [cu_1 hj, cu_1 hj] at this
  have h2 := al_e_d (al_e_r p (if j = m then 1 else 0)) this
  exact al_e_rr (al_e_t (al_e_of (by omega)) (al_e_t h2 (al_e_of (by omega)))) (a4 j hj) (b4 j hj)
