/- the standard monomials of leads L -/
def lSt (n o : Nat) (L : Nat → Prop) (m : al_M) : Prop := tb_v n m ∧ ¬ ∃ c, sC n o L c ∧ al_le (tb_T n o c) m
def fl (f : Nat → al_M) (B : Nat) : List al_M := (List.range B).map f
theorem fl_l (f : Nat → al_M) (B : Nat) : (fl f B).length = B := by unfold fl; rw [List.length_map, List.length_range]
theorem fl_B {f : Nat → al_M} {B i : Nat} (h : i < B) : fg_B (fl f B) i = f i := by
  unfold fg_B fl
  rw [List.getElem?_map, List.getElem?_range h]
  rfl
theorem fl_m {f : Nat → al_M} {B : Nat} {m : al_M} : m ∈ fl f B ↔ ∃ j, j < B ∧ f j = m := by
  unfold fl
  rw [List.mem_map]
  constructor
  · rintro ⟨j, h1, h2⟩; exact ⟨j, List.mem_range.mp h1, h2⟩
  · rintro ⟨j, h1, h2⟩; exact ⟨j, List.mem_range.mpr h1, h2⟩
theorem fl_n {f : Nat → al_M} {B : Nat} {l : List al_M} (hi : ∀ i j, i < B → j < B → f i = f j → i = j) (hs : ∀ j, j < B → f j ∈ l) : B ≤ l.length := by
  have key : ∀ i, i < B → ∃ j, j < l.length ∧ fg_B l j = f i := fun i h => fg_B_e (hs i h)
  refine ph_le l.length B (fun i => if hi : i < B then Classical.choose (key i hi) else 0) (fun k hk => ?_) (fun i j h1 h2 hij => ?_)
  · simp only [dif_pos hk]
    exact (Classical.choose_spec (key k hk)).1
  · simp only [dif_pos h1, dif_pos h2] at hij
    refine hi i j h1 h2 ?_
    rw [← (Classical.choose_spec (key i h1)).2, ← (Classical.choose_spec (key j h2)).2, hij]
theorem bo_O_i {o B : Nat} {f : Nat → al_M} (hO : bo_O o B f) : ∀ i j, i < B → j < B → f i = f j → i = j := by
  intro i j hi hj he
  rcases Nat.lt_trichotomy i j with h | h | h
  · have := hO i j h hj
    rw [he] at this
    exact absurd this (al_lt_i o _)
  · exact h
  · have := hO j i h hi
    rw [he] at this
    exact absurd this (al_lt_i o _)
theorem bo_ins {o B k : Nat} {f : Nat → al_M} {x : al_M} (hO : bo_O o B f) (hk : k ≤ B) (h1 : k = 0 ∨ ¬ al_lt o x (f (k - 1))) (h2 : ∀ j, k ≤ j → j < B → al_lt o x (f j)) (hx : ∀ j, j < B → f j ≠ x) : bo_O o (B + 1) (bo_i f k x) := by
  have low : ∀ i, i < k → al_lt o (f i) x := by
    intro i hi
    have h3 : al_lt o (f (k - 1)) x := by
      rcases h1 with h | h
      · omega
      · rcases al_lt_x o x (f (k - 1)) with q | q | q
        · exact absurd q h
        · exact absurd q.symm (hx _ (by omega))
        · exact q
    by_cases hik : i = k - 1
    · rw [hik]; exact h3
    · exact al_lt_t o _ _ _ (hO i (k - 1) (by omega) (by omega)) h3
  intro i j hij hj
  rcases Nat.lt_trichotomy i k with hi | hi | hi
  · rw [bo_i1 hi]
    rcases Nat.lt_trichotomy j k with hjk | hjk | hjk
    · rw [bo_i1 hjk]; exact hO i j hij (by omega)
    · rw [bo_i2 hjk]; exact low i hi
    · rw [bo_i3 hjk]
      exact hO i (j - 1) (by omega) (by omega)
  · rw [bo_i2 hi, bo_i3 (by omega)]
    exact h2 (j - 1) (by omega) (by omega)
  · rw [bo_i3 hi, bo_i3 (by omega)]
    exact hO (i - 1) (j - 1) (by omega) (by omega)
theorem bo_i_m {B k : Nat} {f : Nat → al_M} {x : al_M} (hk : k ≤ B) (m : al_M) : (∃ j, j < B + 1 ∧ bo_i f k x j = m) ↔ (∃ j, j < B ∧ f j = m) ∨ m = x := by
  constructor
  · rintro ⟨j, h1, h2⟩
    rcases Nat.lt_trichotomy j k with h | h | h
    · rw [bo_i1 h] at h2; exact Or.inl ⟨j, by omega, h2⟩
    · rw [bo_i2 h] at h2; exact Or.inr h2.symm
    · rw [bo_i3 h] at h2; exact Or.inl ⟨j - 1, by omega, h2⟩
  · rintro (⟨j, h1, h2⟩ | h)
    · by_cases hjk : j < k
      · exact ⟨j, by omega, by rw [bo_i1 hjk]; exact h2⟩
      · exact ⟨j + 1, by omega, by rw [bo_i3 (by omega), Nat.add_sub_cancel]; exact h2⟩
    · exact ⟨k, by omega, by rw [bo_i2 rfl]; exact h.symm⟩
/- no pure power: too many standard ones -/
theorem lSt_pw {n o v : Nat} (hok : tb_ok n o) (hv : v < n) {L : Nat → Prop} (hLb : ∀ l, L l → l < tb_N n) (hL0 : ¬ L 0) (hno : ∀ m, 1 ≤ m → m < tb_N n → sC n o L m → tb_g (tb_T n o m) v ≠ al_dg (tb_T n o m)) (k : Nat) : lSt n o L (tb_s (0, 0, 0, 0) v k) := by
  have hn := hok.2.1
  refine ⟨(tb_s_e hv hn).1, ?_⟩
  rintro ⟨c, hc, hle⟩
  have hcb := hLb c hc.1
  have hc0 : c ≠ 0 := fun q => hL0 (q ▸ hc.1)
  refine hno c (by omega) hcb hc ?_
  have h := al_le_g.mp hle
  have h0 := h 0 (by omega)
  have h1 := h 1 (by omega)
  have h2 := h 2 (by omega)
  have h3 := h 3 (by omega)
  rw [tb_s_g _ _ _ _ (by omega) (by omega)] at h0 h1 h2 h3
  generalize tb_T n o c = x at *
  unfold al_dg
  obtain rfl | rfl | rfl | rfl : v = 0 ∨ v = 1 ∨ v = 2 ∨ v = 3 := by omega
  all_goals
    simp [tb_g] at h0 h1 h2 h3 ⊢
    omega
theorem lSt_no {n o v : Nat} (hok : tb_ok n o) (hv : v < n) {L : Nat → Prop} (hLb : ∀ l, L l → l < tb_N n) (hL0 : ¬ L 0) (hno : ∀ m, 1 ≤ m → m < tb_N n → sC n o L m → tb_g (tb_T n o m) v ≠ al_dg (tb_T n o m)) : ¬ ∃ l : List al_M, l.length ≤ 40 ∧ ∀ m, lSt n o L m → m ∈ l := by
  rintro ⟨l, h1, h2⟩
  have := fl_n (f := fun k => tb_s (0, 0, 0, 0) v k) (B := 41) (l := l) (fun i j _ _ he => by
    have q := congrArg (fun x => tb_g x v) he
    (try simp only [] at q)
    have hn := hok.2.1
    rw [tb_x_m v i (by omega), tb_x_m v j (by omega)] at q
    exact q) (fun j _ => h2 _ (lSt_pw hok hv hLb hL0 hno j))
  omega
/- a pure power: none beyond it -/
theorem lSt_b {n o v m : Nat} (hok : tb_ok n o) (hv : v < 4) {L : Nat → Prop} (hC : sC n o L m) (hpu : tb_g (tb_T n o m) v = al_dg (tb_T n o m)) {x : al_M} (hx : lSt n o L x) : tb_g x v < al_dg (tb_T n o m) := by
  refine Classical.byContradiction (fun hq => hx.2 ⟨m, hC, ?_⟩)
  rw [al_le_g]
  intro w hw
  generalize tb_T n o m = t at *
  unfold al_dg at hpu hq
  obtain rfl | rfl | rfl | rfl : v = 0 ∨ v = 1 ∨ v = 2 ∨ v = 3 := by omega
  all_goals
    obtain rfl | rfl | rfl | rfl : w = 0 ∨ w = 1 ∨ w = 2 ∨ w = 3 := by omega
    all_goals
      simp [tb_g] at hpu hq ⊢
      omega
def mo_S (n o : Nat) (L : Nat → Prop) (v : Nat) (D : Int) : Prop := (n ≤ v ∧ D = 1) ∨ (v < n ∧ ((∃ m, 1 ≤ m ∧ m < tb_N n ∧ sC n o L m ∧ tb_g (tb_T n o m) v = al_dg (tb_T n o m) ∧ D = al_dg (tb_T n o m)) ∨ (D = -1 ∧ ∀ m, 1 ≤ m → m < tb_N n → sC n o L m → tb_g (tb_T n o m) v ≠ al_dg (tb_T n o m))))
theorem mo_S_r {n o : Nat} (hok : tb_ok n o) {L : Nat → Prop} {v : Nat} {D : Int} (h : mo_S n o L v D) : -1 ≤ D ∧ D ≤ 30 := by
  have hh := tb_h_b n
  rcases h with ⟨_, rfl⟩ | ⟨_, ⟨m, _, h1, _, _, rfl⟩ | ⟨rfl, _⟩⟩
  · omega
  · have := (tb_T_b hok h1).1
    omega
  · omega
theorem mo_S_b {n o : Nat} (hok : tb_ok n o) {L : Nat → Prop} {v : Nat} {D : Nat} (hv : v < 4) (h : mo_S n o L v (D : Int)) {x : al_M} (hx : lSt n o L x) : tb_g x v < D := by
  rcases h with ⟨h1, h2⟩ | ⟨_, ⟨m, _, h1, h2, h3, h4⟩ | ⟨h1, _⟩⟩
  · have hxv := hx.1
    unfold tb_v at hxv
    have hn1 := hok.1
    obtain rfl | rfl | rfl | rfl : v = 0 ∨ v = 1 ∨ v = 2 ∨ v = 3 := by omega
    all_goals
      simp only [tb_g]
      omega
  · have := lSt_b hok hv h2 h3 hx
    omega
  · omega
theorem mo_S_v {n o : Nat} {L : Nat → Prop} {D : Nat → Nat} {x : al_M} (h : ∀ v, v < 4 → mo_S n o L v (D v : Int)) (hx : ∀ v, v < 4 → tb_g x v < D v) : tb_v n x := by
  have key : ∀ v, v < 4 → n ≤ v → tb_g x v = 0 := fun v hv hnv => by
    have h1 := hx v hv
    rcases h v hv with ⟨_, h2⟩ | ⟨h2, _⟩
    · omega
    · omega
  have k1 := key 1 (by omega)
  have k2 := key 2 (by omega)
  have k3 := key 3 (by omega)
  simp only [tb_g] at k1 k2 k3
  unfold tb_v
  omega
