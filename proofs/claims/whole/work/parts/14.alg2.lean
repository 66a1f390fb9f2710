def al_pr (p : Nat) : Prop := 2 ≤ p ∧ ∀ k, 2 ≤ k → k < p → ¬ k ∣ p
theorem al_pr_c {p k : Nat} (h : al_pr p) (h0 : 0 < k) (h1 : k < p) : Nat.Coprime p k := by
  have hd := Nat.gcd_dvd_left p k
  have hk := Nat.le_of_dvd h0 (Nat.gcd_dvd_right p k)
  have hp : 0 < Nat.gcd p k := Nat.gcd_pos_of_pos_right _ h0
  by_cases h2 : Nat.gcd p k = 1
  · exact h2
  · exact absurd hd (h.2 _ (by omega) (by omega))
theorem al_pr_m {p a b : Nat} (h : al_pr p) (hd : p ∣ a * b) : p ∣ a ∨ p ∣ b := by
  by_cases ha : p ∣ a
  · exact Or.inl ha
  · right
    have h1 : 0 < a % p := by
      rcases Nat.eq_zero_or_pos (a % p) with h2 | h2
      · exact absurd (Nat.dvd_of_mod_eq_zero h2) ha
      · exact h2
    have hc : Nat.Coprime p (a % p) := al_pr_c h h1 (Nat.mod_lt _ (by have := h.1; omega))
    have hc2 : Nat.Coprime p a := by
      unfold Nat.Coprime at hc ⊢
      rw [← hc, Nat.gcd_rec p a, Nat.gcd_comm]
    exact hc2.dvd_of_dvd_mul_left hd
def al_ch : Nat → Nat → Nat
  | _, 0 => 1
  | 0, _ + 1 => 0
  | n + 1, k + 1 => al_ch n k + al_ch n (k + 1)
theorem al_ch_0 (n : Nat) : al_ch n 0 = 1 := by cases n <;> rfl
theorem al_ch_s (n k : Nat) : al_ch (n + 1) (k + 1) = al_ch n k + al_ch n (k + 1) := rfl
theorem al_ch_g {n k : Nat} (h : n < k) : al_ch n k = 0 := by
  induction n generalizing k with
  | zero => cases k with
    | zero => omega
    | succ k => rfl
  | succ n ih => cases k with
    | zero => omega
    | succ k => rw [al_ch_s, ih (by omega), ih (by omega)]
theorem al_ch_n (n : Nat) : al_ch n n = 1 := by
  induction n with
  | zero => rfl
  | succ n ih => rw [al_ch_s, ih, al_ch_g (by omega)]
theorem al_ch_m (n k : Nat) : (k + 1) * al_ch (n + 1) (k + 1) = (n + 1) * al_ch n k := by
  induction n generalizing k with
  | zero => cases k with
    | zero => rfl
    | succ k => rw [al_ch_s, al_ch_g (show 0 < k + 1 by omega), al_ch_g (show 0 < k + 1 + 1 by omega)]; omega
  | succ n ih => cases k with
    | zero =>
      have h := ih 0
      rw [al_ch_0] at h ⊢
      rw [al_ch_s, al_ch_0]
      omega
    | succ k =>
      have h1 := ih k
      have h2 := ih (k + 1)
      rw [al_ch_s (n + 1) (k + 1)]
      have h3 := al_ch_s n k
      grind
theorem al_ch_d {p k : Nat} (h : al_pr p) (h0 : 0 < k) (h1 : k < p) : p ∣ al_ch p k := by
  obtain ⟨n, rfl⟩ : ∃ n, p = n + 1 := ⟨p - 1, by omega⟩
  obtain ⟨j, rfl⟩ : ∃ j, k = j + 1 := ⟨k - 1, by omega⟩
  have h2 := al_ch_m n j
  rcases al_pr_m h ⟨_, h2⟩ with h3 | h3
  · exact absurd (Nat.le_of_dvd (by omega) h3) (by omega)
  · exact h3
def al_SN : Nat → (Nat → Nat) → Nat
  | 0, _ => 0
  | n + 1, f => al_SN n f + f n
theorem al_SN_c {n : Nat} {f g : Nat → Nat} (h : ∀ i, i < n → f i = g i) : al_SN n f = al_SN n g := by
  induction n with
  | zero => rfl
  | succ n ih => show al_SN n f + f n = al_SN n g + g n; rw [ih (fun i hi => h i (by omega)), h n (by omega)]
theorem al_SN_f (n : Nat) (f : Nat → Nat) : al_SN (n + 1) f = f 0 + al_SN n (fun i => f (i + 1)) := by
  induction n with
  | zero => show 0 + f 0 = f 0 + 0; omega
  | succ n ih => show al_SN (n + 1) f + f (n + 1) = f 0 + (al_SN n (fun i => f (i + 1)) + f (n + 1)); rw [ih]; omega
theorem al_SN_a (n : Nat) (f g : Nat → Nat) : al_SN n (fun i => f i + g i) = al_SN n f + al_SN n g := by
  induction n with
  | zero => rfl
  | succ n ih => show al_SN n (fun i => f i + g i) + (f n + g n) = al_SN n f + f n + (al_SN n g + g n); rw [ih]; omega
theorem al_SN_m (n c : Nat) (f : Nat → Nat) : al_SN n (fun i => c * f i) = c * al_SN n f := by
  induction n with
  | zero => rfl
  | succ n ih => show al_SN n _ + _ = c * (al_SN n f + f n); rw [ih, Nat.mul_add]
theorem al_SN_d {p n : Nat} {f : Nat → Nat} (h : ∀ i, i < n → p ∣ f i) : p ∣ al_SN n f := by
  induction n with
  | zero => exact Nat.dvd_zero p
  | succ n ih => exact Nat.dvd_add (ih (fun i hi => h i (by omega))) (h n (by omega))
theorem al_bin (a n : Nat) : (a + 1) ^ n = al_SN (n + 1) (fun k => al_ch n k * a ^ k) := by
  induction n with
  | zero => rfl
  | succ n ih =>
    rw [Nat.pow_succ, ih, al_SN_f (n + 1)]
    have h1 : al_SN (n + 1) (fun k => al_ch (n + 1) (k + 1) * a ^ (k + 1)) = al_SN (n + 1) (fun k => a * (al_ch n k * a ^ k) + al_ch n (k + 1) * a ^ (k + 1)) :=
      al_SN_c (fun i _ => by rw [al_ch_s, Nat.pow_succ]; grind)
    rw [h1, al_SN_a, al_SN_m]
    have h2 : al_SN (n + 1) (fun k => al_ch n k * a ^ k) = 1 + al_SN n (fun k => al_ch n (k + 1) * a ^ (k + 1)) := by
      rw [al_SN_f, al_ch_0, Nat.pow_zero]
    have h3 : al_SN (n + 1) (fun k => al_ch n (k + 1) * a ^ (k + 1)) = al_SN n (fun k => al_ch n (k + 1) * a ^ (k + 1)) := by
      show al_SN n _ + al_ch n (n + 1) * a ^ (n + 1) = _
      rw [al_ch_g (by omega)]
      omega
    rw [h3, al_ch_0, Nat.pow_zero]
    rw [Nat.mul_comm _ (a + 1), Nat.add_mul, Nat.one_mul]
    omega
theorem al_fm (p a : Nat) (h : al_pr p) : a ^ p % p = a % p := by
  induction a with
  | zero => rw [Nat.zero_pow (by have := h.1; omega)]
  | succ a ih =>
    have h2 := h.1
    obtain ⟨n, rfl⟩ : ∃ n, p = n + 1 := ⟨p - 1, by omega⟩
    rw [al_bin, al_SN_f]
    have h1 : al_SN (n + 1) (fun i => al_ch (n + 1) (i + 1) * a ^ (i + 1)) = al_SN n (fun i => al_ch (n + 1) (i + 1) * a ^ (i + 1)) + al_ch (n + 1) (n + 1) * a ^ (n + 1) := rfl
    rw [h1, al_ch_n, al_ch_0]
    obtain ⟨q, hq⟩ := al_SN_d (p := n + 1) (n := n) (f := fun i => al_ch (n + 1) (i + 1) * a ^ (i + 1)) (fun i hi => Nat.dvd_mul_right_of_dvd (al_ch_d h (by omega) (by omega)) _)
    rw [hq, Nat.pow_zero, Nat.one_mul, Nat.one_mul]
    rw [show 1 + ((n + 1) * q + a ^ (n + 1)) = 1 + a ^ (n + 1) + (n + 1) * q by omega, Nat.add_mul_mod_self_left, Nat.add_mod, ih, ← Nat.add_mod, Nat.add_comm]
theorem al_inv {p a : Nat} (h : al_pr p) (h0 : 0 < a) (h1 : a < p) : a ^ (p - 2) * a % p = 1 := by
  have h2 := h.1
  have h3 := al_fm p a h
  obtain ⟨n, rfl⟩ : ∃ n, p = n + 2 := ⟨p - 2, by omega⟩
  rw [show n + 2 - 2 = n by omega, ← Nat.pow_succ]
  have h4 : a * (a ^ (n + 1) % (n + 2)) % (n + 2) = a % (n + 2) := by
    rw [Nat.mul_mod, Nat.mod_mod, ← Nat.mul_mod, ← h3, Nat.pow_succ (n := a) (m := n + 1), Nat.mul_comm]
  have h5 : 0 < a ^ (n + 1) % (n + 2) := by
    rcases Nat.eq_zero_or_pos (a ^ (n + 1) % (n + 2)) with h6 | h6
    · rw [h6, Nat.mul_zero, Nat.zero_mod, Nat.mod_eq_of_lt h1] at h4
      omega
    · exact h6
  have h6 := Nat.mod_lt (a ^ (n + 1)) (show 0 < n + 2 by omega)
  generalize hb : a ^ (n + 1) % (n + 2) = b at *
  have h7 : n + 2 ∣ a * (b - 1) := by
    have h8 : a * b = a * (b - 1) + a := by
      obtain ⟨c, rfl⟩ : ∃ c, b = c + 1 := ⟨b - 1, by omega⟩
      rw [show c + 1 - 1 = c by omega, Nat.mul_add, Nat.mul_one]
    rw [h8] at h4
    refine Nat.dvd_of_mod_eq_zero ?_
    have h9 := Nat.sub_mod_eq_zero_of_mod_eq (m := a * (b - 1) + a) (n := a) (k := n + 2) h4
    rwa [Nat.add_sub_cancel] at h9
  rcases al_pr_m h h7 with h8 | h8
  · exact absurd (Nat.le_of_dvd h0 h8) (by omega)
  · rcases Nat.eq_zero_or_pos (b - 1) with h9 | h9
    · omega
    · exact absurd (Nat.le_of_dvd h9 h8) (by omega)
def al_ip (p a : Int) : Prop := 0 ≤ a ∧ a < p
theorem al_inv_e {p : Nat} {a : Int} (h : al_pr p) (h0 : 0 < a) (h1 : a < p) : al_e p (a ^ (p - 2) * a) 1 := by
  obtain ⟨n, rfl⟩ : ∃ n : Nat, a = n := ⟨a.toNat, by omega⟩
  have h2 := al_inv h (a := n) (by omega) (by omega)
  have hp := h.1
  refine al_e_i.mpr ?_
  rw [Int.emod_eq_of_lt (a := 1) (by omega) (by omega)]
  exact_mod_cast h2
theorem al_pr_t {p : Nat} (h : 2 ≤ p) (hk : ∀ k, 2 ≤ k → k * k ≤ p → p % k ≠ 0) : al_pr p := by
  refine ⟨h, fun k h2 h3 hd => ?_⟩
  obtain ⟨c, hc⟩ := hd
  by_cases h4 : k * k ≤ p
  · exact hk k h2 h4 (by rw [hc]; exact Nat.mul_mod_right k c)
  · have h5 : c < k := by
      refine Nat.lt_of_not_le (fun h6 => h4 ?_)
      rw [hc]
      exact Nat.mul_le_mul_left k h6
    have h6 : 2 ≤ c := by
      rcases c with _ | _ | c
      · omega
      · omega
      · omega
    refine hk c h6 ?_ (by rw [hc]; exact Nat.mul_mod_left k c)
    rw [hc]
    exact Nat.mul_le_mul_right c (by omega)
theorem al_S_2 {n : Nat} {f : Nat → Int} {k : Nat} (hk : k < n) (h : ∀ i, i < n → i ≠ k → f i = 0) : al_S n f = f k := by
  have h1 := al_S_1 n k f
  rw [if_pos hk] at h1
  rw [← h1]
  refine al_S_c (fun i hi => ?_)
  by_cases hh : i = k
  · rw [if_pos hh]
  · rw [if_neg hh]; exact h i hi hh
def al_rp (N : Nat) (T : Nat → al_M) (f g : Nat → Int) (m : Nat) : Int :=
  if m < N then al_S N (fun i => al_S N (fun j => if al_p (T i) (T j) = T m then f i * g j else 0)) else 0
theorem al_rp_c (N : Nat) (T : Nat → al_M) (f g : Nat → Int) (m : Nat) : al_rp N T f g m = al_rp N T g f m := by
  unfold al_rp
  by_cases hm : m < N
  · rw [if_pos hm, if_pos hm, al_S_w]
    refine al_S_c (fun i _ => al_S_c (fun j _ => ?_))
    rw [al_p_c]
    grind
  · rw [if_neg hm, if_neg hm]
theorem al_rp_e {p : Int} (N : Nat) (T : Nat → al_M) {f g f' g' : Nat → Int} (hf : ∀ i, i < N → al_e p (f i) (f' i)) (hg : ∀ i, i < N → al_e p (g i) (g' i)) (m : Nat) :
    al_e p (al_rp N T f g m) (al_rp N T f' g' m) := by
  unfold al_rp
  by_cases hm : m < N
  · rw [if_pos hm, if_pos hm]
    refine al_e_S (fun i hi => al_e_S (fun j hj => ?_))
    by_cases h : al_p (T i) (T j) = T m
    · rw [if_pos h, if_pos h]; exact al_e_m (hf i hi) (hg j hj)
    · rw [if_neg h, if_neg h]; exact al_e_r _ _
  · rw [if_neg hm, if_neg hm]; exact al_e_r _ _
theorem al_dg_p (a b : al_M) : al_dg (al_p a b) = al_dg a + al_dg b := by
  simp only [al_dg, al_p]; omega
theorem al_rp_d {N : Nat} {T : Nat → al_M} {f g : Nat → Int} {a b : Nat} (hf : ∀ i, i < N → f i ≠ 0 → al_dg (T i) ≤ a) (hg : ∀ i, i < N → g i ≠ 0 → al_dg (T i) ≤ b) (m : Nat)
    (h : al_rp N T f g m ≠ 0) : al_dg (T m) ≤ a + b := by
  unfold al_rp at h
  by_cases hm : m < N
  · rw [if_pos hm] at h
    refine Classical.byContradiction (fun hh => h (al_S_z (fun i hi => al_S_z (fun j hj => ?_))))
    by_cases h1 : al_p (T i) (T j) = T m
    · rw [if_pos h1]
      by_cases h2 : f i = 0
      · rw [h2]; omega
      · by_cases h3 : g j = 0
        · rw [h3]; omega
        · have := hf i hi h2
          have := hg j hj h3
          rw [← h1, al_dg_p] at hh
          omega
    · rw [if_neg h1]
  · rw [if_neg hm] at h; exact absurd rfl h
theorem al_rp_3 {N H : Nat} {T : Nat → al_M} (hi : ∀ i j, i < N → j < N → T i = T j → i = j) (hN : ∀ i j, i < N → j < N → al_dg (T i) + al_dg (T j) ≤ H → ∃ m, m < N ∧ T m = al_p (T i) (T j))
    {f g h : Nat → Int} {a b : Nat} (hf : ∀ i, i < N → f i ≠ 0 → al_dg (T i) ≤ a) (hg : ∀ i, i < N → g i ≠ 0 → al_dg (T i) ≤ b) (hab : a + b ≤ H) (m : Nat) (hm : m < N) :
    al_rp N T (al_rp N T f g) h m = al_S N (fun i => al_S N (fun j => al_S N (fun k => if al_p (al_p (T i) (T j)) (T k) = T m then f i * g j * h k else 0))) := by
  have e1 : al_rp N T (al_rp N T f g) h m = al_S N (fun q => al_S N (fun k => al_S N (fun i => al_S N (fun j => if al_p (T q) (T k) = T m then (if al_p (T i) (T j) = T q then f i * g j else 0) * h k else 0)))) := by
    show (if m < N then _ else _) = _
    rw [if_pos hm]
    refine al_S_c (fun q hq => al_S_c (fun k _ => ?_))
    by_cases h1 : al_p (T q) (T k) = T m
    · rw [if_pos h1]
      show (if q < N then _ else _) * _ = _
      rw [if_pos hq, ← al_S_r]
      refine al_S_c (fun i _ => ?_)
      rw [← al_S_r]
      exact al_S_c (fun j _ => by rw [if_pos h1])
    · rw [if_neg h1]
      exact (al_S_z (fun i _ => al_S_z (fun j _ => by rw [if_neg h1]))).symm
  rw [e1]
  have e2 : al_S N (fun q => al_S N (fun k => al_S N (fun i => al_S N (fun j => if al_p (T q) (T k) = T m then (if al_p (T i) (T j) = T q then f i * g j else 0) * h k else 0)))) = al_S N (fun i => al_S N (fun j => al_S N (fun k => al_S N (fun q => if al_p (T q) (T k) = T m then (if al_p (T i) (T j) = T q then f i * g j else 0) * h k else 0)))) := by
    have s1 : al_S N (fun q => al_S N (fun k => al_S N (fun i => al_S N (fun j => if al_p (T q) (T k) = T m then (if al_p (T i) (T j) = T q then f i * g j else 0) * h k else 0)))) = al_S N (fun q => al_S N (fun i => al_S N (fun j => al_S N (fun k => if al_p (T q) (T k) = T m then (if al_p (T i) (T j) = T q then f i * g j else 0) * h k else 0)))) := by
      refine al_S_c (fun q _ => ?_)
      rw [al_S_w]
      exact al_S_c (fun i _ => al_S_w _ _ _)
    rw [s1, al_S_w]
    refine al_S_c (fun i _ => ?_)
    rw [al_S_w]
    exact al_S_c (fun j _ => al_S_w _ _ _)
  rw [e2]
  refine al_S_c (fun i hi' => al_S_c (fun j hj => al_S_c (fun k _ => ?_)))
  by_cases hz : f i * g j = 0
  · rw [al_S_z (fun q _ => ?_)]
    · rw [hz]; grind
    · rw [hz]; grind
  · have hz1 : f i ≠ 0 := fun h1 => hz (by rw [h1]; omega)
    have hz2 : g j ≠ 0 := fun h1 => hz (by rw [h1]; omega)
    obtain ⟨q0, h1, h2⟩ := hN i j hi' hj (by have := hf i hi' hz1; have := hg j hj hz2; omega)
    rw [al_S_2 h1 (fun q hq hne => ?_)]
    · rw [h2, if_pos rfl]
    · have h4 : ¬ al_p (T i) (T j) = T q := fun h3 => hne (hi q q0 hq h1 (by rw [h2, h3]))
      rw [if_neg h4, Int.zero_mul]; grind
theorem al_rp_a {N H : Nat} {T : Nat → al_M} (hi : ∀ i j, i < N → j < N → T i = T j → i = j) (hN : ∀ i j, i < N → j < N → al_dg (T i) + al_dg (T j) ≤ H → ∃ m, m < N ∧ T m = al_p (T i) (T j))
    {f g h : Nat → Int} {a b c : Nat} (hf : ∀ i, i < N → f i ≠ 0 → al_dg (T i) ≤ a) (hg : ∀ i, i < N → g i ≠ 0 → al_dg (T i) ≤ b) (hh : ∀ i, i < N → h i ≠ 0 → al_dg (T i) ≤ c) (hab : a + b + c ≤ H) (m : Nat) :
    al_rp N T (al_rp N T f g) h m = al_rp N T f (al_rp N T g h) m := by
  by_cases hm : m < N
  · rw [al_rp_c N T f, al_rp_3 hi hN hf hg (by omega) m hm, al_rp_3 hi hN hg hh (by omega) m hm]
    have s1 : al_S N (fun i => al_S N (fun j => al_S N (fun k => if al_p (al_p (T i) (T j)) (T k) = T m then g i * h j * f k else 0))) = al_S N (fun k => al_S N (fun i => al_S N (fun j => if al_p (al_p (T i) (T j)) (T k) = T m then g i * h j * f k else 0))) := by
      have s2 : al_S N (fun i => al_S N (fun j => al_S N (fun k => if al_p (al_p (T i) (T j)) (T k) = T m then g i * h j * f k else 0))) = al_S N (fun i => al_S N (fun k => al_S N (fun j => if al_p (al_p (T i) (T j)) (T k) = T m then g i * h j * f k else 0))) :=
        al_S_c (fun i _ => al_S_w _ _ _)
      rw [s2, al_S_w]
    rw [s1]
    refine al_S_c (fun i _ => al_S_c (fun j _ => al_S_c (fun k _ => ?_)))
    rw [show al_p (al_p (T j) (T k)) (T i) = al_p (al_p (T i) (T j)) (T k) by rw [al_p_c, al_p_a]]
    grind
  · unfold al_rp; rw [if_neg hm, if_neg hm]
def al_mp (p : Int) (N : Nat) (T : Nat → al_M) (f g : Nat → Int) (m : Nat) : Int := al_rp N T f g m % p
def al_1 (m : Nat) : Int := if m = 0 then 1 else 0
def al_pw (p : Int) (N : Nat) (T : Nat → al_M) (f : Nat → Int) : Nat → Nat → Int
  | 0 => al_1
  | e + 1 => al_mp p N T (al_pw p N T f e) f
theorem al_mp_c (p : Int) (N : Nat) (T : Nat → al_M) (f g : Nat → Int) (m : Nat) : al_mp p N T f g m = al_mp p N T g f m := by
  unfold al_mp; rw [al_rp_c]
theorem al_mp_d {p : Int} {N : Nat} {T : Nat → al_M} {f g : Nat → Int} {a b : Nat} (hf : ∀ i, i < N → f i ≠ 0 → al_dg (T i) ≤ a) (hg : ∀ i, i < N → g i ≠ 0 → al_dg (T i) ≤ b) (m : Nat)
    (h : al_mp p N T f g m ≠ 0) : al_dg (T m) ≤ a + b :=
  al_rp_d hf hg m (fun h1 => h (by unfold al_mp; rw [h1]; rfl))
theorem al_mp_a {p : Int} {N H : Nat} {T : Nat → al_M} (hi : ∀ i j, i < N → j < N → T i = T j → i = j) (hN : ∀ i j, i < N → j < N → al_dg (T i) + al_dg (T j) ≤ H → ∃ m, m < N ∧ T m = al_p (T i) (T j))
    {f g h : Nat → Int} {a b c : Nat} (hf : ∀ i, i < N → f i ≠ 0 → al_dg (T i) ≤ a) (hg : ∀ i, i < N → g i ≠ 0 → al_dg (T i) ≤ b) (hh : ∀ i, i < N → h i ≠ 0 → al_dg (T i) ≤ c) (hab : a + b + c ≤ H) (m : Nat) :
    al_mp p N T (al_mp p N T f g) h m = al_mp p N T f (al_mp p N T g h) m := by
  unfold al_mp
  refine al_e_i.mp ?_
  refine al_e_t (al_rp_e N T (fun i _ => al_e_q p _) (fun i _ => al_e_r p _) m) ?_
  rw [al_rp_a hi hN hf hg hh hab]
  exact al_e_s (al_rp_e N T (fun i _ => al_e_r p _) (fun i _ => al_e_q p _) m)
theorem al_mp_1 {p : Int} {N : Nat} {T : Nat → al_M} (hi : ∀ i j, i < N → j < N → T i = T j → i = j) (h0 : T 0 = (0, 0, 0, 0)) {f : Nat → Int} (m : Nat) (hm : m < N) : al_mp p N T f al_1 m = f m % p := by
  unfold al_mp al_rp
  rw [if_pos hm]
  congr 1
  have hz : ∀ x : al_M, al_p x (0, 0, 0, 0) = x := fun x => rfl
  rw [al_S_2 hm (fun i hi' hne => ?_)]
  · rw [al_S_2 (k := 0) (by omega) (fun j _ hne => ?_)]
    · rw [h0, hz, if_pos rfl]; show f m * 1 = f m; omega
    · show (if _ then f m * (if j = 0 then 1 else 0) else 0) = 0
      rw [if_neg hne, Int.mul_zero]; grind
  · refine al_S_z (fun j hj => ?_)
    show (if _ then f i * (if j = 0 then 1 else 0) else 0) = 0
    by_cases hj0 : j = 0
    · subst hj0
      rw [h0, hz, if_neg (fun h => hne (hi i m hi' hm h))]
    · rw [if_neg hj0, Int.mul_zero]; grind
theorem al_mp_g (p : Int) {N : Nat} (T : Nat → al_M) (f g : Nat → Int) {m : Nat} (hm : N ≤ m) : al_mp p N T f g m = 0 := by
  unfold al_mp al_rp
  rw [if_neg (by omega)]; rfl
theorem al_pw_d {p : Int} {N : Nat} {T : Nat → al_M} (h0 : T 0 = (0, 0, 0, 0)) {f : Nat → Int} {a : Nat} (hf : ∀ i, i < N → f i ≠ 0 → al_dg (T i) ≤ a) (e m : Nat) (h : al_pw p N T f e m ≠ 0) : al_dg (T m) ≤ e * a := by
  induction e generalizing m with
  | zero =>
    have : m = 0 := Classical.byContradiction (fun hh => h (if_neg hh))
    rw [this, h0]
    exact Nat.zero_le _
  | succ e ih =>
    have := al_mp_d (fun i _ hi => ih i hi) hf m h
    rw [Nat.add_mul, Nat.one_mul]
    exact this
theorem al_pw_r {p : Int} (hp : 1 < p) {N : Nat} (T : Nat → al_M) (f : Nat → Int) (e m : Nat) : 0 ≤ al_pw p N T f e m ∧ al_pw p N T f e m < p := by
  cases e with
  | zero => show 0 ≤ (if m = 0 then (1 : Int) else 0) ∧ (if m = 0 then (1 : Int) else 0) < p; split <;> omega
  | succ e => exact ⟨Int.emod_nonneg _ (by omega), Int.emod_lt_of_pos _ (by omega)⟩
theorem al_pw_g {p : Int} {N : Nat} (hN : 0 < N) (T : Nat → al_M) (f : Nat → Int) (e : Nat) {m : Nat} (hm : N ≤ m) : al_pw p N T f e m = 0 := by
  cases e with
  | zero => exact if_neg (by omega)
  | succ e => exact al_mp_g p T _ _ hm
theorem al_pw_a {p : Int} (hp : 1 < p) {N H : Nat} {T : Nat → al_M} (hi : ∀ i j, i < N → j < N → T i = T j → i = j) (hN : ∀ i j, i < N → j < N → al_dg (T i) + al_dg (T j) ≤ H → ∃ m, m < N ∧ T m = al_p (T i) (T j))
    (h0 : T 0 = (0, 0, 0, 0)) (hN0 : 0 < N) {f : Nat → Int} {a : Nat} (hf : ∀ i, i < N → f i ≠ 0 → al_dg (T i) ≤ a) (x y : Nat) (hxy : (x + y) * a ≤ H) (m : Nat) :
    al_mp p N T (al_pw p N T f x) (al_pw p N T f y) m = al_pw p N T f (x + y) m := by
  induction y generalizing m with
  | zero =>
    by_cases hm : m < N
    · show al_mp p N T (al_pw p N T f x) al_1 m = _
      have := al_pw_r (p := p) hp (N := N) T f x m
      rw [al_mp_1 hi h0 m hm, Int.emod_eq_of_lt this.1 this.2]
      rfl
    · rw [al_mp_g _ _ _ _ (by omega), al_pw_g hN0 _ _ _ (by omega)]
  | succ y ih =>
    show al_mp p N T (al_pw p N T f x) (al_mp p N T (al_pw p N T f y) f) m = al_mp p N T (al_pw p N T f (x + y)) f m
    have hle : x * a + y * a + a ≤ H := by
      rw [show x + (y + 1) = x + y + 1 by omega, Nat.add_mul, Nat.add_mul, Nat.one_mul] at hxy
      exact hxy
    rw [← al_mp_a hi hN (fun i _ hi => al_pw_d h0 hf x i hi) (fun i _ hi => al_pw_d h0 hf y i hi) hf hle]
    have hfe : al_mp p N T (al_pw p N T f x) (al_pw p N T f y) = al_pw p N T f (x + y) := funext (fun m => ih (by
      rw [Nat.add_mul]; omega) m)
    rw [hfe]
