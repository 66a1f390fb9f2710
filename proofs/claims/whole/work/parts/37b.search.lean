theorem ev_n {n o : Nat} (hok : tb_ok n o) (f : Nat → Int) {x y : Nat → Int} (h : ∀ u, u < n → x u = y u) : ev n o f x = ev n o f y := by
  unfold ev
  refine al_S_c (fun m hm => ?_)
  have hv := (tb_T_b hok hm).2
  unfold tb_v at hv
  have h1 := hok.1
  congr 1
  unfold ev_m
  have a0 : x 0 = y 0 := h 0 (by omega)
  have a1 : x 1 ^ (tb_T n o m).2.1 = y 1 ^ (tb_T n o m).2.1 := by
    by_cases hn : n < 2
    · rw [hv.1 hn, Int.pow_zero, Int.pow_zero]
    · rw [h 1 (by omega)]
  have a2 : x 2 ^ (tb_T n o m).2.2.1 = y 2 ^ (tb_T n o m).2.2.1 := by
    by_cases hn : n < 3
    · rw [hv.2.1 hn, Int.pow_zero, Int.pow_zero]
    · rw [h 2 (by omega)]
  have a3 : x 3 ^ (tb_T n o m).2.2.2 = y 3 ^ (tb_T n o m).2.2.2 := by
    by_cases hn : n < 4
    · rw [hv.2.2 hn, Int.pow_zero, Int.pow_zero]
    · rw [h 3 (by omega)]
  rw [a0, a1, a2, a3]
theorem zc_s {p v B k u : Nat} (hk : k < p) (hu : u ≤ v) : zp_c p (v + 1) (B * p + k) u = if u = v then (k : Int) else zp_c p v B u := by
  unfold zp_c
  by_cases huv : u = v
  · rw [if_pos huv, huv, show v + 1 - 1 - v = 0 by omega, Nat.pow_zero, Nat.div_one, Nat.add_comm, Nat.add_mul_mod_self_right, Nat.mod_eq_of_lt hk]
  · rw [if_neg huv, show v + 1 - 1 - u = (v - 1 - u) + 1 by omega, Nat.pow_succ, Nat.mul_comm (p ^ (v - 1 - u)) p, ← Nat.div_div_eq_div_mul, Nat.add_comm, Nat.add_mul_div_right _ _ (by omega), Nat.div_eq_of_lt hk, Nat.zero_add]
def sg_P (p : Int) (n o : Nat) (c : Nat → Int) (v : Nat) (S f : Nat → Int) : Prop :=
  pl p n S ∧ (∀ m, m < tb_N n → S m ≠ 0 → ∀ u, u < v → tb_g (tb_T n o m) u = 0) ∧ ∀ x, al_e p (ev n o S x) (ev n o f (fun u => if u < v then c u else x u))
theorem sg_s {p : Int} (hp : 2 ≤ p) {n o v : Nat} (hok : tb_ok n o) (hv : v < n) {c c' : Nat → Int} {S S' f : Nat → Int} {k : Int} (h : sg_P p n o c v S f) (hS : ∀ m, m < 126 → S' m = sp_sub p n o S v k m) (hc : ∀ u, u ≤ v → c' u = if u = v then k else c u) : sg_P p n o c' (v + 1) S' f := by
  have hn4 := hok.2.1
  have hN := tb_N_b n
  refine ⟨fun m hm => ⟨fun hmN => ?_, fun hmN => ?_⟩, fun m hm hne u hu => ?_, fun x => ?_⟩
  · rw [hS m hm]
    unfold sp_sub
    rw [if_pos hmN]
    exact ⟨Int.emod_nonneg _ (by omega), Int.emod_lt_of_pos _ (by omega)⟩
  · rw [hS m hm]
    unfold sp_sub
    rw [if_neg (by omega)]
  · rw [hS m (by omega)] at hne
    obtain ⟨i, h1, h2, h3⟩ := sp_sub_0 hne
    rw [← h3, tb_s_g _ _ _ _ (by omega) (by omega)]
    by_cases huv : u = v
    · rw [if_pos huv]
    · rw [if_neg huv]; exact h.2.1 i h1 h2 u (by omega)
  · have e1 : ev n o S' x = ev n o (sp_sub p n o S v k) x := by
      unfold ev
      exact al_S_c (fun m hm => by rw [hS m (by omega)])
    rw [e1]
    refine al_e_t (ev_sub hok S x (by omega) k) (al_e_t (h.2.2 _) (al_e_of (ev_n hok f (fun u hu => ?_))))
    show (if u < v then c u else ev_u x v k u) = if u < v + 1 then c' u else x u
    unfold ev_u
    by_cases h1 : u < v
    · rw [if_pos h1, if_pos (by omega), hc u (by omega), if_neg (by omega)]
    · by_cases h2 : u = v
      · rw [if_neg h1, if_pos h2, if_pos (by omega), hc u (by omega), if_pos h2]
      · rw [if_neg h1, if_neg h2, if_neg (by omega)]
theorem sg_z {p : Int} (hp : 2 ≤ p) {n o : Nat} (hok : tb_ok n o) {c : Nat → Int} {S f l x : Nat → Int} (h : sg_P p n o c (n - 1) S f) (hl : ∀ e, e ≤ tb_h n → l e = S (tb_I n o (tb_s (0, 0, 0, 0) (n - 1) e))) (hx : ∀ u, u < n - 1 → x u = c u) :
    (ev_h p l (x (n - 1)) (sp_top (fun e => S (tb_I n o (tb_s (0, 0, 0, 0) (n - 1) e))) (tb_h n + 1) + 1).toNat 0 = 0 ↔ ev n o f x % p = 0) := by
  have hn1 := hok.1
  have hn4 := hok.2.1
  have htr := sp_top_r (fun e => S (tb_I n o (tb_s (0, 0, 0, 0) (n - 1) e))) (tb_h n + 1)
  generalize hk : (sp_top (fun e => S (tb_I n o (tb_s (0, 0, 0, 0) (n - 1) e))) (tb_h n + 1) + 1).toNat = k at *
  have hr := ev_h_r (show 0 < p by omega) l (x (n - 1)) k 0 (by omega) (by omega)
  have hline := ev_line (n := n) (o := o) (v := n - 1) hok (by omega) (f := S) (x := x) (fun m hm hne => by
    have h1 := h.2.1 m hm hne
    have h2 := (tb_T_b hok hm).2
    refine ⟨tb_g (tb_T n o m) (n - 1), ?_⟩
    generalize tb_T n o m = y at h1 h2
    obtain ⟨y0, y1, y2, y3⟩ := y
    unfold tb_v at h2
    simp only [] at h2
    obtain rfl | rfl | rfl | rfl : n = 1 ∨ n = 2 ∨ n = 3 ∨ n = 4 := by omega
    · simp only [tb_g, tb_s]
      exact al_M_x rfl (by simp only []; omega) (by simp only []; omega) (by simp only []; omega)
    · have b0 : y0 = 0 := h1 0 (by omega)
      simp only [tb_g, tb_s]
      exact al_M_x b0 rfl (by simp only []; omega) (by simp only []; omega)
    · have b0 : y0 = 0 := h1 0 (by omega)
      have b1 : y1 = 0 := h1 1 (by omega)
      simp only [tb_g, tb_s]
      exact al_M_x b0 b1 rfl (by simp only []; omega)
    · have b0 : y0 = 0 := h1 0 (by omega)
      have b1 : y1 = 0 := h1 1 (by omega)
      have b2 : y2 = 0 := h1 2 (by omega)
      simp only [tb_g, tb_s]
      exact al_M_x b0 b1 b2 rfl)
  have hsum : al_S (tb_h n + 1) (fun e => S (tb_I n o (tb_s (0, 0, 0, 0) (n - 1) e)) * x (n - 1) ^ e) = al_S k (fun e => l e * x (n - 1) ^ e) := by
    rw [al_S_x (n := k) (by omega) (fun e h1 h2 => ?_)]
    · exact al_S_c (fun e he => by rw [hl e (by omega)])
    · have := sp_top_z (f := fun e => S (tb_I n o (tb_s (0, 0, 0, 0) (n - 1) e))) (n := tb_h n + 1) h2 (by omega)
      rw [this, Int.zero_mul]
  have hev := ev_h_e p l (x (n - 1)) k 0
  rw [Int.zero_mul, Int.zero_add, ← hsum, ← hline] at hev
  have hf := h.2.2 x
  rw [ev_n hok f (y := x) (fun u hu => by
    by_cases h1 : u < n - 1
    · rw [if_pos h1, hx u h1]
    · rw [if_neg h1])] at hf
  have hall := al_e_t hev hf
  constructor
  · intro h0
    rw [h0] at hall
    exact (al_e_i.mp hall).symm.trans (Int.zero_emod p)
  · intro h0
    refine al_e_z (al_e_t hall ?_) hr.1 hr.2
    exact al_e_i.mpr (by rw [h0, Int.zero_emod])
