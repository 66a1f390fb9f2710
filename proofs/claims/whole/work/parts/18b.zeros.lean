def ev_m (x : Nat → Int) (a : al_M) : Int := x 0 ^ a.1 * x 1 ^ a.2.1 * x 2 ^ a.2.2.1 * x 3 ^ a.2.2.2
def ev (n o : Nat) (f x : Nat → Int) : Int := al_S (tb_N n) (fun m => f m * ev_m x (tb_T n o m))
def sp_sub (p : Int) (n o : Nat) (f : Nat → Int) (v : Nat) (c : Int) (j : Nat) : Int :=
  if j < tb_N n then al_S (tb_N n) (fun m => if tb_s (tb_T n o m) v 0 = tb_T n o j then f m * (c ^ tb_g (tb_T n o m) v % p) else 0) % p else 0
def ev_u (x : Nat → Int) (v : Nat) (c : Int) (k : Nat) : Int := if k = v then c else x k
theorem ev_m_s (x : Nat → Int) {v : Nat} (hv : v < 4) (c : Int) (a : al_M) : c ^ tb_g a v * ev_m x (tb_s a v 0) = ev_m (ev_u x v c) a := by
  match v, hv with
  | 0, _ => simp only [tb_g, tb_s, ev_m, ev_u, if_true]; simp (decide := true) only [if_false, Int.pow_zero]; grind
  | 1, _ => simp only [tb_g, tb_s, ev_m, ev_u, if_true]; simp (decide := true) only [if_false, Int.pow_zero]; grind
  | 2, _ => simp only [tb_g, tb_s, ev_m, ev_u, if_true]; simp (decide := true) only [if_false, Int.pow_zero]; grind
  | 3, _ => simp only [tb_g, tb_s, ev_m, ev_u, if_true]; simp (decide := true) only [if_false, Int.pow_zero]; grind
theorem tb_s_b {n v : Nat} {a : al_M} (h : tb_v n a) : tb_v n (tb_s a v 0) ∧ al_dg (tb_s a v 0) ≤ al_dg a := by
  obtain ⟨a0, a1, a2, a3⟩ := a
  unfold tb_v at *
  simp only [] at h
  rcases v with _ | _ | _ | v <;> refine ⟨⟨fun q => ?_, fun q => ?_, fun q => ?_⟩, ?_⟩ <;> simp only [tb_s, al_dg] <;> omega
theorem tb_s_e {n v e : Nat} (hv : v < n) (hn : n ≤ 4) : tb_v n (tb_s (0, 0, 0, 0) v e) ∧ al_dg (tb_s (0, 0, 0, 0) v e) = e := by
  unfold tb_v
  rcases v with _ | _ | _ | v <;> refine ⟨⟨fun q => ?_, fun q => ?_, fun q => ?_⟩, ?_⟩ <;> simp only [tb_s, al_dg] <;> omega
theorem ev_m_e {v : Nat} (hv : v < 4) (x : Nat → Int) (e : Nat) : ev_m x (tb_s (0, 0, 0, 0) v e) = x v ^ e := by
  obtain rfl | rfl | rfl | rfl : v = 0 ∨ v = 1 ∨ v = 2 ∨ v = 3 := by omega
  all_goals
    simp only [tb_s, ev_m, Int.pow_zero]; omega
theorem ev_sub {p : Int} {n o : Nat} (h : tb_ok n o) (f x : Nat → Int) {v : Nat} (hv : v < 4) (c : Int) : al_e p (ev n o (sp_sub p n o f v c) x) (ev n o f (ev_u x v c)) := by
  unfold ev
  have e1 : al_e p (al_S (tb_N n) (fun j => sp_sub p n o f v c j * ev_m x (tb_T n o j))) (al_S (tb_N n) (fun j => al_S (tb_N n) (fun m => if tb_s (tb_T n o m) v 0 = tb_T n o j then f m * c ^ tb_g (tb_T n o m) v * ev_m x (tb_T n o j) else 0))) := by
    refine al_e_S (fun j hj => ?_)
    unfold sp_sub
    rw [if_pos hj]
    refine al_e_t (al_e_m (al_e_q p _) (al_e_r p _)) ?_
    rw [← al_S_r]
    refine al_e_S (fun m _ => ?_)
    split
    · exact al_e_m (al_e_m (al_e_r p _) (al_e_q p _)) (al_e_r p _)
    · exact al_e_of (by omega)
  refine al_e_t e1 (al_e_of ?_)
  rw [al_S_w]
  refine al_S_c (fun m hm => ?_)
  have hb := tb_T_b h hm
  have hs := tb_s_b (v := v) hb.2
  obtain ⟨h1, h2⟩ := tb_T_I h hs.1 (Nat.le_trans hs.2 hb.1)
  rw [al_S_2 h1 (fun j hj hne => ?_)]
  · rw [h2, if_pos rfl, ← ev_m_s x hv]; grind
  · exact if_neg (fun h3 => hne (by rw [h3, tb_I_T h hj]))
theorem sp_sub_0 {p : Int} {n o v : Nat} {f : Nat → Int} {c : Int} {j : Nat} (h : sp_sub p n o f v c j ≠ 0) : ∃ m, m < tb_N n ∧ f m ≠ 0 ∧ tb_s (tb_T n o m) v 0 = tb_T n o j := by
  refine Classical.byContradiction (fun hh => h ?_)
  unfold sp_sub
  split
  · rw [al_S_z (fun m hm => ?_)]
    · rfl
    · split
      · have : f m = 0 := Classical.byContradiction (fun h1 => hh ⟨m, hm, h1, by assumption⟩)
        rw [this]; omega
      · rfl
  · rfl
def ev_h (p : Int) (l : Nat → Int) (c : Int) : Nat → Int → Int
  | 0, y => y
  | k + 1, y => ev_h p l c k ((y * c + l k) % p)
theorem ev_h_e (p : Int) (l : Nat → Int) (c : Int) (k : Nat) (y : Int) : al_e p (ev_h p l c k y) (y * c ^ k + al_S k (fun e => l e * c ^ e)) := by
  induction k generalizing y with
  | zero => exact al_e_of (by rw [Int.pow_zero, al_S_0]; show y = _; omega)
  | succ k ih =>
    refine al_e_t (ih _) (al_e_t (al_e_a (al_e_m (al_e_q p _) (al_e_r p _)) (al_e_r p _)) (al_e_of ?_))
    rw [al_S_s, Int.pow_succ]; grind
theorem tb_x_m (v e : Nat) (hv : v < 4) : tb_g (tb_s (0, 0, 0, 0) v e) v = e := by
  match v, hv with
  | 0, _ => rfl
  | 1, _ => rfl
  | 2, _ => rfl
  | 3, _ => rfl
theorem ev_line {n o v : Nat} (h : tb_ok n o) (hv : v < n) {f x : Nat → Int} (hf : ∀ m, m < tb_N n → f m ≠ 0 → ∃ e, tb_T n o m = tb_s (0, 0, 0, 0) v e) :
    ev n o f x = al_S (tb_h n + 1) (fun e => f (tb_I n o (tb_s (0, 0, 0, 0) v e)) * x v ^ e) := by
  have hn := h.2.1
  have hb : ∀ e, e < tb_h n + 1 → tb_I n o (tb_s (0, 0, 0, 0) v e) < tb_N n ∧ tb_T n o (tb_I n o (tb_s (0, 0, 0, 0) v e)) = tb_s (0, 0, 0, 0) v e := by
    intro e he
    have h1 := tb_s_e (e := e) hv hn
    exact tb_T_I h h1.1 (by omega)
  have hm : ∀ e, ev_m x (tb_s (0, 0, 0, 0) v e) = x v ^ e := by
    exact fun e => ev_m_e (by omega) x e
  unfold ev
  have e1 : al_S (tb_N n) (fun m => f m * ev_m x (tb_T n o m)) = al_S (tb_N n) (fun m => al_S (tb_h n + 1) (fun e => if m = tb_I n o (tb_s (0, 0, 0, 0) v e) then f m * x v ^ e else 0)) := by
    refine al_S_c (fun m hmN => ?_)
    by_cases hz : f m = 0
    · rw [hz, Int.zero_mul]
      refine (al_S_z (fun e _ => ?_)).symm
      split
      · omega
      · rfl
    · obtain ⟨e0, h0⟩ := hf m hmN hz
      have hd := (tb_T_b h hmN).1
      have hd0 : al_dg (tb_s (0, 0, 0, 0) v e0) = e0 := by
        exact (tb_s_e hv hn).2
      rw [h0, hd0] at hd
      rw [al_S_2 (k := e0) (by omega) (fun e he hne => ?_)]
      · rw [if_pos (by rw [← h0, tb_I_T h hmN]), h0, hm]
      · refine if_neg (fun h3 => hne ?_)
        have h4 := (hb e he).2
        rw [← h3, h0] at h4
        have h5 := congrArg (fun a => tb_g a v) h4
        simp only [tb_x_m v _ (show v < 4 by omega)] at h5
        exact h5.symm
  rw [e1, al_S_w]
  refine al_S_c (fun e he => ?_)
  rw [al_S_2 (hb e he).1 (fun m _ hne => if_neg hne), if_pos rfl]
