def pp_S (N : Nat) (T : Nat → al_M) (f g : Nat → Int) (i j m : Nat) : Int :=
  al_S i (fun i' => al_S N (fun j' => if al_p (T i') (T j') = T m then f i' * g j' else 0)) + al_S j (fun j' => if al_p (T i) (T j') = T m then f i * g j' else 0)
theorem pp_1 (N : Nat) (T : Nat → al_M) (f g : Nat → Int) (i m : Nat) : pp_S N T f g (i + 1) 0 m = pp_S N T f g i N m := by
  unfold pp_S; rw [al_S_s, al_S_0]; omega
theorem pp_3 (N : Nat) (T : Nat → al_M) (f g : Nat → Int) (i j m : Nat) : pp_S N T f g i (j + 1) m = pp_S N T f g i j m + if al_p (T i) (T j) = T m then f i * g j else 0 := by
  unfold pp_S; rw [al_S_s]; omega
theorem pp_2 {N : Nat} {T : Nat → al_M} {f g : Nat → Int} {i j : Nat} (h : f i = 0 ∨ g j = 0) (m : Nat) : pp_S N T f g i (j + 1) m = pp_S N T f g i j m := by
  rw [pp_3]
  have : f i * g j = 0 := by rcases h with h | h <;> rw [h] <;> omega
  rw [this]; split <;> omega
theorem pp_4 {N : Nat} {T : Nat → al_M} {f g : Nat → Int} {i j : Nat} (hj : j ≤ N) (h : ∀ j', j ≤ j' → j' < N → f i = 0 ∨ g j' = 0) (m : Nat) : pp_S N T f g (i + 1) 0 m = pp_S N T f g i j m := by
  rw [pp_1]
  unfold pp_S
  rw [al_S_x hj (fun j' h1 h2 => ?_)]
  have : f i * g j' = 0 := by rcases h j' h1 h2 with h | h <;> rw [h] <;> omega
  rw [this]; split <;> rfl
theorem pp_5 {N : Nat} (T : Nat → al_M) (f g : Nat → Int) {m : Nat} (hm : m < N) : pp_S N T f g N 0 m = al_rp N T f g m := by
  unfold pp_S al_rp
  rw [if_pos hm, al_S_0]; omega
def up_S (T : Nat → al_M) (x : al_M) (f : Nat → Int) (i j : Nat) : Int := al_S i (fun m => if al_p (T m) x = T j then f m else 0)
theorem up_1 (T : Nat → al_M) (x : al_M) (f : Nat → Int) (i j : Nat) : up_S T x f (i + 1) j = up_S T x f i j + if al_p (T i) x = T j then f i else 0 := rfl
theorem up_2 {N : Nat} {T : Nat → al_M} (hi : ∀ i j, i < N → j < N → T i = T j → i = j) (x : al_M) (f : Nat → Int) {i j : Nat} (h1 : i < N) (h : al_p (T i) x = T j) : up_S T x f i j = 0 := by
  refine al_S_z (fun m hm => if_neg (fun h3 => ?_))
  have := hi m i (by omega) h1 (al_p_r (h3.trans h.symm))
  omega
def de_S (p : Int) (T : Nat → al_M) (v : Nat) (f : Nat → Int) (i j : Nat) : Int := al_S i (fun m => if T m = al_p (T j) (tb_x v) then f m * tb_g (T m) v % p else 0)
theorem de_1 (p : Int) (T : Nat → al_M) (v : Nat) (f : Nat → Int) (i j : Nat) : de_S p T v f (i + 1) j = de_S p T v f i j + if T i = al_p (T j) (tb_x v) then f i * tb_g (T i) v % p else 0 := rfl
theorem de_2 {p : Int} {N : Nat} {T : Nat → al_M} (hi : ∀ i j, i < N → j < N → T i = T j → i = j) (v : Nat) (f : Nat → Int) {i j : Nat} (h1 : i < N) (h : T i = al_p (T j) (tb_x v)) : de_S p T v f i j = 0 := by
  refine al_S_z (fun m hm => if_neg (fun h3 => ?_))
  have := hi m i (by omega) h1 (h3.trans h.symm)
  omega
def su_S (p : Int) (T : Nat → al_M) (v : Nat) (c : Int) (f : Nat → Int) (i j : Nat) : Int := al_S i (fun m => if tb_s (T m) v 0 = T j then f m * (c ^ tb_g (T m) v % p) else 0)
theorem su_1 (p : Int) (T : Nat → al_M) (v : Nat) (c : Int) (f : Nat → Int) (i j : Nat) : su_S p T v c f (i + 1) j = su_S p T v c f i j + if tb_s (T i) v 0 = T j then f i * (c ^ tb_g (T i) v % p) else 0 := rfl
def wi_S (T W : Nat → al_M) (x : al_M) (f : Nat → Int) (i j : Nat) : Int := al_S i (fun m => if al_p (T m) x = W j then f m else 0)
theorem wi_1 (T W : Nat → al_M) (x : al_M) (f : Nat → Int) (i j : Nat) : wi_S T W x f (i + 1) j = wi_S T W x f i j + if al_p (T i) x = W j then f i else 0 := rfl
theorem wi_2 {N : Nat} {T W : Nat → al_M} (hi : ∀ i j, i < N → j < N → T i = T j → i = j) (x : al_M) (f : Nat → Int) {i j : Nat} (h1 : i < N) (h : al_p (T i) x = W j) : wi_S T W x f i j = 0 := by
  refine al_S_z (fun m hm => if_neg (fun h3 => ?_))
  have := hi m i (by omega) h1 (al_p_r (h3.trans h.symm))
  omega
theorem tb_g_s (x : al_M) (v : Nat) (hv : v < 4) (h : tb_g x v ≠ 0) : al_p (tb_s x v (tb_g x v - 1)) (tb_x v) = x := by
  obtain ⟨a, b, c, d⟩ := x
  obtain rfl | rfl | rfl | rfl : v = 0 ∨ v = 1 ∨ v = 2 ∨ v = 3 := by omega
  all_goals
    simp only [tb_g] at h
    simp only [tb_g, tb_s, tb_x, al_p]
    refine al_M_x ?_ ?_ ?_ ?_ <;> simp only [] <;> omega
theorem tb_g_x (x : al_M) (v : Nat) (hv : v < 4) : tb_g (al_p x (tb_x v)) v = tb_g x v + 1 := by
  obtain rfl | rfl | rfl | rfl : v = 0 ∨ v = 1 ∨ v = 2 ∨ v = 3 := by omega
  all_goals rfl
theorem tb_c_s (n : Nat) (x : al_M) (v : Nat) (hv : v < 4) : tb_c n (tb_s x v 0) + tb_g x v * tb_w n v = tb_c n x := by
  unfold tb_c
  obtain rfl | rfl | rfl | rfl : v = 0 ∨ v = 1 ∨ v = 2 ∨ v = 3 := by omega
  all_goals
    simp only [tb_g, tb_s]; omega
