theorem al_e_w {p a b : Int} (h : al_e p a b) (k : Nat) : al_e p (a ^ k) (b ^ k) := by
  induction k with
  | zero => rw [Int.pow_zero, Int.pow_zero]; exact al_e_r _ _
  | succ k ih => rw [Int.pow_succ, Int.pow_succ]; exact al_e_m ih h
theorem al_sq (x : Int) (q : Nat) : x ^ (2 * q) = (x * x) ^ q := by
  induction q with
  | zero => rw [Nat.mul_zero, Int.pow_zero, Int.pow_zero]
  | succ q ih => rw [show 2 * (q + 1) = 2 * q + 1 + 1 by omega, Int.pow_succ, Int.pow_succ, ih, Int.pow_succ]; grind
theorem al_pow_1 {p a s b : Int} {k e : Nat} (hk : k % 2 = 1) (h : al_e p (a * s ^ k) (b ^ e)) : al_e p (a * s % p * (s * s % p) ^ (k / 2)) (b ^ e) := by
  refine al_e_t (al_e_m (al_e_q p _) (al_e_w (al_e_q p _) _)) (al_e_t (al_e_of ?_) h)
  rw [← al_sq]
  have : s ^ k = s ^ (2 * (k / 2)) * s := by rw [← Int.pow_succ]; congr 1; omega
  rw [this]; grind
theorem al_pow_0 {p a s b : Int} {k e : Nat} (hk : k % 2 = 0) (h : al_e p (a * s ^ k) (b ^ e)) : al_e p (a * (s * s % p) ^ (k / 2)) (b ^ e) := by
  refine al_e_t (al_e_m (al_e_r p _) (al_e_w (al_e_q p _) _)) (al_e_t (al_e_of ?_) h)
  rw [← al_sq]
  congr 2; omega
def tb_I (n o : Nat) (x : al_M) : Nat := (tb n o).findIdx (fun y => decide (y = x))
theorem tb_I_T {n o : Nat} (h : tb_ok n o) {m : Nat} (hm : m < tb_N n) : tb_I n o (tb_T n o m) = m := by
  have hl := tb_len h
  unfold tb_I
  have he : tb_T n o m = (tb n o)[m]'(by omega) := by unfold tb_T; rw [tb_gd (by omega)]
  refine (List.findIdx_eq (by omega)).mpr ⟨by simp [he], fun j hj => ?_⟩
  have h1 : ¬ (tb n o)[j]'(by omega) = tb_T n o m := by
    intro h2
    have h3 : tb_T n o j = tb_T n o m := by rw [← h2]; unfold tb_T; rw [tb_gd (by omega)]
    have := tb_T_i h (show j < tb_N n by omega) hm h3
    omega
  simp [h1]
theorem tb_T_I {n o : Nat} (h : tb_ok n o) {x : al_M} (hv : tb_v n x) (hd : al_dg x ≤ tb_h n) : tb_I n o x < tb_N n ∧ tb_T n o (tb_I n o x) = x := by
  obtain ⟨m, hm, rfl⟩ := tb_T_c h hv hd
  rw [tb_I_T h hm]
  exact ⟨hm, rfl⟩
def tb_w (n v : Nat) : Nat := if v < n then (tb_h n + 1) ^ v else 0
def tb_c (n : Nat) (x : al_M) : Nat := x.1 * tb_w n 0 + x.2.1 * tb_w n 1 + x.2.2.1 * tb_w n 2 + x.2.2.2 * tb_w n 3
theorem tb_c_p (n : Nat) (x y : al_M) : tb_c n (al_p x y) = tb_c n x + tb_c n y := by
  unfold tb_c al_p; simp only []; grind
theorem tb_c_i {n : Nat} (h1 : 1 ≤ n) (h4 : n ≤ 4) {x y : al_M} (hx : tb_v n x) (hy : tb_v n y) (dx : al_dg x ≤ tb_h n) (dy : al_dg y ≤ tb_h n) (h : tb_c n x = tb_c n y) : x = y := by
  obtain ⟨x0, x1, x2, x3⟩ := x
  obtain ⟨y0, y1, y2, y3⟩ := y
  unfold tb_v at hx hy
  unfold al_dg at dx dy
  unfold tb_c tb_w at h
  obtain rfl | rfl | rfl | rfl : n = 1 ∨ n = 2 ∨ n = 3 ∨ n = 4 := by omega
  all_goals
    simp only [tb_h] at *
    simp (decide := true) only [if_true, if_false] at h
    have e0 : x0 = y0 := by omega
    have e1 : x1 = y1 := by omega
    have e2 : x2 = y2 := by omega
    have e3 : x3 = y3 := by omega
    rw [e0, e1, e2, e3]
theorem tb_c_b {n : Nat} (h1 : 1 ≤ n) (h4 : n ≤ 4) {x : al_M} (hx : tb_v n x) (dx : al_dg x ≤ tb_h n) : tb_c n x < 1296 := by
  obtain ⟨x0, x1, x2, x3⟩ := x
  unfold tb_v at hx
  unfold al_dg at dx
  unfold tb_c tb_w
  obtain rfl | rfl | rfl | rfl : n = 1 ∨ n = 2 ∨ n = 3 ∨ n = 4 := by omega
  all_goals
    simp only [tb_h] at *
    simp (decide := true) only [if_true, if_false]
    omega
def sp_top (f : Nat → Int) : Nat → Int
  | 0 => -1
  | n + 1 => if f n = 0 then sp_top f n else n
def sp_deg (n o : Nat) (f : Nat → Int) : Int := if sp_top f (tb_N n) = -1 then -1 else (al_dg (tb_T n o (sp_top f (tb_N n)).toNat) : Int)
def sp_fit (n o : Nat) (f g : Nat → Int) : Prop := sp_deg n o f = -1 ∨ sp_deg n o g = -1 ∨ sp_deg n o f + sp_deg n o g ≤ tb_h n
theorem sp_top_r (f : Nat → Int) (n : Nat) : -1 ≤ sp_top f n ∧ sp_top f n < n := by
  induction n with
  | zero => show -1 ≤ (-1 : Int) ∧ (-1 : Int) < (0 : Nat); omega
  | succ n ih => show -1 ≤ (if f n = 0 then sp_top f n else (n : Int)) ∧ (if f n = 0 then sp_top f n else (n : Int)) < ((n + 1 : Nat) : Int); split <;> omega
theorem sp_top_z {f : Nat → Int} {n i : Nat} (hi : i < n) (h : sp_top f n < i) : f i = 0 := by
  induction n with
  | zero => omega
  | succ n ih =>
    have h1 : (if f n = 0 then sp_top f n else (n : Int)) < i := h
    by_cases h2 : f n = 0
    · rw [if_pos h2] at h1
      by_cases h3 : i = n
      · rw [h3]; exact h2
      · exact ih (by omega) h1
    · rw [if_neg h2] at h1; omega
theorem sp_top_n {f : Nat → Int} {n t : Nat} (h : sp_top f n = t) : t < n ∧ f t ≠ 0 := by
  induction n with
  | zero => have h1 : (-1 : Int) = t := h; omega
  | succ n ih =>
    have h1 : (if f n = 0 then sp_top f n else (n : Int)) = t := h
    by_cases h2 : f n = 0
    · rw [if_pos h2] at h1
      have := ih h1
      exact ⟨by omega, this.2⟩
    · rw [if_neg h2] at h1
      have h3 : n = t := by omega
      subst h3
      exact ⟨by omega, h2⟩
theorem sp_top_m {f : Nat → Int} {n : Nat} : sp_top f n = -1 ↔ ∀ i, i < n → f i = 0 := by
  constructor
  · intro h i hi
    exact sp_top_z hi (by omega)
  · intro h
    refine Classical.byContradiction (fun hh => ?_)
    have h1 := sp_top_r f n
    obtain ⟨t, ht⟩ : ∃ t : Nat, sp_top f n = t := ⟨(sp_top f n).toNat, by omega⟩
    have := sp_top_n ht
    exact this.2 (h t this.1)
theorem sp_deg_b {n o : Nat} (h : tb_ok n o) {f : Nat → Int} {i : Nat} (hi : i < tb_N n) (hf : f i ≠ 0) : (al_dg (tb_T n o i) : Int) ≤ sp_deg n o f := by
  have h1 := sp_top_r f (tb_N n)
  have h2 : sp_top f (tb_N n) ≠ -1 := fun h3 => hf (sp_top_m.mp h3 i hi)
  have h3 : ¬ sp_top f (tb_N n) < i := fun h3 => hf (sp_top_z hi h3)
  unfold sp_deg
  rw [if_neg h2]
  generalize hs : (sp_top f (tb_N n)).toNat = t
  have h5 : i ≤ t := by omega
  have h4 : al_dg (tb_T n o i) ≤ al_dg (tb_T n o t) := by
    by_cases h6 : i = t
    · rw [h6]; exact Nat.le_refl _
    · exact al_lt_d (tb_T_l h (show i < t by omega) (by omega))
  omega
abbrev ps_R := (Int × Int) ⊕ (Nat × (Nat → Int))
def ps_sk (tx : Nat → Int) : Nat → Nat → Nat
  | 0, at' => at'
  | k + 1, at' => if tx at' = 32 then ps_sk tx k (at' + 1) else at'
def ps_dt (tx : Nat → Int) : Nat → Nat → Nat
  | 0, at' => at'
  | k + 1, at' => if 48 ≤ tx at' ∧ tx at' ≤ 57 then ps_dt tx k (at' + 1) else at'
def ps_v (tx : Nat → Int) (from' : Nat) : Nat → Int
  | 0 => 0
  | k + 1 => ps_v tx from' k * 10 + (tx (from' + k) - 48)
def ps_vr (n : Nat) (c : Int) : Int := if c = 120 then 0 else if c = 121 ∧ 1 < n then 1 else if c = 122 ∧ 2 < n then 2 else if c = 119 ∧ 3 < n then 3 else -1
def ps_at (p : Int) (n o : Nat) (tx : Nat → Int) (len : Nat) (br : Option (Nat → ps_R)) (a : Nat) : ps_R :=
  if a < len ∧ 48 ≤ tx a ∧ tx a ≤ 57 then
    (if 9 < ps_dt tx (len - a) a - a then .inl (4, a) else .inr (ps_dt tx (len - a) a, fun m => if m = 0 then ps_v tx a (ps_dt tx (len - a) a - a) % p else 0))
  else if a < len ∧ ps_vr n (tx a) ≠ -1 then .inr (a + 1, fun m => if m = tb_I n o (tb_x (ps_vr n (tx a)).toNat) then 1 else 0)
  else if a < len ∧ tx a = 40 then
    (match br with
    | none => .inl (2, a)
    | some b => match b (a + 1) with
      | .inl f => .inl f
      | .inr q => if q.1 < len ∧ tx q.1 = 41 then .inr (q.1 + 1, q.2) else .inl (1, q.1))
  else .inl (1, a)
def ps_po (p : Int) (n o : Nat) (tx : Nat → Int) (len : Nat) (a2 : Nat) (f : Nat → Int) : ps_R :=
  let a3 := ps_sk tx (len - (a2 + 1)) (a2 + 1)
  if a3 < len ∧ 48 ≤ tx a3 ∧ tx a3 ≤ 57 then
    (let a4 := ps_dt tx (len - a3) a3
    if 2 < a4 - a3 then .inl (4, a3)
    else if tb_h n < sp_deg n o f * ps_v tx a3 (a4 - a3) then .inl (3, a2)
    else .inr (ps_sk tx (len - a4) a4, al_pw p (tb_N n) (tb_T n o) f (ps_v tx a3 (a4 - a3)).toNat))
  else .inl (1, a3)
def ps_fa (p : Int) (n o : Nat) (tx : Nat → Int) (len : Nat) (br : Option (Nat → ps_R)) (a : Nat) : ps_R :=
  match ps_at p n o tx len br (ps_sk tx (len - a) a) with
  | .inl f => .inl f
  | .inr q =>
    let a2 := ps_sk tx (len - q.1) q.1
    if a2 < len ∧ tx a2 = 94 then ps_po p n o tx len a2 q.2 else .inr (a2, q.2)
def ps_tl (p : Int) (n o : Nat) (tx : Nat → Int) (len : Nat) (br : Option (Nat → ps_R)) : Nat → Nat → (Nat → Int) → ps_R
  | 0, a, f => .inr (a, f)
  | k + 1, a, f =>
    if a < len ∧ tx a = 42 then
      (match ps_fa p n o tx len br (a + 1) with
      | .inl e => .inl e
      | .inr q => if sp_deg n o f = -1 ∨ sp_deg n o q.2 = -1 ∨ sp_deg n o f + sp_deg n o q.2 ≤ tb_h n then ps_tl p n o tx len br k q.1 (al_mp p (tb_N n) (tb_T n o) f q.2) else .inl (3, a))
    else .inr (a, f)
def ps_te (p : Int) (n o : Nat) (tx : Nat → Int) (len : Nat) (br : Option (Nat → ps_R)) (a : Nat) : ps_R :=
  match ps_fa p n o tx len br a with
  | .inl e => .inl e
  | .inr q => ps_tl p n o tx len br 401 q.1 q.2
def ps_sl (p : Int) (n o : Nat) (tx : Nat → Int) (len : Nat) (br : Option (Nat → ps_R)) : Nat → Nat → Bool → (Nat → Int) → ps_R
  | 0, a, _, f => .inr (a, f)
  | k + 1, a, mi, f =>
    match ps_te p n o tx len br a with
    | .inl e => .inl e
    | .inr q =>
      let g := fun m => (f m + (if mi = true then p - 1 else 1) * q.2 m) % p
      if q.1 < len ∧ tx q.1 = 45 then ps_sl p n o tx len br k (q.1 + 1) true g
      else if q.1 < len ∧ tx q.1 = 43 then ps_sl p n o tx len br k (q.1 + 1) false g
      else .inr (q.1, g)
def ps_su (p : Int) (n o : Nat) (tx : Nat → Int) (len : Nat) (br : Option (Nat → ps_R)) (a : Nat) : ps_R :=
  let a0 := ps_sk tx (len - a) a
  if a0 < len ∧ tx a0 = 45 then ps_sl p n o tx len br 401 (a0 + 1) true (fun _ => 0) else ps_sl p n o tx len br 401 a0 false (fun _ => 0)
def ps_K (p : Int) (n o : Nat) (tx : Nat → Int) (len : Nat) : Nat → Nat → ps_R
  | 0, a => ps_su p n o tx len none a
  | k + 1, a => ps_su p n o tx len (some (ps_K p n o tx len k)) a
def ps_rd (p : Int) (n o : Nat) (tx : Nat → Int) (len : Nat) : (Int × Int) ⊕ (Nat → Int) :=
  match ps_K p n o tx len 20 0 with
  | .inl e => .inl e
  | .inr q => if q.1 < len then .inl (1, q.1) else .inr q.2
