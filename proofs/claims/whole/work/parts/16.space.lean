def tb_F (n d : Nat) : Nat :=
  match n with
  | 1 => d
  | 2 => d * (d + 1) / 2
  | 3 => d * (d + 1) * (d + 2) / 6
  | _ => d * (d + 1) * (d + 2) * (d + 3) / 24
def tb_ck2 (n o : Nat) : Bool :=
  (List.range (tb_h n + 2)).all (fun d => Nat.ble (tb_F n d) (tb_N n) && ((tb n o).take (tb_F n d)).all (fun m => Nat.blt (al_dg m) d) && ((tb n o).drop (tb_F n d)).all (fun m => Nat.ble d (al_dg m)))
set_option maxRecDepth 100000 in
theorem tb_ck2_t : (tb_ck2 1 0 && tb_ck2 1 1 && tb_ck2 2 0 && tb_ck2 2 1 && tb_ck2 3 0 && tb_ck2 3 1 && tb_ck2 4 0 && tb_ck2 4 1) = true := by decide +kernel
theorem tb_ck2_a {n o : Nat} (h : tb_ok n o) : tb_ck2 n o = true := by
  have h1 := tb_ck2_t
  simp only [Bool.and_eq_true] at h1
  obtain ⟨⟨⟨⟨⟨⟨⟨h1, h2⟩, h3⟩, h4⟩, h5⟩, h6⟩, h7⟩, h8⟩ := h1
  obtain ⟨a, b, c⟩ := h
  obtain rfl | rfl | rfl | rfl : n = 1 ∨ n = 2 ∨ n = 3 ∨ n = 4 := by omega
  · obtain rfl | rfl : o = 0 ∨ o = 1 := by omega
    · exact h1
    · exact h2
  · obtain rfl | rfl : o = 0 ∨ o = 1 := by omega
    · exact h3
    · exact h4
  · obtain rfl | rfl : o = 0 ∨ o = 1 := by omega
    · exact h5
    · exact h6
  · obtain rfl | rfl : o = 0 ∨ o = 1 := by omega
    · exact h7
    · exact h8
theorem tb_F_N {n o d : Nat} (h : tb_ok n o) (hd : d ≤ tb_h n + 1) : tb_F n d ≤ tb_N n := by
  have h1 := List.all_eq_true.mp (tb_ck2_a h) d (List.mem_range.mpr (by omega))
  simp only [Bool.and_eq_true, Nat.ble_eq] at h1
  exact h1.1.1
theorem tb_F_i {n o d m : Nat} (h : tb_ok n o) (hd : d ≤ tb_h n + 1) (hm : m < tb_N n) : m < tb_F n d ↔ al_dg (tb_T n o m) < d := by
  have h1 := List.all_eq_true.mp (tb_ck2_a h) d (List.mem_range.mpr (by omega))
  simp only [Bool.and_eq_true, Nat.ble_eq] at h1
  obtain ⟨⟨h1, h2⟩, h3⟩ := h1
  have hl := tb_len h
  have he : tb_T n o m = (tb n o)[m]'(by omega) := by unfold tb_T; rw [tb_gd (by omega)]
  constructor
  · intro h4
    have h5 := List.all_eq_true.mp h2 (tb_T n o m) (by
      rw [he]
      refine List.mem_take_iff_getElem.mpr ⟨m, by omega, rfl⟩)
    simpa [Nat.blt_eq] using h5
  · intro h4
    refine Nat.lt_of_not_le (fun h5 => ?_)
    have h6 := List.all_eq_true.mp h3 (tb_T n o m) (by
      rw [he]
      refine List.mem_drop_iff_getElem.mpr ⟨m - tb_F n d, by omega, ?_⟩
      congr 1; omega)
    simp only [Nat.ble_eq] at h6
    omega
def tb_x (v : Nat) : al_M := tb_s (0, 0, 0, 0) v 1
theorem tb_x_d (v : Nat) : al_dg (tb_x v) = 1 := by
  unfold tb_x tb_s
  split <;> rfl
theorem tb_x_v {n v : Nat} (h : v < n) (hn : n ≤ 4) : tb_v n (tb_x v) := by
  unfold tb_v
  match v, h with
  | 0, _ => exact ⟨fun _ => rfl, fun _ => rfl, fun _ => rfl⟩
  | 1, _ => exact ⟨fun _ => by omega, fun _ => rfl, fun _ => rfl⟩
  | 2, _ => exact ⟨fun _ => by omega, fun _ => by omega, fun _ => rfl⟩
  | 3, _ => exact ⟨fun _ => by omega, fun _ => by omega, fun _ => by omega⟩
  | v + 4, _ => omega
theorem tb_x_e {n : Nat} {a : al_M} (hn : 1 ≤ n) (ha : tb_v n a) (h0 : al_dg a ≠ 0) : ∃ v b, v < n ∧ a = al_p (tb_x v) b ∧ tb_v n b := by
  obtain ⟨a0, a1, a2, a3⟩ := a
  unfold tb_v at ha
  simp only [al_dg] at ha h0
  by_cases h : a0 ≠ 0
  · refine ⟨0, (a0 - 1, a1, a2, a3), by omega, al_M_x ?_ ?_ ?_ ?_, ha⟩ <;> simp only [al_p, tb_x, tb_s] <;> omega
  · by_cases h1 : a1 ≠ 0
    · refine ⟨1, (a0, a1 - 1, a2, a3), by omega, al_M_x ?_ ?_ ?_ ?_, ?_⟩ 
      · simp only [al_p, tb_x, tb_s]; omega
      · simp only [al_p, tb_x, tb_s]; omega
      · simp only [al_p, tb_x, tb_s]; omega
      · simp only [al_p, tb_x, tb_s]; omega
      · unfold tb_v; simp only []; omega
    · by_cases h2 : a2 ≠ 0
      · refine ⟨2, (a0, a1, a2 - 1, a3), by omega, al_M_x ?_ ?_ ?_ ?_, ?_⟩
        · simp only [al_p, tb_x, tb_s]; omega
        · simp only [al_p, tb_x, tb_s]; omega
        · simp only [al_p, tb_x, tb_s]; omega
        · simp only [al_p, tb_x, tb_s]; omega
        · unfold tb_v; simp only []; omega
      · refine ⟨3, (a0, a1, a2, a3 - 1), by omega, al_M_x ?_ ?_ ?_ ?_, ?_⟩
        · simp only [al_p, tb_x, tb_s]; omega
        · simp only [al_p, tb_x, tb_s]; omega
        · simp only [al_p, tb_x, tb_s]; omega
        · simp only [al_p, tb_x, tb_s]; omega
        · unfold tb_v; simp only []; omega
theorem al_up_Ul (p : Int) (N : Nat) (T : Nat → al_M) (x : Nat → al_M) : al_Ul p (fun v => al_up N T (x v)) := by
  refine ⟨fun v f g h i => ?_, fun v i => ?_, fun v f g c i => ?_⟩
  · simp only [al_up]
    by_cases hi : i < N
    · rw [if_pos hi, if_pos hi]
      refine al_e_S (fun j _ => ?_)
      by_cases h1 : al_p (T j) (x v) = T i
      · rw [if_pos h1, if_pos h1]; exact h j
      · rw [if_neg h1, if_neg h1]; exact al_e_r _ _
    · rw [if_neg hi, if_neg hi]; exact al_e_r _ _
  · simp only [al_up]
    rw [al_S_z (fun j _ => by split <;> rfl)]
    split <;> rfl
  · simp only [al_up]
    by_cases hi : i < N
    · simp only [if_pos hi]
      rw [← al_S_m, ← al_S_a]
      refine al_S_c (fun j _ => ?_)
      by_cases h1 : al_p (T j) (x v) = T i
      · simp only [if_pos h1]
      · simp only [if_neg h1]; omega
    · simp only [if_neg hi]; omega
theorem al_up_2 {p : Int} {N : Nat} {T : Nat → al_M} (hi : ∀ i j, i < N → j < N → T i = T j → i = j)
    (ht : ∀ i l l' a, i ≤ l → l < N → l' < N → T l' = al_p (T l) a → ∃ i', i' ≤ l' ∧ (i < l → i' < l') ∧ T i' = al_p (T i) a)
    (a b : al_M) {f : Nat → Int} {l l' : Nat} (hf : ∀ j, l < j → al_e p (f j) 0) (hl : l < N) (hl' : l' < N) (hh : T l' = al_p (T l) a) (j : Nat) :
    al_e p (al_up N T b (al_up N T a f) j) (al_up N T (al_p a b) f j) := by
  by_cases hj : j < N
  · have e1 : al_up N T b (al_up N T a f) j = al_S N (fun k => al_S N (fun i => if al_p (T k) b = T j then (if al_p (T i) a = T k then f i else 0) else 0)) := by
      show (if j < N then _ else _) = _
      rw [if_pos hj]
      refine al_S_c (fun k hk => ?_)
      by_cases h1 : al_p (T k) b = T j
      · rw [if_pos h1]
        show (if k < N then _ else _) = _
        rw [if_pos hk]
        exact al_S_c (fun i _ => by rw [if_pos h1])
      · rw [if_neg h1]
        exact (al_S_z (fun i _ => by rw [if_neg h1])).symm
    rw [e1, al_S_w]
    show al_e p _ (if j < N then _ else _)
    rw [if_pos hj]
    refine al_e_S (fun i hi' => ?_)
    by_cases h2 : i ≤ l
    · obtain ⟨i', h3, _, h4⟩ := ht i l l' a h2 hl hl' hh
      rw [al_S_2 (k := i') (by omega) (fun k hk hne => ?_)]
      · rw [h4, if_pos rfl, al_p_a]; exact al_e_r _ _
      · have h5 : ¬ al_p (T i) a = T k := fun h6 => hne (hi k i' hk (by omega) (by rw [← h6, h4]))
        rw [if_neg h5]; split <;> rfl
    · have h7 := hf i (by omega)
      refine al_e_t (al_e_S0 (fun k _ => ?_)) (al_e_s ?_)
      · split
        · split
          · exact h7
          · exact al_e_r _ _
        · exact al_e_r _ _
      · split
        · exact h7
        · exact al_e_r _ _
  · unfold al_up
    rw [if_neg hj, if_neg hj]; exact al_e_r _ _
theorem al_p_0 (a : al_M) : al_p a (0, 0, 0, 0) = a := rfl
theorem al_dg_0 {a : al_M} (h : al_dg a = 0) : a = (0, 0, 0, 0) := by
  unfold al_dg at h
  exact al_M_x (by simp only []; omega) (by simp only []; omega) (by simp only []; omega) (by simp only []; omega)
theorem al_up_0 {p : Int} {N : Nat} {T : Nat → al_M} (hi : ∀ i j, i < N → j < N → T i = T j → i = j) {f : Nat → Int} (hf : ∀ j, N ≤ j → al_e p (f j) 0) (j : Nat) : al_e p (al_up N T (0, 0, 0, 0) f j) (f j) := by
  by_cases hj : j < N
  · exact al_up_l hi (0, 0, 0, 0) hj hj (al_p_0 _).symm
  · unfold al_up
    rw [if_neg hj]
    exact al_e_s (hf j (by omega))
def sV (p : Int) (n o d : Nat) (G : (Nat → Int) → Prop) (f : Nat → Int) : Prop := al_V p G (fun v => al_up (tb_N n) (tb_T n o) (tb_x v)) n (tb_F n d) f
theorem sV_N {p : Int} {n o d : Nat} (h : tb_ok n o) (hd : d ≤ tb_h n) {G : (Nat → Int) → Prop} (hG : ∀ g j, G g → tb_F n (d + 1) ≤ j → al_e p (g j) 0) {f : Nat → Int} (hf : sV p n o d G f) (j : Nat) (hj : tb_F n (d + 1) ≤ j) : al_e p (f j) 0 := by
  refine hf (fun f => ∀ j, tb_F n (d + 1) ≤ j → al_e p (f j) 0) ⟨?_, ?_, ?_⟩ (fun g hg j hj => hG g j hg hj) ?_ j hj
  · exact fun j _ => al_e_r _ _
  · exact fun f g h1 h2 j hj => al_e_t (h2 j) (h1 j hj)
  · exact fun f g c h1 h2 j hj => al_e_t (al_e_a (h1 j hj) (al_e_m0 (h2 j hj))) (al_e_of (by omega))
  · intro g v hv h1 h2 j hj
    show al_e p (if j < tb_N n then _ else _) 0
    by_cases hj2 : j < tb_N n
    · rw [if_pos hj2]
      refine al_e_S0 (fun i hi => ?_)
      by_cases h3 : al_p (tb_T n o i) (tb_x v) = tb_T n o j
      · rw [if_pos h3]
        refine h2 i (Nat.le_of_not_lt (fun h4 => ?_))
        have h5 := (tb_F_i h (by omega) hi).mp h4
        have h6 := (tb_F_i h (d := d + 1) (by omega) hj2).mpr (by rw [← h3, al_dg_p, tb_x_d]; omega)
        omega
      · rw [if_neg h3]; exact al_e_r _ _
    · rw [if_neg hj2]; exact al_e_r _ _
theorem sV_up {p : Int} {n o d : Nat} (h : tb_ok n o) (hd : d ≤ tb_h n) {G : (Nat → Int) → Prop} : ∀ (k : Nat) (a : al_M) (f : Nat → Int) (l l' : Nat), al_dg a = k → sV p n o d G f → (∀ j, l < j → al_e p (f j) 0) →
    l < tb_N n → l' < tb_F n (d + 1) → tb_T n o l' = al_p (tb_T n o l) a → sV p n o d G (al_up (tb_N n) (tb_T n o) a f) := by
  have hV := al_V_L p G (fun v => al_up (tb_N n) (tb_T n o) (tb_x v)) n (tb_F n d)
  have hi : ∀ i j, i < tb_N n → j < tb_N n → tb_T n o i = tb_T n o j → i = j := fun i j a b c => tb_T_i h a b c
  have ht := tb_T_u h
  have hE := tb_F_N h (d := d + 1) (by omega)
  intro k
  induction k with
  | zero =>
    intro a f l l' ha hf hl _ _ _
    rw [al_dg_0 ha]
    refine hV.2.1 _ _ hf (fun i => al_up_0 hi (fun j hj => hl j (by omega)) i)
  | succ k ih =>
    intro a f l l' ha hf hl h1 h2 h3
    have h4 : tb_v n a := by
      have := (tb_T_b h (show l' < tb_N n by omega)).2
      rw [h3] at this
      unfold tb_v at *; simp only [al_p] at this; omega
    obtain ⟨v, b, hv, hab, hb⟩ := tb_x_e h.1 h4 (by omega)
    have hdb : al_dg b = k := by rw [hab, al_dg_p, tb_x_d] at ha; omega
    have h5 := (tb_F_i h (by omega) (show l' < tb_N n by omega)).mp h2
    rw [h3, al_dg_p] at h5
    obtain ⟨l1, h6, h7⟩ := tb_T_c h (x := al_p (tb_T n o l) (tb_x v)) (tb_v_p (tb_T_b h h1).2 (tb_x_v hv h.2.1)) (by rw [al_dg_p, tb_x_d]; omega)
    have h8 : sV p n o d G (al_up (tb_N n) (tb_T n o) (tb_x v) f) := by
      refine al_V_u (U := fun v => al_up (tb_N n) (tb_T n o) (tb_x v)) hv hf (fun j hj => hl j (Nat.lt_of_not_le (fun h9 => ?_)))
      have := (tb_F_i h (d := d) (by omega) (show l < tb_N n by omega)).mpr (by omega)
      omega
    have h9 := ih b _ l1 l' hdb h8 (fun j hj => al_up_h hi ht (tb_x v) hl h1 h6 h7 j hj) h6 h2 (by rw [h7, h3, hab, al_p_a])
    rw [hab]
    exact hV.2.1 _ _ h9 (fun i => al_e_s (al_up_2 hi ht (tb_x v) b hl h1 h6 h7 i))
def sC (n o : Nat) (L : Nat → Prop) (c : Nat) : Prop := L c ∧ ∀ k, L k → al_le (tb_T n o k) (tb_T n o c) → k = c
theorem al_le_t {a b c : al_M} (h : al_le a b) (g : al_le b c) : al_le a c :=
  ⟨Nat.le_trans h.1 g.1, Nat.le_trans h.2.1 g.2.1, Nat.le_trans h.2.2.1 g.2.2.1, Nat.le_trans h.2.2.2 g.2.2.2⟩
theorem al_le_d {a b : al_M} (h : al_le a b) : al_dg a ≤ al_dg b := by
  obtain ⟨h1, h2, h3, h4⟩ := h; unfold al_dg; omega
theorem al_le_x {a b : al_M} (h : al_le a b) (hd : al_dg a = al_dg b) : a = b := by
  obtain ⟨h1, h2, h3, h4⟩ := h; unfold al_dg at hd
  exact al_M_x (by omega) (by omega) (by omega) (by omega)
theorem tb_le_k {n o k c : Nat} (h : tb_ok n o) (hk : k < tb_N n) (hc : c < tb_N n) (hl : al_le (tb_T n o k) (tb_T n o c)) : k ≤ c := by
  refine Nat.le_of_not_lt (fun h1 => ?_)
  have h2 := tb_T_l h h1 hk
  by_cases h3 : al_dg (tb_T n o k) = al_dg (tb_T n o c)
  · rw [al_le_x hl h3] at h2; exact al_lt_i _ _ h2
  · have := al_le_d hl; have := al_lt_d h2; omega
theorem sC_ex {n o : Nat} (h : tb_ok n o) {L : Nat → Prop} (hL : ∀ l, L l → l < tb_N n) : ∀ l, L l → ∃ c, sC n o L c ∧ al_le (tb_T n o c) (tb_T n o l) := by
  intro l
  induction l using Nat.strongRecOn with
  | _ l ih =>
    intro hl
    by_cases h1 : sC n o L l
    · exact ⟨l, h1, Nat.le_refl _, Nat.le_refl _, Nat.le_refl _, Nat.le_refl _⟩
    · have h2 : ∃ k, L k ∧ al_le (tb_T n o k) (tb_T n o l) ∧ k ≠ l := Classical.byContradiction (fun hh => h1 ⟨hl, fun k hk hle => Classical.byContradiction (fun hne => hh ⟨k, hk, hle, hne⟩)⟩)
      obtain ⟨k, hk, hle, hne⟩ := h2
      have := tb_le_k h (hL k hk) (hL l hl) hle
      obtain ⟨c, hc, hc2⟩ := ih k (by omega) hk
      exact ⟨c, hc, al_le_t hc2 hle⟩
theorem al_mx_d {a b : al_M} (h : al_dg (al_mx a b) = al_dg a + al_dg b) : al_mx a b = al_p a b := by
  unfold al_dg al_mx at h
  simp only [] at h
  unfold al_mx al_p
  exact al_M_x (by simp only []; omega) (by simp only []; omega) (by simp only []; omega) (by simp only []; omega)
theorem al_up_E {p : Int} {n o d : Nat} (h : tb_ok n o) (hd : d ≤ tb_h n) {f : Nat → Int} (hE : ∀ j, tb_F n (d + 1) ≤ j → al_e p (f j) 0) {l l' : Nat} {a : al_M} (hl : ∀ j, l < j → al_e p (f j) 0)
    (h1 : l < tb_N n) (h2 : l' < tb_F n (d + 1)) (h3 : tb_T n o l' = al_p (tb_T n o l) a) (j : Nat) : al_e p (al_up (tb_F n (d + 1)) (tb_T n o) a f j) (al_up (tb_N n) (tb_T n o) a f j) := by
  have hi : ∀ i j, i < tb_N n → j < tb_N n → tb_T n o i = tb_T n o j → i = j := fun i j a b c => tb_T_i h a b c
  have hEN := tb_F_N h (d := d + 1) (by omega)
  by_cases hj : j < tb_F n (d + 1)
  · unfold al_up
    rw [if_pos hj, if_pos (by omega)]
    refine al_e_s ?_
    have e1 : al_e p (al_S (tb_N n) (fun i => if al_p (tb_T n o i) a = tb_T n o j then f i else 0)) (al_S (tb_N n) (fun i => if i < tb_F n (d + 1) then (if al_p (tb_T n o i) a = tb_T n o j then f i else 0) else 0)) := by
      refine al_e_S (fun i _ => ?_)
      by_cases h4 : i < tb_F n (d + 1)
      · rw [if_pos h4]; exact al_e_r _ _
      · rw [if_neg h4]
        split
        · exact hE i (by omega)
        · exact al_e_r _ _
    refine al_e_t e1 (al_e_of ?_)
    rw [al_S_x hEN (fun i h4 _ => if_neg (by omega))]
    exact al_S_c (fun i hi => if_pos hi)
  · have e2 := al_up_h hi (tb_T_u h) a hl h1 (show l' < tb_N n by omega) h3 j (by omega)
    unfold al_up at e2 ⊢
    rw [if_neg hj]
    exact al_e_s e2
theorem sp_B {p : Int} {n o d : Nat} (h : tb_ok n o) (hd : d ≤ tb_h n) {G : (Nat → Int) → Prop} (hG : ∀ g j, G g → tb_F n (d + 1) ≤ j → al_e p (g j) 0) {L : Nat → Prop} {r : Nat → Nat → Int}
    (he : al_ec p (tb_F n (d + 1)) L r) (hr : ∀ l, L l → sV p n o d G (r l)) (hl : ∀ f l, sV p n o d G f → ¬ al_e p (f l) 0 → (∀ j, l < j → al_e p (f j) 0) → L l)
    (hp : ∀ c c', sC n o L c → sC n o L c' → c ≠ c' → al_dg (al_mx (tb_T n o c) (tb_T n o c')) ≤ d ∨ al_dg (al_mx (tb_T n o c) (tb_T n o c')) = al_dg (tb_T n o c) + al_dg (tb_T n o c')) :
    al_B p (tb_F n (d + 1)) (tb_T n o) (al_lt o) (sV p n o d G) L (sC n o L) r := by
  have hEN := tb_F_N h (d := d + 1) (by omega)
  have hV := al_V_L p G (fun v => al_up (tb_N n) (tb_T n o) (tb_x v)) n (tb_F n d)
  refine ⟨al_lt_a o, al_lt_t o, fun i j h1 h2 => tb_T_l h h1 (by omega), fun i j h1 h2 => tb_T_i h (by omega) (by omega), fun i l l' a h1 h2 h3 h4 => tb_T_u h i l l' a h1 (by omega) (by omega) h4,
    ⟨hV, hl, fun f j hf hj => sV_N h hd hG hf j hj⟩, fun l h1 => ?_, fun c hc => he c hc.1, fun c hc => hr c hc.1, fun f l l' a hf h1 h2 h3 h4 => ?_, fun c c' h1 h2 h3 => ?_⟩
  · obtain ⟨c, h2, h3⟩ := sC_ex h (fun l hl => Nat.lt_of_lt_of_le (he l hl).1 hEN) l h1
    obtain ⟨a, h4⟩ := al_le_i.mp h3
    exact ⟨c, a, h2, h4⟩
  · refine hV.2.1 _ _ (sV_up h hd _ a f l l' rfl hf h1 (by omega) h3 h4) (fun j => ?_)
    exact al_up_E h hd (fun j hj => sV_N h hd hG hf j hj) h1 (by omega) h3 h4 j
  · rcases hp c c' h1 h2 h3 with h4 | h4
    · left
      have c1 := (he c h1.1).1
      have c2 := (he c' h2.1).1
      have v1 := (tb_T_b h (show c < tb_N n by omega)).2
      have v2 := (tb_T_b h (show c' < tb_N n by omega)).2
      obtain ⟨m, h5, h6⟩ := tb_T_c h (x := al_mx (tb_T n o c) (tb_T n o c')) (by unfold tb_v at *; simp only [al_mx]; omega) (by omega)
      exact ⟨m, (tb_F_i h (by omega) h5).mpr (by rw [h6]; omega), h6⟩
    · exact Or.inr (al_mx_d h4)
theorem sL_up {p : Int} (hp : 1 < p) {n o d : Nat} (h : tb_ok n o) (hd : d ≤ tb_h n) {G : (Nat → Int) → Prop} {L : Nat → Prop} {r : Nat → Nat → Int}
    (he : al_ec p (tb_F n (d + 1)) L r) (hr : ∀ l, L l → sV p n o d G (r l)) (hl : ∀ f l, sV p n o d G f → ¬ al_e p (f l) 0 → (∀ j, l < j → al_e p (f j) 0) → L l)
    {l l' : Nat} {a : al_M} (h1 : L l) (h2 : l' < tb_F n (d + 1)) (h3 : tb_T n o l' = al_p (tb_T n o l) a) : L l' := by
  have hEN := tb_F_N h (d := d + 1) (by omega)
  obtain ⟨h4, h5, h6⟩ := he l h1
  have hi : ∀ i j, i < tb_N n → j < tb_N n → tb_T n o i = tb_T n o j → i = j := fun i j a b c => tb_T_i h a b c
  refine hl _ l' (sV_up h hd _ a (r l) l l' rfl (hr l h1) h6 (by omega) h2 h3) (fun h7 => ?_) (fun j hj => al_up_h hi (tb_T_u h) a h6 (by omega) (by omega) h3 j hj)
  have h8 := al_e_t (al_e_s (al_e_t (al_up_l (p := p) hi a (f := r l) (show l < tb_N n by omega) (show l' < tb_N n by omega) h3) h5)) h7
  have h9 := al_e_z h8 (by omega) (by omega)
  omega
theorem sC_c {n o E : Nat} (h : tb_ok n o) (hE : E ≤ tb_N n) {L : Nat → Prop} (hL : ∀ l, L l → l < E) (hu : ∀ l l' a, L l → l' < E → tb_T n o l' = al_p (tb_T n o l) a → L l') (m : Nat) :
    sC n o L m ↔ L m ∧ ∀ v k, v < n → k < tb_N n → tb_T n o m = al_p (tb_T n o k) (tb_x v) → ¬ L k := by
  constructor
  · rintro ⟨h1, h2⟩
    refine ⟨h1, fun v k hv hk h3 h4 => ?_⟩
    have h5 := h2 k h4 (al_le_i.mpr ⟨_, h3⟩)
    subst h5
    have := congrArg al_dg h3
    rw [al_dg_p, tb_x_d] at this
    omega
  · rintro ⟨h1, h2⟩
    refine ⟨h1, fun k hk hle => Classical.byContradiction (fun hne => ?_)⟩
    obtain ⟨a, ha⟩ := al_le_i.mp hle
    have hkE := hL k hk
    have hmE := hL m h1
    have va : tb_v n a := by
      have := (tb_T_b h (show m < tb_N n by omega)).2
      rw [ha] at this
      unfold tb_v at *; simp only [al_p] at this; omega
    have h0 : al_dg a ≠ 0 := fun h0 => by
      rw [al_dg_0 h0, al_p_0] at ha
      exact hne (tb_T_i h (by omega) (by omega) ha.symm)
    obtain ⟨v, b, hv, hab, hb⟩ := tb_x_e h.1 va h0
    have hdm := (tb_T_b h (show m < tb_N n by omega)).1
    obtain ⟨q, hq, hTq⟩ := tb_T_c h (x := al_p (tb_T n o k) b) (tb_v_p (tb_T_b h (show k < tb_N n by omega)).2 hb) (by
      rw [ha, hab, al_dg_p, al_dg_p] at hdm
      rw [al_dg_p]; omega)
    have hmq : tb_T n o m = al_p (tb_T n o q) (tb_x v) := by rw [ha, hTq, hab, al_p_a, al_p_c (tb_x v)]
    have hqm : q ≤ m := tb_le_k h hq (by omega) (al_le_i.mpr ⟨_, hmq⟩)
    exact h2 v q hv hq hmq (hu k q b hk (by omega) hTq)
theorem sC_r {n o : Nat} (h : tb_ok n o) {L : Nat → Prop} (hL : ∀ l, L l → l < tb_N n) (m : Nat) : sC n o L m ↔ L m ∧ ∀ k, k < m → L k → ¬ al_le (tb_T n o k) (tb_T n o m) := by
  constructor
  · rintro ⟨h1, h2⟩
    exact ⟨h1, fun k hk hL hle => by have := h2 k hL hle; omega⟩
  · rintro ⟨h1, h2⟩
    refine ⟨h1, fun k hk hle => ?_⟩
    have := tb_le_k h (hL k hk) (hL m h1) hle
    by_cases h3 : k = m
    · exact h3
    · exact absurd hle (h2 k (by omega) hk)
