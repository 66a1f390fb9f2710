def tb_s (m : al_M) (v x : Nat) : al_M :=
  match v with
  | 0 => (x, m.2)
  | 1 => (m.1, x, m.2.2)
  | 2 => (m.1, m.2.1, x, m.2.2.2)
  | _ => (m.1, m.2.1, m.2.2.1, x)
def tb_g (m : al_M) (v : Nat) : Nat :=
  match v with
  | 0 => m.1
  | 1 => m.2.1
  | 2 => m.2.2.1
  | _ => m.2.2.2
def tb_0 : Nat → Nat → al_M → List al_M
  | 0, left, m => [tb_s m 0 left]
  | v + 1, left, m => (List.range (left + 1)).flatMap (fun k => tb_0 v k (tb_s m (v + 1) (left - k)))
def tb_1 : Nat → Nat → Nat → al_M → List al_M
  | 0, v, left, m => [tb_s m v left]
  | j + 1, v, left, m => (List.range (left + 1)).flatMap (fun k => tb_1 j (v + 1) (left - k) (tb_s m v k))
def tb_h (n : Nat) : Nat :=
  match n with
  | 1 => 30
  | 2 => 12
  | 3 => 7
  | _ => 5
def tb_N (n : Nat) : Nat :=
  match n with
  | 1 => 31
  | 2 => 91
  | 3 => 120
  | _ => 126
def tb_d (n o d : Nat) : List al_M := if o = 0 then tb_0 (n - 1) d (0, 0, 0, 0) else tb_1 (n - 1) 0 d (0, 0, 0, 0)
def tb (n o : Nat) : List al_M := (List.range (tb_h n + 1)).flatMap (tb_d n o)
def al_lt (o : Nat) (a b : al_M) : Prop :=
  al_dg a < al_dg b ∨ al_dg a = al_dg b ∧
    if o = 0 then b.2.2.2 < a.2.2.2 ∨ b.2.2.2 = a.2.2.2 ∧ (b.2.2.1 < a.2.2.1 ∨ b.2.2.1 = a.2.2.1 ∧ b.2.1 < a.2.1)
    else a.1 < b.1 ∨ a.1 = b.1 ∧ (a.2.1 < b.2.1 ∨ a.2.1 = b.2.1 ∧ a.2.2.1 < b.2.2.1)
def al_ltb (o : Nat) (a b : al_M) : Bool :=
  Nat.blt (al_dg a) (al_dg b) || (Nat.beq (al_dg a) (al_dg b) &&
    match o with
    | 0 => Nat.blt b.2.2.2 a.2.2.2 || (Nat.beq b.2.2.2 a.2.2.2 && (Nat.blt b.2.2.1 a.2.2.1 || (Nat.beq b.2.2.1 a.2.2.1 && Nat.blt b.2.1 a.2.1)))
    | _ + 1 => Nat.blt a.1 b.1 || (Nat.beq a.1 b.1 && (Nat.blt a.2.1 b.2.1 || (Nat.beq a.2.1 b.2.1 && Nat.blt a.2.2.1 b.2.2.1))))
theorem al_ltb_i (o : Nat) (a b : al_M) : al_ltb o a b = true ↔ al_lt o a b := by
  unfold al_ltb al_lt
  cases o with
  | zero => simp [Nat.blt_eq]
  | succ o => simp [Nat.blt_eq]
theorem al_lt_t (o : Nat) (a b c : al_M) (h : al_lt o a b) (g : al_lt o b c) : al_lt o a c := by
  unfold al_lt at *
  by_cases ho : o = 0
  · simp only [if_pos ho] at *; omega
  · simp only [if_neg ho] at *; omega
theorem al_lt_a (o : Nat) (a b c : al_M) (h : al_lt o a b) : al_lt o (al_p a c) (al_p b c) := by
  unfold al_lt at *
  simp only [al_dg, al_p] at *
  by_cases ho : o = 0
  · simp only [if_pos ho] at *; omega
  · simp only [if_neg ho] at *; omega
theorem al_lt_i (o : Nat) (a : al_M) : ¬ al_lt o a a := by
  unfold al_lt
  by_cases ho : o = 0
  · simp only [if_pos ho]; omega
  · simp only [if_neg ho]; omega
theorem al_lt_x (o : Nat) (a b : al_M) : al_lt o a b ∨ a = b ∨ al_lt o b a := by
  by_cases h : a.1 = b.1 ∧ a.2.1 = b.2.1 ∧ a.2.2.1 = b.2.2.1 ∧ a.2.2.2 = b.2.2.2
  · exact Or.inr (Or.inl (al_M_x h.1 h.2.1 h.2.2.1 h.2.2.2))
  · unfold al_lt
    simp only [al_dg]
    by_cases ho : o = 0
    · simp only [if_pos ho]; omega
    · simp only [if_neg ho]; omega
theorem al_lt_d {o : Nat} {a b : al_M} (h : al_lt o a b) : al_dg a ≤ al_dg b := by
  unfold al_lt at h; omega
theorem tb_lx {a b : Nat × Nat × Nat × Nat} (h : a.1 < b.1 ∨ a.1 = b.1 ∧ (a.2.1 < b.2.1 ∨ a.2.1 = b.2.1 ∧ (a.2.2.1 < b.2.2.1 ∨ a.2.2.1 = b.2.2.1 ∧ a.2.2.2 < b.2.2.2))) :
    (Prod.lex Nat.lt_wfRel (Prod.lex Nat.lt_wfRel (Prod.lex Nat.lt_wfRel Nat.lt_wfRel))).rel a b := by
  rcases h with h | ⟨e, h⟩
  · exact Prod.lex_def.mpr (Or.inl h)
  · refine Prod.lex_def.mpr (Or.inr ⟨e, ?_⟩)
    rcases h with h | ⟨e, h⟩
    · exact Prod.lex_def.mpr (Or.inl h)
    · refine Prod.lex_def.mpr (Or.inr ⟨e, ?_⟩)
      rcases h with h | ⟨e, h⟩
      · exact Prod.lex_def.mpr (Or.inl h)
      · exact Prod.lex_def.mpr (Or.inr ⟨e, h⟩)
theorem al_lt_w (o : Nat) : WellFounded (al_lt o) := by
  have hl := (Prod.lex Nat.lt_wfRel (Prod.lex Nat.lt_wfRel (Prod.lex Nat.lt_wfRel Nat.lt_wfRel))).wf
  by_cases ho : o = 0
  · refine Subrelation.wf (r := InvImage _ (fun a : al_M => (al_dg a, a.1 + a.2.1 + a.2.2.1, a.1 + a.2.1, a.1))) ?_ (InvImage.wf _ hl)
    intro a b h
    unfold al_lt at h
    simp only [if_pos ho, al_dg] at h
    exact tb_lx (by simp only [al_dg]; omega)
  · refine Subrelation.wf (r := InvImage _ (fun a : al_M => (al_dg a, a.1, a.2.1, a.2.2.1))) ?_ (InvImage.wf _ hl)
    intro a b h
    unfold al_lt at h
    simp only [if_neg ho, al_dg] at h
    exact tb_lx (by simp only [al_dg]; omega)
def tb_so (o : Nat) : List al_M → Bool
  | [] => true
  | [_] => true
  | a :: b :: t => al_ltb o a b && tb_so o (b :: t)
theorem tb_so_p {o : Nat} : ∀ l : List al_M, tb_so o l = true → List.Pairwise (al_lt o) l := by
  intro l
  induction l with
  | nil => intro _; exact List.Pairwise.nil
  | cons a t ih =>
    intro h
    cases t with
    | nil => exact List.Pairwise.cons (fun _ h => by cases h) List.Pairwise.nil
    | cons b t =>
      simp only [tb_so, Bool.and_eq_true] at h
      have h1 := (al_ltb_i o a b).mp h.1
      have h2 := ih h.2
      refine List.Pairwise.cons (fun x hx => ?_) h2
      rcases List.mem_cons.mp hx with rfl | hx
      · exact h1
      · exact al_lt_t o a b x h1 (List.rel_of_pairwise_cons h2 hx)
def tb_ck (n o : Nat) : Bool :=
  tb_so o (tb n o) && Nat.beq (tb n o).length (tb_N n) &&
  (tb n o).all (fun m => Nat.ble (al_dg m) (tb_h n) && (Nat.ble 2 n || Nat.beq m.2.1 0) && (Nat.ble 3 n || Nat.beq m.2.2.1 0) && (Nat.ble 4 n || Nat.beq m.2.2.2 0)) &&
  (List.range (tb_h n + 1)).all (fun a => (List.range (if n ≤ 1 then 1 else tb_h n + 1 - a)).all (fun b => (List.range (if n ≤ 2 then 1 else tb_h n + 1 - a - b)).all (fun c => (List.range (if n ≤ 3 then 1 else tb_h n + 1 - a - b - c)).all (fun d =>
    (tb n o).any (fun m => Nat.beq m.1 a && Nat.beq m.2.1 b && Nat.beq m.2.2.1 c && Nat.beq m.2.2.2 d)))))
set_option maxRecDepth 100000 in
theorem tb_ck_t : (tb_ck 1 0 && tb_ck 1 1 && tb_ck 2 0 && tb_ck 2 1 && tb_ck 3 0 && tb_ck 3 1 && tb_ck 4 0 && tb_ck 4 1) = true := by decide +kernel
def tb_ok (n o : Nat) : Prop := 1 ≤ n ∧ n ≤ 4 ∧ o ≤ 1
theorem tb_ck_a {n o : Nat} (h : tb_ok n o) : tb_ck n o = true := by
  have h1 := tb_ck_t
  simp only [Bool.and_eq_true] at h1
  obtain ⟨⟨⟨⟨⟨⟨⟨h1, h2⟩, h3⟩, h4⟩, h5⟩, h6⟩, h7⟩, h8⟩ := h1
  obtain ⟨a, b, c⟩ := h
  obtain rfl | rfl | rfl | rfl : n = 1 ∨ n = 2 ∨ n = 3 ∨ n = 4 := by omega
  · obtain rfl | rfl : o = 0 ∨ o = 1 := by omega
    · exact h1
    · exact h2
  · obtain rfl | rfl : o = 0 ∨ o = 1 := by omega
    · exact h3
    · exact h4
  · obtain rfl | rfl : o = 0 ∨ o = 1 := by omega
    · exact h5
    · exact h6
  · obtain rfl | rfl : o = 0 ∨ o = 1 := by omega
    · exact h7
    · exact h8
def tb_T (n o m : Nat) : al_M := (tb n o)[m]?.getD (0, 0, 0, 0)
theorem tb_gd {l : List al_M} {i : Nat} (h : i < l.length) (x : al_M) : l[i]?.getD x = l[i] := by
  rw [List.getElem?_eq_getElem h]; rfl
def tb_v (n : Nat) (x : al_M) : Prop := (n < 2 → x.2.1 = 0) ∧ (n < 3 → x.2.2.1 = 0) ∧ (n < 4 → x.2.2.2 = 0)
theorem tb_len {n o : Nat} (h : tb_ok n o) : (tb n o).length = tb_N n := by
  have h1 := tb_ck_a h
  simp only [tb_ck, Bool.and_eq_true] at h1
  exact Nat.eq_of_beq_eq_true h1.1.1.2
theorem tb_T_l {n o : Nat} (h : tb_ok n o) {i j : Nat} (hij : i < j) (hj : j < tb_N n) : al_lt o (tb_T n o i) (tb_T n o j) := by
  have h1 := tb_ck_a h
  simp only [tb_ck, Bool.and_eq_true] at h1
  have h2 := List.pairwise_iff_getElem.mp (tb_so_p _ h1.1.1.1)
  have hl := tb_len h
  unfold tb_T
  rw [tb_gd (show i < (tb n o).length by omega), tb_gd (show j < (tb n o).length by omega)]
  exact h2 i j (by omega) (by omega) hij
theorem tb_T_i {n o : Nat} (h : tb_ok n o) {i j : Nat} (hi : i < tb_N n) (hj : j < tb_N n) (he : tb_T n o i = tb_T n o j) : i = j := by
  rcases Nat.lt_trichotomy i j with h1 | h1 | h1
  · have := tb_T_l h h1 hj; rw [he] at this; exact absurd this (al_lt_i _ _)
  · exact h1
  · have := tb_T_l h h1 hi; rw [he] at this; exact absurd this (al_lt_i _ _)
theorem tb_T_b {n o : Nat} (h : tb_ok n o) {i : Nat} (hi : i < tb_N n) : al_dg (tb_T n o i) ≤ tb_h n ∧ tb_v n (tb_T n o i) := by
  have h1 := tb_ck_a h
  simp only [tb_ck, Bool.and_eq_true] at h1
  have hl := tb_len h
  have h2 := List.all_eq_true.mp h1.1.2 (tb_T n o i) (by
    unfold tb_T
    rw [tb_gd (show i < (tb n o).length by omega)]
    exact List.getElem_mem _)
  simp only [Bool.and_eq_true, Bool.or_eq_true, Nat.ble_eq, Nat.beq_eq] at h2
  refine ⟨h2.1.1.1, ?_, ?_, ?_⟩ <;> omega
theorem tb_T_c {n o : Nat} (h : tb_ok n o) {x : al_M} (hv : tb_v n x) (hd : al_dg x ≤ tb_h n) : ∃ m, m < tb_N n ∧ tb_T n o m = x := by
  have h1 := tb_ck_a h
  simp only [tb_ck, Bool.and_eq_true] at h1
  have hl := tb_len h
  unfold al_dg at hd
  unfold tb_v at hv
  have h2 := List.all_eq_true.mp (List.all_eq_true.mp (List.all_eq_true.mp (List.all_eq_true.mp h1.2 x.1 (List.mem_range.mpr (by omega))) x.2.1 (List.mem_range.mpr (by split <;> omega))) x.2.2.1 (List.mem_range.mpr (by split <;> omega))) x.2.2.2 (List.mem_range.mpr (by split <;> omega))
  obtain ⟨m, hm, h3⟩ := List.any_eq_true.mp h2
  simp only [Bool.and_eq_true, Nat.beq_eq] at h3
  obtain ⟨k, hk, he⟩ := List.getElem_of_mem hm
  refine ⟨k, by omega, ?_⟩
  unfold tb_T
  rw [tb_gd hk, he]
  exact al_M_x h3.1.1.1 h3.1.1.2 h3.1.2 h3.2
theorem tb_T_n {n o : Nat} (h : tb_ok n o) {i j : Nat} (hi : i < tb_N n) (hj : j < tb_N n) (hl : al_lt o (tb_T n o i) (tb_T n o j)) : i < j := by
  rcases Nat.lt_trichotomy i j with h1 | h1 | h1
  · exact h1
  · subst h1; exact absurd hl (al_lt_i _ _)
  · exact absurd (al_lt_t _ _ _ _ hl (tb_T_l h h1 hi)) (al_lt_i _ _)
theorem tb_v_p {n : Nat} {x y : al_M} (hx : tb_v n x) (hy : tb_v n y) : tb_v n (al_p x y) := by
  unfold tb_v at *; simp only [al_p]; omega
theorem tb_T_p {n o : Nat} (h : tb_ok n o) (i j : Nat) (hi : i < tb_N n) (hj : j < tb_N n) (hd : al_dg (tb_T n o i) + al_dg (tb_T n o j) ≤ tb_h n) : ∃ m, m < tb_N n ∧ tb_T n o m = al_p (tb_T n o i) (tb_T n o j) :=
  tb_T_c h (tb_v_p (tb_T_b h hi).2 (tb_T_b h hj).2) (by rw [al_dg_p]; exact hd)
theorem tb_T_u {n o : Nat} (h : tb_ok n o) (i l l' : Nat) (a : al_M) (hi : i ≤ l) (hl : l < tb_N n) (hl' : l' < tb_N n) (ha : tb_T n o l' = al_p (tb_T n o l) a) :
    ∃ i', i' ≤ l' ∧ (i < l → i' < l') ∧ tb_T n o i' = al_p (tb_T n o i) a := by
  by_cases he : i = l
  · exact ⟨l', by omega, fun q => by omega, by rw [he, ha]⟩
  · have h1 := tb_T_l h (show i < l by omega) hl
    have h2 := al_lt_a o _ _ a h1
    rw [← ha] at h2
    have h3 := al_lt_d h2
    have h4 := tb_T_b h hl'
    have h5 : tb_v n a := by
      have := h4.2
      rw [ha] at this
      unfold tb_v at *; simp only [al_p] at this; omega
    obtain ⟨m, h6, h7⟩ := tb_T_c h (tb_v_p (tb_T_b h (show i < tb_N n by omega)).2 h5) (Nat.le_trans h3 h4.1)
    have h8 := tb_T_n h h6 hl' (by rw [h7]; exact h2)
    exact ⟨m, by omega, fun _ => h8, h7⟩
