def tb_m (f : Nat → List al_M) (left k : Nat) : List al_M := ((List.range (left + 1)).drop k).flatMap f
theorem tb_m_s (f : Nat → List al_M) {left k : Nat} (h : k ≤ left) : tb_m f left k = f k ++ tb_m f left (k + 1) := by
  unfold tb_m
  rw [List.drop_eq_getElem_cons (by rw [List.length_range]; omega), List.flatMap_cons, List.getElem_range]
theorem tb_m_e (f : Nat → List al_M) {left k : Nat} (h : left < k) : tb_m f left k = [] := by
  unfold tb_m
  rw [List.drop_eq_nil_of_le (by rw [List.length_range]; omega)]
  rfl
theorem tb_m_0 (f : Nat → List al_M) (left : Nat) : tb_m f left 0 = (List.range (left + 1)).flatMap f := rfl
theorem tb_hd {n o : Nat} (h : tb_ok n o) {pre post : List al_M} {x : al_M} (ht : tb n o = pre ++ x :: post) : pre.length < tb_N n ∧ tb_T n o pre.length = x := by
  have hl := tb_len h
  rw [ht] at hl
  simp only [List.length_append, List.length_cons] at hl
  refine ⟨by omega, ?_⟩
  unfold tb_T
  rw [ht, List.getElem?_append_right (Nat.le_refl _), Nat.sub_self]
  rfl
def tb_ck3 (n o : Nat) : Bool := (List.range (tb_h n + 1)).all (fun d => Nat.beq ((List.range (d + 1)).flatMap (tb_d n o)).length (tb_F n (d + 1)))
set_option maxRecDepth 100000 in
theorem tb_ck3_t : (tb_ck3 1 0 && tb_ck3 1 1 && tb_ck3 2 0 && tb_ck3 2 1 && tb_ck3 3 0 && tb_ck3 3 1 && tb_ck3 4 0 && tb_ck3 4 1) = true := by decide +kernel
theorem tb_F_l {n o : Nat} (h : tb_ok n o) {d : Nat} (hd : d ≤ tb_h n) : ((List.range (d + 1)).flatMap (tb_d n o)).length = tb_F n (d + 1) := by
  have h1 := tb_ck3_t
  simp only [Bool.and_eq_true] at h1
  obtain ⟨⟨⟨⟨⟨⟨⟨h1, h2⟩, h3⟩, h4⟩, h5⟩, h6⟩, h7⟩, h8⟩ := h1
  obtain ⟨a, b, c⟩ := h
  have h0 : tb_ck3 n o = true := by
    obtain rfl | rfl | rfl | rfl : n = 1 ∨ n = 2 ∨ n = 3 ∨ n = 4 := by omega
    · obtain rfl | rfl : o = 0 ∨ o = 1 := by omega
      · exact h1
      · exact h2
    · obtain rfl | rfl : o = 0 ∨ o = 1 := by omega
      · exact h3
      · exact h4
    · obtain rfl | rfl : o = 0 ∨ o = 1 := by omega
      · exact h5
      · exact h6
    · obtain rfl | rfl : o = 0 ∨ o = 1 := by omega
      · exact h7
      · exact h8
  have h9 := List.all_eq_true.mp h0 d (List.mem_range.mpr (by omega))
  exact Nat.eq_of_beq_eq_true h9
theorem tb_s_g (x : al_M) (v y u : Nat) (hv : v < 4) (hu : u < 4) : tb_g (tb_s x v y) u = if u = v then y else tb_g x u := by
  obtain rfl | rfl | rfl | rfl : v = 0 ∨ v = 1 ∨ v = 2 ∨ v = 3 := by omega
  all_goals
    obtain rfl | rfl | rfl | rfl : u = 0 ∨ u = 1 ∨ u = 2 ∨ u = 3 := by omega
    all_goals rfl
