theorem lv_e (x : al_M) : lv_S x 4 = if 0 < x.2.2.2 then 3 else if 0 < x.2.2.1 then 2 else if 0 < x.2.1 then 1 else 0 := by
  show (if 0 < x.2.2.2 then 3 else if 0 < x.2.2.1 then 2 else if 0 < x.2.1 then 1 else if 0 < x.1 then 0 else 0) = _
  by_cases h3 : 0 < x.2.2.2
  · rw [if_pos h3, if_pos h3]
  · rw [if_neg h3, if_neg h3]
    by_cases h2 : 0 < x.2.2.1
    · rw [if_pos h2, if_pos h2]
    · rw [if_neg h2, if_neg h2]
      by_cases h1 : 0 < x.2.1
      · rw [if_pos h1, if_pos h1]
      · rw [if_neg h1, if_neg h1]
        split <;> rfl
theorem lv_u {x : al_M} {w : Nat} (hw : w < 4) (h : lv_S x 4 ≤ w) : lv_S (al_p x (tb_x w)) 4 = w := by
  rw [lv_e] at h ⊢
  obtain ⟨a, b, c, d⟩ := x
  obtain rfl | rfl | rfl | rfl : w = 0 ∨ w = 1 ∨ w = 2 ∨ w = 3 := by omega
  all_goals
    simp only [al_p, tb_x, tb_s] at h ⊢
    repeat' split at h
    all_goals
      repeat' split
      all_goals omega
theorem lv_z {x : al_M} (h : al_dg x ≠ 0) : 0 < tb_g x (lv_S x 4) ∧ lv_S x 4 < 4 ∧ ∀ n, tb_v n x → 1 ≤ n → lv_S x 4 < n := by
  rw [lv_e]
  obtain ⟨a, b, c, d⟩ := x
  unfold al_dg at h
  simp only [] at h ⊢
  by_cases h3 : 0 < d
  · rw [if_pos h3]
    refine ⟨h3, by omega, fun n hn h1 => ?_⟩
    unfold tb_v at hn
    simp only [] at hn
    omega
  · rw [if_neg h3]
    by_cases h2 : 0 < c
    · rw [if_pos h2]
      refine ⟨h2, by omega, fun n hn h1 => ?_⟩
      unfold tb_v at hn
      simp only [] at hn
      omega
    · rw [if_neg h2]
      by_cases h1 : 0 < b
      · rw [if_pos h1]
        refine ⟨h1, by omega, fun n hn h1 => ?_⟩
        unfold tb_v at hn
        simp only [] at hn
        omega
      · rw [if_neg h1]
        refine ⟨?_, by omega, fun n hn h1 => by omega⟩
        show 0 < a
        omega
theorem lv_m {x : al_M} (h : al_dg x ≠ 0) : lv_S (tb_s x (lv_S x 4) (tb_g x (lv_S x 4) - 1)) 4 ≤ lv_S x 4 := by
  have h0 := lv_z h
  rw [lv_e x] at *
  rw [lv_e]
  obtain ⟨a, b, c, d⟩ := x
  simp only [] at *
  by_cases h3 : 0 < d
  · simp only [if_pos h3]
    repeat' split
    all_goals omega
  · simp only [if_neg h3]
    by_cases h2 : 0 < c
    · simp only [if_pos h2, tb_s]
      repeat' split
      all_goals omega
    · simp only [if_neg h2]
      by_cases h1 : 0 < b
      · simp only [if_pos h1, tb_s]
        repeat' split
        all_goals omega
      · simp only [if_neg h1, tb_s]
        repeat' split
        all_goals omega
theorem ga_m {K : Nat} {cor : Nat → al_M} {x : al_M} {w : Nat} (hs : sd_b K cor (al_p x (tb_x w)) = true) : ∀ {k v : Nat}, v ≤ w → w < v + k → al_p x (tb_x w) ∈ ga_c K cor x k v := by
  intro k
  induction k with
  | zero => intro v h1 h2; omega
  | succ k ih =>
    intro v h1 h2
    rw [ga_c, List.mem_append]
    by_cases hv : v = w
    · left
      subst hv
      rw [if_pos hs]
      exact List.mem_singleton.mpr rfl
    · right
      exact ih (by omega) (by omega)
theorem tb_x_i {v w : Nat} (hv : v < 4) (hw : w < 4) (h : tb_x v = tb_x w) : v = w := by
  obtain rfl | rfl | rfl | rfl : v = 0 ∨ v = 1 ∨ v = 2 ∨ v = 3 := by omega
  all_goals
    obtain rfl | rfl | rfl | rfl : w = 0 ∨ w = 1 ∨ w = 2 ∨ w = 3 := by omega
    all_goals first | rfl | (exact absurd h (by decide))
theorem ga_n {K : Nat} {cor : Nat → al_M} {x : al_M} : ∀ {k v : Nat}, v + k ≤ 4 → (ga_c K cor x k v).Nodup := by
  intro k
  induction k with
  | zero => intro v _; rw [ga_c]; exact List.nodup_nil
  | succ k ih =>
    intro v hv
    rw [ga_c]
    split
    · rw [List.singleton_append, List.nodup_cons]
      refine ⟨fun hm => ?_, ih (by omega)⟩
      obtain ⟨w, h1, h2, h3, _⟩ := ga_d hm
      have := tb_x_i (by omega) (by omega) (al_p_l h3)
      omega
    · rw [List.nil_append]; exact ih (by omega)
/- the gathered list: distinct standard monomials, each made once; whole when every one has been looked at -/
theorem bf_P {K : Nat} {cor : Nat → al_M} {n : Nat} (h1 : 1 ≤ n) (h4 : n ≤ 4) (h0 : sd_b K cor (0, 0, 0, 0) = true) : ∀ s, (∀ s', s' < s → s' < (bf_l K cor n s').length) →
    (bf_l K cor n s).Nodup ∧ (∀ y, y ∈ bf_l K cor n s → tb_v n y ∧ sd_b K cor y = true) ∧ (0, 0, 0, 0) ∈ bf_l K cor n s ∧
    (∀ y, y ∈ bf_l K cor n s → al_dg y ≠ 0 → ∃ i, i < s ∧ i < (bf_l K cor n s).length ∧ ∃ w, lv_S (fg_B (bf_l K cor n s) i) 4 ≤ w ∧ w < n ∧ y = al_p (fg_B (bf_l K cor n s) i) (tb_x w)) ∧
    (∀ i w, i < s → i < (bf_l K cor n s).length → lv_S (fg_B (bf_l K cor n s) i) 4 ≤ w → w < n → sd_b K cor (al_p (fg_B (bf_l K cor n s) i) (tb_x w)) = true → al_p (fg_B (bf_l K cor n s) i) (tb_x w) ∈ bf_l K cor n s) := by
  intro s
  induction s with
  | zero =>
    intro _
    have e : bf_l K cor n 0 = [(0, 0, 0, 0)] := rfl
    rw [e]
    refine ⟨by simp, fun y hy => ?_, by simp, fun y hy hd => ?_, fun i w hi => by omega⟩
    · rw [List.mem_singleton] at hy
      rw [hy]
      exact ⟨⟨fun _ => rfl, fun _ => rfl, fun _ => rfl⟩, h0⟩
    · rw [List.mem_singleton] at hy
      rw [hy] at hd
      exact absurd rfl hd
  | succ s ih =>
    intro hs
    have hsl := hs s (by omega)
    obtain ⟨i1, i2, i3, i4, i5⟩ := ih (fun s' h => hs s' (by omega))
    have e : bf_l K cor n (s + 1) = bf_l K cor n s ++ ga_c K cor (fg_B (bf_l K cor n s) s) (n - lv_S (fg_B (bf_l K cor n s) s) 4) (lv_S (fg_B (bf_l K cor n s) s) 4) := rfl
    rw [e]
    have hxm := fg_B_mem hsl
    have hlvn : lv_S (fg_B (bf_l K cor n s) s) 4 < n := by
      by_cases hd : al_dg (fg_B (bf_l K cor n s) s) = 0
      · rw [al_dg_0 hd]
        show 0 < n
        omega
      · exact (lv_z hd).2.2 n (i2 _ hxm).1 h1
    generalize hl : bf_l K cor n s = l at *
    generalize hx : fg_B l s = x at *
    have hinj : ∀ i j, i < l.length → j < l.length → fg_B l i = fg_B l j → i = j := by
      intro i j hi hj hij
      unfold fg_B at hij
      rw [List.getElem?_eq_getElem hi, List.getElem?_eq_getElem hj] at hij
      have hpw := List.pairwise_iff_getElem.mp i1
      have hij2 := Option.some.inj (congrArg some hij)
      rcases Nat.lt_trichotomy i j with h | h | h
      · exact absurd hij2 (hpw i j hi hj h)
      · exact h
      · exact absurd hij2.symm (hpw j i hj hi h)
    refine ⟨?_, fun y hy => ?_, List.mem_append_left _ i3, fun y hy hd => ?_, fun i w hi hil hw1 hw2 hsd => ?_⟩
    · rw [List.nodup_append]
      refine ⟨i1, ga_n (by omega), fun a ha b hb hab => ?_⟩
      subst hab
      obtain ⟨w, w1, w2, w3, w4⟩ := ga_d hb
      have hda : al_dg a ≠ 0 := by rw [w3, al_dg_p, tb_x_d]; omega
      obtain ⟨i, j1, j2, w', j3, j4, j5⟩ := i4 a ha hda
      have e1 := lv_u (by omega) w1
      have e2 := lv_u (by omega) j3
      rw [← w3] at e1
      rw [← j5] at e2
      have hww : w = w' := e1.symm.trans e2
      subst hww
      have hxx : x = fg_B l i := al_p_r (w3.symm.trans j5)
      rw [← hx] at hxx
      have := hinj s i hsl j2 hxx
      omega
    · rcases List.mem_append.mp hy with hy | hy
      · exact i2 y hy
      · obtain ⟨w, w1, w2, w3, w4⟩ := ga_d hy
        exact ⟨by rw [w3]; exact tb_v_p (i2 x hxm).1 (tb_x_v (by omega) h4), w4⟩
    · rcases List.mem_append.mp hy with hy | hy
      · obtain ⟨i, j1, j2, w, j3, j4, j5⟩ := i4 y hy hd
        refine ⟨i, by omega, by rw [List.length_append]; omega, w, ?_⟩
        rw [fg_B_app j2]
        exact ⟨j3, j4, j5⟩
      · obtain ⟨w, w1, w2, w3, w4⟩ := ga_d hy
        refine ⟨s, by omega, by rw [List.length_append]; omega, w, ?_⟩
        rw [fg_B_app hsl, hx]
        exact ⟨w1, by omega, w3⟩
    · by_cases his : i = s
      · subst his
        rw [fg_B_app hsl, hx] at hw1 hsd ⊢
        exact List.mem_append_right _ (ga_m hsd hw1 (by omega))
      · have hil2 : i < l.length := by
          have := hs i (by omega)
          have hmono : ∀ a b, a ≤ b → (bf_l K cor n a).length ≤ (bf_l K cor n b).length := by
            intro a b hab
            induction b with
            | zero => rw [show a = 0 by omega]; exact Nat.le_refl _
            | succ b ihb =>
              by_cases hab2 : a = b + 1
              · rw [hab2]; exact Nat.le_refl _
              · have := ihb (by omega)
                rw [bf_l, List.length_append]
                omega
          have h9 := hmono i s (by omega)
          rw [hl] at h9
          omega
        rw [fg_B_app hil2] at hw1 hsd ⊢
        exact List.mem_append_left _ (i5 i w (by omega) hil2 hw1 hw2 hsd)
theorem bf_all {K : Nat} {cor : Nat → al_M} {n s : Nat} (h1 : 1 ≤ n) (h4 : n ≤ 4) (h0 : sd_b K cor (0, 0, 0, 0) = true) (hs : ∀ s', s' < s → s' < (bf_l K cor n s').length) (hl : (bf_l K cor n s).length = s) : ∀ k x, al_dg x = k → tb_v n x → sd_b K cor x = true → x ∈ bf_l K cor n s := by
  obtain ⟨i1, i2, i3, i4, i5⟩ := bf_P h1 h4 h0 s hs
  intro k
  induction k with
  | zero =>
    intro x hx _ _
    rw [al_dg_0 hx]
    exact i3
  | succ k ih =>
    intro x hx hv hsd
    have hd : al_dg x ≠ 0 := by omega
    obtain ⟨z1, z2, z3⟩ := lv_z hd
    have hpar := tb_g_s x (lv_S x 4) z2 (by omega)
    have hlm := lv_m hd
    generalize hy : tb_s x (lv_S x 4) (tb_g x (lv_S x 4) - 1) = y at *
    generalize hw : lv_S x 4 = w at *
    have hdy : al_dg y = k := by
      have := congrArg al_dg hpar
      rw [al_dg_p, tb_x_d] at this
      omega
    have hvy : tb_v n y := by
      rw [← hpar] at hv
      unfold tb_v at *
      simp only [al_p] at hv
      omega
    have hsy : sd_b K cor y = true := by
      rw [sd_i] at hsd ⊢
      intro j hj hle
      exact hsd j hj (al_le_t hle (al_le_i.mpr ⟨tb_x w, hpar.symm⟩))
    have hym := ih y hdy hvy hsy
    obtain ⟨i, hi, hiy⟩ := List.getElem_of_mem hym
    have hiy2 : fg_B (bf_l K cor n s) i = y := by
      unfold fg_B
      rw [List.getElem?_eq_getElem hi]
      exact hiy
    have := i5 i w (by omega) hi (by rw [hiy2]; exact hlm) (z3 n hv h1) (by rw [hiy2, hpar]; exact hsd)
    rw [hiy2, hpar] at this
    exact this
