def sa_E (e : mz_E) (s : Nat) : Prop :=
  (e.2.1 s = some (5, 11) ∧ e.2.2.1 s 3 = some (s + 1) ∧ e.2.2.1 s 4 = some (s + 128) ∧ e.2.2.1 s 5 = some (s + 129) ∧ e.2.2.1 s 6 = some (s + 130) ∧ e.2.2.1 s 7 = some (s + 131) ∧ e.2.2.1 s 8 = some (s + 258) ∧ e.2.2.1 s 9 = some (s + 259) ∧ e.2.2.1 s 10 = some (s + 260)) ∧
  (e.2.1 (s + 1) = some (25, 126) ∧ e.2.1 (s + 128) = some (20, 126) ∧ e.2.1 (s + 129) = some (20, 126) ∧ e.2.1 (s + 130) = some (20, 126) ∧ e.2.1 (s + 131) = some (25, 126) ∧ e.2.1 (s + 258) = some (20, 126) ∧ e.2.1 (s + 259) = some (20, 126) ∧ e.2.1 (s + 260) = some (20, 126)) ∧
  (∀ k, k < 126 → e.2.2.1 (s + 1) k = some (s + 2 + k) ∧ e.2.1 (s + 2 + k) = some (20, 126)) ∧
  (∀ k, k < 126 → e.2.2.1 (s + 131) k = some (s + 132 + k) ∧ e.2.1 (s + 132 + k) = some (20, 126))
def se_R (H : mz_H) (s : Nat) (p : Int) (n d M : Nat) (ld : Nat → Nat) : Prop :=
  (H.2.1 s 0 = d ∧ H.2.1 s 1 = M) ∧ M ≤ tb_F n (d + 1) ∧
  (∀ k, k < M → ld k < tb_F n (d + 1) ∧ H.2.1 (s + 128) k = ld k ∧ H.2.1 (s + 129) (ld k) = k ∧ (∀ j, j < 126 → 0 ≤ H.2.1 (s + 2 + k) j ∧ H.2.1 (s + 2 + k) j < p) ∧ H.2.1 (s + 2 + k) (ld k) = 1 ∧ ∀ j, ld k < j → j < 126 → H.2.1 (s + 2 + k) j = 0) ∧
  (∀ l, l < 126 → H.2.1 (s + 129) l = -1 ∨ ∃ k, k < M ∧ H.2.1 (s + 129) l = k ∧ ld k = l)
theorem se_R.fr {H H' : mz_H} {A : List Nat} {s : Nat} {p : Int} {n d M : Nat} {ld : Nat → Nat} (hs : se_R H s p n d M ld) (h : mz_fr H H' A) (hA : ∀ i, i ≤ 129 → s + i ∉ A) (hM : M ≤ 126) : se_R H' s p n d M ld := by
  have e := fun i hi => h.2.2 (s + i) (hA i hi)
  obtain ⟨⟨a0, a1⟩, a2, a3, a4⟩ := hs
  have e0 := e 0 (by omega)
  rw [Nat.add_zero] at e0
  refine ⟨⟨by rw [e0, a0], by rw [e0, a1]⟩, a2, fun k hk => ?_, fun l hl => ?_⟩
  · have ek := e (2 + k) (by omega)
    rw [← Nat.add_assoc] at ek
    rw [e 128 (by omega), e 129 (by omega), ek]
    exact a3 k hk
  · rw [e 129 (by omega)]
    exact a4 l hl
/- what a reduction leaves: w behind w0, with shares sh -/
def se_W (p : Int) (n d M : Nat) (rw' : Nat → Nat → Int) (w0 w sh : Nat → Int) : Prop :=
  (∀ j, j < 126 → 0 ≤ w j ∧ w j < p ∧ (tb_F n (d + 1) ≤ j → w j = 0)) ∧
  (∀ j, j < 126 → al_e p (w0 j) (w j + al_S M (fun k => sh k * rw' k j))) ∧
  (∀ k, k < 126 → 0 ≤ sh k ∧ sh k < p ∧ (M ≤ k → sh k = 0))
theorem se_W_s {p : Int} (hp : 2 ≤ p) {n d M : Nat} {rw' : Nat → Nat → Int} {w0 w w2 sh sh2 : Nat → Int} (h : se_W p n d M rw' w0 w sh) {i k : Nat} (hi : i < tb_F n (d + 1)) (hk : k < M) (hM : M ≤ 126) (hE : tb_F n (d + 1) ≤ 126)
    (hr : ∀ j, i < j → j < 126 → rw' k j = 0) (hs : sh k = 0) (h2 : ∀ j, w2 j = if j < i + 1 then (w j + (p - w i) * rw' k j) % p else w j) (hs2 : ∀ j, sh2 j = if j = k then w i else sh j) : se_W p n d M rw' w0 w2 sh2 := by
  obtain ⟨a1, a2, a3⟩ := h
  refine ⟨fun j hj => ?_, fun j hj => ?_, fun j hj => ?_⟩
  · rw [h2 j]
    by_cases hji : j < i + 1
    · rw [if_pos hji]
      exact ⟨Int.emod_nonneg _ (by omega), Int.emod_lt_of_pos _ (by omega), fun q => by omega⟩
    · rw [if_neg hji]; exact a1 j hj
  · have e1 : al_S M (fun k' => sh2 k' * rw' k' j) = al_S M (fun k' => sh k' * rw' k' j) + w i * rw' k j := by
      have e2 : al_S M (fun k' => sh2 k' * rw' k' j) = al_S M (fun k' => sh k' * rw' k' j + if k' = k then w i * rw' k' j else 0) := by
        refine al_S_c (fun k' _ => ?_)
        rw [hs2 k']
        by_cases hkk : k' = k
        · rw [if_pos hkk, if_pos hkk, hkk, hs]; omega
        · rw [if_neg hkk, if_neg hkk]; omega
      rw [e2, al_S_a, al_S_1, if_pos hk]
    rw [e1]
    have e3 : al_e p (w2 j) (w j - w i * rw' k j) := by
      rw [h2 j]
      by_cases hji : j < i + 1
      · rw [if_pos hji]
        refine al_e_t (al_e_q p _) ⟨rw' k j, by grind⟩
      · rw [if_neg hji, hr j (by omega) hj]
        exact al_e_of (by omega)
    refine al_e_t (a2 j hj) (al_e_s (al_e_t (al_e_a e3 (al_e_r p _)) (al_e_of ?_)))
    omega
  · rw [hs2 j]
    by_cases hjk : j = k
    · rw [if_pos hjk]
      have := a1 i (by omega)
      exact ⟨this.1, this.2.1, fun q => by omega⟩
    · rw [if_neg hjk]; exact a3 j hj
set_option maxRecDepth 100000 in
theorem lp_reduce {e : mz_E} {d0 : Nat} {s r : Nat} {p all : Int} {n o d M : Nat} {ld : Nat → Nat} {H : mz_H} {P : mz_O → mz_H → Prop} (hG : mx_G e.1) (hR : rg_E e r) (hE : sa_E e s) (hok : tb_ok n o) (hd : d ≤ tb_h n) (hp2 : 2 ≤ p ∧ p < 32768) (hall : all = 0 ∨ all = 1)
    (hS : rg_S H r p n o) (hs : se_R H s p n d M ld) (hrs : ∀ i j, i ≤ 10 → j ≤ 260 → r + i ≠ s + j) {w0 : Nat → Int}
    (hP : ∀ h (rest : Int), mz_fr H h [s + 259, s + 260] → se_W p n d M (fun k => H.2.1 (s + 2 + k)) w0 (h.2.1 (s + 259)) (h.2.1 (s + 260)) → (all = 1 → ∀ k, k < M → h.2.1 (s + 259) (ld k) = 0) →
      ((rest = -1 ∧ ∀ j, j < 126 → h.2.1 (s + 259) j = 0) ∨ ∃ m : Nat, m < tb_F n (d + 1) ∧ rest = m ∧ H.2.1 (s + 129) m = -1 ∧ h.2.1 (s + 259) m ≠ 0 ∧ ∀ j, m < j → j < 126 → h.2.1 (s + 259) j = 0) → P (.inl (some (.inl rest))) h) :
    ∀ i (rest : Int) (H1 : mz_H) o5 o6, i ≤ tb_F n (d + 1) → mz_fr H H1 [s + 259, s + 260] → se_W p n d M (fun k => H.2.1 (s + 2 + k)) w0 (H1.2.1 (s + 259)) (H1.2.1 (s + 260)) →
      (∀ k, k < M → i ≤ ld k → H1.2.1 (s + 259) (ld k) = 0) → (∀ k, k < M → ld k < i → H1.2.1 (s + 260) k = 0) → (all = 0 → rest = -1) →
      ((rest = -1 ∧ ∀ j, i ≤ j → j < 126 → H1.2.1 (s + 259) j = 0) ∨ ∃ m : Nat, i ≤ m ∧ m < tb_F n (d + 1) ∧ rest = m ∧ H.2.1 (s + 129) m = -1 ∧ H1.2.1 (s + 259) m ≠ 0 ∧ ∀ j, m < j → j < 126 → H1.2.1 (s + 259) j = 0) →
      mz_V e (d0 + 2) mm_Space_reduce 23 [some (.inr (.inl s)), some (.inr (.inl r)), some (.inl all), some (.inl rest), some (.inl ((i : Int) - 1)), o5, o6] [] H1 P := by
  have hR' := hR
  have r0' := hR.1
  have hEN := Nat.le_trans (tb_F_N hok (d := d + 1) (by omega)) (tb_N_b n)
  have hM126 := Nat.le_trans hs.2.1 hEN
  obtain ⟨⟨s0, g3, g4, g5, g6, g7, g8, g9, g10⟩, ⟨q1, q128, q129, q130, q131, q258, q259, q260⟩, qr, qc⟩ := hE
  intro i
  induction i with
  | zero =>
    intro rest H1 o5 o6 h0 h1 h2 h3 h4 h5 h6
    apply mz_go hG 60 [23]
    simp only [mf_Space_reduce, ca_Space_reduce, dc_Space_reduce_0, dc_Space_reduce_1, dc_Space_reduce_2, dc_Space_reduce_3, dc_Space_reduce_4, dc_Space_reduce_5, dc_Space_reduce_6, dc_Space_reduce_7, dc_Space_reduce_8, fl_Space, sl_Space, sg_Arrays_fill, sg_Ring_negative, sg_Ring_addMultiple, cpn_space_0, mx_cp_r, s0, g3, g4, g5, g6, g7, g8, g9, g10, q1, q128, q129, q130, q131, q258, q259, q260, mzr_iconst, mzr_bipush, mzr_sipush, mzr_lconst, mzr_iload, mzr_iload_n, mzr_aload, mzr_aload_n, mzr_lload, mzr_lload_n, mzr_istore, mzr_istore_n, mzr_astore, mzr_astore_n, mzr_lstore, mzr_lstore_n, mzr_iinc, mzr_iadd, mzr_isub, mzr_imul, mzr_iand, mzr_ior, mzr_ixor, mzr_ishl, mzr_ishr, mzr_iushr, mzr_idiv, mzr_irem, mzr_ineg, mzr_ladd, mzr_lsub, mzr_lmul, mzr_lrem, mzr_lcmp, mzr_i2l, mzr_l2i, mzr_i2b, mzr_dup, mzr_pop, mzr_dup2, mzr_ifCond_eq, mzr_if_icmp_eq, mzr_ifCond_ne, mzr_if_icmp_ne, mzr_ifCond_lt, mzr_if_icmp_lt, mzr_ifCond_ge, mzr_if_icmp_ge, mzr_ifCond_gt, mzr_if_icmp_gt, mzr_ifCond_le, mzr_if_icmp_le, mzr_goto, mzr_iaload, mzr_baload, mzr_laload, mzr_aaload, mzr_iastore, mzr_bastore, mzr_lastore, mzr_arraylength, mzr_getfield, mzr_putfield, mzr_getstatic, mzr_ldc, mzr_ldc_w, mzr_ldc2_w, mzr_ireturn, mzr_return_, mzr_copy, mzr_static, mzr_virtual, mzr_new, mz_tk, mz_dp, mz_ln, mz_sz, mz_af_v, mz_af_s, mz_wp_s, mz_w1, mz_g, mz_st, mz_k, mz_s2, mz_nx, mz_en, mx_to, mz_c1, ↓reduceIte, Nat.reduceAdd, Nat.reduceSub, Nat.reduceMul, Nat.reduceMod, Nat.reduceDiv, Nat.reduceEqDiff, Nat.reduceLeDiff, Nat.reduceLT, Int.reduceAdd, Int.reduceSub, Int.reduceNeg, Int.reduceMul, Int.reduceLE, Int.reduceLT, Int.reduceEq, Int.reduceToNat, Int.reduceNegSucc, Int.cast_ofNat_Int, Int32.reduceToInt, Int64.reduceToInt, Int.zero_add, Int.add_zero, Fin.isValue, Fin.val_zero, Fin.val_one, Fin.val_two, reduceCtorEq, or_false, false_or, or_true, true_or, or_self, and_true, true_and, and_self, not_true_eq_false, not_false_eq_true, implies_true, forall_const, List.mem_cons, List.not_mem_nil, false_implies, true_implies, imp_false, Nat.zero_add, Option.some.injEq, Prod.mk.injEq]
    repeat' first | omega | refine mz_it (fun hh => ?_) (fun hh => ?_) | refine And.intro ?_ ?_
    refine hP H1 rest h1 h2 (fun _ k hk => h3 k hk (by omega)) ?_
    rcases h6 with ⟨a, b⟩ | ⟨m, a, b⟩
    · exact Or.inl ⟨a, fun j hj => b j (by omega) hj⟩
    · exact Or.inr ⟨m, b⟩
  | succ i ih =>
    intro rest H1 o5 o6 h0 h1 h2 h3 h4 h5 h6
    have hi : i < tb_F n (d + 1) := by omega
    have h5' : rest = -1 ∨ all ≠ 0 := by
      by_cases q : all = 0
      · exact Or.inl (h5 q)
      · exact Or.inr q
    have z1 : H1.2.1 (s + 129) i = H.2.1 (s + 129) i := by rw [h1.2.2 (s + 129) (by simp)]
    have w1 := h2.1 i (by omega)
    rw [show ((i + 1 : Nat) : Int) - 1 = (i : Int) by omega]
    generalize hc : H1.2.1 (s + 259) i = c at *
    by_cases hc0 : c = 0
    · subst hc0
      have cont : ∀ o5 o6, mz_V e (d0 + 2) mm_Space_reduce 23 [some (.inr (.inl s)), some (.inr (.inl r)), some (.inl all), some (.inl rest), some (.inl ((i : Int) - 1)), o5, o6] [] H1 P := by
        intro o5 o6
        refine ih rest H1 o5 o6 (by omega) h1 h2 (fun k hk hl => ?_) (fun k hk hl => h4 k hk (by omega)) h5 ?_
        · by_cases hki : ld k = i
          · rw [hki, hc]
          · exact h3 k hk (by omega)
        · rcases h6 with ⟨a, b⟩ | ⟨m, a, b⟩
          · refine Or.inl ⟨a, fun j hj hj2 => ?_⟩
            by_cases hji : j = i
            · rw [hji, hc]
            · exact b j (by omega) hj2
          · exact Or.inr ⟨m, by omega, b⟩
      apply mz_go hG 60 [23]
      simp only [mf_Space_reduce, ca_Space_reduce, dc_Space_reduce_0, dc_Space_reduce_1, dc_Space_reduce_2, dc_Space_reduce_3, dc_Space_reduce_4, dc_Space_reduce_5, dc_Space_reduce_6, dc_Space_reduce_7, dc_Space_reduce_8, fl_Space, sl_Space, sg_Arrays_fill, sg_Ring_negative, sg_Ring_addMultiple, cpn_space_0, mx_cp_r, s0, g3, g4, g5, g6, g7, g8, g9, g10, q1, q128, q129, q130, q131, q258, q259, q260, z1, hc, Int.toNat_natCast, mzr_iconst, mzr_bipush, mzr_sipush, mzr_lconst, mzr_iload, mzr_iload_n, mzr_aload, mzr_aload_n, mzr_lload, mzr_lload_n, mzr_istore, mzr_istore_n, mzr_astore, mzr_astore_n, mzr_lstore, mzr_lstore_n, mzr_iinc, mzr_iadd, mzr_isub, mzr_imul, mzr_iand, mzr_ior, mzr_ixor, mzr_ishl, mzr_ishr, mzr_iushr, mzr_idiv, mzr_irem, mzr_ineg, mzr_ladd, mzr_lsub, mzr_lmul, mzr_lrem, mzr_lcmp, mzr_i2l, mzr_l2i, mzr_i2b, mzr_dup, mzr_pop, mzr_dup2, mzr_ifCond_eq, mzr_if_icmp_eq, mzr_ifCond_ne, mzr_if_icmp_ne, mzr_ifCond_lt, mzr_if_icmp_lt, mzr_ifCond_ge, mzr_if_icmp_ge, mzr_ifCond_gt, mzr_if_icmp_gt, mzr_ifCond_le, mzr_if_icmp_le, mzr_goto, mzr_iaload, mzr_baload, mzr_laload, mzr_aaload, mzr_iastore, mzr_bastore, mzr_lastore, mzr_arraylength, mzr_getfield, mzr_putfield, mzr_getstatic, mzr_ldc, mzr_ldc_w, mzr_ldc2_w, mzr_ireturn, mzr_return_, mzr_copy, mzr_static, mzr_virtual, mzr_new, mz_tk, mz_dp, mz_ln, mz_sz, mz_af_v, mz_af_s, mz_wp_s, mz_w1, mz_g, mz_st, mz_k, mz_s2, mz_nx, mz_en, mx_to, mz_c1, ↓reduceIte, Nat.reduceAdd, Nat.reduceSub, Nat.reduceMul, Nat.reduceMod, Nat.reduceDiv, Nat.reduceEqDiff, Nat.reduceLeDiff, Nat.reduceLT, Int.reduceAdd, Int.reduceSub, Int.reduceNeg, Int.reduceMul, Int.reduceLE, Int.reduceLT, Int.reduceEq, Int.reduceToNat, Int.reduceNegSucc, Int.cast_ofNat_Int, Int32.reduceToInt, Int64.reduceToInt, Int.zero_add, Int.add_zero, Fin.isValue, Fin.val_zero, Fin.val_one, Fin.val_two, reduceCtorEq, or_false, false_or, or_true, true_or, or_self, and_true, true_and, and_self, not_true_eq_false, not_false_eq_true, implies_true, forall_const, List.mem_cons, List.not_mem_nil, false_implies, true_implies, imp_false, Nat.zero_add, Option.some.injEq, Prod.mk.injEq]
      repeat' first | omega | refine mz_it (fun hh => ?_) (fun hh => ?_) | refine And.intro ?_ ?_
      all_goals
        rw [show (i : Int) + -1 = (i : Int) - 1 by omega]
        exact cont _ _
    · rcases hs.2.2.2 i (by omega) with hrow | ⟨k, hk, hrow, hld⟩
      · rw [hrow] at z1
        have h4' : ∀ k, k < M → ld k < i → H1.2.1 (s + 260) k = 0 := fun k hk hl => h4 k hk (by omega)
        have h3' : ∀ k, k < M → i ≤ ld k → H1.2.1 (s + 259) (ld k) = 0 := by
          intro k hk hl
          by_cases hki : ld k = i
          · have := (hs.2.2.1 k hk).2.2.1
            rw [hki, hrow] at this
            omega
          · exact h3 k hk (by omega)
        rcases h6 with ⟨a, b⟩ | ⟨m, a, b1, b2, b3, b4, b5⟩
        · subst a
          apply mz_go hG 60 [23]
          simp only [mf_Space_reduce, ca_Space_reduce, dc_Space_reduce_0, dc_Space_reduce_1, dc_Space_reduce_2, dc_Space_reduce_3, dc_Space_reduce_4, dc_Space_reduce_5, dc_Space_reduce_6, dc_Space_reduce_7, dc_Space_reduce_8, fl_Space, sl_Space, sg_Arrays_fill, sg_Ring_negative, sg_Ring_addMultiple, cpn_space_0, mx_cp_r, s0, g3, g4, g5, g6, g7, g8, g9, g10, q1, q128, q129, q130, q131, q258, q259, q260, z1, hc, Int.toNat_natCast, mzr_iconst, mzr_bipush, mzr_sipush, mzr_lconst, mzr_iload, mzr_iload_n, mzr_aload, mzr_aload_n, mzr_lload, mzr_lload_n, mzr_istore, mzr_istore_n, mzr_astore, mzr_astore_n, mzr_lstore, mzr_lstore_n, mzr_iinc, mzr_iadd, mzr_isub, mzr_imul, mzr_iand, mzr_ior, mzr_ixor, mzr_ishl, mzr_ishr, mzr_iushr, mzr_idiv, mzr_irem, mzr_ineg, mzr_ladd, mzr_lsub, mzr_lmul, mzr_lrem, mzr_lcmp, mzr_i2l, mzr_l2i, mzr_i2b, mzr_dup, mzr_pop, mzr_dup2, mzr_ifCond_eq, mzr_if_icmp_eq, mzr_ifCond_ne, mzr_if_icmp_ne, mzr_ifCond_lt, mzr_if_icmp_lt, mzr_ifCond_ge, mzr_if_icmp_ge, mzr_ifCond_gt, mzr_if_icmp_gt, mzr_ifCond_le, mzr_if_icmp_le, mzr_goto, mzr_iaload, mzr_baload, mzr_laload, mzr_aaload, mzr_iastore, mzr_bastore, mzr_lastore, mzr_arraylength, mzr_getfield, mzr_putfield, mzr_getstatic, mzr_ldc, mzr_ldc_w, mzr_ldc2_w, mzr_ireturn, mzr_return_, mzr_copy, mzr_static, mzr_virtual, mzr_new, mz_tk, mz_dp, mz_ln, mz_sz, mz_af_v, mz_af_s, mz_wp_s, mz_w1, mz_g, mz_st, mz_k, mz_s2, mz_nx, mz_en, mx_to, mz_c1, ↓reduceIte, Nat.reduceAdd, Nat.reduceSub, Nat.reduceMul, Nat.reduceMod, Nat.reduceDiv, Nat.reduceEqDiff, Nat.reduceLeDiff, Nat.reduceLT, Int.reduceAdd, Int.reduceSub, Int.reduceNeg, Int.reduceMul, Int.reduceLE, Int.reduceLT, Int.reduceEq, Int.reduceToNat, Int.reduceNegSucc, Int.cast_ofNat_Int, Int32.reduceToInt, Int64.reduceToInt, Int.zero_add, Int.add_zero, Fin.isValue, Fin.val_zero, Fin.val_one, Fin.val_two, reduceCtorEq, or_false, false_or, or_true, true_or, or_self, and_true, true_and, and_self, not_true_eq_false, not_false_eq_true, implies_true, forall_const, List.mem_cons, List.not_mem_nil, false_implies, true_implies, imp_false, Nat.zero_add, Option.some.injEq, Prod.mk.injEq]
          repeat' first | omega | refine mz_it (fun hh => ?_) (fun hh => ?_) | refine And.intro ?_ ?_
          · exact hP H1 i h1 h2 (fun q => by omega) (Or.inr ⟨i, hi, rfl, hrow, by rw [hc]; exact hc0, fun j hj hj2 => b j (by omega) hj2⟩)
          · rw [show (i : Int) + -1 = (i : Int) - 1 by omega]
            exact ih i H1 _ _ (by omega) h1 h2 h3' h4' (fun q => by omega) (Or.inr ⟨i, by omega, hi, rfl, hrow, by rw [hc]; exact hc0, fun j hj hj2 => b j (by omega) hj2⟩)
        · have hr1 : rest ≠ -1 := by omega
          apply mz_go hG 60 [23]
          simp only [mf_Space_reduce, ca_Space_reduce, dc_Space_reduce_0, dc_Space_reduce_1, dc_Space_reduce_2, dc_Space_reduce_3, dc_Space_reduce_4, dc_Space_reduce_5, dc_Space_reduce_6, dc_Space_reduce_7, dc_Space_reduce_8, fl_Space, sl_Space, sg_Arrays_fill, sg_Ring_negative, sg_Ring_addMultiple, cpn_space_0, mx_cp_r, s0, g3, g4, g5, g6, g7, g8, g9, g10, q1, q128, q129, q130, q131, q258, q259, q260, z1, hc, Int.toNat_natCast, mzr_iconst, mzr_bipush, mzr_sipush, mzr_lconst, mzr_iload, mzr_iload_n, mzr_aload, mzr_aload_n, mzr_lload, mzr_lload_n, mzr_istore, mzr_istore_n, mzr_astore, mzr_astore_n, mzr_lstore, mzr_lstore_n, mzr_iinc, mzr_iadd, mzr_isub, mzr_imul, mzr_iand, mzr_ior, mzr_ixor, mzr_ishl, mzr_ishr, mzr_iushr, mzr_idiv, mzr_irem, mzr_ineg, mzr_ladd, mzr_lsub, mzr_lmul, mzr_lrem, mzr_lcmp, mzr_i2l, mzr_l2i, mzr_i2b, mzr_dup, mzr_pop, mzr_dup2, mzr_ifCond_eq, mzr_if_icmp_eq, mzr_ifCond_ne, mzr_if_icmp_ne, mzr_ifCond_lt, mzr_if_icmp_lt, mzr_ifCond_ge, mzr_if_icmp_ge, mzr_ifCond_gt, mzr_if_icmp_gt, mzr_ifCond_le, mzr_if_icmp_le, mzr_goto, mzr_iaload, mzr_baload, mzr_laload, mzr_aaload, mzr_iastore, mzr_bastore, mzr_lastore, mzr_arraylength, mzr_getfield, mzr_putfield, mzr_getstatic, mzr_ldc, mzr_ldc_w, mzr_ldc2_w, mzr_ireturn, mzr_return_, mzr_copy, mzr_static, mzr_virtual, mzr_new, mz_tk, mz_dp, mz_ln, mz_sz, mz_af_v, mz_af_s, mz_wp_s, mz_w1, mz_g, mz_st, mz_k, mz_s2, mz_nx, mz_en, mx_to, mz_c1, ↓reduceIte, Nat.reduceAdd, Nat.reduceSub, Nat.reduceMul, Nat.reduceMod, Nat.reduceDiv, Nat.reduceEqDiff, Nat.reduceLeDiff, Nat.reduceLT, Int.reduceAdd, Int.reduceSub, Int.reduceNeg, Int.reduceMul, Int.reduceLE, Int.reduceLT, Int.reduceEq, Int.reduceToNat, Int.reduceNegSucc, Int.cast_ofNat_Int, Int32.reduceToInt, Int64.reduceToInt, Int.zero_add, Int.add_zero, Fin.isValue, Fin.val_zero, Fin.val_one, Fin.val_two, reduceCtorEq, or_false, false_or, or_true, true_or, or_self, and_true, true_and, and_self, not_true_eq_false, not_false_eq_true, implies_true, forall_const, List.mem_cons, List.not_mem_nil, false_implies, true_implies, imp_false, Nat.zero_add, Option.some.injEq, Prod.mk.injEq]
          repeat' first | omega | refine mz_it (fun hh => ?_) (fun hh => ?_) | refine And.intro ?_ ?_
          rw [show (i : Int) + -1 = (i : Int) - 1 by omega]
          exact ih rest H1 _ _ (by omega) h1 h2 h3' h4' h5 (Or.inr ⟨m, by omega, b1, b2, b3, b4, b5⟩)
      · rw [hrow] at z1
        obtain ⟨l1, l2, l3, l4, l5, l6⟩ := hs.2.2.1 k hk
        rw [hld] at l1 l2 l3 l5 l6
        have k126 : k < 126 := by omega
        have t1 := (qr k k126).1
        have t2 := (qr k k126).2
        have f1 : mz_fr H1 (mz_w H1 (s + 260) k c) [s + 260] := mz_fr.w _ _ _ _ (by simp)
        have fA : mz_fr H (mz_w H1 (s + 260) k c) [s + 259, s + 260] := h1.tr (f1.mono (by simp))
        have hSA := hS.fr fA (fun j hj => by simp; exact ⟨hrs j 259 (by omega) (by omega), hrs j 260 (by omega) (by omega)⟩)
        have y1 : (mz_w H1 (s + 260) k c).2.1 (s + 259) = H1.2.1 (s + 259) := f1.2.2 _ (by simp)
        have y2 : (mz_w H1 (s + 260) k c).2.1 (s + 2 + k) = H.2.1 (s + 2 + k) := fA.2.2 _ (by simp; omega)
        apply mz_go hG 60 [23]
        simp only [mf_Space_reduce, ca_Space_reduce, dc_Space_reduce_0, dc_Space_reduce_1, dc_Space_reduce_2, dc_Space_reduce_3, dc_Space_reduce_4, dc_Space_reduce_5, dc_Space_reduce_6, dc_Space_reduce_7, dc_Space_reduce_8, fl_Space, sl_Space, sg_Arrays_fill, sg_Ring_negative, sg_Ring_addMultiple, cpn_space_0, mx_cp_r, s0, g3, g4, g5, g6, g7, g8, g9, g10, q1, q128, q129, q130, q131, q258, q259, q260, z1, hc, r0', t1, t2, Int.toNat_natCast, mzr_iconst, mzr_bipush, mzr_sipush, mzr_lconst, mzr_iload, mzr_iload_n, mzr_aload, mzr_aload_n, mzr_lload, mzr_lload_n, mzr_istore, mzr_istore_n, mzr_astore, mzr_astore_n, mzr_lstore, mzr_lstore_n, mzr_iinc, mzr_iadd, mzr_isub, mzr_imul, mzr_iand, mzr_ior, mzr_ixor, mzr_ishl, mzr_ishr, mzr_iushr, mzr_idiv, mzr_irem, mzr_ineg, mzr_ladd, mzr_lsub, mzr_lmul, mzr_lrem, mzr_lcmp, mzr_i2l, mzr_l2i, mzr_i2b, mzr_dup, mzr_pop, mzr_dup2, mzr_ifCond_eq, mzr_if_icmp_eq, mzr_ifCond_ne, mzr_if_icmp_ne, mzr_ifCond_lt, mzr_if_icmp_lt, mzr_ifCond_ge, mzr_if_icmp_ge, mzr_ifCond_gt, mzr_if_icmp_gt, mzr_ifCond_le, mzr_if_icmp_le, mzr_goto, mzr_iaload, mzr_baload, mzr_laload, mzr_aaload, mzr_iastore, mzr_bastore, mzr_lastore, mzr_arraylength, mzr_getfield, mzr_putfield, mzr_getstatic, mzr_ldc, mzr_ldc_w, mzr_ldc2_w, mzr_ireturn, mzr_return_, mzr_copy, mzr_static, mzr_virtual, mzr_new, mz_tk, mz_dp, mz_ln, mz_sz, mz_af_v, mz_af_s, mz_wp_s, mz_w1, mz_g, mz_st, mz_k, mz_s2, mz_nx, mz_en, mx_to, mz_c1, ↓reduceIte, Nat.reduceAdd, Nat.reduceSub, Nat.reduceMul, Nat.reduceMod, Nat.reduceDiv, Nat.reduceEqDiff, Nat.reduceLeDiff, Nat.reduceLT, Int.reduceAdd, Int.reduceSub, Int.reduceNeg, Int.reduceMul, Int.reduceLE, Int.reduceLT, Int.reduceEq, Int.reduceToNat, Int.reduceNegSucc, Int.cast_ofNat_Int, Int32.reduceToInt, Int64.reduceToInt, Int.zero_add, Int.add_zero, Fin.isValue, Fin.val_zero, Fin.val_one, Fin.val_two, reduceCtorEq, or_false, false_or, or_true, true_or, or_self, and_true, true_and, and_self, not_true_eq_false, not_false_eq_true, implies_true, forall_const, List.mem_cons, List.not_mem_nil, false_implies, true_implies, imp_false, Nat.zero_add, Option.some.injEq, Prod.mk.injEq]
        repeat' first | omega | refine mz_it (fun hh => ?_) (fun hh => ?_) | refine And.intro ?_ ?_
        refine ct_negative (d0 + 1) hG hR' hSA.1 hp2 ⟨w1.1, by omega⟩ ?_
        rw [if_neg hc0]
        simp only [mf_Space_reduce, ca_Space_reduce, dc_Space_reduce_0, dc_Space_reduce_1, dc_Space_reduce_2, dc_Space_reduce_3, dc_Space_reduce_4, dc_Space_reduce_5, dc_Space_reduce_6, dc_Space_reduce_7, dc_Space_reduce_8, fl_Space, sl_Space, sg_Arrays_fill, sg_Ring_negative, sg_Ring_addMultiple, cpn_space_0, mx_cp_r, s0, g3, g4, g5, g6, g7, g8, g9, g10, q1, q128, q129, q130, q131, q258, q259, q260, z1, hc, r0', t1, t2, Int.toNat_natCast, mzr_iconst, mzr_bipush, mzr_sipush, mzr_lconst, mzr_iload, mzr_iload_n, mzr_aload, mzr_aload_n, mzr_lload, mzr_lload_n, mzr_istore, mzr_istore_n, mzr_astore, mzr_astore_n, mzr_lstore, mzr_lstore_n, mzr_iinc, mzr_iadd, mzr_isub, mzr_imul, mzr_iand, mzr_ior, mzr_ixor, mzr_ishl, mzr_ishr, mzr_iushr, mzr_idiv, mzr_irem, mzr_ineg, mzr_ladd, mzr_lsub, mzr_lmul, mzr_lrem, mzr_lcmp, mzr_i2l, mzr_l2i, mzr_i2b, mzr_dup, mzr_pop, mzr_dup2, mzr_ifCond_eq, mzr_if_icmp_eq, mzr_ifCond_ne, mzr_if_icmp_ne, mzr_ifCond_lt, mzr_if_icmp_lt, mzr_ifCond_ge, mzr_if_icmp_ge, mzr_ifCond_gt, mzr_if_icmp_gt, mzr_ifCond_le, mzr_if_icmp_le, mzr_goto, mzr_iaload, mzr_baload, mzr_laload, mzr_aaload, mzr_iastore, mzr_bastore, mzr_lastore, mzr_arraylength, mzr_getfield, mzr_putfield, mzr_getstatic, mzr_ldc, mzr_ldc_w, mzr_ldc2_w, mzr_ireturn, mzr_return_, mzr_copy, mzr_static, mzr_virtual, mzr_new, mz_tk, mz_dp, mz_ln, mz_sz, mz_af_v, mz_af_s, mz_wp_s, mz_w1, mz_g, mz_st, mz_k, mz_s2, mz_nx, mz_en, mx_to, mz_c1, ↓reduceIte, Nat.reduceAdd, Nat.reduceSub, Nat.reduceMul, Nat.reduceMod, Nat.reduceDiv, Nat.reduceEqDiff, Nat.reduceLeDiff, Nat.reduceLT, Int.reduceAdd, Int.reduceSub, Int.reduceNeg, Int.reduceMul, Int.reduceLE, Int.reduceLT, Int.reduceEq, Int.reduceToNat, Int.reduceNegSucc, Int.cast_ofNat_Int, Int32.reduceToInt, Int64.reduceToInt, Int.zero_add, Int.add_zero, Fin.isValue, Fin.val_zero, Fin.val_one, Fin.val_two, reduceCtorEq, or_false, false_or, or_true, true_or, or_self, and_true, true_and, and_self, not_true_eq_false, not_false_eq_true, implies_true, forall_const, List.mem_cons, List.not_mem_nil, false_implies, true_implies, imp_false, Nat.zero_add, Option.some.injEq, Prod.mk.injEq]
        repeat' first | omega | refine mz_it (fun hh => ?_) (fun hh => ?_) | refine And.intro ?_ ?_
        rw [show (i : Int) + 1 = ((i + 1 : Nat) : Int) by omega]
        refine ct_addMultiple (d0 + 1) hG hR' hSA.1 q259 t2 (by omega) hp2 ⟨by omega, by omega⟩ (by omega) (fun m hm => by rw [y1]; exact ⟨(h2.1 m (by omega)).1, (h2.1 m (by omega)).2.1⟩) (fun m hm => by rw [y2]; exact l4 m (by omega)) (fun H2 f2 hv2 => ?_)
        rw [y1, y2] at hv2
        have f3 : mz_fr H H2 [s + 259, s + 260] := fA.tr (f2.mono (by simp))
        have y3 : H2.2.1 (s + 260) = (mz_w H1 (s + 260) k c).2.1 (s + 260) := f2.2.2 _ (by simp)
        have hw2 : se_W p n d M (fun k => H.2.1 (s + 2 + k)) w0 (H2.2.1 (s + 259)) (H2.2.1 (s + 260)) := by
          refine se_W_s (i := i) (k := k) (by omega) h2 hi hk hM126 hEN (fun j hj hj2 => l6 j hj hj2) (h4 k hk (by omega)) (fun j => ?_) (fun j => ?_)
          · rw [hv2 j, hc]
          · rw [y3, mz_w_g, hc]
            by_cases hjk : j = k
            · rw [if_pos ⟨rfl, hjk⟩, if_pos hjk]
            · rw [if_neg (fun q => hjk q.2), if_neg hjk]
        have wi : H2.2.1 (s + 259) i = 0 := by
          rw [hv2 i, if_pos (by omega), hc, l5, Int.mul_one, show c + (p - c) = p by omega, Int.emod_self]
        have wj : ∀ j, i < j → H2.2.1 (s + 259) j = H1.2.1 (s + 259) j := fun j hj => by rw [hv2 j, if_neg (by omega)]
        have cont : ∀ o5 o6, mz_V e (d0 + 2) mm_Space_reduce 23 [some (.inr (.inl s)), some (.inr (.inl r)), some (.inl all), some (.inl rest), some (.inl ((i : Int) - 1)), o5, o6] [] H2 P := by
          intro o5 o6
          refine ih rest H2 o5 o6 (by omega) f3 hw2 (fun k' hk' hl => ?_) (fun k' hk' hl => ?_) h5 ?_
          · by_cases hki : ld k' = i
            · rw [hki, wi]
            · rw [wj _ (by omega)]; exact h3 k' hk' (by omega)
          · rw [y3, mz_w_g, if_neg (fun q => by rw [q.2, hld] at hl; omega)]
            exact h4 k' hk' (by omega)
          · rcases h6 with ⟨a, b⟩ | ⟨m, a, b1, b2, b3, b4, b5⟩
            · refine Or.inl ⟨a, fun j hj hj2 => ?_⟩
              by_cases hji : j = i
              · rw [hji, wi]
              · rw [wj j (by omega)]; exact b j (by omega) hj2
            · exact Or.inr ⟨m, by omega, b1, b2, b3, by rw [wj m (by omega)]; exact b4, fun j hj hj2 => by rw [wj j (by omega)]; exact b5 j hj hj2⟩
        simp only [mf_Space_reduce, ca_Space_reduce, dc_Space_reduce_0, dc_Space_reduce_1, dc_Space_reduce_2, dc_Space_reduce_3, dc_Space_reduce_4, dc_Space_reduce_5, dc_Space_reduce_6, dc_Space_reduce_7, dc_Space_reduce_8, fl_Space, sl_Space, sg_Arrays_fill, sg_Ring_negative, sg_Ring_addMultiple, cpn_space_0, mx_cp_r, s0, g3, g4, g5, g6, g7, g8, g9, g10, q1, q128, q129, q130, q131, q258, q259, q260, z1, hc, r0', t1, t2, Int.toNat_natCast, mzr_iconst, mzr_bipush, mzr_sipush, mzr_lconst, mzr_iload, mzr_iload_n, mzr_aload, mzr_aload_n, mzr_lload, mzr_lload_n, mzr_istore, mzr_istore_n, mzr_astore, mzr_astore_n, mzr_lstore, mzr_lstore_n, mzr_iinc, mzr_iadd, mzr_isub, mzr_imul, mzr_iand, mzr_ior, mzr_ixor, mzr_ishl, mzr_ishr, mzr_iushr, mzr_idiv, mzr_irem, mzr_ineg, mzr_ladd, mzr_lsub, mzr_lmul, mzr_lrem, mzr_lcmp, mzr_i2l, mzr_l2i, mzr_i2b, mzr_dup, mzr_pop, mzr_dup2, mzr_ifCond_eq, mzr_if_icmp_eq, mzr_ifCond_ne, mzr_if_icmp_ne, mzr_ifCond_lt, mzr_if_icmp_lt, mzr_ifCond_ge, mzr_if_icmp_ge, mzr_ifCond_gt, mzr_if_icmp_gt, mzr_ifCond_le, mzr_if_icmp_le, mzr_goto, mzr_iaload, mzr_baload, mzr_laload, mzr_aaload, mzr_iastore, mzr_bastore, mzr_lastore, mzr_arraylength, mzr_getfield, mzr_putfield, mzr_getstatic, mzr_ldc, mzr_ldc_w, mzr_ldc2_w, mzr_ireturn, mzr_return_, mzr_copy, mzr_static, mzr_virtual, mzr_new, mz_tk, mz_dp, mz_ln, mz_sz, mz_af_v, mz_af_s, mz_wp_s, mz_w1, mz_g, mz_st, mz_k, mz_s2, mz_nx, mz_en, mx_to, mz_c1, ↓reduceIte, Nat.reduceAdd, Nat.reduceSub, Nat.reduceMul, Nat.reduceMod, Nat.reduceDiv, Nat.reduceEqDiff, Nat.reduceLeDiff, Nat.reduceLT, Int.reduceAdd, Int.reduceSub, Int.reduceNeg, Int.reduceMul, Int.reduceLE, Int.reduceLT, Int.reduceEq, Int.reduceToNat, Int.reduceNegSucc, Int.cast_ofNat_Int, Int32.reduceToInt, Int64.reduceToInt, Int.zero_add, Int.add_zero, Fin.isValue, Fin.val_zero, Fin.val_one, Fin.val_two, reduceCtorEq, or_false, false_or, or_true, true_or, or_self, and_true, true_and, and_self, not_true_eq_false, not_false_eq_true, implies_true, forall_const, List.mem_cons, List.not_mem_nil, false_implies, true_implies, imp_false, Nat.zero_add, Option.some.injEq, Prod.mk.injEq]
        repeat' first | omega | refine mz_it (fun hh => ?_) (fun hh => ?_) | refine And.intro ?_ ?_
        all_goals
          rw [show (i : Int) + -1 = (i : Int) - 1 by omega]
          exact cont _ _
set_option maxRecDepth 100000 in
theorem ct_reduce {e : mz_E} (d0 : Nat) {s r : Nat} {p all : Int} {n o d M : Nat} {ld : Nat → Nat} {H : mz_H} {P : mz_O → mz_H → Prop} (hG : mx_G e.1) (hR : rg_E e r) (hE : sa_E e s) (hok : tb_ok n o) (hd : d ≤ tb_h n) (hp2 : 2 ≤ p ∧ p < 32768) (hall : all = 0 ∨ all = 1)
    (hS : rg_S H r p n o) (hs : se_R H s p n d M ld) (hrs : ∀ i j, i ≤ 10 → j ≤ 260 → r + i ≠ s + j) (hw : ∀ j, j < 126 → 0 ≤ H.2.1 (s + 259) j ∧ H.2.1 (s + 259) j < p ∧ (tb_F n (d + 1) ≤ j → H.2.1 (s + 259) j = 0))
    (hP : ∀ h (rest : Int), mz_fr H h [s + 259, s + 260] → se_W p n d M (fun k => H.2.1 (s + 2 + k)) (H.2.1 (s + 259)) (h.2.1 (s + 259)) (h.2.1 (s + 260)) → (all = 1 → ∀ k, k < M → h.2.1 (s + 259) (ld k) = 0) →
      ((rest = -1 ∧ ∀ j, j < 126 → h.2.1 (s + 259) j = 0) ∨ ∃ m : Nat, m < tb_F n (d + 1) ∧ rest = m ∧ H.2.1 (s + 129) m = -1 ∧ h.2.1 (s + 259) m ≠ 0 ∧ ∀ j, m < j → j < 126 → h.2.1 (s + 259) j = 0) → P (.inl (some (.inl rest))) h) :
    mz_CA e (d0 + 2) j_Space_reduce [.inr (.inl s), .inr (.inl r), .inl all] H P := by
  have hR' := hR
  have hE' := hE
  have hEN := Nat.le_trans (tb_F_N hok (d := d + 1) (by omega)) (tb_N_b n)
  have hM126 := Nat.le_trans hs.2.1 hEN
  have hh30 := tb_h_b n
  obtain ⟨r0, f5, f6, f7, f8, f9, f10, f11, f12, f13, f14, k1, k2, k3, k4, k5, k6, k7, k8, k9, k10⟩ := hR
  obtain ⟨⟨s0, g3, g4, g5, g6, g7, g8, g9, g10⟩, ⟨q1, q128, q129, q130, q131, q258, q259, q260⟩, qr, qc⟩ := hE
  refine mz_CA_of mr_Space_reduce ?_
  simp only [mf_Space_reduce, mz_en, List.replicate, Nat.reduceSub, Nat.reduceAdd, Nat.reduceMul]
  apply mz_go hG 60 [23]
  simp only [mf_Space_reduce, ca_Space_reduce, dc_Space_reduce_0, dc_Space_reduce_1, dc_Space_reduce_2, dc_Space_reduce_3, dc_Space_reduce_4, dc_Space_reduce_5, dc_Space_reduce_6, dc_Space_reduce_7, dc_Space_reduce_8, fl_Space, sl_Space, sg_Arrays_fill, sg_Ring_negative, sg_Ring_addMultiple, cpn_space_0, mx_cp_r, s0, g3, g4, g5, g6, g7, g8, g9, g10, q1, q128, q129, q130, q131, q258, q259, q260, r0, f5, f6, f7, f8, f9, f10, f11, f12, f13, f14, k1, k2, k3, k4, k5, k6, k7, k8, k9, k10, mzr_iconst, mzr_bipush, mzr_sipush, mzr_lconst, mzr_iload, mzr_iload_n, mzr_aload, mzr_aload_n, mzr_lload, mzr_lload_n, mzr_istore, mzr_istore_n, mzr_astore, mzr_astore_n, mzr_lstore, mzr_lstore_n, mzr_iinc, mzr_iadd, mzr_isub, mzr_imul, mzr_iand, mzr_ior, mzr_ixor, mzr_ishl, mzr_ishr, mzr_iushr, mzr_idiv, mzr_irem, mzr_ineg, mzr_ladd, mzr_lsub, mzr_lmul, mzr_lrem, mzr_lcmp, mzr_i2l, mzr_l2i, mzr_i2b, mzr_dup, mzr_pop, mzr_dup2, mzr_ifCond_eq, mzr_if_icmp_eq, mzr_ifCond_ne, mzr_if_icmp_ne, mzr_ifCond_lt, mzr_if_icmp_lt, mzr_ifCond_ge, mzr_if_icmp_ge, mzr_ifCond_gt, mzr_if_icmp_gt, mzr_ifCond_le, mzr_if_icmp_le, mzr_goto, mzr_iaload, mzr_baload, mzr_laload, mzr_aaload, mzr_iastore, mzr_bastore, mzr_lastore, mzr_arraylength, mzr_getfield, mzr_putfield, mzr_getstatic, mzr_ldc, mzr_ldc_w, mzr_ldc2_w, mzr_ireturn, mzr_return_, mzr_copy, mzr_static, mzr_virtual, mzr_new, mz_tk, mz_dp, mz_ln, mz_sz, mz_af_v, mz_af_s, mz_wp_s, mz_w1, mz_g, mz_st, mz_k, mz_s2, mz_nx, mz_en, mx_to, mz_c1, ↓reduceIte, Nat.reduceAdd, Nat.reduceSub, Nat.reduceMul, Nat.reduceMod, Nat.reduceDiv, Nat.reduceEqDiff, Nat.reduceLeDiff, Nat.reduceLT, Int.reduceAdd, Int.reduceSub, Int.reduceNeg, Int.reduceMul, Int.reduceLE, Int.reduceLT, Int.reduceEq, Int.reduceToNat, Int.reduceNegSucc, Int.cast_ofNat_Int, Int32.reduceToInt, Int64.reduceToInt, Int.zero_add, Int.add_zero, Fin.isValue, Fin.val_zero, Fin.val_one, Fin.val_two, reduceCtorEq, or_false, false_or, or_true, true_or, or_self, and_true, true_and, and_self, not_true_eq_false, not_false_eq_true, implies_true, forall_const, List.mem_cons, List.not_mem_nil, false_implies, true_implies, imp_false, Nat.zero_add, Option.some.injEq, Prod.mk.injEq]
  repeat' first | omega | refine mz_it (fun hh => ?_) (fun hh => ?_) | refine And.intro ?_ ?_
  refine ct_fill (d0 + 1) hG q260 (by omega) (fun H1 f1 hv1 => ?_)
  have f2 : mz_fr H H1 [s + 259, s + 260] := f1.mono (by simp)
  have hS1 := hS.fr f2 (fun j hj => by simp; exact ⟨hrs j 259 (by omega) (by omega), hrs j 260 (by omega) (by omega)⟩)
  have z0 : H1.2.1 s 0 = d := by rw [f1.2.2 s (by simp), hs.1.1]
  have z1 := hS1.2.2.2.2.2.2.1 d hd
  have y1 : H1.2.1 (s + 259) = H.2.1 (s + 259) := f1.2.2 _ (by simp)
  simp only [mf_Space_reduce, ca_Space_reduce, dc_Space_reduce_0, dc_Space_reduce_1, dc_Space_reduce_2, dc_Space_reduce_3, dc_Space_reduce_4, dc_Space_reduce_5, dc_Space_reduce_6, dc_Space_reduce_7, dc_Space_reduce_8, fl_Space, sl_Space, sg_Arrays_fill, sg_Ring_negative, sg_Ring_addMultiple, cpn_space_0, mx_cp_r, s0, g3, g4, g5, g6, g7, g8, g9, g10, q1, q128, q129, q130, q131, q258, q259, q260, r0, f5, f6, f7, f8, f9, f10, f11, f12, f13, f14, k1, k2, k3, k4, k5, k6, k7, k8, k9, k10, z0, z1, Int.toNat_natCast, mzr_iconst, mzr_bipush, mzr_sipush, mzr_lconst, mzr_iload, mzr_iload_n, mzr_aload, mzr_aload_n, mzr_lload, mzr_lload_n, mzr_istore, mzr_istore_n, mzr_astore, mzr_astore_n, mzr_lstore, mzr_lstore_n, mzr_iinc, mzr_iadd, mzr_isub, mzr_imul, mzr_iand, mzr_ior, mzr_ixor, mzr_ishl, mzr_ishr, mzr_iushr, mzr_idiv, mzr_irem, mzr_ineg, mzr_ladd, mzr_lsub, mzr_lmul, mzr_lrem, mzr_lcmp, mzr_i2l, mzr_l2i, mzr_i2b, mzr_dup, mzr_pop, mzr_dup2, mzr_ifCond_eq, mzr_if_icmp_eq, mzr_ifCond_ne, mzr_if_icmp_ne, mzr_ifCond_lt, mzr_if_icmp_lt, mzr_ifCond_ge, mzr_if_icmp_ge, mzr_ifCond_gt, mzr_if_icmp_gt, mzr_ifCond_le, mzr_if_icmp_le, mzr_goto, mzr_iaload, mzr_baload, mzr_laload, mzr_aaload, mzr_iastore, mzr_bastore, mzr_lastore, mzr_arraylength, mzr_getfield, mzr_putfield, mzr_getstatic, mzr_ldc, mzr_ldc_w, mzr_ldc2_w, mzr_ireturn, mzr_return_, mzr_copy, mzr_static, mzr_virtual, mzr_new, mz_tk, mz_dp, mz_ln, mz_sz, mz_af_v, mz_af_s, mz_wp_s, mz_w1, mz_g, mz_st, mz_k, mz_s2, mz_nx, mz_en, mx_to, mz_c1, ↓reduceIte, Nat.reduceAdd, Nat.reduceSub, Nat.reduceMul, Nat.reduceMod, Nat.reduceDiv, Nat.reduceEqDiff, Nat.reduceLeDiff, Nat.reduceLT, Int.reduceAdd, Int.reduceSub, Int.reduceNeg, Int.reduceMul, Int.reduceLE, Int.reduceLT, Int.reduceEq, Int.reduceToNat, Int.reduceNegSucc, Int.cast_ofNat_Int, Int32.reduceToInt, Int64.reduceToInt, Int.zero_add, Int.add_zero, Fin.isValue, Fin.val_zero, Fin.val_one, Fin.val_two, reduceCtorEq, or_false, false_or, or_true, true_or, or_self, and_true, true_and, and_self, not_true_eq_false, not_false_eq_true, implies_true, forall_const, List.mem_cons, List.not_mem_nil, false_implies, true_implies, imp_false, Nat.zero_add, Option.some.injEq, Prod.mk.injEq]
  repeat' first | omega | refine mz_it (fun hh => ?_) (fun hh => ?_) | refine And.intro ?_ ?_
  refine lp_reduce hG hR' hE' hok hd hp2 hall hS hs hrs hP (tb_F n (d + 1)) (-1) H1 _ _ (by omega) f2 ⟨fun j hj => by rw [y1]; exact hw j hj, fun j hj => ?_, fun k hk => ?_⟩ (fun k hk hl => ?_) (fun k hk hl => ?_) (fun _ => rfl) (Or.inl ⟨rfl, fun j hj hj2 => by rw [y1]; exact (hw j hj2).2.2 hj⟩)
  · rw [y1, al_S_z (fun k hk => by rw [hv1, if_pos (by omega), Int.zero_mul])]
    exact al_e_of (by omega)
  · rw [hv1, if_pos hk]
    exact ⟨by omega, by omega, fun _ => rfl⟩
  · have := (hs.2.2.1 k hk).1; omega
  · rw [hv1, if_pos (by omega)]
