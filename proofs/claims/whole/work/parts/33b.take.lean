theorem se_W.c {p : Int} {n d M : Nat} (hM : M ≤ 126) {rw' : Nat → Nat → Int} {w0 w sh sh' : Nat → Int} (h : se_W p n d M rw' w0 w sh) (he : ∀ k, k < 126 → sh' k = sh k) : se_W p n d M rw' w0 w sh' := by
  refine ⟨h.1, fun j hj => ?_, fun k hk => by rw [he k hk]; exact h.2.2 k hk⟩
  rw [al_S_c (g := fun k => sh k * rw' k j) (fun k hk => by rw [he k (by omega)])]
  exact h.2.1 j hj
def se_N (H h : mz_H) (s M : Nat) : Prop := (∀ k, k ≠ M → h.2.1 (s + 258) k = H.2.1 (s + 258) k) ∧ (∀ k, k ≠ M → h.2.1 (s + 130) k = H.2.1 (s + 130) k) ∧ h.2.1 s 2 = H.2.1 s 2
set_option maxRecDepth 100000 in
theorem ct_takeIn {e : mz_E} (d0 : Nat) {s r : Nat} {p src : Int} {n o d M : Nat} {ld : Nat → Nat} {H : mz_H} {P : mz_O → mz_H → Prop} (hG : mx_G e.1) (hR : rg_E e r) (hE : sa_E e s) (hok : tb_ok n o) (hd : d ≤ tb_h n) (hp2 : 2 ≤ p ∧ p < 32768)
    (hS : rg_S H r p n o) (hs : se_R H s p n d M ld) (hrs : ∀ i j, i ≤ 10 → j ≤ 260 → r + i ≠ s + j) (hw : ∀ j, j < 126 → 0 ≤ H.2.1 (s + 259) j ∧ H.2.1 (s + 259) j < p ∧ (tb_F n (d + 1) ≤ j → H.2.1 (s + 259) j = 0))
    (hP0 : ∀ h, mz_fr H h [s + 259, s + 260] → (∀ j, j < 126 → al_e p (H.2.1 (s + 259) j) (al_S M (fun k => h.2.1 (s + 260) k * H.2.1 (s + 2 + k) j))) → P (.inl none) h)
    (hP1 : ∀ h m w iv, mz_fr H h [s, s + 128, s + 129, s + 130, s + 258, s + 259, s + 260, s + 2 + M, s + 132 + M] → M < 126 → m < tb_F n (d + 1) → (∀ k, k < M → ld k ≠ m) → se_W p n d M (fun k => H.2.1 (s + 2 + k)) (H.2.1 (s + 259)) w (h.2.1 (s + 132 + M)) → w m ≠ 0 → (∀ j, m < j → j < 126 → w j = 0) → iv = w m ^ (p - 2).toNat % p →
      se_R h s p n d (M + 1) (fun k => if k = M then m else ld k) → (∀ j, j < 126 → h.2.1 (s + 2 + M) j = iv * w j % p) → h.2.1 (s + 258) M = iv → h.2.1 (s + 130) M = src → se_N H h s M → P (.inl none) h) :
    al_pr p.toNat → mz_CA e (d0 + 4) j_Space_takeIn [.inr (.inl s), .inr (.inl r), .inl src] H P := by
  intro hpr
  have hR' := hR
  have hE' := hE
  have r0' := hR.1
  have hEN := Nat.le_trans (tb_F_N hok (d := d + 1) (by omega)) (tb_N_b n)
  have hM126 := Nat.le_trans hs.2.1 hEN
  obtain ⟨⟨s0, g3, g4, g5, g6, g7, g8, g9, g10⟩, ⟨q1, q128, q129, q130, q131, q258, q259, q260⟩, qr, qc⟩ := hE
  refine mz_CA_of mr_Space_takeIn ?_
  simp only [mf_Space_takeIn, mz_en, List.replicate, Nat.reduceSub, Nat.reduceAdd, Nat.reduceMul]
  apply mz_go hG 120 []
  simp only [mf_Space_takeIn, ca_Space_takeIn, dc_Space_takeIn_0, dc_Space_takeIn_1, dc_Space_takeIn_2, dc_Space_takeIn_3, dc_Space_takeIn_4, dc_Space_takeIn_5, dc_Space_takeIn_6, dc_Space_takeIn_7, dc_Space_takeIn_8, dc_Space_takeIn_9, dc_Space_takeIn_10, fl_Space, sl_Space, sg_Space_reduce, sg_Ring_inverse, sg_Arrays_fill, sg_Ring_addMultiple, cpn_space_0, mx_cp_r, s0, g3, g4, g5, g6, g7, g8, g9, g10, q1, q128, q129, q130, q131, q258, q259, q260, r0', mzr_iconst, mzr_bipush, mzr_sipush, mzr_lconst, mzr_iload, mzr_iload_n, mzr_aload, mzr_aload_n, mzr_lload, mzr_lload_n, mzr_istore, mzr_istore_n, mzr_astore, mzr_astore_n, mzr_lstore, mzr_lstore_n, mzr_iinc, mzr_iadd, mzr_isub, mzr_imul, mzr_iand, mzr_ior, mzr_ixor, mzr_ishl, mzr_ishr, mzr_iushr, mzr_idiv, mzr_irem, mzr_ineg, mzr_ladd, mzr_lsub, mzr_lmul, mzr_lrem, mzr_lcmp, mzr_i2l, mzr_l2i, mzr_i2b, mzr_dup, mzr_pop, mzr_dup2, mzr_ifCond_eq, mzr_if_icmp_eq, mzr_ifCond_ne, mzr_if_icmp_ne, mzr_ifCond_lt, mzr_if_icmp_lt, mzr_ifCond_ge, mzr_if_icmp_ge, mzr_ifCond_gt, mzr_if_icmp_gt, mzr_ifCond_le, mzr_if_icmp_le, mzr_goto, mzr_iaload, mzr_baload, mzr_laload, mzr_aaload, mzr_iastore, mzr_bastore, mzr_lastore, mzr_arraylength, mzr_getfield, mzr_putfield, mzr_getstatic, mzr_ldc, mzr_ldc_w, mzr_ldc2_w, mzr_ireturn, mzr_return_, mzr_copy, mzr_static, mzr_virtual, mzr_new, mz_tk, mz_dp, mz_ln, mz_sz, mz_af_v, mz_af_s, mz_wp_s, mz_w1, mz_g, mz_st, mz_k, mz_s2, mz_nx, mz_en, mx_to, mz_c1, ↓reduceIte, Nat.reduceAdd, Nat.reduceSub, Nat.reduceMul, Nat.reduceMod, Nat.reduceDiv, Nat.reduceEqDiff, Nat.reduceLeDiff, Nat.reduceLT, Int.reduceAdd, Int.reduceSub, Int.reduceNeg, Int.reduceMul, Int.reduceLE, Int.reduceLT, Int.reduceEq, Int.reduceToNat, Int.reduceNegSucc, Int.cast_ofNat_Int, Int32.reduceToInt, Int64.reduceToInt, Int.zero_add, Int.add_zero, Fin.isValue, Fin.val_zero, Fin.val_one, Fin.val_two, reduceCtorEq, or_false, false_or, or_true, true_or, or_self, and_true, true_and, and_self, not_true_eq_false, not_false_eq_true, implies_true, forall_const, List.mem_cons, List.not_mem_nil, false_implies, true_implies, imp_false, Nat.zero_add, Option.some.injEq, Prod.mk.injEq]
  repeat' first | omega | refine mz_it (fun hh => ?_) (fun hh => ?_) | refine And.intro ?_ ?_
  refine ct_reduce (d0 + 1) hG hR' hE' hok hd hp2 (Or.inl rfl) hS hs hrs hw (fun H1 rest f1 hW _ hrest => ?_)
  rcases hrest with ⟨hr, hz⟩ | ⟨m, hm, hr, hrow, hwm, hz⟩
  · subst hr
    simp only [mf_Space_takeIn, ca_Space_takeIn, dc_Space_takeIn_0, dc_Space_takeIn_1, dc_Space_takeIn_2, dc_Space_takeIn_3, dc_Space_takeIn_4, dc_Space_takeIn_5, dc_Space_takeIn_6, dc_Space_takeIn_7, dc_Space_takeIn_8, dc_Space_takeIn_9, dc_Space_takeIn_10, fl_Space, sl_Space, sg_Space_reduce, sg_Ring_inverse, sg_Arrays_fill, sg_Ring_addMultiple, cpn_space_0, mx_cp_r, s0, g3, g4, g5, g6, g7, g8, g9, g10, q1, q128, q129, q130, q131, q258, q259, q260, r0', mzr_iconst, mzr_bipush, mzr_sipush, mzr_lconst, mzr_iload, mzr_iload_n, mzr_aload, mzr_aload_n, mzr_lload, mzr_lload_n, mzr_istore, mzr_istore_n, mzr_astore, mzr_astore_n, mzr_lstore, mzr_lstore_n, mzr_iinc, mzr_iadd, mzr_isub, mzr_imul, mzr_iand, mzr_ior, mzr_ixor, mzr_ishl, mzr_ishr, mzr_iushr, mzr_idiv, mzr_irem, mzr_ineg, mzr_ladd, mzr_lsub, mzr_lmul, mzr_lrem, mzr_lcmp, mzr_i2l, mzr_l2i, mzr_i2b, mzr_dup, mzr_pop, mzr_dup2, mzr_ifCond_eq, mzr_if_icmp_eq, mzr_ifCond_ne, mzr_if_icmp_ne, mzr_ifCond_lt, mzr_if_icmp_lt, mzr_ifCond_ge, mzr_if_icmp_ge, mzr_ifCond_gt, mzr_if_icmp_gt, mzr_ifCond_le, mzr_if_icmp_le, mzr_goto, mzr_iaload, mzr_baload, mzr_laload, mzr_aaload, mzr_iastore, mzr_bastore, mzr_lastore, mzr_arraylength, mzr_getfield, mzr_putfield, mzr_getstatic, mzr_ldc, mzr_ldc_w, mzr_ldc2_w, mzr_ireturn, mzr_return_, mzr_copy, mzr_static, mzr_virtual, mzr_new, mz_tk, mz_dp, mz_ln, mz_sz, mz_af_v, mz_af_s, mz_wp_s, mz_w1, mz_g, mz_st, mz_k, mz_s2, mz_nx, mz_en, mx_to, mz_c1, ↓reduceIte, Nat.reduceAdd, Nat.reduceSub, Nat.reduceMul, Nat.reduceMod, Nat.reduceDiv, Nat.reduceEqDiff, Nat.reduceLeDiff, Nat.reduceLT, Int.reduceAdd, Int.reduceSub, Int.reduceNeg, Int.reduceMul, Int.reduceLE, Int.reduceLT, Int.reduceEq, Int.reduceToNat, Int.reduceNegSucc, Int.cast_ofNat_Int, Int32.reduceToInt, Int64.reduceToInt, Int.zero_add, Int.add_zero, Fin.isValue, Fin.val_zero, Fin.val_one, Fin.val_two, reduceCtorEq, or_false, false_or, or_true, true_or, or_self, and_true, true_and, and_self, not_true_eq_false, not_false_eq_true, implies_true, forall_const, List.mem_cons, List.not_mem_nil, false_implies, true_implies, imp_false, Nat.zero_add, Option.some.injEq, Prod.mk.injEq]
    repeat' first | omega | refine mz_it (fun hh => ?_) (fun hh => ?_) | refine And.intro ?_ ?_
    refine hP0 H1 f1 (fun j hj => ?_)
    have := hW.2.1 j hj
    rw [hz j hj] at this
    exact al_e_t this (al_e_of (Int.zero_add _))
  · subst hr
    have hnl : ∀ k, k < M → ld k ≠ m := by
      intro k hk hkm
      have := (hs.2.2.1 k hk).2.2.1
      rw [hkm, hrow] at this
      omega
    have hinj : ∀ i j, i < M → j < M → ld i = ld j → i = j := by
      intro i j hi hj hij
      have a1 := (hs.2.2.1 i hi).2.2.1
      have a2 := (hs.2.2.1 j hj).2.2.1
      rw [hij, a2] at a1
      omega
    have hME : M + 1 ≤ tb_F n (d + 1) := by
      refine ph_le _ _ (fun k => if k = M then m else ld k) (fun k hk => ?_) (fun i j hi hj hij => ?_)
      · by_cases hkM : k = M
        · simp only [if_pos hkM]; exact hm
        · simp only [if_neg hkM]; exact (hs.2.2.1 k (by omega)).1
      · by_cases hiM : i = M
        · by_cases hjM : j = M
          · omega
          · simp only [if_pos hiM, if_neg hjM] at hij
            exact absurd hij.symm (hnl j (by omega))
        · by_cases hjM : j = M
          · simp only [if_neg hiM, if_pos hjM] at hij
            exact absurd hij (hnl i (by omega))
          · simp only [if_neg hiM, if_neg hjM] at hij
            exact hinj i j (by omega) (by omega) hij
    have z1 : H1.2.1 s 1 = M := by rw [f1.2.2 s (by simp), hs.1.2]
    have w1 := hW.1 m (by omega)
    have hS1 := hS.fr f1 (fun j hj => by simp; exact ⟨hrs j 259 (by omega) (by omega), hrs j 260 (by omega) (by omega)⟩)
    have t1 := (qr M (by omega)).1
    have t2 := (qr M (by omega)).2
    have t3 := (qc M (by omega)).1
    have t4 := (qc M (by omega)).2
    simp only [mf_Space_takeIn, ca_Space_takeIn, dc_Space_takeIn_0, dc_Space_takeIn_1, dc_Space_takeIn_2, dc_Space_takeIn_3, dc_Space_takeIn_4, dc_Space_takeIn_5, dc_Space_takeIn_6, dc_Space_takeIn_7, dc_Space_takeIn_8, dc_Space_takeIn_9, dc_Space_takeIn_10, fl_Space, sl_Space, sg_Space_reduce, sg_Ring_inverse, sg_Arrays_fill, sg_Ring_addMultiple, cpn_space_0, mx_cp_r, s0, g3, g4, g5, g6, g7, g8, g9, g10, q1, q128, q129, q130, q131, q258, q259, q260, r0', z1, Int.toNat_natCast, mzr_iconst, mzr_bipush, mzr_sipush, mzr_lconst, mzr_iload, mzr_iload_n, mzr_aload, mzr_aload_n, mzr_lload, mzr_lload_n, mzr_istore, mzr_istore_n, mzr_astore, mzr_astore_n, mzr_lstore, mzr_lstore_n, mzr_iinc, mzr_iadd, mzr_isub, mzr_imul, mzr_iand, mzr_ior, mzr_ixor, mzr_ishl, mzr_ishr, mzr_iushr, mzr_idiv, mzr_irem, mzr_ineg, mzr_ladd, mzr_lsub, mzr_lmul, mzr_lrem, mzr_lcmp, mzr_i2l, mzr_l2i, mzr_i2b, mzr_dup, mzr_pop, mzr_dup2, mzr_ifCond_eq, mzr_if_icmp_eq, mzr_ifCond_ne, mzr_if_icmp_ne, mzr_ifCond_lt, mzr_if_icmp_lt, mzr_ifCond_ge, mzr_if_icmp_ge, mzr_ifCond_gt, mzr_if_icmp_gt, mzr_ifCond_le, mzr_if_icmp_le, mzr_goto, mzr_iaload, mzr_baload, mzr_laload, mzr_aaload, mzr_iastore, mzr_bastore, mzr_lastore, mzr_arraylength, mzr_getfield, mzr_putfield, mzr_getstatic, mzr_ldc, mzr_ldc_w, mzr_ldc2_w, mzr_ireturn, mzr_return_, mzr_copy, mzr_static, mzr_virtual, mzr_new, mz_tk, mz_dp, mz_ln, mz_sz, mz_af_v, mz_af_s, mz_wp_s, mz_w1, mz_g, mz_st, mz_k, mz_s2, mz_nx, mz_en, mx_to, mz_c1, ↓reduceIte, Nat.reduceAdd, Nat.reduceSub, Nat.reduceMul, Nat.reduceMod, Nat.reduceDiv, Nat.reduceEqDiff, Nat.reduceLeDiff, Nat.reduceLT, Int.reduceAdd, Int.reduceSub, Int.reduceNeg, Int.reduceMul, Int.reduceLE, Int.reduceLT, Int.reduceEq, Int.reduceToNat, Int.reduceNegSucc, Int.cast_ofNat_Int, Int32.reduceToInt, Int64.reduceToInt, Int.zero_add, Int.add_zero, Fin.isValue, Fin.val_zero, Fin.val_one, Fin.val_two, reduceCtorEq, or_false, false_or, or_true, true_or, or_self, and_true, true_and, and_self, not_true_eq_false, not_false_eq_true, implies_true, forall_const, List.mem_cons, List.not_mem_nil, false_implies, true_implies, imp_false, Nat.zero_add, Option.some.injEq, Prod.mk.injEq]
    repeat' first | omega | refine mz_it (fun hh => ?_) (fun hh => ?_) | refine And.intro ?_ ?_
    refine ct_inverse d0 hG hR' hS1.1 hp2 ⟨w1.1, w1.2.1⟩ ?_
    generalize hiv : H1.2.1 (s + 259) m ^ (p - 2).toNat % p = iv
    have iv1 : 0 ≤ iv ∧ iv < p := by rw [← hiv]; exact ⟨Int.emod_nonneg _ (by omega), Int.emod_lt_of_pos _ (by omega)⟩
    have c1 : (s = s + 2 + M) = False := eq_false (by omega)
    have c2 : (s = s + 132 + M) = False := eq_false (by omega)
    simp only [mf_Space_takeIn, ca_Space_takeIn, dc_Space_takeIn_0, dc_Space_takeIn_1, dc_Space_takeIn_2, dc_Space_takeIn_3, dc_Space_takeIn_4, dc_Space_takeIn_5, dc_Space_takeIn_6, dc_Space_takeIn_7, dc_Space_takeIn_8, dc_Space_takeIn_9, dc_Space_takeIn_10, fl_Space, sl_Space, sg_Space_reduce, sg_Ring_inverse, sg_Arrays_fill, sg_Ring_addMultiple, cpn_space_0, mx_cp_r, s0, g3, g4, g5, g6, g7, g8, g9, g10, q1, q128, q129, q130, q131, q258, q259, q260, r0', z1, mz_w_g, Nat.left_eq_add, Nat.add_left_cancel_iff, Nat.add_eq_left, false_and, if_false, if_true, Int.toNat_natCast, t1, t2, mzr_iconst, mzr_bipush, mzr_sipush, mzr_lconst, mzr_iload, mzr_iload_n, mzr_aload, mzr_aload_n, mzr_lload, mzr_lload_n, mzr_istore, mzr_istore_n, mzr_astore, mzr_astore_n, mzr_lstore, mzr_lstore_n, mzr_iinc, mzr_iadd, mzr_isub, mzr_imul, mzr_iand, mzr_ior, mzr_ixor, mzr_ishl, mzr_ishr, mzr_iushr, mzr_idiv, mzr_irem, mzr_ineg, mzr_ladd, mzr_lsub, mzr_lmul, mzr_lrem, mzr_lcmp, mzr_i2l, mzr_l2i, mzr_i2b, mzr_dup, mzr_pop, mzr_dup2, mzr_ifCond_eq, mzr_if_icmp_eq, mzr_ifCond_ne, mzr_if_icmp_ne, mzr_ifCond_lt, mzr_if_icmp_lt, mzr_ifCond_ge, mzr_if_icmp_ge, mzr_ifCond_gt, mzr_if_icmp_gt, mzr_ifCond_le, mzr_if_icmp_le, mzr_goto, mzr_iaload, mzr_baload, mzr_laload, mzr_aaload, mzr_iastore, mzr_bastore, mzr_lastore, mzr_arraylength, mzr_getfield, mzr_putfield, mzr_getstatic, mzr_ldc, mzr_ldc_w, mzr_ldc2_w, mzr_ireturn, mzr_return_, mzr_copy, mzr_static, mzr_virtual, mzr_new, mz_tk, mz_dp, mz_ln, mz_sz, mz_af_v, mz_af_s, mz_wp_s, mz_w1, mz_g, mz_st, mz_k, mz_s2, mz_nx, mz_en, mx_to, mz_c1, ↓reduceIte, Nat.reduceAdd, Nat.reduceSub, Nat.reduceMul, Nat.reduceMod, Nat.reduceDiv, Nat.reduceEqDiff, Nat.reduceLeDiff, Nat.reduceLT, Int.reduceAdd, Int.reduceSub, Int.reduceNeg, Int.reduceMul, Int.reduceLE, Int.reduceLT, Int.reduceEq, Int.reduceToNat, Int.reduceNegSucc, Int.cast_ofNat_Int, Int32.reduceToInt, Int64.reduceToInt, Int.zero_add, Int.add_zero, Fin.isValue, Fin.val_zero, Fin.val_one, Fin.val_two, reduceCtorEq, or_false, false_or, or_true, true_or, or_self, and_true, true_and, and_self, not_true_eq_false, not_false_eq_true, implies_true, forall_const, List.mem_cons, List.not_mem_nil, false_implies, true_implies, imp_false, Nat.zero_add, Option.some.injEq, Prod.mk.injEq]
    repeat' first | omega | refine mz_it (fun hh => ?_) (fun hh => ?_) | refine And.intro ?_ ?_
    refine ct_fill (d0 + 3) hG t2 (by omega) (fun H2 f2 hv2 => ?_)
    have g2 : mz_fr H1 H2 [s + 258, s + 2 + M] := (mz_fr.w _ _ _ _ (by simp)).tr (f2.mono (by simp))
    have z2 : H2.2.1 s 1 = M := by rw [g2.2.2 s (by simp; omega), z1]
    have z2b : H2.2.1 (s + 258) M = iv := by rw [f2.2.2 (s + 258) (by simp; omega), mz_w_g, if_pos ⟨rfl, rfl⟩]
    have y2 : H2.2.1 (s + 259) = H1.2.1 (s + 259) := g2.2.2 _ (by simp; omega)
    have hS2 := hS1.fr g2 (fun j hj => by simp; exact ⟨hrs j 258 (by omega) (by omega), fun q => hrs j (2 + M) (by omega) (by omega) (by omega)⟩)
    simp only [mf_Space_takeIn, ca_Space_takeIn, dc_Space_takeIn_0, dc_Space_takeIn_1, dc_Space_takeIn_2, dc_Space_takeIn_3, dc_Space_takeIn_4, dc_Space_takeIn_5, dc_Space_takeIn_6, dc_Space_takeIn_7, dc_Space_takeIn_8, dc_Space_takeIn_9, dc_Space_takeIn_10, fl_Space, sl_Space, sg_Space_reduce, sg_Ring_inverse, sg_Arrays_fill, sg_Ring_addMultiple, cpn_space_0, mx_cp_r, s0, g3, g4, g5, g6, g7, g8, g9, g10, q1, q128, q129, q130, q131, q258, q259, q260, r0', z2, z2b, Int.toNat_natCast, t1, t2, mzr_iconst, mzr_bipush, mzr_sipush, mzr_lconst, mzr_iload, mzr_iload_n, mzr_aload, mzr_aload_n, mzr_lload, mzr_lload_n, mzr_istore, mzr_istore_n, mzr_astore, mzr_astore_n, mzr_lstore, mzr_lstore_n, mzr_iinc, mzr_iadd, mzr_isub, mzr_imul, mzr_iand, mzr_ior, mzr_ixor, mzr_ishl, mzr_ishr, mzr_iushr, mzr_idiv, mzr_irem, mzr_ineg, mzr_ladd, mzr_lsub, mzr_lmul, mzr_lrem, mzr_lcmp, mzr_i2l, mzr_l2i, mzr_i2b, mzr_dup, mzr_pop, mzr_dup2, mzr_ifCond_eq, mzr_if_icmp_eq, mzr_ifCond_ne, mzr_if_icmp_ne, mzr_ifCond_lt, mzr_if_icmp_lt, mzr_ifCond_ge, mzr_if_icmp_ge, mzr_ifCond_gt, mzr_if_icmp_gt, mzr_ifCond_le, mzr_if_icmp_le, mzr_goto, mzr_iaload, mzr_baload, mzr_laload, mzr_aaload, mzr_iastore, mzr_bastore, mzr_lastore, mzr_arraylength, mzr_getfield, mzr_putfield, mzr_getstatic, mzr_ldc, mzr_ldc_w, mzr_ldc2_w, mzr_ireturn, mzr_return_, mzr_copy, mzr_static, mzr_virtual, mzr_new, mz_tk, mz_dp, mz_ln, mz_sz, mz_af_v, mz_af_s, mz_wp_s, mz_w1, mz_g, mz_st, mz_k, mz_s2, mz_nx, mz_en, mx_to, mz_c1, ↓reduceIte, Nat.reduceAdd, Nat.reduceSub, Nat.reduceMul, Nat.reduceMod, Nat.reduceDiv, Nat.reduceEqDiff, Nat.reduceLeDiff, Nat.reduceLT, Int.reduceAdd, Int.reduceSub, Int.reduceNeg, Int.reduceMul, Int.reduceLE, Int.reduceLT, Int.reduceEq, Int.reduceToNat, Int.reduceNegSucc, Int.cast_ofNat_Int, Int32.reduceToInt, Int64.reduceToInt, Int.zero_add, Int.add_zero, Fin.isValue, Fin.val_zero, Fin.val_one, Fin.val_two, reduceCtorEq, or_false, false_or, or_true, true_or, or_self, and_true, true_and, and_self, not_true_eq_false, not_false_eq_true, implies_true, forall_const, List.mem_cons, List.not_mem_nil, false_implies, true_implies, imp_false, Nat.zero_add, Option.some.injEq, Prod.mk.injEq]
    repeat' first | omega | refine mz_it (fun hh => ?_) (fun hh => ?_) | refine And.intro ?_ ?_
    rw [show (m : Int) + 1 = ((m + 1 : Nat) : Int) by omega]
    refine ct_addMultiple (d0 + 3) hG hR' hS2.1 t2 q259 (by omega) hp2 iv1 (by omega) (fun j hj => by rw [hv2, if_pos (by omega)]; omega) (fun j hj => by rw [y2]; exact ⟨(hW.1 j (by omega)).1, (hW.1 j (by omega)).2.1⟩) (fun H3 f3 hv3 => ?_)
    have g3 : mz_fr H1 H3 [s + 258, s + 2 + M] := g2.tr (f3.mono (by simp))
    have z3 : H3.2.1 s 1 = M := by rw [g3.2.2 s (by simp; omega), z1]
    have hrowM : ∀ j, j < 126 → H3.2.1 (s + 2 + M) j = iv * H1.2.1 (s + 259) j % p := by
      intro j hj
      rw [hv3 j, hv2, if_pos hj, y2]
      by_cases hjm : j < m + 1
      · rw [if_pos hjm, Int.zero_add]
      · rw [if_neg hjm, hz j (by omega) hj, Int.mul_zero, Int.zero_emod]
    simp only [mf_Space_takeIn, ca_Space_takeIn, dc_Space_takeIn_0, dc_Space_takeIn_1, dc_Space_takeIn_2, dc_Space_takeIn_3, dc_Space_takeIn_4, dc_Space_takeIn_5, dc_Space_takeIn_6, dc_Space_takeIn_7, dc_Space_takeIn_8, dc_Space_takeIn_9, dc_Space_takeIn_10, fl_Space, sl_Space, sg_Space_reduce, sg_Ring_inverse, sg_Arrays_fill, sg_Ring_addMultiple, cpn_space_0, mx_cp_r, s0, g3, g4, g5, g6, g7, g8, g9, g10, q1, q128, q129, q130, q131, q258, q259, q260, r0', z3, mz_w_g, Nat.left_eq_add, Nat.add_left_cancel_iff, Nat.add_eq_left, false_and, if_false, if_true, mz_cy_g, c2, Int.toNat_natCast, t3, t4, mzr_iconst, mzr_bipush, mzr_sipush, mzr_lconst, mzr_iload, mzr_iload_n, mzr_aload, mzr_aload_n, mzr_lload, mzr_lload_n, mzr_istore, mzr_istore_n, mzr_astore, mzr_astore_n, mzr_lstore, mzr_lstore_n, mzr_iinc, mzr_iadd, mzr_isub, mzr_imul, mzr_iand, mzr_ior, mzr_ixor, mzr_ishl, mzr_ishr, mzr_iushr, mzr_idiv, mzr_irem, mzr_ineg, mzr_ladd, mzr_lsub, mzr_lmul, mzr_lrem, mzr_lcmp, mzr_i2l, mzr_l2i, mzr_i2b, mzr_dup, mzr_pop, mzr_dup2, mzr_ifCond_eq, mzr_if_icmp_eq, mzr_ifCond_ne, mzr_if_icmp_ne, mzr_ifCond_lt, mzr_if_icmp_lt, mzr_ifCond_ge, mzr_if_icmp_ge, mzr_ifCond_gt, mzr_if_icmp_gt, mzr_ifCond_le, mzr_if_icmp_le, mzr_goto, mzr_iaload, mzr_baload, mzr_laload, mzr_aaload, mzr_iastore, mzr_bastore, mzr_lastore, mzr_arraylength, mzr_getfield, mzr_putfield, mzr_getstatic, mzr_ldc, mzr_ldc_w, mzr_ldc2_w, mzr_ireturn, mzr_return_, mzr_copy, mzr_static, mzr_virtual, mzr_new, mz_tk, mz_dp, mz_ln, mz_sz, mz_af_v, mz_af_s, mz_wp_s, mz_w1, mz_g, mz_st, mz_k, mz_s2, mz_nx, mz_en, mx_to, mz_c1, ↓reduceIte, Nat.reduceAdd, Nat.reduceSub, Nat.reduceMul, Nat.reduceMod, Nat.reduceDiv, Nat.reduceEqDiff, Nat.reduceLeDiff, Nat.reduceLT, Int.reduceAdd, Int.reduceSub, Int.reduceNeg, Int.reduceMul, Int.reduceLE, Int.reduceLT, Int.reduceEq, Int.reduceToNat, Int.reduceNegSucc, Int.cast_ofNat_Int, Int32.reduceToInt, Int64.reduceToInt, Int.zero_add, Int.add_zero, Fin.isValue, Fin.val_zero, Fin.val_one, Fin.val_two, reduceCtorEq, or_false, false_or, or_true, true_or, or_self, and_true, true_and, and_self, not_true_eq_false, not_false_eq_true, implies_true, forall_const, List.mem_cons, List.not_mem_nil, false_implies, true_implies, imp_false, Nat.zero_add, Option.some.injEq, Prod.mk.injEq]
    repeat' first | omega | refine mz_it (fun hh => ?_) (fun hh => ?_) | refine And.intro ?_ ?_
    have gK : mz_fr H (mz_w (mz_w (mz_w (mz_w (mz_cy H3 (s + 260) 0 (s + 132 + M) 0 126) (s + 130) M src) (s + 128) M (m : Int)) (s + 129) m (M : Int)) s 1 ((M : Int) + 1)) [s, s + 128, s + 129, s + 130, s + 258, s + 259, s + 260, s + 2 + M, s + 132 + M] :=
      ((((((f1.mono (by simp)).tr (g3.mono (by simp))).tr (mz_fr.cy _ _ _ _ _ _ (by simp))).tr (mz_fr.w _ _ _ _ (by simp))).tr (mz_fr.w _ _ _ _ (by simp))).tr (mz_fr.w _ _ _ _ (by simp))).tr (mz_fr.w _ _ _ _ (by simp))
    have rd : ∀ c j, c ≠ s → c ≠ s + 129 → c ≠ s + 128 → c ≠ s + 130 → c ≠ s + 132 + M → (mz_w (mz_w (mz_w (mz_w (mz_cy H3 (s + 260) 0 (s + 132 + M) 0 126) (s + 130) M src) (s + 128) M (m : Int)) (s + 129) m (M : Int)) s 1 ((M : Int) + 1)).2.1 c j = H3.2.1 c j := by
      intro c j n1 n2 n3 n4 n5
      rw [mz_w_g, if_neg (fun q => n1 q.1), mz_w_g, if_neg (fun q => n2 q.1), mz_w_g, if_neg (fun q => n3 q.1), mz_w_g, if_neg (fun q => n4 q.1), mz_cy_g, if_neg n5]
    have h3a : ∀ c, c ≠ s + 258 → c ≠ s + 2 + M → H3.2.1 c = H1.2.1 c := fun c n1 n2 => g3.2.2 c (by simp; exact ⟨n1, n2⟩)
    have h1a : ∀ c, c ≠ s + 259 → c ≠ s + 260 → H1.2.1 c = H.2.1 c := fun c n1 n2 => f1.2.2 c (by simp; exact ⟨n1, n2⟩)
    refine hP1 _ m (H1.2.1 (s + 259)) iv gK (by omega) hm hnl (hW.c hM126 (fun k hk => ?_)) hwm hz hiv.symm ⟨⟨?_, ?_⟩, hME, fun k hk => ?_, fun l hl => ?_⟩ (fun j hj => ?_) ?_ ?_ ⟨fun k hk => ?_, fun k hk => ?_, ?_⟩
    · rw [mz_w_g, if_neg (by omega), mz_w_g, if_neg (by omega), mz_w_g, if_neg (by omega), mz_w_g, if_neg (by omega), mz_cy_g, if_pos rfl, if_pos (by omega), h3a _ (by omega) (by omega), show 0 + (k - 0) = k by omega]
    · rw [mz_w_g, if_neg (by omega), mz_w_g, if_neg (by omega), mz_w_g, if_neg (by omega), mz_w_g, if_neg (by omega), mz_cy_g, if_neg (by omega), h3a _ (by omega) (by omega), h1a _ (by omega) (by omega), hs.1.1]
    · rw [mz_w_g, if_pos ⟨rfl, rfl⟩]; omega
    · by_cases hkM : k = M
      · subst hkM
        simp only [if_true]
        refine ⟨hm, ?_, ?_, fun j hj => ?_, ?_, fun j hj hj2 => ?_⟩
        · rw [mz_w_g, if_neg (by omega), mz_w_g, if_neg (by omega), mz_w_g, if_pos ⟨rfl, rfl⟩]
        · rw [mz_w_g, if_neg (by omega), mz_w_g, if_pos ⟨rfl, rfl⟩]
        · rw [rd _ _ (by omega) (by omega) (by omega) (by omega) (by omega), hrowM j hj]
          exact ⟨Int.emod_nonneg _ (by omega), Int.emod_lt_of_pos _ (by omega)⟩
        · rw [rd _ _ (by omega) (by omega) (by omega) (by omega) (by omega), hrowM m (by omega)]
          have hp0 : ((p.toNat : Nat) : Int) = p := by omega
          have hinv := al_inv_e (p := p.toNat) (a := H1.2.1 (s + 259) m) hpr (by omega) (by omega)
          rw [hp0] at hinv
          have h5 : al_e p (iv * H1.2.1 (s + 259) m) 1 := by
            refine al_e_t (al_e_m ?_ (al_e_r p _)) hinv
            rw [← hiv]
            have h6 : (p - 2).toNat = p.toNat - 2 := by omega
            rw [h6]
            exact al_e_q p _
          have h7 := al_e_i.mp h5
          rw [h7]
          exact Int.emod_eq_of_lt (by omega) (by omega)
        · rw [rd _ _ (by omega) (by omega) (by omega) (by omega) (by omega), hrowM j hj2, hz j hj hj2, Int.mul_zero, Int.zero_emod]
      · simp only [if_neg hkM]
        obtain ⟨l1, l2, l3, l4, l5, l6⟩ := hs.2.2.1 k (by omega)
        have e1 : ∀ j, (mz_w (mz_w (mz_w (mz_w (mz_cy H3 (s + 260) 0 (s + 132 + M) 0 126) (s + 130) M src) (s + 128) M (m : Int)) (s + 129) m (M : Int)) s 1 ((M : Int) + 1)).2.1 (s + 2 + k) j = H.2.1 (s + 2 + k) j := by
          intro j
          rw [rd _ _ (by omega) (by omega) (by omega) (by omega) (by omega), h3a _ (by omega) (by omega), h1a _ (by omega) (by omega)]
        refine ⟨l1, ?_, ?_, fun j hj => by rw [e1 j]; exact l4 j hj, by rw [e1]; exact l5, fun j hj hj2 => by rw [e1 j]; exact l6 j hj hj2⟩
        · rw [mz_w_g, if_neg (by omega), mz_w_g, if_neg (by omega), mz_w_g, if_neg (by omega), mz_w_g, if_neg (by omega), mz_cy_g, if_neg (by omega), h3a _ (by omega) (by omega), h1a _ (by omega) (by omega), l2]
        · have := hnl k (by omega)
          rw [mz_w_g, if_neg (by omega), mz_w_g, if_neg (by omega), mz_w_g, if_neg (by omega), mz_w_g, if_neg (by omega), mz_cy_g, if_neg (by omega), h3a _ (by omega) (by omega), h1a _ (by omega) (by omega), l3]
    · by_cases hlm : l = m
      · right
        refine ⟨M, by omega, ?_, by simp only [if_true]; exact hlm.symm⟩
        rw [mz_w_g, if_neg (by omega), mz_w_g, if_pos ⟨rfl, hlm⟩]
      · have e1 : (mz_w (mz_w (mz_w (mz_w (mz_cy H3 (s + 260) 0 (s + 132 + M) 0 126) (s + 130) M src) (s + 128) M (m : Int)) (s + 129) m (M : Int)) s 1 ((M : Int) + 1)).2.1 (s + 129) l = H.2.1 (s + 129) l := by
          rw [mz_w_g, if_neg (by omega), mz_w_g, if_neg (by omega), mz_w_g, if_neg (by omega), mz_w_g, if_neg (by omega), mz_cy_g, if_neg (by omega), h3a _ (by omega) (by omega), h1a _ (by omega) (by omega)]
        rw [e1]
        rcases hs.2.2.2 l hl with h | ⟨k, hk, h, h'⟩
        · exact Or.inl h
        · refine Or.inr ⟨k, by omega, h, ?_⟩
          show (if k = M then m else ld k) = l
          rw [if_neg (by omega)]
          exact h'
    · rw [rd _ _ (by omega) (by omega) (by omega) (by omega) (by omega), hrowM j hj]
    · rw [rd _ _ (by omega) (by omega) (by omega) (by omega) (by omega), f3.2.2 (s + 258) (by simp; omega), z2b]
    · rw [mz_w_g, if_neg (by omega), mz_w_g, if_neg (by omega), mz_w_g, if_neg (by omega), mz_w_g, if_pos ⟨rfl, rfl⟩]
    · rw [rd _ _ (by omega) (by omega) (by omega) (by omega) (by omega), f3.2.2 (s + 258) (by simp; omega), f2.2.2 (s + 258) (by simp; omega), mz_w_g, if_neg (fun q => hk q.2), h1a _ (by omega) (by omega)]
    · rw [mz_w_g, if_neg (by omega), mz_w_g, if_neg (by omega), mz_w_g, if_neg (by omega), mz_w_g, if_neg (fun q => hk q.2), mz_cy_g, if_neg (by omega), h3a _ (by omega) (by omega), h1a _ (by omega) (by omega)]
    · rw [mz_w_g, if_neg (by omega), mz_w_g, if_neg (by omega), mz_w_g, if_neg (by omega), mz_w_g, if_neg (by omega), mz_cy_g, if_neg (by omega), h3a _ (by omega) (by omega), h1a _ (by omega) (by omega)]
