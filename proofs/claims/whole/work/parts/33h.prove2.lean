theorem se_B.fr {H h : mz_H} {A : List Nat} {s : Nat} {p : Int} {n o d M : Nat} {ld : Nat → Nat} {gm : Nat} {gen : Nat → Nat → Int} (hB : se_B H s p n o d M ld gm gen) (hM : M ≤ 126) (hf : mz_fr H h A) (hA : ∀ i, 1 ≤ i → i ≤ 258 → s + i ∉ A) (h0 : h.2.1 s 0 = H.2.1 s 0) (h1 : h.2.1 s 1 = H.2.1 s 1) : se_B h s p n o d M ld gm gen := by
  have e := fun i h1 h2 => hf.2.2 (s + i) (hA i h1 h2)
  obtain ⟨⟨⟨a0, a1⟩, a2, a3, a4⟩, b1, b2⟩ := hB
  have er : ∀ k, k < 126 → h.2.1 (s + 2 + k) = H.2.1 (s + 2 + k) := fun k hk => by
    have := e (2 + k) (by omega) (by omega)
    rw [← Nat.add_assoc] at this
    exact this
  have ec : ∀ k, k < 126 → h.2.1 (s + 132 + k) = H.2.1 (s + 132 + k) := fun k hk => by
    have := e (132 + k) (by omega) (by omega)
    rw [← Nat.add_assoc] at this
    exact this
  refine ⟨⟨⟨by rw [h0, a0], by rw [h1, a1]⟩, a2, fun k hk => ?_, fun l hl => ?_⟩, fun k hk => ?_, fun k hk => ?_⟩
  · rw [e 128 (by omega) (by omega), e 129 (by omega) (by omega), er k (by omega)]
    exact a3 k hk
  · rw [e 129 (by omega) (by omega)]
    exact a4 l hl
  · exact (b1 k hk).k (fun t ht j => by rw [er t (by omega)]) (fun t => by rw [ec k (by omega)]) (by rw [e 258 (by omega) (by omega)]) (by rw [e 130 (by omega) (by omega)]) (fun _ _ => rfl)
  · rw [er k (by omega)]
    exact b2 k hk
set_option maxRecDepth 100000 in
theorem ct_checkUpTo {e : mz_E} (d0 : Nat) {s r ga gm k c : Nat} {p : Int} {n o d M : Nat} {ld : Nat → Nat} {gen : Nat → Nat → Int} {H : mz_H} {P : mz_O → mz_H → Prop} (hG : mx_G e.1) (hR : rg_E e r) (hE : sa_E e s) (hga : gn_E e ga) (hok : tb_ok n o) (hd : d ≤ tb_h n) (hp2 : 2 ≤ p ∧ p < 32768)
    (hS : rg_S H r p n o) (hB : se_B H s p n o d M ld gm gen) (hrs : ∀ i j, i ≤ 10 → j ≤ 260 → r + i ≠ s + j) (hgs : ∀ i j, i ≤ 9 → j ≤ 260 → ga + i ≠ s + j) (hgm : gm ≤ 9) (hgen : ∀ g, g < gm → H.2.1 (ga + 1 + g) = gen g) (hpl : ∀ g, g < gm → pl p n (gen g)) (hk : k < M) (hc : H.2.1 s 2 = c) (hcM : c ≤ M)
    (hP : ∀ h c', mz_fr H h [s, s + 259] → h.2.1 s 0 = H.2.1 s 0 → h.2.1 s 1 = H.2.1 s 1 → h.2.1 s 2 = (c' : Nat) → c' ≤ M → P (.inl (some (.inl 1))) h) :
    mz_CA e (d0 + 4) j_Space_checkUpTo [.inr (.inl s), .inr (.inl r), .inr (.inl ga), .inl (k : Int)] H P := by
  have hE' := hE
  have hEN := tb_F_N hok (d := d + 1) (by omega)
  have hN := tb_N_b n
  have hME := hB.1.2.1
  obtain ⟨⟨s0, g3, g4, g5, g6, g7, g8, g9, g10⟩, ⟨q1, q128, q129, q130, q131, q258, q259, q260⟩, qr, qc⟩ := hE
  have lp : ∀ (i c : Nat) (H1 : mz_H), c + i = M → mz_fr H H1 [s, s + 259] → H1.2.1 s 0 = H.2.1 s 0 → H1.2.1 s 1 = H.2.1 s 1 → H1.2.1 s 2 = c → mz_V e (d0 + 4) mm_Space_checkUpTo 0 [some (.inr (.inl s)), some (.inr (.inl r)), some (.inr (.inl ga)), some (.inl (k : Int))] [] H1 P := by
    intro i
    induction i with
    | zero =>
      intro c H1 h1 h2 h3 h4 h5
      have z1 : H1.2.1 s 1 = M := by rw [h4, hB.1.1.2]
      apply mz_go hG 60 []
      simp only [mf_Space_checkUpTo, ca_Space_checkUpTo, dc_Space_checkUpTo_0, dc_Space_checkUpTo_1, dc_Space_checkUpTo_2, dc_Space_checkUpTo_3, fl_Space, sl_Space, sg_Space_isAsTold, s0, g3, g4, g5, g6, g7, g8, g9, g10, q1, q128, q129, q130, q131, q258, q259, q260, h5, z1, mzr_iconst, mzr_bipush, mzr_sipush, mzr_lconst, mzr_iload, mzr_iload_n, mzr_aload, mzr_aload_n, mzr_lload, mzr_lload_n, mzr_istore, mzr_istore_n, mzr_astore, mzr_astore_n, mzr_lstore, mzr_lstore_n, mzr_iinc, mzr_iadd, mzr_isub, mzr_imul, mzr_iand, mzr_ior, mzr_ixor, mzr_ishl, mzr_ishr, mzr_iushr, mzr_idiv, mzr_irem, mzr_ineg, mzr_ladd, mzr_lsub, mzr_lmul, mzr_lrem, mzr_lcmp, mzr_i2l, mzr_l2i, mzr_i2b, mzr_dup, mzr_pop, mzr_dup2, mzr_ifCond_eq, mzr_if_icmp_eq, mzr_ifCond_ne, mzr_if_icmp_ne, mzr_ifCond_lt, mzr_if_icmp_lt, mzr_ifCond_ge, mzr_if_icmp_ge, mzr_ifCond_gt, mzr_if_icmp_gt, mzr_ifCond_le, mzr_if_icmp_le, mzr_goto, mzr_iaload, mzr_baload, mzr_laload, mzr_aaload, mzr_iastore, mzr_bastore, mzr_lastore, mzr_arraylength, mzr_getfield, mzr_putfield, mzr_getstatic, mzr_ldc, mzr_ldc_w, mzr_ldc2_w, mzr_ireturn, mzr_return_, mzr_copy, mzr_static, mzr_virtual, mzr_new, mz_tk, mz_dp, mz_ln, mz_sz, mz_af_v, mz_af_s, mz_wp_s, mz_w1, mz_g, mz_st, mz_k, mz_s2, mz_nx, mz_en, mx_to, mz_c1, ↓reduceIte, Nat.reduceAdd, Nat.reduceSub, Nat.reduceMul, Nat.reduceMod, Nat.reduceDiv, Nat.reduceEqDiff, Nat.reduceLeDiff, Nat.reduceLT, Int.reduceAdd, Int.reduceSub, Int.reduceNeg, Int.reduceMul, Int.reduceLE, Int.reduceLT, Int.reduceEq, Int.reduceToNat, Int.reduceNegSucc, Int.cast_ofNat_Int, Int32.reduceToInt, Int64.reduceToInt, Int.zero_add, Int.add_zero, Fin.isValue, Fin.val_zero, Fin.val_one, Fin.val_two, reduceCtorEq, or_false, false_or, or_true, true_or, or_self, and_true, true_and, and_self, not_true_eq_false, not_false_eq_true, implies_true, forall_const, List.mem_cons, List.not_mem_nil, false_implies, true_implies, imp_false, Nat.zero_add, Option.some.injEq, Prod.mk.injEq]
      repeat' first | omega | refine mz_it (fun hh => ?_) (fun hh => ?_) | refine And.intro ?_ ?_
      all_goals exact hP H1 c h2 h3 h4 h5 (by omega)
    | succ i ih =>
      intro c H1 h1 h2 h3 h4 h5
      have z1 : H1.2.1 s 1 = M := by rw [h4, hB.1.1.2]
      have hS1 := hS.fr h2 (fun j hj => by simp; exact ⟨fun q => hrs j 0 (by omega) (by omega) (by omega), hrs j 259 (by omega) (by omega)⟩)
      have hB1 := hB.fr (by omega) h2 (fun j h1 h2 => by simp; omega) h3 h4
      apply mz_go hG 60 [0]
      by_cases hck : k < c
      · simp only [mf_Space_checkUpTo, ca_Space_checkUpTo, dc_Space_checkUpTo_0, dc_Space_checkUpTo_1, dc_Space_checkUpTo_2, dc_Space_checkUpTo_3, fl_Space, sl_Space, sg_Space_isAsTold, s0, g3, g4, g5, g6, g7, g8, g9, g10, q1, q128, q129, q130, q131, q258, q259, q260, h5, z1, mzr_iconst, mzr_bipush, mzr_sipush, mzr_lconst, mzr_iload, mzr_iload_n, mzr_aload, mzr_aload_n, mzr_lload, mzr_lload_n, mzr_istore, mzr_istore_n, mzr_astore, mzr_astore_n, mzr_lstore, mzr_lstore_n, mzr_iinc, mzr_iadd, mzr_isub, mzr_imul, mzr_iand, mzr_ior, mzr_ixor, mzr_ishl, mzr_ishr, mzr_iushr, mzr_idiv, mzr_irem, mzr_ineg, mzr_ladd, mzr_lsub, mzr_lmul, mzr_lrem, mzr_lcmp, mzr_i2l, mzr_l2i, mzr_i2b, mzr_dup, mzr_pop, mzr_dup2, mzr_ifCond_eq, mzr_if_icmp_eq, mzr_ifCond_ne, mzr_if_icmp_ne, mzr_ifCond_lt, mzr_if_icmp_lt, mzr_ifCond_ge, mzr_if_icmp_ge, mzr_ifCond_gt, mzr_if_icmp_gt, mzr_ifCond_le, mzr_if_icmp_le, mzr_goto, mzr_iaload, mzr_baload, mzr_laload, mzr_aaload, mzr_iastore, mzr_bastore, mzr_lastore, mzr_arraylength, mzr_getfield, mzr_putfield, mzr_getstatic, mzr_ldc, mzr_ldc_w, mzr_ldc2_w, mzr_ireturn, mzr_return_, mzr_copy, mzr_static, mzr_virtual, mzr_new, mz_tk, mz_dp, mz_ln, mz_sz, mz_af_v, mz_af_s, mz_wp_s, mz_w1, mz_g, mz_st, mz_k, mz_s2, mz_nx, mz_en, mx_to, mz_c1, ↓reduceIte, Nat.reduceAdd, Nat.reduceSub, Nat.reduceMul, Nat.reduceMod, Nat.reduceDiv, Nat.reduceEqDiff, Nat.reduceLeDiff, Nat.reduceLT, Int.reduceAdd, Int.reduceSub, Int.reduceNeg, Int.reduceMul, Int.reduceLE, Int.reduceLT, Int.reduceEq, Int.reduceToNat, Int.reduceNegSucc, Int.cast_ofNat_Int, Int32.reduceToInt, Int64.reduceToInt, Int.zero_add, Int.add_zero, Fin.isValue, Fin.val_zero, Fin.val_one, Fin.val_two, reduceCtorEq, or_false, false_or, or_true, true_or, or_self, and_true, true_and, and_self, not_true_eq_false, not_false_eq_true, implies_true, forall_const, List.mem_cons, List.not_mem_nil, false_implies, true_implies, imp_false, Nat.zero_add, Option.some.injEq, Prod.mk.injEq]
        repeat' first | omega | refine mz_it (fun hh => ?_) (fun hh => ?_) | refine And.intro ?_ ?_
        exact hP H1 c h2 h3 h4 h5 (by omega)
      · simp only [mf_Space_checkUpTo, ca_Space_checkUpTo, dc_Space_checkUpTo_0, dc_Space_checkUpTo_1, dc_Space_checkUpTo_2, dc_Space_checkUpTo_3, fl_Space, sl_Space, sg_Space_isAsTold, s0, g3, g4, g5, g6, g7, g8, g9, g10, q1, q128, q129, q130, q131, q258, q259, q260, h5, z1, mzr_iconst, mzr_bipush, mzr_sipush, mzr_lconst, mzr_iload, mzr_iload_n, mzr_aload, mzr_aload_n, mzr_lload, mzr_lload_n, mzr_istore, mzr_istore_n, mzr_astore, mzr_astore_n, mzr_lstore, mzr_lstore_n, mzr_iinc, mzr_iadd, mzr_isub, mzr_imul, mzr_iand, mzr_ior, mzr_ixor, mzr_ishl, mzr_ishr, mzr_iushr, mzr_idiv, mzr_irem, mzr_ineg, mzr_ladd, mzr_lsub, mzr_lmul, mzr_lrem, mzr_lcmp, mzr_i2l, mzr_l2i, mzr_i2b, mzr_dup, mzr_pop, mzr_dup2, mzr_ifCond_eq, mzr_if_icmp_eq, mzr_ifCond_ne, mzr_if_icmp_ne, mzr_ifCond_lt, mzr_if_icmp_lt, mzr_ifCond_ge, mzr_if_icmp_ge, mzr_ifCond_gt, mzr_if_icmp_gt, mzr_ifCond_le, mzr_if_icmp_le, mzr_goto, mzr_iaload, mzr_baload, mzr_laload, mzr_aaload, mzr_iastore, mzr_bastore, mzr_lastore, mzr_arraylength, mzr_getfield, mzr_putfield, mzr_getstatic, mzr_ldc, mzr_ldc_w, mzr_ldc2_w, mzr_ireturn, mzr_return_, mzr_copy, mzr_static, mzr_virtual, mzr_new, mz_tk, mz_dp, mz_ln, mz_sz, mz_af_v, mz_af_s, mz_wp_s, mz_w1, mz_g, mz_st, mz_k, mz_s2, mz_nx, mz_en, mx_to, mz_c1, ↓reduceIte, Nat.reduceAdd, Nat.reduceSub, Nat.reduceMul, Nat.reduceMod, Nat.reduceDiv, Nat.reduceEqDiff, Nat.reduceLeDiff, Nat.reduceLT, Int.reduceAdd, Int.reduceSub, Int.reduceNeg, Int.reduceMul, Int.reduceLE, Int.reduceLT, Int.reduceEq, Int.reduceToNat, Int.reduceNegSucc, Int.cast_ofNat_Int, Int32.reduceToInt, Int64.reduceToInt, Int.zero_add, Int.add_zero, Fin.isValue, Fin.val_zero, Fin.val_one, Fin.val_two, reduceCtorEq, or_false, false_or, or_true, true_or, or_self, and_true, true_and, and_self, not_true_eq_false, not_false_eq_true, implies_true, forall_const, List.mem_cons, List.not_mem_nil, false_implies, true_implies, imp_false, Nat.zero_add, Option.some.injEq, Prod.mk.injEq]
        repeat' first | omega | refine mz_it (fun hh => ?_) (fun hh => ?_) | refine And.intro ?_ ?_
        refine ct_isAsTold d0 hG hR hE' hga hok hd hp2 hS1 hB1 hrs hgs hgm (fun g hg => ?_) hpl (by omega) (fun h f1 => ?_)
        · rw [h2.2.2 (ga + 1 + g) (by simp; exact ⟨fun q => hgs (1 + g) 0 (by omega) (by omega) (by omega), fun q => hgs (1 + g) 259 (by omega) (by omega) (by omega)⟩), hgen g hg]
        · have z2 : h.2.1 s 2 = c := by rw [f1.2.2 s (by simp), h5]
          simp only [mf_Space_checkUpTo, ca_Space_checkUpTo, dc_Space_checkUpTo_0, dc_Space_checkUpTo_1, dc_Space_checkUpTo_2, dc_Space_checkUpTo_3, fl_Space, sl_Space, sg_Space_isAsTold, s0, g3, g4, g5, g6, g7, g8, g9, g10, q1, q128, q129, q130, q131, q258, q259, q260, z2, mzr_iconst, mzr_bipush, mzr_sipush, mzr_lconst, mzr_iload, mzr_iload_n, mzr_aload, mzr_aload_n, mzr_lload, mzr_lload_n, mzr_istore, mzr_istore_n, mzr_astore, mzr_astore_n, mzr_lstore, mzr_lstore_n, mzr_iinc, mzr_iadd, mzr_isub, mzr_imul, mzr_iand, mzr_ior, mzr_ixor, mzr_ishl, mzr_ishr, mzr_iushr, mzr_idiv, mzr_irem, mzr_ineg, mzr_ladd, mzr_lsub, mzr_lmul, mzr_lrem, mzr_lcmp, mzr_i2l, mzr_l2i, mzr_i2b, mzr_dup, mzr_pop, mzr_dup2, mzr_ifCond_eq, mzr_if_icmp_eq, mzr_ifCond_ne, mzr_if_icmp_ne, mzr_ifCond_lt, mzr_if_icmp_lt, mzr_ifCond_ge, mzr_if_icmp_ge, mzr_ifCond_gt, mzr_if_icmp_gt, mzr_ifCond_le, mzr_if_icmp_le, mzr_goto, mzr_iaload, mzr_baload, mzr_laload, mzr_aaload, mzr_iastore, mzr_bastore, mzr_lastore, mzr_arraylength, mzr_getfield, mzr_putfield, mzr_getstatic, mzr_ldc, mzr_ldc_w, mzr_ldc2_w, mzr_ireturn, mzr_return_, mzr_copy, mzr_static, mzr_virtual, mzr_new, mz_tk, mz_dp, mz_ln, mz_sz, mz_af_v, mz_af_s, mz_wp_s, mz_w1, mz_g, mz_st, mz_k, mz_s2, mz_nx, mz_en, mx_to, mz_c1, ↓reduceIte, Nat.reduceAdd, Nat.reduceSub, Nat.reduceMul, Nat.reduceMod, Nat.reduceDiv, Nat.reduceEqDiff, Nat.reduceLeDiff, Nat.reduceLT, Int.reduceAdd, Int.reduceSub, Int.reduceNeg, Int.reduceMul, Int.reduceLE, Int.reduceLT, Int.reduceEq, Int.reduceToNat, Int.reduceNegSucc, Int.cast_ofNat_Int, Int32.reduceToInt, Int64.reduceToInt, Int.zero_add, Int.add_zero, Fin.isValue, Fin.val_zero, Fin.val_one, Fin.val_two, reduceCtorEq, or_false, false_or, or_true, true_or, or_self, and_true, true_and, and_self, not_true_eq_false, not_false_eq_true, implies_true, forall_const, List.mem_cons, List.not_mem_nil, false_implies, true_implies, imp_false, Nat.zero_add, Option.some.injEq, Prod.mk.injEq]
          repeat' first | omega | refine mz_it (fun hh => ?_) (fun hh => ?_) | refine And.intro ?_ ?_
          have f2 : mz_fr H (mz_w h s 2 ((c : Int) + 1)) [s, s + 259] := (h2.tr (f1.mono (by simp))).tr (mz_fr.w _ _ _ _ (by simp))
          refine ih (c + 1) _ (by omega) f2 ?_ ?_ ?_
          · rw [mz_w_g, if_neg (by omega), f1.2.2 s (by simp), h3]
          · rw [mz_w_g, if_neg (by omega), f1.2.2 s (by simp), h4]
          · rw [mz_w_g, if_pos ⟨rfl, rfl⟩]; omega
  refine mz_CA_of mr_Space_checkUpTo ?_
  simp only [mf_Space_checkUpTo, mz_en, List.replicate, Nat.reduceSub, Nat.reduceAdd, Nat.reduceMul]
  exact lp (M - c) c H (by omega) (mz_fr.refl _ _) rfl rfl hc
