theorem tb_T_0 {n o : Nat} (hok : tb_ok n o) : tb_T n o 0 = (0, 0, 0, 0) := by
  have h1 := tb_N_p n
  have h2 := (tb_F_i hok (d := 1) (by omega) (show 0 < tb_N n by omega)).mp (by
    obtain ⟨a, b, c⟩ := hok
    obtain rfl | rfl | rfl | rfl : n = 1 ∨ n = 2 ∨ n = 3 ∨ n = 4 := by omega
    all_goals decide)
  exact al_dg_0 (by omega)
theorem al_mp_k {p : Int} {N : Nat} {T : Nat → al_M} {f f' g g' : Nat → Int} (hf : ∀ i, i < N → f i = f' i) (hg : ∀ i, i < N → g i = g' i) (m : Nat) : al_mp p N T f g m = al_mp p N T f' g' m := by
  unfold al_mp al_rp
  by_cases hm : m < N
  · rw [if_pos hm, if_pos hm]
    congr 1
    exact al_S_c (fun i hi => al_S_c (fun j hj => by rw [hf i hi, hg j hj]))
  · rw [if_neg hm, if_neg hm]
theorem sp_top_c {f g : Nat → Int} {n : Nat} (h : ∀ i, i < n → f i = g i) : sp_top f n = sp_top g n := by
  induction n with
  | zero => rfl
  | succ n ih => rw [sp_top, sp_top, ih (fun i hi => h i (by omega)), h n (by omega)]
theorem sp_deg_c {n o : Nat} {f g : Nat → Int} (h : ∀ i, i < tb_N n → f i = g i) : sp_deg n o f = sp_deg n o g := by
  unfold sp_deg
  rw [sp_top_c h]
def lt_v (v : Nat) : Int := if v < 3 then 120 + (v : Int) else 119
set_option maxRecDepth 100000 in
theorem ct_letterOf {e : mz_E} (d : Nat) {v : Nat} {H : mz_H} {P : mz_O → mz_H → Prop} (hG : mx_G e.1) (hv : v < 4) (hP : P (.inl (some (.inl (lt_v v)))) H) : mz_CA e d j_TextReader_letterOf [.inl (v : Int)] H P := by
  unfold lt_v at hP
  refine mz_CA_of mr_TextReader_letterOf ?_
  simp only [mf_TextReader_letterOf, mz_en, List.replicate, Nat.reduceSub, Nat.reduceAdd, Nat.reduceMul]
  apply mz_go hG 40 []
  simp only [mf_TextReader_letterOf, ca_TextReader_letterOf, dc_TextReader_letterOf_0, dc_TextReader_letterOf_1, mzr_iconst, mzr_bipush, mzr_sipush, mzr_lconst, mzr_iload, mzr_iload_n, mzr_aload, mzr_aload_n, mzr_lload, mzr_lload_n, mzr_istore, mzr_istore_n, mzr_astore, mzr_astore_n, mzr_lstore, mzr_lstore_n, mzr_iinc, mzr_iadd, mzr_isub, mzr_imul, mzr_iand, mzr_ior, mzr_ixor, mzr_ishl, mzr_ishr, mzr_iushr, mzr_idiv, mzr_irem, mzr_ineg, mzr_ladd, mzr_lsub, mzr_lmul, mzr_lrem, mzr_lcmp, mzr_i2l, mzr_l2i, mzr_i2b, mzr_dup, mzr_pop, mzr_dup2, mzr_ifCond_eq, mzr_if_icmp_eq, mzr_ifCond_ne, mzr_if_icmp_ne, mzr_ifCond_lt, mzr_if_icmp_lt, mzr_ifCond_ge, mzr_if_icmp_ge, mzr_ifCond_gt, mzr_if_icmp_gt, mzr_ifCond_le, mzr_if_icmp_le, mzr_goto, mzr_iaload, mzr_baload, mzr_laload, mzr_aaload, mzr_iastore, mzr_bastore, mzr_lastore, mzr_arraylength, mzr_getfield, mzr_putfield, mzr_getstatic, mzr_ldc, mzr_ldc_w, mzr_ldc2_w, mzr_ireturn, mzr_return_, mzr_copy, mzr_static, mzr_virtual, mzr_new, mz_tk, mz_dp, mz_ln, mz_sz, mz_af_v, mz_af_s, mz_wp_s, mz_w1, mz_g, mz_st, mz_k, mz_s2, mz_nx, mz_en, mx_to, mz_c1, ↓reduceIte, Nat.reduceAdd, Nat.reduceSub, Nat.reduceMul, Nat.reduceMod, Nat.reduceDiv, Nat.reduceEqDiff, Nat.reduceLeDiff, Nat.reduceLT, Int.reduceAdd, Int.reduceSub, Int.reduceNeg, Int.reduceMul, Int.reduceLE, Int.reduceLT, Int.reduceEq, Int.reduceToNat, Int.reduceNegSucc, Int.cast_ofNat_Int, Int32.reduceToInt, Int64.reduceToInt, Int.zero_add, Int.add_zero, Fin.isValue, Fin.val_zero, Fin.val_one, Fin.val_two, reduceCtorEq, or_false, false_or, or_true, true_or, or_self, and_true, true_and, and_self, not_true_eq_false, not_false_eq_true, implies_true, forall_const, List.mem_cons, List.not_mem_nil, false_implies, true_implies, imp_false, Nat.zero_add, Option.some.injEq, Prod.mk.injEq]
  repeat' first | omega | refine mz_it (fun hh => ?_) (fun hh => ?_) | refine And.intro ?_ ?_
  · rwa [if_neg (by omega)] at hP
  · rwa [if_pos (by omega)] at hP
theorem ps_vr_1 {n v : Nat} {c : Int} (hv : v < n) (hn : n ≤ 4) (h : c = lt_v v) : ps_vr n c = v := by
  unfold lt_v at h
  unfold ps_vr
  obtain rfl | rfl | rfl | rfl : v = 0 ∨ v = 1 ∨ v = 2 ∨ v = 3 := by omega
  · rw [h]; rfl
  · rw [h]; simp; omega
  · rw [h]; simp; omega
  · rw [h]; simp; omega
theorem ps_vr_0 {n : Nat} {c : Int} (hn : 1 ≤ n) (h : ∀ v, v < n → c ≠ lt_v v) : ps_vr n c = -1 := by
  unfold ps_vr
  have h0 := h 0 (by omega)
  have e0 : lt_v 0 = 120 := rfl
  have e1 : lt_v 1 = 121 := rfl
  have e2 : lt_v 2 = 122 := rfl
  have e3 : lt_v 3 = 119 := rfl
  rw [if_neg (by omega)]
  by_cases n1 : 1 < n
  · have h1 := h 1 n1
    rw [if_neg (by omega)]
    by_cases n2 : 2 < n
    · have h2 := h 2 n2
      rw [if_neg (by omega)]
      by_cases n3 : 3 < n
      · have h3 := h 3 n3
        rw [if_neg (by omega)]
      · rw [if_neg (by omega)]
    · rw [if_neg (by omega), if_neg (by omega)]
  · rw [if_neg (by omega), if_neg (by omega), if_neg (by omega)]
set_option maxRecDepth 100000 in
theorem ct_variableNext {e : mz_E} (d : Nat) {t r len a : Nat} {p : Int} {n o : Nat} {H : mz_H} {P : mz_O → mz_H → Prop} (hG : mx_G e.1) (hT : tr_E e t r) (hR : rg_E e r) (hok : tb_ok n o) (hS : rg_S H r p n o) (h5 : H.2.1 t 5 = len) (h6 : H.2.1 t 6 = a) (hl : len ≤ 400) (hP : P (.inl (some (.inl (if a < len then ps_vr n (H.2.1 (t + 2) a) else -1)))) H) : mz_CA e (d + 1) j_TextReader_variableNext [.inr (.inl t)] H P := by
  have hT' := hT
  have hR' := hR
  have hn4 := hok.2.1
  have hN3 := tb_N_p n
  have z1 := hS.2.1
  have h0 := tb_T_0 hok
  have hh5 : 5 ≤ tb_h n := by unfold tb_h; split <;> omega
  obtain ⟨r0, f5, f6, f7, f8, f9, f10, f11, f12, f13, f14, k1, k2, k3, k4, k5, k6, k7, k8, k9, k10⟩ := hR
  obtain ⟨⟨t0, y2, y3, y4, y7, y8, y9, y10, y11⟩, ⟨w1, w2, w3, w25, w47, w69, w70⟩, ws, wt, wf⟩ := hT
  have lp : ∀ (k v : Nat), v + k = n → (∀ u, u < v → ¬ (a < len ∧ H.2.1 (t + 2) a = lt_v u)) → mz_V e (d + 1) mm_TextReader_variableNext 2 [some (.inr (.inl t)), some (.inl (v : Int))] [] H P := by
    intro k
    induction k with
    | zero =>
      intro v h1 h2
      obtain rfl : v = n := by omega
      have hq : (if a < len then ps_vr v (H.2.1 (t + 2) a) else -1) = -1 := by
        by_cases hal : a < len
        · rw [if_pos hal]
          exact ps_vr_0 hok.1 (fun u hu q => h2 u hu ⟨hal, q⟩)
        · rw [if_neg hal]
      rw [hq] at hP
      apply mz_go hG 60 [2]
      simp only [mf_TextReader_variableNext, ca_TextReader_variableNext, dc_TextReader_variableNext_0, dc_TextReader_variableNext_1, dc_TextReader_variableNext_2, dc_TextReader_variableNext_3, fl_TextReader, sl_TextReader, sg_TextReader_letterOf, sg_TextReader_isNext, sg_Ring_above, cpn_reader_0, mx_cp_r, t0, y2, y3, y4, y7, y8, y9, y10, y11, w1, w2, w3, w25, w47, w69, w70, r0, f5, f6, f7, f8, f9, f10, f11, f12, f13, f14, k1, k2, k3, k4, k5, k6, k7, k8, k9, k10, z1, mzr_iconst, mzr_bipush, mzr_sipush, mzr_lconst, mzr_iload, mzr_iload_n, mzr_aload, mzr_aload_n, mzr_lload, mzr_lload_n, mzr_istore, mzr_istore_n, mzr_astore, mzr_astore_n, mzr_lstore, mzr_lstore_n, mzr_iinc, mzr_iadd, mzr_isub, mzr_imul, mzr_iand, mzr_ior, mzr_ixor, mzr_ishl, mzr_ishr, mzr_iushr, mzr_idiv, mzr_irem, mzr_ineg, mzr_ladd, mzr_lsub, mzr_lmul, mzr_lrem, mzr_lcmp, mzr_i2l, mzr_l2i, mzr_i2b, mzr_dup, mzr_pop, mzr_dup2, mzr_ifCond_eq, mzr_if_icmp_eq, mzr_ifCond_ne, mzr_if_icmp_ne, mzr_ifCond_lt, mzr_if_icmp_lt, mzr_ifCond_ge, mzr_if_icmp_ge, mzr_ifCond_gt, mzr_if_icmp_gt, mzr_ifCond_le, mzr_if_icmp_le, mzr_goto, mzr_iaload, mzr_baload, mzr_laload, mzr_aaload, mzr_iastore, mzr_bastore, mzr_lastore, mzr_arraylength, mzr_getfield, mzr_putfield, mzr_getstatic, mzr_ldc, mzr_ldc_w, mzr_ldc2_w, mzr_ireturn, mzr_return_, mzr_copy, mzr_static, mzr_virtual, mzr_new, mz_tk, mz_dp, mz_ln, mz_sz, mz_af_v, mz_af_s, mz_wp_s, mz_w1, mz_g, mz_st, mz_k, mz_s2, mz_nx, mz_en, mx_to, mz_c1, ↓reduceIte, Nat.reduceAdd, Nat.reduceSub, Nat.reduceMul, Nat.reduceMod, Nat.reduceDiv, Nat.reduceEqDiff, Nat.reduceLeDiff, Nat.reduceLT, Int.reduceAdd, Int.reduceSub, Int.reduceNeg, Int.reduceMul, Int.reduceLE, Int.reduceLT, Int.reduceEq, Int.reduceToNat, Int.reduceNegSucc, Int.cast_ofNat_Int, Int32.reduceToInt, Int64.reduceToInt, Int.zero_add, Int.add_zero, Fin.isValue, Fin.val_zero, Fin.val_one, Fin.val_two, reduceCtorEq, or_false, false_or, or_true, true_or, or_self, and_true, true_and, and_self, not_true_eq_false, not_false_eq_true, implies_true, forall_const, List.mem_cons, List.not_mem_nil, false_implies, true_implies, imp_false, Nat.zero_add, Option.some.injEq, Prod.mk.injEq]
      repeat' first | omega | refine mz_it (fun hh => ?_) (fun hh => ?_) | refine And.intro ?_ ?_
      all_goals exact hP
    | succ k ih =>
      intro v h1 h2
      have hv : v < n := by omega
      have qa := hS.2.2.2.2.2.2.2.2.2.2.2.1 0 v (by omega) hv
      have hab := (tb_ab_r hok (show 0 < tb_N n by omega) hv).1 (by rw [h0]; show 0 < tb_h n; omega)
      apply mz_go hG 60 [2]
      simp only [mf_TextReader_variableNext, ca_TextReader_variableNext, dc_TextReader_variableNext_0, dc_TextReader_variableNext_1, dc_TextReader_variableNext_2, dc_TextReader_variableNext_3, fl_TextReader, sl_TextReader, sg_TextReader_letterOf, sg_TextReader_isNext, sg_Ring_above, cpn_reader_0, mx_cp_r, t0, y2, y3, y4, y7, y8, y9, y10, y11, w1, w2, w3, w25, w47, w69, w70, r0, f5, f6, f7, f8, f9, f10, f11, f12, f13, f14, k1, k2, k3, k4, k5, k6, k7, k8, k9, k10, z1, mzr_iconst, mzr_bipush, mzr_sipush, mzr_lconst, mzr_iload, mzr_iload_n, mzr_aload, mzr_aload_n, mzr_lload, mzr_lload_n, mzr_istore, mzr_istore_n, mzr_astore, mzr_astore_n, mzr_lstore, mzr_lstore_n, mzr_iinc, mzr_iadd, mzr_isub, mzr_imul, mzr_iand, mzr_ior, mzr_ixor, mzr_ishl, mzr_ishr, mzr_iushr, mzr_idiv, mzr_irem, mzr_ineg, mzr_ladd, mzr_lsub, mzr_lmul, mzr_lrem, mzr_lcmp, mzr_i2l, mzr_l2i, mzr_i2b, mzr_dup, mzr_pop, mzr_dup2, mzr_ifCond_eq, mzr_if_icmp_eq, mzr_ifCond_ne, mzr_if_icmp_ne, mzr_ifCond_lt, mzr_if_icmp_lt, mzr_ifCond_ge, mzr_if_icmp_ge, mzr_ifCond_gt, mzr_if_icmp_gt, mzr_ifCond_le, mzr_if_icmp_le, mzr_goto, mzr_iaload, mzr_baload, mzr_laload, mzr_aaload, mzr_iastore, mzr_bastore, mzr_lastore, mzr_arraylength, mzr_getfield, mzr_putfield, mzr_getstatic, mzr_ldc, mzr_ldc_w, mzr_ldc2_w, mzr_ireturn, mzr_return_, mzr_copy, mzr_static, mzr_virtual, mzr_new, mz_tk, mz_dp, mz_ln, mz_sz, mz_af_v, mz_af_s, mz_wp_s, mz_w1, mz_g, mz_st, mz_k, mz_s2, mz_nx, mz_en, mx_to, mz_c1, ↓reduceIte, Nat.reduceAdd, Nat.reduceSub, Nat.reduceMul, Nat.reduceMod, Nat.reduceDiv, Nat.reduceEqDiff, Nat.reduceLeDiff, Nat.reduceLT, Int.reduceAdd, Int.reduceSub, Int.reduceNeg, Int.reduceMul, Int.reduceLE, Int.reduceLT, Int.reduceEq, Int.reduceToNat, Int.reduceNegSucc, Int.cast_ofNat_Int, Int32.reduceToInt, Int64.reduceToInt, Int.zero_add, Int.add_zero, Fin.isValue, Fin.val_zero, Fin.val_one, Fin.val_two, reduceCtorEq, or_false, false_or, or_true, true_or, or_self, and_true, true_and, and_self, not_true_eq_false, not_false_eq_true, implies_true, forall_const, List.mem_cons, List.not_mem_nil, false_implies, true_implies, imp_false, Nat.zero_add, Option.some.injEq, Prod.mk.injEq]
      repeat' first | omega | refine mz_it (fun hh => ?_) (fun hh => ?_) | refine And.intro ?_ ?_
      refine ct_letterOf d hG (by omega) ?_
      simp only [mf_TextReader_variableNext, ca_TextReader_variableNext, dc_TextReader_variableNext_0, dc_TextReader_variableNext_1, dc_TextReader_variableNext_2, dc_TextReader_variableNext_3, fl_TextReader, sl_TextReader, sg_TextReader_letterOf, sg_TextReader_isNext, sg_Ring_above, cpn_reader_0, mx_cp_r, t0, y2, y3, y4, y7, y8, y9, y10, y11, w1, w2, w3, w25, w47, w69, w70, r0, f5, f6, f7, f8, f9, f10, f11, f12, f13, f14, k1, k2, k3, k4, k5, k6, k7, k8, k9, k10, mzr_iconst, mzr_bipush, mzr_sipush, mzr_lconst, mzr_iload, mzr_iload_n, mzr_aload, mzr_aload_n, mzr_lload, mzr_lload_n, mzr_istore, mzr_istore_n, mzr_astore, mzr_astore_n, mzr_lstore, mzr_lstore_n, mzr_iinc, mzr_iadd, mzr_isub, mzr_imul, mzr_iand, mzr_ior, mzr_ixor, mzr_ishl, mzr_ishr, mzr_iushr, mzr_idiv, mzr_irem, mzr_ineg, mzr_ladd, mzr_lsub, mzr_lmul, mzr_lrem, mzr_lcmp, mzr_i2l, mzr_l2i, mzr_i2b, mzr_dup, mzr_pop, mzr_dup2, mzr_ifCond_eq, mzr_if_icmp_eq, mzr_ifCond_ne, mzr_if_icmp_ne, mzr_ifCond_lt, mzr_if_icmp_lt, mzr_ifCond_ge, mzr_if_icmp_ge, mzr_ifCond_gt, mzr_if_icmp_gt, mzr_ifCond_le, mzr_if_icmp_le, mzr_goto, mzr_iaload, mzr_baload, mzr_laload, mzr_aaload, mzr_iastore, mzr_bastore, mzr_lastore, mzr_arraylength, mzr_getfield, mzr_putfield, mzr_getstatic, mzr_ldc, mzr_ldc_w, mzr_ldc2_w, mzr_ireturn, mzr_return_, mzr_copy, mzr_static, mzr_virtual, mzr_new, mz_tk, mz_dp, mz_ln, mz_sz, mz_af_v, mz_af_s, mz_wp_s, mz_w1, mz_g, mz_st, mz_k, mz_s2, mz_nx, mz_en, mx_to, mz_c1, ↓reduceIte, Nat.reduceAdd, Nat.reduceSub, Nat.reduceMul, Nat.reduceMod, Nat.reduceDiv, Nat.reduceEqDiff, Nat.reduceLeDiff, Nat.reduceLT, Int.reduceAdd, Int.reduceSub, Int.reduceNeg, Int.reduceMul, Int.reduceLE, Int.reduceLT, Int.reduceEq, Int.reduceToNat, Int.reduceNegSucc, Int.cast_ofNat_Int, Int32.reduceToInt, Int64.reduceToInt, Int.zero_add, Int.add_zero, Fin.isValue, Fin.val_zero, Fin.val_one, Fin.val_two, reduceCtorEq, or_false, false_or, or_true, true_or, or_self, and_true, true_and, and_self, not_true_eq_false, not_false_eq_true, implies_true, forall_const, List.mem_cons, List.not_mem_nil, false_implies, true_implies, imp_false, Nat.zero_add, Option.some.injEq, Prod.mk.injEq]
      repeat' first | omega | refine mz_it (fun hh => ?_) (fun hh => ?_) | refine And.intro ?_ ?_
      refine ct_isNext d hG hT' h5 h6 hl ?_
      by_cases hc : a < len ∧ H.2.1 (t + 2) a = lt_v v
      · rw [if_pos hc]
        rw [if_pos hc.1, ps_vr_1 hv hn4 hc.2] at hP
        simp only [mf_TextReader_variableNext, ca_TextReader_variableNext, dc_TextReader_variableNext_0, dc_TextReader_variableNext_1, dc_TextReader_variableNext_2, dc_TextReader_variableNext_3, fl_TextReader, sl_TextReader, sg_TextReader_letterOf, sg_TextReader_isNext, sg_Ring_above, cpn_reader_0, mx_cp_r, t0, y2, y3, y4, y7, y8, y9, y10, y11, w1, w2, w3, w25, w47, w69, w70, r0, f5, f6, f7, f8, f9, f10, f11, f12, f13, f14, k1, k2, k3, k4, k5, k6, k7, k8, k9, k10, mzr_iconst, mzr_bipush, mzr_sipush, mzr_lconst, mzr_iload, mzr_iload_n, mzr_aload, mzr_aload_n, mzr_lload, mzr_lload_n, mzr_istore, mzr_istore_n, mzr_astore, mzr_astore_n, mzr_lstore, mzr_lstore_n, mzr_iinc, mzr_iadd, mzr_isub, mzr_imul, mzr_iand, mzr_ior, mzr_ixor, mzr_ishl, mzr_ishr, mzr_iushr, mzr_idiv, mzr_irem, mzr_ineg, mzr_ladd, mzr_lsub, mzr_lmul, mzr_lrem, mzr_lcmp, mzr_i2l, mzr_l2i, mzr_i2b, mzr_dup, mzr_pop, mzr_dup2, mzr_ifCond_eq, mzr_if_icmp_eq, mzr_ifCond_ne, mzr_if_icmp_ne, mzr_ifCond_lt, mzr_if_icmp_lt, mzr_ifCond_ge, mzr_if_icmp_ge, mzr_ifCond_gt, mzr_if_icmp_gt, mzr_ifCond_le, mzr_if_icmp_le, mzr_goto, mzr_iaload, mzr_baload, mzr_laload, mzr_aaload, mzr_iastore, mzr_bastore, mzr_lastore, mzr_arraylength, mzr_getfield, mzr_putfield, mzr_getstatic, mzr_ldc, mzr_ldc_w, mzr_ldc2_w, mzr_ireturn, mzr_return_, mzr_copy, mzr_static, mzr_virtual, mzr_new, mz_tk, mz_dp, mz_ln, mz_sz, mz_af_v, mz_af_s, mz_wp_s, mz_w1, mz_g, mz_st, mz_k, mz_s2, mz_nx, mz_en, mx_to, mz_c1, ↓reduceIte, Nat.reduceAdd, Nat.reduceSub, Nat.reduceMul, Nat.reduceMod, Nat.reduceDiv, Nat.reduceEqDiff, Nat.reduceLeDiff, Nat.reduceLT, Int.reduceAdd, Int.reduceSub, Int.reduceNeg, Int.reduceMul, Int.reduceLE, Int.reduceLT, Int.reduceEq, Int.reduceToNat, Int.reduceNegSucc, Int.cast_ofNat_Int, Int32.reduceToInt, Int64.reduceToInt, Int.zero_add, Int.add_zero, Fin.isValue, Fin.val_zero, Fin.val_one, Fin.val_two, reduceCtorEq, or_false, false_or, or_true, true_or, or_self, and_true, true_and, and_self, not_true_eq_false, not_false_eq_true, implies_true, forall_const, List.mem_cons, List.not_mem_nil, false_implies, true_implies, imp_false, Nat.zero_add, Option.some.injEq, Prod.mk.injEq]
        repeat' first | omega | refine mz_it (fun hh => ?_) (fun hh => ?_) | refine And.intro ?_ ?_
        rw [show (0 : Int) = ((0 : Nat) : Int) by rfl]
        refine ct_above d hG hR' (by omega) (by omega) ?_
        rw [qa, hab.1]
        simp only [mf_TextReader_variableNext, ca_TextReader_variableNext, dc_TextReader_variableNext_0, dc_TextReader_variableNext_1, dc_TextReader_variableNext_2, dc_TextReader_variableNext_3, fl_TextReader, sl_TextReader, sg_TextReader_letterOf, sg_TextReader_isNext, sg_Ring_above, cpn_reader_0, mx_cp_r, t0, y2, y3, y4, y7, y8, y9, y10, y11, w1, w2, w3, w25, w47, w69, w70, r0, f5, f6, f7, f8, f9, f10, f11, f12, f13, f14, k1, k2, k3, k4, k5, k6, k7, k8, k9, k10, mzr_iconst, mzr_bipush, mzr_sipush, mzr_lconst, mzr_iload, mzr_iload_n, mzr_aload, mzr_aload_n, mzr_lload, mzr_lload_n, mzr_istore, mzr_istore_n, mzr_astore, mzr_astore_n, mzr_lstore, mzr_lstore_n, mzr_iinc, mzr_iadd, mzr_isub, mzr_imul, mzr_iand, mzr_ior, mzr_ixor, mzr_ishl, mzr_ishr, mzr_iushr, mzr_idiv, mzr_irem, mzr_ineg, mzr_ladd, mzr_lsub, mzr_lmul, mzr_lrem, mzr_lcmp, mzr_i2l, mzr_l2i, mzr_i2b, mzr_dup, mzr_pop, mzr_dup2, mzr_ifCond_eq, mzr_if_icmp_eq, mzr_ifCond_ne, mzr_if_icmp_ne, mzr_ifCond_lt, mzr_if_icmp_lt, mzr_ifCond_ge, mzr_if_icmp_ge, mzr_ifCond_gt, mzr_if_icmp_gt, mzr_ifCond_le, mzr_if_icmp_le, mzr_goto, mzr_iaload, mzr_baload, mzr_laload, mzr_aaload, mzr_iastore, mzr_bastore, mzr_lastore, mzr_arraylength, mzr_getfield, mzr_putfield, mzr_getstatic, mzr_ldc, mzr_ldc_w, mzr_ldc2_w, mzr_ireturn, mzr_return_, mzr_copy, mzr_static, mzr_virtual, mzr_new, mz_tk, mz_dp, mz_ln, mz_sz, mz_af_v, mz_af_s, mz_wp_s, mz_w1, mz_g, mz_st, mz_k, mz_s2, mz_nx, mz_en, mx_to, mz_c1, ↓reduceIte, Nat.reduceAdd, Nat.reduceSub, Nat.reduceMul, Nat.reduceMod, Nat.reduceDiv, Nat.reduceEqDiff, Nat.reduceLeDiff, Nat.reduceLT, Int.reduceAdd, Int.reduceSub, Int.reduceNeg, Int.reduceMul, Int.reduceLE, Int.reduceLT, Int.reduceEq, Int.reduceToNat, Int.reduceNegSucc, Int.cast_ofNat_Int, Int32.reduceToInt, Int64.reduceToInt, Int.zero_add, Int.add_zero, Fin.isValue, Fin.val_zero, Fin.val_one, Fin.val_two, reduceCtorEq, or_false, false_or, or_true, true_or, or_self, and_true, true_and, and_self, not_true_eq_false, not_false_eq_true, implies_true, forall_const, List.mem_cons, List.not_mem_nil, false_implies, true_implies, imp_false, Nat.zero_add, Option.some.injEq, Prod.mk.injEq]
        repeat' first | omega | refine mz_it (fun hh => ?_) (fun hh => ?_) | refine And.intro ?_ ?_
        all_goals exact hP
      · rw [if_neg hc]
        simp only [mf_TextReader_variableNext, ca_TextReader_variableNext, dc_TextReader_variableNext_0, dc_TextReader_variableNext_1, dc_TextReader_variableNext_2, dc_TextReader_variableNext_3, fl_TextReader, sl_TextReader, sg_TextReader_letterOf, sg_TextReader_isNext, sg_Ring_above, cpn_reader_0, mx_cp_r, t0, y2, y3, y4, y7, y8, y9, y10, y11, w1, w2, w3, w25, w47, w69, w70, r0, f5, f6, f7, f8, f9, f10, f11, f12, f13, f14, k1, k2, k3, k4, k5, k6, k7, k8, k9, k10, mzr_iconst, mzr_bipush, mzr_sipush, mzr_lconst, mzr_iload, mzr_iload_n, mzr_aload, mzr_aload_n, mzr_lload, mzr_lload_n, mzr_istore, mzr_istore_n, mzr_astore, mzr_astore_n, mzr_lstore, mzr_lstore_n, mzr_iinc, mzr_iadd, mzr_isub, mzr_imul, mzr_iand, mzr_ior, mzr_ixor, mzr_ishl, mzr_ishr, mzr_iushr, mzr_idiv, mzr_irem, mzr_ineg, mzr_ladd, mzr_lsub, mzr_lmul, mzr_lrem, mzr_lcmp, mzr_i2l, mzr_l2i, mzr_i2b, mzr_dup, mzr_pop, mzr_dup2, mzr_ifCond_eq, mzr_if_icmp_eq, mzr_ifCond_ne, mzr_if_icmp_ne, mzr_ifCond_lt, mzr_if_icmp_lt, mzr_ifCond_ge, mzr_if_icmp_ge, mzr_ifCond_gt, mzr_if_icmp_gt, mzr_ifCond_le, mzr_if_icmp_le, mzr_goto, mzr_iaload, mzr_baload, mzr_laload, mzr_aaload, mzr_iastore, mzr_bastore, mzr_lastore, mzr_arraylength, mzr_getfield, mzr_putfield, mzr_getstatic, mzr_ldc, mzr_ldc_w, mzr_ldc2_w, mzr_ireturn, mzr_return_, mzr_copy, mzr_static, mzr_virtual, mzr_new, mz_tk, mz_dp, mz_ln, mz_sz, mz_af_v, mz_af_s, mz_wp_s, mz_w1, mz_g, mz_st, mz_k, mz_s2, mz_nx, mz_en, mx_to, mz_c1, ↓reduceIte, Nat.reduceAdd, Nat.reduceSub, Nat.reduceMul, Nat.reduceMod, Nat.reduceDiv, Nat.reduceEqDiff, Nat.reduceLeDiff, Nat.reduceLT, Int.reduceAdd, Int.reduceSub, Int.reduceNeg, Int.reduceMul, Int.reduceLE, Int.reduceLT, Int.reduceEq, Int.reduceToNat, Int.reduceNegSucc, Int.cast_ofNat_Int, Int32.reduceToInt, Int64.reduceToInt, Int.zero_add, Int.add_zero, Fin.isValue, Fin.val_zero, Fin.val_one, Fin.val_two, reduceCtorEq, or_false, false_or, or_true, true_or, or_self, and_true, true_and, and_self, not_true_eq_false, not_false_eq_true, implies_true, forall_const, List.mem_cons, List.not_mem_nil, false_implies, true_implies, imp_false, Nat.zero_add, Option.some.injEq, Prod.mk.injEq]
        repeat' first | omega | refine mz_it (fun hh => ?_) (fun hh => ?_) | refine And.intro ?_ ?_
        rw [show (v : Int) + 1 = ((v + 1 : Nat) : Int) by omega]
        refine ih (v + 1) (by omega) (fun u hu => ?_)
        by_cases huv : u = v
        · rw [huv]; exact hc
        · exact h2 u (by omega)
  refine mz_CA_of mr_TextReader_variableNext ?_
  simp only [mf_TextReader_variableNext, mz_en, List.replicate, Nat.reduceSub, Nat.reduceAdd, Nat.reduceMul]
  apply mz_go hG 60 [2]
  simp only [mf_TextReader_variableNext, ca_TextReader_variableNext, dc_TextReader_variableNext_0, dc_TextReader_variableNext_1, dc_TextReader_variableNext_2, dc_TextReader_variableNext_3, fl_TextReader, sl_TextReader, sg_TextReader_letterOf, sg_TextReader_isNext, sg_Ring_above, cpn_reader_0, mx_cp_r, t0, y2, y3, y4, y7, y8, y9, y10, y11, w1, w2, w3, w25, w47, w69, w70, mzr_iconst, mzr_bipush, mzr_sipush, mzr_lconst, mzr_iload, mzr_iload_n, mzr_aload, mzr_aload_n, mzr_lload, mzr_lload_n, mzr_istore, mzr_istore_n, mzr_astore, mzr_astore_n, mzr_lstore, mzr_lstore_n, mzr_iinc, mzr_iadd, mzr_isub, mzr_imul, mzr_iand, mzr_ior, mzr_ixor, mzr_ishl, mzr_ishr, mzr_iushr, mzr_idiv, mzr_irem, mzr_ineg, mzr_ladd, mzr_lsub, mzr_lmul, mzr_lrem, mzr_lcmp, mzr_i2l, mzr_l2i, mzr_i2b, mzr_dup, mzr_pop, mzr_dup2, mzr_ifCond_eq, mzr_if_icmp_eq, mzr_ifCond_ne, mzr_if_icmp_ne, mzr_ifCond_lt, mzr_if_icmp_lt, mzr_ifCond_ge, mzr_if_icmp_ge, mzr_ifCond_gt, mzr_if_icmp_gt, mzr_ifCond_le, mzr_if_icmp_le, mzr_goto, mzr_iaload, mzr_baload, mzr_laload, mzr_aaload, mzr_iastore, mzr_bastore, mzr_lastore, mzr_arraylength, mzr_getfield, mzr_putfield, mzr_getstatic, mzr_ldc, mzr_ldc_w, mzr_ldc2_w, mzr_ireturn, mzr_return_, mzr_copy, mzr_static, mzr_virtual, mzr_new, mz_tk, mz_dp, mz_ln, mz_sz, mz_af_v, mz_af_s, mz_wp_s, mz_w1, mz_g, mz_st, mz_k, mz_s2, mz_nx, mz_en, mx_to, mz_c1, ↓reduceIte, Nat.reduceAdd, Nat.reduceSub, Nat.reduceMul, Nat.reduceMod, Nat.reduceDiv, Nat.reduceEqDiff, Nat.reduceLeDiff, Nat.reduceLT, Int.reduceAdd, Int.reduceSub, Int.reduceNeg, Int.reduceMul, Int.reduceLE, Int.reduceLT, Int.reduceEq, Int.reduceToNat, Int.reduceNegSucc, Int.cast_ofNat_Int, Int32.reduceToInt, Int64.reduceToInt, Int.zero_add, Int.add_zero, Fin.isValue, Fin.val_zero, Fin.val_one, Fin.val_two, reduceCtorEq, or_false, false_or, or_true, true_or, or_self, and_true, true_and, and_self, not_true_eq_false, not_false_eq_true, implies_true, forall_const, List.mem_cons, List.not_mem_nil, false_implies, true_implies, imp_false, Nat.zero_add, Option.some.injEq, Prod.mk.injEq]
  repeat' first | omega | refine mz_it (fun hh => ?_) (fun hh => ?_) | refine And.intro ?_ ?_
  exact lp n 0 (by omega) (fun u hu => by omega)
set_option maxRecDepth 100000 in
theorem ct_raise {e : mz_E} (d : Nat) {t r fa x a : Nat} {p : Int} {n o : Nat} {f : Nat → Int} {H : mz_H} {P : mz_O → mz_H → Prop} (hG : mx_G e.1) (hT : tr_E e t r) (hR : rg_E e r) (hok : tb_ok n o) (hp2 : 2 ≤ p ∧ p < 32768) (hS : rg_S H r p n o) (hrt : r + 10 < t) (hfk : e.2.1 fa = some (20, 126)) (hft : fa < t + 69 ∧ t < fa) (hx : x < 128)
    (hf : ∀ j, j < 126 → H.2.1 fa j = f j) (hpl : pl p n f) (hdeg : ∀ i, i < tb_N n → f i ≠ 0 → al_dg (tb_T n o i) ≤ a) (hxa : x * a ≤ tb_h n)
    (hP : ∀ h, mz_fr H h [fa, t + 69, t + 70] → (∀ j, j < 126 → h.2.1 fa j = al_pw p (tb_N n) (tb_T n o) f x j) → P (.inl none) h) : mz_CA e (d + 2) j_TextReader_raise [.inr (.inl t), .inr (.inl fa), .inl (x : Int)] H P := by
  have hT' := hT
  have r0' := hR.1
  have hN := tb_N_b n
  have hN3 := tb_N_p n
  have h0 := tb_T_0 hok
  have hti : ∀ i j, i < tb_N n → j < tb_N n → tb_T n o i = tb_T n o j → i = j := fun i j a b c => tb_T_i hok a b c
  have hpwpl : ∀ q, pl p n (al_pw p (tb_N n) (tb_T n o) f q) := fun q m hm => ⟨fun _ => al_pw_r (by omega) _ _ _ _, fun h => al_pw_g (by omega) _ _ _ h⟩
  obtain ⟨⟨t0, y2, y3, y4, y7, y8, y9, y10, y11⟩, ⟨w1, w2, w3, w25, w47, w69, w70⟩, ws, wt, wf⟩ := hT
  have lp : ∀ (k q : Nat) (H1 : mz_H), x / 2 ^ k = q → k ≤ 7 → mz_fr H H1 [fa, t + 69, t + 70] → (∀ j, j < 126 → H1.2.1 fa j = al_pw p (tb_N n) (tb_T n o) f q j) → (∀ j, j < 126 → H1.2.1 (t + 69) j = f j) →
      mz_V e (d + 2) mm_TextReader_raise 24 [some (.inr (.inl t)), some (.inr (.inl fa)), some (.inl (x : Int)), some (.inl ((k : Int) - 1))] [] H1 P := by
    intro k
    induction k with
    | zero =>
      intro q H1 h1 h2 h3 h4 h5
      rw [Nat.pow_zero, Nat.div_one] at h1
      subst h1
      apply mz_go hG 60 [24]
      simp only [mf_TextReader_raise, ca_TextReader_raise, dc_TextReader_raise_0, dc_TextReader_raise_1, dc_TextReader_raise_2, dc_TextReader_raise_3, dc_TextReader_raise_4, dc_TextReader_raise_5, dc_TextReader_raise_6, fl_TextReader, sl_TextReader, sg_Arrays_fill, sg_Ring_productInto, cpn_reader_0, mx_cp_r, t0, y2, y3, y4, y7, y8, y9, y10, y11, w1, w2, w3, w25, w47, w69, w70, mzr_iconst, mzr_bipush, mzr_sipush, mzr_lconst, mzr_iload, mzr_iload_n, mzr_aload, mzr_aload_n, mzr_lload, mzr_lload_n, mzr_istore, mzr_istore_n, mzr_astore, mzr_astore_n, mzr_lstore, mzr_lstore_n, mzr_iinc, mzr_iadd, mzr_isub, mzr_imul, mzr_iand, mzr_ior, mzr_ixor, mzr_ishl, mzr_ishr, mzr_iushr, mzr_idiv, mzr_irem, mzr_ineg, mzr_ladd, mzr_lsub, mzr_lmul, mzr_lrem, mzr_lcmp, mzr_i2l, mzr_l2i, mzr_i2b, mzr_dup, mzr_pop, mzr_dup2, mzr_ifCond_eq, mzr_if_icmp_eq, mzr_ifCond_ne, mzr_if_icmp_ne, mzr_ifCond_lt, mzr_if_icmp_lt, mzr_ifCond_ge, mzr_if_icmp_ge, mzr_ifCond_gt, mzr_if_icmp_gt, mzr_ifCond_le, mzr_if_icmp_le, mzr_goto, mzr_iaload, mzr_baload, mzr_laload, mzr_aaload, mzr_iastore, mzr_bastore, mzr_lastore, mzr_arraylength, mzr_getfield, mzr_putfield, mzr_getstatic, mzr_ldc, mzr_ldc_w, mzr_ldc2_w, mzr_ireturn, mzr_return_, mzr_copy, mzr_static, mzr_virtual, mzr_new, mz_tk, mz_dp, mz_ln, mz_sz, mz_af_v, mz_af_s, mz_wp_s, mz_w1, mz_g, mz_st, mz_k, mz_s2, mz_nx, mz_en, mx_to, mz_c1, ↓reduceIte, Nat.reduceAdd, Nat.reduceSub, Nat.reduceMul, Nat.reduceMod, Nat.reduceDiv, Nat.reduceEqDiff, Nat.reduceLeDiff, Nat.reduceLT, Int.reduceAdd, Int.reduceSub, Int.reduceNeg, Int.reduceMul, Int.reduceLE, Int.reduceLT, Int.reduceEq, Int.reduceToNat, Int.reduceNegSucc, Int.cast_ofNat_Int, Int32.reduceToInt, Int64.reduceToInt, Int.zero_add, Int.add_zero, Fin.isValue, Fin.val_zero, Fin.val_one, Fin.val_two, reduceCtorEq, or_false, false_or, or_true, true_or, or_self, and_true, true_and, and_self, not_true_eq_false, not_false_eq_true, implies_true, forall_const, List.mem_cons, List.not_mem_nil, false_implies, true_implies, imp_false, Nat.zero_add, Option.some.injEq, Prod.mk.injEq]
      repeat' first | omega | refine mz_it (fun hh => ?_) (fun hh => ?_) | refine And.intro ?_ ?_
      exact hP H1 h3 h4
    | succ k ih =>
      intro q H1 h1 h2 h3 h4 h5
      have hS1 := hS.fr h3 (fun j hj => by simp; omega)
      have hq2 : x / 2 ^ k / 2 = q := by rw [← h1, Nat.pow_succ, Nat.div_div_eq_div_mul]
      have hle : x / 2 ^ k ≤ x := Nat.div_le_self _ _
      have hqa : (q + q) * a ≤ tb_h n := Nat.le_trans (Nat.mul_le_mul_right a (show q + q ≤ x by omega)) hxa
      have hqa2 : (q + q + 1) * a ≤ tb_h n ∨ ¬ (x / 2 ^ k % 2 = 1) := by
        by_cases hb : x / 2 ^ k % 2 = 1
        · exact Or.inl (Nat.le_trans (Nat.mul_le_mul_right a (show q + q + 1 ≤ x by omega)) hxa)
        · exact Or.inr hb
      have hA1 : pl p n (H1.2.1 fa) := fun m hm => by rw [h4 m hm]; exact hpwpl q m hm
      have hF1 : pl_f n o (H1.2.1 fa) (H1.2.1 fa) := by
        intro i j hi hj q1 q2
        rw [h4 i (by omega)] at q1
        rw [h4 j (by omega)] at q2
        have a1 := al_pw_d h0 hdeg q i q1
        have a2 := al_pw_d h0 hdeg q j q2
        rw [Nat.add_mul] at hqa
        omega
      have b1 : mz_shr (x : Int) (k : Int) = ((x / 2 ^ k : Nat) : Int) := by rw [mz_shr_n (by omega) (by omega) (by omega) (by omega), Int.toNat_natCast, Int.toNat_natCast]
      have b2 : mz_and ((x / 2 ^ k : Nat) : Int) 1 = ((x / 2 ^ k % 2 : Nat) : Int) := by
        generalize hy : x / 2 ^ k = y at hle ⊢
        rw [mz_and_1 (by omega) (by omega)]; omega
      rw [show ((k + 1 : Nat) : Int) - 1 = (k : Int) by omega]
      apply mz_go hG 60 [24]
      simp only [mf_TextReader_raise, ca_TextReader_raise, dc_TextReader_raise_0, dc_TextReader_raise_1, dc_TextReader_raise_2, dc_TextReader_raise_3, dc_TextReader_raise_4, dc_TextReader_raise_5, dc_TextReader_raise_6, fl_TextReader, sl_TextReader, sg_Arrays_fill, sg_Ring_productInto, cpn_reader_0, mx_cp_r, t0, y2, y3, y4, y7, y8, y9, y10, y11, w1, w2, w3, w25, w47, w69, w70, r0', mzr_iconst, mzr_bipush, mzr_sipush, mzr_lconst, mzr_iload, mzr_iload_n, mzr_aload, mzr_aload_n, mzr_lload, mzr_lload_n, mzr_istore, mzr_istore_n, mzr_astore, mzr_astore_n, mzr_lstore, mzr_lstore_n, mzr_iinc, mzr_iadd, mzr_isub, mzr_imul, mzr_iand, mzr_ior, mzr_ixor, mzr_ishl, mzr_ishr, mzr_iushr, mzr_idiv, mzr_irem, mzr_ineg, mzr_ladd, mzr_lsub, mzr_lmul, mzr_lrem, mzr_lcmp, mzr_i2l, mzr_l2i, mzr_i2b, mzr_dup, mzr_pop, mzr_dup2, mzr_ifCond_eq, mzr_if_icmp_eq, mzr_ifCond_ne, mzr_if_icmp_ne, mzr_ifCond_lt, mzr_if_icmp_lt, mzr_ifCond_ge, mzr_if_icmp_ge, mzr_ifCond_gt, mzr_if_icmp_gt, mzr_ifCond_le, mzr_if_icmp_le, mzr_goto, mzr_iaload, mzr_baload, mzr_laload, mzr_aaload, mzr_iastore, mzr_bastore, mzr_lastore, mzr_arraylength, mzr_getfield, mzr_putfield, mzr_getstatic, mzr_ldc, mzr_ldc_w, mzr_ldc2_w, mzr_ireturn, mzr_return_, mzr_copy, mzr_static, mzr_virtual, mzr_new, mz_tk, mz_dp, mz_ln, mz_sz, mz_af_v, mz_af_s, mz_wp_s, mz_w1, mz_g, mz_st, mz_k, mz_s2, mz_nx, mz_en, mx_to, mz_c1, ↓reduceIte, Nat.reduceAdd, Nat.reduceSub, Nat.reduceMul, Nat.reduceMod, Nat.reduceDiv, Nat.reduceEqDiff, Nat.reduceLeDiff, Nat.reduceLT, Int.reduceAdd, Int.reduceSub, Int.reduceNeg, Int.reduceMul, Int.reduceLE, Int.reduceLT, Int.reduceEq, Int.reduceToNat, Int.reduceNegSucc, Int.cast_ofNat_Int, Int32.reduceToInt, Int64.reduceToInt, Int.zero_add, Int.add_zero, Fin.isValue, Fin.val_zero, Fin.val_one, Fin.val_two, reduceCtorEq, or_false, false_or, or_true, true_or, or_self, and_true, true_and, and_self, not_true_eq_false, not_false_eq_true, implies_true, forall_const, List.mem_cons, List.not_mem_nil, false_implies, true_implies, imp_false, Nat.zero_add, Option.some.injEq, Prod.mk.injEq]
      repeat' first | omega | refine mz_it (fun hh => ?_) (fun hh => ?_) | refine And.intro ?_ ?_
      refine ct_productInto (d + 0) hG hR hok hp2 hfk hfk w70 (by omega) (by omega) (fun i hi => by omega) hS1 hA1 hA1 hF1 (fun H2 f2 hv2 => ?_)
      have hsq : ∀ j, j < 126 → H2.2.1 (t + 70) j = al_pw p (tb_N n) (tb_T n o) f (q + q) j := fun j hj => by
        rw [hv2 j hj, al_mp_k (fun i hi => h4 i (by omega)) (fun i hi => h4 i (by omega)), al_pw_a (by omega) hti (tb_T_p hok) h0 (by omega) hdeg q q hqa]
      have f3 : mz_fr H H2 [fa, t + 69, t + 70] := h3.tr (f2.mono (by simp))
      have hS2 := hS.fr f3 (fun j hj => by simp; omega)
      have hb2 : ∀ j, j < 126 → H2.2.1 (t + 69) j = f j := fun j hj => by rw [f2.2.2 _ (by simp), h5 j hj]
      by_cases hbit : x / 2 ^ k % 2 = 1
      · rw [hbit] at b2
        simp only [mf_TextReader_raise, ca_TextReader_raise, dc_TextReader_raise_0, dc_TextReader_raise_1, dc_TextReader_raise_2, dc_TextReader_raise_3, dc_TextReader_raise_4, dc_TextReader_raise_5, dc_TextReader_raise_6, fl_TextReader, sl_TextReader, sg_Arrays_fill, sg_Ring_productInto, cpn_reader_0, mx_cp_r, t0, y2, y3, y4, y7, y8, y9, y10, y11, w1, w2, w3, w25, w47, w69, w70, r0', b1, b2, mzr_iconst, mzr_bipush, mzr_sipush, mzr_lconst, mzr_iload, mzr_iload_n, mzr_aload, mzr_aload_n, mzr_lload, mzr_lload_n, mzr_istore, mzr_istore_n, mzr_astore, mzr_astore_n, mzr_lstore, mzr_lstore_n, mzr_iinc, mzr_iadd, mzr_isub, mzr_imul, mzr_iand, mzr_ior, mzr_ixor, mzr_ishl, mzr_ishr, mzr_iushr, mzr_idiv, mzr_irem, mzr_ineg, mzr_ladd, mzr_lsub, mzr_lmul, mzr_lrem, mzr_lcmp, mzr_i2l, mzr_l2i, mzr_i2b, mzr_dup, mzr_pop, mzr_dup2, mzr_ifCond_eq, mzr_if_icmp_eq, mzr_ifCond_ne, mzr_if_icmp_ne, mzr_ifCond_lt, mzr_if_icmp_lt, mzr_ifCond_ge, mzr_if_icmp_ge, mzr_ifCond_gt, mzr_if_icmp_gt, mzr_ifCond_le, mzr_if_icmp_le, mzr_goto, mzr_iaload, mzr_baload, mzr_laload, mzr_aaload, mzr_iastore, mzr_bastore, mzr_lastore, mzr_arraylength, mzr_getfield, mzr_putfield, mzr_getstatic, mzr_ldc, mzr_ldc_w, mzr_ldc2_w, mzr_ireturn, mzr_return_, mzr_copy, mzr_static, mzr_virtual, mzr_new, mz_tk, mz_dp, mz_ln, mz_sz, mz_af_v, mz_af_s, mz_wp_s, mz_w1, mz_g, mz_st, mz_k, mz_s2, mz_nx, mz_en, mx_to, mz_c1, ↓reduceIte, Nat.reduceAdd, Nat.reduceSub, Nat.reduceMul, Nat.reduceMod, Nat.reduceDiv, Nat.reduceEqDiff, Nat.reduceLeDiff, Nat.reduceLT, Int.reduceAdd, Int.reduceSub, Int.reduceNeg, Int.reduceMul, Int.reduceLE, Int.reduceLT, Int.reduceEq, Int.reduceToNat, Int.reduceNegSucc, Int.cast_ofNat_Int, Int32.reduceToInt, Int64.reduceToInt, Int.zero_add, Int.add_zero, Fin.isValue, Fin.val_zero, Fin.val_one, Fin.val_two, reduceCtorEq, or_false, false_or, or_true, true_or, or_self, and_true, true_and, and_self, not_true_eq_false, not_false_eq_true, implies_true, forall_const, List.mem_cons, List.not_mem_nil, false_implies, true_implies, imp_false, Nat.zero_add, Option.some.injEq, Prod.mk.injEq]
        repeat' first | omega | refine mz_it (fun hh => ?_) (fun hh => ?_) | refine And.intro ?_ ?_
        refine ct_productInto (d + 0) hG hR hok hp2 w70 w69 hfk (by omega) (by omega) (fun i hi => by omega) hS2 (fun m hm => by rw [hsq m hm]; exact hpwpl _ m hm) (fun m hm => by rw [hb2 m hm]; exact hpl m hm) ?_ (fun H3 g3 hv3 => ?_)
        · intro i j hi hj q1 q2
          rw [hsq i (by omega)] at q1
          rw [hb2 j (by omega)] at q2
          have a1 := al_pw_d h0 hdeg (q + q) i q1
          have a2 := hdeg j hj q2
          rcases hqa2 with hqa2 | hqa2
          · rw [Nat.add_mul, Nat.one_mul] at hqa2
            omega
          · exact absurd hbit hqa2
        · simp only [mf_TextReader_raise, ca_TextReader_raise, dc_TextReader_raise_0, dc_TextReader_raise_1, dc_TextReader_raise_2, dc_TextReader_raise_3, dc_TextReader_raise_4, dc_TextReader_raise_5, dc_TextReader_raise_6, fl_TextReader, sl_TextReader, sg_Arrays_fill, sg_Ring_productInto, cpn_reader_0, mx_cp_r, t0, y2, y3, y4, y7, y8, y9, y10, y11, w1, w2, w3, w25, w47, w69, w70, mzr_iconst, mzr_bipush, mzr_sipush, mzr_lconst, mzr_iload, mzr_iload_n, mzr_aload, mzr_aload_n, mzr_lload, mzr_lload_n, mzr_istore, mzr_istore_n, mzr_astore, mzr_astore_n, mzr_lstore, mzr_lstore_n, mzr_iinc, mzr_iadd, mzr_isub, mzr_imul, mzr_iand, mzr_ior, mzr_ixor, mzr_ishl, mzr_ishr, mzr_iushr, mzr_idiv, mzr_irem, mzr_ineg, mzr_ladd, mzr_lsub, mzr_lmul, mzr_lrem, mzr_lcmp, mzr_i2l, mzr_l2i, mzr_i2b, mzr_dup, mzr_pop, mzr_dup2, mzr_ifCond_eq, mzr_if_icmp_eq, mzr_ifCond_ne, mzr_if_icmp_ne, mzr_ifCond_lt, mzr_if_icmp_lt, mzr_ifCond_ge, mzr_if_icmp_ge, mzr_ifCond_gt, mzr_if_icmp_gt, mzr_ifCond_le, mzr_if_icmp_le, mzr_goto, mzr_iaload, mzr_baload, mzr_laload, mzr_aaload, mzr_iastore, mzr_bastore, mzr_lastore, mzr_arraylength, mzr_getfield, mzr_putfield, mzr_getstatic, mzr_ldc, mzr_ldc_w, mzr_ldc2_w, mzr_ireturn, mzr_return_, mzr_copy, mzr_static, mzr_virtual, mzr_new, mz_tk, mz_dp, mz_ln, mz_sz, mz_af_v, mz_af_s, mz_wp_s, mz_w1, mz_g, mz_st, mz_k, mz_s2, mz_nx, mz_en, mx_to, mz_c1, ↓reduceIte, Nat.reduceAdd, Nat.reduceSub, Nat.reduceMul, Nat.reduceMod, Nat.reduceDiv, Nat.reduceEqDiff, Nat.reduceLeDiff, Nat.reduceLT, Int.reduceAdd, Int.reduceSub, Int.reduceNeg, Int.reduceMul, Int.reduceLE, Int.reduceLT, Int.reduceEq, Int.reduceToNat, Int.reduceNegSucc, Int.cast_ofNat_Int, Int32.reduceToInt, Int64.reduceToInt, Int.zero_add, Int.add_zero, Fin.isValue, Fin.val_zero, Fin.val_one, Fin.val_two, reduceCtorEq, or_false, false_or, or_true, true_or, or_self, and_true, true_and, and_self, not_true_eq_false, not_false_eq_true, implies_true, forall_const, List.mem_cons, List.not_mem_nil, false_implies, true_implies, imp_false, Nat.zero_add, Option.some.injEq, Prod.mk.injEq]
          repeat' first | omega | refine mz_it (fun hh => ?_) (fun hh => ?_) | refine And.intro ?_ ?_
          rw [show (k : Int) + -1 = (k : Int) - 1 by omega]
          refine ih (q + q + 1) H3 (by omega) (by omega) (f3.tr (g3.mono (by simp))) (fun j hj => ?_) (fun j hj => ?_)
          · rw [hv3 j hj, al_mp_k (fun i hi => hsq i (by omega)) (fun i hi => hb2 i (by omega))]
            rfl
          · rw [g3.2.2 _ (by simp; omega), hb2 j hj]
      · rw [show x / 2 ^ k % 2 = 0 by omega] at b2
        simp only [mf_TextReader_raise, ca_TextReader_raise, dc_TextReader_raise_0, dc_TextReader_raise_1, dc_TextReader_raise_2, dc_TextReader_raise_3, dc_TextReader_raise_4, dc_TextReader_raise_5, dc_TextReader_raise_6, fl_TextReader, sl_TextReader, sg_Arrays_fill, sg_Ring_productInto, cpn_reader_0, mx_cp_r, t0, y2, y3, y4, y7, y8, y9, y10, y11, w1, w2, w3, w25, w47, w69, w70, r0', b1, b2, hfk, mzr_iconst, mzr_bipush, mzr_sipush, mzr_lconst, mzr_iload, mzr_iload_n, mzr_aload, mzr_aload_n, mzr_lload, mzr_lload_n, mzr_istore, mzr_istore_n, mzr_astore, mzr_astore_n, mzr_lstore, mzr_lstore_n, mzr_iinc, mzr_iadd, mzr_isub, mzr_imul, mzr_iand, mzr_ior, mzr_ixor, mzr_ishl, mzr_ishr, mzr_iushr, mzr_idiv, mzr_irem, mzr_ineg, mzr_ladd, mzr_lsub, mzr_lmul, mzr_lrem, mzr_lcmp, mzr_i2l, mzr_l2i, mzr_i2b, mzr_dup, mzr_pop, mzr_dup2, mzr_ifCond_eq, mzr_if_icmp_eq, mzr_ifCond_ne, mzr_if_icmp_ne, mzr_ifCond_lt, mzr_if_icmp_lt, mzr_ifCond_ge, mzr_if_icmp_ge, mzr_ifCond_gt, mzr_if_icmp_gt, mzr_ifCond_le, mzr_if_icmp_le, mzr_goto, mzr_iaload, mzr_baload, mzr_laload, mzr_aaload, mzr_iastore, mzr_bastore, mzr_lastore, mzr_arraylength, mzr_getfield, mzr_putfield, mzr_getstatic, mzr_ldc, mzr_ldc_w, mzr_ldc2_w, mzr_ireturn, mzr_return_, mzr_copy, mzr_static, mzr_virtual, mzr_new, mz_tk, mz_dp, mz_ln, mz_sz, mz_af_v, mz_af_s, mz_wp_s, mz_w1, mz_g, mz_st, mz_k, mz_s2, mz_nx, mz_en, mx_to, mz_c1, ↓reduceIte, Nat.reduceAdd, Nat.reduceSub, Nat.reduceMul, Nat.reduceMod, Nat.reduceDiv, Nat.reduceEqDiff, Nat.reduceLeDiff, Nat.reduceLT, Int.reduceAdd, Int.reduceSub, Int.reduceNeg, Int.reduceMul, Int.reduceLE, Int.reduceLT, Int.reduceEq, Int.reduceToNat, Int.reduceNegSucc, Int.cast_ofNat_Int, Int32.reduceToInt, Int64.reduceToInt, Int.zero_add, Int.add_zero, Fin.isValue, Fin.val_zero, Fin.val_one, Fin.val_two, reduceCtorEq, or_false, false_or, or_true, true_or, or_self, and_true, true_and, and_self, not_true_eq_false, not_false_eq_true, implies_true, forall_const, List.mem_cons, List.not_mem_nil, false_implies, true_implies, imp_false, Nat.zero_add, Option.some.injEq, Prod.mk.injEq]
        repeat' first | omega | refine mz_it (fun hh => ?_) (fun hh => ?_) | refine And.intro ?_ ?_
        rw [show (k : Int) + -1 = (k : Int) - 1 by omega]
        refine ih (q + q) _ (by omega) (by omega) (f3.tr (mz_fr.cy _ _ _ _ _ _ (by simp))) (fun j hj => ?_) (fun j hj => ?_)
        · rw [mz_cy_g, if_pos rfl, if_pos (by omega), show 0 + (j - 0) = j by omega, hsq j hj]
        · rw [mz_cy_g, if_neg (by omega), hb2 j hj]
  refine mz_CA_of mr_TextReader_raise ?_
  simp only [mf_TextReader_raise, mz_en, List.replicate, Nat.reduceSub, Nat.reduceAdd, Nat.reduceMul]
  apply mz_go hG 60 [24]
  simp only [mf_TextReader_raise, ca_TextReader_raise, dc_TextReader_raise_0, dc_TextReader_raise_1, dc_TextReader_raise_2, dc_TextReader_raise_3, dc_TextReader_raise_4, dc_TextReader_raise_5, dc_TextReader_raise_6, fl_TextReader, sl_TextReader, sg_Arrays_fill, sg_Ring_productInto, cpn_reader_0, mx_cp_r, t0, y2, y3, y4, y7, y8, y9, y10, y11, w1, w2, w3, w25, w47, w69, w70, hfk, mzr_iconst, mzr_bipush, mzr_sipush, mzr_lconst, mzr_iload, mzr_iload_n, mzr_aload, mzr_aload_n, mzr_lload, mzr_lload_n, mzr_istore, mzr_istore_n, mzr_astore, mzr_astore_n, mzr_lstore, mzr_lstore_n, mzr_iinc, mzr_iadd, mzr_isub, mzr_imul, mzr_iand, mzr_ior, mzr_ixor, mzr_ishl, mzr_ishr, mzr_iushr, mzr_idiv, mzr_irem, mzr_ineg, mzr_ladd, mzr_lsub, mzr_lmul, mzr_lrem, mzr_lcmp, mzr_i2l, mzr_l2i, mzr_i2b, mzr_dup, mzr_pop, mzr_dup2, mzr_ifCond_eq, mzr_if_icmp_eq, mzr_ifCond_ne, mzr_if_icmp_ne, mzr_ifCond_lt, mzr_if_icmp_lt, mzr_ifCond_ge, mzr_if_icmp_ge, mzr_ifCond_gt, mzr_if_icmp_gt, mzr_ifCond_le, mzr_if_icmp_le, mzr_goto, mzr_iaload, mzr_baload, mzr_laload, mzr_aaload, mzr_iastore, mzr_bastore, mzr_lastore, mzr_arraylength, mzr_getfield, mzr_putfield, mzr_getstatic, mzr_ldc, mzr_ldc_w, mzr_ldc2_w, mzr_ireturn, mzr_return_, mzr_copy, mzr_static, mzr_virtual, mzr_new, mz_tk, mz_dp, mz_ln, mz_sz, mz_af_v, mz_af_s, mz_wp_s, mz_w1, mz_g, mz_st, mz_k, mz_s2, mz_nx, mz_en, mx_to, mz_c1, ↓reduceIte, Nat.reduceAdd, Nat.reduceSub, Nat.reduceMul, Nat.reduceMod, Nat.reduceDiv, Nat.reduceEqDiff, Nat.reduceLeDiff, Nat.reduceLT, Int.reduceAdd, Int.reduceSub, Int.reduceNeg, Int.reduceMul, Int.reduceLE, Int.reduceLT, Int.reduceEq, Int.reduceToNat, Int.reduceNegSucc, Int.cast_ofNat_Int, Int32.reduceToInt, Int64.reduceToInt, Int.zero_add, Int.add_zero, Fin.isValue, Fin.val_zero, Fin.val_one, Fin.val_two, reduceCtorEq, or_false, false_or, or_true, true_or, or_self, and_true, true_and, and_self, not_true_eq_false, not_false_eq_true, implies_true, forall_const, List.mem_cons, List.not_mem_nil, false_implies, true_implies, imp_false, Nat.zero_add, Option.some.injEq, Prod.mk.injEq]
  repeat' first | omega | refine mz_it (fun hh => ?_) (fun hh => ?_) | refine And.intro ?_ ?_
  refine ct_fill (d + 1) hG hfk (by omega) (fun H1 f1 hv1 => ?_)
  simp only [mf_TextReader_raise, ca_TextReader_raise, dc_TextReader_raise_0, dc_TextReader_raise_1, dc_TextReader_raise_2, dc_TextReader_raise_3, dc_TextReader_raise_4, dc_TextReader_raise_5, dc_TextReader_raise_6, fl_TextReader, sl_TextReader, sg_Arrays_fill, sg_Ring_productInto, cpn_reader_0, mx_cp_r, t0, y2, y3, y4, y7, y8, y9, y10, y11, w1, w2, w3, w25, w47, w69, w70, hfk, mzr_iconst, mzr_bipush, mzr_sipush, mzr_lconst, mzr_iload, mzr_iload_n, mzr_aload, mzr_aload_n, mzr_lload, mzr_lload_n, mzr_istore, mzr_istore_n, mzr_astore, mzr_astore_n, mzr_lstore, mzr_lstore_n, mzr_iinc, mzr_iadd, mzr_isub, mzr_imul, mzr_iand, mzr_ior, mzr_ixor, mzr_ishl, mzr_ishr, mzr_iushr, mzr_idiv, mzr_irem, mzr_ineg, mzr_ladd, mzr_lsub, mzr_lmul, mzr_lrem, mzr_lcmp, mzr_i2l, mzr_l2i, mzr_i2b, mzr_dup, mzr_pop, mzr_dup2, mzr_ifCond_eq, mzr_if_icmp_eq, mzr_ifCond_ne, mzr_if_icmp_ne, mzr_ifCond_lt, mzr_if_icmp_lt, mzr_ifCond_ge, mzr_if_icmp_ge, mzr_ifCond_gt, mzr_if_icmp_gt, mzr_ifCond_le, mzr_if_icmp_le, mzr_goto, mzr_iaload, mzr_baload, mzr_laload, mzr_aaload, mzr_iastore, mzr_bastore, mzr_lastore, mzr_arraylength, mzr_getfield, mzr_putfield, mzr_getstatic, mzr_ldc, mzr_ldc_w, mzr_ldc2_w, mzr_ireturn, mzr_return_, mzr_copy, mzr_static, mzr_virtual, mzr_new, mz_tk, mz_dp, mz_ln, mz_sz, mz_af_v, mz_af_s, mz_wp_s, mz_w1, mz_g, mz_st, mz_k, mz_s2, mz_nx, mz_en, mx_to, mz_c1, ↓reduceIte, Nat.reduceAdd, Nat.reduceSub, Nat.reduceMul, Nat.reduceMod, Nat.reduceDiv, Nat.reduceEqDiff, Nat.reduceLeDiff, Nat.reduceLT, Int.reduceAdd, Int.reduceSub, Int.reduceNeg, Int.reduceMul, Int.reduceLE, Int.reduceLT, Int.reduceEq, Int.reduceToNat, Int.reduceNegSucc, Int.cast_ofNat_Int, Int32.reduceToInt, Int64.reduceToInt, Int.zero_add, Int.add_zero, Fin.isValue, Fin.val_zero, Fin.val_one, Fin.val_two, reduceCtorEq, or_false, false_or, or_true, true_or, or_self, and_true, true_and, and_self, not_true_eq_false, not_false_eq_true, implies_true, forall_const, List.mem_cons, List.not_mem_nil, false_implies, true_implies, imp_false, Nat.zero_add, Option.some.injEq, Prod.mk.injEq]
  repeat' first | omega | refine mz_it (fun hh => ?_) (fun hh => ?_) | refine And.intro ?_ ?_
  have f2 : mz_fr H H1 [fa, t + 69, t + 70] := (mz_fr.cy _ _ _ _ _ _ (by simp)).tr (f1.mono (by simp))
  have h7 := lp 7 0 (mz_w H1 fa 0 1) (by
    show x / 128 = 0
    omega) (by omega) (f2.tr (mz_fr.w _ _ _ _ (by simp))) (fun j hj => ?_) (fun j hj => ?_)
  · exact h7
  · rw [mz_w_g]
    show _ = al_1 j
    unfold al_1
    by_cases hj0 : j = 0
    · rw [if_pos ⟨rfl, hj0⟩, if_pos hj0]
    · rw [if_neg (fun q => hj0 q.2), hv1, if_pos hj, if_neg hj0]
  · rw [mz_w_g, if_neg (by omega), f1.2.2 _ (by simp; omega), mz_cy_g, if_pos rfl, if_pos (by omega), show 0 + (j - 0) = j by omega, hf j hj]
