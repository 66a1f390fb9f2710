def rg_E (e : mz_E) (r : Nat) : Prop :=
  e.2.1 r = some (4, 15) ∧ e.2.2.1 r 5 = some (r + 1) ∧ e.2.2.1 r 6 = some (r + 2) ∧ e.2.2.1 r 7 = some (r + 3) ∧ e.2.2.1 r 8 = some (r + 4) ∧ e.2.2.1 r 9 = some (r + 5) ∧
  e.2.2.1 r 10 = some (r + 6) ∧ e.2.2.1 r 11 = some (r + 7) ∧ e.2.2.1 r 12 = some (r + 8) ∧ e.2.2.1 r 13 = some (r + 9) ∧ e.2.2.1 r 14 = some (r + 10) ∧
  e.2.1 (r + 1) = some (20, 126) ∧ e.2.1 (r + 2) = some (20, 31) ∧ e.2.1 (r + 3) = some (20, 504) ∧ e.2.1 (r + 4) = some (20, 126) ∧ e.2.1 (r + 5) = some (20, 4) ∧
  e.2.1 (r + 6) = some (20, 1296) ∧ e.2.1 (r + 7) = some (20, 504) ∧ e.2.1 (r + 8) = some (20, 504) ∧ e.2.1 (r + 9) = some (20, 4) ∧ e.2.1 (r + 10) = some (20, 31)
set_option maxRecDepth 100000 in
theorem lp_topOf {e : mz_E} {d : Nat} {r a : Nat} {H : mz_H} {P : mz_O → mz_H → Prop} (hG : mx_G e.1) (ha : e.2.1 a = some (20, 126)) : ∀ n, n ≤ 126 → P (.inl (some (.inl (sp_top (H.2.1 a) n)))) H → mz_V e d mm_Ring_topOf 7 [some (.inr (.inl r)), some (.inr (.inl a)), some (.inl ((n : Int) - 1))] [] H P := by
  intro n
  induction n with
  | zero =>
    intro h1 hP
    apply mz_go hG 40 [7]
    simp only [mf_Ring_topOf, ca_Ring_topOf, dc_Ring_topOf_0, dc_Ring_topOf_1, dc_Ring_topOf_2, fl_Ring, ha, mzr_iconst, mzr_bipush, mzr_sipush, mzr_lconst, mzr_iload, mzr_iload_n, mzr_aload, mzr_aload_n, mzr_lload, mzr_lload_n, mzr_istore, mzr_istore_n, mzr_astore, mzr_astore_n, mzr_lstore, mzr_lstore_n, mzr_iinc, mzr_iadd, mzr_isub, mzr_imul, mzr_iand, mzr_ior, mzr_ixor, mzr_ishl, mzr_ishr, mzr_iushr, mzr_idiv, mzr_irem, mzr_ineg, mzr_ladd, mzr_lsub, mzr_lmul, mzr_lrem, mzr_lcmp, mzr_i2l, mzr_l2i, mzr_i2b, mzr_dup, mzr_pop, mzr_dup2, mzr_ifCond_eq, mzr_if_icmp_eq, mzr_ifCond_ne, mzr_if_icmp_ne, mzr_ifCond_lt, mzr_if_icmp_lt, mzr_ifCond_ge, mzr_if_icmp_ge, mzr_ifCond_gt, mzr_if_icmp_gt, mzr_ifCond_le, mzr_if_icmp_le, mzr_goto, mzr_iaload, mzr_baload, mzr_laload, mzr_aaload, mzr_iastore, mzr_bastore, mzr_lastore, mzr_arraylength, mzr_getfield, mzr_putfield, mzr_getstatic, mzr_ldc, mzr_ldc_w, mzr_ldc2_w, mzr_ireturn, mzr_return_, mzr_copy, mzr_static, mzr_virtual, mzr_new, mz_tk, mz_dp, mz_ln, mz_sz, mz_af_v, mz_af_s, mz_wp_s, mz_w1, mz_g, mz_st, mz_k, mz_s2, mz_nx, mz_en, mx_to, mz_c1, ↓reduceIte, Nat.reduceAdd, Nat.reduceSub, Nat.reduceMul, Nat.reduceMod, Nat.reduceDiv, Nat.reduceEqDiff, Nat.reduceLeDiff, Nat.reduceLT, Int.reduceAdd, Int.reduceSub, Int.reduceNeg, Int.reduceMul, Int.reduceLE, Int.reduceLT, Int.reduceEq, Int.reduceToNat, Int.reduceNegSucc, Int.cast_ofNat_Int, Int32.reduceToInt, Int64.reduceToInt, Int.zero_add, Int.add_zero, Fin.isValue, Fin.val_zero, Fin.val_one, Fin.val_two, reduceCtorEq, or_false, false_or, or_true, true_or, or_self, and_true, true_and, and_self, not_true_eq_false, not_false_eq_true, implies_true, forall_const, List.mem_cons, List.not_mem_nil, false_implies, true_implies, imp_false, Nat.zero_add, Option.some.injEq, Prod.mk.injEq]
    repeat' first | omega | refine mz_it (fun hh => ?_) (fun hh => ?_) | refine And.intro ?_ ?_
    exact hP
  | succ n ih =>
    intro h1 hP
    rw [show ((n + 1 : Nat) : Int) - 1 = (n : Int) by omega]
    apply mz_go hG 40 [7]
    simp only [mf_Ring_topOf, ca_Ring_topOf, dc_Ring_topOf_0, dc_Ring_topOf_1, dc_Ring_topOf_2, fl_Ring, ha, Int.toNat_natCast, mzr_iconst, mzr_bipush, mzr_sipush, mzr_lconst, mzr_iload, mzr_iload_n, mzr_aload, mzr_aload_n, mzr_lload, mzr_lload_n, mzr_istore, mzr_istore_n, mzr_astore, mzr_astore_n, mzr_lstore, mzr_lstore_n, mzr_iinc, mzr_iadd, mzr_isub, mzr_imul, mzr_iand, mzr_ior, mzr_ixor, mzr_ishl, mzr_ishr, mzr_iushr, mzr_idiv, mzr_irem, mzr_ineg, mzr_ladd, mzr_lsub, mzr_lmul, mzr_lrem, mzr_lcmp, mzr_i2l, mzr_l2i, mzr_i2b, mzr_dup, mzr_pop, mzr_dup2, mzr_ifCond_eq, mzr_if_icmp_eq, mzr_ifCond_ne, mzr_if_icmp_ne, mzr_ifCond_lt, mzr_if_icmp_lt, mzr_ifCond_ge, mzr_if_icmp_ge, mzr_ifCond_gt, mzr_if_icmp_gt, mzr_ifCond_le, mzr_if_icmp_le, mzr_goto, mzr_iaload, mzr_baload, mzr_laload, mzr_aaload, mzr_iastore, mzr_bastore, mzr_lastore, mzr_arraylength, mzr_getfield, mzr_putfield, mzr_getstatic, mzr_ldc, mzr_ldc_w, mzr_ldc2_w, mzr_ireturn, mzr_return_, mzr_copy, mzr_static, mzr_virtual, mzr_new, mz_tk, mz_dp, mz_ln, mz_sz, mz_af_v, mz_af_s, mz_wp_s, mz_w1, mz_g, mz_st, mz_k, mz_s2, mz_nx, mz_en, mx_to, mz_c1, ↓reduceIte, Nat.reduceAdd, Nat.reduceSub, Nat.reduceMul, Nat.reduceMod, Nat.reduceDiv, Nat.reduceEqDiff, Nat.reduceLeDiff, Nat.reduceLT, Int.reduceAdd, Int.reduceSub, Int.reduceNeg, Int.reduceMul, Int.reduceLE, Int.reduceLT, Int.reduceEq, Int.reduceToNat, Int.reduceNegSucc, Int.cast_ofNat_Int, Int32.reduceToInt, Int64.reduceToInt, Int.zero_add, Int.add_zero, Fin.isValue, Fin.val_zero, Fin.val_one, Fin.val_two, reduceCtorEq, or_false, false_or, or_true, true_or, or_self, and_true, true_and, and_self, not_true_eq_false, not_false_eq_true, implies_true, forall_const, List.mem_cons, List.not_mem_nil, false_implies, true_implies, imp_false, Nat.zero_add, Option.some.injEq, Prod.mk.injEq]
    repeat' first | omega | refine mz_it (fun hh => ?_) (fun hh => ?_) | refine And.intro ?_ ?_
    · refine ih (by omega) ?_
      rwa [sp_top, if_pos hh] at hP
    · rwa [sp_top, if_neg hh] at hP
set_option maxRecDepth 100000 in
theorem ct_topOf {e : mz_E} (d : Nat) {r a n : Nat} {H : mz_H} {P : mz_O → mz_H → Prop} (hG : mx_G e.1) (hR : rg_E e r) (ha : e.2.1 a = some (20, 126)) (hc : H.2.1 r 4 = n) (hn : n ≤ 126) (hP : P (.inl (some (.inl (sp_top (H.2.1 a) n)))) H) : mz_CA e d j_Ring_topOf [.inr (.inl r), .inr (.inl a)] H P := by
  obtain ⟨r0, f5, f6, f7, f8, f9, f10, f11, f12, f13, f14, k1, k2, k3, k4, k5, k6, k7, k8, k9, k10⟩ := hR
  refine mz_CA_of mr_Ring_topOf ?_
  simp only [mf_Ring_topOf, mz_en, List.replicate, Nat.reduceSub, Nat.reduceAdd, Nat.reduceMul]
  apply mz_go hG 40 [7]
  simp only [mf_Ring_topOf, ca_Ring_topOf, dc_Ring_topOf_0, dc_Ring_topOf_1, dc_Ring_topOf_2, fl_Ring, ha, r0, hc, mzr_iconst, mzr_bipush, mzr_sipush, mzr_lconst, mzr_iload, mzr_iload_n, mzr_aload, mzr_aload_n, mzr_lload, mzr_lload_n, mzr_istore, mzr_istore_n, mzr_astore, mzr_astore_n, mzr_lstore, mzr_lstore_n, mzr_iinc, mzr_iadd, mzr_isub, mzr_imul, mzr_iand, mzr_ior, mzr_ixor, mzr_ishl, mzr_ishr, mzr_iushr, mzr_idiv, mzr_irem, mzr_ineg, mzr_ladd, mzr_lsub, mzr_lmul, mzr_lrem, mzr_lcmp, mzr_i2l, mzr_l2i, mzr_i2b, mzr_dup, mzr_pop, mzr_dup2, mzr_ifCond_eq, mzr_if_icmp_eq, mzr_ifCond_ne, mzr_if_icmp_ne, mzr_ifCond_lt, mzr_if_icmp_lt, mzr_ifCond_ge, mzr_if_icmp_ge, mzr_ifCond_gt, mzr_if_icmp_gt, mzr_ifCond_le, mzr_if_icmp_le, mzr_goto, mzr_iaload, mzr_baload, mzr_laload, mzr_aaload, mzr_iastore, mzr_bastore, mzr_lastore, mzr_arraylength, mzr_getfield, mzr_putfield, mzr_getstatic, mzr_ldc, mzr_ldc_w, mzr_ldc2_w, mzr_ireturn, mzr_return_, mzr_copy, mzr_static, mzr_virtual, mzr_new, mz_tk, mz_dp, mz_ln, mz_sz, mz_af_v, mz_af_s, mz_wp_s, mz_w1, mz_g, mz_st, mz_k, mz_s2, mz_nx, mz_en, mx_to, mz_c1, ↓reduceIte, Nat.reduceAdd, Nat.reduceSub, Nat.reduceMul, Nat.reduceMod, Nat.reduceDiv, Nat.reduceEqDiff, Nat.reduceLeDiff, Nat.reduceLT, Int.reduceAdd, Int.reduceSub, Int.reduceNeg, Int.reduceMul, Int.reduceLE, Int.reduceLT, Int.reduceEq, Int.reduceToNat, Int.reduceNegSucc, Int.cast_ofNat_Int, Int32.reduceToInt, Int64.reduceToInt, Int.zero_add, Int.add_zero, Fin.isValue, Fin.val_zero, Fin.val_one, Fin.val_two, reduceCtorEq, or_false, false_or, or_true, true_or, or_self, and_true, true_and, and_self, not_true_eq_false, not_false_eq_true, implies_true, forall_const, List.mem_cons, List.not_mem_nil, false_implies, true_implies, imp_false, Nat.zero_add, Option.some.injEq, Prod.mk.injEq]
  repeat' first | omega | refine mz_it (fun hh => ?_) (fun hh => ?_) | refine And.intro ?_ ?_
  exact lp_topOf hG ha n hn hP
def tb_ab (n o m v : Nat) : Int := if al_dg (tb_T n o m) < tb_h n then (tb_I n o (al_p (tb_T n o m) (tb_x v)) : Int) else -1
def tb_be (n o m v : Nat) : Int := if tb_g (tb_T n o m) v = 0 then -1 else (tb_I n o (tb_s (tb_T n o m) v (tb_g (tb_T n o m) v - 1)) : Int)
def rg_S (H : mz_H) (r : Nat) (p : Int) (n o : Nat) : Prop :=
  H.2.1 r 0 = p ∧ H.2.1 r 1 = n ∧ H.2.1 r 2 = o ∧ H.2.1 r 3 = tb_h n ∧ H.2.1 r 4 = tb_N n ∧
  (∀ m, m < tb_N n → H.2.1 (r + 1) m = al_dg (tb_T n o m)) ∧
  (∀ d, d ≤ tb_h n → H.2.1 (r + 2) d = tb_F n (d + 1)) ∧
  (∀ m v, m < tb_N n → v < 4 → H.2.1 (r + 3) (m * 4 + v) = tb_g (tb_T n o m) v) ∧
  (∀ m, m < tb_N n → H.2.1 (r + 4) m = tb_c n (tb_T n o m)) ∧
  (∀ v, v < 4 → H.2.1 (r + 5) v = tb_w n v) ∧
  (∀ m, m < tb_N n → H.2.1 (r + 6) (tb_c n (tb_T n o m)) = m) ∧
  (∀ m v, m < tb_N n → v < n → H.2.1 (r + 7) (m * 4 + v) = tb_ab n o m v) ∧
  (∀ m v, m < tb_N n → v < n → H.2.1 (r + 8) (m * 4 + v) = tb_be n o m v)
theorem rg_S.fr {H H' : mz_H} {A : List Nat} {r : Nat} {p : Int} {n o : Nat} (hs : rg_S H r p n o) (h : mz_fr H H' A) (hA : ∀ i, i ≤ 8 → r + i ∉ A) : rg_S H' r p n o := by
  have e := fun i hi => h.2.2 (r + i) (hA i hi)
  unfold rg_S at *
  have e0 := e 0 (by omega)
  rw [Nat.add_zero] at e0
  rw [e0, e 1 (by omega), e 2 (by omega), e 3 (by omega), e 4 (by omega), e 5 (by omega), e 6 (by omega), e 7 (by omega), e 8 (by omega)]
  exact hs
def pl (p : Int) (n : Nat) (f : Nat → Int) : Prop := ∀ m, m < 126 → (m < tb_N n → 0 ≤ f m ∧ f m < p) ∧ (tb_N n ≤ m → f m = 0)
theorem tb_N_b (n : Nat) : tb_N n ≤ 126 := by
  unfold tb_N; split <;> omega
theorem pl.r {p : Int} {n : Nat} {f : Nat → Int} (h : pl p n f) (hp : 0 < p) {m : Nat} (hm : m < 126) : 0 ≤ f m ∧ f m < p := by
  have h1 := h m hm
  by_cases h2 : m < tb_N n
  · exact h1.1 h2
  · have := h1.2 (by omega); omega
set_option maxRecDepth 100000 in
theorem ct_degreeOf {e : mz_E} (d : Nat) {r a : Nat} {p : Int} {n o : Nat} {H : mz_H} {P : mz_O → mz_H → Prop} (hG : mx_G e.1) (hR : rg_E e r) (hS : rg_S H r p n o) (ha : e.2.1 a = some (20, 126)) (hP : P (.inl (some (.inl (sp_deg n o (H.2.1 a))))) H) : mz_CA e (d + 1) j_Ring_degreeOf [.inr (.inl r), .inr (.inl a)] H P := by
  have hR' := hR
  obtain ⟨r0, f5, f6, f7, f8, f9, f10, f11, f12, f13, f14, k1, k2, k3, k4, k5, k6, k7, k8, k9, k10⟩ := hR
  refine mz_CA_of mr_Ring_degreeOf ?_
  simp only [mf_Ring_degreeOf, mz_en, List.replicate, Nat.reduceSub, Nat.reduceAdd, Nat.reduceMul]
  apply mz_go hG 40 []
  simp only [mf_Ring_degreeOf, ca_Ring_degreeOf, dc_Ring_degreeOf_0, dc_Ring_degreeOf_1, fl_Ring, sl_Ring, sg_Ring_topOf, ha, r0, f5, f6, f7, f8, f9, f10, f11, f12, f13, f14, k1, k2, k3, k4, k5, k6, k7, k8, k9, k10, mzr_iconst, mzr_bipush, mzr_sipush, mzr_lconst, mzr_iload, mzr_iload_n, mzr_aload, mzr_aload_n, mzr_lload, mzr_lload_n, mzr_istore, mzr_istore_n, mzr_astore, mzr_astore_n, mzr_lstore, mzr_lstore_n, mzr_iinc, mzr_iadd, mzr_isub, mzr_imul, mzr_iand, mzr_ior, mzr_ixor, mzr_ishl, mzr_ishr, mzr_iushr, mzr_idiv, mzr_irem, mzr_ineg, mzr_ladd, mzr_lsub, mzr_lmul, mzr_lrem, mzr_lcmp, mzr_i2l, mzr_l2i, mzr_i2b, mzr_dup, mzr_pop, mzr_dup2, mzr_ifCond_eq, mzr_if_icmp_eq, mzr_ifCond_ne, mzr_if_icmp_ne, mzr_ifCond_lt, mzr_if_icmp_lt, mzr_ifCond_ge, mzr_if_icmp_ge, mzr_ifCond_gt, mzr_if_icmp_gt, mzr_ifCond_le, mzr_if_icmp_le, mzr_goto, mzr_iaload, mzr_baload, mzr_laload, mzr_aaload, mzr_iastore, mzr_bastore, mzr_lastore, mzr_arraylength, mzr_getfield, mzr_putfield, mzr_getstatic, mzr_ldc, mzr_ldc_w, mzr_ldc2_w, mzr_ireturn, mzr_return_, mzr_copy, mzr_static, mzr_virtual, mzr_new, mz_tk, mz_dp, mz_ln, mz_sz, mz_af_v, mz_af_s, mz_wp_s, mz_w1, mz_g, mz_st, mz_k, mz_s2, mz_nx, mz_en, mx_to, mz_c1, ↓reduceIte, Nat.reduceAdd, Nat.reduceSub, Nat.reduceMul, Nat.reduceMod, Nat.reduceDiv, Nat.reduceEqDiff, Nat.reduceLeDiff, Nat.reduceLT, Int.reduceAdd, Int.reduceSub, Int.reduceNeg, Int.reduceMul, Int.reduceLE, Int.reduceLT, Int.reduceEq, Int.reduceToNat, Int.reduceNegSucc, Int.cast_ofNat_Int, Int32.reduceToInt, Int64.reduceToInt, Int.zero_add, Int.add_zero, Fin.isValue, Fin.val_zero, Fin.val_one, Fin.val_two, reduceCtorEq, or_false, false_or, or_true, true_or, or_self, and_true, true_and, and_self, not_true_eq_false, not_false_eq_true, implies_true, forall_const, List.mem_cons, List.not_mem_nil, false_implies, true_implies, imp_false, Nat.zero_add, Option.some.injEq, Prod.mk.injEq]
  repeat' first | omega | refine mz_it (fun hh => ?_) (fun hh => ?_) | refine And.intro ?_ ?_
  refine ct_topOf d hG hR' ha hS.2.2.2.2.1 (tb_N_b n) ?_
  have ht := sp_top_r (H.2.1 a) (tb_N n)
  have hN := tb_N_b n
  simp only [mf_Ring_degreeOf, ca_Ring_degreeOf, dc_Ring_degreeOf_0, dc_Ring_degreeOf_1, fl_Ring, sl_Ring, sg_Ring_topOf, ha, r0, f5, f6, f7, f8, f9, f10, f11, f12, f13, f14, k1, k2, k3, k4, k5, k6, k7, k8, k9, k10, mzr_iconst, mzr_bipush, mzr_sipush, mzr_lconst, mzr_iload, mzr_iload_n, mzr_aload, mzr_aload_n, mzr_lload, mzr_lload_n, mzr_istore, mzr_istore_n, mzr_astore, mzr_astore_n, mzr_lstore, mzr_lstore_n, mzr_iinc, mzr_iadd, mzr_isub, mzr_imul, mzr_iand, mzr_ior, mzr_ixor, mzr_ishl, mzr_ishr, mzr_iushr, mzr_idiv, mzr_irem, mzr_ineg, mzr_ladd, mzr_lsub, mzr_lmul, mzr_lrem, mzr_lcmp, mzr_i2l, mzr_l2i, mzr_i2b, mzr_dup, mzr_pop, mzr_dup2, mzr_ifCond_eq, mzr_if_icmp_eq, mzr_ifCond_ne, mzr_if_icmp_ne, mzr_ifCond_lt, mzr_if_icmp_lt, mzr_ifCond_ge, mzr_if_icmp_ge, mzr_ifCond_gt, mzr_if_icmp_gt, mzr_ifCond_le, mzr_if_icmp_le, mzr_goto, mzr_iaload, mzr_baload, mzr_laload, mzr_aaload, mzr_iastore, mzr_bastore, mzr_lastore, mzr_arraylength, mzr_getfield, mzr_putfield, mzr_getstatic, mzr_ldc, mzr_ldc_w, mzr_ldc2_w, mzr_ireturn, mzr_return_, mzr_copy, mzr_static, mzr_virtual, mzr_new, mz_tk, mz_dp, mz_ln, mz_sz, mz_af_v, mz_af_s, mz_wp_s, mz_w1, mz_g, mz_st, mz_k, mz_s2, mz_nx, mz_en, mx_to, mz_c1, ↓reduceIte, Nat.reduceAdd, Nat.reduceSub, Nat.reduceMul, Nat.reduceMod, Nat.reduceDiv, Nat.reduceEqDiff, Nat.reduceLeDiff, Nat.reduceLT, Int.reduceAdd, Int.reduceSub, Int.reduceNeg, Int.reduceMul, Int.reduceLE, Int.reduceLT, Int.reduceEq, Int.reduceToNat, Int.reduceNegSucc, Int.cast_ofNat_Int, Int32.reduceToInt, Int64.reduceToInt, Int.zero_add, Int.add_zero, Fin.isValue, Fin.val_zero, Fin.val_one, Fin.val_two, reduceCtorEq, or_false, false_or, or_true, true_or, or_self, and_true, true_and, and_self, not_true_eq_false, not_false_eq_true, implies_true, forall_const, List.mem_cons, List.not_mem_nil, false_implies, true_implies, imp_false, Nat.zero_add, Option.some.injEq, Prod.mk.injEq]
  repeat' first | omega | refine mz_it (fun hh => ?_) (fun hh => ?_) | refine And.intro ?_ ?_
  · rwa [sp_deg, if_pos (by omega)] at hP
  · obtain ⟨t, hq⟩ : ∃ t : Nat, sp_top (H.2.1 a) (tb_N n) = t := ⟨(sp_top (H.2.1 a) (tb_N n)).toNat, by omega⟩
    have h2 := hS.2.2.2.2.2.1 t (by omega)
    rw [sp_deg, if_neg (by omega), hq, Int.toNat_natCast] at hP
    rw [hq, Int.toNat_natCast, h2]
    exact hP
