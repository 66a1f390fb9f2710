def rg_P (H : mz_H) (r : Nat) (p : Int) (n o q : Nat) : Prop :=
  (H.2.1 r 0 = p ∧ H.2.1 r 1 = n ∧ H.2.1 r 2 = o ∧ H.2.1 r 3 = tb_h n ∧ H.2.1 r 4 = q) ∧
  (∀ m, m < q → H.2.1 (r + 1) m = al_dg (tb_T n o m)) ∧
  (∀ m v, m < q → v < 4 → H.2.1 (r + 3) (m * 4 + v) = tb_g (tb_T n o m) v) ∧
  (∀ m, m < q → H.2.1 (r + 4) m = tb_c n (tb_T n o m)) ∧
  (∀ v, v < 4 → H.2.1 (r + 5) v = tb_w n v) ∧
  (∀ m, m < q → H.2.1 (r + 6) (tb_c n (tb_T n o m)) = m)
set_option maxRecDepth 100000 in
theorem lp_layMonomial {e : mz_E} {d : Nat} {r q : Nat} {p : Int} {n o : Nat} {H : mz_H} {P : mz_O → mz_H → Prop} (hG : mx_G e.1) (hR : rg_E e r) (hok : tb_ok n o) (hq : q < tb_N n) (hP0 : rg_P H r p n o q) (h9 : ∀ v, v < 4 → H.2.1 (r + 9) v = tb_g (tb_T n o q) v)
    (hP : ∀ h, mz_fr H h [r, r + 1, r + 3, r + 4, r + 6] → rg_P h r p n o (q + 1) → P (.inl none) h) :
    ∀ k v (H1 : mz_H), v + k = 4 → mz_fr H H1 [r + 3] → (∀ j, j < q * 4 → H1.2.1 (r + 3) j = H.2.1 (r + 3) j) → (∀ u, u < v → H1.2.1 (r + 3) (q * 4 + u) = tb_g (tb_T n o q) u) → cs_S n (tb_T n o q) v ≤ v * 6480 → dg_S (tb_T n o q) v ≤ v * 30 →
    mz_V e d mm_Ring_layMonomial 16 [some (.inr (.inl r)), some (.inl (cs_S n (tb_T n o q) v : Int)), some (.inl (dg_S (tb_T n o q) v : Int)), some (.inl (v : Int))] [] H1 P := by
  have hR' := hR
  obtain ⟨r0, f5, f6, f7, f8, f9, f10, f11, f12, f13, f14, k1, k2, k3, k4, k5, k6, k7, k8, k9, k10⟩ := hR
  have hN := tb_N_b n
  obtain ⟨⟨p0, p1, p2, p3, p4⟩, pd, pe, pc, pw, pp⟩ := hP0
  intro k
  induction k with
  | zero =>
    intro v H1 h1 h2 h3 h4 h5 h6
    obtain rfl : v = 4 := by omega
    have cb := tb_c_b hok.1 hok.2.1 (tb_T_b hok hq).2 (tb_T_b hok hq).1
    have z0 : H1.2.1 r = H.2.1 r := h2.2.2 r (by simp)
    have z4 : H1.2.1 r 4 = q := by rw [z0, p4]
    rw [cs_4, dg_4] at *
    apply mz_go hG 60 [16]
    simp only [mf_Ring_layMonomial, ca_Ring_layMonomial, dc_Ring_layMonomial_0, dc_Ring_layMonomial_1, dc_Ring_layMonomial_2, dc_Ring_layMonomial_3, dc_Ring_layMonomial_4, dc_Ring_layMonomial_5, dc_Ring_layMonomial_6, dc_Ring_layMonomial_7, dc_Ring_layMonomial_8, dc_Ring_layMonomial_9, fl_Ring, r0, f5, f6, f7, f8, f9, f10, f11, f12, f13, f14, k1, k2, k3, k4, k5, k6, k7, k8, k9, k10, z4, Int.toNat_natCast, mz_w_g, Nat.left_eq_add, Nat.add_left_cancel_iff, Nat.add_eq_left, false_and, if_false, if_true, mzr_iconst, mzr_bipush, mzr_sipush, mzr_lconst, mzr_iload, mzr_iload_n, mzr_aload, mzr_aload_n, mzr_lload, mzr_lload_n, mzr_istore, mzr_istore_n, mzr_astore, mzr_astore_n, mzr_lstore, mzr_lstore_n, mzr_iinc, mzr_iadd, mzr_isub, mzr_imul, mzr_iand, mzr_ior, mzr_ixor, mzr_ishl, mzr_ishr, mzr_iushr, mzr_idiv, mzr_irem, mzr_ineg, mzr_ladd, mzr_lsub, mzr_lmul, mzr_lrem, mzr_lcmp, mzr_i2l, mzr_l2i, mzr_i2b, mzr_dup, mzr_pop, mzr_dup2, mzr_ifCond_eq, mzr_if_icmp_eq, mzr_ifCond_ne, mzr_if_icmp_ne, mzr_ifCond_lt, mzr_if_icmp_lt, mzr_ifCond_ge, mzr_if_icmp_ge, mzr_ifCond_gt, mzr_if_icmp_gt, mzr_ifCond_le, mzr_if_icmp_le, mzr_goto, mzr_iaload, mzr_baload, mzr_laload, mzr_aaload, mzr_iastore, mzr_bastore, mzr_lastore, mzr_arraylength, mzr_getfield, mzr_putfield, mzr_getstatic, mzr_ldc, mzr_ldc_w, mzr_ldc2_w, mzr_ireturn, mzr_return_, mzr_copy, mzr_static, mzr_virtual, mzr_new, mz_tk, mz_dp, mz_ln, mz_sz, mz_af_v, mz_af_s, mz_wp_s, mz_w1, mz_g, mz_st, mz_k, mz_s2, mz_nx, mz_en, mx_to, mz_c1, ↓reduceIte, Nat.reduceAdd, Nat.reduceSub, Nat.reduceMul, Nat.reduceMod, Nat.reduceDiv, Nat.reduceEqDiff, Nat.reduceLeDiff, Nat.reduceLT, Int.reduceAdd, Int.reduceSub, Int.reduceNeg, Int.reduceMul, Int.reduceLE, Int.reduceLT, Int.reduceEq, Int.reduceToNat, Int.reduceNegSucc, Int.cast_ofNat_Int, Int32.reduceToInt, Int64.reduceToInt, Int.zero_add, Int.add_zero, Fin.isValue, Fin.val_zero, Fin.val_one, Fin.val_two, reduceCtorEq, or_false, false_or, or_true, true_or, or_self, and_true, true_and, and_self, not_true_eq_false, not_false_eq_true, implies_true, forall_const, List.mem_cons, List.not_mem_nil, false_implies, true_implies, imp_false, Nat.zero_add, Option.some.injEq, Prod.mk.injEq]
    repeat' first | omega | refine mz_it (fun hh => ?_) (fun hh => ?_) | refine And.intro ?_ ?_
    have fr : mz_fr H (mz_w (mz_w (mz_w (mz_w H1 (r + 4) q (tb_c n (tb_T n o q) : Int)) (r + 1) q (al_dg (tb_T n o q) : Int)) (r + 6) (tb_c n (tb_T n o q)) (q : Int)) r 4 ((q : Int) + 1)) [r, r + 1, r + 3, r + 4, r + 6] :=
      ((((h2.mono (by simp)).tr (mz_fr.w _ _ _ _ (by simp))).tr (mz_fr.w _ _ _ _ (by simp))).tr (mz_fr.w _ _ _ _ (by simp))).tr (mz_fr.w _ _ _ _ (by simp))
    refine hP _ fr ⟨⟨?_, ?_, ?_, ?_, ?_⟩, fun m hm => ?_, fun m v hm hv => ?_, fun m hm => ?_, fun v hv => ?_, fun m hm => ?_⟩
    · rw [mz_w_g, if_neg (by omega), mz_w_g, if_neg (by omega), mz_w_g, if_neg (by omega), mz_w_g, if_neg (by omega), z0, p0]
    · rw [mz_w_g, if_neg (by omega), mz_w_g, if_neg (by omega), mz_w_g, if_neg (by omega), mz_w_g, if_neg (by omega), z0, p1]
    · rw [mz_w_g, if_neg (by omega), mz_w_g, if_neg (by omega), mz_w_g, if_neg (by omega), mz_w_g, if_neg (by omega), z0, p2]
    · rw [mz_w_g, if_neg (by omega), mz_w_g, if_neg (by omega), mz_w_g, if_neg (by omega), mz_w_g, if_neg (by omega), z0, p3]
    · rw [mz_w_g, if_pos ⟨rfl, rfl⟩]; omega
    · rw [mz_w_g, if_neg (by omega), mz_w_g, if_neg (by omega), mz_w_g]
      by_cases hmq : m = q
      · rw [if_pos ⟨rfl, hmq⟩, hmq]
      · rw [if_neg (by omega), mz_w_g, if_neg (by omega), h2.2.2 (r + 1) (by simp), pd m (by omega)]
    · rw [mz_w_g, if_neg (by omega), mz_w_g, if_neg (by omega), mz_w_g, if_neg (by omega), mz_w_g, if_neg (by omega)]
      by_cases hmq : m = q
      · rw [hmq, h4 v hv]
      · rw [h3 _ (by omega), pe m v (by omega) hv]
    · rw [mz_w_g, if_neg (by omega), mz_w_g, if_neg (by omega), mz_w_g, if_neg (by omega), mz_w_g]
      by_cases hmq : m = q
      · rw [if_pos ⟨rfl, hmq⟩, hmq]
      · rw [if_neg (by omega), h2.2.2 (r + 4) (by simp), pc m (by omega)]
    · rw [mz_w_g, if_neg (by omega), mz_w_g, if_neg (by omega), mz_w_g, if_neg (by omega), mz_w_g, if_neg (by omega), h2.2.2 (r + 5) (by simp), pw v hv]
    · rw [mz_w_g, if_neg (by omega), mz_w_g]
      by_cases hmq : m = q
      · rw [if_pos ⟨rfl, by rw [hmq]⟩, hmq]
      · have hcc : ¬ tb_c n (tb_T n o m) = tb_c n (tb_T n o q) := fun hcc => hmq (tb_T_i hok (show m < tb_N n by omega) hq (tb_c_i hok.1 hok.2.1 (tb_T_b hok (show m < tb_N n by omega)).2 (tb_T_b hok hq).2 (tb_T_b hok (show m < tb_N n by omega)).1 (tb_T_b hok hq).1 hcc))
        rw [if_neg (by omega), mz_w_g, if_neg (by omega), mz_w_g, if_neg (by omega), h2.2.2 (r + 6) (by simp), pp m (by omega)]
  | succ k ih =>
    intro v H1 h1 h2 h3 h4 h5 h6
    have z0 : H1.2.1 r = H.2.1 r := h2.2.2 r (by simp)
    have z4 : H1.2.1 r 4 = q := by rw [z0, p4]
    have z9 : H1.2.1 (r + 9) v = tb_g (tb_T n o q) v := by rw [h2.2.2 (r + 9) (by simp), h9 v (by omega)]
    have z5 : H1.2.1 (r + 5) v = tb_w n v := by rw [h2.2.2 (r + 5) (by simp), pw v (by omega)]
    have i1 : ((q : Int) * 4 + (v : Int)).toNat = q * 4 + v := by omega
    have b1 := tb_g_b hok hq v
    have b2 := tb_w_b hok.1 hok.2.1 (show v < 4 by omega)
    have b3 : tb_g (tb_T n o q) v * tb_w n v ≤ 6480 := Nat.mul_le_mul b1 b2
    have b4 : (tb_g (tb_T n o q) v : Int) * (tb_w n v : Int) = ((tb_g (tb_T n o q) v * tb_w n v : Nat) : Int) := by push_cast; rfl
    apply mz_go hG 60 [16]
    simp only [mf_Ring_layMonomial, ca_Ring_layMonomial, dc_Ring_layMonomial_0, dc_Ring_layMonomial_1, dc_Ring_layMonomial_2, dc_Ring_layMonomial_3, dc_Ring_layMonomial_4, dc_Ring_layMonomial_5, dc_Ring_layMonomial_6, dc_Ring_layMonomial_7, dc_Ring_layMonomial_8, dc_Ring_layMonomial_9, fl_Ring, r0, f5, f6, f7, f8, f9, f10, f11, f12, f13, f14, k1, k2, k3, k4, k5, k6, k7, k8, k9, k10, z4, Int.toNat_natCast, mz_w_g, Nat.left_eq_add, Nat.add_left_cancel_iff, Nat.add_eq_left, false_and, if_false, if_true, z9, z5, i1, b4, mzr_iconst, mzr_bipush, mzr_sipush, mzr_lconst, mzr_iload, mzr_iload_n, mzr_aload, mzr_aload_n, mzr_lload, mzr_lload_n, mzr_istore, mzr_istore_n, mzr_astore, mzr_astore_n, mzr_lstore, mzr_lstore_n, mzr_iinc, mzr_iadd, mzr_isub, mzr_imul, mzr_iand, mzr_ior, mzr_ixor, mzr_ishl, mzr_ishr, mzr_iushr, mzr_idiv, mzr_irem, mzr_ineg, mzr_ladd, mzr_lsub, mzr_lmul, mzr_lrem, mzr_lcmp, mzr_i2l, mzr_l2i, mzr_i2b, mzr_dup, mzr_pop, mzr_dup2, mzr_ifCond_eq, mzr_if_icmp_eq, mzr_ifCond_ne, mzr_if_icmp_ne, mzr_ifCond_lt, mzr_if_icmp_lt, mzr_ifCond_ge, mzr_if_icmp_ge, mzr_ifCond_gt, mzr_if_icmp_gt, mzr_ifCond_le, mzr_if_icmp_le, mzr_goto, mzr_iaload, mzr_baload, mzr_laload, mzr_aaload, mzr_iastore, mzr_bastore, mzr_lastore, mzr_arraylength, mzr_getfield, mzr_putfield, mzr_getstatic, mzr_ldc, mzr_ldc_w, mzr_ldc2_w, mzr_ireturn, mzr_return_, mzr_copy, mzr_static, mzr_virtual, mzr_new, mz_tk, mz_dp, mz_ln, mz_sz, mz_af_v, mz_af_s, mz_wp_s, mz_w1, mz_g, mz_st, mz_k, mz_s2, mz_nx, mz_en, mx_to, mz_c1, ↓reduceIte, Nat.reduceAdd, Nat.reduceSub, Nat.reduceMul, Nat.reduceMod, Nat.reduceDiv, Nat.reduceEqDiff, Nat.reduceLeDiff, Nat.reduceLT, Int.reduceAdd, Int.reduceSub, Int.reduceNeg, Int.reduceMul, Int.reduceLE, Int.reduceLT, Int.reduceEq, Int.reduceToNat, Int.reduceNegSucc, Int.cast_ofNat_Int, Int32.reduceToInt, Int64.reduceToInt, Int.zero_add, Int.add_zero, Fin.isValue, Fin.val_zero, Fin.val_one, Fin.val_two, reduceCtorEq, or_false, false_or, or_true, true_or, or_self, and_true, true_and, and_self, not_true_eq_false, not_false_eq_true, implies_true, forall_const, List.mem_cons, List.not_mem_nil, false_implies, true_implies, imp_false, Nat.zero_add, Option.some.injEq, Prod.mk.injEq]
    repeat' first | omega | refine mz_it (fun hh => ?_) (fun hh => ?_) | refine And.intro ?_ ?_
    have f3 := mz_fr.w H1 (r + 3) (q * 4 + v) (tb_g (tb_T n o q) v : Int) (A := [r + 3]) (by simp)
    refine ih (v + 1) _ (by omega) (h2.tr f3) (fun j hj => ?_) (fun u hu => ?_) (by rw [cs_S]; omega) (by rw [dg_S]; omega)
    · rw [mz_w_g, if_neg (by omega), h3 j hj]
    · rw [mz_w_g]
      by_cases huv : u = v
      · rw [if_pos ⟨rfl, by rw [huv]⟩, huv]
      · rw [if_neg (by omega), h4 u (by omega)]
set_option maxRecDepth 100000 in
theorem ct_layMonomial {e : mz_E} (d : Nat) {r q : Nat} {p : Int} {n o : Nat} {H : mz_H} {P : mz_O → mz_H → Prop} (hG : mx_G e.1) (hR : rg_E e r) (hok : tb_ok n o) (hq : q < tb_N n) (hP0 : rg_P H r p n o q) (h9 : ∀ v, v < 4 → H.2.1 (r + 9) v = tb_g (tb_T n o q) v)
    (hP : ∀ h, mz_fr H h [r, r + 1, r + 3, r + 4, r + 6] → rg_P h r p n o (q + 1) → P (.inl none) h) : mz_CA e d j_Ring_layMonomial [.inr (.inl r)] H P := by
  have hR' := hR
  have hN := tb_N_b n
  have p4 := hP0.1.2.2.2.2
  obtain ⟨r0, f5, f6, f7, f8, f9, f10, f11, f12, f13, f14, k1, k2, k3, k4, k5, k6, k7, k8, k9, k10⟩ := hR
  refine mz_CA_of mr_Ring_layMonomial ?_
  simp only [mf_Ring_layMonomial, mz_en, List.replicate, Nat.reduceSub, Nat.reduceAdd, Nat.reduceMul]
  apply mz_go hG 60 [16]
  simp only [mf_Ring_layMonomial, ca_Ring_layMonomial, dc_Ring_layMonomial_0, dc_Ring_layMonomial_1, dc_Ring_layMonomial_2, dc_Ring_layMonomial_3, dc_Ring_layMonomial_4, dc_Ring_layMonomial_5, dc_Ring_layMonomial_6, dc_Ring_layMonomial_7, dc_Ring_layMonomial_8, dc_Ring_layMonomial_9, fl_Ring, r0, f5, f6, f7, f8, f9, f10, f11, f12, f13, f14, k1, k2, k3, k4, k5, k6, k7, k8, k9, k10, p4, mzr_iconst, mzr_bipush, mzr_sipush, mzr_lconst, mzr_iload, mzr_iload_n, mzr_aload, mzr_aload_n, mzr_lload, mzr_lload_n, mzr_istore, mzr_istore_n, mzr_astore, mzr_astore_n, mzr_lstore, mzr_lstore_n, mzr_iinc, mzr_iadd, mzr_isub, mzr_imul, mzr_iand, mzr_ior, mzr_ixor, mzr_ishl, mzr_ishr, mzr_iushr, mzr_idiv, mzr_irem, mzr_ineg, mzr_ladd, mzr_lsub, mzr_lmul, mzr_lrem, mzr_lcmp, mzr_i2l, mzr_l2i, mzr_i2b, mzr_dup, mzr_pop, mzr_dup2, mzr_ifCond_eq, mzr_if_icmp_eq, mzr_ifCond_ne, mzr_if_icmp_ne, mzr_ifCond_lt, mzr_if_icmp_lt, mzr_ifCond_ge, mzr_if_icmp_ge, mzr_ifCond_gt, mzr_if_icmp_gt, mzr_ifCond_le, mzr_if_icmp_le, mzr_goto, mzr_iaload, mzr_baload, mzr_laload, mzr_aaload, mzr_iastore, mzr_bastore, mzr_lastore, mzr_arraylength, mzr_getfield, mzr_putfield, mzr_getstatic, mzr_ldc, mzr_ldc_w, mzr_ldc2_w, mzr_ireturn, mzr_return_, mzr_copy, mzr_static, mzr_virtual, mzr_new, mz_tk, mz_dp, mz_ln, mz_sz, mz_af_v, mz_af_s, mz_wp_s, mz_w1, mz_g, mz_st, mz_k, mz_s2, mz_nx, mz_en, mx_to, mz_c1, ↓reduceIte, Nat.reduceAdd, Nat.reduceSub, Nat.reduceMul, Nat.reduceMod, Nat.reduceDiv, Nat.reduceEqDiff, Nat.reduceLeDiff, Nat.reduceLT, Int.reduceAdd, Int.reduceSub, Int.reduceNeg, Int.reduceMul, Int.reduceLE, Int.reduceLT, Int.reduceEq, Int.reduceToNat, Int.reduceNegSucc, Int.cast_ofNat_Int, Int32.reduceToInt, Int64.reduceToInt, Int.zero_add, Int.add_zero, Fin.isValue, Fin.val_zero, Fin.val_one, Fin.val_two, reduceCtorEq, or_false, false_or, or_true, true_or, or_self, and_true, true_and, and_self, not_true_eq_false, not_false_eq_true, implies_true, forall_const, List.mem_cons, List.not_mem_nil, false_implies, true_implies, imp_false, Nat.zero_add, Option.some.injEq, Prod.mk.injEq]
  repeat' first | omega | refine mz_it (fun hh => ?_) (fun hh => ?_) | refine And.intro ?_ ?_
  exact lp_layMonomial hG hR' hok hq hP0 h9 hP 4 0 H (by omega) (mz_fr.refl _ _) (fun j hj => rfl) (fun u hu => by omega) (by rw [cs_S]; omega) (by rw [dg_S]; omega)
