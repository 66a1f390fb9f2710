theorem tb_ab_r {n o m v : Nat} (hok : tb_ok n o) (hm : m < tb_N n) (hv : v < n) : (al_dg (tb_T n o m) < tb_h n → tb_ab n o m v = (tb_I n o (al_p (tb_T n o m) (tb_x v)) : Int) ∧ tb_I n o (al_p (tb_T n o m) (tb_x v)) < tb_N n ∧ tb_T n o (tb_I n o (al_p (tb_T n o m) (tb_x v))) = al_p (tb_T n o m) (tb_x v)) ∧
    (¬ al_dg (tb_T n o m) < tb_h n → tb_ab n o m v = -1 ∧ ∀ j, j < tb_N n → ¬ al_p (tb_T n o m) (tb_x v) = tb_T n o j) := by
  constructor
  · intro h
    refine ⟨if_pos h, tb_T_I hok (tb_v_p (tb_T_b hok hm).2 (tb_x_v hv hok.2.1)) ?_⟩
    rw [al_dg_p, tb_x_d]; omega
  · intro h
    refine ⟨if_neg h, fun j hj h1 => ?_⟩
    have := (tb_T_b hok hj).1
    rw [← h1, al_dg_p, tb_x_d] at this
    omega
theorem tb_be_r {n o m v : Nat} (hok : tb_ok n o) (hm : m < tb_N n) (hv : v < n) : (tb_g (tb_T n o m) v ≠ 0 → tb_be n o m v = (tb_I n o (tb_s (tb_T n o m) v (tb_g (tb_T n o m) v - 1)) : Int) ∧ tb_I n o (tb_s (tb_T n o m) v (tb_g (tb_T n o m) v - 1)) < tb_N n ∧ al_p (tb_T n o (tb_I n o (tb_s (tb_T n o m) v (tb_g (tb_T n o m) v - 1)))) (tb_x v) = tb_T n o m) ∧
    (tb_g (tb_T n o m) v = 0 → tb_be n o m v = -1 ∧ ∀ j, ¬ tb_T n o m = al_p (tb_T n o j) (tb_x v)) := by
  have hv4 : v < 4 := by have := hok.2.1; omega
  constructor
  · intro h
    have h1 := tb_g_s (tb_T n o m) v hv4 h
    have hb := tb_T_b hok hm
    have h2 : tb_v n (tb_s (tb_T n o m) v (tb_g (tb_T n o m) v - 1)) ∧ al_dg (tb_s (tb_T n o m) v (tb_g (tb_T n o m) v - 1)) + 1 = al_dg (tb_T n o m) := by
      have h3 := congrArg al_dg h1
      rw [al_dg_p, tb_x_d] at h3
      refine ⟨?_, h3⟩
      have h4 := hb.2
      rw [← h1] at h4
      generalize tb_s (tb_T n o m) v (tb_g (tb_T n o m) v - 1) = y at h4
      unfold tb_v at *
      simp only [al_p] at h4
      omega
    have h3 := tb_T_I hok h2.1 (by have := hb.1; omega)
    exact ⟨if_neg h, h3.1, by rw [h3.2, h1]⟩
  · intro h
    refine ⟨if_pos h, fun j h1 => ?_⟩
    rw [h1, tb_g_x _ _ hv4] at h
    omega
set_option maxRecDepth 100000 in
theorem lp_raised {e : mz_E} {d : Nat} {r a c v : Nat} {p : Int} {n o : Nat} {H : mz_H} {P : mz_O → mz_H → Prop} (hG : mx_G e.1) (hR : rg_E e r) (hok : tb_ok n o) (hv : v < n)
    (ha : e.2.1 a = some (20, 126)) (hc : e.2.1 c = some (20, 126)) (hca : c ≠ a) (hcr : ∀ i, i ≤ 8 → r + i ≠ c) (hS : rg_S H r p n o)
    (hP : ∀ h, mz_fr H h [c] → (∀ m, m < 126 → h.2.1 c m = al_up (tb_N n) (tb_T n o) (tb_x v) (H.2.1 a) m) → P (.inl none) h) :
    ∀ k i (H1 : mz_H) o5, i + k = tb_N n → mz_fr H H1 [c] → (∀ m, m < tb_N n → H1.2.1 c m = up_S (tb_T n o) (tb_x v) (H.2.1 a) i m) → (∀ m, tb_N n ≤ m → m < 126 → H1.2.1 c m = 0) →
    mz_V e d mm_Ring_raisedInto 8 [some (.inr (.inl r)), some (.inr (.inl a)), some (.inl (v : Int)), some (.inr (.inl c)), some (.inl (i : Int)), o5] [] H1 P := by
  obtain ⟨r0, f5, f6, f7, f8, f9, f10, f11, f12, f13, f14, k1, k2, k3, k4, k5, k6, k7, k8, k9, k10⟩ := hR
  have hN := tb_N_b n
  have hn4 := hok.2.1
  intro k
  induction k with
  | zero =>
    intro i H1 o5 h1 h2 h3 h4
    obtain rfl : i = tb_N n := by omega
    have hn1 := (hS.fr h2 (fun i hi => by simp; exact hcr i hi)).2.2.2.2.1
    apply mz_go hG 60 [8]
    simp only [mf_Ring_raisedInto, ca_Ring_raisedInto, dc_Ring_raisedInto_0, dc_Ring_raisedInto_1, dc_Ring_raisedInto_2, dc_Ring_raisedInto_3, dc_Ring_raisedInto_4, fl_Ring, sl_Ring, sg_Arrays_fill, cpn_ring_0, mx_cp_r, ha, hc, r0, f5, f6, f7, f8, f9, f10, f11, f12, f13, f14, k1, k2, k3, k4, k5, k6, k7, k8, k9, k10, Int.toNat_natCast, hn1, mzr_iconst, mzr_bipush, mzr_sipush, mzr_lconst, mzr_iload, mzr_iload_n, mzr_aload, mzr_aload_n, mzr_lload, mzr_lload_n, mzr_istore, mzr_istore_n, mzr_astore, mzr_astore_n, mzr_lstore, mzr_lstore_n, mzr_iinc, mzr_iadd, mzr_isub, mzr_imul, mzr_iand, mzr_ior, mzr_ixor, mzr_ishl, mzr_ishr, mzr_iushr, mzr_idiv, mzr_irem, mzr_ineg, mzr_ladd, mzr_lsub, mzr_lmul, mzr_lrem, mzr_lcmp, mzr_i2l, mzr_l2i, mzr_i2b, mzr_dup, mzr_pop, mzr_dup2, mzr_ifCond_eq, mzr_if_icmp_eq, mzr_ifCond_ne, mzr_if_icmp_ne, mzr_ifCond_lt, mzr_if_icmp_lt, mzr_ifCond_ge, mzr_if_icmp_ge, mzr_ifCond_gt, mzr_if_icmp_gt, mzr_ifCond_le, mzr_if_icmp_le, mzr_goto, mzr_iaload, mzr_baload, mzr_laload, mzr_aaload, mzr_iastore, mzr_bastore, mzr_lastore, mzr_arraylength, mzr_getfield, mzr_putfield, mzr_getstatic, mzr_ldc, mzr_ldc_w, mzr_ldc2_w, mzr_ireturn, mzr_return_, mzr_copy, mzr_static, mzr_virtual, mzr_new, mz_tk, mz_dp, mz_ln, mz_sz, mz_af_v, mz_af_s, mz_wp_s, mz_w1, mz_g, mz_st, mz_k, mz_s2, mz_nx, mz_en, mx_to, mz_c1, ↓reduceIte, Nat.reduceAdd, Nat.reduceSub, Nat.reduceMul, Nat.reduceMod, Nat.reduceDiv, Nat.reduceEqDiff, Nat.reduceLeDiff, Nat.reduceLT, Int.reduceAdd, Int.reduceSub, Int.reduceNeg, Int.reduceMul, Int.reduceLE, Int.reduceLT, Int.reduceEq, Int.reduceToNat, Int.reduceNegSucc, Int.cast_ofNat_Int, Int32.reduceToInt, Int64.reduceToInt, Int.zero_add, Int.add_zero, Fin.isValue, Fin.val_zero, Fin.val_one, Fin.val_two, reduceCtorEq, or_false, false_or, or_true, true_or, or_self, and_true, true_and, and_self, not_true_eq_false, not_false_eq_true, implies_true, forall_const, List.mem_cons, List.not_mem_nil, false_implies, true_implies, imp_false, Nat.zero_add, Option.some.injEq, Prod.mk.injEq]
    repeat' first | omega | refine mz_it (fun hh => ?_) (fun hh => ?_) | refine And.intro ?_ ?_
    refine hP H1 h2 (fun m hm => ?_)
    by_cases hm2 : m < tb_N n
    · rw [h3 m hm2]; unfold al_up; rw [if_pos hm2]; rfl
    · rw [h4 m (by omega) hm]; unfold al_up; rw [if_neg hm2]
  | succ k ih =>
    intro i H1 o5 h1 h2 h3 h4
    have hi : i < tb_N n := by omega
    have hS1 := hS.fr h2 (fun i hi => by simp; exact hcr i hi)
    have hn1 := hS1.2.2.2.2.1
    have q1 : H1.2.1 a i = H.2.1 a i := by rw [h2.2.2 a (by simp; omega)]
    have q2 := hS1.2.2.2.2.2.2.2.2.2.2.2.1 i v hi hv
    have q3 : ((i : Int) * 4 + (v : Int)).toNat = i * 4 + v := by omega
    have q4 := tb_ab_r hok hi hv
    have hsame : (H.2.1 a i = 0 ∨ ¬ al_dg (tb_T n o i) < tb_h n) → ∀ m, m < tb_N n → H1.2.1 c m = up_S (tb_T n o) (tb_x v) (H.2.1 a) (i + 1) m := by
      intro hq m hm
      rw [h3 m hm, up_1]
      rcases hq with hq | hq
      · rw [hq]; split <;> omega
      · rw [if_neg ((q4.2 hq).2 m hm)]; omega
    by_cases hz : H.2.1 a i = 0
    · apply mz_go hG 60 [8]
      simp only [mf_Ring_raisedInto, ca_Ring_raisedInto, dc_Ring_raisedInto_0, dc_Ring_raisedInto_1, dc_Ring_raisedInto_2, dc_Ring_raisedInto_3, dc_Ring_raisedInto_4, fl_Ring, sl_Ring, sg_Arrays_fill, cpn_ring_0, mx_cp_r, ha, hc, r0, f5, f6, f7, f8, f9, f10, f11, f12, f13, f14, k1, k2, k3, k4, k5, k6, k7, k8, k9, k10, Int.toNat_natCast, hn1, q1, hz, mzr_iconst, mzr_bipush, mzr_sipush, mzr_lconst, mzr_iload, mzr_iload_n, mzr_aload, mzr_aload_n, mzr_lload, mzr_lload_n, mzr_istore, mzr_istore_n, mzr_astore, mzr_astore_n, mzr_lstore, mzr_lstore_n, mzr_iinc, mzr_iadd, mzr_isub, mzr_imul, mzr_iand, mzr_ior, mzr_ixor, mzr_ishl, mzr_ishr, mzr_iushr, mzr_idiv, mzr_irem, mzr_ineg, mzr_ladd, mzr_lsub, mzr_lmul, mzr_lrem, mzr_lcmp, mzr_i2l, mzr_l2i, mzr_i2b, mzr_dup, mzr_pop, mzr_dup2, mzr_ifCond_eq, mzr_if_icmp_eq, mzr_ifCond_ne, mzr_if_icmp_ne, mzr_ifCond_lt, mzr_if_icmp_lt, mzr_ifCond_ge, mzr_if_icmp_ge, mzr_ifCond_gt, mzr_if_icmp_gt, mzr_ifCond_le, mzr_if_icmp_le, mzr_goto, mzr_iaload, mzr_baload, mzr_laload, mzr_aaload, mzr_iastore, mzr_bastore, mzr_lastore, mzr_arraylength, mzr_getfield, mzr_putfield, mzr_getstatic, mzr_ldc, mzr_ldc_w, mzr_ldc2_w, mzr_ireturn, mzr_return_, mzr_copy, mzr_static, mzr_virtual, mzr_new, mz_tk, mz_dp, mz_ln, mz_sz, mz_af_v, mz_af_s, mz_wp_s, mz_w1, mz_g, mz_st, mz_k, mz_s2, mz_nx, mz_en, mx_to, mz_c1, ↓reduceIte, Nat.reduceAdd, Nat.reduceSub, Nat.reduceMul, Nat.reduceMod, Nat.reduceDiv, Nat.reduceEqDiff, Nat.reduceLeDiff, Nat.reduceLT, Int.reduceAdd, Int.reduceSub, Int.reduceNeg, Int.reduceMul, Int.reduceLE, Int.reduceLT, Int.reduceEq, Int.reduceToNat, Int.reduceNegSucc, Int.cast_ofNat_Int, Int32.reduceToInt, Int64.reduceToInt, Int.zero_add, Int.add_zero, Fin.isValue, Fin.val_zero, Fin.val_one, Fin.val_two, reduceCtorEq, or_false, false_or, or_true, true_or, or_self, and_true, true_and, and_self, not_true_eq_false, not_false_eq_true, implies_true, forall_const, List.mem_cons, List.not_mem_nil, false_implies, true_implies, imp_false, Nat.zero_add, Option.some.injEq, Prod.mk.injEq]
      repeat' first | omega | refine mz_it (fun hh => ?_) (fun hh => ?_) | refine And.intro ?_ ?_
      rw [show (i : Int) + 1 = ((i + 1 : Nat) : Int) by omega]
      exact ih (i + 1) H1 _ (by omega) h2 (hsame (Or.inl hz)) h4
    · by_cases hd : al_dg (tb_T n o i) < tb_h n
      · obtain ⟨w1, w2, w3⟩ := q4.1 hd
        rw [w1] at q2
        apply mz_go hG 60 [8]
        simp only [mf_Ring_raisedInto, ca_Ring_raisedInto, dc_Ring_raisedInto_0, dc_Ring_raisedInto_1, dc_Ring_raisedInto_2, dc_Ring_raisedInto_3, dc_Ring_raisedInto_4, fl_Ring, sl_Ring, sg_Arrays_fill, cpn_ring_0, mx_cp_r, ha, hc, r0, f5, f6, f7, f8, f9, f10, f11, f12, f13, f14, k1, k2, k3, k4, k5, k6, k7, k8, k9, k10, Int.toNat_natCast, hn1, q1, q2, q3, mzr_iconst, mzr_bipush, mzr_sipush, mzr_lconst, mzr_iload, mzr_iload_n, mzr_aload, mzr_aload_n, mzr_lload, mzr_lload_n, mzr_istore, mzr_istore_n, mzr_astore, mzr_astore_n, mzr_lstore, mzr_lstore_n, mzr_iinc, mzr_iadd, mzr_isub, mzr_imul, mzr_iand, mzr_ior, mzr_ixor, mzr_ishl, mzr_ishr, mzr_iushr, mzr_idiv, mzr_irem, mzr_ineg, mzr_ladd, mzr_lsub, mzr_lmul, mzr_lrem, mzr_lcmp, mzr_i2l, mzr_l2i, mzr_i2b, mzr_dup, mzr_pop, mzr_dup2, mzr_ifCond_eq, mzr_if_icmp_eq, mzr_ifCond_ne, mzr_if_icmp_ne, mzr_ifCond_lt, mzr_if_icmp_lt, mzr_ifCond_ge, mzr_if_icmp_ge, mzr_ifCond_gt, mzr_if_icmp_gt, mzr_ifCond_le, mzr_if_icmp_le, mzr_goto, mzr_iaload, mzr_baload, mzr_laload, mzr_aaload, mzr_iastore, mzr_bastore, mzr_lastore, mzr_arraylength, mzr_getfield, mzr_putfield, mzr_getstatic, mzr_ldc, mzr_ldc_w, mzr_ldc2_w, mzr_ireturn, mzr_return_, mzr_copy, mzr_static, mzr_virtual, mzr_new, mz_tk, mz_dp, mz_ln, mz_sz, mz_af_v, mz_af_s, mz_wp_s, mz_w1, mz_g, mz_st, mz_k, mz_s2, mz_nx, mz_en, mx_to, mz_c1, ↓reduceIte, Nat.reduceAdd, Nat.reduceSub, Nat.reduceMul, Nat.reduceMod, Nat.reduceDiv, Nat.reduceEqDiff, Nat.reduceLeDiff, Nat.reduceLT, Int.reduceAdd, Int.reduceSub, Int.reduceNeg, Int.reduceMul, Int.reduceLE, Int.reduceLT, Int.reduceEq, Int.reduceToNat, Int.reduceNegSucc, Int.cast_ofNat_Int, Int32.reduceToInt, Int64.reduceToInt, Int.zero_add, Int.add_zero, Fin.isValue, Fin.val_zero, Fin.val_one, Fin.val_two, reduceCtorEq, or_false, false_or, or_true, true_or, or_self, and_true, true_and, and_self, not_true_eq_false, not_false_eq_true, implies_true, forall_const, List.mem_cons, List.not_mem_nil, false_implies, true_implies, imp_false, Nat.zero_add, Option.some.injEq, Prod.mk.injEq]
        repeat' first | omega | refine mz_it (fun hh => ?_) (fun hh => ?_) | refine And.intro ?_ ?_
        rw [show (i : Int) + 1 = ((i + 1 : Nat) : Int) by omega]
        refine ih (i + 1) _ _ (by omega) (h2.tr (mz_fr.w _ _ _ _ List.mem_cons_self)) (fun m hm => ?_) (fun m hm hm2 => ?_)
        · rw [mz_w_g, up_1]
          by_cases hmm : m = tb_I n o (al_p (tb_T n o i) (tb_x v))
          · rw [if_pos ⟨rfl, hmm⟩, hmm, w3, if_pos rfl, up_2 (fun i j a b c => tb_T_i hok a b c) _ _ hi w3.symm]; omega
          · rw [if_neg (fun q => hmm q.2), h3 m hm, if_neg (fun q => hmm (by rw [q, tb_I_T hok hm]))]; omega
        · rw [mz_w_g, if_neg (fun q => by omega), h4 m hm hm2]
      · rw [(q4.2 hd).1] at q2
        apply mz_go hG 60 [8]
        simp only [mf_Ring_raisedInto, ca_Ring_raisedInto, dc_Ring_raisedInto_0, dc_Ring_raisedInto_1, dc_Ring_raisedInto_2, dc_Ring_raisedInto_3, dc_Ring_raisedInto_4, fl_Ring, sl_Ring, sg_Arrays_fill, cpn_ring_0, mx_cp_r, ha, hc, r0, f5, f6, f7, f8, f9, f10, f11, f12, f13, f14, k1, k2, k3, k4, k5, k6, k7, k8, k9, k10, Int.toNat_natCast, hn1, q1, q2, q3, mzr_iconst, mzr_bipush, mzr_sipush, mzr_lconst, mzr_iload, mzr_iload_n, mzr_aload, mzr_aload_n, mzr_lload, mzr_lload_n, mzr_istore, mzr_istore_n, mzr_astore, mzr_astore_n, mzr_lstore, mzr_lstore_n, mzr_iinc, mzr_iadd, mzr_isub, mzr_imul, mzr_iand, mzr_ior, mzr_ixor, mzr_ishl, mzr_ishr, mzr_iushr, mzr_idiv, mzr_irem, mzr_ineg, mzr_ladd, mzr_lsub, mzr_lmul, mzr_lrem, mzr_lcmp, mzr_i2l, mzr_l2i, mzr_i2b, mzr_dup, mzr_pop, mzr_dup2, mzr_ifCond_eq, mzr_if_icmp_eq, mzr_ifCond_ne, mzr_if_icmp_ne, mzr_ifCond_lt, mzr_if_icmp_lt, mzr_ifCond_ge, mzr_if_icmp_ge, mzr_ifCond_gt, mzr_if_icmp_gt, mzr_ifCond_le, mzr_if_icmp_le, mzr_goto, mzr_iaload, mzr_baload, mzr_laload, mzr_aaload, mzr_iastore, mzr_bastore, mzr_lastore, mzr_arraylength, mzr_getfield, mzr_putfield, mzr_getstatic, mzr_ldc, mzr_ldc_w, mzr_ldc2_w, mzr_ireturn, mzr_return_, mzr_copy, mzr_static, mzr_virtual, mzr_new, mz_tk, mz_dp, mz_ln, mz_sz, mz_af_v, mz_af_s, mz_wp_s, mz_w1, mz_g, mz_st, mz_k, mz_s2, mz_nx, mz_en, mx_to, mz_c1, ↓reduceIte, Nat.reduceAdd, Nat.reduceSub, Nat.reduceMul, Nat.reduceMod, Nat.reduceDiv, Nat.reduceEqDiff, Nat.reduceLeDiff, Nat.reduceLT, Int.reduceAdd, Int.reduceSub, Int.reduceNeg, Int.reduceMul, Int.reduceLE, Int.reduceLT, Int.reduceEq, Int.reduceToNat, Int.reduceNegSucc, Int.cast_ofNat_Int, Int32.reduceToInt, Int64.reduceToInt, Int.zero_add, Int.add_zero, Fin.isValue, Fin.val_zero, Fin.val_one, Fin.val_two, reduceCtorEq, or_false, false_or, or_true, true_or, or_self, and_true, true_and, and_self, not_true_eq_false, not_false_eq_true, implies_true, forall_const, List.mem_cons, List.not_mem_nil, false_implies, true_implies, imp_false, Nat.zero_add, Option.some.injEq, Prod.mk.injEq]
        repeat' first | omega | refine mz_it (fun hh => ?_) (fun hh => ?_) | refine And.intro ?_ ?_
        rw [show (i : Int) + 1 = ((i + 1 : Nat) : Int) by omega]
        exact ih (i + 1) H1 _ (by omega) h2 (hsame (Or.inr hd)) h4
set_option maxRecDepth 100000 in
theorem ct_raisedInto {e : mz_E} (d : Nat) {r a c v : Nat} {p : Int} {n o : Nat} {H : mz_H} {P : mz_O → mz_H → Prop} (hG : mx_G e.1) (hR : rg_E e r) (hok : tb_ok n o) (hv : v < n)
    (ha : e.2.1 a = some (20, 126)) (hc : e.2.1 c = some (20, 126)) (hca : c ≠ a) (hcr : ∀ i, i ≤ 8 → r + i ≠ c) (hS : rg_S H r p n o)
    (hP : ∀ h, mz_fr H h [c] → (∀ m, m < 126 → h.2.1 c m = al_up (tb_N n) (tb_T n o) (tb_x v) (H.2.1 a) m) → P (.inl none) h) :
    mz_CA e (d + 1) j_Ring_raisedInto [.inr (.inl r), .inr (.inl a), .inl (v : Int), .inr (.inl c)] H P := by
  refine mz_CA_of mr_Ring_raisedInto ?_
  simp only [mf_Ring_raisedInto, mz_en, List.replicate, Nat.reduceSub, Nat.reduceAdd, Nat.reduceMul]
  apply mz_go hG 60 [8]
  simp only [mf_Ring_raisedInto, ca_Ring_raisedInto, dc_Ring_raisedInto_0, dc_Ring_raisedInto_1, dc_Ring_raisedInto_2, dc_Ring_raisedInto_3, dc_Ring_raisedInto_4, fl_Ring, sl_Ring, sg_Arrays_fill, cpn_ring_0, mx_cp_r, ha, hc, mzr_iconst, mzr_bipush, mzr_sipush, mzr_lconst, mzr_iload, mzr_iload_n, mzr_aload, mzr_aload_n, mzr_lload, mzr_lload_n, mzr_istore, mzr_istore_n, mzr_astore, mzr_astore_n, mzr_lstore, mzr_lstore_n, mzr_iinc, mzr_iadd, mzr_isub, mzr_imul, mzr_iand, mzr_ior, mzr_ixor, mzr_ishl, mzr_ishr, mzr_iushr, mzr_idiv, mzr_irem, mzr_ineg, mzr_ladd, mzr_lsub, mzr_lmul, mzr_lrem, mzr_lcmp, mzr_i2l, mzr_l2i, mzr_i2b, mzr_dup, mzr_pop, mzr_dup2, mzr_ifCond_eq, mzr_if_icmp_eq, mzr_ifCond_ne, mzr_if_icmp_ne, mzr_ifCond_lt, mzr_if_icmp_lt, mzr_ifCond_ge, mzr_if_icmp_ge, mzr_ifCond_gt, mzr_if_icmp_gt, mzr_ifCond_le, mzr_if_icmp_le, mzr_goto, mzr_iaload, mzr_baload, mzr_laload, mzr_aaload, mzr_iastore, mzr_bastore, mzr_lastore, mzr_arraylength, mzr_getfield, mzr_putfield, mzr_getstatic, mzr_ldc, mzr_ldc_w, mzr_ldc2_w, mzr_ireturn, mzr_return_, mzr_copy, mzr_static, mzr_virtual, mzr_new, mz_tk, mz_dp, mz_ln, mz_sz, mz_af_v, mz_af_s, mz_wp_s, mz_w1, mz_g, mz_st, mz_k, mz_s2, mz_nx, mz_en, mx_to, mz_c1, ↓reduceIte, Nat.reduceAdd, Nat.reduceSub, Nat.reduceMul, Nat.reduceMod, Nat.reduceDiv, Nat.reduceEqDiff, Nat.reduceLeDiff, Nat.reduceLT, Int.reduceAdd, Int.reduceSub, Int.reduceNeg, Int.reduceMul, Int.reduceLE, Int.reduceLT, Int.reduceEq, Int.reduceToNat, Int.reduceNegSucc, Int.cast_ofNat_Int, Int32.reduceToInt, Int64.reduceToInt, Int.zero_add, Int.add_zero, Fin.isValue, Fin.val_zero, Fin.val_one, Fin.val_two, reduceCtorEq, or_false, false_or, or_true, true_or, or_self, and_true, true_and, and_self, not_true_eq_false, not_false_eq_true, implies_true, forall_const, List.mem_cons, List.not_mem_nil, false_implies, true_implies, imp_false, Nat.zero_add, Option.some.injEq, Prod.mk.injEq]
  repeat' first | omega | refine mz_it (fun hh => ?_) (fun hh => ?_) | refine And.intro ?_ ?_
  refine ct_fill d hG hc (by omega) (fun H1 f1 hw => ?_)
  have hS1 := hS.fr f1 (fun i hi => by simp; exact hcr i hi)
  have ea : H1.2.1 a = H.2.1 a := f1.2.2 a (by simp; omega)
  have hN := tb_N_b n
  simp only [mf_Ring_raisedInto, ca_Ring_raisedInto, dc_Ring_raisedInto_0, dc_Ring_raisedInto_1, dc_Ring_raisedInto_2, dc_Ring_raisedInto_3, dc_Ring_raisedInto_4, fl_Ring, sl_Ring, sg_Arrays_fill, cpn_ring_0, mx_cp_r, ha, hc, mzr_iconst, mzr_bipush, mzr_sipush, mzr_lconst, mzr_iload, mzr_iload_n, mzr_aload, mzr_aload_n, mzr_lload, mzr_lload_n, mzr_istore, mzr_istore_n, mzr_astore, mzr_astore_n, mzr_lstore, mzr_lstore_n, mzr_iinc, mzr_iadd, mzr_isub, mzr_imul, mzr_iand, mzr_ior, mzr_ixor, mzr_ishl, mzr_ishr, mzr_iushr, mzr_idiv, mzr_irem, mzr_ineg, mzr_ladd, mzr_lsub, mzr_lmul, mzr_lrem, mzr_lcmp, mzr_i2l, mzr_l2i, mzr_i2b, mzr_dup, mzr_pop, mzr_dup2, mzr_ifCond_eq, mzr_if_icmp_eq, mzr_ifCond_ne, mzr_if_icmp_ne, mzr_ifCond_lt, mzr_if_icmp_lt, mzr_ifCond_ge, mzr_if_icmp_ge, mzr_ifCond_gt, mzr_if_icmp_gt, mzr_ifCond_le, mzr_if_icmp_le, mzr_goto, mzr_iaload, mzr_baload, mzr_laload, mzr_aaload, mzr_iastore, mzr_bastore, mzr_lastore, mzr_arraylength, mzr_getfield, mzr_putfield, mzr_getstatic, mzr_ldc, mzr_ldc_w, mzr_ldc2_w, mzr_ireturn, mzr_return_, mzr_copy, mzr_static, mzr_virtual, mzr_new, mz_tk, mz_dp, mz_ln, mz_sz, mz_af_v, mz_af_s, mz_wp_s, mz_w1, mz_g, mz_st, mz_k, mz_s2, mz_nx, mz_en, mx_to, mz_c1, ↓reduceIte, Nat.reduceAdd, Nat.reduceSub, Nat.reduceMul, Nat.reduceMod, Nat.reduceDiv, Nat.reduceEqDiff, Nat.reduceLeDiff, Nat.reduceLT, Int.reduceAdd, Int.reduceSub, Int.reduceNeg, Int.reduceMul, Int.reduceLE, Int.reduceLT, Int.reduceEq, Int.reduceToNat, Int.reduceNegSucc, Int.cast_ofNat_Int, Int32.reduceToInt, Int64.reduceToInt, Int.zero_add, Int.add_zero, Fin.isValue, Fin.val_zero, Fin.val_one, Fin.val_two, reduceCtorEq, or_false, false_or, or_true, true_or, or_self, and_true, true_and, and_self, not_true_eq_false, not_false_eq_true, implies_true, forall_const, List.mem_cons, List.not_mem_nil, false_implies, true_implies, imp_false, Nat.zero_add, Option.some.injEq, Prod.mk.injEq]
  repeat' first | omega | refine mz_it (fun hh => ?_) (fun hh => ?_) | refine And.intro ?_ ?_
  refine lp_raised (H := H1) hG hR hok hv ha hc hca hcr hS1 (fun h g1 g2 => hP h (f1.tr g1) (fun m hm => by rw [g2 m hm, ea])) (tb_N n) 0 H1 _ (by omega) (mz_fr.refl _ _) (fun m hm => ?_) (fun m hm hm2 => ?_)
  · rw [hw, if_pos (by omega)]; rfl
  · rw [hw, if_pos (by omega)]
