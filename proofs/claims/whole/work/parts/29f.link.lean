def tb_pd (n o m v : Nat) : Nat := tb_I n o (tb_s (tb_T n o m) v (tb_g (tb_T n o m) v - 1))
theorem tb_pd_i {n o m k v : Nat} (hok : tb_ok n o) (hm : m < tb_N n) (hk : k < tb_N n) (hv : v < n) (hg : tb_g (tb_T n o m) v ≠ 0) : tb_pd n o m v = k ↔ tb_T n o m = al_p (tb_T n o k) (tb_x v) := by
  obtain ⟨_, h1, h2⟩ := (tb_be_r hok hm hv).1 hg
  unfold tb_pd
  constructor
  · intro h
    rw [← h, h2]
  · intro h
    exact tb_T_i hok h1 hk (al_p_r (h2.trans h))
set_option maxRecDepth 100000 in
theorem lp_link2 {e : mz_E} {d : Nat} {r m : Nat} {p : Int} {n o : Nat} {H : mz_H} {P : mz_O → mz_H → Prop} (hG : mx_G e.1) (hR : rg_E e r) (hok : tb_ok n o) (hm : m < tb_N n) (hP0 : rg_P H r p n o (tb_N n)) (hd : al_dg (tb_T n o m) < tb_h n)
    (hP : ∀ h o3, mz_fr H h [r + 7, r + 8] → (∀ m' u, m' < tb_N n → u < n → h.2.1 (r + 7) (m' * 4 + u) = if m' < m + 1 then tb_ab n o m' u else -1) → (∀ m' u, m' < tb_N n → u < n → h.2.1 (r + 8) (m' * 4 + u) = if tb_g (tb_T n o m') u ≠ 0 ∧ tb_pd n o m' u < m + 1 then (tb_pd n o m' u : Int) else -1) →
      mz_V e (d + 1) mm_Ring_linkNeighbours 100 [some (.inr (.inl r)), some (.inl (m : Int)), some (.inl (n : Int)), o3] [] h P) :
    ∀ k v (H1 : mz_H) o3, v + k = n → mz_fr H H1 [r + 7, r + 8] → (∀ m' u, m' < tb_N n → u < n → H1.2.1 (r + 7) (m' * 4 + u) = if m' < m ∨ (m' = m ∧ u < v) then tb_ab n o m' u else -1) → (∀ m' u, m' < tb_N n → u < n → H1.2.1 (r + 8) (m' * 4 + u) = if tb_g (tb_T n o m') u ≠ 0 ∧ (tb_pd n o m' u < m ∨ (tb_pd n o m' u = m ∧ u < v)) then (tb_pd n o m' u : Int) else -1) →
      mz_V e (d + 1) mm_Ring_linkNeighbours 28 [some (.inr (.inl r)), some (.inl (m : Int)), some (.inl (v : Int)), o3] [] H1 P := by
  have hR' := hR
  have hN := tb_N_b n
  have hn4 := hok.2.1
  obtain ⟨r0, f5, f6, f7, f8, f9, f10, f11, f12, f13, f14, k1, k2, k3, k4, k5, k6, k7, k8, k9, k10⟩ := hR
  obtain ⟨⟨p0, p1, p2, p3, p4⟩, pd, pe, pc, pw, pp⟩ := hP0
  intro k
  induction k with
  | zero =>
    intro v H1 o3 h1 h2 h3 h4
    obtain rfl : v = n := by omega
    have z1 : H1.2.1 r 1 = v := by rw [h2.2.2 r (by simp), p1]
    apply mz_go hG 60 [28, 100]
    simp only [mf_Ring_linkNeighbours, ca_Ring_linkNeighbours, dc_Ring_linkNeighbours_0, dc_Ring_linkNeighbours_1, dc_Ring_linkNeighbours_2, dc_Ring_linkNeighbours_3, dc_Ring_linkNeighbours_4, dc_Ring_linkNeighbours_5, dc_Ring_linkNeighbours_6, dc_Ring_linkNeighbours_7, dc_Ring_linkNeighbours_8, fl_Ring, sl_Ring, sg_Arrays_fill, sg_Ring_placeOf, cpn_ring_0, mx_cp_r, r0, f5, f6, f7, f8, f9, f10, f11, f12, f13, f14, k1, k2, k3, k4, k5, k6, k7, k8, k9, k10, z1, mzr_iconst, mzr_bipush, mzr_sipush, mzr_lconst, mzr_iload, mzr_iload_n, mzr_aload, mzr_aload_n, mzr_lload, mzr_lload_n, mzr_istore, mzr_istore_n, mzr_astore, mzr_astore_n, mzr_lstore, mzr_lstore_n, mzr_iinc, mzr_iadd, mzr_isub, mzr_imul, mzr_iand, mzr_ior, mzr_ixor, mzr_ishl, mzr_ishr, mzr_iushr, mzr_idiv, mzr_irem, mzr_ineg, mzr_ladd, mzr_lsub, mzr_lmul, mzr_lrem, mzr_lcmp, mzr_i2l, mzr_l2i, mzr_i2b, mzr_dup, mzr_pop, mzr_dup2, mzr_ifCond_eq, mzr_if_icmp_eq, mzr_ifCond_ne, mzr_if_icmp_ne, mzr_ifCond_lt, mzr_if_icmp_lt, mzr_ifCond_ge, mzr_if_icmp_ge, mzr_ifCond_gt, mzr_if_icmp_gt, mzr_ifCond_le, mzr_if_icmp_le, mzr_goto, mzr_iaload, mzr_baload, mzr_laload, mzr_aaload, mzr_iastore, mzr_bastore, mzr_lastore, mzr_arraylength, mzr_getfield, mzr_putfield, mzr_getstatic, mzr_ldc, mzr_ldc_w, mzr_ldc2_w, mzr_ireturn, mzr_return_, mzr_copy, mzr_static, mzr_virtual, mzr_new, mz_tk, mz_dp, mz_ln, mz_sz, mz_af_v, mz_af_s, mz_wp_s, mz_w1, mz_g, mz_st, mz_k, mz_s2, mz_nx, mz_en, mx_to, mz_c1, ↓reduceIte, Nat.reduceAdd, Nat.reduceSub, Nat.reduceMul, Nat.reduceMod, Nat.reduceDiv, Nat.reduceEqDiff, Nat.reduceLeDiff, Nat.reduceLT, Int.reduceAdd, Int.reduceSub, Int.reduceNeg, Int.reduceMul, Int.reduceLE, Int.reduceLT, Int.reduceEq, Int.reduceToNat, Int.reduceNegSucc, Int.cast_ofNat_Int, Int32.reduceToInt, Int64.reduceToInt, Int.zero_add, Int.add_zero, Fin.isValue, Fin.val_zero, Fin.val_one, Fin.val_two, reduceCtorEq, or_false, false_or, or_true, true_or, or_self, and_true, true_and, and_self, not_true_eq_false, not_false_eq_true, implies_true, forall_const, List.mem_cons, List.not_mem_nil, false_implies, true_implies, imp_false, Nat.zero_add, Option.some.injEq, Prod.mk.injEq]
    repeat' first | omega | refine mz_it (fun hh => ?_) (fun hh => ?_) | refine And.intro ?_ ?_
    refine hP H1 o3 h2 (fun m' u hm' hu => ?_) (fun m' u hm' hu => ?_)
    · rw [h3 m' u hm' hu]
      by_cases hc : m' < m + 1
      · rw [if_pos (by omega), if_pos hc]
      · rw [if_neg (by omega), if_neg hc]
    · rw [h4 m' u hm' hu]
      by_cases hc : tb_g (tb_T v o m') u ≠ 0 ∧ tb_pd v o m' u < m + 1
      · rw [if_pos ⟨hc.1, by omega⟩, if_pos hc]
      · rw [if_neg (fun q => hc ⟨q.1, by omega⟩), if_neg hc]
  | succ k ih =>
    intro v H1 o3 h1 h2 h3 h4
    have hv : v < n := by omega
    have z1 : H1.2.1 r 1 = n := by rw [h2.2.2 r (by simp), p1]
    have z3 : H1.2.1 r 3 = tb_h n := by rw [h2.2.2 r (by simp), p3]
    have z5 : H1.2.1 (r + 1) m = al_dg (tb_T n o m) := by rw [h2.2.2 (r + 1) (by simp), pd m hm]
    have z6 : H1.2.1 (r + 4) m = tb_c n (tb_T n o m) := by rw [h2.2.2 (r + 4) (by simp), pc m hm]
    have z7 : H1.2.1 (r + 5) v = tb_w n v := by rw [h2.2.2 (r + 5) (by simp), pw v (by omega)]
    obtain ⟨w1, w2, w3⟩ := (tb_ab_r hok hm hv).1 hd
    have c0 : tb_c n (tb_x v) = tb_w n v := by
      have := tb_c_e n v 1 (by omega)
      rw [Nat.one_mul] at this
      exact this
    have c1 : (tb_c n (tb_T n o m) : Int) + (tb_w n v : Int) = (tb_c n (al_p (tb_T n o m) (tb_x v)) : Int) := by rw [tb_c_p, c0]; push_cast; rfl
    have hdd : al_dg (al_p (tb_T n o m) (tb_x v)) ≤ tb_h n := by rw [al_dg_p, tb_x_d]; omega
    have c2 := tb_c_b hok.1 hok.2.1 (tb_v_p (tb_T_b hok hm).2 (tb_x_v hv hn4)) hdd
    have c3 : H1.2.1 (r + 6) (tb_c n (al_p (tb_T n o m) (tb_x v))) = (tb_I n o (al_p (tb_T n o m) (tb_x v)) : Int) := by
      have := pp _ w2
      rw [w3] at this
      rw [h2.2.2 (r + 6) (by simp), this]
    generalize hhi : tb_I n o (al_p (tb_T n o m) (tb_x v)) = hi at *
    have i1 : ((m : Int) * 4 + (v : Int)).toNat = m * 4 + v := by omega
    have i2 : ((hi : Int) * 4 + (v : Int)).toNat = hi * 4 + v := by omega
    apply mz_go hG 60 [28, 100]
    simp only [mf_Ring_linkNeighbours, ca_Ring_linkNeighbours, dc_Ring_linkNeighbours_0, dc_Ring_linkNeighbours_1, dc_Ring_linkNeighbours_2, dc_Ring_linkNeighbours_3, dc_Ring_linkNeighbours_4, dc_Ring_linkNeighbours_5, dc_Ring_linkNeighbours_6, dc_Ring_linkNeighbours_7, dc_Ring_linkNeighbours_8, fl_Ring, sl_Ring, sg_Arrays_fill, sg_Ring_placeOf, cpn_ring_0, mx_cp_r, r0, f5, f6, f7, f8, f9, f10, f11, f12, f13, f14, k1, k2, k3, k4, k5, k6, k7, k8, k9, k10, z1, z3, z5, z6, z7, Int.toNat_natCast, c1, mzr_iconst, mzr_bipush, mzr_sipush, mzr_lconst, mzr_iload, mzr_iload_n, mzr_aload, mzr_aload_n, mzr_lload, mzr_lload_n, mzr_istore, mzr_istore_n, mzr_astore, mzr_astore_n, mzr_lstore, mzr_lstore_n, mzr_iinc, mzr_iadd, mzr_isub, mzr_imul, mzr_iand, mzr_ior, mzr_ixor, mzr_ishl, mzr_ishr, mzr_iushr, mzr_idiv, mzr_irem, mzr_ineg, mzr_ladd, mzr_lsub, mzr_lmul, mzr_lrem, mzr_lcmp, mzr_i2l, mzr_l2i, mzr_i2b, mzr_dup, mzr_pop, mzr_dup2, mzr_ifCond_eq, mzr_if_icmp_eq, mzr_ifCond_ne, mzr_if_icmp_ne, mzr_ifCond_lt, mzr_if_icmp_lt, mzr_ifCond_ge, mzr_if_icmp_ge, mzr_ifCond_gt, mzr_if_icmp_gt, mzr_ifCond_le, mzr_if_icmp_le, mzr_goto, mzr_iaload, mzr_baload, mzr_laload, mzr_aaload, mzr_iastore, mzr_bastore, mzr_lastore, mzr_arraylength, mzr_getfield, mzr_putfield, mzr_getstatic, mzr_ldc, mzr_ldc_w, mzr_ldc2_w, mzr_ireturn, mzr_return_, mzr_copy, mzr_static, mzr_virtual, mzr_new, mz_tk, mz_dp, mz_ln, mz_sz, mz_af_v, mz_af_s, mz_wp_s, mz_w1, mz_g, mz_st, mz_k, mz_s2, mz_nx, mz_en, mx_to, mz_c1, ↓reduceIte, Nat.reduceAdd, Nat.reduceSub, Nat.reduceMul, Nat.reduceMod, Nat.reduceDiv, Nat.reduceEqDiff, Nat.reduceLeDiff, Nat.reduceLT, Int.reduceAdd, Int.reduceSub, Int.reduceNeg, Int.reduceMul, Int.reduceLE, Int.reduceLT, Int.reduceEq, Int.reduceToNat, Int.reduceNegSucc, Int.cast_ofNat_Int, Int32.reduceToInt, Int64.reduceToInt, Int.zero_add, Int.add_zero, Fin.isValue, Fin.val_zero, Fin.val_one, Fin.val_two, reduceCtorEq, or_false, false_or, or_true, true_or, or_self, and_true, true_and, and_self, not_true_eq_false, not_false_eq_true, implies_true, forall_const, List.mem_cons, List.not_mem_nil, false_implies, true_implies, imp_false, Nat.zero_add, Option.some.injEq, Prod.mk.injEq]
    repeat' first | omega | refine mz_it (fun hh => ?_) (fun hh => ?_) | refine And.intro ?_ ?_
    refine ct_placeOf d hG hR' c2 ?_
    rw [c3]
    simp only [mf_Ring_linkNeighbours, ca_Ring_linkNeighbours, dc_Ring_linkNeighbours_0, dc_Ring_linkNeighbours_1, dc_Ring_linkNeighbours_2, dc_Ring_linkNeighbours_3, dc_Ring_linkNeighbours_4, dc_Ring_linkNeighbours_5, dc_Ring_linkNeighbours_6, dc_Ring_linkNeighbours_7, dc_Ring_linkNeighbours_8, fl_Ring, sl_Ring, sg_Arrays_fill, sg_Ring_placeOf, cpn_ring_0, mx_cp_r, r0, f5, f6, f7, f8, f9, f10, f11, f12, f13, f14, k1, k2, k3, k4, k5, k6, k7, k8, k9, k10, Int.toNat_natCast, i1, i2, mzr_iconst, mzr_bipush, mzr_sipush, mzr_lconst, mzr_iload, mzr_iload_n, mzr_aload, mzr_aload_n, mzr_lload, mzr_lload_n, mzr_istore, mzr_istore_n, mzr_astore, mzr_astore_n, mzr_lstore, mzr_lstore_n, mzr_iinc, mzr_iadd, mzr_isub, mzr_imul, mzr_iand, mzr_ior, mzr_ixor, mzr_ishl, mzr_ishr, mzr_iushr, mzr_idiv, mzr_irem, mzr_ineg, mzr_ladd, mzr_lsub, mzr_lmul, mzr_lrem, mzr_lcmp, mzr_i2l, mzr_l2i, mzr_i2b, mzr_dup, mzr_pop, mzr_dup2, mzr_ifCond_eq, mzr_if_icmp_eq, mzr_ifCond_ne, mzr_if_icmp_ne, mzr_ifCond_lt, mzr_if_icmp_lt, mzr_ifCond_ge, mzr_if_icmp_ge, mzr_ifCond_gt, mzr_if_icmp_gt, mzr_ifCond_le, mzr_if_icmp_le, mzr_goto, mzr_iaload, mzr_baload, mzr_laload, mzr_aaload, mzr_iastore, mzr_bastore, mzr_lastore, mzr_arraylength, mzr_getfield, mzr_putfield, mzr_getstatic, mzr_ldc, mzr_ldc_w, mzr_ldc2_w, mzr_ireturn, mzr_return_, mzr_copy, mzr_static, mzr_virtual, mzr_new, mz_tk, mz_dp, mz_ln, mz_sz, mz_af_v, mz_af_s, mz_wp_s, mz_w1, mz_g, mz_st, mz_k, mz_s2, mz_nx, mz_en, mx_to, mz_c1, ↓reduceIte, Nat.reduceAdd, Nat.reduceSub, Nat.reduceMul, Nat.reduceMod, Nat.reduceDiv, Nat.reduceEqDiff, Nat.reduceLeDiff, Nat.reduceLT, Int.reduceAdd, Int.reduceSub, Int.reduceNeg, Int.reduceMul, Int.reduceLE, Int.reduceLT, Int.reduceEq, Int.reduceToNat, Int.reduceNegSucc, Int.cast_ofNat_Int, Int32.reduceToInt, Int64.reduceToInt, Int.zero_add, Int.add_zero, Fin.isValue, Fin.val_zero, Fin.val_one, Fin.val_two, reduceCtorEq, or_false, false_or, or_true, true_or, or_self, and_true, true_and, and_self, not_true_eq_false, not_false_eq_true, implies_true, forall_const, List.mem_cons, List.not_mem_nil, false_implies, true_implies, imp_false, Nat.zero_add, Option.some.injEq, Prod.mk.injEq]
    repeat' first | omega | refine mz_it (fun hh => ?_) (fun hh => ?_) | refine And.intro ?_ ?_
    rw [show (v : Int) + 1 = ((v + 1 : Nat) : Int) by omega]
    refine ih (v + 1) _ _ (by omega) ((h2.tr (mz_fr.w _ _ _ _ (by simp))).tr (mz_fr.w _ _ _ _ (by simp))) (fun m' u hm' hu => ?_) (fun m' u hm' hu => ?_)
    · rw [mz_w_g, if_neg (by omega), mz_w_g]
      by_cases hc : m' = m ∧ u = v
      · rw [if_pos (by omega), if_pos (by omega), hc.1, hc.2, w1]
      · rw [if_neg (by omega), h3 m' u hm' hu]
        by_cases hc2 : m' < m ∨ (m' = m ∧ u < v)
        · rw [if_pos hc2, if_pos (by omega)]
        · rw [if_neg hc2, if_neg (by omega)]
    · rw [mz_w_g]
      by_cases hc : m' = hi ∧ u = v
      · obtain ⟨rfl, rfl⟩ := hc
        have hg : tb_g (tb_T n o m') u ≠ 0 := by rw [w3, tb_g_x _ _ (by omega)]; omega
        have hpd := (tb_pd_i hok hm' hm hu hg).mpr w3
        rw [if_pos (by omega), if_pos ⟨hg, by omega⟩, hpd]
      · rw [if_neg (by omega), mz_w_g, if_neg (by omega), h4 m' u hm' hu]
        by_cases hg : tb_g (tb_T n o m') u ≠ 0
        · have hpd : ¬ (tb_pd n o m' u = m ∧ u = v) := by
            rintro ⟨q1, rfl⟩
            have q2 := (tb_pd_i hok hm' hm hu hg).mp q1
            exact hc ⟨tb_T_i hok hm' w2 (by rw [q2, w3]), rfl⟩
          by_cases hc2 : tb_pd n o m' u < m ∨ (tb_pd n o m' u = m ∧ u < v)
          · rw [if_pos ⟨hg, hc2⟩, if_pos ⟨hg, by omega⟩]
          · rw [if_neg (fun q => hc2 q.2), if_neg (fun q => by omega)]
        · rw [if_neg (fun q => hg q.1), if_neg (fun q => hg q.1)]
set_option maxRecDepth 100000 in
theorem lp_link1 {e : mz_E} {d : Nat} {r : Nat} {p : Int} {n o : Nat} {H : mz_H} {P : mz_O → mz_H → Prop} (hG : mx_G e.1) (hR : rg_E e r) (hok : tb_ok n o) (hP0 : rg_P H r p n o (tb_N n))
    (hP : ∀ h, mz_fr H h [r + 7, r + 8] → (∀ m' u, m' < tb_N n → u < n → h.2.1 (r + 7) (m' * 4 + u) = tb_ab n o m' u) → (∀ m' u, m' < tb_N n → u < n → h.2.1 (r + 8) (m' * 4 + u) = tb_be n o m' u) → P (.inl none) h) :
    ∀ k m (H1 : mz_H) o2 o3, m + k = tb_N n → mz_fr H H1 [r + 7, r + 8] → (∀ m' u, m' < tb_N n → u < n → H1.2.1 (r + 7) (m' * 4 + u) = if m' < m then tb_ab n o m' u else -1) → (∀ m' u, m' < tb_N n → u < n → H1.2.1 (r + 8) (m' * 4 + u) = if tb_g (tb_T n o m') u ≠ 0 ∧ tb_pd n o m' u < m then (tb_pd n o m' u : Int) else -1) →
      mz_V e (d + 1) mm_Ring_linkNeighbours 18 [some (.inr (.inl r)), some (.inl (m : Int)), o2, o3] [] H1 P := by
  have hR' := hR
  have hN := tb_N_b n
  have hn4 := hok.2.1
  obtain ⟨r0, f5, f6, f7, f8, f9, f10, f11, f12, f13, f14, k1, k2, k3, k4, k5, k6, k7, k8, k9, k10⟩ := hR
  obtain ⟨⟨p0, p1, p2, p3, p4⟩, pd, pe, pc, pw, pp⟩ := id hP0
  intro k
  induction k with
  | zero =>
    intro m H1 o2 o3 h1 h2 h3 h4
    obtain rfl : m = tb_N n := by omega
    have z4 : H1.2.1 r 4 = tb_N n := by rw [h2.2.2 r (by simp), p4]
    apply mz_go hG 60 [18]
    simp only [mf_Ring_linkNeighbours, ca_Ring_linkNeighbours, dc_Ring_linkNeighbours_0, dc_Ring_linkNeighbours_1, dc_Ring_linkNeighbours_2, dc_Ring_linkNeighbours_3, dc_Ring_linkNeighbours_4, dc_Ring_linkNeighbours_5, dc_Ring_linkNeighbours_6, dc_Ring_linkNeighbours_7, dc_Ring_linkNeighbours_8, fl_Ring, sl_Ring, sg_Arrays_fill, sg_Ring_placeOf, cpn_ring_0, mx_cp_r, r0, f5, f6, f7, f8, f9, f10, f11, f12, f13, f14, k1, k2, k3, k4, k5, k6, k7, k8, k9, k10, z4, mzr_iconst, mzr_bipush, mzr_sipush, mzr_lconst, mzr_iload, mzr_iload_n, mzr_aload, mzr_aload_n, mzr_lload, mzr_lload_n, mzr_istore, mzr_istore_n, mzr_astore, mzr_astore_n, mzr_lstore, mzr_lstore_n, mzr_iinc, mzr_iadd, mzr_isub, mzr_imul, mzr_iand, mzr_ior, mzr_ixor, mzr_ishl, mzr_ishr, mzr_iushr, mzr_idiv, mzr_irem, mzr_ineg, mzr_ladd, mzr_lsub, mzr_lmul, mzr_lrem, mzr_lcmp, mzr_i2l, mzr_l2i, mzr_i2b, mzr_dup, mzr_pop, mzr_dup2, mzr_ifCond_eq, mzr_if_icmp_eq, mzr_ifCond_ne, mzr_if_icmp_ne, mzr_ifCond_lt, mzr_if_icmp_lt, mzr_ifCond_ge, mzr_if_icmp_ge, mzr_ifCond_gt, mzr_if_icmp_gt, mzr_ifCond_le, mzr_if_icmp_le, mzr_goto, mzr_iaload, mzr_baload, mzr_laload, mzr_aaload, mzr_iastore, mzr_bastore, mzr_lastore, mzr_arraylength, mzr_getfield, mzr_putfield, mzr_getstatic, mzr_ldc, mzr_ldc_w, mzr_ldc2_w, mzr_ireturn, mzr_return_, mzr_copy, mzr_static, mzr_virtual, mzr_new, mz_tk, mz_dp, mz_ln, mz_sz, mz_af_v, mz_af_s, mz_wp_s, mz_w1, mz_g, mz_st, mz_k, mz_s2, mz_nx, mz_en, mx_to, mz_c1, ↓reduceIte, Nat.reduceAdd, Nat.reduceSub, Nat.reduceMul, Nat.reduceMod, Nat.reduceDiv, Nat.reduceEqDiff, Nat.reduceLeDiff, Nat.reduceLT, Int.reduceAdd, Int.reduceSub, Int.reduceNeg, Int.reduceMul, Int.reduceLE, Int.reduceLT, Int.reduceEq, Int.reduceToNat, Int.reduceNegSucc, Int.cast_ofNat_Int, Int32.reduceToInt, Int64.reduceToInt, Int.zero_add, Int.add_zero, Fin.isValue, Fin.val_zero, Fin.val_one, Fin.val_two, reduceCtorEq, or_false, false_or, or_true, true_or, or_self, and_true, true_and, and_self, not_true_eq_false, not_false_eq_true, implies_true, forall_const, List.mem_cons, List.not_mem_nil, false_implies, true_implies, imp_false, Nat.zero_add, Option.some.injEq, Prod.mk.injEq]
    repeat' first | omega | refine mz_it (fun hh => ?_) (fun hh => ?_) | refine And.intro ?_ ?_
    refine hP H1 h2 (fun m' u hm' hu => by rw [h3 m' u hm' hu, if_pos hm']) (fun m' u hm' hu => ?_)
    rw [h4 m' u hm' hu]
    by_cases hg : tb_g (tb_T n o m') u = 0
    · rw [if_neg (fun q => q.1 hg), ((tb_be_r hok hm' hu).2 hg).1]
    · obtain ⟨q1, q2, _⟩ := (tb_be_r hok hm' hu).1 hg
      rw [q1, if_pos ⟨hg, q2⟩]
      rfl
  | succ k ih =>
    intro m H1 o2 o3 h1 h2 h3 h4
    have hm : m < tb_N n := by omega
    have z4 : H1.2.1 r 4 = tb_N n := by rw [h2.2.2 r (by simp), p4]
    have z1 : H1.2.1 r 1 = n := by rw [h2.2.2 r (by simp), p1]
    have z3 : H1.2.1 r 3 = tb_h n := by rw [h2.2.2 r (by simp), p3]
    have z5 : H1.2.1 (r + 1) m = al_dg (tb_T n o m) := by rw [h2.2.2 (r + 1) (by simp), pd m hm]
    have hn1 := hok.1
    by_cases hd : al_dg (tb_T n o m) < tb_h n
    · apply mz_go hG 60 [18, 28]
      simp only [mf_Ring_linkNeighbours, ca_Ring_linkNeighbours, dc_Ring_linkNeighbours_0, dc_Ring_linkNeighbours_1, dc_Ring_linkNeighbours_2, dc_Ring_linkNeighbours_3, dc_Ring_linkNeighbours_4, dc_Ring_linkNeighbours_5, dc_Ring_linkNeighbours_6, dc_Ring_linkNeighbours_7, dc_Ring_linkNeighbours_8, fl_Ring, sl_Ring, sg_Arrays_fill, sg_Ring_placeOf, cpn_ring_0, mx_cp_r, r0, f5, f6, f7, f8, f9, f10, f11, f12, f13, f14, k1, k2, k3, k4, k5, k6, k7, k8, k9, k10, z4, mzr_iconst, mzr_bipush, mzr_sipush, mzr_lconst, mzr_iload, mzr_iload_n, mzr_aload, mzr_aload_n, mzr_lload, mzr_lload_n, mzr_istore, mzr_istore_n, mzr_astore, mzr_astore_n, mzr_lstore, mzr_lstore_n, mzr_iinc, mzr_iadd, mzr_isub, mzr_imul, mzr_iand, mzr_ior, mzr_ixor, mzr_ishl, mzr_ishr, mzr_iushr, mzr_idiv, mzr_irem, mzr_ineg, mzr_ladd, mzr_lsub, mzr_lmul, mzr_lrem, mzr_lcmp, mzr_i2l, mzr_l2i, mzr_i2b, mzr_dup, mzr_pop, mzr_dup2, mzr_ifCond_eq, mzr_if_icmp_eq, mzr_ifCond_ne, mzr_if_icmp_ne, mzr_ifCond_lt, mzr_if_icmp_lt, mzr_ifCond_ge, mzr_if_icmp_ge, mzr_ifCond_gt, mzr_if_icmp_gt, mzr_ifCond_le, mzr_if_icmp_le, mzr_goto, mzr_iaload, mzr_baload, mzr_laload, mzr_aaload, mzr_iastore, mzr_bastore, mzr_lastore, mzr_arraylength, mzr_getfield, mzr_putfield, mzr_getstatic, mzr_ldc, mzr_ldc_w, mzr_ldc2_w, mzr_ireturn, mzr_return_, mzr_copy, mzr_static, mzr_virtual, mzr_new, mz_tk, mz_dp, mz_ln, mz_sz, mz_af_v, mz_af_s, mz_wp_s, mz_w1, mz_g, mz_st, mz_k, mz_s2, mz_nx, mz_en, mx_to, mz_c1, ↓reduceIte, Nat.reduceAdd, Nat.reduceSub, Nat.reduceMul, Nat.reduceMod, Nat.reduceDiv, Nat.reduceEqDiff, Nat.reduceLeDiff, Nat.reduceLT, Int.reduceAdd, Int.reduceSub, Int.reduceNeg, Int.reduceMul, Int.reduceLE, Int.reduceLT, Int.reduceEq, Int.reduceToNat, Int.reduceNegSucc, Int.cast_ofNat_Int, Int32.reduceToInt, Int64.reduceToInt, Int.zero_add, Int.add_zero, Fin.isValue, Fin.val_zero, Fin.val_one, Fin.val_two, reduceCtorEq, or_false, false_or, or_true, true_or, or_self, and_true, true_and, and_self, not_true_eq_false, not_false_eq_true, implies_true, forall_const, List.mem_cons, List.not_mem_nil, false_implies, true_implies, imp_false, Nat.zero_add, Option.some.injEq, Prod.mk.injEq]
      repeat' first | omega | refine mz_it (fun hh => ?_) (fun hh => ?_) | refine And.intro ?_ ?_
      refine lp_link2 (H := H) hG hR' hok hm hP0 hd (fun h o3 f1 f2 f3 => ?_) n 0 H1 _ (by omega) h2 (fun m' u hm' hu => ?_) (fun m' u hm' hu => ?_)
      · apply mz_go hG 60 [18]
        simp only [mf_Ring_linkNeighbours, ca_Ring_linkNeighbours, dc_Ring_linkNeighbours_0, dc_Ring_linkNeighbours_1, dc_Ring_linkNeighbours_2, dc_Ring_linkNeighbours_3, dc_Ring_linkNeighbours_4, dc_Ring_linkNeighbours_5, dc_Ring_linkNeighbours_6, dc_Ring_linkNeighbours_7, dc_Ring_linkNeighbours_8, fl_Ring, sl_Ring, sg_Arrays_fill, sg_Ring_placeOf, cpn_ring_0, mx_cp_r, mzr_iconst, mzr_bipush, mzr_sipush, mzr_lconst, mzr_iload, mzr_iload_n, mzr_aload, mzr_aload_n, mzr_lload, mzr_lload_n, mzr_istore, mzr_istore_n, mzr_astore, mzr_astore_n, mzr_lstore, mzr_lstore_n, mzr_iinc, mzr_iadd, mzr_isub, mzr_imul, mzr_iand, mzr_ior, mzr_ixor, mzr_ishl, mzr_ishr, mzr_iushr, mzr_idiv, mzr_irem, mzr_ineg, mzr_ladd, mzr_lsub, mzr_lmul, mzr_lrem, mzr_lcmp, mzr_i2l, mzr_l2i, mzr_i2b, mzr_dup, mzr_pop, mzr_dup2, mzr_ifCond_eq, mzr_if_icmp_eq, mzr_ifCond_ne, mzr_if_icmp_ne, mzr_ifCond_lt, mzr_if_icmp_lt, mzr_ifCond_ge, mzr_if_icmp_ge, mzr_ifCond_gt, mzr_if_icmp_gt, mzr_ifCond_le, mzr_if_icmp_le, mzr_goto, mzr_iaload, mzr_baload, mzr_laload, mzr_aaload, mzr_iastore, mzr_bastore, mzr_lastore, mzr_arraylength, mzr_getfield, mzr_putfield, mzr_getstatic, mzr_ldc, mzr_ldc_w, mzr_ldc2_w, mzr_ireturn, mzr_return_, mzr_copy, mzr_static, mzr_virtual, mzr_new, mz_tk, mz_dp, mz_ln, mz_sz, mz_af_v, mz_af_s, mz_wp_s, mz_w1, mz_g, mz_st, mz_k, mz_s2, mz_nx, mz_en, mx_to, mz_c1, ↓reduceIte, Nat.reduceAdd, Nat.reduceSub, Nat.reduceMul, Nat.reduceMod, Nat.reduceDiv, Nat.reduceEqDiff, Nat.reduceLeDiff, Nat.reduceLT, Int.reduceAdd, Int.reduceSub, Int.reduceNeg, Int.reduceMul, Int.reduceLE, Int.reduceLT, Int.reduceEq, Int.reduceToNat, Int.reduceNegSucc, Int.cast_ofNat_Int, Int32.reduceToInt, Int64.reduceToInt, Int.zero_add, Int.add_zero, Fin.isValue, Fin.val_zero, Fin.val_one, Fin.val_two, reduceCtorEq, or_false, false_or, or_true, true_or, or_self, and_true, true_and, and_self, not_true_eq_false, not_false_eq_true, implies_true, forall_const, List.mem_cons, List.not_mem_nil, false_implies, true_implies, imp_false, Nat.zero_add, Option.some.injEq, Prod.mk.injEq]
        repeat' first | omega | refine mz_it (fun hh => ?_) (fun hh => ?_) | refine And.intro ?_ ?_
        rw [show (m : Int) + 1 = ((m + 1 : Nat) : Int) by omega]
        exact ih (m + 1) h _ _ (by omega) f1 f2 f3
      · rw [h3 m' u hm' hu]
        by_cases hc : m' < m
        · rw [if_pos hc, if_pos (Or.inl hc)]
        · rw [if_neg hc, if_neg (by omega)]
      · rw [h4 m' u hm' hu]
        by_cases hc : tb_g (tb_T n o m') u ≠ 0 ∧ tb_pd n o m' u < m
        · rw [if_pos hc, if_pos ⟨hc.1, Or.inl hc.2⟩]
        · rw [if_neg hc, if_neg (fun q => hc ⟨q.1, by omega⟩)]
    · apply mz_go hG 60 [18]
      simp only [mf_Ring_linkNeighbours, ca_Ring_linkNeighbours, dc_Ring_linkNeighbours_0, dc_Ring_linkNeighbours_1, dc_Ring_linkNeighbours_2, dc_Ring_linkNeighbours_3, dc_Ring_linkNeighbours_4, dc_Ring_linkNeighbours_5, dc_Ring_linkNeighbours_6, dc_Ring_linkNeighbours_7, dc_Ring_linkNeighbours_8, fl_Ring, sl_Ring, sg_Arrays_fill, sg_Ring_placeOf, cpn_ring_0, mx_cp_r, r0, f5, f6, f7, f8, f9, f10, f11, f12, f13, f14, k1, k2, k3, k4, k5, k6, k7, k8, k9, k10, z4, z1, z3, z5, Int.toNat_natCast, mzr_iconst, mzr_bipush, mzr_sipush, mzr_lconst, mzr_iload, mzr_iload_n, mzr_aload, mzr_aload_n, mzr_lload, mzr_lload_n, mzr_istore, mzr_istore_n, mzr_astore, mzr_astore_n, mzr_lstore, mzr_lstore_n, mzr_iinc, mzr_iadd, mzr_isub, mzr_imul, mzr_iand, mzr_ior, mzr_ixor, mzr_ishl, mzr_ishr, mzr_iushr, mzr_idiv, mzr_irem, mzr_ineg, mzr_ladd, mzr_lsub, mzr_lmul, mzr_lrem, mzr_lcmp, mzr_i2l, mzr_l2i, mzr_i2b, mzr_dup, mzr_pop, mzr_dup2, mzr_ifCond_eq, mzr_if_icmp_eq, mzr_ifCond_ne, mzr_if_icmp_ne, mzr_ifCond_lt, mzr_if_icmp_lt, mzr_ifCond_ge, mzr_if_icmp_ge, mzr_ifCond_gt, mzr_if_icmp_gt, mzr_ifCond_le, mzr_if_icmp_le, mzr_goto, mzr_iaload, mzr_baload, mzr_laload, mzr_aaload, mzr_iastore, mzr_bastore, mzr_lastore, mzr_arraylength, mzr_getfield, mzr_putfield, mzr_getstatic, mzr_ldc, mzr_ldc_w, mzr_ldc2_w, mzr_ireturn, mzr_return_, mzr_copy, mzr_static, mzr_virtual, mzr_new, mz_tk, mz_dp, mz_ln, mz_sz, mz_af_v, mz_af_s, mz_wp_s, mz_w1, mz_g, mz_st, mz_k, mz_s2, mz_nx, mz_en, mx_to, mz_c1, ↓reduceIte, Nat.reduceAdd, Nat.reduceSub, Nat.reduceMul, Nat.reduceMod, Nat.reduceDiv, Nat.reduceEqDiff, Nat.reduceLeDiff, Nat.reduceLT, Int.reduceAdd, Int.reduceSub, Int.reduceNeg, Int.reduceMul, Int.reduceLE, Int.reduceLT, Int.reduceEq, Int.reduceToNat, Int.reduceNegSucc, Int.cast_ofNat_Int, Int32.reduceToInt, Int64.reduceToInt, Int.zero_add, Int.add_zero, Fin.isValue, Fin.val_zero, Fin.val_one, Fin.val_two, reduceCtorEq, or_false, false_or, or_true, true_or, or_self, and_true, true_and, and_self, not_true_eq_false, not_false_eq_true, implies_true, forall_const, List.mem_cons, List.not_mem_nil, false_implies, true_implies, imp_false, Nat.zero_add, Option.some.injEq, Prod.mk.injEq]
      repeat' first | omega | refine mz_it (fun hh => ?_) (fun hh => ?_) | refine And.intro ?_ ?_
      rw [show (m : Int) + 1 = ((m + 1 : Nat) : Int) by omega]
      refine ih (m + 1) H1 _ _ (by omega) h2 (fun m' u hm' hu => ?_) (fun m' u hm' hu => ?_)
      · rw [h3 m' u hm' hu]
        by_cases hc : m' = m
        · subst hc
          rw [if_neg (by omega), if_pos (by omega), ((tb_ab_r hok hm' hu).2 hd).1]
        · by_cases hc2 : m' < m
          · rw [if_pos hc2, if_pos (by omega)]
          · rw [if_neg hc2, if_neg (by omega)]
      · rw [h4 m' u hm' hu]
        by_cases hg : tb_g (tb_T n o m') u ≠ 0
        · have hne : tb_pd n o m' u ≠ m := fun q => ((tb_ab_r hok hm hu).2 hd).2 m' hm' ((tb_pd_i hok hm' hm hu hg).mp q).symm
          by_cases hc : tb_pd n o m' u < m
          · rw [if_pos ⟨hg, hc⟩, if_pos ⟨hg, by omega⟩]
          · rw [if_neg (fun q => hc q.2), if_neg (fun q => by omega)]
        · rw [if_neg (fun q => hg q.1), if_neg (fun q => hg q.1)]
set_option maxRecDepth 100000 in
theorem ct_linkNeighbours {e : mz_E} (d : Nat) {r : Nat} {p : Int} {n o : Nat} {H : mz_H} {P : mz_O → mz_H → Prop} (hG : mx_G e.1) (hR : rg_E e r) (hok : tb_ok n o) (hP0 : rg_P H r p n o (tb_N n))
    (hP : ∀ h, mz_fr H h [r + 7, r + 8] → (∀ m' u, m' < tb_N n → u < n → h.2.1 (r + 7) (m' * 4 + u) = tb_ab n o m' u) → (∀ m' u, m' < tb_N n → u < n → h.2.1 (r + 8) (m' * 4 + u) = tb_be n o m' u) → P (.inl none) h) :
    mz_CA e (d + 1) j_Ring_linkNeighbours [.inr (.inl r)] H P := by
  have hR' := hR
  have hN := tb_N_b n
  have hn4 := hok.2.1
  obtain ⟨r0, f5, f6, f7, f8, f9, f10, f11, f12, f13, f14, k1, k2, k3, k4, k5, k6, k7, k8, k9, k10⟩ := hR
  refine mz_CA_of mr_Ring_linkNeighbours ?_
  simp only [mf_Ring_linkNeighbours, mz_en, List.replicate, Nat.reduceSub, Nat.reduceAdd, Nat.reduceMul]
  apply mz_go hG 60 [18]
  simp only [mf_Ring_linkNeighbours, ca_Ring_linkNeighbours, dc_Ring_linkNeighbours_0, dc_Ring_linkNeighbours_1, dc_Ring_linkNeighbours_2, dc_Ring_linkNeighbours_3, dc_Ring_linkNeighbours_4, dc_Ring_linkNeighbours_5, dc_Ring_linkNeighbours_6, dc_Ring_linkNeighbours_7, dc_Ring_linkNeighbours_8, fl_Ring, sl_Ring, sg_Arrays_fill, sg_Ring_placeOf, cpn_ring_0, mx_cp_r, r0, f5, f6, f7, f8, f9, f10, f11, f12, f13, f14, k1, k2, k3, k4, k5, k6, k7, k8, k9, k10, mzr_iconst, mzr_bipush, mzr_sipush, mzr_lconst, mzr_iload, mzr_iload_n, mzr_aload, mzr_aload_n, mzr_lload, mzr_lload_n, mzr_istore, mzr_istore_n, mzr_astore, mzr_astore_n, mzr_lstore, mzr_lstore_n, mzr_iinc, mzr_iadd, mzr_isub, mzr_imul, mzr_iand, mzr_ior, mzr_ixor, mzr_ishl, mzr_ishr, mzr_iushr, mzr_idiv, mzr_irem, mzr_ineg, mzr_ladd, mzr_lsub, mzr_lmul, mzr_lrem, mzr_lcmp, mzr_i2l, mzr_l2i, mzr_i2b, mzr_dup, mzr_pop, mzr_dup2, mzr_ifCond_eq, mzr_if_icmp_eq, mzr_ifCond_ne, mzr_if_icmp_ne, mzr_ifCond_lt, mzr_if_icmp_lt, mzr_ifCond_ge, mzr_if_icmp_ge, mzr_ifCond_gt, mzr_if_icmp_gt, mzr_ifCond_le, mzr_if_icmp_le, mzr_goto, mzr_iaload, mzr_baload, mzr_laload, mzr_aaload, mzr_iastore, mzr_bastore, mzr_lastore, mzr_arraylength, mzr_getfield, mzr_putfield, mzr_getstatic, mzr_ldc, mzr_ldc_w, mzr_ldc2_w, mzr_ireturn, mzr_return_, mzr_copy, mzr_static, mzr_virtual, mzr_new, mz_tk, mz_dp, mz_ln, mz_sz, mz_af_v, mz_af_s, mz_wp_s, mz_w1, mz_g, mz_st, mz_k, mz_s2, mz_nx, mz_en, mx_to, mz_c1, ↓reduceIte, Nat.reduceAdd, Nat.reduceSub, Nat.reduceMul, Nat.reduceMod, Nat.reduceDiv, Nat.reduceEqDiff, Nat.reduceLeDiff, Nat.reduceLT, Int.reduceAdd, Int.reduceSub, Int.reduceNeg, Int.reduceMul, Int.reduceLE, Int.reduceLT, Int.reduceEq, Int.reduceToNat, Int.reduceNegSucc, Int.cast_ofNat_Int, Int32.reduceToInt, Int64.reduceToInt, Int.zero_add, Int.add_zero, Fin.isValue, Fin.val_zero, Fin.val_one, Fin.val_two, reduceCtorEq, or_false, false_or, or_true, true_or, or_self, and_true, true_and, and_self, not_true_eq_false, not_false_eq_true, implies_true, forall_const, List.mem_cons, List.not_mem_nil, false_implies, true_implies, imp_false, Nat.zero_add, Option.some.injEq, Prod.mk.injEq]
  repeat' first | omega | refine mz_it (fun hh => ?_) (fun hh => ?_) | refine And.intro ?_ ?_
  refine ct_fill d hG k7 (by omega) (fun H1 f1 hv1 => ?_)
  simp only [mf_Ring_linkNeighbours, ca_Ring_linkNeighbours, dc_Ring_linkNeighbours_0, dc_Ring_linkNeighbours_1, dc_Ring_linkNeighbours_2, dc_Ring_linkNeighbours_3, dc_Ring_linkNeighbours_4, dc_Ring_linkNeighbours_5, dc_Ring_linkNeighbours_6, dc_Ring_linkNeighbours_7, dc_Ring_linkNeighbours_8, fl_Ring, sl_Ring, sg_Arrays_fill, sg_Ring_placeOf, cpn_ring_0, mx_cp_r, r0, f5, f6, f7, f8, f9, f10, f11, f12, f13, f14, k1, k2, k3, k4, k5, k6, k7, k8, k9, k10, mzr_iconst, mzr_bipush, mzr_sipush, mzr_lconst, mzr_iload, mzr_iload_n, mzr_aload, mzr_aload_n, mzr_lload, mzr_lload_n, mzr_istore, mzr_istore_n, mzr_astore, mzr_astore_n, mzr_lstore, mzr_lstore_n, mzr_iinc, mzr_iadd, mzr_isub, mzr_imul, mzr_iand, mzr_ior, mzr_ixor, mzr_ishl, mzr_ishr, mzr_iushr, mzr_idiv, mzr_irem, mzr_ineg, mzr_ladd, mzr_lsub, mzr_lmul, mzr_lrem, mzr_lcmp, mzr_i2l, mzr_l2i, mzr_i2b, mzr_dup, mzr_pop, mzr_dup2, mzr_ifCond_eq, mzr_if_icmp_eq, mzr_ifCond_ne, mzr_if_icmp_ne, mzr_ifCond_lt, mzr_if_icmp_lt, mzr_ifCond_ge, mzr_if_icmp_ge, mzr_ifCond_gt, mzr_if_icmp_gt, mzr_ifCond_le, mzr_if_icmp_le, mzr_goto, mzr_iaload, mzr_baload, mzr_laload, mzr_aaload, mzr_iastore, mzr_bastore, mzr_lastore, mzr_arraylength, mzr_getfield, mzr_putfield, mzr_getstatic, mzr_ldc, mzr_ldc_w, mzr_ldc2_w, mzr_ireturn, mzr_return_, mzr_copy, mzr_static, mzr_virtual, mzr_new, mz_tk, mz_dp, mz_ln, mz_sz, mz_af_v, mz_af_s, mz_wp_s, mz_w1, mz_g, mz_st, mz_k, mz_s2, mz_nx, mz_en, mx_to, mz_c1, ↓reduceIte, Nat.reduceAdd, Nat.reduceSub, Nat.reduceMul, Nat.reduceMod, Nat.reduceDiv, Nat.reduceEqDiff, Nat.reduceLeDiff, Nat.reduceLT, Int.reduceAdd, Int.reduceSub, Int.reduceNeg, Int.reduceMul, Int.reduceLE, Int.reduceLT, Int.reduceEq, Int.reduceToNat, Int.reduceNegSucc, Int.cast_ofNat_Int, Int32.reduceToInt, Int64.reduceToInt, Int.zero_add, Int.add_zero, Fin.isValue, Fin.val_zero, Fin.val_one, Fin.val_two, reduceCtorEq, or_false, false_or, or_true, true_or, or_self, and_true, true_and, and_self, not_true_eq_false, not_false_eq_true, implies_true, forall_const, List.mem_cons, List.not_mem_nil, false_implies, true_implies, imp_false, Nat.zero_add, Option.some.injEq, Prod.mk.injEq]
  repeat' first | omega | refine mz_it (fun hh => ?_) (fun hh => ?_) | refine And.intro ?_ ?_
  refine ct_fill d hG k8 (by omega) (fun H2 f2 hv2 => ?_)
  simp only [mf_Ring_linkNeighbours, ca_Ring_linkNeighbours, dc_Ring_linkNeighbours_0, dc_Ring_linkNeighbours_1, dc_Ring_linkNeighbours_2, dc_Ring_linkNeighbours_3, dc_Ring_linkNeighbours_4, dc_Ring_linkNeighbours_5, dc_Ring_linkNeighbours_6, dc_Ring_linkNeighbours_7, dc_Ring_linkNeighbours_8, fl_Ring, sl_Ring, sg_Arrays_fill, sg_Ring_placeOf, cpn_ring_0, mx_cp_r, r0, f5, f6, f7, f8, f9, f10, f11, f12, f13, f14, k1, k2, k3, k4, k5, k6, k7, k8, k9, k10, mzr_iconst, mzr_bipush, mzr_sipush, mzr_lconst, mzr_iload, mzr_iload_n, mzr_aload, mzr_aload_n, mzr_lload, mzr_lload_n, mzr_istore, mzr_istore_n, mzr_astore, mzr_astore_n, mzr_lstore, mzr_lstore_n, mzr_iinc, mzr_iadd, mzr_isub, mzr_imul, mzr_iand, mzr_ior, mzr_ixor, mzr_ishl, mzr_ishr, mzr_iushr, mzr_idiv, mzr_irem, mzr_ineg, mzr_ladd, mzr_lsub, mzr_lmul, mzr_lrem, mzr_lcmp, mzr_i2l, mzr_l2i, mzr_i2b, mzr_dup, mzr_pop, mzr_dup2, mzr_ifCond_eq, mzr_if_icmp_eq, mzr_ifCond_ne, mzr_if_icmp_ne, mzr_ifCond_lt, mzr_if_icmp_lt, mzr_ifCond_ge, mzr_if_icmp_ge, mzr_ifCond_gt, mzr_if_icmp_gt, mzr_ifCond_le, mzr_if_icmp_le, mzr_goto, mzr_iaload, mzr_baload, mzr_laload, mzr_aaload, mzr_iastore, mzr_bastore, mzr_lastore, mzr_arraylength, mzr_getfield, mzr_putfield, mzr_getstatic, mzr_ldc, mzr_ldc_w, mzr_ldc2_w, mzr_ireturn, mzr_return_, mzr_copy, mzr_static, mzr_virtual, mzr_new, mz_tk, mz_dp, mz_ln, mz_sz, mz_af_v, mz_af_s, mz_wp_s, mz_w1, mz_g, mz_st, mz_k, mz_s2, mz_nx, mz_en, mx_to, mz_c1, ↓reduceIte, Nat.reduceAdd, Nat.reduceSub, Nat.reduceMul, Nat.reduceMod, Nat.reduceDiv, Nat.reduceEqDiff, Nat.reduceLeDiff, Nat.reduceLT, Int.reduceAdd, Int.reduceSub, Int.reduceNeg, Int.reduceMul, Int.reduceLE, Int.reduceLT, Int.reduceEq, Int.reduceToNat, Int.reduceNegSucc, Int.cast_ofNat_Int, Int32.reduceToInt, Int64.reduceToInt, Int.zero_add, Int.add_zero, Fin.isValue, Fin.val_zero, Fin.val_one, Fin.val_two, reduceCtorEq, or_false, false_or, or_true, true_or, or_self, and_true, true_and, and_self, not_true_eq_false, not_false_eq_true, implies_true, forall_const, List.mem_cons, List.not_mem_nil, false_implies, true_implies, imp_false, Nat.zero_add, Option.some.injEq, Prod.mk.injEq]
  repeat' first | omega | refine mz_it (fun hh => ?_) (fun hh => ?_) | refine And.intro ?_ ?_
  have f3 : mz_fr H H2 [r + 7, r + 8] := (f1.mono (by simp)).tr (f2.mono (by simp))
  refine lp_link1 (H := H2) hG hR' hok (hP0.fr f3 (fun i hi => by simp; omega)) (fun h g1 g2 g3 => hP h (f3.tr g1) g2 g3) (tb_N n) 0 H2 _ _ (by omega) (mz_fr.refl _ _) (fun m' u hm' hu => ?_) (fun m' u hm' hu => ?_)
  · rw [f2.2.2 (r + 7) (by simp), hv1, if_pos (by omega), if_neg (by omega)]
  · rw [hv2, if_pos (by omega), if_neg (fun q => by omega)]
