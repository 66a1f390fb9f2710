theorem zp_z_i (p n o gm : Nat) (gen : Nat → Nat → Int) (t : Nat) : zp_z p n o gm gen t = true ↔ ∀ g, g < gm → ev n o (gen g) (zp_c p n t) % (p : Int) = 0 := by
  unfold zp_z
  rw [List.all_eq_true]
  constructor
  · intro h g hg
    have := h g (List.mem_range.mpr hg)
    simpa using this
  · intro h g hg
    have := h g (List.mem_range.mp hg)
    simpa using this
theorem zp_l_b (p n o gm : Nat) (gen : Nat → Nat → Int) (T : Nat) : (zp_l p n o gm gen T).length ≤ T := by
  unfold zp_l
  have := List.length_filter_le (zp_z p n o gm gen) (List.range T)
  rwa [List.length_range] at this
set_option maxRecDepth 100000 in
theorem ct_searchLine {e : mz_E} (d : Nat) {z r q B gm : Nat} {n o : Nat} {gen : Nat → Nat → Int} {H : mz_H} {P : mz_O → mz_H → Prop} (hG : mx_G e.1) (hE : zf_E e z) (hR : rg_E e r) (hok : tb_ok n o) (hp2 : 2 ≤ q ∧ q < 32768) (hS : rg_S H r q n o) (hrz : r + 10 < z) (hg5 : H.2.1 z 5 = gm) (hg8 : gm ≤ 8) (hBq : B * q + q ≤ 20000)
    (hst : ∀ g, g < gm → sg_P q n o (zp_c q (n - 1) B) (n - 1) (H.2.1 (z + 4 + ((n - 1) * 8 + g))) (gen g)) (hpt : ∀ u, u < n - 1 → H.2.1 (z + 2) u = zp_c q (n - 1) B u) (hk : zk_S H z q n (zp_l q n o gm gen (B * q)))
    (hP : ∀ h, mz_fr H h (z :: (z + 1) :: (z + 2) :: bl (z + 37) 9) → (∀ j, j ≠ 1 → h.2.1 z j = H.2.1 z j) → (∀ u, u < n - 1 → h.2.1 (z + 2) u = H.2.1 (z + 2) u) → zk_S h z q n (zp_l q n o gm gen (B * q + q)) → P (.inl none) h) :
    mz_CA e (d + 2) j_ZeroFinder_searchLine [.inr (.inl z), .inr (.inl r), .inl ((n - 1 : Nat) : Int)] H P := by
  have hE' := hE
  have hR' := hR
  have hn1 := hok.1
  have hn4 := hok.2.1
  have hh30 := tb_h_b n
  have r0' := hR.1
  obtain ⟨⟨z0, zk, zp, zs, zl, zt⟩, ⟨k1, k2, k3, k36, k45⟩, zst, zln⟩ := hE
  generalize hSg : (fun g => H.2.1 (z + 4 + ((n - 1) * 8 + g))) = Sg
  have hSge : ∀ g, H.2.1 (z + 4 + ((n - 1) * 8 + g)) = Sg g := fun g => by rw [← hSg]
  have lp2 : ∀ (m k : Nat) (h : mz_H), k + m = q → mz_fr H h (z :: (z + 1) :: (z + 2) :: bl (z + 37) 9) → (∀ j, j ≠ 1 → h.2.1 z j = H.2.1 z j) → (∀ u, u < n - 1 → h.2.1 (z + 2) u = H.2.1 (z + 2) u) →
      (∀ g, g < gm → h.2.1 (z + 45) g = sp_top (fun x => Sg g (tb_I n o (tb_s (0, 0, 0, 0) (n - 1) x))) (tb_h n + 1) ∧ ∀ x, x ≤ tb_h n → h.2.1 (z + 37 + g) x = Sg g (tb_I n o (tb_s (0, 0, 0, 0) (n - 1) x))) → zk_S h z q n (zp_l q n o gm gen (B * q + k)) →
      mz_V e (d + 2) mm_ZeroFinder_searchLine 46 [some (.inr (.inl z)), some (.inr (.inl r)), some (.inl ((n - 1 : Nat) : Int)), some (.inl (k : Int))] [] h P := by
    intro m
    induction m with
    | zero =>
      intro k h h1 h2 h3 h4 h5 h6
      obtain rfl : k = q := by omega
      have hS1 := hS.fr h2 (fun i hi => by simp only [List.mem_cons, bl_m]; omega)
      have zp0 := hS1.1
      have fin := hP h h2 h3 h4 h6
      apply mz_go hG 60 [46]
      simp only [mf_ZeroFinder_searchLine, ca_ZeroFinder_searchLine, dc_ZeroFinder_searchLine_0, dc_ZeroFinder_searchLine_1, dc_ZeroFinder_searchLine_2, dc_ZeroFinder_searchLine_3, dc_ZeroFinder_searchLine_4, dc_ZeroFinder_searchLine_5, dc_ZeroFinder_searchLine_6, fl_ZeroFinder, sl_ZeroFinder, sg_Ring_lineInto, sg_ZeroFinder_isZeroOfLines, sg_ZeroFinder_keepPoint, z0, r0', zp0, mzr_iconst, mzr_bipush, mzr_sipush, mzr_lconst, mzr_iload, mzr_iload_n, mzr_aload, mzr_aload_n, mzr_lload, mzr_lload_n, mzr_istore, mzr_istore_n, mzr_astore, mzr_astore_n, mzr_lstore, mzr_lstore_n, mzr_iinc, mzr_iadd, mzr_isub, mzr_imul, mzr_iand, mzr_ior, mzr_ixor, mzr_ishl, mzr_ishr, mzr_iushr, mzr_idiv, mzr_irem, mzr_ineg, mzr_ladd, mzr_lsub, mzr_lmul, mzr_lrem, mzr_lcmp, mzr_i2l, mzr_l2i, mzr_i2b, mzr_dup, mzr_pop, mzr_dup2, mzr_ifCond_eq, mzr_if_icmp_eq, mzr_ifCond_ne, mzr_if_icmp_ne, mzr_ifCond_lt, mzr_if_icmp_lt, mzr_ifCond_ge, mzr_if_icmp_ge, mzr_ifCond_gt, mzr_if_icmp_gt, mzr_ifCond_le, mzr_if_icmp_le, mzr_goto, mzr_iaload, mzr_baload, mzr_laload, mzr_aaload, mzr_iastore, mzr_bastore, mzr_lastore, mzr_arraylength, mzr_getfield, mzr_putfield, mzr_getstatic, mzr_ldc, mzr_ldc_w, mzr_ldc2_w, mzr_ireturn, mzr_return_, mzr_copy, mzr_static, mzr_virtual, mzr_new, mz_tk, mz_dp, mz_ln, mz_sz, mz_af_v, mz_af_s, mz_wp_s, mz_w1, mz_g, mz_st, mz_k, mz_s2, mz_nx, mz_en, mx_to, mz_c1, ↓reduceIte, Nat.reduceAdd, Nat.reduceSub, Nat.reduceMul, Nat.reduceMod, Nat.reduceDiv, Nat.reduceEqDiff, Nat.reduceLeDiff, Nat.reduceLT, Int.reduceAdd, Int.reduceSub, Int.reduceNeg, Int.reduceMul, Int.reduceLE, Int.reduceLT, Int.reduceEq, Int.reduceToNat, Int.reduceNegSucc, Int.cast_ofNat_Int, Int32.reduceToInt, Int64.reduceToInt, Int.zero_add, Int.add_zero, Fin.isValue, Fin.val_zero, Fin.val_one, Fin.val_two, reduceCtorEq, or_false, false_or, or_true, true_or, or_self, and_true, true_and, and_self, not_true_eq_false, not_false_eq_true, implies_true, forall_const, List.mem_cons, List.not_mem_nil, false_implies, true_implies, imp_false, Nat.zero_add, Option.some.injEq, Prod.mk.injEq]
      repeat' first | omega | refine mz_it (fun hh => ?_) (fun hh => ?_) | refine And.intro ?_ ?_
      all_goals exact fin
    | succ m ih =>
      intro k h h1 h2 h3 h4 h5 h6
      have hS1 := hS.fr h2 (fun i hi => by simp only [List.mem_cons, bl_m]; omega)
      have zp0 := hS1.1
      have hlb := zp_l_b q n o gm gen (B * q + k)
      have hzs := zp_l_s q n o gm gen (B * q + k)
      have hxk : ∀ u, u ≤ n - 1 → zp_c q n (B * q + k) u = if u = n - 1 then (k : Int) else zp_c q (n - 1) B u := fun u hu => by
        have := zc_s (p := q) (v := n - 1) (B := B) (k := k) (u := u) (by omega) hu
        rwa [show n - 1 + 1 = n by omega] at this
      have hzero : ∀ g, g < gm → (ev_h q (h.2.1 (z + 37 + g)) (k : Int) (sp_top (fun x => Sg g (tb_I n o (tb_s (0, 0, 0, 0) (n - 1) x))) (tb_h n + 1) + 1).toNat 0 = 0 ↔ ev n o (gen g) (zp_c q n (B * q + k)) % (q : Int) = 0) := by
        intro g hg
        have hsg := hst g hg
        rw [hSge g] at hsg
        have := sg_z (p := q) (by omega) hok (l := h.2.1 (z + 37 + g)) (x := zp_c q n (B * q + k)) hsg (h5 g hg).2 (fun u hu => by rw [hxk u (by omega), if_neg (by omega)])
        rw [hxk (n - 1) (Nat.le_refl _), if_pos rfl] at this
        exact this
      have hln : ∀ g, g < gm → ∀ x : Nat, (x : Int) ≤ sp_top (fun x => Sg g (tb_I n o (tb_s (0, 0, 0, 0) (n - 1) x))) (tb_h n + 1) → 0 ≤ h.2.1 (z + 37 + g) x ∧ h.2.1 (z + 37 + g) x < (q : Int) := by
        intro g hg x hx
        have htr := sp_top_r (fun x => Sg g (tb_I n o (tb_s (0, 0, 0, 0) (n - 1) x))) (tb_h n + 1)
        rw [(h5 g hg).2 x (by omega)]
        have hsg := (hst g hg).1
        rw [hSge g] at hsg
        have hse := tb_s_e (e := x) (show n - 1 < n by omega) hn4
        have hI := (tb_T_I hok hse.1 (by omega)).1
        exact (hsg _ (by have := tb_N_b n; omega)).1 hI
      apply mz_go hG 60 [46]
      simp only [mf_ZeroFinder_searchLine, ca_ZeroFinder_searchLine, dc_ZeroFinder_searchLine_0, dc_ZeroFinder_searchLine_1, dc_ZeroFinder_searchLine_2, dc_ZeroFinder_searchLine_3, dc_ZeroFinder_searchLine_4, dc_ZeroFinder_searchLine_5, dc_ZeroFinder_searchLine_6, fl_ZeroFinder, sl_ZeroFinder, sg_Ring_lineInto, sg_ZeroFinder_isZeroOfLines, sg_ZeroFinder_keepPoint, z0, r0', zp0, mzr_iconst, mzr_bipush, mzr_sipush, mzr_lconst, mzr_iload, mzr_iload_n, mzr_aload, mzr_aload_n, mzr_lload, mzr_lload_n, mzr_istore, mzr_istore_n, mzr_astore, mzr_astore_n, mzr_lstore, mzr_lstore_n, mzr_iinc, mzr_iadd, mzr_isub, mzr_imul, mzr_iand, mzr_ior, mzr_ixor, mzr_ishl, mzr_ishr, mzr_iushr, mzr_idiv, mzr_irem, mzr_ineg, mzr_ladd, mzr_lsub, mzr_lmul, mzr_lrem, mzr_lcmp, mzr_i2l, mzr_l2i, mzr_i2b, mzr_dup, mzr_pop, mzr_dup2, mzr_ifCond_eq, mzr_if_icmp_eq, mzr_ifCond_ne, mzr_if_icmp_ne, mzr_ifCond_lt, mzr_if_icmp_lt, mzr_ifCond_ge, mzr_if_icmp_ge, mzr_ifCond_gt, mzr_if_icmp_gt, mzr_ifCond_le, mzr_if_icmp_le, mzr_goto, mzr_iaload, mzr_baload, mzr_laload, mzr_aaload, mzr_iastore, mzr_bastore, mzr_lastore, mzr_arraylength, mzr_getfield, mzr_putfield, mzr_getstatic, mzr_ldc, mzr_ldc_w, mzr_ldc2_w, mzr_ireturn, mzr_return_, mzr_copy, mzr_static, mzr_virtual, mzr_new, mz_tk, mz_dp, mz_ln, mz_sz, mz_af_v, mz_af_s, mz_wp_s, mz_w1, mz_g, mz_st, mz_k, mz_s2, mz_nx, mz_en, mx_to, mz_c1, ↓reduceIte, Nat.reduceAdd, Nat.reduceSub, Nat.reduceMul, Nat.reduceMod, Nat.reduceDiv, Nat.reduceEqDiff, Nat.reduceLeDiff, Nat.reduceLT, Int.reduceAdd, Int.reduceSub, Int.reduceNeg, Int.reduceMul, Int.reduceLE, Int.reduceLT, Int.reduceEq, Int.reduceToNat, Int.reduceNegSucc, Int.cast_ofNat_Int, Int32.reduceToInt, Int64.reduceToInt, Int.zero_add, Int.add_zero, Fin.isValue, Fin.val_zero, Fin.val_one, Fin.val_two, reduceCtorEq, or_false, false_or, or_true, true_or, or_self, and_true, true_and, and_self, not_true_eq_false, not_false_eq_true, implies_true, forall_const, List.mem_cons, List.not_mem_nil, false_implies, true_implies, imp_false, Nat.zero_add, Option.some.injEq, Prod.mk.injEq]
      repeat' first | omega | refine mz_it (fun hh => ?_) (fun hh => ?_) | refine And.intro ?_ ?_
      refine ct_isZero (d + 1) (tp := fun g => sp_top (fun x => Sg g (tb_I n o (tb_s (0, 0, 0, 0) (n - 1) x))) (tb_h n + 1)) hG hE' (by omega) (by omega) (by rw [h3 5 (by omega), hg5]) hg8 (fun g hg => ⟨(h5 g hg).1, by have := sp_top_r (fun x => Sg g (tb_I n o (tb_s (0, 0, 0, 0) (n - 1) x))) (tb_h n + 1); omega⟩) hln (fun ha => ?_) (fun ha => ?_)
      · have hz : zp_z q n o gm gen (B * q + k) = true := (zp_z_i _ _ _ _ _ _).mpr (fun g hg => (hzero g hg).mp (ha g hg))
        rw [if_pos hz] at hzs
        have i1 : ((n - 1 : Nat) : Int).toNat = n - 1 := Int.toNat_natCast _
        simp only [mf_ZeroFinder_searchLine, ca_ZeroFinder_searchLine, dc_ZeroFinder_searchLine_0, dc_ZeroFinder_searchLine_1, dc_ZeroFinder_searchLine_2, dc_ZeroFinder_searchLine_3, dc_ZeroFinder_searchLine_4, dc_ZeroFinder_searchLine_5, dc_ZeroFinder_searchLine_6, fl_ZeroFinder, sl_ZeroFinder, sg_Ring_lineInto, sg_ZeroFinder_isZeroOfLines, sg_ZeroFinder_keepPoint, z0, zp, k2, i1, mzr_iconst, mzr_bipush, mzr_sipush, mzr_lconst, mzr_iload, mzr_iload_n, mzr_aload, mzr_aload_n, mzr_lload, mzr_lload_n, mzr_istore, mzr_istore_n, mzr_astore, mzr_astore_n, mzr_lstore, mzr_lstore_n, mzr_iinc, mzr_iadd, mzr_isub, mzr_imul, mzr_iand, mzr_ior, mzr_ixor, mzr_ishl, mzr_ishr, mzr_iushr, mzr_idiv, mzr_irem, mzr_ineg, mzr_ladd, mzr_lsub, mzr_lmul, mzr_lrem, mzr_lcmp, mzr_i2l, mzr_l2i, mzr_i2b, mzr_dup, mzr_pop, mzr_dup2, mzr_ifCond_eq, mzr_if_icmp_eq, mzr_ifCond_ne, mzr_if_icmp_ne, mzr_ifCond_lt, mzr_if_icmp_lt, mzr_ifCond_ge, mzr_if_icmp_ge, mzr_ifCond_gt, mzr_if_icmp_gt, mzr_ifCond_le, mzr_if_icmp_le, mzr_goto, mzr_iaload, mzr_baload, mzr_laload, mzr_aaload, mzr_iastore, mzr_bastore, mzr_lastore, mzr_arraylength, mzr_getfield, mzr_putfield, mzr_getstatic, mzr_ldc, mzr_ldc_w, mzr_ldc2_w, mzr_ireturn, mzr_return_, mzr_copy, mzr_static, mzr_virtual, mzr_new, mz_tk, mz_dp, mz_ln, mz_sz, mz_af_v, mz_af_s, mz_wp_s, mz_w1, mz_g, mz_st, mz_k, mz_s2, mz_nx, mz_en, mx_to, mz_c1, ↓reduceIte, Nat.reduceAdd, Nat.reduceSub, Nat.reduceMul, Nat.reduceMod, Nat.reduceDiv, Nat.reduceEqDiff, Nat.reduceLeDiff, Nat.reduceLT, Int.reduceAdd, Int.reduceSub, Int.reduceNeg, Int.reduceMul, Int.reduceLE, Int.reduceLT, Int.reduceEq, Int.reduceToNat, Int.reduceNegSucc, Int.cast_ofNat_Int, Int32.reduceToInt, Int64.reduceToInt, Int.zero_add, Int.add_zero, Fin.isValue, Fin.val_zero, Fin.val_one, Fin.val_two, reduceCtorEq, or_false, false_or, or_true, true_or, or_self, and_true, true_and, and_self, not_true_eq_false, not_false_eq_true, implies_true, forall_const, List.mem_cons, List.not_mem_nil, false_implies, true_implies, imp_false, Nat.zero_add, Option.some.injEq, Prod.mk.injEq]
        repeat' first | omega | refine mz_it (fun hh => ?_) (fun hh => ?_) | refine And.intro ?_ ?_
        have f1 : mz_fr h (mz_w h (z + 2) (n - 1) (k : Int)) [z + 2] := mz_fr.w _ _ _ _ (by simp)
        refine ct_keepPoint (d + 1) (p := q) (t := B * q + k) (l := zp_l q n o gm gen (B * q + k)) hG hE' hn4 ⟨?_, fun j hj hj2 v hv => ?_⟩ (by omega) (fun u hu => ?_) (fun h' f2 g1 g2 => ?_)
        · rw [mz_w_g, if_neg (by omega), h6.1]
        · rw [mz_w_g, if_neg (by omega), h6.2 j hj hj2 v hv]
        · rw [hxk u (by omega), mz_w_g]
          by_cases hun : u = n - 1
          · rw [if_pos ⟨rfl, hun⟩, if_pos hun]
          · rw [if_neg (fun q => hun q.2), if_neg hun, h4 u (by omega), hpt u (by omega)]
        · rw [← hzs] at g2
          have e2 : ∀ c, c ≠ z → c ≠ z + 1 → h'.2.1 c = (mz_w h (z + 2) (n - 1) (k : Int)).2.1 c := fun c a b => f2.2.2 c (by simp; exact ⟨a, b⟩)
          have hx := ih (k + 1) h' (by omega) ((h2.tr (f1.mono (by simp))).tr (f2.mono (by simp))) (fun j hj => by rw [g1 j hj, mz_w_g, if_neg (by omega), h3 j hj]) (fun u hu => by rw [e2 _ (by omega) (by omega), mz_w_g, if_neg (by omega), h4 u hu]) (fun g hg => ⟨by rw [e2 _ (by omega) (by omega), mz_w_g, if_neg (by omega)]; exact (h5 g hg).1, fun x hx => by rw [e2 _ (by omega) (by omega), mz_w_g, if_neg (by omega)]; exact (h5 g hg).2 x hx⟩) (by rw [show B * q + (k + 1) = B * q + k + 1 by omega]; exact g2)
          simp only [mf_ZeroFinder_searchLine, ca_ZeroFinder_searchLine, dc_ZeroFinder_searchLine_0, dc_ZeroFinder_searchLine_1, dc_ZeroFinder_searchLine_2, dc_ZeroFinder_searchLine_3, dc_ZeroFinder_searchLine_4, dc_ZeroFinder_searchLine_5, dc_ZeroFinder_searchLine_6, fl_ZeroFinder, sl_ZeroFinder, sg_Ring_lineInto, sg_ZeroFinder_isZeroOfLines, sg_ZeroFinder_keepPoint, z0, mzr_iconst, mzr_bipush, mzr_sipush, mzr_lconst, mzr_iload, mzr_iload_n, mzr_aload, mzr_aload_n, mzr_lload, mzr_lload_n, mzr_istore, mzr_istore_n, mzr_astore, mzr_astore_n, mzr_lstore, mzr_lstore_n, mzr_iinc, mzr_iadd, mzr_isub, mzr_imul, mzr_iand, mzr_ior, mzr_ixor, mzr_ishl, mzr_ishr, mzr_iushr, mzr_idiv, mzr_irem, mzr_ineg, mzr_ladd, mzr_lsub, mzr_lmul, mzr_lrem, mzr_lcmp, mzr_i2l, mzr_l2i, mzr_i2b, mzr_dup, mzr_pop, mzr_dup2, mzr_ifCond_eq, mzr_if_icmp_eq, mzr_ifCond_ne, mzr_if_icmp_ne, mzr_ifCond_lt, mzr_if_icmp_lt, mzr_ifCond_ge, mzr_if_icmp_ge, mzr_ifCond_gt, mzr_if_icmp_gt, mzr_ifCond_le, mzr_if_icmp_le, mzr_goto, mzr_iaload, mzr_baload, mzr_laload, mzr_aaload, mzr_iastore, mzr_bastore, mzr_lastore, mzr_arraylength, mzr_getfield, mzr_putfield, mzr_getstatic, mzr_ldc, mzr_ldc_w, mzr_ldc2_w, mzr_ireturn, mzr_return_, mzr_copy, mzr_static, mzr_virtual, mzr_new, mz_tk, mz_dp, mz_ln, mz_sz, mz_af_v, mz_af_s, mz_wp_s, mz_w1, mz_g, mz_st, mz_k, mz_s2, mz_nx, mz_en, mx_to, mz_c1, ↓reduceIte, Nat.reduceAdd, Nat.reduceSub, Nat.reduceMul, Nat.reduceMod, Nat.reduceDiv, Nat.reduceEqDiff, Nat.reduceLeDiff, Nat.reduceLT, Int.reduceAdd, Int.reduceSub, Int.reduceNeg, Int.reduceMul, Int.reduceLE, Int.reduceLT, Int.reduceEq, Int.reduceToNat, Int.reduceNegSucc, Int.cast_ofNat_Int, Int32.reduceToInt, Int64.reduceToInt, Int.zero_add, Int.add_zero, Fin.isValue, Fin.val_zero, Fin.val_one, Fin.val_two, reduceCtorEq, or_false, false_or, or_true, true_or, or_self, and_true, true_and, and_self, not_true_eq_false, not_false_eq_true, implies_true, forall_const, List.mem_cons, List.not_mem_nil, false_implies, true_implies, imp_false, Nat.zero_add, Option.some.injEq, Prod.mk.injEq]
          repeat' first | omega | refine mz_it (fun hh => ?_) (fun hh => ?_) | refine And.intro ?_ ?_
          all_goals exact hx
      · have hz : ¬ zp_z q n o gm gen (B * q + k) = true := fun hz => by
          obtain ⟨g, hg, hne⟩ := ha
          exact hne ((hzero g hg).mpr ((zp_z_i _ _ _ _ _ _).mp hz g hg))
        rw [if_neg hz, List.append_nil] at hzs
        have hx := ih (k + 1) h (by omega) h2 h3 h4 h5 (by rw [show B * q + (k + 1) = B * q + k + 1 by omega, hzs]; exact h6)
        simp only [mf_ZeroFinder_searchLine, ca_ZeroFinder_searchLine, dc_ZeroFinder_searchLine_0, dc_ZeroFinder_searchLine_1, dc_ZeroFinder_searchLine_2, dc_ZeroFinder_searchLine_3, dc_ZeroFinder_searchLine_4, dc_ZeroFinder_searchLine_5, dc_ZeroFinder_searchLine_6, fl_ZeroFinder, sl_ZeroFinder, sg_Ring_lineInto, sg_ZeroFinder_isZeroOfLines, sg_ZeroFinder_keepPoint, z0, mzr_iconst, mzr_bipush, mzr_sipush, mzr_lconst, mzr_iload, mzr_iload_n, mzr_aload, mzr_aload_n, mzr_lload, mzr_lload_n, mzr_istore, mzr_istore_n, mzr_astore, mzr_astore_n, mzr_lstore, mzr_lstore_n, mzr_iinc, mzr_iadd, mzr_isub, mzr_imul, mzr_iand, mzr_ior, mzr_ixor, mzr_ishl, mzr_ishr, mzr_iushr, mzr_idiv, mzr_irem, mzr_ineg, mzr_ladd, mzr_lsub, mzr_lmul, mzr_lrem, mzr_lcmp, mzr_i2l, mzr_l2i, mzr_i2b, mzr_dup, mzr_pop, mzr_dup2, mzr_ifCond_eq, mzr_if_icmp_eq, mzr_ifCond_ne, mzr_if_icmp_ne, mzr_ifCond_lt, mzr_if_icmp_lt, mzr_ifCond_ge, mzr_if_icmp_ge, mzr_ifCond_gt, mzr_if_icmp_gt, mzr_ifCond_le, mzr_if_icmp_le, mzr_goto, mzr_iaload, mzr_baload, mzr_laload, mzr_aaload, mzr_iastore, mzr_bastore, mzr_lastore, mzr_arraylength, mzr_getfield, mzr_putfield, mzr_getstatic, mzr_ldc, mzr_ldc_w, mzr_ldc2_w, mzr_ireturn, mzr_return_, mzr_copy, mzr_static, mzr_virtual, mzr_new, mz_tk, mz_dp, mz_ln, mz_sz, mz_af_v, mz_af_s, mz_wp_s, mz_w1, mz_g, mz_st, mz_k, mz_s2, mz_nx, mz_en, mx_to, mz_c1, ↓reduceIte, Nat.reduceAdd, Nat.reduceSub, Nat.reduceMul, Nat.reduceMod, Nat.reduceDiv, Nat.reduceEqDiff, Nat.reduceLeDiff, Nat.reduceLT, Int.reduceAdd, Int.reduceSub, Int.reduceNeg, Int.reduceMul, Int.reduceLE, Int.reduceLT, Int.reduceEq, Int.reduceToNat, Int.reduceNegSucc, Int.cast_ofNat_Int, Int32.reduceToInt, Int64.reduceToInt, Int.zero_add, Int.add_zero, Fin.isValue, Fin.val_zero, Fin.val_one, Fin.val_two, reduceCtorEq, or_false, false_or, or_true, true_or, or_self, and_true, true_and, and_self, not_true_eq_false, not_false_eq_true, implies_true, forall_const, List.mem_cons, List.not_mem_nil, false_implies, true_implies, imp_false, Nat.zero_add, Option.some.injEq, Prod.mk.injEq]
        repeat' first | omega | refine mz_it (fun hh => ?_) (fun hh => ?_) | refine And.intro ?_ ?_
        all_goals exact hx
  have lp1 : ∀ (m g : Nat) (h : mz_H), g + m = gm → mz_fr H h (bl (z + 37) 9) → (∀ g', g' < g → h.2.1 (z + 45) g' = sp_top (fun x => Sg g' (tb_I n o (tb_s (0, 0, 0, 0) (n - 1) x))) (tb_h n + 1) ∧ ∀ x, x ≤ tb_h n → h.2.1 (z + 37 + g') x = Sg g' (tb_I n o (tb_s (0, 0, 0, 0) (n - 1) x))) →
      mz_V e (d + 2) mm_ZeroFinder_searchLine 2 [some (.inr (.inl z)), some (.inr (.inl r)), some (.inl ((n - 1 : Nat) : Int)), some (.inl (g : Int))] [] h P := by
    intro m
    induction m with
    | zero =>
      intro g h h1 h2 h3
      obtain rfl : g = gm := by omega
      have y5 : h.2.1 z 5 = g := by rw [h2.2.2 z (by rw [bl_m]; omega), hg5]
      have hx := lp2 q 0 h (by omega) (h2.mono (fun c hc => by simp only [List.mem_cons]; exact Or.inr (Or.inr (Or.inr hc)))) (fun j hj => by rw [h2.2.2 z (by rw [bl_m]; omega)]) (fun u hu => by rw [h2.2.2 (z + 2) (by rw [bl_m]; omega)]) h3 ⟨by rw [h2.2.2 z (by rw [bl_m]; omega)]; exact hk.1, fun k a b v c => by rw [h2.2.2 (z + 1) (by rw [bl_m]; omega)]; exact hk.2 k a b v c⟩
      apply mz_go hG 60 [46]
      simp only [mf_ZeroFinder_searchLine, ca_ZeroFinder_searchLine, dc_ZeroFinder_searchLine_0, dc_ZeroFinder_searchLine_1, dc_ZeroFinder_searchLine_2, dc_ZeroFinder_searchLine_3, dc_ZeroFinder_searchLine_4, dc_ZeroFinder_searchLine_5, dc_ZeroFinder_searchLine_6, fl_ZeroFinder, sl_ZeroFinder, sg_Ring_lineInto, sg_ZeroFinder_isZeroOfLines, sg_ZeroFinder_keepPoint, z0, y5, mzr_iconst, mzr_bipush, mzr_sipush, mzr_lconst, mzr_iload, mzr_iload_n, mzr_aload, mzr_aload_n, mzr_lload, mzr_lload_n, mzr_istore, mzr_istore_n, mzr_astore, mzr_astore_n, mzr_lstore, mzr_lstore_n, mzr_iinc, mzr_iadd, mzr_isub, mzr_imul, mzr_iand, mzr_ior, mzr_ixor, mzr_ishl, mzr_ishr, mzr_iushr, mzr_idiv, mzr_irem, mzr_ineg, mzr_ladd, mzr_lsub, mzr_lmul, mzr_lrem, mzr_lcmp, mzr_i2l, mzr_l2i, mzr_i2b, mzr_dup, mzr_pop, mzr_dup2, mzr_ifCond_eq, mzr_if_icmp_eq, mzr_ifCond_ne, mzr_if_icmp_ne, mzr_ifCond_lt, mzr_if_icmp_lt, mzr_ifCond_ge, mzr_if_icmp_ge, mzr_ifCond_gt, mzr_if_icmp_gt, mzr_ifCond_le, mzr_if_icmp_le, mzr_goto, mzr_iaload, mzr_baload, mzr_laload, mzr_aaload, mzr_iastore, mzr_bastore, mzr_lastore, mzr_arraylength, mzr_getfield, mzr_putfield, mzr_getstatic, mzr_ldc, mzr_ldc_w, mzr_ldc2_w, mzr_ireturn, mzr_return_, mzr_copy, mzr_static, mzr_virtual, mzr_new, mz_tk, mz_dp, mz_ln, mz_sz, mz_af_v, mz_af_s, mz_wp_s, mz_w1, mz_g, mz_st, mz_k, mz_s2, mz_nx, mz_en, mx_to, mz_c1, ↓reduceIte, Nat.reduceAdd, Nat.reduceSub, Nat.reduceMul, Nat.reduceMod, Nat.reduceDiv, Nat.reduceEqDiff, Nat.reduceLeDiff, Nat.reduceLT, Int.reduceAdd, Int.reduceSub, Int.reduceNeg, Int.reduceMul, Int.reduceLE, Int.reduceLT, Int.reduceEq, Int.reduceToNat, Int.reduceNegSucc, Int.cast_ofNat_Int, Int32.reduceToInt, Int64.reduceToInt, Int.zero_add, Int.add_zero, Fin.isValue, Fin.val_zero, Fin.val_one, Fin.val_two, reduceCtorEq, or_false, false_or, or_true, true_or, or_self, and_true, true_and, and_self, not_true_eq_false, not_false_eq_true, implies_true, forall_const, List.mem_cons, List.not_mem_nil, false_implies, true_implies, imp_false, Nat.zero_add, Option.some.injEq, Prod.mk.injEq]
      repeat' first | omega | refine mz_it (fun hh => ?_) (fun hh => ?_) | refine And.intro ?_ ?_
      all_goals exact hx
    | succ m ih =>
      intro g h h1 h2 h3
      have y5 : h.2.1 z 5 = gm := by rw [h2.2.2 z (by rw [bl_m]; omega), hg5]
      have hS1 := hS.fr h2 (fun i hi => by rw [bl_m]; omega)
      have t1 := (zst ((n - 1) * 8 + g) (by omega)).1
      have t2 := (zst ((n - 1) * 8 + g) (by omega)).2
      have t3 := (zln g (by omega)).1
      have t4 := (zln g (by omega)).2
      have i1 : (((n - 1 : Nat) : Int) * 8 + (g : Int)).toNat = (n - 1) * 8 + g := by omega
      have es : h.2.1 (z + 4 + ((n - 1) * 8 + g)) = Sg g := by rw [h2.2.2 _ (by rw [bl_m]; omega), hSge]
      apply mz_go hG 60 [2]
      simp only [mf_ZeroFinder_searchLine, ca_ZeroFinder_searchLine, dc_ZeroFinder_searchLine_0, dc_ZeroFinder_searchLine_1, dc_ZeroFinder_searchLine_2, dc_ZeroFinder_searchLine_3, dc_ZeroFinder_searchLine_4, dc_ZeroFinder_searchLine_5, dc_ZeroFinder_searchLine_6, fl_ZeroFinder, sl_ZeroFinder, sg_Ring_lineInto, sg_ZeroFinder_isZeroOfLines, sg_ZeroFinder_keepPoint, z0, y5, zt, k45, zs, k3, zl, k36, t1, t3, i1, r0', Int.toNat_natCast, mzr_iconst, mzr_bipush, mzr_sipush, mzr_lconst, mzr_iload, mzr_iload_n, mzr_aload, mzr_aload_n, mzr_lload, mzr_lload_n, mzr_istore, mzr_istore_n, mzr_astore, mzr_astore_n, mzr_lstore, mzr_lstore_n, mzr_iinc, mzr_iadd, mzr_isub, mzr_imul, mzr_iand, mzr_ior, mzr_ixor, mzr_ishl, mzr_ishr, mzr_iushr, mzr_idiv, mzr_irem, mzr_ineg, mzr_ladd, mzr_lsub, mzr_lmul, mzr_lrem, mzr_lcmp, mzr_i2l, mzr_l2i, mzr_i2b, mzr_dup, mzr_pop, mzr_dup2, mzr_ifCond_eq, mzr_if_icmp_eq, mzr_ifCond_ne, mzr_if_icmp_ne, mzr_ifCond_lt, mzr_if_icmp_lt, mzr_ifCond_ge, mzr_if_icmp_ge, mzr_ifCond_gt, mzr_if_icmp_gt, mzr_ifCond_le, mzr_if_icmp_le, mzr_goto, mzr_iaload, mzr_baload, mzr_laload, mzr_aaload, mzr_iastore, mzr_bastore, mzr_lastore, mzr_arraylength, mzr_getfield, mzr_putfield, mzr_getstatic, mzr_ldc, mzr_ldc_w, mzr_ldc2_w, mzr_ireturn, mzr_return_, mzr_copy, mzr_static, mzr_virtual, mzr_new, mz_tk, mz_dp, mz_ln, mz_sz, mz_af_v, mz_af_s, mz_wp_s, mz_w1, mz_g, mz_st, mz_k, mz_s2, mz_nx, mz_en, mx_to, mz_c1, ↓reduceIte, Nat.reduceAdd, Nat.reduceSub, Nat.reduceMul, Nat.reduceMod, Nat.reduceDiv, Nat.reduceEqDiff, Nat.reduceLeDiff, Nat.reduceLT, Int.reduceAdd, Int.reduceSub, Int.reduceNeg, Int.reduceMul, Int.reduceLE, Int.reduceLT, Int.reduceEq, Int.reduceToNat, Int.reduceNegSucc, Int.cast_ofNat_Int, Int32.reduceToInt, Int64.reduceToInt, Int.zero_add, Int.add_zero, Fin.isValue, Fin.val_zero, Fin.val_one, Fin.val_two, reduceCtorEq, or_false, false_or, or_true, true_or, or_self, and_true, true_and, and_self, not_true_eq_false, not_false_eq_true, implies_true, forall_const, List.mem_cons, List.not_mem_nil, false_implies, true_implies, imp_false, Nat.zero_add, Option.some.injEq, Prod.mk.injEq]
      repeat' first | omega | refine mz_it (fun hh => ?_) (fun hh => ?_) | refine And.intro ?_ ?_
      refine ct_lineInto d hG hR' hok (show n - 1 < n by omega) t2 t4 (by omega) (fun i hi => by omega) hS1 (fun h' f1 hv => ?_)
      rw [es] at hv ⊢
      have e2 : ∀ c, c ≠ z + 37 + g → h'.2.1 c = h.2.1 c := fun c a => f1.2.2 c (by simp; exact a)
      have hx := ih (g + 1) (mz_w h' (z + 45) g (sp_top (fun x => Sg g (tb_I n o (tb_s (0, 0, 0, 0) (n - 1) x))) (tb_h n + 1))) (by omega) ((h2.tr (f1.mono (fun c hc => by simp at hc; rw [bl_m]; omega))).tr (mz_fr.w _ _ _ _ (by rw [bl_m]; omega))) (fun g' hg' => ⟨?_, fun x hx => ?_⟩)
      · simp only [mf_ZeroFinder_searchLine, ca_ZeroFinder_searchLine, dc_ZeroFinder_searchLine_0, dc_ZeroFinder_searchLine_1, dc_ZeroFinder_searchLine_2, dc_ZeroFinder_searchLine_3, dc_ZeroFinder_searchLine_4, dc_ZeroFinder_searchLine_5, dc_ZeroFinder_searchLine_6, fl_ZeroFinder, sl_ZeroFinder, sg_Ring_lineInto, sg_ZeroFinder_isZeroOfLines, sg_ZeroFinder_keepPoint, z0, k45, Int.toNat_natCast, mzr_iconst, mzr_bipush, mzr_sipush, mzr_lconst, mzr_iload, mzr_iload_n, mzr_aload, mzr_aload_n, mzr_lload, mzr_lload_n, mzr_istore, mzr_istore_n, mzr_astore, mzr_astore_n, mzr_lstore, mzr_lstore_n, mzr_iinc, mzr_iadd, mzr_isub, mzr_imul, mzr_iand, mzr_ior, mzr_ixor, mzr_ishl, mzr_ishr, mzr_iushr, mzr_idiv, mzr_irem, mzr_ineg, mzr_ladd, mzr_lsub, mzr_lmul, mzr_lrem, mzr_lcmp, mzr_i2l, mzr_l2i, mzr_i2b, mzr_dup, mzr_pop, mzr_dup2, mzr_ifCond_eq, mzr_if_icmp_eq, mzr_ifCond_ne, mzr_if_icmp_ne, mzr_ifCond_lt, mzr_if_icmp_lt, mzr_ifCond_ge, mzr_if_icmp_ge, mzr_ifCond_gt, mzr_if_icmp_gt, mzr_ifCond_le, mzr_if_icmp_le, mzr_goto, mzr_iaload, mzr_baload, mzr_laload, mzr_aaload, mzr_iastore, mzr_bastore, mzr_lastore, mzr_arraylength, mzr_getfield, mzr_putfield, mzr_getstatic, mzr_ldc, mzr_ldc_w, mzr_ldc2_w, mzr_ireturn, mzr_return_, mzr_copy, mzr_static, mzr_virtual, mzr_new, mz_tk, mz_dp, mz_ln, mz_sz, mz_af_v, mz_af_s, mz_wp_s, mz_w1, mz_g, mz_st, mz_k, mz_s2, mz_nx, mz_en, mx_to, mz_c1, ↓reduceIte, Nat.reduceAdd, Nat.reduceSub, Nat.reduceMul, Nat.reduceMod, Nat.reduceDiv, Nat.reduceEqDiff, Nat.reduceLeDiff, Nat.reduceLT, Int.reduceAdd, Int.reduceSub, Int.reduceNeg, Int.reduceMul, Int.reduceLE, Int.reduceLT, Int.reduceEq, Int.reduceToNat, Int.reduceNegSucc, Int.cast_ofNat_Int, Int32.reduceToInt, Int64.reduceToInt, Int.zero_add, Int.add_zero, Fin.isValue, Fin.val_zero, Fin.val_one, Fin.val_two, reduceCtorEq, or_false, false_or, or_true, true_or, or_self, and_true, true_and, and_self, not_true_eq_false, not_false_eq_true, implies_true, forall_const, List.mem_cons, List.not_mem_nil, false_implies, true_implies, imp_false, Nat.zero_add, Option.some.injEq, Prod.mk.injEq]
        repeat' first | omega | refine mz_it (fun hh => ?_) (fun hh => ?_) | refine And.intro ?_ ?_
        all_goals exact hx
      · rw [mz_w_g]
        by_cases hgg : g' = g
        · rw [if_pos ⟨rfl, hgg⟩, hgg]
        · rw [if_neg (fun q => hgg q.2), e2 _ (by omega)]
          exact (h3 g' (by omega)).1
      · rw [mz_w_g, if_neg (by omega)]
        by_cases hgg : g' = g
        · rw [hgg, hv x hx]
        · rw [e2 _ (by omega)]
          exact (h3 g' (by omega)).2 x hx
  refine mz_CA_of mr_ZeroFinder_searchLine ?_
  simp only [mf_ZeroFinder_searchLine, mz_en, List.replicate, Nat.reduceSub, Nat.reduceAdd, Nat.reduceMul]
  apply mz_go hG 60 [2]
  simp only [mf_ZeroFinder_searchLine, ca_ZeroFinder_searchLine, dc_ZeroFinder_searchLine_0, dc_ZeroFinder_searchLine_1, dc_ZeroFinder_searchLine_2, dc_ZeroFinder_searchLine_3, dc_ZeroFinder_searchLine_4, dc_ZeroFinder_searchLine_5, dc_ZeroFinder_searchLine_6, fl_ZeroFinder, sl_ZeroFinder, sg_Ring_lineInto, sg_ZeroFinder_isZeroOfLines, sg_ZeroFinder_keepPoint, z0, mzr_iconst, mzr_bipush, mzr_sipush, mzr_lconst, mzr_iload, mzr_iload_n, mzr_aload, mzr_aload_n, mzr_lload, mzr_lload_n, mzr_istore, mzr_istore_n, mzr_astore, mzr_astore_n, mzr_lstore, mzr_lstore_n, mzr_iinc, mzr_iadd, mzr_isub, mzr_imul, mzr_iand, mzr_ior, mzr_ixor, mzr_ishl, mzr_ishr, mzr_iushr, mzr_idiv, mzr_irem, mzr_ineg, mzr_ladd, mzr_lsub, mzr_lmul, mzr_lrem, mzr_lcmp, mzr_i2l, mzr_l2i, mzr_i2b, mzr_dup, mzr_pop, mzr_dup2, mzr_ifCond_eq, mzr_if_icmp_eq, mzr_ifCond_ne, mzr_if_icmp_ne, mzr_ifCond_lt, mzr_if_icmp_lt, mzr_ifCond_ge, mzr_if_icmp_ge, mzr_ifCond_gt, mzr_if_icmp_gt, mzr_ifCond_le, mzr_if_icmp_le, mzr_goto, mzr_iaload, mzr_baload, mzr_laload, mzr_aaload, mzr_iastore, mzr_bastore, mzr_lastore, mzr_arraylength, mzr_getfield, mzr_putfield, mzr_getstatic, mzr_ldc, mzr_ldc_w, mzr_ldc2_w, mzr_ireturn, mzr_return_, mzr_copy, mzr_static, mzr_virtual, mzr_new, mz_tk, mz_dp, mz_ln, mz_sz, mz_af_v, mz_af_s, mz_wp_s, mz_w1, mz_g, mz_st, mz_k, mz_s2, mz_nx, mz_en, mx_to, mz_c1, ↓reduceIte, Nat.reduceAdd, Nat.reduceSub, Nat.reduceMul, Nat.reduceMod, Nat.reduceDiv, Nat.reduceEqDiff, Nat.reduceLeDiff, Nat.reduceLT, Int.reduceAdd, Int.reduceSub, Int.reduceNeg, Int.reduceMul, Int.reduceLE, Int.reduceLT, Int.reduceEq, Int.reduceToNat, Int.reduceNegSucc, Int.cast_ofNat_Int, Int32.reduceToInt, Int64.reduceToInt, Int.zero_add, Int.add_zero, Fin.isValue, Fin.val_zero, Fin.val_one, Fin.val_two, reduceCtorEq, or_false, false_or, or_true, true_or, or_self, and_true, true_and, and_self, not_true_eq_false, not_false_eq_true, implies_true, forall_const, List.mem_cons, List.not_mem_nil, false_implies, true_implies, imp_false, Nat.zero_add, Option.some.injEq, Prod.mk.injEq]
  repeat' first | omega | refine mz_it (fun hh => ?_) (fun hh => ?_) | refine And.intro ?_ ?_
  exact lp1 gm 0 H (by omega) (mz_fr.refl _ _) (fun g hg => by omega)
