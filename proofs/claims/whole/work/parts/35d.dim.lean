def sp_pc (x : Nat) : Nat := x % 2 + x / 2 % 2 + x / 4 % 2 + x / 8 % 2
theorem bc_1 : ∀ x, x < 16 → mz_and (mz_ushr ((x : Nat) : Int) 1) 1431655765 = ((x / 2 % 2 + 4 * (x / 8 % 2) : Nat) : Int) := by decide +kernel
theorem bc_2 : ∀ x, x < 16 → mz_and ((x : Nat) : Int) 858993459 = ((x % 4 : Nat) : Int) := by decide +kernel
theorem bc_3 : ∀ x, x < 16 → mz_and (mz_ushr ((x : Nat) : Int) 2) 858993459 = ((x / 4 : Nat) : Int) := by decide +kernel
theorem bc_4 : ∀ x, x < 16 → mz_ushr ((x : Nat) : Int) 4 = 0 ∧ mz_and ((x : Nat) : Int) 252645135 = ((x : Nat) : Int) ∧ mz_ushr ((x : Nat) : Int) 8 = 0 ∧ mz_ushr ((x : Nat) : Int) 16 = 0 ∧ mz_and ((x : Nat) : Int) 63 = ((x : Nat) : Int) := by decide +kernel
theorem bc_5 : ∀ x, x < 16 → (x - (x / 2 % 2 + 4 * (x / 8 % 2))) % 4 + (x - (x / 2 % 2 + 4 * (x / 8 % 2))) / 4 = sp_pc x := by decide +kernel
set_option maxRecDepth 100000 in
theorem ct_bitCount {e : mz_E} (d : Nat) {x : Nat} {H : mz_H} {P : mz_O → mz_H → Prop} (hG : mx_G e.1) (hx : x < 16) (hP : P (.inl (some (.inl (sp_pc x : Int)))) H) : mz_CA e d j_Integer_bitCount [.inl (x : Int)] H P := by
  obtain ⟨y, hy⟩ : ∃ y, y = x - (x / 2 % 2 + 4 * (x / 8 % 2)) := ⟨_, rfl⟩
  have hy16 : y < 16 := by omega
  have a1 : (x : Int) - mz_and (mz_ushr (x : Int) 1) 1431655765 = (y : Int) := by rw [bc_1 x hx]; omega
  obtain ⟨z, hz⟩ : ∃ z, z = y % 4 + y / 4 := ⟨_, rfl⟩
  have hz16 : z < 16 := by omega
  have a2 : mz_and (y : Int) 858993459 + mz_and (mz_ushr (y : Int) 2) 858993459 = (z : Int) := by rw [bc_2 y hy16, bc_3 y hy16]; omega
  obtain ⟨b1, b2, b3, b4, b5⟩ := bc_4 z hz16
  have hzx : z = sp_pc x := by rw [hz, hy]; exact bc_5 x hx
  rw [← hzx] at hP
  refine mz_CA_of mr_Integer_bitCount ?_
  simp only [mf_Integer_bitCount, mz_en, List.replicate, Nat.reduceSub, Nat.reduceAdd, Nat.reduceMul]
  apply mz_go hG 60 []
  simp only [mf_Integer_bitCount, ca_Integer_bitCount, dc_Integer_bitCount_0, dc_Integer_bitCount_1, dc_Integer_bitCount_2, dc_Integer_bitCount_3, dc_Integer_bitCount_4, dc_Integer_bitCount_5, mx_kc_r, mx_kl_r, a1, a2, b1, b2, b3, b4, b5, Int.add_zero, mzr_iconst, mzr_bipush, mzr_sipush, mzr_lconst, mzr_iload, mzr_iload_n, mzr_aload, mzr_aload_n, mzr_lload, mzr_lload_n, mzr_istore, mzr_istore_n, mzr_astore, mzr_astore_n, mzr_lstore, mzr_lstore_n, mzr_iinc, mzr_iadd, mzr_isub, mzr_imul, mzr_iand, mzr_ior, mzr_ixor, mzr_ishl, mzr_ishr, mzr_iushr, mzr_idiv, mzr_irem, mzr_ineg, mzr_ladd, mzr_lsub, mzr_lmul, mzr_lrem, mzr_lcmp, mzr_i2l, mzr_l2i, mzr_i2b, mzr_dup, mzr_pop, mzr_dup2, mzr_ifCond_eq, mzr_if_icmp_eq, mzr_ifCond_ne, mzr_if_icmp_ne, mzr_ifCond_lt, mzr_if_icmp_lt, mzr_ifCond_ge, mzr_if_icmp_ge, mzr_ifCond_gt, mzr_if_icmp_gt, mzr_ifCond_le, mzr_if_icmp_le, mzr_goto, mzr_iaload, mzr_baload, mzr_laload, mzr_aaload, mzr_iastore, mzr_bastore, mzr_lastore, mzr_arraylength, mzr_getfield, mzr_putfield, mzr_getstatic, mzr_ldc, mzr_ldc_w, mzr_ldc2_w, mzr_ireturn, mzr_return_, mzr_copy, mzr_static, mzr_virtual, mzr_new, mz_tk, mz_dp, mz_ln, mz_sz, mz_af_v, mz_af_s, mz_wp_s, mz_w1, mz_g, mz_st, mz_k, mz_s2, mz_nx, mz_en, mx_to, mz_c1, ↓reduceIte, Nat.reduceAdd, Nat.reduceSub, Nat.reduceMul, Nat.reduceMod, Nat.reduceDiv, Nat.reduceEqDiff, Nat.reduceLeDiff, Nat.reduceLT, Int.reduceAdd, Int.reduceSub, Int.reduceNeg, Int.reduceMul, Int.reduceLE, Int.reduceLT, Int.reduceEq, Int.reduceToNat, Int.reduceNegSucc, Int.cast_ofNat_Int, Int32.reduceToInt, Int64.reduceToInt, Int.zero_add, Int.add_zero, Fin.isValue, Fin.val_zero, Fin.val_one, Fin.val_two, reduceCtorEq, or_false, false_or, or_true, true_or, or_self, and_true, true_and, and_self, not_true_eq_false, not_false_eq_true, implies_true, forall_const, List.mem_cons, List.not_mem_nil, false_implies, true_implies, imp_false, Nat.zero_add, Option.some.injEq, Prod.mk.injEq]
  repeat' first | omega | refine mz_it (fun hh => ?_) (fun hh => ?_) | refine And.intro ?_ ?_
  all_goals exact hP
def us_S (x : al_M) : Nat → Nat
  | 0 => 0
  | v + 1 => us_S x v + if 0 < tb_g x v then 2 ^ v else 0
theorem us_b (x : al_M) (v : Nat) : us_S x v < 2 ^ v := by
  induction v with
  | zero => exact (by decide : 0 < 2 ^ 0)
  | succ v ih => rw [us_S, Nat.pow_succ]; split <;> omega
theorem bo_1 : ∀ u, u < 16 → ∀ v, v < 4 → u < 2 ^ v → mz_or ((u : Nat) : Int) ((2 ^ v : Nat) : Int) = ((u + 2 ^ v : Nat) : Int) ∧ mz_or ((u : Nat) : Int) 0 = ((u : Nat) : Int) := by decide +kernel
theorem bo_2 : ∀ v, v < 5 → mz_shl 1 ((v : Nat) : Int) = ((2 ^ v : Nat) : Int) := by decide +kernel
theorem bo_3 : ∀ u, u < 16 → ∀ c, c < 16 → (mz_and ((u : Nat) : Int) (mz_xor ((c : Nat) : Int) (-1)) = 0 ↔ ∀ v, v < 4 → u / 2 ^ v % 2 = 1 → c / 2 ^ v % 2 = 1) := by decide +kernel
theorem us_i {n : Nat} (h1 : 1 ≤ n) (h4 : n ≤ 4) (x : al_M) {v : Nat} (hv : v < 4) : us_S x n / 2 ^ v % 2 = 1 ↔ v < n ∧ 0 < tb_g x v := by
  generalize ha : (if 0 < tb_g x 0 then 1 else 0) = a
  obtain rfl | rfl | rfl | rfl : n = 1 ∨ n = 2 ∨ n = 3 ∨ n = 4 := by omega
  all_goals
    obtain rfl | rfl | rfl | rfl : v = 0 ∨ v = 1 ∨ v = 2 ∨ v = 3 := by omega
    all_goals
      simp only [us_S, Nat.reducePow]
      repeat' split
      all_goals omega
def fr_P (n o K : Nat) (c : Nat → Nat) (x : Nat) : Prop := ∀ k, k < K → ∃ v, v < n ∧ 0 < tb_g (tb_T n o (c k)) v ∧ x / 2 ^ v % 2 = 0
set_option maxRecDepth 100000 in
theorem ct_isFree {e : mz_E} (d : Nat) {i r K x : Nat} {p : Int} {n o : Nat} {c : Nat → Nat} {H : mz_H} {P : mz_O → mz_H → Prop} (hG : mx_G e.1) (hI : id_E e i) (hR : rg_E e r) (hok : tb_ok n o) (hS : rg_S H r p n o) (hK : H.2.1 i 6 = K) (hK126 : K ≤ 126) (hc : ∀ k, k < K → H.2.1 (i + 272) k = c k ∧ c k < tb_N n) (hx : x < 16)
    (hP1 : fr_P n o K c x → P (.inl (some (.inl 1))) H) (hP0 : ¬ fr_P n o K c x → P (.inl (some (.inl 0))) H) : mz_CA e (d + 1) j_Ideal_isFree [.inr (.inl i), .inr (.inl r), .inl (x : Int)] H P := by
  have hR' := hR
  have hn4 := hok.2.1
  have hN := tb_N_b n
  obtain ⟨r0, f5, f6, f7, f8, f9, f10, f11, f12, f13, f14, k1, k2, k3, k4, k5, k6, k7, k8, k9, k10⟩ := hR
  obtain ⟨i0, d0, d4, d5, k272, hga, hsa⟩ := hI
  have z1 := hS.2.1
  have lp1 : ∀ (m k : Nat) o4 o5, k + m = K → (∀ j, j < k → ∃ v, v < n ∧ 0 < tb_g (tb_T n o (c j)) v ∧ x / 2 ^ v % 2 = 0) → mz_V e (d + 1) mm_Ideal_isFree 2 [some (.inr (.inl i)), some (.inr (.inl r)), some (.inl (x : Int)), some (.inl (k : Int)), o4, o5] [] H P := by
    intro m
    induction m with
    | zero =>
      intro k o4 o5 h1 h2
      obtain rfl : k = K := by omega
      apply mz_go hG 60 [2]
      simp only [mf_Ideal_isFree, ca_Ideal_isFree, dc_Ideal_isFree_0, dc_Ideal_isFree_1, dc_Ideal_isFree_2, dc_Ideal_isFree_3, dc_Ideal_isFree_4, dc_Ideal_isFree_5, fl_Ideal, sl_Ideal, sg_Ring_exponentOf, i0, d0, d4, d5, k272, hK, mzr_iconst, mzr_bipush, mzr_sipush, mzr_lconst, mzr_iload, mzr_iload_n, mzr_aload, mzr_aload_n, mzr_lload, mzr_lload_n, mzr_istore, mzr_istore_n, mzr_astore, mzr_astore_n, mzr_lstore, mzr_lstore_n, mzr_iinc, mzr_iadd, mzr_isub, mzr_imul, mzr_iand, mzr_ior, mzr_ixor, mzr_ishl, mzr_ishr, mzr_iushr, mzr_idiv, mzr_irem, mzr_ineg, mzr_ladd, mzr_lsub, mzr_lmul, mzr_lrem, mzr_lcmp, mzr_i2l, mzr_l2i, mzr_i2b, mzr_dup, mzr_pop, mzr_dup2, mzr_ifCond_eq, mzr_if_icmp_eq, mzr_ifCond_ne, mzr_if_icmp_ne, mzr_ifCond_lt, mzr_if_icmp_lt, mzr_ifCond_ge, mzr_if_icmp_ge, mzr_ifCond_gt, mzr_if_icmp_gt, mzr_ifCond_le, mzr_if_icmp_le, mzr_goto, mzr_iaload, mzr_baload, mzr_laload, mzr_aaload, mzr_iastore, mzr_bastore, mzr_lastore, mzr_arraylength, mzr_getfield, mzr_putfield, mzr_getstatic, mzr_ldc, mzr_ldc_w, mzr_ldc2_w, mzr_ireturn, mzr_return_, mzr_copy, mzr_static, mzr_virtual, mzr_new, mz_tk, mz_dp, mz_ln, mz_sz, mz_af_v, mz_af_s, mz_wp_s, mz_w1, mz_g, mz_st, mz_k, mz_s2, mz_nx, mz_en, mx_to, mz_c1, ↓reduceIte, Nat.reduceAdd, Nat.reduceSub, Nat.reduceMul, Nat.reduceMod, Nat.reduceDiv, Nat.reduceEqDiff, Nat.reduceLeDiff, Nat.reduceLT, Int.reduceAdd, Int.reduceSub, Int.reduceNeg, Int.reduceMul, Int.reduceLE, Int.reduceLT, Int.reduceEq, Int.reduceToNat, Int.reduceNegSucc, Int.cast_ofNat_Int, Int32.reduceToInt, Int64.reduceToInt, Int.zero_add, Int.add_zero, Fin.isValue, Fin.val_zero, Fin.val_one, Fin.val_two, reduceCtorEq, or_false, false_or, or_true, true_or, or_self, and_true, true_and, and_self, not_true_eq_false, not_false_eq_true, implies_true, forall_const, List.mem_cons, List.not_mem_nil, false_implies, true_implies, imp_false, Nat.zero_add, Option.some.injEq, Prod.mk.injEq]
      repeat' first | omega | refine mz_it (fun hh => ?_) (fun hh => ?_) | refine And.intro ?_ ?_
      exact hP1 h2
    | succ m ih =>
      intro k o4 o5 h1 h2
      have c1 := hc k (by omega)
      have c1' := c1.1
      have lp2 : ∀ (w v : Nat), v + w = n → mz_V e (d + 1) mm_Ideal_isFree 16 [some (.inr (.inl i)), some (.inr (.inl r)), some (.inl (x : Int)), some (.inl (k : Int)), some (.inl (us_S (tb_T n o (c k)) v : Int)), some (.inl (v : Int))] [] H P := by
        intro w
        induction w with
        | zero =>
          intro v h3
          obtain rfl : v = n := by omega
          have hu16 : us_S (tb_T v o (c k)) v < 16 := Nat.lt_of_lt_of_le (us_b _ v) (by
            obtain rfl | rfl | rfl | rfl : v = 1 ∨ v = 2 ∨ v = 3 ∨ v = 4 := by have := hok.1; omega
            all_goals decide)
          have hb3 := bo_3 _ hu16 x hx
          apply mz_go hG 60 [2, 16]
          simp only [mf_Ideal_isFree, ca_Ideal_isFree, dc_Ideal_isFree_0, dc_Ideal_isFree_1, dc_Ideal_isFree_2, dc_Ideal_isFree_3, dc_Ideal_isFree_4, dc_Ideal_isFree_5, fl_Ideal, sl_Ideal, sg_Ring_exponentOf, i0, d0, d4, d5, k272, r0, f5, f6, f7, f8, f9, f10, f11, f12, f13, f14, k1, k2, k3, k4, k5, k6, k7, k8, k9, k10, z1, mzr_iconst, mzr_bipush, mzr_sipush, mzr_lconst, mzr_iload, mzr_iload_n, mzr_aload, mzr_aload_n, mzr_lload, mzr_lload_n, mzr_istore, mzr_istore_n, mzr_astore, mzr_astore_n, mzr_lstore, mzr_lstore_n, mzr_iinc, mzr_iadd, mzr_isub, mzr_imul, mzr_iand, mzr_ior, mzr_ixor, mzr_ishl, mzr_ishr, mzr_iushr, mzr_idiv, mzr_irem, mzr_ineg, mzr_ladd, mzr_lsub, mzr_lmul, mzr_lrem, mzr_lcmp, mzr_i2l, mzr_l2i, mzr_i2b, mzr_dup, mzr_pop, mzr_dup2, mzr_ifCond_eq, mzr_if_icmp_eq, mzr_ifCond_ne, mzr_if_icmp_ne, mzr_ifCond_lt, mzr_if_icmp_lt, mzr_ifCond_ge, mzr_if_icmp_ge, mzr_ifCond_gt, mzr_if_icmp_gt, mzr_ifCond_le, mzr_if_icmp_le, mzr_goto, mzr_iaload, mzr_baload, mzr_laload, mzr_aaload, mzr_iastore, mzr_bastore, mzr_lastore, mzr_arraylength, mzr_getfield, mzr_putfield, mzr_getstatic, mzr_ldc, mzr_ldc_w, mzr_ldc2_w, mzr_ireturn, mzr_return_, mzr_copy, mzr_static, mzr_virtual, mzr_new, mz_tk, mz_dp, mz_ln, mz_sz, mz_af_v, mz_af_s, mz_wp_s, mz_w1, mz_g, mz_st, mz_k, mz_s2, mz_nx, mz_en, mx_to, mz_c1, ↓reduceIte, Nat.reduceAdd, Nat.reduceSub, Nat.reduceMul, Nat.reduceMod, Nat.reduceDiv, Nat.reduceEqDiff, Nat.reduceLeDiff, Nat.reduceLT, Int.reduceAdd, Int.reduceSub, Int.reduceNeg, Int.reduceMul, Int.reduceLE, Int.reduceLT, Int.reduceEq, Int.reduceToNat, Int.reduceNegSucc, Int.cast_ofNat_Int, Int32.reduceToInt, Int64.reduceToInt, Int.zero_add, Int.add_zero, Fin.isValue, Fin.val_zero, Fin.val_one, Fin.val_two, reduceCtorEq, or_false, false_or, or_true, true_or, or_self, and_true, true_and, and_self, not_true_eq_false, not_false_eq_true, implies_true, forall_const, List.mem_cons, List.not_mem_nil, false_implies, true_implies, imp_false, Nat.zero_add, Option.some.injEq, Prod.mk.injEq]
          repeat' first | omega | refine mz_it (fun hh => ?_) (fun hh => ?_) | refine And.intro ?_ ?_
          · refine hP0 (fun hf => ?_)
            obtain ⟨u, q1, q2, q3⟩ := hf k (by omega)
            have := hb3.mp hh u (by omega) ((us_i hok.1 hn4 _ (by omega)).mpr ⟨q1, q2⟩)
            omega
          · rw [show (k : Int) + 1 = ((k + 1 : Nat) : Int) by omega]
            refine ih (k + 1) _ _ (by omega) (fun j hj => ?_)
            by_cases hjk : j = k
            · subst hjk
              refine Classical.byContradiction (fun hne => hh (hb3.mpr (fun u hu q => ?_)))
              have q2 := (us_i hok.1 hn4 _ hu).mp q
              have q3 : ¬ x / 2 ^ u % 2 = 0 := fun q3 => hne ⟨u, q2.1, q2.2, q3⟩
              omega
            · exact h2 j (by omega)
        | succ w ihw =>
          intro v h3
          have hv4 : v < 4 := by omega
          have hu := us_b (tb_T n o (c k)) v
          have hu16 : us_S (tb_T n o (c k)) v < 16 := Nat.lt_of_lt_of_le hu (by
            obtain rfl | rfl | rfl | rfl : v = 0 ∨ v = 1 ∨ v = 2 ∨ v = 3 := by omega
            all_goals decide)
          have hb1 := bo_1 _ hu16 v hv4 hu
          have hb2 := bo_2 v (by omega)
          have b1 := hb1.1
          have b2 := hb1.2
          have qa := hS.2.2.2.2.2.2.2.1 (c k) v c1.2 (by omega)
          have hnext := ihw (v + 1) (by omega)
          rw [us_S] at hnext
          apply mz_go hG 60 [2, 16]
          simp only [mf_Ideal_isFree, ca_Ideal_isFree, dc_Ideal_isFree_0, dc_Ideal_isFree_1, dc_Ideal_isFree_2, dc_Ideal_isFree_3, dc_Ideal_isFree_4, dc_Ideal_isFree_5, fl_Ideal, sl_Ideal, sg_Ring_exponentOf, i0, d0, d4, d5, k272, r0, f5, f6, f7, f8, f9, f10, f11, f12, f13, f14, k1, k2, k3, k4, k5, k6, k7, k8, k9, k10, z1, c1', Int.toNat_natCast, mzr_iconst, mzr_bipush, mzr_sipush, mzr_lconst, mzr_iload, mzr_iload_n, mzr_aload, mzr_aload_n, mzr_lload, mzr_lload_n, mzr_istore, mzr_istore_n, mzr_astore, mzr_astore_n, mzr_lstore, mzr_lstore_n, mzr_iinc, mzr_iadd, mzr_isub, mzr_imul, mzr_iand, mzr_ior, mzr_ixor, mzr_ishl, mzr_ishr, mzr_iushr, mzr_idiv, mzr_irem, mzr_ineg, mzr_ladd, mzr_lsub, mzr_lmul, mzr_lrem, mzr_lcmp, mzr_i2l, mzr_l2i, mzr_i2b, mzr_dup, mzr_pop, mzr_dup2, mzr_ifCond_eq, mzr_if_icmp_eq, mzr_ifCond_ne, mzr_if_icmp_ne, mzr_ifCond_lt, mzr_if_icmp_lt, mzr_ifCond_ge, mzr_if_icmp_ge, mzr_ifCond_gt, mzr_if_icmp_gt, mzr_ifCond_le, mzr_if_icmp_le, mzr_goto, mzr_iaload, mzr_baload, mzr_laload, mzr_aaload, mzr_iastore, mzr_bastore, mzr_lastore, mzr_arraylength, mzr_getfield, mzr_putfield, mzr_getstatic, mzr_ldc, mzr_ldc_w, mzr_ldc2_w, mzr_ireturn, mzr_return_, mzr_copy, mzr_static, mzr_virtual, mzr_new, mz_tk, mz_dp, mz_ln, mz_sz, mz_af_v, mz_af_s, mz_wp_s, mz_w1, mz_g, mz_st, mz_k, mz_s2, mz_nx, mz_en, mx_to, mz_c1, ↓reduceIte, Nat.reduceAdd, Nat.reduceSub, Nat.reduceMul, Nat.reduceMod, Nat.reduceDiv, Nat.reduceEqDiff, Nat.reduceLeDiff, Nat.reduceLT, Int.reduceAdd, Int.reduceSub, Int.reduceNeg, Int.reduceMul, Int.reduceLE, Int.reduceLT, Int.reduceEq, Int.reduceToNat, Int.reduceNegSucc, Int.cast_ofNat_Int, Int32.reduceToInt, Int64.reduceToInt, Int.zero_add, Int.add_zero, Fin.isValue, Fin.val_zero, Fin.val_one, Fin.val_two, reduceCtorEq, or_false, false_or, or_true, true_or, or_self, and_true, true_and, and_self, not_true_eq_false, not_false_eq_true, implies_true, forall_const, List.mem_cons, List.not_mem_nil, false_implies, true_implies, imp_false, Nat.zero_add, Option.some.injEq, Prod.mk.injEq]
          repeat' first | omega | refine mz_it (fun hh => ?_) (fun hh => ?_) | refine And.intro ?_ ?_
          refine ct_exponentOf d hG hR' (by omega) (by omega) ?_
          rw [qa]
          simp only [mf_Ideal_isFree, ca_Ideal_isFree, dc_Ideal_isFree_0, dc_Ideal_isFree_1, dc_Ideal_isFree_2, dc_Ideal_isFree_3, dc_Ideal_isFree_4, dc_Ideal_isFree_5, fl_Ideal, sl_Ideal, sg_Ring_exponentOf, i0, d0, d4, d5, k272, r0, f5, f6, f7, f8, f9, f10, f11, f12, f13, f14, k1, k2, k3, k4, k5, k6, k7, k8, k9, k10, hb2, b1, b2, mzr_iconst, mzr_bipush, mzr_sipush, mzr_lconst, mzr_iload, mzr_iload_n, mzr_aload, mzr_aload_n, mzr_lload, mzr_lload_n, mzr_istore, mzr_istore_n, mzr_astore, mzr_astore_n, mzr_lstore, mzr_lstore_n, mzr_iinc, mzr_iadd, mzr_isub, mzr_imul, mzr_iand, mzr_ior, mzr_ixor, mzr_ishl, mzr_ishr, mzr_iushr, mzr_idiv, mzr_irem, mzr_ineg, mzr_ladd, mzr_lsub, mzr_lmul, mzr_lrem, mzr_lcmp, mzr_i2l, mzr_l2i, mzr_i2b, mzr_dup, mzr_pop, mzr_dup2, mzr_ifCond_eq, mzr_if_icmp_eq, mzr_ifCond_ne, mzr_if_icmp_ne, mzr_ifCond_lt, mzr_if_icmp_lt, mzr_ifCond_ge, mzr_if_icmp_ge, mzr_ifCond_gt, mzr_if_icmp_gt, mzr_ifCond_le, mzr_if_icmp_le, mzr_goto, mzr_iaload, mzr_baload, mzr_laload, mzr_aaload, mzr_iastore, mzr_bastore, mzr_lastore, mzr_arraylength, mzr_getfield, mzr_putfield, mzr_getstatic, mzr_ldc, mzr_ldc_w, mzr_ldc2_w, mzr_ireturn, mzr_return_, mzr_copy, mzr_static, mzr_virtual, mzr_new, mz_tk, mz_dp, mz_ln, mz_sz, mz_af_v, mz_af_s, mz_wp_s, mz_w1, mz_g, mz_st, mz_k, mz_s2, mz_nx, mz_en, mx_to, mz_c1, ↓reduceIte, Nat.reduceAdd, Nat.reduceSub, Nat.reduceMul, Nat.reduceMod, Nat.reduceDiv, Nat.reduceEqDiff, Nat.reduceLeDiff, Nat.reduceLT, Int.reduceAdd, Int.reduceSub, Int.reduceNeg, Int.reduceMul, Int.reduceLE, Int.reduceLT, Int.reduceEq, Int.reduceToNat, Int.reduceNegSucc, Int.cast_ofNat_Int, Int32.reduceToInt, Int64.reduceToInt, Int.zero_add, Int.add_zero, Fin.isValue, Fin.val_zero, Fin.val_one, Fin.val_two, reduceCtorEq, or_false, false_or, or_true, true_or, or_self, and_true, true_and, and_self, not_true_eq_false, not_false_eq_true, implies_true, forall_const, List.mem_cons, List.not_mem_nil, false_implies, true_implies, imp_false, Nat.zero_add, Option.some.injEq, Prod.mk.injEq]
          repeat' first | omega | refine mz_it (fun hh => ?_) (fun hh => ?_) | refine And.intro ?_ ?_
          · rw [if_neg (by omega)] at hnext
            exact hnext
          · rw [if_pos (by omega)] at hnext
            exact hnext
      apply mz_go hG 60 [2, 16]
      simp only [mf_Ideal_isFree, ca_Ideal_isFree, dc_Ideal_isFree_0, dc_Ideal_isFree_1, dc_Ideal_isFree_2, dc_Ideal_isFree_3, dc_Ideal_isFree_4, dc_Ideal_isFree_5, fl_Ideal, sl_Ideal, sg_Ring_exponentOf, i0, d0, d4, d5, k272, hK, mzr_iconst, mzr_bipush, mzr_sipush, mzr_lconst, mzr_iload, mzr_iload_n, mzr_aload, mzr_aload_n, mzr_lload, mzr_lload_n, mzr_istore, mzr_istore_n, mzr_astore, mzr_astore_n, mzr_lstore, mzr_lstore_n, mzr_iinc, mzr_iadd, mzr_isub, mzr_imul, mzr_iand, mzr_ior, mzr_ixor, mzr_ishl, mzr_ishr, mzr_iushr, mzr_idiv, mzr_irem, mzr_ineg, mzr_ladd, mzr_lsub, mzr_lmul, mzr_lrem, mzr_lcmp, mzr_i2l, mzr_l2i, mzr_i2b, mzr_dup, mzr_pop, mzr_dup2, mzr_ifCond_eq, mzr_if_icmp_eq, mzr_ifCond_ne, mzr_if_icmp_ne, mzr_ifCond_lt, mzr_if_icmp_lt, mzr_ifCond_ge, mzr_if_icmp_ge, mzr_ifCond_gt, mzr_if_icmp_gt, mzr_ifCond_le, mzr_if_icmp_le, mzr_goto, mzr_iaload, mzr_baload, mzr_laload, mzr_aaload, mzr_iastore, mzr_bastore, mzr_lastore, mzr_arraylength, mzr_getfield, mzr_putfield, mzr_getstatic, mzr_ldc, mzr_ldc_w, mzr_ldc2_w, mzr_ireturn, mzr_return_, mzr_copy, mzr_static, mzr_virtual, mzr_new, mz_tk, mz_dp, mz_ln, mz_sz, mz_af_v, mz_af_s, mz_wp_s, mz_w1, mz_g, mz_st, mz_k, mz_s2, mz_nx, mz_en, mx_to, mz_c1, ↓reduceIte, Nat.reduceAdd, Nat.reduceSub, Nat.reduceMul, Nat.reduceMod, Nat.reduceDiv, Nat.reduceEqDiff, Nat.reduceLeDiff, Nat.reduceLT, Int.reduceAdd, Int.reduceSub, Int.reduceNeg, Int.reduceMul, Int.reduceLE, Int.reduceLT, Int.reduceEq, Int.reduceToNat, Int.reduceNegSucc, Int.cast_ofNat_Int, Int32.reduceToInt, Int64.reduceToInt, Int.zero_add, Int.add_zero, Fin.isValue, Fin.val_zero, Fin.val_one, Fin.val_two, reduceCtorEq, or_false, false_or, or_true, true_or, or_self, and_true, true_and, and_self, not_true_eq_false, not_false_eq_true, implies_true, forall_const, List.mem_cons, List.not_mem_nil, false_implies, true_implies, imp_false, Nat.zero_add, Option.some.injEq, Prod.mk.injEq]
      repeat' first | omega | refine mz_it (fun hh => ?_) (fun hh => ?_) | refine And.intro ?_ ?_
      exact lp2 n 0 (by omega)
  refine mz_CA_of mr_Ideal_isFree ?_
  simp only [mf_Ideal_isFree, mz_en, List.replicate, Nat.reduceSub, Nat.reduceAdd, Nat.reduceMul]
  apply mz_go hG 60 [2]
  simp only [mf_Ideal_isFree, ca_Ideal_isFree, dc_Ideal_isFree_0, dc_Ideal_isFree_1, dc_Ideal_isFree_2, dc_Ideal_isFree_3, dc_Ideal_isFree_4, dc_Ideal_isFree_5, fl_Ideal, sl_Ideal, sg_Ring_exponentOf, i0, d0, d4, d5, k272, mzr_iconst, mzr_bipush, mzr_sipush, mzr_lconst, mzr_iload, mzr_iload_n, mzr_aload, mzr_aload_n, mzr_lload, mzr_lload_n, mzr_istore, mzr_istore_n, mzr_astore, mzr_astore_n, mzr_lstore, mzr_lstore_n, mzr_iinc, mzr_iadd, mzr_isub, mzr_imul, mzr_iand, mzr_ior, mzr_ixor, mzr_ishl, mzr_ishr, mzr_iushr, mzr_idiv, mzr_irem, mzr_ineg, mzr_ladd, mzr_lsub, mzr_lmul, mzr_lrem, mzr_lcmp, mzr_i2l, mzr_l2i, mzr_i2b, mzr_dup, mzr_pop, mzr_dup2, mzr_ifCond_eq, mzr_if_icmp_eq, mzr_ifCond_ne, mzr_if_icmp_ne, mzr_ifCond_lt, mzr_if_icmp_lt, mzr_ifCond_ge, mzr_if_icmp_ge, mzr_ifCond_gt, mzr_if_icmp_gt, mzr_ifCond_le, mzr_if_icmp_le, mzr_goto, mzr_iaload, mzr_baload, mzr_laload, mzr_aaload, mzr_iastore, mzr_bastore, mzr_lastore, mzr_arraylength, mzr_getfield, mzr_putfield, mzr_getstatic, mzr_ldc, mzr_ldc_w, mzr_ldc2_w, mzr_ireturn, mzr_return_, mzr_copy, mzr_static, mzr_virtual, mzr_new, mz_tk, mz_dp, mz_ln, mz_sz, mz_af_v, mz_af_s, mz_wp_s, mz_w1, mz_g, mz_st, mz_k, mz_s2, mz_nx, mz_en, mx_to, mz_c1, ↓reduceIte, Nat.reduceAdd, Nat.reduceSub, Nat.reduceMul, Nat.reduceMod, Nat.reduceDiv, Nat.reduceEqDiff, Nat.reduceLeDiff, Nat.reduceLT, Int.reduceAdd, Int.reduceSub, Int.reduceNeg, Int.reduceMul, Int.reduceLE, Int.reduceLT, Int.reduceEq, Int.reduceToNat, Int.reduceNegSucc, Int.cast_ofNat_Int, Int32.reduceToInt, Int64.reduceToInt, Int.zero_add, Int.add_zero, Fin.isValue, Fin.val_zero, Fin.val_one, Fin.val_two, reduceCtorEq, or_false, false_or, or_true, true_or, or_self, and_true, true_and, and_self, not_true_eq_false, not_false_eq_true, implies_true, forall_const, List.mem_cons, List.not_mem_nil, false_implies, true_implies, imp_false, Nat.zero_add, Option.some.injEq, Prod.mk.injEq]
  repeat' first | omega | refine mz_it (fun hh => ?_) (fun hh => ?_) | refine And.intro ?_ ?_
  exact lp1 K 0 _ _ (by omega) (fun j hj => by omega)
def sp_dm (n o K : Nat) (c : Nat → Nat) (z : Int) (k : Nat) : Prop :=
  (z = -1 ∧ ∀ x, x < k → ¬ fr_P n o K c x) ∨ ∃ x, x < k ∧ fr_P n o K c x ∧ z = sp_pc x ∧ ∀ y, y < k → fr_P n o K c y → sp_pc y ≤ sp_pc x
theorem sp_dm_u {n o K : Nat} {c : Nat → Nat} {z z' : Int} {k : Nat} (h : sp_dm n o K c z k) (g : sp_dm n o K c z' k) : z = z' := by
  rcases h with ⟨a, b⟩ | ⟨x, a, b, c', d⟩
  · rcases g with ⟨a', b'⟩ | ⟨x', a', b', c'', d'⟩
    · rw [a, a']
    · exact absurd b' (b x' a')
  · rcases g with ⟨a', b'⟩ | ⟨x', a', b', c'', d'⟩
    · exact absurd b (b' x a)
    · have := d x' a' b'
      have := d' x a b
      omega
theorem sp_pc_b : ∀ x, x < 16 → sp_pc x ≤ 4 := by decide +kernel
set_option maxRecDepth 100000 in
theorem ct_dimension {e : mz_E} (d : Nat) {i r K : Nat} {p : Int} {n o : Nat} {c : Nat → Nat} {H : mz_H} {P : mz_O → mz_H → Prop} (hG : mx_G e.1) (hI : id_E e i) (hR : rg_E e r) (hok : tb_ok n o) (hS : rg_S H r p n o) (hK : H.2.1 i 6 = K) (hK126 : K ≤ 126) (hc : ∀ k, k < K → H.2.1 (i + 272) k = c k ∧ c k < tb_N n)
    (hP : ∀ z, sp_dm n o K c z (2 ^ n) → P (.inl (some (.inl z))) H) : mz_CA e (d + 2) j_Ideal_dimension [.inr (.inl i), .inr (.inl r)] H P := by
  have hR' := hR
  have hI' := hI
  have hn4 := hok.2.1
  have hn1 := hok.1
  have i0' := hI.1
  have h16 : 2 ^ n ≤ 16 := by
    obtain rfl | rfl | rfl | rfl : n = 1 ∨ n = 2 ∨ n = 3 ∨ n = 4 := by omega
    all_goals decide
  obtain ⟨r0, f5, f6, f7, f8, f9, f10, f11, f12, f13, f14, k1, k2, k3, k4, k5, k6, k7, k8, k9, k10⟩ := hR
  have z1 := hS.2.1
  have hb2 := bo_2 n (by omega)
  have lp : ∀ (m x : Nat) (z : Int), x + m = 2 ^ n → -1 ≤ z → z ≤ 4 → sp_dm n o K c z x → mz_V e (d + 2) mm_Ideal_dimension 4 [some (.inr (.inl i)), some (.inr (.inl r)), some (.inl z), some (.inl (x : Int))] [] H P := by
    intro m
    induction m with
    | zero =>
      intro x z h1 h2 h3 h4
      have hxe : (x : Int) = ((2 ^ n : Nat) : Int) := by omega
      apply mz_go hG 60 [4]
      simp only [mf_Ideal_dimension, ca_Ideal_dimension, dc_Ideal_dimension_0, dc_Ideal_dimension_1, dc_Ideal_dimension_2, fl_Ideal, sl_Ideal, sg_Ideal_isFree, sg_Integer_bitCount, sg_Math_max, cpn_space_0, mx_cp_r, r0, f5, f6, f7, f8, f9, f10, f11, f12, f13, f14, k1, k2, k3, k4, k5, k6, k7, k8, k9, k10, z1, hb2, mzr_iconst, mzr_bipush, mzr_sipush, mzr_lconst, mzr_iload, mzr_iload_n, mzr_aload, mzr_aload_n, mzr_lload, mzr_lload_n, mzr_istore, mzr_istore_n, mzr_astore, mzr_astore_n, mzr_lstore, mzr_lstore_n, mzr_iinc, mzr_iadd, mzr_isub, mzr_imul, mzr_iand, mzr_ior, mzr_ixor, mzr_ishl, mzr_ishr, mzr_iushr, mzr_idiv, mzr_irem, mzr_ineg, mzr_ladd, mzr_lsub, mzr_lmul, mzr_lrem, mzr_lcmp, mzr_i2l, mzr_l2i, mzr_i2b, mzr_dup, mzr_pop, mzr_dup2, mzr_ifCond_eq, mzr_if_icmp_eq, mzr_ifCond_ne, mzr_if_icmp_ne, mzr_ifCond_lt, mzr_if_icmp_lt, mzr_ifCond_ge, mzr_if_icmp_ge, mzr_ifCond_gt, mzr_if_icmp_gt, mzr_ifCond_le, mzr_if_icmp_le, mzr_goto, mzr_iaload, mzr_baload, mzr_laload, mzr_aaload, mzr_iastore, mzr_bastore, mzr_lastore, mzr_arraylength, mzr_getfield, mzr_putfield, mzr_getstatic, mzr_ldc, mzr_ldc_w, mzr_ldc2_w, mzr_ireturn, mzr_return_, mzr_copy, mzr_static, mzr_virtual, mzr_new, mz_tk, mz_dp, mz_ln, mz_sz, mz_af_v, mz_af_s, mz_wp_s, mz_w1, mz_g, mz_st, mz_k, mz_s2, mz_nx, mz_en, mx_to, mz_c1, ↓reduceIte, Nat.reduceAdd, Nat.reduceSub, Nat.reduceMul, Nat.reduceMod, Nat.reduceDiv, Nat.reduceEqDiff, Nat.reduceLeDiff, Nat.reduceLT, Int.reduceAdd, Int.reduceSub, Int.reduceNeg, Int.reduceMul, Int.reduceLE, Int.reduceLT, Int.reduceEq, Int.reduceToNat, Int.reduceNegSucc, Int.cast_ofNat_Int, Int32.reduceToInt, Int64.reduceToInt, Int.zero_add, Int.add_zero, Fin.isValue, Fin.val_zero, Fin.val_one, Fin.val_two, reduceCtorEq, or_false, false_or, or_true, true_or, or_self, and_true, true_and, and_self, not_true_eq_false, not_false_eq_true, implies_true, forall_const, List.mem_cons, List.not_mem_nil, false_implies, true_implies, imp_false, Nat.zero_add, Option.some.injEq, Prod.mk.injEq]
      repeat' first | omega | refine mz_it (fun hh => ?_) (fun hh => ?_) | refine And.intro ?_ ?_
      have hx2 : x = 2 ^ n := by omega
      rw [hx2] at h4
      exact hP z h4
    | succ m ih =>
      intro x z h1 h2 h3 h4
      have hx16 : x < 16 := by omega
      have hxl : ¬ ((2 ^ n : Nat) : Int) ≤ (x : Int) := by omega
      have hpb := sp_pc_b x hx16
      apply mz_go hG 60 [4]
      simp only [mf_Ideal_dimension, ca_Ideal_dimension, dc_Ideal_dimension_0, dc_Ideal_dimension_1, dc_Ideal_dimension_2, fl_Ideal, sl_Ideal, sg_Ideal_isFree, sg_Integer_bitCount, sg_Math_max, cpn_space_0, mx_cp_r, r0, f5, f6, f7, f8, f9, f10, f11, f12, f13, f14, k1, k2, k3, k4, k5, k6, k7, k8, k9, k10, z1, hb2, i0', mzr_iconst, mzr_bipush, mzr_sipush, mzr_lconst, mzr_iload, mzr_iload_n, mzr_aload, mzr_aload_n, mzr_lload, mzr_lload_n, mzr_istore, mzr_istore_n, mzr_astore, mzr_astore_n, mzr_lstore, mzr_lstore_n, mzr_iinc, mzr_iadd, mzr_isub, mzr_imul, mzr_iand, mzr_ior, mzr_ixor, mzr_ishl, mzr_ishr, mzr_iushr, mzr_idiv, mzr_irem, mzr_ineg, mzr_ladd, mzr_lsub, mzr_lmul, mzr_lrem, mzr_lcmp, mzr_i2l, mzr_l2i, mzr_i2b, mzr_dup, mzr_pop, mzr_dup2, mzr_ifCond_eq, mzr_if_icmp_eq, mzr_ifCond_ne, mzr_if_icmp_ne, mzr_ifCond_lt, mzr_if_icmp_lt, mzr_ifCond_ge, mzr_if_icmp_ge, mzr_ifCond_gt, mzr_if_icmp_gt, mzr_ifCond_le, mzr_if_icmp_le, mzr_goto, mzr_iaload, mzr_baload, mzr_laload, mzr_aaload, mzr_iastore, mzr_bastore, mzr_lastore, mzr_arraylength, mzr_getfield, mzr_putfield, mzr_getstatic, mzr_ldc, mzr_ldc_w, mzr_ldc2_w, mzr_ireturn, mzr_return_, mzr_copy, mzr_static, mzr_virtual, mzr_new, mz_tk, mz_dp, mz_ln, mz_sz, mz_af_v, mz_af_s, mz_wp_s, mz_w1, mz_g, mz_st, mz_k, mz_s2, mz_nx, mz_en, mx_to, mz_c1, ↓reduceIte, Nat.reduceAdd, Nat.reduceSub, Nat.reduceMul, Nat.reduceMod, Nat.reduceDiv, Nat.reduceEqDiff, Nat.reduceLeDiff, Nat.reduceLT, Int.reduceAdd, Int.reduceSub, Int.reduceNeg, Int.reduceMul, Int.reduceLE, Int.reduceLT, Int.reduceEq, Int.reduceToNat, Int.reduceNegSucc, Int.cast_ofNat_Int, Int32.reduceToInt, Int64.reduceToInt, Int.zero_add, Int.add_zero, Fin.isValue, Fin.val_zero, Fin.val_one, Fin.val_two, reduceCtorEq, or_false, false_or, or_true, true_or, or_self, and_true, true_and, and_self, not_true_eq_false, not_false_eq_true, implies_true, forall_const, List.mem_cons, List.not_mem_nil, false_implies, true_implies, imp_false, Nat.zero_add, Option.some.injEq, Prod.mk.injEq]
      repeat' first | omega | refine mz_it (fun hh => ?_) (fun hh => ?_) | refine And.intro ?_ ?_
      refine ct_isFree d hG hI' hR' hok hS hK hK126 hc hx16 (fun hf => ?_) (fun hf => ?_)
      · simp only [mf_Ideal_dimension, ca_Ideal_dimension, dc_Ideal_dimension_0, dc_Ideal_dimension_1, dc_Ideal_dimension_2, fl_Ideal, sl_Ideal, sg_Ideal_isFree, sg_Integer_bitCount, sg_Math_max, cpn_space_0, mx_cp_r, r0, f5, f6, f7, f8, f9, f10, f11, f12, f13, f14, k1, k2, k3, k4, k5, k6, k7, k8, k9, k10, mzr_iconst, mzr_bipush, mzr_sipush, mzr_lconst, mzr_iload, mzr_iload_n, mzr_aload, mzr_aload_n, mzr_lload, mzr_lload_n, mzr_istore, mzr_istore_n, mzr_astore, mzr_astore_n, mzr_lstore, mzr_lstore_n, mzr_iinc, mzr_iadd, mzr_isub, mzr_imul, mzr_iand, mzr_ior, mzr_ixor, mzr_ishl, mzr_ishr, mzr_iushr, mzr_idiv, mzr_irem, mzr_ineg, mzr_ladd, mzr_lsub, mzr_lmul, mzr_lrem, mzr_lcmp, mzr_i2l, mzr_l2i, mzr_i2b, mzr_dup, mzr_pop, mzr_dup2, mzr_ifCond_eq, mzr_if_icmp_eq, mzr_ifCond_ne, mzr_if_icmp_ne, mzr_ifCond_lt, mzr_if_icmp_lt, mzr_ifCond_ge, mzr_if_icmp_ge, mzr_ifCond_gt, mzr_if_icmp_gt, mzr_ifCond_le, mzr_if_icmp_le, mzr_goto, mzr_iaload, mzr_baload, mzr_laload, mzr_aaload, mzr_iastore, mzr_bastore, mzr_lastore, mzr_arraylength, mzr_getfield, mzr_putfield, mzr_getstatic, mzr_ldc, mzr_ldc_w, mzr_ldc2_w, mzr_ireturn, mzr_return_, mzr_copy, mzr_static, mzr_virtual, mzr_new, mz_tk, mz_dp, mz_ln, mz_sz, mz_af_v, mz_af_s, mz_wp_s, mz_w1, mz_g, mz_st, mz_k, mz_s2, mz_nx, mz_en, mx_to, mz_c1, ↓reduceIte, Nat.reduceAdd, Nat.reduceSub, Nat.reduceMul, Nat.reduceMod, Nat.reduceDiv, Nat.reduceEqDiff, Nat.reduceLeDiff, Nat.reduceLT, Int.reduceAdd, Int.reduceSub, Int.reduceNeg, Int.reduceMul, Int.reduceLE, Int.reduceLT, Int.reduceEq, Int.reduceToNat, Int.reduceNegSucc, Int.cast_ofNat_Int, Int32.reduceToInt, Int64.reduceToInt, Int.zero_add, Int.add_zero, Fin.isValue, Fin.val_zero, Fin.val_one, Fin.val_two, reduceCtorEq, or_false, false_or, or_true, true_or, or_self, and_true, true_and, and_self, not_true_eq_false, not_false_eq_true, implies_true, forall_const, List.mem_cons, List.not_mem_nil, false_implies, true_implies, imp_false, Nat.zero_add, Option.some.injEq, Prod.mk.injEq]
        repeat' first | omega | refine mz_it (fun hh => ?_) (fun hh => ?_) | refine And.intro ?_ ?_
        refine ct_bitCount (d + 1) hG hx16 ?_
        simp only [mf_Ideal_dimension, ca_Ideal_dimension, dc_Ideal_dimension_0, dc_Ideal_dimension_1, dc_Ideal_dimension_2, fl_Ideal, sl_Ideal, sg_Ideal_isFree, sg_Integer_bitCount, sg_Math_max, cpn_space_0, mx_cp_r, r0, f5, f6, f7, f8, f9, f10, f11, f12, f13, f14, k1, k2, k3, k4, k5, k6, k7, k8, k9, k10, mzr_iconst, mzr_bipush, mzr_sipush, mzr_lconst, mzr_iload, mzr_iload_n, mzr_aload, mzr_aload_n, mzr_lload, mzr_lload_n, mzr_istore, mzr_istore_n, mzr_astore, mzr_astore_n, mzr_lstore, mzr_lstore_n, mzr_iinc, mzr_iadd, mzr_isub, mzr_imul, mzr_iand, mzr_ior, mzr_ixor, mzr_ishl, mzr_ishr, mzr_iushr, mzr_idiv, mzr_irem, mzr_ineg, mzr_ladd, mzr_lsub, mzr_lmul, mzr_lrem, mzr_lcmp, mzr_i2l, mzr_l2i, mzr_i2b, mzr_dup, mzr_pop, mzr_dup2, mzr_ifCond_eq, mzr_if_icmp_eq, mzr_ifCond_ne, mzr_if_icmp_ne, mzr_ifCond_lt, mzr_if_icmp_lt, mzr_ifCond_ge, mzr_if_icmp_ge, mzr_ifCond_gt, mzr_if_icmp_gt, mzr_ifCond_le, mzr_if_icmp_le, mzr_goto, mzr_iaload, mzr_baload, mzr_laload, mzr_aaload, mzr_iastore, mzr_bastore, mzr_lastore, mzr_arraylength, mzr_getfield, mzr_putfield, mzr_getstatic, mzr_ldc, mzr_ldc_w, mzr_ldc2_w, mzr_ireturn, mzr_return_, mzr_copy, mzr_static, mzr_virtual, mzr_new, mz_tk, mz_dp, mz_ln, mz_sz, mz_af_v, mz_af_s, mz_wp_s, mz_w1, mz_g, mz_st, mz_k, mz_s2, mz_nx, mz_en, mx_to, mz_c1, ↓reduceIte, Nat.reduceAdd, Nat.reduceSub, Nat.reduceMul, Nat.reduceMod, Nat.reduceDiv, Nat.reduceEqDiff, Nat.reduceLeDiff, Nat.reduceLT, Int.reduceAdd, Int.reduceSub, Int.reduceNeg, Int.reduceMul, Int.reduceLE, Int.reduceLT, Int.reduceEq, Int.reduceToNat, Int.reduceNegSucc, Int.cast_ofNat_Int, Int32.reduceToInt, Int64.reduceToInt, Int.zero_add, Int.add_zero, Fin.isValue, Fin.val_zero, Fin.val_one, Fin.val_two, reduceCtorEq, or_false, false_or, or_true, true_or, or_self, and_true, true_and, and_self, not_true_eq_false, not_false_eq_true, implies_true, forall_const, List.mem_cons, List.not_mem_nil, false_implies, true_implies, imp_false, Nat.zero_add, Option.some.injEq, Prod.mk.injEq]
        repeat' first | omega | refine mz_it (fun hh => ?_) (fun hh => ?_) | refine And.intro ?_ ?_
        refine ct_max (d + 1) hG ?_
        simp only [mf_Ideal_dimension, ca_Ideal_dimension, dc_Ideal_dimension_0, dc_Ideal_dimension_1, dc_Ideal_dimension_2, fl_Ideal, sl_Ideal, sg_Ideal_isFree, sg_Integer_bitCount, sg_Math_max, cpn_space_0, mx_cp_r, r0, f5, f6, f7, f8, f9, f10, f11, f12, f13, f14, k1, k2, k3, k4, k5, k6, k7, k8, k9, k10, mzr_iconst, mzr_bipush, mzr_sipush, mzr_lconst, mzr_iload, mzr_iload_n, mzr_aload, mzr_aload_n, mzr_lload, mzr_lload_n, mzr_istore, mzr_istore_n, mzr_astore, mzr_astore_n, mzr_lstore, mzr_lstore_n, mzr_iinc, mzr_iadd, mzr_isub, mzr_imul, mzr_iand, mzr_ior, mzr_ixor, mzr_ishl, mzr_ishr, mzr_iushr, mzr_idiv, mzr_irem, mzr_ineg, mzr_ladd, mzr_lsub, mzr_lmul, mzr_lrem, mzr_lcmp, mzr_i2l, mzr_l2i, mzr_i2b, mzr_dup, mzr_pop, mzr_dup2, mzr_ifCond_eq, mzr_if_icmp_eq, mzr_ifCond_ne, mzr_if_icmp_ne, mzr_ifCond_lt, mzr_if_icmp_lt, mzr_ifCond_ge, mzr_if_icmp_ge, mzr_ifCond_gt, mzr_if_icmp_gt, mzr_ifCond_le, mzr_if_icmp_le, mzr_goto, mzr_iaload, mzr_baload, mzr_laload, mzr_aaload, mzr_iastore, mzr_bastore, mzr_lastore, mzr_arraylength, mzr_getfield, mzr_putfield, mzr_getstatic, mzr_ldc, mzr_ldc_w, mzr_ldc2_w, mzr_ireturn, mzr_return_, mzr_copy, mzr_static, mzr_virtual, mzr_new, mz_tk, mz_dp, mz_ln, mz_sz, mz_af_v, mz_af_s, mz_wp_s, mz_w1, mz_g, mz_st, mz_k, mz_s2, mz_nx, mz_en, mx_to, mz_c1, ↓reduceIte, Nat.reduceAdd, Nat.reduceSub, Nat.reduceMul, Nat.reduceMod, Nat.reduceDiv, Nat.reduceEqDiff, Nat.reduceLeDiff, Nat.reduceLT, Int.reduceAdd, Int.reduceSub, Int.reduceNeg, Int.reduceMul, Int.reduceLE, Int.reduceLT, Int.reduceEq, Int.reduceToNat, Int.reduceNegSucc, Int.cast_ofNat_Int, Int32.reduceToInt, Int64.reduceToInt, Int.zero_add, Int.add_zero, Fin.isValue, Fin.val_zero, Fin.val_one, Fin.val_two, reduceCtorEq, or_false, false_or, or_true, true_or, or_self, and_true, true_and, and_self, not_true_eq_false, not_false_eq_true, implies_true, forall_const, List.mem_cons, List.not_mem_nil, false_implies, true_implies, imp_false, Nat.zero_add, Option.some.injEq, Prod.mk.injEq]
        repeat' first | omega | refine mz_it (fun hh => ?_) (fun hh => ?_) | refine And.intro ?_ ?_
        rw [show (x : Int) + 1 = ((x + 1 : Nat) : Int) by omega]
        refine ih (x + 1) _ (by omega) (by omega) (by omega) ?_
        rcases h4 with ⟨a, b⟩ | ⟨y, a, b, c', dd⟩
        · right
          refine ⟨x, by omega, hf, by omega, fun y hy hfy => ?_⟩
          by_cases hyx : y = x
          · rw [hyx]; exact Nat.le_refl _
          · exact absurd hfy (b y (by omega))
        · right
          by_cases hle : sp_pc x ≤ sp_pc y
          · refine ⟨y, by omega, b, by omega, fun w hw hfw => ?_⟩
            by_cases hwx : w = x
            · rw [hwx]; exact hle
            · exact dd w (by omega) hfw
          · refine ⟨x, by omega, hf, by omega, fun w hw hfw => ?_⟩
            by_cases hwx : w = x
            · rw [hwx]; exact Nat.le_refl _
            · have := dd w (by omega) hfw
              omega
      · simp only [mf_Ideal_dimension, ca_Ideal_dimension, dc_Ideal_dimension_0, dc_Ideal_dimension_1, dc_Ideal_dimension_2, fl_Ideal, sl_Ideal, sg_Ideal_isFree, sg_Integer_bitCount, sg_Math_max, cpn_space_0, mx_cp_r, r0, f5, f6, f7, f8, f9, f10, f11, f12, f13, f14, k1, k2, k3, k4, k5, k6, k7, k8, k9, k10, mzr_iconst, mzr_bipush, mzr_sipush, mzr_lconst, mzr_iload, mzr_iload_n, mzr_aload, mzr_aload_n, mzr_lload, mzr_lload_n, mzr_istore, mzr_istore_n, mzr_astore, mzr_astore_n, mzr_lstore, mzr_lstore_n, mzr_iinc, mzr_iadd, mzr_isub, mzr_imul, mzr_iand, mzr_ior, mzr_ixor, mzr_ishl, mzr_ishr, mzr_iushr, mzr_idiv, mzr_irem, mzr_ineg, mzr_ladd, mzr_lsub, mzr_lmul, mzr_lrem, mzr_lcmp, mzr_i2l, mzr_l2i, mzr_i2b, mzr_dup, mzr_pop, mzr_dup2, mzr_ifCond_eq, mzr_if_icmp_eq, mzr_ifCond_ne, mzr_if_icmp_ne, mzr_ifCond_lt, mzr_if_icmp_lt, mzr_ifCond_ge, mzr_if_icmp_ge, mzr_ifCond_gt, mzr_if_icmp_gt, mzr_ifCond_le, mzr_if_icmp_le, mzr_goto, mzr_iaload, mzr_baload, mzr_laload, mzr_aaload, mzr_iastore, mzr_bastore, mzr_lastore, mzr_arraylength, mzr_getfield, mzr_putfield, mzr_getstatic, mzr_ldc, mzr_ldc_w, mzr_ldc2_w, mzr_ireturn, mzr_return_, mzr_copy, mzr_static, mzr_virtual, mzr_new, mz_tk, mz_dp, mz_ln, mz_sz, mz_af_v, mz_af_s, mz_wp_s, mz_w1, mz_g, mz_st, mz_k, mz_s2, mz_nx, mz_en, mx_to, mz_c1, ↓reduceIte, Nat.reduceAdd, Nat.reduceSub, Nat.reduceMul, Nat.reduceMod, Nat.reduceDiv, Nat.reduceEqDiff, Nat.reduceLeDiff, Nat.reduceLT, Int.reduceAdd, Int.reduceSub, Int.reduceNeg, Int.reduceMul, Int.reduceLE, Int.reduceLT, Int.reduceEq, Int.reduceToNat, Int.reduceNegSucc, Int.cast_ofNat_Int, Int32.reduceToInt, Int64.reduceToInt, Int.zero_add, Int.add_zero, Fin.isValue, Fin.val_zero, Fin.val_one, Fin.val_two, reduceCtorEq, or_false, false_or, or_true, true_or, or_self, and_true, true_and, and_self, not_true_eq_false, not_false_eq_true, implies_true, forall_const, List.mem_cons, List.not_mem_nil, false_implies, true_implies, imp_false, Nat.zero_add, Option.some.injEq, Prod.mk.injEq]
        repeat' first | omega | refine mz_it (fun hh => ?_) (fun hh => ?_) | refine And.intro ?_ ?_
        rw [show (x : Int) + 1 = ((x + 1 : Nat) : Int) by omega]
        refine ih (x + 1) z (by omega) h2 h3 ?_
        rcases h4 with ⟨a, b⟩ | ⟨y, a, b, c', dd⟩
        · left
          refine ⟨a, fun y hy hfy => ?_⟩
          by_cases hyx : y = x
          · exact hf (hyx ▸ hfy)
          · exact b y (by omega) hfy
        · right
          refine ⟨y, by omega, b, c', fun w hw hfw => ?_⟩
          by_cases hwx : w = x
          · exact absurd (hwx ▸ hfw) hf
          · exact dd w (by omega) hfw
  refine mz_CA_of mr_Ideal_dimension ?_
  simp only [mf_Ideal_dimension, mz_en, List.replicate, Nat.reduceSub, Nat.reduceAdd, Nat.reduceMul]
  apply mz_go hG 60 [4]
  simp only [mf_Ideal_dimension, ca_Ideal_dimension, dc_Ideal_dimension_0, dc_Ideal_dimension_1, dc_Ideal_dimension_2, fl_Ideal, sl_Ideal, sg_Ideal_isFree, sg_Integer_bitCount, sg_Math_max, cpn_space_0, mx_cp_r, mzr_iconst, mzr_bipush, mzr_sipush, mzr_lconst, mzr_iload, mzr_iload_n, mzr_aload, mzr_aload_n, mzr_lload, mzr_lload_n, mzr_istore, mzr_istore_n, mzr_astore, mzr_astore_n, mzr_lstore, mzr_lstore_n, mzr_iinc, mzr_iadd, mzr_isub, mzr_imul, mzr_iand, mzr_ior, mzr_ixor, mzr_ishl, mzr_ishr, mzr_iushr, mzr_idiv, mzr_irem, mzr_ineg, mzr_ladd, mzr_lsub, mzr_lmul, mzr_lrem, mzr_lcmp, mzr_i2l, mzr_l2i, mzr_i2b, mzr_dup, mzr_pop, mzr_dup2, mzr_ifCond_eq, mzr_if_icmp_eq, mzr_ifCond_ne, mzr_if_icmp_ne, mzr_ifCond_lt, mzr_if_icmp_lt, mzr_ifCond_ge, mzr_if_icmp_ge, mzr_ifCond_gt, mzr_if_icmp_gt, mzr_ifCond_le, mzr_if_icmp_le, mzr_goto, mzr_iaload, mzr_baload, mzr_laload, mzr_aaload, mzr_iastore, mzr_bastore, mzr_lastore, mzr_arraylength, mzr_getfield, mzr_putfield, mzr_getstatic, mzr_ldc, mzr_ldc_w, mzr_ldc2_w, mzr_ireturn, mzr_return_, mzr_copy, mzr_static, mzr_virtual, mzr_new, mz_tk, mz_dp, mz_ln, mz_sz, mz_af_v, mz_af_s, mz_wp_s, mz_w1, mz_g, mz_st, mz_k, mz_s2, mz_nx, mz_en, mx_to, mz_c1, ↓reduceIte, Nat.reduceAdd, Nat.reduceSub, Nat.reduceMul, Nat.reduceMod, Nat.reduceDiv, Nat.reduceEqDiff, Nat.reduceLeDiff, Nat.reduceLT, Int.reduceAdd, Int.reduceSub, Int.reduceNeg, Int.reduceMul, Int.reduceLE, Int.reduceLT, Int.reduceEq, Int.reduceToNat, Int.reduceNegSucc, Int.cast_ofNat_Int, Int32.reduceToInt, Int64.reduceToInt, Int.zero_add, Int.add_zero, Fin.isValue, Fin.val_zero, Fin.val_one, Fin.val_two, reduceCtorEq, or_false, false_or, or_true, true_or, or_self, and_true, true_and, and_self, not_true_eq_false, not_false_eq_true, implies_true, forall_const, List.mem_cons, List.not_mem_nil, false_implies, true_implies, imp_false, Nat.zero_add, Option.some.injEq, Prod.mk.injEq]
  repeat' first | omega | refine mz_it (fun hh => ?_) (fun hh => ?_) | refine And.intro ?_ ?_
  exact lp (2 ^ n) 0 (-1) (by omega) (by omega) (by omega) (Or.inl ⟨rfl, fun x hx => by omega⟩)
