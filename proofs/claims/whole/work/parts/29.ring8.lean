theorem tb_c_e (n v x : Nat) (hv : v < 4) : tb_c n (tb_s (0, 0, 0, 0) v x) = x * tb_w n v := by
  unfold tb_c
  obtain rfl | rfl | rfl | rfl : v = 0 ∨ v = 1 ∨ v = 2 ∨ v = 3 := by omega
  all_goals
    simp only [tb_s]; omega
theorem tb_w_b {n : Nat} (h1 : 1 ≤ n) (h4 : n ≤ 4) {v : Nat} (hv : v < 4) : tb_w n v ≤ 216 := by
  unfold tb_w
  obtain rfl | rfl | rfl | rfl : n = 1 ∨ n = 2 ∨ n = 3 ∨ n = 4 := by omega
  all_goals
    obtain rfl | rfl | rfl | rfl : v = 0 ∨ v = 1 ∨ v = 2 ∨ v = 3 := by omega
    all_goals decide
set_option maxRecDepth 100000 in
theorem lp_line {e : mz_E} {d : Nat} {r a l v : Nat} {p : Int} {n o : Nat} {H : mz_H} {P : mz_O → mz_H → Prop} (hG : mx_G e.1) (hR : rg_E e r) (hok : tb_ok n o) (hv : v < n)
    (ha : e.2.1 a = some (20, 126)) (hl : e.2.1 l = some (20, 31)) (hla : l ≠ a) (hlr : ∀ i, i ≤ 8 → r + i ≠ l) (hS : rg_S H r p n o)
    (hP : ∀ h, mz_fr H h [l] → (∀ x, x ≤ tb_h n → h.2.1 l x = H.2.1 a (tb_I n o (tb_s (0, 0, 0, 0) v x))) → P (.inl (some (.inl (sp_top (fun x => H.2.1 a (tb_I n o (tb_s (0, 0, 0, 0) v x))) (tb_h n + 1))))) h) :
    ∀ k i (H1 : mz_H) o6, i + k = tb_h n + 1 → mz_fr H H1 [l] → (∀ x, x < i → H1.2.1 l x = H.2.1 a (tb_I n o (tb_s (0, 0, 0, 0) v x))) →
    mz_V e (d + 1) mm_Ring_lineInto 6 [some (.inr (.inl r)), some (.inr (.inl a)), some (.inl (v : Int)), some (.inr (.inl l)), some (.inl (sp_top (fun x => H.2.1 a (tb_I n o (tb_s (0, 0, 0, 0) v x))) i)), some (.inl (i : Int)), o6] [] H1 P := by
  have hR' := hR
  obtain ⟨r0, f5, f6, f7, f8, f9, f10, f11, f12, f13, f14, k1, k2, k3, k4, k5, k6, k7, k8, k9, k10⟩ := hR
  have hN := tb_N_b n
  have hn4 := hok.2.1
  have hh0 := tb_h_b n
  intro k
  induction k with
  | zero =>
    intro i H1 o6 h1 h2 h3
    obtain rfl : i = tb_h n + 1 := by omega
    have q1 := (hS.fr h2 (fun i hi => by simp; exact hlr i hi)).2.2.2.1
    apply mz_go hG 60 [6]
    simp only [mf_Ring_lineInto, ca_Ring_lineInto, dc_Ring_lineInto_0, dc_Ring_lineInto_1, dc_Ring_lineInto_2, dc_Ring_lineInto_3, dc_Ring_lineInto_4, dc_Ring_lineInto_5, fl_Ring, sl_Ring, sg_Ring_placeOf, ha, hl, r0, f5, f6, f7, f8, f9, f10, f11, f12, f13, f14, k1, k2, k3, k4, k5, k6, k7, k8, k9, k10, Int.toNat_natCast, q1, mzr_iconst, mzr_bipush, mzr_sipush, mzr_lconst, mzr_iload, mzr_iload_n, mzr_aload, mzr_aload_n, mzr_lload, mzr_lload_n, mzr_istore, mzr_istore_n, mzr_astore, mzr_astore_n, mzr_lstore, mzr_lstore_n, mzr_iinc, mzr_iadd, mzr_isub, mzr_imul, mzr_iand, mzr_ior, mzr_ixor, mzr_ishl, mzr_ishr, mzr_iushr, mzr_idiv, mzr_irem, mzr_ineg, mzr_ladd, mzr_lsub, mzr_lmul, mzr_lrem, mzr_lcmp, mzr_i2l, mzr_l2i, mzr_i2b, mzr_dup, mzr_pop, mzr_dup2, mzr_ifCond_eq, mzr_if_icmp_eq, mzr_ifCond_ne, mzr_if_icmp_ne, mzr_ifCond_lt, mzr_if_icmp_lt, mzr_ifCond_ge, mzr_if_icmp_ge, mzr_ifCond_gt, mzr_if_icmp_gt, mzr_ifCond_le, mzr_if_icmp_le, mzr_goto, mzr_iaload, mzr_baload, mzr_laload, mzr_aaload, mzr_iastore, mzr_bastore, mzr_lastore, mzr_arraylength, mzr_getfield, mzr_putfield, mzr_getstatic, mzr_ldc, mzr_ldc_w, mzr_ldc2_w, mzr_ireturn, mzr_return_, mzr_copy, mzr_static, mzr_virtual, mzr_new, mz_tk, mz_dp, mz_ln, mz_sz, mz_af_v, mz_af_s, mz_wp_s, mz_w1, mz_g, mz_st, mz_k, mz_s2, mz_nx, mz_en, mx_to, mz_c1, ↓reduceIte, Nat.reduceAdd, Nat.reduceSub, Nat.reduceMul, Nat.reduceMod, Nat.reduceDiv, Nat.reduceEqDiff, Nat.reduceLeDiff, Nat.reduceLT, Int.reduceAdd, Int.reduceSub, Int.reduceNeg, Int.reduceMul, Int.reduceLE, Int.reduceLT, Int.reduceEq, Int.reduceToNat, Int.reduceNegSucc, Int.cast_ofNat_Int, Int32.reduceToInt, Int64.reduceToInt, Int.zero_add, Int.add_zero, Fin.isValue, Fin.val_zero, Fin.val_one, Fin.val_two, reduceCtorEq, or_false, false_or, or_true, true_or, or_self, and_true, true_and, and_self, not_true_eq_false, not_false_eq_true, implies_true, forall_const, List.mem_cons, List.not_mem_nil, false_implies, true_implies, imp_false, Nat.zero_add, Option.some.injEq, Prod.mk.injEq]
    repeat' first | omega | refine mz_it (fun hh => ?_) (fun hh => ?_) | refine And.intro ?_ ?_
    exact hP H1 h2 (fun x hx => h3 x (by omega))
  | succ k ih =>
    intro i H1 o6 h1 h2 h3
    have hS1 := hS.fr h2 (fun i hi => by simp; exact hlr i hi)
    have q1 := hS1.2.2.2.1
    have q7 := hS1.2.2.2.2.2.2.2.2.2.1 v (by omega)
    have hs := tb_s_e (e := i) hv hn4
    have hd2 : al_dg (tb_s (0, 0, 0, 0) v i) ≤ tb_h n := by omega
    obtain ⟨i1, i2⟩ := tb_T_I hok hs.1 hd2
    have c1 := tb_c_e n v i (by omega)
    have c2 := tb_c_b hok.1 hok.2.1 hs.1 hd2
    have c3 := hS1.2.2.2.2.2.2.2.2.2.2.1 _ i1
    rw [i2] at c3
    have c4 : (i : Int) * (tb_w n v : Int) = (tb_c n (tb_s (0, 0, 0, 0) v i) : Int) := by rw [c1]; push_cast; rfl
    have q2 : H1.2.1 a (tb_I n o (tb_s (0, 0, 0, 0) v i)) = H.2.1 a (tb_I n o (tb_s (0, 0, 0, 0) v i)) := by rw [h2.2.2 a (by simp; omega)]
    apply mz_go hG 80 [6]
    simp only [mf_Ring_lineInto, ca_Ring_lineInto, dc_Ring_lineInto_0, dc_Ring_lineInto_1, dc_Ring_lineInto_2, dc_Ring_lineInto_3, dc_Ring_lineInto_4, dc_Ring_lineInto_5, fl_Ring, sl_Ring, sg_Ring_placeOf, ha, hl, r0, f5, f6, f7, f8, f9, f10, f11, f12, f13, f14, k1, k2, k3, k4, k5, k6, k7, k8, k9, k10, Int.toNat_natCast, q1, q7, c4, mzr_iconst, mzr_bipush, mzr_sipush, mzr_lconst, mzr_iload, mzr_iload_n, mzr_aload, mzr_aload_n, mzr_lload, mzr_lload_n, mzr_istore, mzr_istore_n, mzr_astore, mzr_astore_n, mzr_lstore, mzr_lstore_n, mzr_iinc, mzr_iadd, mzr_isub, mzr_imul, mzr_iand, mzr_ior, mzr_ixor, mzr_ishl, mzr_ishr, mzr_iushr, mzr_idiv, mzr_irem, mzr_ineg, mzr_ladd, mzr_lsub, mzr_lmul, mzr_lrem, mzr_lcmp, mzr_i2l, mzr_l2i, mzr_i2b, mzr_dup, mzr_pop, mzr_dup2, mzr_ifCond_eq, mzr_if_icmp_eq, mzr_ifCond_ne, mzr_if_icmp_ne, mzr_ifCond_lt, mzr_if_icmp_lt, mzr_ifCond_ge, mzr_if_icmp_ge, mzr_ifCond_gt, mzr_if_icmp_gt, mzr_ifCond_le, mzr_if_icmp_le, mzr_goto, mzr_iaload, mzr_baload, mzr_laload, mzr_aaload, mzr_iastore, mzr_bastore, mzr_lastore, mzr_arraylength, mzr_getfield, mzr_putfield, mzr_getstatic, mzr_ldc, mzr_ldc_w, mzr_ldc2_w, mzr_ireturn, mzr_return_, mzr_copy, mzr_static, mzr_virtual, mzr_new, mz_tk, mz_dp, mz_ln, mz_sz, mz_af_v, mz_af_s, mz_wp_s, mz_w1, mz_g, mz_st, mz_k, mz_s2, mz_nx, mz_en, mx_to, mz_c1, ↓reduceIte, Nat.reduceAdd, Nat.reduceSub, Nat.reduceMul, Nat.reduceMod, Nat.reduceDiv, Nat.reduceEqDiff, Nat.reduceLeDiff, Nat.reduceLT, Int.reduceAdd, Int.reduceSub, Int.reduceNeg, Int.reduceMul, Int.reduceLE, Int.reduceLT, Int.reduceEq, Int.reduceToNat, Int.reduceNegSucc, Int.cast_ofNat_Int, Int32.reduceToInt, Int64.reduceToInt, Int.zero_add, Int.add_zero, Fin.isValue, Fin.val_zero, Fin.val_one, Fin.val_two, reduceCtorEq, or_false, false_or, or_true, true_or, or_self, and_true, true_and, and_self, not_true_eq_false, not_false_eq_true, implies_true, forall_const, List.mem_cons, List.not_mem_nil, false_implies, true_implies, imp_false, Nat.zero_add, Option.some.injEq, Prod.mk.injEq]
    repeat' first | omega | refine mz_it (fun hh => ?_) (fun hh => ?_) | refine And.intro ?_ ?_
    refine ct_placeOf d hG hR' c2 ?_
    rw [c3]
    simp only [mf_Ring_lineInto, ca_Ring_lineInto, dc_Ring_lineInto_0, dc_Ring_lineInto_1, dc_Ring_lineInto_2, dc_Ring_lineInto_3, dc_Ring_lineInto_4, dc_Ring_lineInto_5, fl_Ring, sl_Ring, sg_Ring_placeOf, ha, hl, r0, f5, f6, f7, f8, f9, f10, f11, f12, f13, f14, k1, k2, k3, k4, k5, k6, k7, k8, k9, k10, Int.toNat_natCast, q1, q7, q2, mz_w_g, and_self, mzr_iconst, mzr_bipush, mzr_sipush, mzr_lconst, mzr_iload, mzr_iload_n, mzr_aload, mzr_aload_n, mzr_lload, mzr_lload_n, mzr_istore, mzr_istore_n, mzr_astore, mzr_astore_n, mzr_lstore, mzr_lstore_n, mzr_iinc, mzr_iadd, mzr_isub, mzr_imul, mzr_iand, mzr_ior, mzr_ixor, mzr_ishl, mzr_ishr, mzr_iushr, mzr_idiv, mzr_irem, mzr_ineg, mzr_ladd, mzr_lsub, mzr_lmul, mzr_lrem, mzr_lcmp, mzr_i2l, mzr_l2i, mzr_i2b, mzr_dup, mzr_pop, mzr_dup2, mzr_ifCond_eq, mzr_if_icmp_eq, mzr_ifCond_ne, mzr_if_icmp_ne, mzr_ifCond_lt, mzr_if_icmp_lt, mzr_ifCond_ge, mzr_if_icmp_ge, mzr_ifCond_gt, mzr_if_icmp_gt, mzr_ifCond_le, mzr_if_icmp_le, mzr_goto, mzr_iaload, mzr_baload, mzr_laload, mzr_aaload, mzr_iastore, mzr_bastore, mzr_lastore, mzr_arraylength, mzr_getfield, mzr_putfield, mzr_getstatic, mzr_ldc, mzr_ldc_w, mzr_ldc2_w, mzr_ireturn, mzr_return_, mzr_copy, mzr_static, mzr_virtual, mzr_new, mz_tk, mz_dp, mz_ln, mz_sz, mz_af_v, mz_af_s, mz_wp_s, mz_w1, mz_g, mz_st, mz_k, mz_s2, mz_nx, mz_en, mx_to, mz_c1, ↓reduceIte, Nat.reduceAdd, Nat.reduceSub, Nat.reduceMul, Nat.reduceMod, Nat.reduceDiv, Nat.reduceEqDiff, Nat.reduceLeDiff, Nat.reduceLT, Int.reduceAdd, Int.reduceSub, Int.reduceNeg, Int.reduceMul, Int.reduceLE, Int.reduceLT, Int.reduceEq, Int.reduceToNat, Int.reduceNegSucc, Int.cast_ofNat_Int, Int32.reduceToInt, Int64.reduceToInt, Int.zero_add, Int.add_zero, Fin.isValue, Fin.val_zero, Fin.val_one, Fin.val_two, reduceCtorEq, or_false, false_or, or_true, true_or, or_self, and_true, true_and, and_self, not_true_eq_false, not_false_eq_true, implies_true, forall_const, List.mem_cons, List.not_mem_nil, false_implies, true_implies, imp_false, Nat.zero_add, Option.some.injEq, Prod.mk.injEq]
    have fin : ∀ o6, mz_V e (d + 1) mm_Ring_lineInto 6 [some (.inr (.inl r)), some (.inr (.inl a)), some (.inl (v : Int)), some (.inr (.inl l)), some (.inl (sp_top (fun x => H.2.1 a (tb_I n o (tb_s (0, 0, 0, 0) v x))) (i + 1))), some (.inl ((i + 1 : Nat) : Int)), o6] [] (mz_w H1 l i (H.2.1 a (tb_I n o (tb_s (0, 0, 0, 0) v i)))) P := by
      intro o6
      refine ih (i + 1) _ o6 (by omega) (h2.tr (mz_fr.w _ _ _ _ List.mem_cons_self)) (fun x hx => ?_)
      rw [mz_w_g]
      by_cases hxi : x = i
      · rw [if_pos ⟨rfl, hxi⟩, hxi]
      · rw [if_neg (fun q => hxi q.2), h3 x (by omega)]
    rw [sp_top] at fin
    repeat' first | omega | refine mz_it (fun hh => ?_) (fun hh => ?_) | refine And.intro ?_ ?_
    · rw [if_pos hh] at fin
      exact fin _
    · rw [if_neg hh] at fin
      exact fin _
set_option maxRecDepth 100000 in
theorem ct_lineInto {e : mz_E} (d : Nat) {r a l v : Nat} {p : Int} {n o : Nat} {H : mz_H} {P : mz_O → mz_H → Prop} (hG : mx_G e.1) (hR : rg_E e r) (hok : tb_ok n o) (hv : v < n)
    (ha : e.2.1 a = some (20, 126)) (hl : e.2.1 l = some (20, 31)) (hla : l ≠ a) (hlr : ∀ i, i ≤ 8 → r + i ≠ l) (hS : rg_S H r p n o)
    (hP : ∀ h, mz_fr H h [l] → (∀ x, x ≤ tb_h n → h.2.1 l x = H.2.1 a (tb_I n o (tb_s (0, 0, 0, 0) v x))) → P (.inl (some (.inl (sp_top (fun x => H.2.1 a (tb_I n o (tb_s (0, 0, 0, 0) v x))) (tb_h n + 1))))) h) :
    mz_CA e (d + 1) j_Ring_lineInto [.inr (.inl r), .inr (.inl a), .inl (v : Int), .inr (.inl l)] H P := by
  refine mz_CA_of mr_Ring_lineInto ?_
  simp only [mf_Ring_lineInto, mz_en, List.replicate, Nat.reduceSub, Nat.reduceAdd, Nat.reduceMul]
  apply mz_go hG 60 [6]
  simp only [mf_Ring_lineInto, ca_Ring_lineInto, dc_Ring_lineInto_0, dc_Ring_lineInto_1, dc_Ring_lineInto_2, dc_Ring_lineInto_3, dc_Ring_lineInto_4, dc_Ring_lineInto_5, fl_Ring, sl_Ring, sg_Ring_placeOf, mzr_iconst, mzr_bipush, mzr_sipush, mzr_lconst, mzr_iload, mzr_iload_n, mzr_aload, mzr_aload_n, mzr_lload, mzr_lload_n, mzr_istore, mzr_istore_n, mzr_astore, mzr_astore_n, mzr_lstore, mzr_lstore_n, mzr_iinc, mzr_iadd, mzr_isub, mzr_imul, mzr_iand, mzr_ior, mzr_ixor, mzr_ishl, mzr_ishr, mzr_iushr, mzr_idiv, mzr_irem, mzr_ineg, mzr_ladd, mzr_lsub, mzr_lmul, mzr_lrem, mzr_lcmp, mzr_i2l, mzr_l2i, mzr_i2b, mzr_dup, mzr_pop, mzr_dup2, mzr_ifCond_eq, mzr_if_icmp_eq, mzr_ifCond_ne, mzr_if_icmp_ne, mzr_ifCond_lt, mzr_if_icmp_lt, mzr_ifCond_ge, mzr_if_icmp_ge, mzr_ifCond_gt, mzr_if_icmp_gt, mzr_ifCond_le, mzr_if_icmp_le, mzr_goto, mzr_iaload, mzr_baload, mzr_laload, mzr_aaload, mzr_iastore, mzr_bastore, mzr_lastore, mzr_arraylength, mzr_getfield, mzr_putfield, mzr_getstatic, mzr_ldc, mzr_ldc_w, mzr_ldc2_w, mzr_ireturn, mzr_return_, mzr_copy, mzr_static, mzr_virtual, mzr_new, mz_tk, mz_dp, mz_ln, mz_sz, mz_af_v, mz_af_s, mz_wp_s, mz_w1, mz_g, mz_st, mz_k, mz_s2, mz_nx, mz_en, mx_to, mz_c1, ↓reduceIte, Nat.reduceAdd, Nat.reduceSub, Nat.reduceMul, Nat.reduceMod, Nat.reduceDiv, Nat.reduceEqDiff, Nat.reduceLeDiff, Nat.reduceLT, Int.reduceAdd, Int.reduceSub, Int.reduceNeg, Int.reduceMul, Int.reduceLE, Int.reduceLT, Int.reduceEq, Int.reduceToNat, Int.reduceNegSucc, Int.cast_ofNat_Int, Int32.reduceToInt, Int64.reduceToInt, Int.zero_add, Int.add_zero, Fin.isValue, Fin.val_zero, Fin.val_one, Fin.val_two, reduceCtorEq, or_false, false_or, or_true, true_or, or_self, and_true, true_and, and_self, not_true_eq_false, not_false_eq_true, implies_true, forall_const, List.mem_cons, List.not_mem_nil, false_implies, true_implies, imp_false, Nat.zero_add, Option.some.injEq, Prod.mk.injEq]
  repeat' first | omega | refine mz_it (fun hh => ?_) (fun hh => ?_) | refine And.intro ?_ ?_
  exact lp_line hG hR hok hv ha hl hla hlr hS hP (tb_h n + 1) 0 H _ (by omega) (mz_fr.refl _ _) (fun x hx => by omega)
def cs_S (n : Nat) (x : al_M) : Nat → Nat
  | 0 => 0
  | v + 1 => cs_S n x v + tb_g x v * tb_w n v
theorem cs_4 (n : Nat) (x : al_M) : cs_S n x 4 = tb_c n x := by
  simp only [cs_S, tb_c, tb_g]; omega
set_option maxRecDepth 100000 in
theorem lp_codeOf {e : mz_E} {d : Nat} {w r m : Nat} {p q : Int} {n n' o o' : Nat} {H : mz_H} {P : mz_O → mz_H → Prop} (hG : mx_G e.1) (hW : rg_E e w) (hR : rg_E e r) (hok : tb_ok n o) (hok' : tb_ok n' o') (hS : rg_S H r p n o) (hSw : rg_S H w q n' o') (hm : m < tb_N n)
    (hP : P (.inl (some (.inl (tb_c n' (tb_T n o m) : Int)))) H) :
    ∀ k v, v + k = 4 → cs_S n' (tb_T n o m) v ≤ v * 6480 → mz_V e (d + 1) mm_Ring_codeOf 5 [some (.inr (.inl w)), some (.inr (.inl r)), some (.inl (m : Int)), some (.inl (cs_S n' (tb_T n o m) v : Int)), some (.inl (v : Int))] [] H P := by
  have hR' := hR
  have rr := hR.1
  have hN := tb_N_b n
  obtain ⟨r0, f5, f6, f7, f8, f9, f10, f11, f12, f13, f14, k1, k2, k3, k4, k5, k6, k7, k8, k9, k10⟩ := hW
  intro k
  induction k with
  | zero =>
    intro v h1 h2
    obtain rfl : v = 4 := by omega
    apply mz_go hG 60 [5]
    simp only [mf_Ring_codeOf, ca_Ring_codeOf, dc_Ring_codeOf_0, dc_Ring_codeOf_1, dc_Ring_codeOf_2, fl_Ring, sl_Ring, sg_Ring_exponentOf, r0, f5, f6, f7, f8, f9, f10, f11, f12, f13, f14, k1, k2, k3, k4, k5, k6, k7, k8, k9, k10, rr, Int.toNat_natCast, mzr_iconst, mzr_bipush, mzr_sipush, mzr_lconst, mzr_iload, mzr_iload_n, mzr_aload, mzr_aload_n, mzr_lload, mzr_lload_n, mzr_istore, mzr_istore_n, mzr_astore, mzr_astore_n, mzr_lstore, mzr_lstore_n, mzr_iinc, mzr_iadd, mzr_isub, mzr_imul, mzr_iand, mzr_ior, mzr_ixor, mzr_ishl, mzr_ishr, mzr_iushr, mzr_idiv, mzr_irem, mzr_ineg, mzr_ladd, mzr_lsub, mzr_lmul, mzr_lrem, mzr_lcmp, mzr_i2l, mzr_l2i, mzr_i2b, mzr_dup, mzr_pop, mzr_dup2, mzr_ifCond_eq, mzr_if_icmp_eq, mzr_ifCond_ne, mzr_if_icmp_ne, mzr_ifCond_lt, mzr_if_icmp_lt, mzr_ifCond_ge, mzr_if_icmp_ge, mzr_ifCond_gt, mzr_if_icmp_gt, mzr_ifCond_le, mzr_if_icmp_le, mzr_goto, mzr_iaload, mzr_baload, mzr_laload, mzr_aaload, mzr_iastore, mzr_bastore, mzr_lastore, mzr_arraylength, mzr_getfield, mzr_putfield, mzr_getstatic, mzr_ldc, mzr_ldc_w, mzr_ldc2_w, mzr_ireturn, mzr_return_, mzr_copy, mzr_static, mzr_virtual, mzr_new, mz_tk, mz_dp, mz_ln, mz_sz, mz_af_v, mz_af_s, mz_wp_s, mz_w1, mz_g, mz_st, mz_k, mz_s2, mz_nx, mz_en, mx_to, mz_c1, ↓reduceIte, Nat.reduceAdd, Nat.reduceSub, Nat.reduceMul, Nat.reduceMod, Nat.reduceDiv, Nat.reduceEqDiff, Nat.reduceLeDiff, Nat.reduceLT, Int.reduceAdd, Int.reduceSub, Int.reduceNeg, Int.reduceMul, Int.reduceLE, Int.reduceLT, Int.reduceEq, Int.reduceToNat, Int.reduceNegSucc, Int.cast_ofNat_Int, Int32.reduceToInt, Int64.reduceToInt, Int.zero_add, Int.add_zero, Fin.isValue, Fin.val_zero, Fin.val_one, Fin.val_two, reduceCtorEq, or_false, false_or, or_true, true_or, or_self, and_true, true_and, and_self, not_true_eq_false, not_false_eq_true, implies_true, forall_const, List.mem_cons, List.not_mem_nil, false_implies, true_implies, imp_false, Nat.zero_add, Option.some.injEq, Prod.mk.injEq]
    repeat' first | omega | refine mz_it (fun hh => ?_) (fun hh => ?_) | refine And.intro ?_ ?_
    rw [cs_4]
    exact hP
  | succ k ih =>
    intro v h1 h2
    have q5 := hS.2.2.2.2.2.2.2.1 m v hm (by omega)
    have q7 := hSw.2.2.2.2.2.2.2.2.2.1 v (by omega)
    have b1 := tb_g_b hok hm v
    have b2 := tb_w_b hok'.1 hok'.2.1 (show v < 4 by omega)
    have b3 : tb_g (tb_T n o m) v * tb_w n' v ≤ 6480 := Nat.mul_le_mul b1 b2
    have b4 : (tb_g (tb_T n o m) v : Int) * (tb_w n' v : Int) = ((tb_g (tb_T n o m) v * tb_w n' v : Nat) : Int) := by push_cast; rfl
    apply mz_go hG 60 [5]
    simp only [mf_Ring_codeOf, ca_Ring_codeOf, dc_Ring_codeOf_0, dc_Ring_codeOf_1, dc_Ring_codeOf_2, fl_Ring, sl_Ring, sg_Ring_exponentOf, r0, f5, f6, f7, f8, f9, f10, f11, f12, f13, f14, k1, k2, k3, k4, k5, k6, k7, k8, k9, k10, rr, Int.toNat_natCast, mzr_iconst, mzr_bipush, mzr_sipush, mzr_lconst, mzr_iload, mzr_iload_n, mzr_aload, mzr_aload_n, mzr_lload, mzr_lload_n, mzr_istore, mzr_istore_n, mzr_astore, mzr_astore_n, mzr_lstore, mzr_lstore_n, mzr_iinc, mzr_iadd, mzr_isub, mzr_imul, mzr_iand, mzr_ior, mzr_ixor, mzr_ishl, mzr_ishr, mzr_iushr, mzr_idiv, mzr_irem, mzr_ineg, mzr_ladd, mzr_lsub, mzr_lmul, mzr_lrem, mzr_lcmp, mzr_i2l, mzr_l2i, mzr_i2b, mzr_dup, mzr_pop, mzr_dup2, mzr_ifCond_eq, mzr_if_icmp_eq, mzr_ifCond_ne, mzr_if_icmp_ne, mzr_ifCond_lt, mzr_if_icmp_lt, mzr_ifCond_ge, mzr_if_icmp_ge, mzr_ifCond_gt, mzr_if_icmp_gt, mzr_ifCond_le, mzr_if_icmp_le, mzr_goto, mzr_iaload, mzr_baload, mzr_laload, mzr_aaload, mzr_iastore, mzr_bastore, mzr_lastore, mzr_arraylength, mzr_getfield, mzr_putfield, mzr_getstatic, mzr_ldc, mzr_ldc_w, mzr_ldc2_w, mzr_ireturn, mzr_return_, mzr_copy, mzr_static, mzr_virtual, mzr_new, mz_tk, mz_dp, mz_ln, mz_sz, mz_af_v, mz_af_s, mz_wp_s, mz_w1, mz_g, mz_st, mz_k, mz_s2, mz_nx, mz_en, mx_to, mz_c1, ↓reduceIte, Nat.reduceAdd, Nat.reduceSub, Nat.reduceMul, Nat.reduceMod, Nat.reduceDiv, Nat.reduceEqDiff, Nat.reduceLeDiff, Nat.reduceLT, Int.reduceAdd, Int.reduceSub, Int.reduceNeg, Int.reduceMul, Int.reduceLE, Int.reduceLT, Int.reduceEq, Int.reduceToNat, Int.reduceNegSucc, Int.cast_ofNat_Int, Int32.reduceToInt, Int64.reduceToInt, Int.zero_add, Int.add_zero, Fin.isValue, Fin.val_zero, Fin.val_one, Fin.val_two, reduceCtorEq, or_false, false_or, or_true, true_or, or_self, and_true, true_and, and_self, not_true_eq_false, not_false_eq_true, implies_true, forall_const, List.mem_cons, List.not_mem_nil, false_implies, true_implies, imp_false, Nat.zero_add, Option.some.injEq, Prod.mk.injEq]
    repeat' first | omega | refine mz_it (fun hh => ?_) (fun hh => ?_) | refine And.intro ?_ ?_
    refine ct_exponentOf d hG hR' (by omega) (by omega) ?_
    rw [q5]
    simp only [mf_Ring_codeOf, ca_Ring_codeOf, dc_Ring_codeOf_0, dc_Ring_codeOf_1, dc_Ring_codeOf_2, fl_Ring, sl_Ring, sg_Ring_exponentOf, r0, f5, f6, f7, f8, f9, f10, f11, f12, f13, f14, k1, k2, k3, k4, k5, k6, k7, k8, k9, k10, rr, Int.toNat_natCast, q7, b4, mzr_iconst, mzr_bipush, mzr_sipush, mzr_lconst, mzr_iload, mzr_iload_n, mzr_aload, mzr_aload_n, mzr_lload, mzr_lload_n, mzr_istore, mzr_istore_n, mzr_astore, mzr_astore_n, mzr_lstore, mzr_lstore_n, mzr_iinc, mzr_iadd, mzr_isub, mzr_imul, mzr_iand, mzr_ior, mzr_ixor, mzr_ishl, mzr_ishr, mzr_iushr, mzr_idiv, mzr_irem, mzr_ineg, mzr_ladd, mzr_lsub, mzr_lmul, mzr_lrem, mzr_lcmp, mzr_i2l, mzr_l2i, mzr_i2b, mzr_dup, mzr_pop, mzr_dup2, mzr_ifCond_eq, mzr_if_icmp_eq, mzr_ifCond_ne, mzr_if_icmp_ne, mzr_ifCond_lt, mzr_if_icmp_lt, mzr_ifCond_ge, mzr_if_icmp_ge, mzr_ifCond_gt, mzr_if_icmp_gt, mzr_ifCond_le, mzr_if_icmp_le, mzr_goto, mzr_iaload, mzr_baload, mzr_laload, mzr_aaload, mzr_iastore, mzr_bastore, mzr_lastore, mzr_arraylength, mzr_getfield, mzr_putfield, mzr_getstatic, mzr_ldc, mzr_ldc_w, mzr_ldc2_w, mzr_ireturn, mzr_return_, mzr_copy, mzr_static, mzr_virtual, mzr_new, mz_tk, mz_dp, mz_ln, mz_sz, mz_af_v, mz_af_s, mz_wp_s, mz_w1, mz_g, mz_st, mz_k, mz_s2, mz_nx, mz_en, mx_to, mz_c1, ↓reduceIte, Nat.reduceAdd, Nat.reduceSub, Nat.reduceMul, Nat.reduceMod, Nat.reduceDiv, Nat.reduceEqDiff, Nat.reduceLeDiff, Nat.reduceLT, Int.reduceAdd, Int.reduceSub, Int.reduceNeg, Int.reduceMul, Int.reduceLE, Int.reduceLT, Int.reduceEq, Int.reduceToNat, Int.reduceNegSucc, Int.cast_ofNat_Int, Int32.reduceToInt, Int64.reduceToInt, Int.zero_add, Int.add_zero, Fin.isValue, Fin.val_zero, Fin.val_one, Fin.val_two, reduceCtorEq, or_false, false_or, or_true, true_or, or_self, and_true, true_and, and_self, not_true_eq_false, not_false_eq_true, implies_true, forall_const, List.mem_cons, List.not_mem_nil, false_implies, true_implies, imp_false, Nat.zero_add, Option.some.injEq, Prod.mk.injEq]
    repeat' first | omega | refine mz_it (fun hh => ?_) (fun hh => ?_) | refine And.intro ?_ ?_
    exact ih (v + 1) (by omega) (by rw [cs_S]; omega)
set_option maxRecDepth 100000 in
theorem ct_codeOf {e : mz_E} (d : Nat) {w r m : Nat} {p q : Int} {n n' o o' : Nat} {H : mz_H} {P : mz_O → mz_H → Prop} (hG : mx_G e.1) (hW : rg_E e w) (hR : rg_E e r) (hok : tb_ok n o) (hok' : tb_ok n' o') (hS : rg_S H r p n o) (hSw : rg_S H w q n' o') (hm : m < tb_N n)
    (hP : P (.inl (some (.inl (tb_c n' (tb_T n o m) : Int)))) H) : mz_CA e (d + 1) j_Ring_codeOf [.inr (.inl w), .inr (.inl r), .inl (m : Int)] H P := by
  refine mz_CA_of mr_Ring_codeOf ?_
  simp only [mf_Ring_codeOf, mz_en, List.replicate, Nat.reduceSub, Nat.reduceAdd, Nat.reduceMul]
  apply mz_go hG 60 [5]
  simp only [mf_Ring_codeOf, ca_Ring_codeOf, dc_Ring_codeOf_0, dc_Ring_codeOf_1, dc_Ring_codeOf_2, fl_Ring, sl_Ring, sg_Ring_exponentOf, mzr_iconst, mzr_bipush, mzr_sipush, mzr_lconst, mzr_iload, mzr_iload_n, mzr_aload, mzr_aload_n, mzr_lload, mzr_lload_n, mzr_istore, mzr_istore_n, mzr_astore, mzr_astore_n, mzr_lstore, mzr_lstore_n, mzr_iinc, mzr_iadd, mzr_isub, mzr_imul, mzr_iand, mzr_ior, mzr_ixor, mzr_ishl, mzr_ishr, mzr_iushr, mzr_idiv, mzr_irem, mzr_ineg, mzr_ladd, mzr_lsub, mzr_lmul, mzr_lrem, mzr_lcmp, mzr_i2l, mzr_l2i, mzr_i2b, mzr_dup, mzr_pop, mzr_dup2, mzr_ifCond_eq, mzr_if_icmp_eq, mzr_ifCond_ne, mzr_if_icmp_ne, mzr_ifCond_lt, mzr_if_icmp_lt, mzr_ifCond_ge, mzr_if_icmp_ge, mzr_ifCond_gt, mzr_if_icmp_gt, mzr_ifCond_le, mzr_if_icmp_le, mzr_goto, mzr_iaload, mzr_baload, mzr_laload, mzr_aaload, mzr_iastore, mzr_bastore, mzr_lastore, mzr_arraylength, mzr_getfield, mzr_putfield, mzr_getstatic, mzr_ldc, mzr_ldc_w, mzr_ldc2_w, mzr_ireturn, mzr_return_, mzr_copy, mzr_static, mzr_virtual, mzr_new, mz_tk, mz_dp, mz_ln, mz_sz, mz_af_v, mz_af_s, mz_wp_s, mz_w1, mz_g, mz_st, mz_k, mz_s2, mz_nx, mz_en, mx_to, mz_c1, ↓reduceIte, Nat.reduceAdd, Nat.reduceSub, Nat.reduceMul, Nat.reduceMod, Nat.reduceDiv, Nat.reduceEqDiff, Nat.reduceLeDiff, Nat.reduceLT, Int.reduceAdd, Int.reduceSub, Int.reduceNeg, Int.reduceMul, Int.reduceLE, Int.reduceLT, Int.reduceEq, Int.reduceToNat, Int.reduceNegSucc, Int.cast_ofNat_Int, Int32.reduceToInt, Int64.reduceToInt, Int.zero_add, Int.add_zero, Fin.isValue, Fin.val_zero, Fin.val_one, Fin.val_two, reduceCtorEq, or_false, false_or, or_true, true_or, or_self, and_true, true_and, and_self, not_true_eq_false, not_false_eq_true, implies_true, forall_const, List.mem_cons, List.not_mem_nil, false_implies, true_implies, imp_false, Nat.zero_add, Option.some.injEq, Prod.mk.injEq]
  repeat' first | omega | refine mz_it (fun hh => ?_) (fun hh => ?_) | refine And.intro ?_ ?_
  exact lp_codeOf hG hW hR hok hok' hS hSw hm hP 4 0 (by omega) (by rw [cs_S]; omega)
