def fo_1 (p : Int) (row : Nat → Int) (l : List al_M) (nf : al_M → al_M → Int) (y : al_M) : Prop := ∀ k, k < 40 → 0 ≤ row k ∧ row k < p ∧ (k < l.length → al_e p (row k) (nf y (fg_B l k))) ∧ (l.length ≤ k → row k = 0)
set_option maxRecDepth 100000 in
theorem ct_formFromBelow {e : mz_E} (d : Nat) {u r n o K B b N : Nat} {p : Int} {cor : Nat → al_M} {l : List al_M} {f : Nat → al_M} {V : (Nat → Int) → Prop} {nf : al_M → al_M → Int} {H : mz_H} {P : mz_O → mz_H → Prop} (hG : mx_G e.1) (hE : qu_E e u) (hR : rg_E e r) (hp : H.2.1 r 0 = p) (hp2 : 2 ≤ p ∧ p < 32768) (hn : H.2.1 r 1 = n) (hn4 : n ≤ 4) (hru : r + 10 < u) (hl : ql_S H u l) (hl40 : l.length ≤ 40)
    (hB : B ≤ 160) (hf : bo_S H u B f) (hO : bo_O o B f) (hb : b < B) (hls : ∀ i, i < l.length → tb_v n (fg_B l i) ∧ sd_b K cor (fg_B l i) = true) (hinj : ∀ i j, i < l.length → j < l.length → fg_B l i = fg_B l j → i = j) (hfn : ∀ j, j < B → tb_v n (f j) ∧ ¬ sd_b K cor (f j) = true)
    (hq : ∀ s v, s < l.length → v < n → qp_1 (H.2.1 (u + 165) (s * 4 + v)) l B f (al_p (fg_B l s) (tb_x v)))
    (hnf : nf_A p n o l (fun m => sd_b K cor m = true) N V nf) (hfo : ∀ j, j < b → fo_1 p (H.2.1 (u + 5 + j)) l nf (f j)) (hex : ∃ v j, v < n ∧ j < b ∧ al_p (f j) (tb_x v) = f b)
    (hP : ∀ h, mz_fr H h [u + 5 + b] → fo_1 p (h.2.1 (u + 5 + b)) l nf (f b) → P (.inl none) h) :
    mz_CA e (d + 3) j_Quotient_formFromBelow [.inr (.inl u), .inr (.inl r), .inl (b : Int)] H P := by
  have hE' := hE
  have r0' := hR.1
  obtain ⟨⟨u0, u1, u3, u5, u6, u7, u8⟩, ⟨k1, k2, k3, k4, k165, k166⟩, uf⟩ := hE
  have hbb := hf.2 b hb
  have hbok := hbb.2
  have hbb1 := hbb.1
  have hbb2 := pk_b hbok
  have ub := uf b (by omega)
  have ub1 := ub.1
  have lp : ∀ (m v : Nat) o4 o5, v + m = n → (∃ v' j, v ≤ v' ∧ v' < n ∧ j < b ∧ al_p (f j) (tb_x v') = f b) → mz_V e (d + 3) mm_Quotient_formFromBelow 2 [some (.inr (.inl u)), some (.inr (.inl r)), some (.inl (b : Int)), some (.inl (v : Int)), o4, o5] [] H P := by
    intro m
    induction m with
    | zero =>
      intro v o4 o5 h1 h2
      obtain ⟨v', j, h3, h4, _⟩ := h2
      omega
    | succ m ih =>
      intro v o4 o5 h1 h2
      have hv4 : v < 4 := by omega
      have nx : ∀ o4 o5, (∀ j, j < b → al_p (f j) (tb_x v) ≠ f b) → mz_V e (d + 3) mm_Quotient_formFromBelow 2 [some (.inr (.inl u)), some (.inr (.inl r)), some (.inl (b : Int)), some (.inl ((v : Int) + 1)), o4, o5] [] H P := by
        intro o4 o5 hno
        refine ih (v + 1) o4 o5 (by omega) ?_
        obtain ⟨v', j, h3, h4, h5, h6⟩ := h2
        by_cases hvv : v' = v
        · rw [hvv] at h6
          exact absurd h6 (hno j h5)
        · exact ⟨v', j, by omega, h4, h5, h6⟩
      have hxb : pk (tb_x v) < 16777216 := pk_b (pk_ok_d (by rw [tb_x_d]; omega))
      apply mz_go hG 60 [2]
      simp only [mf_Quotient_formFromBelow, ca_Quotient_formFromBelow, dc_Quotient_formFromBelow_0, dc_Quotient_formFromBelow_1, dc_Quotient_formFromBelow_2, dc_Quotient_formFromBelow_3, dc_Quotient_formFromBelow_4, dc_Quotient_formFromBelow_5, fl_Quotient, sl_Quotient, sg_Packed_variable, sg_Packed_exponent, sg_Packed_find, sg_Quotient_timesInto, cpn_quotient_0, cpn_quotient_1, mx_cp_r, u0, r0', hn, u5, k3, hbb1, Int.toNat_natCast, mzr_iconst, mzr_bipush, mzr_sipush, mzr_lconst, mzr_iload, mzr_iload_n, mzr_aload, mzr_aload_n, mzr_lload, mzr_lload_n, mzr_istore, mzr_istore_n, mzr_astore, mzr_astore_n, mzr_lstore, mzr_lstore_n, mzr_iinc, mzr_iadd, mzr_isub, mzr_imul, mzr_iand, mzr_ior, mzr_ixor, mzr_ishl, mzr_ishr, mzr_iushr, mzr_idiv, mzr_irem, mzr_ineg, mzr_ladd, mzr_lsub, mzr_lmul, mzr_lrem, mzr_lcmp, mzr_i2l, mzr_l2i, mzr_i2b, mzr_dup, mzr_pop, mzr_dup2, mzr_ifCond_eq, mzr_if_icmp_eq, mzr_ifCond_ne, mzr_if_icmp_ne, mzr_ifCond_lt, mzr_if_icmp_lt, mzr_ifCond_ge, mzr_if_icmp_ge, mzr_ifCond_gt, mzr_if_icmp_gt, mzr_ifCond_le, mzr_if_icmp_le, mzr_goto, mzr_iaload, mzr_baload, mzr_laload, mzr_aaload, mzr_iastore, mzr_bastore, mzr_lastore, mzr_arraylength, mzr_getfield, mzr_putfield, mzr_getstatic, mzr_ldc, mzr_ldc_w, mzr_ldc2_w, mzr_ireturn, mzr_return_, mzr_copy, mzr_static, mzr_virtual, mzr_new, mz_tk, mz_dp, mz_ln, mz_sz, mz_af_v, mz_af_s, mz_wp_s, mz_w1, mz_g, mz_st, mz_k, mz_s2, mz_nx, mz_en, mx_to, mz_c1, ↓reduceIte, Nat.reduceAdd, Nat.reduceSub, Nat.reduceMul, Nat.reduceMod, Nat.reduceDiv, Nat.reduceEqDiff, Nat.reduceLeDiff, Nat.reduceLT, Int.reduceAdd, Int.reduceSub, Int.reduceNeg, Int.reduceMul, Int.reduceLE, Int.reduceLT, Int.reduceEq, Int.reduceToNat, Int.reduceNegSucc, Int.cast_ofNat_Int, Int32.reduceToInt, Int64.reduceToInt, Int.zero_add, Int.add_zero, Fin.isValue, Fin.val_zero, Fin.val_one, Fin.val_two, reduceCtorEq, or_false, false_or, or_true, true_or, or_self, and_true, true_and, and_self, not_true_eq_false, not_false_eq_true, implies_true, forall_const, List.mem_cons, List.not_mem_nil, false_implies, true_implies, imp_false, Nat.zero_add, Option.some.injEq, Prod.mk.injEq]
      repeat' first | omega | refine mz_it (fun hh => ?_) (fun hh => ?_) | refine And.intro ?_ ?_
      refine ct_pvariable (d + 2) hG hv4 ?_
      simp only [mf_Quotient_formFromBelow, ca_Quotient_formFromBelow, dc_Quotient_formFromBelow_0, dc_Quotient_formFromBelow_1, dc_Quotient_formFromBelow_2, dc_Quotient_formFromBelow_3, dc_Quotient_formFromBelow_4, dc_Quotient_formFromBelow_5, fl_Quotient, sl_Quotient, sg_Packed_variable, sg_Packed_exponent, sg_Packed_find, sg_Quotient_timesInto, cpn_quotient_0, cpn_quotient_1, mx_cp_r, u0, u5, k3, hbb1, Int.toNat_natCast, mzr_iconst, mzr_bipush, mzr_sipush, mzr_lconst, mzr_iload, mzr_iload_n, mzr_aload, mzr_aload_n, mzr_lload, mzr_lload_n, mzr_istore, mzr_istore_n, mzr_astore, mzr_astore_n, mzr_lstore, mzr_lstore_n, mzr_iinc, mzr_iadd, mzr_isub, mzr_imul, mzr_iand, mzr_ior, mzr_ixor, mzr_ishl, mzr_ishr, mzr_iushr, mzr_idiv, mzr_irem, mzr_ineg, mzr_ladd, mzr_lsub, mzr_lmul, mzr_lrem, mzr_lcmp, mzr_i2l, mzr_l2i, mzr_i2b, mzr_dup, mzr_pop, mzr_dup2, mzr_ifCond_eq, mzr_if_icmp_eq, mzr_ifCond_ne, mzr_if_icmp_ne, mzr_ifCond_lt, mzr_if_icmp_lt, mzr_ifCond_ge, mzr_if_icmp_ge, mzr_ifCond_gt, mzr_if_icmp_gt, mzr_ifCond_le, mzr_if_icmp_le, mzr_goto, mzr_iaload, mzr_baload, mzr_laload, mzr_aaload, mzr_iastore, mzr_bastore, mzr_lastore, mzr_arraylength, mzr_getfield, mzr_putfield, mzr_getstatic, mzr_ldc, mzr_ldc_w, mzr_ldc2_w, mzr_ireturn, mzr_return_, mzr_copy, mzr_static, mzr_virtual, mzr_new, mz_tk, mz_dp, mz_ln, mz_sz, mz_af_v, mz_af_s, mz_wp_s, mz_w1, mz_g, mz_st, mz_k, mz_s2, mz_nx, mz_en, mx_to, mz_c1, ↓reduceIte, Nat.reduceAdd, Nat.reduceSub, Nat.reduceMul, Nat.reduceMod, Nat.reduceDiv, Nat.reduceEqDiff, Nat.reduceLeDiff, Nat.reduceLT, Int.reduceAdd, Int.reduceSub, Int.reduceNeg, Int.reduceMul, Int.reduceLE, Int.reduceLT, Int.reduceEq, Int.reduceToNat, Int.reduceNegSucc, Int.cast_ofNat_Int, Int32.reduceToInt, Int64.reduceToInt, Int.zero_add, Int.add_zero, Fin.isValue, Fin.val_zero, Fin.val_one, Fin.val_two, reduceCtorEq, or_false, false_or, or_true, true_or, or_self, and_true, true_and, and_self, not_true_eq_false, not_false_eq_true, implies_true, forall_const, List.mem_cons, List.not_mem_nil, false_implies, true_implies, imp_false, Nat.zero_add, Option.some.injEq, Prod.mk.injEq]
      repeat' first | omega | refine mz_it (fun hh => ?_) (fun hh => ?_) | refine And.intro ?_ ?_
      refine ct_pexponent (d + 2) hG hbok hv4 ?_
      by_cases hg : tb_g (f b) v = 0
      · have hx := nx (some (.inl ((pk (f b) : Int) - (pk (tb_x v) : Int)))) (some (.inl (-1))) (fun j hj hq => by
          have e1 : tb_g (al_p (f j) (tb_x v)) v = tb_g (f b) v := congrArg (fun x => tb_g x v) hq
          rw [tb_g_x _ _ hv4] at e1
          omega)
        simp only [mf_Quotient_formFromBelow, ca_Quotient_formFromBelow, dc_Quotient_formFromBelow_0, dc_Quotient_formFromBelow_1, dc_Quotient_formFromBelow_2, dc_Quotient_formFromBelow_3, dc_Quotient_formFromBelow_4, dc_Quotient_formFromBelow_5, fl_Quotient, sl_Quotient, sg_Packed_variable, sg_Packed_exponent, sg_Packed_find, sg_Quotient_timesInto, cpn_quotient_0, cpn_quotient_1, mx_cp_r, u0, hg, mzr_iconst, mzr_bipush, mzr_sipush, mzr_lconst, mzr_iload, mzr_iload_n, mzr_aload, mzr_aload_n, mzr_lload, mzr_lload_n, mzr_istore, mzr_istore_n, mzr_astore, mzr_astore_n, mzr_lstore, mzr_lstore_n, mzr_iinc, mzr_iadd, mzr_isub, mzr_imul, mzr_iand, mzr_ior, mzr_ixor, mzr_ishl, mzr_ishr, mzr_iushr, mzr_idiv, mzr_irem, mzr_ineg, mzr_ladd, mzr_lsub, mzr_lmul, mzr_lrem, mzr_lcmp, mzr_i2l, mzr_l2i, mzr_i2b, mzr_dup, mzr_pop, mzr_dup2, mzr_ifCond_eq, mzr_if_icmp_eq, mzr_ifCond_ne, mzr_if_icmp_ne, mzr_ifCond_lt, mzr_if_icmp_lt, mzr_ifCond_ge, mzr_if_icmp_ge, mzr_ifCond_gt, mzr_if_icmp_gt, mzr_ifCond_le, mzr_if_icmp_le, mzr_goto, mzr_iaload, mzr_baload, mzr_laload, mzr_aaload, mzr_iastore, mzr_bastore, mzr_lastore, mzr_arraylength, mzr_getfield, mzr_putfield, mzr_getstatic, mzr_ldc, mzr_ldc_w, mzr_ldc2_w, mzr_ireturn, mzr_return_, mzr_copy, mzr_static, mzr_virtual, mzr_new, mz_tk, mz_dp, mz_ln, mz_sz, mz_af_v, mz_af_s, mz_wp_s, mz_w1, mz_g, mz_st, mz_k, mz_s2, mz_nx, mz_en, mx_to, mz_c1, ↓reduceIte, Nat.reduceAdd, Nat.reduceSub, Nat.reduceMul, Nat.reduceMod, Nat.reduceDiv, Nat.reduceEqDiff, Nat.reduceLeDiff, Nat.reduceLT, Int.reduceAdd, Int.reduceSub, Int.reduceNeg, Int.reduceMul, Int.reduceLE, Int.reduceLT, Int.reduceEq, Int.reduceToNat, Int.reduceNegSucc, Int.cast_ofNat_Int, Int32.reduceToInt, Int64.reduceToInt, Int.zero_add, Int.add_zero, Fin.isValue, Fin.val_zero, Fin.val_one, Fin.val_two, reduceCtorEq, or_false, false_or, or_true, true_or, or_self, and_true, true_and, and_self, not_true_eq_false, not_false_eq_true, implies_true, forall_const, List.mem_cons, List.not_mem_nil, false_implies, true_implies, imp_false, Nat.zero_add, Option.some.injEq, Prod.mk.injEq]
        repeat' first | omega | refine mz_it (fun hh => ?_) (fun hh => ?_) | refine And.intro ?_ ?_
        all_goals exact hx
      · have hlow := tb_g_s (f b) v hv4 (by omega)
        generalize hlo : tb_s (f b) v (tb_g (f b) v - 1) = lo at hlow
        have hpl := pk_p lo (tb_x v)
        rw [hlow] at hpl
        have e1 : (pk (f b) : Int) - (pk (tb_x v) : Int) = (pk lo : Int) := by omega
        rw [e1]
        have hlok : pk_ok lo := by
          have e1 := congrArg (fun x => x.1) hlow
          have e2 := congrArg (fun x => x.2.1) hlow
          have e3 := congrArg (fun x => x.2.2.1) hlow
          have e4 := congrArg (fun x => x.2.2.2) hlow
          simp only [al_p] at e1 e2 e3 e4
          unfold pk_ok at hbok ⊢
          omega
        simp only [mf_Quotient_formFromBelow, ca_Quotient_formFromBelow, dc_Quotient_formFromBelow_0, dc_Quotient_formFromBelow_1, dc_Quotient_formFromBelow_2, dc_Quotient_formFromBelow_3, dc_Quotient_formFromBelow_4, dc_Quotient_formFromBelow_5, fl_Quotient, sl_Quotient, sg_Packed_variable, sg_Packed_exponent, sg_Packed_find, sg_Quotient_timesInto, cpn_quotient_0, cpn_quotient_1, mx_cp_r, u0, u5, mzr_iconst, mzr_bipush, mzr_sipush, mzr_lconst, mzr_iload, mzr_iload_n, mzr_aload, mzr_aload_n, mzr_lload, mzr_lload_n, mzr_istore, mzr_istore_n, mzr_astore, mzr_astore_n, mzr_lstore, mzr_lstore_n, mzr_iinc, mzr_iadd, mzr_isub, mzr_imul, mzr_iand, mzr_ior, mzr_ixor, mzr_ishl, mzr_ishr, mzr_iushr, mzr_idiv, mzr_irem, mzr_ineg, mzr_ladd, mzr_lsub, mzr_lmul, mzr_lrem, mzr_lcmp, mzr_i2l, mzr_l2i, mzr_i2b, mzr_dup, mzr_pop, mzr_dup2, mzr_ifCond_eq, mzr_if_icmp_eq, mzr_ifCond_ne, mzr_if_icmp_ne, mzr_ifCond_lt, mzr_if_icmp_lt, mzr_ifCond_ge, mzr_if_icmp_ge, mzr_ifCond_gt, mzr_if_icmp_gt, mzr_ifCond_le, mzr_if_icmp_le, mzr_goto, mzr_iaload, mzr_baload, mzr_laload, mzr_aaload, mzr_iastore, mzr_bastore, mzr_lastore, mzr_arraylength, mzr_getfield, mzr_putfield, mzr_getstatic, mzr_ldc, mzr_ldc_w, mzr_ldc2_w, mzr_ireturn, mzr_return_, mzr_copy, mzr_static, mzr_virtual, mzr_new, mz_tk, mz_dp, mz_ln, mz_sz, mz_af_v, mz_af_s, mz_wp_s, mz_w1, mz_g, mz_st, mz_k, mz_s2, mz_nx, mz_en, mx_to, mz_c1, ↓reduceIte, Nat.reduceAdd, Nat.reduceSub, Nat.reduceMul, Nat.reduceMod, Nat.reduceDiv, Nat.reduceEqDiff, Nat.reduceLeDiff, Nat.reduceLT, Int.reduceAdd, Int.reduceSub, Int.reduceNeg, Int.reduceMul, Int.reduceLE, Int.reduceLT, Int.reduceEq, Int.reduceToNat, Int.reduceNegSucc, Int.cast_ofNat_Int, Int32.reduceToInt, Int64.reduceToInt, Int.zero_add, Int.add_zero, Fin.isValue, Fin.val_zero, Fin.val_one, Fin.val_two, reduceCtorEq, or_false, false_or, or_true, true_or, or_self, and_true, true_and, and_self, not_true_eq_false, not_false_eq_true, implies_true, forall_const, List.mem_cons, List.not_mem_nil, false_implies, true_implies, imp_false, Nat.zero_add, Option.some.injEq, Prod.mk.injEq]
        repeat' first | omega | refine mz_it (fun hh => ?_) (fun hh => ?_) | refine And.intro ?_ ?_
        refine ct_pfind (d + 2) hG k3 (by omega) (by omega) (fun j hj hj1 _ => ?_) (fun hno => ?_)
        · rw [(hf.2 j (by omega)).1] at hj1
          have hjl : f j = lo := pk_i (hf.2 j (by omega)).2 hlok (by omega)
          have uj := uf j (by omega)
          have uj1 := uj.1
          have hfj := hfo j hj
          simp only [mf_Quotient_formFromBelow, ca_Quotient_formFromBelow, dc_Quotient_formFromBelow_0, dc_Quotient_formFromBelow_1, dc_Quotient_formFromBelow_2, dc_Quotient_formFromBelow_3, dc_Quotient_formFromBelow_4, dc_Quotient_formFromBelow_5, fl_Quotient, sl_Quotient, sg_Packed_variable, sg_Packed_exponent, sg_Packed_find, sg_Quotient_timesInto, cpn_quotient_0, cpn_quotient_1, mx_cp_r, u0, u6, k4, uj1, ub1, Int.toNat_natCast, mzr_iconst, mzr_bipush, mzr_sipush, mzr_lconst, mzr_iload, mzr_iload_n, mzr_aload, mzr_aload_n, mzr_lload, mzr_lload_n, mzr_istore, mzr_istore_n, mzr_astore, mzr_astore_n, mzr_lstore, mzr_lstore_n, mzr_iinc, mzr_iadd, mzr_isub, mzr_imul, mzr_iand, mzr_ior, mzr_ixor, mzr_ishl, mzr_ishr, mzr_iushr, mzr_idiv, mzr_irem, mzr_ineg, mzr_ladd, mzr_lsub, mzr_lmul, mzr_lrem, mzr_lcmp, mzr_i2l, mzr_l2i, mzr_i2b, mzr_dup, mzr_pop, mzr_dup2, mzr_ifCond_eq, mzr_if_icmp_eq, mzr_ifCond_ne, mzr_if_icmp_ne, mzr_ifCond_lt, mzr_if_icmp_lt, mzr_ifCond_ge, mzr_if_icmp_ge, mzr_ifCond_gt, mzr_if_icmp_gt, mzr_ifCond_le, mzr_if_icmp_le, mzr_goto, mzr_iaload, mzr_baload, mzr_laload, mzr_aaload, mzr_iastore, mzr_bastore, mzr_lastore, mzr_arraylength, mzr_getfield, mzr_putfield, mzr_getstatic, mzr_ldc, mzr_ldc_w, mzr_ldc2_w, mzr_ireturn, mzr_return_, mzr_copy, mzr_static, mzr_virtual, mzr_new, mz_tk, mz_dp, mz_ln, mz_sz, mz_af_v, mz_af_s, mz_wp_s, mz_w1, mz_g, mz_st, mz_k, mz_s2, mz_nx, mz_en, mx_to, mz_c1, ↓reduceIte, Nat.reduceAdd, Nat.reduceSub, Nat.reduceMul, Nat.reduceMod, Nat.reduceDiv, Nat.reduceEqDiff, Nat.reduceLeDiff, Nat.reduceLT, Int.reduceAdd, Int.reduceSub, Int.reduceNeg, Int.reduceMul, Int.reduceLE, Int.reduceLT, Int.reduceEq, Int.reduceToNat, Int.reduceNegSucc, Int.cast_ofNat_Int, Int32.reduceToInt, Int64.reduceToInt, Int.zero_add, Int.add_zero, Fin.isValue, Fin.val_zero, Fin.val_one, Fin.val_two, reduceCtorEq, or_false, false_or, or_true, true_or, or_self, and_true, true_and, and_self, not_true_eq_false, not_false_eq_true, implies_true, forall_const, List.mem_cons, List.not_mem_nil, false_implies, true_implies, imp_false, Nat.zero_add, Option.some.injEq, Prod.mk.injEq]
          repeat' first | omega | refine mz_it (fun hh => ?_) (fun hh => ?_) | refine And.intro ?_ ?_
          have hjs : ∀ s, s < l.length → H.2.1 (u + 5 + j) s ≠ 0 → al_lt o (fg_B l s) (f j) := by
            intro s hs hz
            have h3 := hfj s (by omega)
            have h4 : ¬ al_e p (nf (f j) (fg_B l s)) 0 := fun q => hz (al_e_z (al_e_t (h3.2.2.1 hs) q) h3.1 h3.2.1)
            rcases hnf.2.2.1 _ _ h4 with q | q
            · exfalso
              have := (hls s hs).2
              rw [q] at this
              exact (hfn j (by omega)).2 this
            · exact q
          have hbord : ∀ s, s < l.length → H.2.1 (u + 5 + j) s ≠ 0 → ∀ b', b' < B → f b' = al_p (fg_B l s) (tb_x v) → b' < b := by
            intro s hs hz b' hb' he
            have h3 := al_lt_a o _ _ (tb_x v) (hjs s hs hz)
            rw [← he, hjl, hlow] at h3
            rcases Nat.lt_trichotomy b' b with q | q | q
            · exact q
            · rw [q] at h3; exact absurd h3 (al_lt_i _ _)
            · exact absurd (al_lt_t o _ _ _ h3 (hO b b' q hb')) (al_lt_i _ _)
          refine ct_timesInto d (p := p) (S := l.length) (PV := fun s k => @ite Int (∃ j', j' < l.length ∧ H.2.1 (u + 165) (s * 4 + v) = (j' : Nat)) (Classical.propDecidable _) (if H.2.1 (u + 165) (s * 4 + v) = (k : Nat) then 1 else 0) (H.2.1 (u + 5 + (H.2.1 (u + 165) (s * 4 + v) - 40).toNat) k)) hG hE' hR hp hp2 uj.2 ub.2 (by omega) hru (by omega) (by omega) hv4 hl.1 hl40 (fun k hk => ⟨(hfj k hk).1, (hfj k hk).2.1⟩) (fun s hs hz => ?_) (fun h' f1 hv1 => ?_)
          · rcases hq s v hs (by omega) with ⟨j', q1, q2, q3⟩ | ⟨b', q1, q2, q3⟩
            · left
              refine ⟨j', by omega, q2, fun k => ?_⟩
              rw [if_pos ⟨j', q1, q2⟩, q2]
              by_cases hk : k = j'
              · rw [if_pos hk, if_pos (by omega)]
              · rw [if_neg hk, if_neg (by omega)]
            · right
              have hbb' := hbord s hs hz b' q1 q3
              refine ⟨b', by omega, q2, by omega, fun k hk => ?_⟩
              have hni : ¬ ∃ j', j' < l.length ∧ H.2.1 (u + 165) (s * 4 + v) = (j' : Nat) := by
                rintro ⟨j', z1, z2⟩
                omega
              rw [if_neg hni, q2, show (((40 + b' : Nat) : Int) - 40).toNat = b' by omega]
              have := hfo b' hbb' k hk
              exact ⟨rfl, this.1, this.2.1⟩
          · have fin := hP h' f1 (fun k hk => by
              obtain ⟨g1, g2, g3⟩ := hv1 k hk
              refine ⟨g1, g2, fun hkl => ?_, fun hkl => ?_⟩
              · refine al_e_t g3 ?_
                have hm := hnf.2.1 (f j) (tb_x v) (fg_B l k) (hfn j (by omega)).1
                rw [hjl, hlow] at hm
                refine al_e_t ?_ (al_e_s hm)
                refine al_e_S (fun s hs => ?_)
                by_cases hz : H.2.1 (u + 5 + j) s = 0
                · rw [hz, Int.zero_mul]
                  have h3 := (hfj s (by omega)).2.2.1 hs
                  rw [hz, hjl] at h3
                  exact al_e_s (al_e_0m (al_e_s h3))
                · refine al_e_m ?_ ?_
                  · have h3 := (hfj s (by omega)).2.2.1 hs
                    rw [hjl] at h3
                    exact h3
                  · rcases hq s v hs (by omega) with ⟨j', q1, q2, q3⟩ | ⟨b', q1, q2, q3⟩
                    · rw [if_pos ⟨j', q1, q2⟩, q2, ← q3, hnf.1 _ _ (hls j' q1).2]
                      by_cases hkj : k = j'
                      · rw [if_pos (by omega), if_pos (by rw [hkj])]
                        exact al_e_r _ _
                      · rw [if_neg (by omega), if_neg (fun q => hkj (hinj k j' hkl q1 q))]
                        exact al_e_r _ _
                    · have hni : ¬ ∃ j', j' < l.length ∧ H.2.1 (u + 165) (s * 4 + v) = (j' : Nat) := by
                        rintro ⟨j', z1, z2⟩
                        omega
                      have hbb' := hbord s hs hz b' q1 q3
                      rw [if_neg hni, q2, show (((40 + b' : Nat) : Int) - 40).toNat = b' by omega, ← q3]
                      exact (hfo b' hbb' k hk).2.2.1 hkl
              · refine al_e_z (al_e_t g3 ?_) g1 g2
                refine al_e_S0 (fun s hs => ?_)
                by_cases hz : H.2.1 (u + 5 + j) s = 0
                · rw [hz, Int.zero_mul]
                  exact al_e_r _ _
                · refine al_e_m0 ?_
                  rcases hq s v hs (by omega) with ⟨j', q1, q2, q3⟩ | ⟨b', q1, q2, q3⟩
                  · rw [if_pos ⟨j', q1, q2⟩, q2, if_neg (by omega)]
                    exact al_e_r _ _
                  · have hni : ¬ ∃ j', j' < l.length ∧ H.2.1 (u + 165) (s * 4 + v) = (j' : Nat) := by
                      rintro ⟨j', z1, z2⟩
                      omega
                    have hbb' := hbord s hs hz b' q1 q3
                    rw [if_neg hni, q2, show (((40 + b' : Nat) : Int) - 40).toNat = b' by omega, (hfo b' hbb' k hk).2.2.2 hkl]
                    exact al_e_r _ _)
            simp only [mf_Quotient_formFromBelow, ca_Quotient_formFromBelow, dc_Quotient_formFromBelow_0, dc_Quotient_formFromBelow_1, dc_Quotient_formFromBelow_2, dc_Quotient_formFromBelow_3, dc_Quotient_formFromBelow_4, dc_Quotient_formFromBelow_5, fl_Quotient, sl_Quotient, sg_Packed_variable, sg_Packed_exponent, sg_Packed_find, sg_Quotient_timesInto, cpn_quotient_0, cpn_quotient_1, mx_cp_r, u0, mzr_iconst, mzr_bipush, mzr_sipush, mzr_lconst, mzr_iload, mzr_iload_n, mzr_aload, mzr_aload_n, mzr_lload, mzr_lload_n, mzr_istore, mzr_istore_n, mzr_astore, mzr_astore_n, mzr_lstore, mzr_lstore_n, mzr_iinc, mzr_iadd, mzr_isub, mzr_imul, mzr_iand, mzr_ior, mzr_ixor, mzr_ishl, mzr_ishr, mzr_iushr, mzr_idiv, mzr_irem, mzr_ineg, mzr_ladd, mzr_lsub, mzr_lmul, mzr_lrem, mzr_lcmp, mzr_i2l, mzr_l2i, mzr_i2b, mzr_dup, mzr_pop, mzr_dup2, mzr_ifCond_eq, mzr_if_icmp_eq, mzr_ifCond_ne, mzr_if_icmp_ne, mzr_ifCond_lt, mzr_if_icmp_lt, mzr_ifCond_ge, mzr_if_icmp_ge, mzr_ifCond_gt, mzr_if_icmp_gt, mzr_ifCond_le, mzr_if_icmp_le, mzr_goto, mzr_iaload, mzr_baload, mzr_laload, mzr_aaload, mzr_iastore, mzr_bastore, mzr_lastore, mzr_arraylength, mzr_getfield, mzr_putfield, mzr_getstatic, mzr_ldc, mzr_ldc_w, mzr_ldc2_w, mzr_ireturn, mzr_return_, mzr_copy, mzr_static, mzr_virtual, mzr_new, mz_tk, mz_dp, mz_ln, mz_sz, mz_af_v, mz_af_s, mz_wp_s, mz_w1, mz_g, mz_st, mz_k, mz_s2, mz_nx, mz_en, mx_to, mz_c1, ↓reduceIte, Nat.reduceAdd, Nat.reduceSub, Nat.reduceMul, Nat.reduceMod, Nat.reduceDiv, Nat.reduceEqDiff, Nat.reduceLeDiff, Nat.reduceLT, Int.reduceAdd, Int.reduceSub, Int.reduceNeg, Int.reduceMul, Int.reduceLE, Int.reduceLT, Int.reduceEq, Int.reduceToNat, Int.reduceNegSucc, Int.cast_ofNat_Int, Int32.reduceToInt, Int64.reduceToInt, Int.zero_add, Int.add_zero, Fin.isValue, Fin.val_zero, Fin.val_one, Fin.val_two, reduceCtorEq, or_false, false_or, or_true, true_or, or_self, and_true, true_and, and_self, not_true_eq_false, not_false_eq_true, implies_true, forall_const, List.mem_cons, List.not_mem_nil, false_implies, true_implies, imp_false, Nat.zero_add, Option.some.injEq, Prod.mk.injEq]
            repeat' first | omega | refine mz_it (fun hh => ?_) (fun hh => ?_) | refine And.intro ?_ ?_
            all_goals exact fin
        · have hx := nx (some (.inl (pk lo : Int))) (some (.inl (-1))) (fun j hj hq => by
            have : f j = lo := al_p_r (hq.trans hlow.symm)
            refine hno j hj ?_
            rw [(hf.2 j (by omega)).1, this])
          simp only [mf_Quotient_formFromBelow, ca_Quotient_formFromBelow, dc_Quotient_formFromBelow_0, dc_Quotient_formFromBelow_1, dc_Quotient_formFromBelow_2, dc_Quotient_formFromBelow_3, dc_Quotient_formFromBelow_4, dc_Quotient_formFromBelow_5, fl_Quotient, sl_Quotient, sg_Packed_variable, sg_Packed_exponent, sg_Packed_find, sg_Quotient_timesInto, cpn_quotient_0, cpn_quotient_1, mx_cp_r, u0, mzr_iconst, mzr_bipush, mzr_sipush, mzr_lconst, mzr_iload, mzr_iload_n, mzr_aload, mzr_aload_n, mzr_lload, mzr_lload_n, mzr_istore, mzr_istore_n, mzr_astore, mzr_astore_n, mzr_lstore, mzr_lstore_n, mzr_iinc, mzr_iadd, mzr_isub, mzr_imul, mzr_iand, mzr_ior, mzr_ixor, mzr_ishl, mzr_ishr, mzr_iushr, mzr_idiv, mzr_irem, mzr_ineg, mzr_ladd, mzr_lsub, mzr_lmul, mzr_lrem, mzr_lcmp, mzr_i2l, mzr_l2i, mzr_i2b, mzr_dup, mzr_pop, mzr_dup2, mzr_ifCond_eq, mzr_if_icmp_eq, mzr_ifCond_ne, mzr_if_icmp_ne, mzr_ifCond_lt, mzr_if_icmp_lt, mzr_ifCond_ge, mzr_if_icmp_ge, mzr_ifCond_gt, mzr_if_icmp_gt, mzr_ifCond_le, mzr_if_icmp_le, mzr_goto, mzr_iaload, mzr_baload, mzr_laload, mzr_aaload, mzr_iastore, mzr_bastore, mzr_lastore, mzr_arraylength, mzr_getfield, mzr_putfield, mzr_getstatic, mzr_ldc, mzr_ldc_w, mzr_ldc2_w, mzr_ireturn, mzr_return_, mzr_copy, mzr_static, mzr_virtual, mzr_new, mz_tk, mz_dp, mz_ln, mz_sz, mz_af_v, mz_af_s, mz_wp_s, mz_w1, mz_g, mz_st, mz_k, mz_s2, mz_nx, mz_en, mx_to, mz_c1, ↓reduceIte, Nat.reduceAdd, Nat.reduceSub, Nat.reduceMul, Nat.reduceMod, Nat.reduceDiv, Nat.reduceEqDiff, Nat.reduceLeDiff, Nat.reduceLT, Int.reduceAdd, Int.reduceSub, Int.reduceNeg, Int.reduceMul, Int.reduceLE, Int.reduceLT, Int.reduceEq, Int.reduceToNat, Int.reduceNegSucc, Int.cast_ofNat_Int, Int32.reduceToInt, Int64.reduceToInt, Int.zero_add, Int.add_zero, Fin.isValue, Fin.val_zero, Fin.val_one, Fin.val_two, reduceCtorEq, or_false, false_or, or_true, true_or, or_self, and_true, true_and, and_self, not_true_eq_false, not_false_eq_true, implies_true, forall_const, List.mem_cons, List.not_mem_nil, false_implies, true_implies, imp_false, Nat.zero_add, Option.some.injEq, Prod.mk.injEq]
          repeat' first | omega | refine mz_it (fun hh => ?_) (fun hh => ?_) | refine And.intro ?_ ?_
          all_goals exact hx
  have hx := lp n 0 none none (by omega) (by obtain ⟨v, j, h1, h2, h3⟩ := hex; exact ⟨v, j, by omega, h1, h2, h3⟩)
  refine mz_CA_of mr_Quotient_formFromBelow ?_
  simp only [mf_Quotient_formFromBelow, mz_en, List.replicate, Nat.reduceSub, Nat.reduceAdd, Nat.reduceMul]
  apply mz_go hG 60 [2]
  simp only [mf_Quotient_formFromBelow, ca_Quotient_formFromBelow, dc_Quotient_formFromBelow_0, dc_Quotient_formFromBelow_1, dc_Quotient_formFromBelow_2, dc_Quotient_formFromBelow_3, dc_Quotient_formFromBelow_4, dc_Quotient_formFromBelow_5, fl_Quotient, sl_Quotient, sg_Packed_variable, sg_Packed_exponent, sg_Packed_find, sg_Quotient_timesInto, cpn_quotient_0, cpn_quotient_1, mx_cp_r, u0, mzr_iconst, mzr_bipush, mzr_sipush, mzr_lconst, mzr_iload, mzr_iload_n, mzr_aload, mzr_aload_n, mzr_lload, mzr_lload_n, mzr_istore, mzr_istore_n, mzr_astore, mzr_astore_n, mzr_lstore, mzr_lstore_n, mzr_iinc, mzr_iadd, mzr_isub, mzr_imul, mzr_iand, mzr_ior, mzr_ixor, mzr_ishl, mzr_ishr, mzr_iushr, mzr_idiv, mzr_irem, mzr_ineg, mzr_ladd, mzr_lsub, mzr_lmul, mzr_lrem, mzr_lcmp, mzr_i2l, mzr_l2i, mzr_i2b, mzr_dup, mzr_pop, mzr_dup2, mzr_ifCond_eq, mzr_if_icmp_eq, mzr_ifCond_ne, mzr_if_icmp_ne, mzr_ifCond_lt, mzr_if_icmp_lt, mzr_ifCond_ge, mzr_if_icmp_ge, mzr_ifCond_gt, mzr_if_icmp_gt, mzr_ifCond_le, mzr_if_icmp_le, mzr_goto, mzr_iaload, mzr_baload, mzr_laload, mzr_aaload, mzr_iastore, mzr_bastore, mzr_lastore, mzr_arraylength, mzr_getfield, mzr_putfield, mzr_getstatic, mzr_ldc, mzr_ldc_w, mzr_ldc2_w, mzr_ireturn, mzr_return_, mzr_copy, mzr_static, mzr_virtual, mzr_new, mz_tk, mz_dp, mz_ln, mz_sz, mz_af_v, mz_af_s, mz_wp_s, mz_w1, mz_g, mz_st, mz_k, mz_s2, mz_nx, mz_en, mx_to, mz_c1, ↓reduceIte, Nat.reduceAdd, Nat.reduceSub, Nat.reduceMul, Nat.reduceMod, Nat.reduceDiv, Nat.reduceEqDiff, Nat.reduceLeDiff, Nat.reduceLT, Int.reduceAdd, Int.reduceSub, Int.reduceNeg, Int.reduceMul, Int.reduceLE, Int.reduceLT, Int.reduceEq, Int.reduceToNat, Int.reduceNegSucc, Int.cast_ofNat_Int, Int32.reduceToInt, Int64.reduceToInt, Int.zero_add, Int.add_zero, Fin.isValue, Fin.val_zero, Fin.val_one, Fin.val_two, reduceCtorEq, or_false, false_or, or_true, true_or, or_self, and_true, true_and, and_self, not_true_eq_false, not_false_eq_true, implies_true, forall_const, List.mem_cons, List.not_mem_nil, false_implies, true_implies, imp_false, Nat.zero_add, Option.some.injEq, Prod.mk.injEq]
  repeat' first | omega | refine mz_it (fun hh => ?_) (fun hh => ?_) | refine And.intro ?_ ?_
  all_goals exact hx
