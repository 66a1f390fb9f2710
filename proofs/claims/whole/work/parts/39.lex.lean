def lx_E (e : mz_E) (x : Nat) : Prop :=
  (e.2.1 x = some (1, 16) ∧ e.2.2.1 x 2 = some (x + 1) ∧ e.2.2.1 x 3 = some (x + 2) ∧ e.2.2.1 x 5 = some (x + 164) ∧ e.2.2.1 x 6 = some (x + 165) ∧ e.2.2.1 x 7 = some (x + 206) ∧ e.2.2.1 x 8 = some (x + 247) ∧ e.2.2.1 x 9 = some (x + 288) ∧ e.2.2.1 x 11 = some (x + 289) ∧ e.2.2.1 x 12 = some (x + 290) ∧ e.2.2.1 x 13 = some (x + 291) ∧ e.2.2.1 x 14 = some (x + 292) ∧ e.2.2.1 x 15 = some (x + 293)) ∧
  (e.2.1 (x + 1) = some (20, 161) ∧ e.2.1 (x + 2) = some (25, 161) ∧ e.2.1 (x + 164) = some (20, 40) ∧ e.2.1 (x + 165) = some (25, 40) ∧ e.2.1 (x + 206) = some (25, 40) ∧ e.2.1 (x + 247) = some (25, 40) ∧ e.2.1 (x + 288) = some (20, 40) ∧ e.2.1 (x + 289) = some (20, 161) ∧ e.2.1 (x + 290) = some (20, 161) ∧ e.2.1 (x + 291) = some (20, 40) ∧ e.2.1 (x + 292) = some (20, 40) ∧ e.2.1 (x + 293) = some (20, 40)) ∧
  (∀ k, k < 161 → e.2.2.1 (x + 2) k = some (x + 3 + k) ∧ e.2.1 (x + 3 + k) = some (20, 40)) ∧ (∀ k, k < 40 → e.2.2.1 (x + 165) k = some (x + 166 + k) ∧ e.2.1 (x + 166 + k) = some (20, 40)) ∧
  (∀ k, k < 40 → e.2.2.1 (x + 206) k = some (x + 207 + k) ∧ e.2.1 (x + 207 + k) = some (20, 40)) ∧ (∀ k, k < 40 → e.2.2.1 (x + 247) k = some (x + 248 + k) ∧ e.2.1 (x + 248 + k) = some (20, 40))
def fg_H (E : List (al_M × (Nat → Int))) (i : Nat) : al_M × (Nat → Int) := E[i]?.getD ((0, 0, 0, 0), fun _ => 0)
theorem fg_H_l (E : List (al_M × (Nat → Int))) (m : al_M × (Nat → Int)) (i : Nat) (h : i < E.length) : fg_H (E ++ [m]) i = fg_H E i := by
  unfold fg_H
  rw [List.getElem?_append_left h]
theorem fg_H_r (E : List (al_M × (Nat → Int))) (m : al_M × (Nat → Int)) : fg_H (E ++ [m]) E.length = m := by
  unfold fg_H
  rw [List.getElem?_append_right (Nat.le_refl _)]
  simp
theorem fg_H_m {E : List (al_M × (Nat → Int))} {i : Nat} (h : i < E.length) : fg_H E i ∈ E := by
  unfold fg_H
  rw [List.getElem?_eq_getElem h]
  exact List.getElem_mem _
theorem fg_H_e {E : List (al_M × (Nat → Int))} {a : al_M × (Nat → Int)} (h : a ∈ E) : ∃ i, i < E.length ∧ fg_H E i = a := by
  obtain ⟨i, hi, he⟩ := List.getElem_of_mem h
  refine ⟨i, hi, ?_⟩
  unfold fg_H
  rw [List.getElem?_eq_getElem hi]
  exact he
theorem fg_B_e {E : List al_M} {a : al_M} (h : a ∈ E) : ∃ i, i < E.length ∧ fg_B E i = a := by
  obtain ⟨i, hi, he⟩ := List.getElem_of_mem h
  refine ⟨i, hi, ?_⟩
  unfold fg_B
  rw [List.getElem?_eq_getElem hi]
  exact he
/- the dictionary as it stands -/
def lx_S (H : mz_H) (x n : Nat) (X : fg_S) : Prop :=
  (H.2.1 x 0 = n ∧ H.2.1 x 1 = X.2.length ∧ H.2.1 x 4 = X.1.length) ∧ X.2.length ≤ 161 ∧ X.1.length ≤ 40 ∧
  (∀ k, k < X.2.length → H.2.1 (x + 1) k = (pk (fg_H X.2 k).1 : Int) ∧ pk_ok (fg_H X.2 k).1 ∧ ∀ i, i < 40 → H.2.1 (x + 3 + k) i = (fg_H X.2 k).2 i) ∧
  (∀ i, i < X.1.length → H.2.1 (x + 164) i = (pk (fg_B X.1 i) : Int) ∧ pk_ok (fg_B X.1 i))
theorem lx_S.fr {H h : mz_H} {A : List Nat} {x n : Nat} {X : fg_S} (hS : lx_S H x n X) (hf : mz_fr H h A) (h0 : ∀ k, k = 0 ∨ k = 1 ∨ k = 4 → h.2.1 x k = H.2.1 x k) (hA : ∀ i, 1 ≤ i → i ≤ 164 → x + i ∉ A) : lx_S h x n X := by
  obtain ⟨⟨a1, a2, a3⟩, a4, a5, a6, a7⟩ := hS
  refine ⟨⟨by rw [h0 0 (by omega), a1], by rw [h0 1 (by omega), a2], by rw [h0 4 (by omega), a3]⟩, a4, a5, fun k hk => ?_, fun i hi => ?_⟩
  · rw [hf.2.2 (x + 1) (hA 1 (by omega) (by omega)), Nat.add_assoc, hf.2.2 (x + (3 + k)) (hA (3 + k) (by omega) (by omega)), ← Nat.add_assoc]
    exact a6 k hk
  · rw [hf.2.2 (x + 164) (hA 164 (by omega) (by omega))]
    exact a7 i hi
def lx_D (X : fg_S) (m : al_M) : Prop := m ∈ X.1 ∨ ∃ e, e ∈ X.2 ∧ al_le e.1 m
set_option maxRecDepth 100000 in
theorem ct_isDone {e : mz_E} (d : Nat) {x n : Nat} {m : al_M} {X : fg_S} {H : mz_H} {P : mz_O → mz_H → Prop} (hG : mx_G e.1) (hE : lx_E e x) (hX : lx_S H x n X) (hm : pk_ok m)
    (hP1 : lx_D X m → P (.inl (some (.inl 1))) H) (hP0 : ¬ lx_D X m → P (.inl (some (.inl 0))) H) : mz_CA e (d + 2) j_Lexicon_isDone [.inr (.inl x), .inl (pk m : Int)] H P := by
  obtain ⟨⟨lx0, lx2, lx3, lx5, lx6, lx7, lx8, lx9, lx11, lx12, lx13, lx14, lx15⟩, ⟨ly1, ly2, ly164, ly165, ly206, ly247, ly288, ly289, ly290, ly291, ly292, ly293⟩, lxt, lxs, lxp, lxq⟩ := hE
  obtain ⟨⟨a1, a2, a3⟩, a4, a5, a6, a7⟩ := hX
  have lp : ∀ (q k : Nat), k + q = X.2.length → (∀ j, j < k → ¬ al_le (fg_H X.2 j).1 m) → mz_V e (d + 2) mm_Lexicon_isDone 2 [some (.inr (.inl x)), some (.inl (pk m : Int)), some (.inl (k : Int))] [] H P := by
    intro q
    induction q with
    | zero =>
      intro k h1 h2
      obtain rfl : k = X.2.length := by omega
      apply mz_go hG 60 [2]
      simp only [mf_Lexicon_isDone, ca_Lexicon_isDone, dc_Lexicon_isDone_0, dc_Lexicon_isDone_1, dc_Lexicon_isDone_2, dc_Lexicon_isDone_3, fl_Lexicon, sl_Lexicon, sg_Packed_divides, sg_Packed_find, cpn_quotient_0, cpn_quotient_1, mx_cp_r, lx0, lx2, lx3, lx5, lx6, lx7, lx8, lx9, lx11, lx12, lx13, lx14, lx15, ly1, ly2, ly164, ly165, ly206, ly247, ly288, ly289, ly290, ly291, ly292, ly293, a2, a3, mzr_iconst, mzr_bipush, mzr_sipush, mzr_lconst, mzr_iload, mzr_iload_n, mzr_aload, mzr_aload_n, mzr_lload, mzr_lload_n, mzr_istore, mzr_istore_n, mzr_astore, mzr_astore_n, mzr_lstore, mzr_lstore_n, mzr_iinc, mzr_iadd, mzr_isub, mzr_imul, mzr_iand, mzr_ior, mzr_ixor, mzr_ishl, mzr_ishr, mzr_iushr, mzr_idiv, mzr_irem, mzr_ineg, mzr_ladd, mzr_lsub, mzr_lmul, mzr_lrem, mzr_lcmp, mzr_i2l, mzr_l2i, mzr_i2b, mzr_dup, mzr_pop, mzr_dup2, mzr_ifCond_eq, mzr_if_icmp_eq, mzr_ifCond_ne, mzr_if_icmp_ne, mzr_ifCond_lt, mzr_if_icmp_lt, mzr_ifCond_ge, mzr_if_icmp_ge, mzr_ifCond_gt, mzr_if_icmp_gt, mzr_ifCond_le, mzr_if_icmp_le, mzr_goto, mzr_iaload, mzr_baload, mzr_laload, mzr_aaload, mzr_iastore, mzr_bastore, mzr_lastore, mzr_arraylength, mzr_getfield, mzr_putfield, mzr_getstatic, mzr_ldc, mzr_ldc_w, mzr_ldc2_w, mzr_ireturn, mzr_return_, mzr_copy, mzr_static, mzr_virtual, mzr_new, mz_tk, mz_dp, mz_ln, mz_sz, mz_af_v, mz_af_s, mz_wp_s, mz_w1, mz_g, mz_st, mz_k, mz_s2, mz_nx, mz_en, mx_to, mz_c1, ↓reduceIte, Nat.reduceAdd, Nat.reduceSub, Nat.reduceMul, Nat.reduceMod, Nat.reduceDiv, Nat.reduceEqDiff, Nat.reduceLeDiff, Nat.reduceLT, Int.reduceAdd, Int.reduceSub, Int.reduceNeg, Int.reduceMul, Int.reduceLE, Int.reduceLT, Int.reduceEq, Int.reduceToNat, Int.reduceNegSucc, Int.cast_ofNat_Int, Int32.reduceToInt, Int64.reduceToInt, Int.zero_add, Int.add_zero, Fin.isValue, Fin.val_zero, Fin.val_one, Fin.val_two, reduceCtorEq, or_false, false_or, or_true, true_or, or_self, and_true, true_and, and_self, not_true_eq_false, not_false_eq_true, implies_true, forall_const, List.mem_cons, List.not_mem_nil, false_implies, true_implies, imp_false, Nat.zero_add, Option.some.injEq, Prod.mk.injEq]
      repeat' first | omega | refine mz_it (fun hh => ?_) (fun hh => ?_) | refine And.intro ?_ ?_
      refine ct_pfind (d + 1) hG ly164 (by omega) (by omega) (fun j hj hj1 _ => ?_) (fun hno => ?_)
      · have fin := hP1 (Or.inl (by
          have : fg_B X.1 j = m := pk_i (a7 j hj).2 hm (by have := (a7 j hj).1; omega)
          rw [← this]; exact fg_B_mem hj))
        simp only [mf_Lexicon_isDone, ca_Lexicon_isDone, dc_Lexicon_isDone_0, dc_Lexicon_isDone_1, dc_Lexicon_isDone_2, dc_Lexicon_isDone_3, fl_Lexicon, sl_Lexicon, sg_Packed_divides, sg_Packed_find, cpn_quotient_0, cpn_quotient_1, mx_cp_r, lx0, lx2, lx3, lx5, lx6, lx7, lx8, lx9, lx11, lx12, lx13, lx14, lx15, ly1, ly2, ly164, ly165, ly206, ly247, ly288, ly289, ly290, ly291, ly292, ly293, mzr_iconst, mzr_bipush, mzr_sipush, mzr_lconst, mzr_iload, mzr_iload_n, mzr_aload, mzr_aload_n, mzr_lload, mzr_lload_n, mzr_istore, mzr_istore_n, mzr_astore, mzr_astore_n, mzr_lstore, mzr_lstore_n, mzr_iinc, mzr_iadd, mzr_isub, mzr_imul, mzr_iand, mzr_ior, mzr_ixor, mzr_ishl, mzr_ishr, mzr_iushr, mzr_idiv, mzr_irem, mzr_ineg, mzr_ladd, mzr_lsub, mzr_lmul, mzr_lrem, mzr_lcmp, mzr_i2l, mzr_l2i, mzr_i2b, mzr_dup, mzr_pop, mzr_dup2, mzr_ifCond_eq, mzr_if_icmp_eq, mzr_ifCond_ne, mzr_if_icmp_ne, mzr_ifCond_lt, mzr_if_icmp_lt, mzr_ifCond_ge, mzr_if_icmp_ge, mzr_ifCond_gt, mzr_if_icmp_gt, mzr_ifCond_le, mzr_if_icmp_le, mzr_goto, mzr_iaload, mzr_baload, mzr_laload, mzr_aaload, mzr_iastore, mzr_bastore, mzr_lastore, mzr_arraylength, mzr_getfield, mzr_putfield, mzr_getstatic, mzr_ldc, mzr_ldc_w, mzr_ldc2_w, mzr_ireturn, mzr_return_, mzr_copy, mzr_static, mzr_virtual, mzr_new, mz_tk, mz_dp, mz_ln, mz_sz, mz_af_v, mz_af_s, mz_wp_s, mz_w1, mz_g, mz_st, mz_k, mz_s2, mz_nx, mz_en, mx_to, mz_c1, ↓reduceIte, Nat.reduceAdd, Nat.reduceSub, Nat.reduceMul, Nat.reduceMod, Nat.reduceDiv, Nat.reduceEqDiff, Nat.reduceLeDiff, Nat.reduceLT, Int.reduceAdd, Int.reduceSub, Int.reduceNeg, Int.reduceMul, Int.reduceLE, Int.reduceLT, Int.reduceEq, Int.reduceToNat, Int.reduceNegSucc, Int.cast_ofNat_Int, Int32.reduceToInt, Int64.reduceToInt, Int.zero_add, Int.add_zero, Fin.isValue, Fin.val_zero, Fin.val_one, Fin.val_two, reduceCtorEq, or_false, false_or, or_true, true_or, or_self, and_true, true_and, and_self, not_true_eq_false, not_false_eq_true, implies_true, forall_const, List.mem_cons, List.not_mem_nil, false_implies, true_implies, imp_false, Nat.zero_add, Option.some.injEq, Prod.mk.injEq]
        repeat' first | omega | refine mz_it (fun hh => ?_) (fun hh => ?_) | refine And.intro ?_ ?_
        all_goals exact fin
      · have fin := hP0 (by
          rintro (h | ⟨e, h, hl⟩)
          · obtain ⟨i, hi, hie⟩ := fg_B_e h
            exact hno i hi (by rw [(a7 i hi).1, hie])
          · obtain ⟨i, hi, hie⟩ := fg_H_e h
            exact h2 i hi (by rw [hie]; exact hl))
        simp only [mf_Lexicon_isDone, ca_Lexicon_isDone, dc_Lexicon_isDone_0, dc_Lexicon_isDone_1, dc_Lexicon_isDone_2, dc_Lexicon_isDone_3, fl_Lexicon, sl_Lexicon, sg_Packed_divides, sg_Packed_find, cpn_quotient_0, cpn_quotient_1, mx_cp_r, lx0, lx2, lx3, lx5, lx6, lx7, lx8, lx9, lx11, lx12, lx13, lx14, lx15, ly1, ly2, ly164, ly165, ly206, ly247, ly288, ly289, ly290, ly291, ly292, ly293, mzr_iconst, mzr_bipush, mzr_sipush, mzr_lconst, mzr_iload, mzr_iload_n, mzr_aload, mzr_aload_n, mzr_lload, mzr_lload_n, mzr_istore, mzr_istore_n, mzr_astore, mzr_astore_n, mzr_lstore, mzr_lstore_n, mzr_iinc, mzr_iadd, mzr_isub, mzr_imul, mzr_iand, mzr_ior, mzr_ixor, mzr_ishl, mzr_ishr, mzr_iushr, mzr_idiv, mzr_irem, mzr_ineg, mzr_ladd, mzr_lsub, mzr_lmul, mzr_lrem, mzr_lcmp, mzr_i2l, mzr_l2i, mzr_i2b, mzr_dup, mzr_pop, mzr_dup2, mzr_ifCond_eq, mzr_if_icmp_eq, mzr_ifCond_ne, mzr_if_icmp_ne, mzr_ifCond_lt, mzr_if_icmp_lt, mzr_ifCond_ge, mzr_if_icmp_ge, mzr_ifCond_gt, mzr_if_icmp_gt, mzr_ifCond_le, mzr_if_icmp_le, mzr_goto, mzr_iaload, mzr_baload, mzr_laload, mzr_aaload, mzr_iastore, mzr_bastore, mzr_lastore, mzr_arraylength, mzr_getfield, mzr_putfield, mzr_getstatic, mzr_ldc, mzr_ldc_w, mzr_ldc2_w, mzr_ireturn, mzr_return_, mzr_copy, mzr_static, mzr_virtual, mzr_new, mz_tk, mz_dp, mz_ln, mz_sz, mz_af_v, mz_af_s, mz_wp_s, mz_w1, mz_g, mz_st, mz_k, mz_s2, mz_nx, mz_en, mx_to, mz_c1, ↓reduceIte, Nat.reduceAdd, Nat.reduceSub, Nat.reduceMul, Nat.reduceMod, Nat.reduceDiv, Nat.reduceEqDiff, Nat.reduceLeDiff, Nat.reduceLT, Int.reduceAdd, Int.reduceSub, Int.reduceNeg, Int.reduceMul, Int.reduceLE, Int.reduceLT, Int.reduceEq, Int.reduceToNat, Int.reduceNegSucc, Int.cast_ofNat_Int, Int32.reduceToInt, Int64.reduceToInt, Int.zero_add, Int.add_zero, Fin.isValue, Fin.val_zero, Fin.val_one, Fin.val_two, reduceCtorEq, or_false, false_or, or_true, true_or, or_self, and_true, true_and, and_self, not_true_eq_false, not_false_eq_true, implies_true, forall_const, List.mem_cons, List.not_mem_nil, false_implies, true_implies, imp_false, Nat.zero_add, Option.some.injEq, Prod.mk.injEq]
        repeat' first | omega | refine mz_it (fun hh => ?_) (fun hh => ?_) | refine And.intro ?_ ?_
        all_goals exact fin
    | succ q ih =>
      intro k h1 h2
      obtain ⟨c1, c2, c3⟩ := a6 k (by omega)
      apply mz_go hG 60 [2]
      simp only [mf_Lexicon_isDone, ca_Lexicon_isDone, dc_Lexicon_isDone_0, dc_Lexicon_isDone_1, dc_Lexicon_isDone_2, dc_Lexicon_isDone_3, fl_Lexicon, sl_Lexicon, sg_Packed_divides, sg_Packed_find, cpn_quotient_0, cpn_quotient_1, mx_cp_r, lx0, lx2, lx3, lx5, lx6, lx7, lx8, lx9, lx11, lx12, lx13, lx14, lx15, ly1, ly2, ly164, ly165, ly206, ly247, ly288, ly289, ly290, ly291, ly292, ly293, a2, c1, Int.toNat_natCast, mzr_iconst, mzr_bipush, mzr_sipush, mzr_lconst, mzr_iload, mzr_iload_n, mzr_aload, mzr_aload_n, mzr_lload, mzr_lload_n, mzr_istore, mzr_istore_n, mzr_astore, mzr_astore_n, mzr_lstore, mzr_lstore_n, mzr_iinc, mzr_iadd, mzr_isub, mzr_imul, mzr_iand, mzr_ior, mzr_ixor, mzr_ishl, mzr_ishr, mzr_iushr, mzr_idiv, mzr_irem, mzr_ineg, mzr_ladd, mzr_lsub, mzr_lmul, mzr_lrem, mzr_lcmp, mzr_i2l, mzr_l2i, mzr_i2b, mzr_dup, mzr_pop, mzr_dup2, mzr_ifCond_eq, mzr_if_icmp_eq, mzr_ifCond_ne, mzr_if_icmp_ne, mzr_ifCond_lt, mzr_if_icmp_lt, mzr_ifCond_ge, mzr_if_icmp_ge, mzr_ifCond_gt, mzr_if_icmp_gt, mzr_ifCond_le, mzr_if_icmp_le, mzr_goto, mzr_iaload, mzr_baload, mzr_laload, mzr_aaload, mzr_iastore, mzr_bastore, mzr_lastore, mzr_arraylength, mzr_getfield, mzr_putfield, mzr_getstatic, mzr_ldc, mzr_ldc_w, mzr_ldc2_w, mzr_ireturn, mzr_return_, mzr_copy, mzr_static, mzr_virtual, mzr_new, mz_tk, mz_dp, mz_ln, mz_sz, mz_af_v, mz_af_s, mz_wp_s, mz_w1, mz_g, mz_st, mz_k, mz_s2, mz_nx, mz_en, mx_to, mz_c1, ↓reduceIte, Nat.reduceAdd, Nat.reduceSub, Nat.reduceMul, Nat.reduceMod, Nat.reduceDiv, Nat.reduceEqDiff, Nat.reduceLeDiff, Nat.reduceLT, Int.reduceAdd, Int.reduceSub, Int.reduceNeg, Int.reduceMul, Int.reduceLE, Int.reduceLT, Int.reduceEq, Int.reduceToNat, Int.reduceNegSucc, Int.cast_ofNat_Int, Int32.reduceToInt, Int64.reduceToInt, Int.zero_add, Int.add_zero, Fin.isValue, Fin.val_zero, Fin.val_one, Fin.val_two, reduceCtorEq, or_false, false_or, or_true, true_or, or_self, and_true, true_and, and_self, not_true_eq_false, not_false_eq_true, implies_true, forall_const, List.mem_cons, List.not_mem_nil, false_implies, true_implies, imp_false, Nat.zero_add, Option.some.injEq, Prod.mk.injEq]
      repeat' first | omega | refine mz_it (fun hh => ?_) (fun hh => ?_) | refine And.intro ?_ ?_
      refine ct_pdivides d hG c2 hm (fun hl => ?_) (fun hl => ?_)
      · have fin := hP1 (Or.inr ⟨fg_H X.2 k, fg_H_m (by omega), hl⟩)
        simp only [mf_Lexicon_isDone, ca_Lexicon_isDone, dc_Lexicon_isDone_0, dc_Lexicon_isDone_1, dc_Lexicon_isDone_2, dc_Lexicon_isDone_3, fl_Lexicon, sl_Lexicon, sg_Packed_divides, sg_Packed_find, cpn_quotient_0, cpn_quotient_1, mx_cp_r, lx0, lx2, lx3, lx5, lx6, lx7, lx8, lx9, lx11, lx12, lx13, lx14, lx15, ly1, ly2, ly164, ly165, ly206, ly247, ly288, ly289, ly290, ly291, ly292, ly293, mzr_iconst, mzr_bipush, mzr_sipush, mzr_lconst, mzr_iload, mzr_iload_n, mzr_aload, mzr_aload_n, mzr_lload, mzr_lload_n, mzr_istore, mzr_istore_n, mzr_astore, mzr_astore_n, mzr_lstore, mzr_lstore_n, mzr_iinc, mzr_iadd, mzr_isub, mzr_imul, mzr_iand, mzr_ior, mzr_ixor, mzr_ishl, mzr_ishr, mzr_iushr, mzr_idiv, mzr_irem, mzr_ineg, mzr_ladd, mzr_lsub, mzr_lmul, mzr_lrem, mzr_lcmp, mzr_i2l, mzr_l2i, mzr_i2b, mzr_dup, mzr_pop, mzr_dup2, mzr_ifCond_eq, mzr_if_icmp_eq, mzr_ifCond_ne, mzr_if_icmp_ne, mzr_ifCond_lt, mzr_if_icmp_lt, mzr_ifCond_ge, mzr_if_icmp_ge, mzr_ifCond_gt, mzr_if_icmp_gt, mzr_ifCond_le, mzr_if_icmp_le, mzr_goto, mzr_iaload, mzr_baload, mzr_laload, mzr_aaload, mzr_iastore, mzr_bastore, mzr_lastore, mzr_arraylength, mzr_getfield, mzr_putfield, mzr_getstatic, mzr_ldc, mzr_ldc_w, mzr_ldc2_w, mzr_ireturn, mzr_return_, mzr_copy, mzr_static, mzr_virtual, mzr_new, mz_tk, mz_dp, mz_ln, mz_sz, mz_af_v, mz_af_s, mz_wp_s, mz_w1, mz_g, mz_st, mz_k, mz_s2, mz_nx, mz_en, mx_to, mz_c1, ↓reduceIte, Nat.reduceAdd, Nat.reduceSub, Nat.reduceMul, Nat.reduceMod, Nat.reduceDiv, Nat.reduceEqDiff, Nat.reduceLeDiff, Nat.reduceLT, Int.reduceAdd, Int.reduceSub, Int.reduceNeg, Int.reduceMul, Int.reduceLE, Int.reduceLT, Int.reduceEq, Int.reduceToNat, Int.reduceNegSucc, Int.cast_ofNat_Int, Int32.reduceToInt, Int64.reduceToInt, Int.zero_add, Int.add_zero, Fin.isValue, Fin.val_zero, Fin.val_one, Fin.val_two, reduceCtorEq, or_false, false_or, or_true, true_or, or_self, and_true, true_and, and_self, not_true_eq_false, not_false_eq_true, implies_true, forall_const, List.mem_cons, List.not_mem_nil, false_implies, true_implies, imp_false, Nat.zero_add, Option.some.injEq, Prod.mk.injEq]
        repeat' first | omega | refine mz_it (fun hh => ?_) (fun hh => ?_) | refine And.intro ?_ ?_
        all_goals exact fin
      · have hx := ih (k + 1) (by omega) (fun j hj => by
          by_cases hjk : j = k
          · rw [hjk]; exact hl
          · exact h2 j (by omega))
        simp only [mf_Lexicon_isDone, ca_Lexicon_isDone, dc_Lexicon_isDone_0, dc_Lexicon_isDone_1, dc_Lexicon_isDone_2, dc_Lexicon_isDone_3, fl_Lexicon, sl_Lexicon, sg_Packed_divides, sg_Packed_find, cpn_quotient_0, cpn_quotient_1, mx_cp_r, lx0, lx2, lx3, lx5, lx6, lx7, lx8, lx9, lx11, lx12, lx13, lx14, lx15, ly1, ly2, ly164, ly165, ly206, ly247, ly288, ly289, ly290, ly291, ly292, ly293, mzr_iconst, mzr_bipush, mzr_sipush, mzr_lconst, mzr_iload, mzr_iload_n, mzr_aload, mzr_aload_n, mzr_lload, mzr_lload_n, mzr_istore, mzr_istore_n, mzr_astore, mzr_astore_n, mzr_lstore, mzr_lstore_n, mzr_iinc, mzr_iadd, mzr_isub, mzr_imul, mzr_iand, mzr_ior, mzr_ixor, mzr_ishl, mzr_ishr, mzr_iushr, mzr_idiv, mzr_irem, mzr_ineg, mzr_ladd, mzr_lsub, mzr_lmul, mzr_lrem, mzr_lcmp, mzr_i2l, mzr_l2i, mzr_i2b, mzr_dup, mzr_pop, mzr_dup2, mzr_ifCond_eq, mzr_if_icmp_eq, mzr_ifCond_ne, mzr_if_icmp_ne, mzr_ifCond_lt, mzr_if_icmp_lt, mzr_ifCond_ge, mzr_if_icmp_ge, mzr_ifCond_gt, mzr_if_icmp_gt, mzr_ifCond_le, mzr_if_icmp_le, mzr_goto, mzr_iaload, mzr_baload, mzr_laload, mzr_aaload, mzr_iastore, mzr_bastore, mzr_lastore, mzr_arraylength, mzr_getfield, mzr_putfield, mzr_getstatic, mzr_ldc, mzr_ldc_w, mzr_ldc2_w, mzr_ireturn, mzr_return_, mzr_copy, mzr_static, mzr_virtual, mzr_new, mz_tk, mz_dp, mz_ln, mz_sz, mz_af_v, mz_af_s, mz_wp_s, mz_w1, mz_g, mz_st, mz_k, mz_s2, mz_nx, mz_en, mx_to, mz_c1, ↓reduceIte, Nat.reduceAdd, Nat.reduceSub, Nat.reduceMul, Nat.reduceMod, Nat.reduceDiv, Nat.reduceEqDiff, Nat.reduceLeDiff, Nat.reduceLT, Int.reduceAdd, Int.reduceSub, Int.reduceNeg, Int.reduceMul, Int.reduceLE, Int.reduceLT, Int.reduceEq, Int.reduceToNat, Int.reduceNegSucc, Int.cast_ofNat_Int, Int32.reduceToInt, Int64.reduceToInt, Int.zero_add, Int.add_zero, Fin.isValue, Fin.val_zero, Fin.val_one, Fin.val_two, reduceCtorEq, or_false, false_or, or_true, true_or, or_self, and_true, true_and, and_self, not_true_eq_false, not_false_eq_true, implies_true, forall_const, List.mem_cons, List.not_mem_nil, false_implies, true_implies, imp_false, Nat.zero_add, Option.some.injEq, Prod.mk.injEq]
        repeat' first | omega | refine mz_it (fun hh => ?_) (fun hh => ?_) | refine And.intro ?_ ?_
        all_goals exact hx
  have hx := lp X.2.length 0 (by omega) (fun j hj => by omega)
  refine mz_CA_of mr_Lexicon_isDone ?_
  simp only [mf_Lexicon_isDone, mz_en, List.replicate, Nat.reduceSub, Nat.reduceAdd, Nat.reduceMul]
  apply mz_go hG 60 [2]
  simp only [mf_Lexicon_isDone, ca_Lexicon_isDone, dc_Lexicon_isDone_0, dc_Lexicon_isDone_1, dc_Lexicon_isDone_2, dc_Lexicon_isDone_3, fl_Lexicon, sl_Lexicon, sg_Packed_divides, sg_Packed_find, cpn_quotient_0, cpn_quotient_1, mx_cp_r, lx0, lx2, lx3, lx5, lx6, lx7, lx8, lx9, lx11, lx12, lx13, lx14, lx15, ly1, ly2, ly164, ly165, ly206, ly247, ly288, ly289, ly290, ly291, ly292, ly293, mzr_iconst, mzr_bipush, mzr_sipush, mzr_lconst, mzr_iload, mzr_iload_n, mzr_aload, mzr_aload_n, mzr_lload, mzr_lload_n, mzr_istore, mzr_istore_n, mzr_astore, mzr_astore_n, mzr_lstore, mzr_lstore_n, mzr_iinc, mzr_iadd, mzr_isub, mzr_imul, mzr_iand, mzr_ior, mzr_ixor, mzr_ishl, mzr_ishr, mzr_iushr, mzr_idiv, mzr_irem, mzr_ineg, mzr_ladd, mzr_lsub, mzr_lmul, mzr_lrem, mzr_lcmp, mzr_i2l, mzr_l2i, mzr_i2b, mzr_dup, mzr_pop, mzr_dup2, mzr_ifCond_eq, mzr_if_icmp_eq, mzr_ifCond_ne, mzr_if_icmp_ne, mzr_ifCond_lt, mzr_if_icmp_lt, mzr_ifCond_ge, mzr_if_icmp_ge, mzr_ifCond_gt, mzr_if_icmp_gt, mzr_ifCond_le, mzr_if_icmp_le, mzr_goto, mzr_iaload, mzr_baload, mzr_laload, mzr_aaload, mzr_iastore, mzr_bastore, mzr_lastore, mzr_arraylength, mzr_getfield, mzr_putfield, mzr_getstatic, mzr_ldc, mzr_ldc_w, mzr_ldc2_w, mzr_ireturn, mzr_return_, mzr_copy, mzr_static, mzr_virtual, mzr_new, mz_tk, mz_dp, mz_ln, mz_sz, mz_af_v, mz_af_s, mz_wp_s, mz_w1, mz_g, mz_st, mz_k, mz_s2, mz_nx, mz_en, mx_to, mz_c1, ↓reduceIte, Nat.reduceAdd, Nat.reduceSub, Nat.reduceMul, Nat.reduceMod, Nat.reduceDiv, Nat.reduceEqDiff, Nat.reduceLeDiff, Nat.reduceLT, Int.reduceAdd, Int.reduceSub, Int.reduceNeg, Int.reduceMul, Int.reduceLE, Int.reduceLT, Int.reduceEq, Int.reduceToNat, Int.reduceNegSucc, Int.cast_ofNat_Int, Int32.reduceToInt, Int64.reduceToInt, Int.zero_add, Int.add_zero, Fin.isValue, Fin.val_zero, Fin.val_one, Fin.val_two, reduceCtorEq, or_false, false_or, or_true, true_or, or_self, and_true, true_and, and_self, not_true_eq_false, not_false_eq_true, implies_true, forall_const, List.mem_cons, List.not_mem_nil, false_implies, true_implies, imp_false, Nat.zero_add, Option.some.injEq, Prod.mk.injEq]
  repeat' first | omega | refine mz_it (fun hh => ?_) (fun hh => ?_) | refine And.intro ?_ ?_
  all_goals exact hx
def cu4 (f : Nat → Int) (j : Nat) : Int := if j < 40 then f j else 0
set_option maxRecDepth 100000 in
theorem ct_keepHead {e : mz_E} (d : Nat) {x n : Nat} {m : al_M} {X : fg_S} {H : mz_H} {P : mz_O → mz_H → Prop} (hG : mx_G e.1) (hE : lx_E e x) (hX : lx_S H x n X) (hm : pk_ok m) (hlen : X.2.length < 161)
    (hP : ∀ h, mz_fr H h [x, x + 1, x + 3 + X.2.length] → (∀ k, k ≠ 1 → h.2.1 x k = H.2.1 x k) → lx_S h x n (X.1, X.2 ++ [(m, cu4 (H.2.1 (x + 293)))]) → P (.inl none) h) : mz_CA e d j_Lexicon_keepHead [.inr (.inl x), .inl (pk m : Int)] H P := by
  have hX' := hX
  obtain ⟨⟨lx0, lx2, lx3, lx5, lx6, lx7, lx8, lx9, lx11, lx12, lx13, lx14, lx15⟩, ⟨ly1, ly2, ly164, ly165, ly206, ly247, ly288, ly289, ly290, ly291, ly292, ly293⟩, lxt, lxs, lxp, lxq⟩ := hE
  obtain ⟨⟨a1, a2, a3⟩, a4, a5, a6, a7⟩ := hX
  have t1 := (lxt X.2.length hlen).1
  have t2 := (lxt X.2.length hlen).2
  have fin := hP (mz_w (mz_cy (mz_w H (x + 1) X.2.length (pk m : Int)) (x + 293) 0 (x + 3 + X.2.length) 0 40) x 1 ((X.2.length : Int) + 1)) (((mz_fr.w _ _ _ _ (by simp)).tr (mz_fr.cy _ _ _ _ _ _ (by simp))).tr (mz_fr.w _ _ _ _ (by simp))) (fun k hk => by
      rw [mz_w_g, if_neg (by omega), mz_cy_g, if_neg (by omega), mz_w_g, if_neg (by omega)])
    ⟨⟨by rw [mz_w_g, if_neg (by omega), mz_cy_g, if_neg (by omega), mz_w_g, if_neg (by omega), a1], by rw [mz_w_g, if_pos ⟨rfl, rfl⟩, List.length_append, List.length_singleton]; omega, by rw [mz_w_g, if_neg (by omega), mz_cy_g, if_neg (by omega), mz_w_g, if_neg (by omega), a3]⟩, by rw [List.length_append, List.length_singleton]; omega, a5, fun k hk => by
      rw [List.length_append, List.length_singleton] at hk
      rw [mz_w_g, if_neg (by omega), mz_cy_g, if_neg (by omega), mz_w_g]
      by_cases hkl : k = X.2.length
      · rw [if_pos ⟨rfl, hkl⟩, hkl, fg_H_r]
        refine ⟨rfl, hm, fun i hi => ?_⟩
        rw [mz_w_g, if_neg (by omega), mz_cy_g, if_pos rfl, if_pos ⟨by omega, by omega⟩, mz_w_g, if_neg (by omega)]
        show _ = cu4 (H.2.1 (x + 293)) i
        unfold cu4
        rw [if_pos hi, Nat.zero_add, Nat.sub_zero]
      · rw [if_neg (by omega), fg_H_l _ _ _ (by omega)]
        obtain ⟨c1, c2, c3⟩ := a6 k (by omega)
        refine ⟨c1, c2, fun i hi => ?_⟩
        rw [mz_w_g, if_neg (by omega), mz_cy_g, if_neg (by omega), mz_w_g, if_neg (by omega), c3 i hi], fun i hi => by
      rw [mz_w_g, if_neg (by omega), mz_cy_g, if_neg (by omega), mz_w_g, if_neg (by omega)]
      exact a7 i hi⟩
  have zc : (mz_cy (mz_w H (x + 1) X.2.length (pk m : Int)) (x + 293) 0 (x + 3 + X.2.length) 0 40).2.1 x 1 = X.2.length := by
    rw [mz_cy_g, if_neg (by omega), mz_w_g, if_neg (by omega), a2]
  refine mz_CA_of mr_Lexicon_keepHead ?_
  simp only [mf_Lexicon_keepHead, mz_en, List.replicate, Nat.reduceSub, Nat.reduceAdd, Nat.reduceMul]
  apply mz_go hG 60 []
  simp only [mf_Lexicon_keepHead, ca_Lexicon_keepHead, dc_Lexicon_keepHead_0, dc_Lexicon_keepHead_1, dc_Lexicon_keepHead_2, dc_Lexicon_keepHead_3, fl_Lexicon, sl_Lexicon, cpn_quotient_0, cpn_quotient_1, mx_cp_r, lx0, lx2, lx3, lx5, lx6, lx7, lx8, lx9, lx11, lx12, lx13, lx14, lx15, ly1, ly2, ly164, ly165, ly206, ly247, ly288, ly289, ly290, ly291, ly292, ly293, a2, t1, t2, zc, mz_w_g, Nat.left_eq_add, Nat.add_left_cancel_iff, Nat.add_eq_left, false_and, if_false, if_true, Int.toNat_natCast, mzr_iconst, mzr_bipush, mzr_sipush, mzr_lconst, mzr_iload, mzr_iload_n, mzr_aload, mzr_aload_n, mzr_lload, mzr_lload_n, mzr_istore, mzr_istore_n, mzr_astore, mzr_astore_n, mzr_lstore, mzr_lstore_n, mzr_iinc, mzr_iadd, mzr_isub, mzr_imul, mzr_iand, mzr_ior, mzr_ixor, mzr_ishl, mzr_ishr, mzr_iushr, mzr_idiv, mzr_irem, mzr_ineg, mzr_ladd, mzr_lsub, mzr_lmul, mzr_lrem, mzr_lcmp, mzr_i2l, mzr_l2i, mzr_i2b, mzr_dup, mzr_pop, mzr_dup2, mzr_ifCond_eq, mzr_if_icmp_eq, mzr_ifCond_ne, mzr_if_icmp_ne, mzr_ifCond_lt, mzr_if_icmp_lt, mzr_ifCond_ge, mzr_if_icmp_ge, mzr_ifCond_gt, mzr_if_icmp_gt, mzr_ifCond_le, mzr_if_icmp_le, mzr_goto, mzr_iaload, mzr_baload, mzr_laload, mzr_aaload, mzr_iastore, mzr_bastore, mzr_lastore, mzr_arraylength, mzr_getfield, mzr_putfield, mzr_getstatic, mzr_ldc, mzr_ldc_w, mzr_ldc2_w, mzr_ireturn, mzr_return_, mzr_copy, mzr_static, mzr_virtual, mzr_new, mz_tk, mz_dp, mz_ln, mz_sz, mz_af_v, mz_af_s, mz_wp_s, mz_w1, mz_g, mz_st, mz_k, mz_s2, mz_nx, mz_en, mx_to, mz_c1, ↓reduceIte, Nat.reduceAdd, Nat.reduceSub, Nat.reduceMul, Nat.reduceMod, Nat.reduceDiv, Nat.reduceEqDiff, Nat.reduceLeDiff, Nat.reduceLT, Int.reduceAdd, Int.reduceSub, Int.reduceNeg, Int.reduceMul, Int.reduceLE, Int.reduceLT, Int.reduceEq, Int.reduceToNat, Int.reduceNegSucc, Int.cast_ofNat_Int, Int32.reduceToInt, Int64.reduceToInt, Int.zero_add, Int.add_zero, Fin.isValue, Fin.val_zero, Fin.val_one, Fin.val_two, reduceCtorEq, or_false, false_or, or_true, true_or, or_self, and_true, true_and, and_self, not_true_eq_false, not_false_eq_true, implies_true, forall_const, List.mem_cons, List.not_mem_nil, false_implies, true_implies, imp_false, Nat.zero_add, Option.some.injEq, Prod.mk.injEq]
  repeat' first | omega | refine mz_it (fun hh => ?_) (fun hh => ?_) | refine And.intro ?_ ?_
  all_goals exact fin
