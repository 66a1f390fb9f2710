set_option maxRecDepth 100000 in
theorem ct_timesInto2 {e : mz_E} (d : Nat) {u r row out v n o B N : Nat} {p : Int} {l : List al_M} {f : Nat → al_M} {St : al_M → Prop} {V : (Nat → Int) → Prop} {nf : al_M → al_M → Int} {y : al_M} {H : mz_H} {P : mz_O → mz_H → Prop} (hG : mx_G e.1) (hE : qu_E e u) (hR : rg_E e r) (hp : H.2.1 r 0 = p) (hp2 : 2 ≤ p ∧ p < 32768) (hrow : e.2.1 row = some (20, 40)) (hout : e.2.1 out = some (20, 40)) (hro : row ≠ out) (hru : r + 10 < u) (hou : out < u ∨ u + 166 < out) (hor : out ≠ r) (hn4 : n ≤ 4) (hv : v < n) (hl : H.2.1 u 0 = l.length) (hl40 : l.length ≤ 40)
    (hls : ∀ i, i < l.length → St (fg_B l i)) (hinj : ∀ i j, i < l.length → j < l.length → fg_B l i = fg_B l j → i = j) (hF : fq_S H u p n o B l f nf) (hnf : nf_A p n o l St N V nf) (hy : fo_1 p (H.2.1 row) l nf y) (hyv : tb_v n y)
    (hP : ∀ h, mz_fr H h [out] → fo_1 p (h.2.1 out) l nf (al_p y (tb_x v)) → P (.inl none) h) :
    mz_CA e (d + 2) j_Quotient_timesInto [.inr (.inl u), .inr (.inl r), .inr (.inl row), .inl (v : Int), .inr (.inl out)] H P := by
  obtain ⟨hB, hf, hO, hq, hfo⟩ := hF
  refine ct_timesInto d (p := p) (S := l.length) (PV := fun s k => @ite Int (∃ j', j' < l.length ∧ H.2.1 (u + 165) (s * 4 + v) = (j' : Nat)) (Classical.propDecidable _) (if H.2.1 (u + 165) (s * 4 + v) = (k : Nat) then 1 else 0) (H.2.1 (u + 5 + (H.2.1 (u + 165) (s * 4 + v) - 40).toNat) k)) hG hE hR hp hp2 hrow hout hro hru (by omega) (by omega) (by omega) hl hl40 (fun k hk => ⟨(hy k hk).1, (hy k hk).2.1⟩) (fun s hs hz => ?_) (fun h' f1 hv1 => ?_)
  · rcases hq s v hs (by omega) with ⟨j', q1, q2, q3⟩ | ⟨b', q1, q2, q3⟩
    · left
      refine ⟨j', by omega, q2, fun k => ?_⟩
      rw [if_pos ⟨j', q1, q2⟩, q2]
      by_cases hk : k = j'
      · rw [if_pos hk, if_pos (by omega)]
      · rw [if_neg hk, if_neg (by omega)]
    · right
      refine ⟨b', by omega, q2, by omega, fun k hk => ?_⟩
      have hni : ¬ ∃ j', j' < l.length ∧ H.2.1 (u + 165) (s * 4 + v) = (j' : Nat) := by
        rintro ⟨j', z1, z2⟩
        omega
      rw [if_neg hni, q2, show (((40 + b' : Nat) : Int) - 40).toNat = b' by omega]
      have := hfo b' q1 k hk
      exact ⟨rfl, this.1, this.2.1⟩
  · refine hP h' f1 (fun k hk => ?_)
    obtain ⟨g1, g2, g3⟩ := hv1 k hk
    refine ⟨g1, g2, fun hkl => ?_, fun hkl => ?_⟩
    · refine al_e_t g3 ?_
      have hm := hnf.2.1 y (tb_x v) (fg_B l k) hyv
      refine al_e_t ?_ (al_e_s hm)
      refine al_e_S (fun s hs => ?_)
      refine al_e_m ((hy s (by omega)).2.2.1 hs) ?_
      rcases hq s v hs (by omega) with ⟨j', q1, q2, q3⟩ | ⟨b', q1, q2, q3⟩
      · rw [if_pos ⟨j', q1, q2⟩, q2, ← q3, hnf.1 _ _ (hls j' q1)]
        by_cases hkj : k = j'
        · rw [if_pos (by omega), if_pos (by rw [hkj])]
          exact al_e_r _ _
        · rw [if_neg (by omega), if_neg (fun q => hkj (hinj k j' hkl q1 q))]
          exact al_e_r _ _
      · have hni : ¬ ∃ j', j' < l.length ∧ H.2.1 (u + 165) (s * 4 + v) = (j' : Nat) := by
          rintro ⟨j', z1, z2⟩
          omega
        rw [if_neg hni, q2, show (((40 + b' : Nat) : Int) - 40).toNat = b' by omega, ← q3]
        exact (hfo b' q1 k hk).2.2.1 hkl
    · refine al_e_z (al_e_t g3 ?_) g1 g2
      refine al_e_S0 (fun s hs => ?_)
      refine al_e_m0 ?_
      rcases hq s v hs (by omega) with ⟨j', q1, q2, q3⟩ | ⟨b', q1, q2, q3⟩
      · rw [if_pos ⟨j', q1, q2⟩, q2, if_neg (by omega)]
        exact al_e_r _ _
      · have hni : ¬ ∃ j', j' < l.length ∧ H.2.1 (u + 165) (s * 4 + v) = (j' : Nat) := by
          rintro ⟨j', z1, z2⟩
          omega
        rw [if_neg hni, q2, show (((40 + b' : Nat) : Int) - 40).toNat = b' by omega, (hfo b' q1 k hk).2.2.2 hkl]
        exact al_e_r _ _
set_option maxRecDepth 100000 in
theorem ct_loadRow0 {e : mz_E} (d : Nat) {x u r n o N : Nat} {p : Int} {l : List al_M} {St : al_M → Prop} {V : (Nat → Int) → Prop} {nf : al_M → al_M → Int} {H : mz_H} {P : mz_O → mz_H → Prop} (hG : mx_G e.1) (hX : lx_E e x) (hp2 : 2 ≤ p) (hl1 : 1 ≤ l.length) (hl40 : l.length ≤ 40) (h0 : fg_B l 0 = (0, 0, 0, 0)) (hSt : St (0, 0, 0, 0)) (hinj : ∀ i j, i < l.length → j < l.length → fg_B l i = fg_B l j → i = j) (hnf : nf_A p n o l St N V nf)
    (hP : ∀ h, mz_fr H h [x + 291] → fo_1 p (h.2.1 (x + 291)) l nf (0, 0, 0, 0) → P (.inl none) h) :
    mz_CA e (d + 3) j_Lexicon_loadRow [.inr (.inl x), .inr (.inl r), .inr (.inl u), .inl (-1)] H P := by
  obtain ⟨⟨lx0, lx2, lx3, lx5, lx6, lx7, lx8, lx9, lx11, lx12, lx13, lx14, lx15⟩, ⟨ly1, ly2, ly164, ly165, ly206, ly247, ly288, ly289, ly290, ly291, ly292, ly293⟩, lxt, lxs, lxp, lxq⟩ := hX
  refine mz_CA_of mr_Lexicon_loadRow ?_
  simp only [mf_Lexicon_loadRow, mz_en, List.replicate, Nat.reduceSub, Nat.reduceAdd, Nat.reduceMul]
  apply mz_go hG 60 []
  simp only [mf_Lexicon_loadRow, ca_Lexicon_loadRow, dc_Lexicon_loadRow_0, dc_Lexicon_loadRow_1, dc_Lexicon_loadRow_2, dc_Lexicon_loadRow_3, fl_Lexicon, sl_Lexicon, sg_Arrays_fill, sg_Quotient_timesInto, cpn_quotient_0, cpn_quotient_1, mx_cp_r, lx0, lx2, lx3, lx5, lx6, lx7, lx8, lx9, lx11, lx12, lx13, lx14, lx15, ly1, ly2, ly164, ly165, ly206, ly247, ly288, ly289, ly290, ly291, ly292, ly293, mzr_iconst, mzr_bipush, mzr_sipush, mzr_lconst, mzr_iload, mzr_iload_n, mzr_aload, mzr_aload_n, mzr_lload, mzr_lload_n, mzr_istore, mzr_istore_n, mzr_astore, mzr_astore_n, mzr_lstore, mzr_lstore_n, mzr_iinc, mzr_iadd, mzr_isub, mzr_imul, mzr_iand, mzr_ior, mzr_ixor, mzr_ishl, mzr_ishr, mzr_iushr, mzr_idiv, mzr_irem, mzr_ineg, mzr_ladd, mzr_lsub, mzr_lmul, mzr_lrem, mzr_lcmp, mzr_i2l, mzr_l2i, mzr_i2b, mzr_dup, mzr_pop, mzr_dup2, mzr_ifCond_eq, mzr_if_icmp_eq, mzr_ifCond_ne, mzr_if_icmp_ne, mzr_ifCond_lt, mzr_if_icmp_lt, mzr_ifCond_ge, mzr_if_icmp_ge, mzr_ifCond_gt, mzr_if_icmp_gt, mzr_ifCond_le, mzr_if_icmp_le, mzr_goto, mzr_iaload, mzr_baload, mzr_laload, mzr_aaload, mzr_iastore, mzr_bastore, mzr_lastore, mzr_arraylength, mzr_getfield, mzr_putfield, mzr_getstatic, mzr_ldc, mzr_ldc_w, mzr_ldc2_w, mzr_ireturn, mzr_return_, mzr_copy, mzr_static, mzr_virtual, mzr_new, mz_tk, mz_dp, mz_ln, mz_sz, mz_af_v, mz_af_s, mz_wp_s, mz_w1, mz_g, mz_st, mz_k, mz_s2, mz_nx, mz_en, mx_to, mz_c1, ↓reduceIte, Nat.reduceAdd, Nat.reduceSub, Nat.reduceMul, Nat.reduceMod, Nat.reduceDiv, Nat.reduceEqDiff, Nat.reduceLeDiff, Nat.reduceLT, Int.reduceAdd, Int.reduceSub, Int.reduceNeg, Int.reduceMul, Int.reduceLE, Int.reduceLT, Int.reduceEq, Int.reduceToNat, Int.reduceNegSucc, Int.cast_ofNat_Int, Int32.reduceToInt, Int64.reduceToInt, Int.zero_add, Int.add_zero, Fin.isValue, Fin.val_zero, Fin.val_one, Fin.val_two, reduceCtorEq, or_false, false_or, or_true, true_or, or_self, and_true, true_and, and_self, not_true_eq_false, not_false_eq_true, implies_true, forall_const, List.mem_cons, List.not_mem_nil, false_implies, true_implies, imp_false, Nat.zero_add, Option.some.injEq, Prod.mk.injEq]
  repeat' first | omega | refine mz_it (fun hh => ?_) (fun hh => ?_) | refine And.intro ?_ ?_
  refine ct_fill (d + 2) hG ly291 (by omega) (fun h f1 hv1 => ?_)
  have fin := hP (mz_w h (x + 291) 0 1) (f1.tr (mz_fr.w _ _ _ _ (by simp))) (fun k hk => by
    rw [mz_w_g]
    by_cases hk0 : k = 0
    · rw [if_pos ⟨rfl, hk0⟩]
      refine ⟨by omega, by omega, fun _ => ?_, fun hq => by omega⟩
      rw [hnf.1 _ _ hSt, if_pos (by rw [hk0, h0])]
      exact al_e_r _ _
    · rw [if_neg (fun q => hk0 q.2), hv1, if_pos hk]
      refine ⟨by omega, by omega, fun hkl => ?_, fun _ => rfl⟩
      rw [hnf.1 _ _ hSt, if_neg (fun q => hk0 (hinj k 0 hkl (by omega) (q.trans h0.symm)))]
      exact al_e_r _ _)
  simp only [mf_Lexicon_loadRow, ca_Lexicon_loadRow, dc_Lexicon_loadRow_0, dc_Lexicon_loadRow_1, dc_Lexicon_loadRow_2, dc_Lexicon_loadRow_3, fl_Lexicon, sl_Lexicon, sg_Arrays_fill, sg_Quotient_timesInto, cpn_quotient_0, cpn_quotient_1, mx_cp_r, lx0, lx2, lx3, lx5, lx6, lx7, lx8, lx9, lx11, lx12, lx13, lx14, lx15, ly1, ly2, ly164, ly165, ly206, ly247, ly288, ly289, ly290, ly291, ly292, ly293, mzr_iconst, mzr_bipush, mzr_sipush, mzr_lconst, mzr_iload, mzr_iload_n, mzr_aload, mzr_aload_n, mzr_lload, mzr_lload_n, mzr_istore, mzr_istore_n, mzr_astore, mzr_astore_n, mzr_lstore, mzr_lstore_n, mzr_iinc, mzr_iadd, mzr_isub, mzr_imul, mzr_iand, mzr_ior, mzr_ixor, mzr_ishl, mzr_ishr, mzr_iushr, mzr_idiv, mzr_irem, mzr_ineg, mzr_ladd, mzr_lsub, mzr_lmul, mzr_lrem, mzr_lcmp, mzr_i2l, mzr_l2i, mzr_i2b, mzr_dup, mzr_pop, mzr_dup2, mzr_ifCond_eq, mzr_if_icmp_eq, mzr_ifCond_ne, mzr_if_icmp_ne, mzr_ifCond_lt, mzr_if_icmp_lt, mzr_ifCond_ge, mzr_if_icmp_ge, mzr_ifCond_gt, mzr_if_icmp_gt, mzr_ifCond_le, mzr_if_icmp_le, mzr_goto, mzr_iaload, mzr_baload, mzr_laload, mzr_aaload, mzr_iastore, mzr_bastore, mzr_lastore, mzr_arraylength, mzr_getfield, mzr_putfield, mzr_getstatic, mzr_ldc, mzr_ldc_w, mzr_ldc2_w, mzr_ireturn, mzr_return_, mzr_copy, mzr_static, mzr_virtual, mzr_new, mz_tk, mz_dp, mz_ln, mz_sz, mz_af_v, mz_af_s, mz_wp_s, mz_w1, mz_g, mz_st, mz_k, mz_s2, mz_nx, mz_en, mx_to, mz_c1, ↓reduceIte, Nat.reduceAdd, Nat.reduceSub, Nat.reduceMul, Nat.reduceMod, Nat.reduceDiv, Nat.reduceEqDiff, Nat.reduceLeDiff, Nat.reduceLT, Int.reduceAdd, Int.reduceSub, Int.reduceNeg, Int.reduceMul, Int.reduceLE, Int.reduceLT, Int.reduceEq, Int.reduceToNat, Int.reduceNegSucc, Int.cast_ofNat_Int, Int32.reduceToInt, Int64.reduceToInt, Int.zero_add, Int.add_zero, Fin.isValue, Fin.val_zero, Fin.val_one, Fin.val_two, reduceCtorEq, or_false, false_or, or_true, true_or, or_self, and_true, true_and, and_self, not_true_eq_false, not_false_eq_true, implies_true, forall_const, List.mem_cons, List.not_mem_nil, false_implies, true_implies, imp_false, Nat.zero_add, Option.some.injEq, Prod.mk.injEq]
  repeat' first | omega | refine mz_it (fun hh => ?_) (fun hh => ?_) | refine And.intro ?_ ?_
  all_goals exact fin
set_option maxRecDepth 100000 in
theorem ct_loadRow1 {e : mz_E} (d : Nat) {x u r i v n o B N : Nat} {p : Int} {l : List al_M} {f : Nat → al_M} {St : al_M → Prop} {V : (Nat → Int) → Prop} {nf : al_M → al_M → Int} {y : al_M} {H : mz_H} {P : mz_O → mz_H → Prop} (hG : mx_G e.1) (hX : lx_E e x) (hE : qu_E e u) (hR : rg_E e r) (hp : H.2.1 r 0 = p) (hp2 : 2 ≤ p ∧ p < 32768) (hru : r + 10 < u) (hux : u + 166 < x) (hn4 : n ≤ 4) (hv : v < n) (hi : i < 40) (hl : H.2.1 u 0 = l.length) (hl40 : l.length ≤ 40)
    (hls : ∀ i, i < l.length → St (fg_B l i)) (hinj : ∀ i j, i < l.length → j < l.length → fg_B l i = fg_B l j → i = j) (hF : fq_S H u p n o B l f nf) (hnf : nf_A p n o l St N V nf) (hy : fo_1 p (H.2.1 (x + 166 + i)) l nf y) (hyv : tb_v n y)
    (hP : ∀ h, mz_fr H h [x + 291] → fo_1 p (h.2.1 (x + 291)) l nf (al_p y (tb_x v)) → P (.inl none) h) :
    mz_CA e (d + 3) j_Lexicon_loadRow [.inr (.inl x), .inr (.inl r), .inr (.inl u), .inl ((i * 4 + v : Nat) : Int)] H P := by
  obtain ⟨⟨lx0, lx2, lx3, lx5, lx6, lx7, lx8, lx9, lx11, lx12, lx13, lx14, lx15⟩, ⟨ly1, ly2, ly164, ly165, ly206, ly247, ly288, ly289, ly290, ly291, ly292, ly293⟩, lxt, lxs, lxp, lxq⟩ := hX
  have u0 := hE.1.1
  have t1 := (lxs i hi).1
  have t2 := (lxs i hi).2
  have q1 : ((i * 4 + v : Nat) : Int).tdiv 4 = (i : Int) := by rw [mz_td (by omega)]; omega
  have q2 : ((i * 4 + v : Nat) : Int).tmod 4 = (v : Int) := by rw [mz_tm (by omega)]; omega
  refine mz_CA_of mr_Lexicon_loadRow ?_
  simp only [mf_Lexicon_loadRow, mz_en, List.replicate, Nat.reduceSub, Nat.reduceAdd, Nat.reduceMul]
  apply mz_go hG 60 []
  simp only [mf_Lexicon_loadRow, ca_Lexicon_loadRow, dc_Lexicon_loadRow_0, dc_Lexicon_loadRow_1, dc_Lexicon_loadRow_2, dc_Lexicon_loadRow_3, fl_Lexicon, sl_Lexicon, sg_Arrays_fill, sg_Quotient_timesInto, cpn_quotient_0, cpn_quotient_1, mx_cp_r, lx0, lx2, lx3, lx5, lx6, lx7, lx8, lx9, lx11, lx12, lx13, lx14, lx15, ly1, ly2, ly164, ly165, ly206, ly247, ly288, ly289, ly290, ly291, ly292, ly293, q1, q2, t1, u0, Int.toNat_natCast, mzr_iconst, mzr_bipush, mzr_sipush, mzr_lconst, mzr_iload, mzr_iload_n, mzr_aload, mzr_aload_n, mzr_lload, mzr_lload_n, mzr_istore, mzr_istore_n, mzr_astore, mzr_astore_n, mzr_lstore, mzr_lstore_n, mzr_iinc, mzr_iadd, mzr_isub, mzr_imul, mzr_iand, mzr_ior, mzr_ixor, mzr_ishl, mzr_ishr, mzr_iushr, mzr_idiv, mzr_irem, mzr_ineg, mzr_ladd, mzr_lsub, mzr_lmul, mzr_lrem, mzr_lcmp, mzr_i2l, mzr_l2i, mzr_i2b, mzr_dup, mzr_pop, mzr_dup2, mzr_ifCond_eq, mzr_if_icmp_eq, mzr_ifCond_ne, mzr_if_icmp_ne, mzr_ifCond_lt, mzr_if_icmp_lt, mzr_ifCond_ge, mzr_if_icmp_ge, mzr_ifCond_gt, mzr_if_icmp_gt, mzr_ifCond_le, mzr_if_icmp_le, mzr_goto, mzr_iaload, mzr_baload, mzr_laload, mzr_aaload, mzr_iastore, mzr_bastore, mzr_lastore, mzr_arraylength, mzr_getfield, mzr_putfield, mzr_getstatic, mzr_ldc, mzr_ldc_w, mzr_ldc2_w, mzr_ireturn, mzr_return_, mzr_copy, mzr_static, mzr_virtual, mzr_new, mz_tk, mz_dp, mz_ln, mz_sz, mz_af_v, mz_af_s, mz_wp_s, mz_w1, mz_g, mz_st, mz_k, mz_s2, mz_nx, mz_en, mx_to, mz_c1, ↓reduceIte, Nat.reduceAdd, Nat.reduceSub, Nat.reduceMul, Nat.reduceMod, Nat.reduceDiv, Nat.reduceEqDiff, Nat.reduceLeDiff, Nat.reduceLT, Int.reduceAdd, Int.reduceSub, Int.reduceNeg, Int.reduceMul, Int.reduceLE, Int.reduceLT, Int.reduceEq, Int.reduceToNat, Int.reduceNegSucc, Int.cast_ofNat_Int, Int32.reduceToInt, Int64.reduceToInt, Int.zero_add, Int.add_zero, Fin.isValue, Fin.val_zero, Fin.val_one, Fin.val_two, reduceCtorEq, or_false, false_or, or_true, true_or, or_self, and_true, true_and, and_self, not_true_eq_false, not_false_eq_true, implies_true, forall_const, List.mem_cons, List.not_mem_nil, false_implies, true_implies, imp_false, Nat.zero_add, Option.some.injEq, Prod.mk.injEq]
  repeat' first | omega | refine mz_it (fun hh => ?_) (fun hh => ?_) | refine And.intro ?_ ?_
  refine ct_timesInto2 d hG hE hR hp hp2 t2 ly291 (by omega) hru (by omega) (by omega) hn4 hv hl hl40 hls hinj hF hnf hy hyv (fun h f1 hv1 => ?_)
  have fin := hP h f1 hv1
  simp only [mf_Lexicon_loadRow, ca_Lexicon_loadRow, dc_Lexicon_loadRow_0, dc_Lexicon_loadRow_1, dc_Lexicon_loadRow_2, dc_Lexicon_loadRow_3, fl_Lexicon, sl_Lexicon, sg_Arrays_fill, sg_Quotient_timesInto, cpn_quotient_0, cpn_quotient_1, mx_cp_r, lx0, lx2, lx3, lx5, lx6, lx7, lx8, lx9, lx11, lx12, lx13, lx14, lx15, ly1, ly2, ly164, ly165, ly206, ly247, ly288, ly289, ly290, ly291, ly292, ly293, mzr_iconst, mzr_bipush, mzr_sipush, mzr_lconst, mzr_iload, mzr_iload_n, mzr_aload, mzr_aload_n, mzr_lload, mzr_lload_n, mzr_istore, mzr_istore_n, mzr_astore, mzr_astore_n, mzr_lstore, mzr_lstore_n, mzr_iinc, mzr_iadd, mzr_isub, mzr_imul, mzr_iand, mzr_ior, mzr_ixor, mzr_ishl, mzr_ishr, mzr_iushr, mzr_idiv, mzr_irem, mzr_ineg, mzr_ladd, mzr_lsub, mzr_lmul, mzr_lrem, mzr_lcmp, mzr_i2l, mzr_l2i, mzr_i2b, mzr_dup, mzr_pop, mzr_dup2, mzr_ifCond_eq, mzr_if_icmp_eq, mzr_ifCond_ne, mzr_if_icmp_ne, mzr_ifCond_lt, mzr_if_icmp_lt, mzr_ifCond_ge, mzr_if_icmp_ge, mzr_ifCond_gt, mzr_if_icmp_gt, mzr_ifCond_le, mzr_if_icmp_le, mzr_goto, mzr_iaload, mzr_baload, mzr_laload, mzr_aaload, mzr_iastore, mzr_bastore, mzr_lastore, mzr_arraylength, mzr_getfield, mzr_putfield, mzr_getstatic, mzr_ldc, mzr_ldc_w, mzr_ldc2_w, mzr_ireturn, mzr_return_, mzr_copy, mzr_static, mzr_virtual, mzr_new, mz_tk, mz_dp, mz_ln, mz_sz, mz_af_v, mz_af_s, mz_wp_s, mz_w1, mz_g, mz_st, mz_k, mz_s2, mz_nx, mz_en, mx_to, mz_c1, ↓reduceIte, Nat.reduceAdd, Nat.reduceSub, Nat.reduceMul, Nat.reduceMod, Nat.reduceDiv, Nat.reduceEqDiff, Nat.reduceLeDiff, Nat.reduceLT, Int.reduceAdd, Int.reduceSub, Int.reduceNeg, Int.reduceMul, Int.reduceLE, Int.reduceLT, Int.reduceEq, Int.reduceToNat, Int.reduceNegSucc, Int.cast_ofNat_Int, Int32.reduceToInt, Int64.reduceToInt, Int.zero_add, Int.add_zero, Fin.isValue, Fin.val_zero, Fin.val_one, Fin.val_two, reduceCtorEq, or_false, false_or, or_true, true_or, or_self, and_true, true_and, and_self, not_true_eq_false, not_false_eq_true, implies_true, forall_const, List.mem_cons, List.not_mem_nil, false_implies, true_implies, imp_false, Nat.zero_add, Option.some.injEq, Prod.mk.injEq]
  repeat' first | omega | refine mz_it (fun hh => ?_) (fun hh => ?_) | refine And.intro ?_ ?_
  all_goals exact fin
/- the rows with a pivot each -/
def lw_S (H : mz_H) (x : Nat) (p : Int) (l : List al_M) (nf : al_M → al_M → Int) (B : List al_M) (pv : Nat → Nat) : Prop :=
  (∀ k, k < B.length → fo_1 p (H.2.1 (x + 166 + k)) l nf (fg_B B k)) ∧
  (∀ k, k < B.length → pv k < l.length ∧ H.2.1 (x + 288) k = pv k) ∧
  (∀ k, k < B.length → (∀ c, c < 40 → 0 ≤ H.2.1 (x + 207 + k) c ∧ H.2.1 (x + 207 + k) c < p ∧ (l.length ≤ c → H.2.1 (x + 207 + k) c = 0)) ∧ H.2.1 (x + 207 + k) (pv k) = 1 ∧ ∀ i, i < k → H.2.1 (x + 207 + k) (pv i) = 0) ∧
  (∀ k, k < B.length → (∀ i, i < 40 → 0 ≤ H.2.1 (x + 248 + k) i ∧ H.2.1 (x + 248 + k) i < p ∧ (k < i → H.2.1 (x + 248 + k) i = 0)) ∧ ∀ c, c < l.length → al_e p (H.2.1 (x + 207 + k) c) (al_S B.length (fun i => H.2.1 (x + 248 + k) i * nf (fg_B B i) (fg_B l c)))) ∧
  (∀ i, i < B.length → ∃ t : Nat → Int, ∀ c, c < l.length → al_e p (nf (fg_B B i) (fg_B l c)) (al_S B.length (fun k => t k * H.2.1 (x + 207 + k) c)))
theorem lw_S.fr {H h : mz_H} {A : List Nat} {x : Nat} {p : Int} {l : List al_M} {nf : al_M → al_M → Int} {B : List al_M} {pv : Nat → Nat} (hS : lw_S H x p l nf B pv) (hB : B.length ≤ 40) (hf : mz_fr H h A) (hA : ∀ i, 166 ≤ i → i ≤ 288 → x + i ∉ A) : lw_S h x p l nf B pv := by
  obtain ⟨a1, a2, a3, a4, a5⟩ := hS
  have e1 : ∀ k, k < B.length → h.2.1 (x + 166 + k) = H.2.1 (x + 166 + k) := fun k hk => by rw [Nat.add_assoc, hf.2.2 _ (hA (166 + k) (by omega) (by omega))]
  have e2 : ∀ k, k < B.length → h.2.1 (x + 207 + k) = H.2.1 (x + 207 + k) := fun k hk => by rw [Nat.add_assoc, hf.2.2 _ (hA (207 + k) (by omega) (by omega))]
  have e3 : ∀ k, k < B.length → h.2.1 (x + 248 + k) = H.2.1 (x + 248 + k) := fun k hk => by rw [Nat.add_assoc, hf.2.2 _ (hA (248 + k) (by omega) (by omega))]
  have e4 : h.2.1 (x + 288) = H.2.1 (x + 288) := hf.2.2 _ (hA 288 (by omega) (by omega))
  refine ⟨fun k hk => by rw [e1 k hk]; exact a1 k hk, fun k hk => by rw [e4]; exact a2 k hk, fun k hk => by rw [e2 k hk]; exact a3 k hk, fun k hk => by rw [e2 k hk, e3 k hk]; exact a4 k hk, fun i hi => ?_⟩
  obtain ⟨t, ht⟩ := a5 i hi
  refine ⟨t, fun c hc => ?_⟩
  rw [al_S_c (g := fun k => t k * H.2.1 (x + 207 + k) c) (fun k hk => by rw [e2 k hk])]
  exact ht c hc
/- what is left of a monomial behind the first k pivots -/
def el_S (row sum : Nat → Int) (p : Int) (l : List al_M) (nf : al_M → al_M → Int) (B : List al_M) (pv : Nat → Nat) (m : al_M) (k : Nat) : Prop :=
  (∀ c, c < 40 → 0 ≤ row c ∧ row c < p ∧ (l.length ≤ c → row c = 0)) ∧ (∀ j, j < k → row (pv j) = 0) ∧ (∀ i, i < 40 → 0 ≤ sum i ∧ sum i < p ∧ (B.length ≤ i → sum i = 0)) ∧
  ∀ c, c < l.length → al_e p (row c) (nf m (fg_B l c) + al_S B.length (fun i => sum i * nf (fg_B B i) (fg_B l c)))
theorem el_n {H : mz_H} {x : Nat} {row sum row' sum' : Nat → Int} {p : Int} (hp2 : 2 ≤ p) {l : List al_M} {nf : al_M → al_M → Int} {B : List al_M} {pv : Nat → Nat} {m : al_M} {k : Nat} (hB : B.length ≤ 40) (hl : l.length ≤ 40) (hw : lw_S H x p l nf B pv) (hk : k < B.length) (h : el_S row sum p l nf B pv m k)
    (h1 : ∀ c, c < 40 → row' c = (row c + (p - row (pv k)) * H.2.1 (x + 207 + k) c) % p) (h2 : ∀ i, i < 40 → sum' i = (sum i + (p - row (pv k)) * H.2.1 (x + 248 + k) i) % p) : el_S row' sum' p l nf B pv m (k + 1) := by
  obtain ⟨a1, a2, a3, a4⟩ := h
  obtain ⟨b1, b2, b3, b4, b5⟩ := hw
  have hpk := (b2 k hk).1
  refine ⟨fun c hc => ?_, fun j hj => ?_, fun i hi => ?_, fun c hc => ?_⟩
  · rw [h1 c hc]
    refine ⟨Int.emod_nonneg _ (by omega), Int.emod_lt_of_pos _ (by omega), fun hcl => ?_⟩
    rw [((b3 k hk).1 c hc).2.2 hcl, (a1 c hc).2.2 hcl, Int.mul_zero, Int.add_zero, Int.zero_emod]
  · have hpj := (b2 j (by omega)).1
    rw [h1 _ (by omega)]
    by_cases hjk : j = k
    · rw [hjk, (b3 k hk).2.1, Int.mul_one, show row (pv k) + (p - row (pv k)) = p by omega, Int.emod_self]
    · rw [(b3 k hk).2.2 j (by omega), a2 j (by omega), Int.mul_zero, Int.add_zero, Int.zero_emod]
  · rw [h2 i hi]
    refine ⟨Int.emod_nonneg _ (by omega), Int.emod_lt_of_pos _ (by omega), fun hil => ?_⟩
    rw [((b4 k hk).1 i hi).2.2 (by omega), (a3 i hi).2.2 hil, Int.mul_zero, Int.add_zero, Int.zero_emod]
  · rw [h1 c (by omega)]
    generalize p - row (pv k) = q at *
    refine al_e_t (al_e_q _ _) ?_
    have z1 := al_e_m (al_e_r p q) ((b4 k hk).2 c hc)
    have z2 := al_e_a (a4 c hc) z1
    refine al_e_t z2 ?_
    have z3 : al_e p (al_S B.length (fun i => sum' i * nf (fg_B B i) (fg_B l c))) (al_S B.length (fun i => sum i * nf (fg_B B i) (fg_B l c)) + q * al_S B.length (fun i => H.2.1 (x + 248 + k) i * nf (fg_B B i) (fg_B l c))) := by
      rw [← al_S_m, ← al_S_a]
      refine al_e_S (fun i hi => ?_)
      rw [h2 i (by omega)]
      refine al_e_t (al_e_m (al_e_q _ _) (al_e_r p _)) (al_e_of ?_)
      rw [Int.add_mul, Int.mul_assoc]
    have z4 := al_e_a (al_e_r p (nf m (fg_B l c))) z3
    exact al_e_t (al_e_of (by omega)) (al_e_s z4)
