theorem lw_n {H h : mz_H} {x s : Nat} {row sum : Nat → Int} {p iv : Int} (hp2 : 2 ≤ p) {l : List al_M} {nf : al_M → al_M → Int} {B : List al_M} {pv : Nat → Nat} {m : al_M} (hB : B.length < 40) (hl : l.length ≤ 40) (hw : lw_S H x p l nf B pv) (he : el_S row sum p l nf B pv m B.length) (hs : s < 40) (hsz : row s ≠ 0) (hiv : al_e p (iv * row s) 1)
    (h1 : ∀ k, k < B.length → h.2.1 (x + 166 + k) = H.2.1 (x + 166 + k) ∧ h.2.1 (x + 207 + k) = H.2.1 (x + 207 + k) ∧ h.2.1 (x + 248 + k) = H.2.1 (x + 248 + k) ∧ h.2.1 (x + 288) k = H.2.1 (x + 288) k)
    (h2 : fo_1 p (h.2.1 (x + 166 + B.length)) l nf m) (h3 : ∀ c, c < 40 → h.2.1 (x + 207 + B.length) c = (iv * row c) % p) (h4 : ∀ i, i < 40 → h.2.1 (x + 248 + B.length) i = (iv * (if i = B.length then 1 else sum i)) % p) (h5 : h.2.1 (x + 288) B.length = s) :
    lw_S h x p l nf (B ++ [m]) (fun k => if k = B.length then s else pv k) := by
  obtain ⟨a1, a2, a3, a4, a5⟩ := hw
  obtain ⟨e1, e2, e3, e4⟩ := he
  have hsl : s < l.length := by
    refine Classical.byContradiction (fun hq => hsz ((e1 s hs).2.2 (by omega)))
  have hlen : (B ++ [m]).length = B.length + 1 := by rw [List.length_append, List.length_singleton]
  have hnew : ∀ c, c < l.length → al_e p (h.2.1 (x + 207 + B.length) c) (iv * (nf m (fg_B l c) + al_S B.length (fun i => sum i * nf (fg_B B i) (fg_B l c)))) := by
    intro c hc
    rw [h3 c (by omega)]
    exact al_e_t (al_e_q _ _) (al_e_m (al_e_r p iv) (e4 c hc))
  refine ⟨fun k hk => ?_, fun k hk => ?_, fun k hk => ?_, fun k hk => ?_, fun i hi => ?_⟩
  · rw [hlen] at hk
    by_cases hkc : k = B.length
    · rw [hkc, fg_B_r]; exact h2
    · rw [fg_B_l _ _ _ (by omega), (h1 k (by omega)).1]; exact a1 k (by omega)
  · rw [hlen] at hk
    by_cases hkc : k = B.length
    · simp only []
      rw [if_pos hkc, hkc, h5]; exact ⟨hsl, rfl⟩
    · simp only []
      rw [if_neg hkc, (h1 k (by omega)).2.2.2]; exact a2 k (by omega)
  · rw [hlen] at hk
    by_cases hkc : k = B.length
    · refine ⟨fun c hc => ?_, ?_, fun i hi => ?_⟩
      · rw [hkc, h3 c hc]
        refine ⟨Int.emod_nonneg _ (by omega), Int.emod_lt_of_pos _ (by omega), fun hcl => ?_⟩
        rw [(e1 c hc).2.2 hcl, Int.mul_zero, Int.zero_emod]
      · simp only []
        rw [if_pos hkc, hkc, h3 s hs]
        exact al_e_u (al_e_t (al_e_q _ _) hiv) (Int.emod_nonneg _ (by omega)) (Int.emod_lt_of_pos _ (by omega)) (by omega) (by omega)
      · simp only []
        have := (a2 i (by omega)).1
        rw [if_neg (by omega), hkc, h3 _ (by omega), e2 i (by omega), Int.mul_zero, Int.zero_emod]
    · rw [(h1 k (by omega)).2.1]
      obtain ⟨b1, b2, b3⟩ := a3 k (by omega)
      refine ⟨b1, by simp only []; rw [if_neg hkc]; exact b2, fun i hi => by simp only []; rw [if_neg (by omega)]; exact b3 i hi⟩
  · rw [hlen] at hk
    by_cases hkc : k = B.length
    · refine ⟨fun i hi => ?_, fun c hc => ?_⟩
      · rw [hkc, h4 i hi]
        refine ⟨Int.emod_nonneg _ (by omega), Int.emod_lt_of_pos _ (by omega), fun hki => ?_⟩
        rw [if_neg (by omega), (e3 i hi).2.2 (by omega), Int.mul_zero, Int.zero_emod]
      · rw [hkc]
        refine al_e_t (hnew c hc) ?_
        rw [hlen, al_S_s, fg_B_r, h4 _ (by omega), if_pos rfl, Int.mul_add, Int.add_comm]
        refine al_e_a ?_ ?_
        · rw [← al_S_m]
          refine al_e_S (fun i hi => ?_)
          rw [fg_B_l _ _ _ hi, h4 i (by omega), if_neg (by omega), ← Int.mul_assoc]
          exact al_e_m (al_e_s (al_e_q _ _)) (al_e_r _ _)
        · rw [Int.mul_one]
          exact al_e_m (al_e_s (al_e_q _ _)) (al_e_r _ _)
    · rw [(h1 k (by omega)).2.2.1, (h1 k (by omega)).2.1]
      obtain ⟨b1, b2⟩ := a4 k (by omega)
      refine ⟨b1, fun c hc => ?_⟩
      rw [hlen, al_S_s, (b1 B.length (by omega)).2.2 (by omega), Int.zero_mul, Int.add_zero, al_S_c (g := fun i => H.2.1 (x + 248 + k) i * nf (fg_B B i) (fg_B l c)) (fun i hi => by rw [fg_B_l _ _ _ hi])]
      exact b2 c hc
  · rw [hlen] at hi
    have hT : ∃ t : Nat → Nat → Int, ∀ i, i < B.length → ∀ c, c < l.length → al_e p (nf (fg_B B i) (fg_B l c)) (al_S B.length (fun k => t i k * H.2.1 (x + 207 + k) c)) := by
      refine ⟨fun i => @dite (Nat → Int) (i < B.length) _ (fun h => (a5 i h).choose) (fun _ _ => 0), fun i hi c hc => ?_⟩
      have := (a5 i hi).choose_spec c hc
      simp only [dif_pos hi]
      exact this
    obtain ⟨t, ht⟩ := hT
    by_cases hic : i = B.length
    · refine ⟨fun k => if k = B.length then row s else - al_S B.length (fun i => sum i * t i k), fun c hc => ?_⟩
      rw [hic, fg_B_r, hlen, al_S_s]
      simp only [if_true]
      have z1 := al_e_m (al_e_r p (row s)) (hnew c hc)
      have z2 : al_e p (row s * (iv * (nf m (fg_B l c) + al_S B.length (fun i => sum i * nf (fg_B B i) (fg_B l c))))) (nf m (fg_B l c) + al_S B.length (fun i => sum i * nf (fg_B B i) (fg_B l c))) := by
        rw [← Int.mul_assoc, Int.mul_comm (row s) iv]
        exact al_e_t (al_e_m hiv (al_e_r _ _)) (al_e_of (Int.one_mul _))
      have z3 := al_e_t z1 z2
      have z4 : al_e p (al_S B.length (fun i => sum i * nf (fg_B B i) (fg_B l c))) (- al_S B.length (fun k => (if k = B.length then row s else - al_S B.length (fun i => sum i * t i k)) * h.2.1 (x + 207 + k) c)) := by
        rw [← al_S_n]
        have y1 : al_e p (al_S B.length (fun i => sum i * nf (fg_B B i) (fg_B l c))) (al_S B.length (fun i => al_S B.length (fun k => sum i * t i k * H.2.1 (x + 207 + k) c))) := by
          refine al_e_S (fun i hi => ?_)
          refine al_e_t (al_e_m (al_e_r p _) (ht i hi c hc)) (al_e_of ?_)
          rw [← al_S_m]
          exact al_S_c (fun k _ => by rw [Int.mul_assoc])
        refine al_e_t y1 (al_e_of ?_)
        rw [al_S_w]
        refine al_S_c (fun k hk => ?_)
        rw [if_neg (by omega), (h1 k hk).2.1, al_S_r, Int.neg_mul, Int.neg_neg]
      have z5 := al_e_a z3 (al_e_s (al_e_n z4))
      refine al_e_s (al_e_t (al_e_of ?_) (al_e_t z5 (al_e_of ?_)))
      · omega
      · omega
    · obtain ⟨t', ht'⟩ := a5 i (by omega)
      refine ⟨fun k => if k = B.length then 0 else t' k, fun c hc => ?_⟩
      rw [hlen, al_S_s]
      simp only [if_true]
      rw [Int.zero_mul, Int.add_zero, fg_B_l _ _ _ (by omega), al_S_c (g := fun k => t' k * H.2.1 (x + 207 + k) c) (fun k hk => by rw [if_neg (by omega), (h1 k hk).2.1])]
      exact ht' c hc
set_option maxRecDepth 100000 in
theorem ct_keepSmall {e : mz_E} (d : Nat) {x r n s q : Nat} {p : Int} {l : List al_M} {nf : al_M → al_M → Int} {X : fg_S} {pv : Nat → Nat} {m : al_M} {H : mz_H} {P : mz_O → mz_H → Prop} (hG : mx_G e.1) (hE : lx_E e x) (hR : rg_E e r) (hp : H.2.1 r 0 = p) (hp2 : 2 ≤ p ∧ p < 32768) (hpr : al_pr p.toNat) (hrx : r + 10 < x) (hl40 : l.length ≤ 40) (hX : lx_S H x n X) (hn4 : n ≤ 4) (hlen : X.1.length < 40) (hw : lw_S H x p l nf X.1 pv) (hm : fo_1 p (H.2.1 (x + 291)) l nf m) (he : el_S (H.2.1 (x + 292)) (H.2.1 (x + 293)) p l nf X.1 pv m X.1.length) (hs : s < 40) (hsz : H.2.1 (x + 292) s ≠ 0) (hmd : al_dg m < 63) (hq : H.2.1 x 10 = q) (hqn : q + n ≤ 161)
    (hP : ∀ h, mz_fr H h (x :: bl (x + 164) 130) → h.2.1 x 10 = ((q + n : Nat) : Int) → (∀ j, j < q → h.2.1 (x + 289) j = H.2.1 (x + 289) j ∧ h.2.1 (x + 290) j = H.2.1 (x + 290) j) → (∀ v, v < n → h.2.1 (x + 289) (q + v) = (pk (al_p m (tb_x v)) : Int) ∧ h.2.1 (x + 290) (q + v) = ((X.1.length * 4 + v : Nat) : Int)) →
      lx_S h x n (X.1 ++ [m], X.2) → lw_S h x p l nf (X.1 ++ [m]) (fun k => if k = X.1.length then s else pv k) → P (.inl none) h) :
    mz_CA e (d + 4) j_Lexicon_keepSmall [.inr (.inl x), .inr (.inl r), .inl (pk m : Int), .inl (s : Int)] H P := by
  have hX' := hX
  have r0' := hR.1
  obtain ⟨⟨lx0, lx2, lx3, lx5, lx6, lx7, lx8, lx9, lx11, lx12, lx13, lx14, lx15⟩, ⟨ly1, ly2, ly164, ly165, ly206, ly247, ly288, ly289, ly290, ly291, ly292, ly293⟩, lxt, lxs, lxp, lxq⟩ := hE
  obtain ⟨⟨a1, a2, a3⟩, a4, a5, a6, a7⟩ := hX
  have hmok := pk_ok_d (show al_dg m < 64 by omega)
  have hmb := pk_b hmok
  have hrow := he.1
  have hsum := he.2.2.1
  have t1 := (lxs X.1.length hlen).1
  have t2 := (lxs X.1.length hlen).2
  have t3 := (lxp X.1.length hlen).1
  have t4 := (lxp X.1.length hlen).2
  have t5 := (lxq X.1.length hlen).1
  have t6 := (lxq X.1.length hlen).2
  have hsb := hrow s hs
  have hivb1 : 0 ≤ H.2.1 (x + 292) s ^ (p - 2).toNat % p := Int.emod_nonneg _ (by omega)
  have hivb2 : H.2.1 (x + 292) s ^ (p - 2).toNat % p < p := Int.emod_lt_of_pos _ (by omega)
  have hive := al_iv hp2.1 hpr hsb.1 hsb.2.1 hsz rfl
  refine mz_CA_of mr_Lexicon_keepSmall ?_
  simp only [mf_Lexicon_keepSmall, mz_en, List.replicate, Nat.reduceSub, Nat.reduceAdd, Nat.reduceMul]
  apply mz_go hG 100 [129]
  simp only [mf_Lexicon_keepSmall, ca_Lexicon_keepSmall, dc_Lexicon_keepSmall_0, dc_Lexicon_keepSmall_1, dc_Lexicon_keepSmall_2, dc_Lexicon_keepSmall_3, dc_Lexicon_keepSmall_4, dc_Lexicon_keepSmall_5, dc_Lexicon_keepSmall_6, dc_Lexicon_keepSmall_7, dc_Lexicon_keepSmall_8, dc_Lexicon_keepSmall_9, dc_Lexicon_keepSmall_10, dc_Lexicon_keepSmall_11, dc_Lexicon_keepSmall_12, dc_Lexicon_keepSmall_13, dc_Lexicon_keepSmall_14, fl_Lexicon, sl_Lexicon, sg_Ring_inverse, sg_Arrays_fill, sg_Quotient_addRow, sg_Packed_variable, cpn_quotient_0, cpn_quotient_1, mx_cp_r, lx0, lx2, lx3, lx5, lx6, lx7, lx8, lx9, lx11, lx12, lx13, lx14, lx15, ly1, ly2, ly164, ly165, ly206, ly247, ly288, ly289, ly290, ly291, ly292, ly293, r0', Int.toNat_natCast, mzr_iconst, mzr_bipush, mzr_sipush, mzr_lconst, mzr_iload, mzr_iload_n, mzr_aload, mzr_aload_n, mzr_lload, mzr_lload_n, mzr_istore, mzr_istore_n, mzr_astore, mzr_astore_n, mzr_lstore, mzr_lstore_n, mzr_iinc, mzr_iadd, mzr_isub, mzr_imul, mzr_iand, mzr_ior, mzr_ixor, mzr_ishl, mzr_ishr, mzr_iushr, mzr_idiv, mzr_irem, mzr_ineg, mzr_ladd, mzr_lsub, mzr_lmul, mzr_lrem, mzr_lcmp, mzr_i2l, mzr_l2i, mzr_i2b, mzr_dup, mzr_pop, mzr_dup2, mzr_ifCond_eq, mzr_if_icmp_eq, mzr_ifCond_ne, mzr_if_icmp_ne, mzr_ifCond_lt, mzr_if_icmp_lt, mzr_ifCond_ge, mzr_if_icmp_ge, mzr_ifCond_gt, mzr_if_icmp_gt, mzr_ifCond_le, mzr_if_icmp_le, mzr_goto, mzr_iaload, mzr_baload, mzr_laload, mzr_aaload, mzr_iastore, mzr_bastore, mzr_lastore, mzr_arraylength, mzr_getfield, mzr_putfield, mzr_getstatic, mzr_ldc, mzr_ldc_w, mzr_ldc2_w, mzr_ireturn, mzr_return_, mzr_copy, mzr_static, mzr_virtual, mzr_new, mz_tk, mz_dp, mz_ln, mz_sz, mz_af_v, mz_af_s, mz_wp_s, mz_w1, mz_g, mz_st, mz_k, mz_s2, mz_nx, mz_en, mx_to, mz_c1, ↓reduceIte, Nat.reduceAdd, Nat.reduceSub, Nat.reduceMul, Nat.reduceMod, Nat.reduceDiv, Nat.reduceEqDiff, Nat.reduceLeDiff, Nat.reduceLT, Int.reduceAdd, Int.reduceSub, Int.reduceNeg, Int.reduceMul, Int.reduceLE, Int.reduceLT, Int.reduceEq, Int.reduceToNat, Int.reduceNegSucc, Int.cast_ofNat_Int, Int32.reduceToInt, Int64.reduceToInt, Int.zero_add, Int.add_zero, Fin.isValue, Fin.val_zero, Fin.val_one, Fin.val_two, reduceCtorEq, or_false, false_or, or_true, true_or, or_self, and_true, true_and, and_self, not_true_eq_false, not_false_eq_true, implies_true, forall_const, List.mem_cons, List.not_mem_nil, false_implies, true_implies, imp_false, Nat.zero_add, Option.some.injEq, Prod.mk.injEq]
  repeat' first | omega | refine mz_it (fun hh => ?_) (fun hh => ?_) | refine And.intro ?_ ?_
  refine ct_inverse d hG hR hp hp2 ⟨hsb.1, hsb.2.1⟩ ?_
  generalize hiv : H.2.1 (x + 292) s ^ (p - 2).toNat % p = iv at *
  have c1 : ((x : Nat) = x + 293) = False := eq_false (by omega)
  have zc : ∀ (h : mz_H) k, (mz_cy h (x + 291) 0 (x + 166 + X.1.length) 0 40).2.1 x k = h.2.1 x k := fun h k => by rw [mz_cy_g, if_neg (by omega)]
  simp only [mf_Lexicon_keepSmall, ca_Lexicon_keepSmall, dc_Lexicon_keepSmall_0, dc_Lexicon_keepSmall_1, dc_Lexicon_keepSmall_2, dc_Lexicon_keepSmall_3, dc_Lexicon_keepSmall_4, dc_Lexicon_keepSmall_5, dc_Lexicon_keepSmall_6, dc_Lexicon_keepSmall_7, dc_Lexicon_keepSmall_8, dc_Lexicon_keepSmall_9, dc_Lexicon_keepSmall_10, dc_Lexicon_keepSmall_11, dc_Lexicon_keepSmall_12, dc_Lexicon_keepSmall_13, dc_Lexicon_keepSmall_14, fl_Lexicon, sl_Lexicon, sg_Ring_inverse, sg_Arrays_fill, sg_Quotient_addRow, sg_Packed_variable, cpn_quotient_0, cpn_quotient_1, mx_cp_r, lx0, lx2, lx3, lx5, lx6, lx7, lx8, lx9, lx11, lx12, lx13, lx14, lx15, ly1, ly2, ly164, ly165, ly206, ly247, ly288, ly289, ly290, ly291, ly292, ly293, a3, t1, t2, t3, zc, c1, mz_w_g, Nat.left_eq_add, Nat.add_left_cancel_iff, Nat.add_eq_left, false_and, if_false, if_true, Int.toNat_natCast, mzr_iconst, mzr_bipush, mzr_sipush, mzr_lconst, mzr_iload, mzr_iload_n, mzr_aload, mzr_aload_n, mzr_lload, mzr_lload_n, mzr_istore, mzr_istore_n, mzr_astore, mzr_astore_n, mzr_lstore, mzr_lstore_n, mzr_iinc, mzr_iadd, mzr_isub, mzr_imul, mzr_iand, mzr_ior, mzr_ixor, mzr_ishl, mzr_ishr, mzr_iushr, mzr_idiv, mzr_irem, mzr_ineg, mzr_ladd, mzr_lsub, mzr_lmul, mzr_lrem, mzr_lcmp, mzr_i2l, mzr_l2i, mzr_i2b, mzr_dup, mzr_pop, mzr_dup2, mzr_ifCond_eq, mzr_if_icmp_eq, mzr_ifCond_ne, mzr_if_icmp_ne, mzr_ifCond_lt, mzr_if_icmp_lt, mzr_ifCond_ge, mzr_if_icmp_ge, mzr_ifCond_gt, mzr_if_icmp_gt, mzr_ifCond_le, mzr_if_icmp_le, mzr_goto, mzr_iaload, mzr_baload, mzr_laload, mzr_aaload, mzr_iastore, mzr_bastore, mzr_lastore, mzr_arraylength, mzr_getfield, mzr_putfield, mzr_getstatic, mzr_ldc, mzr_ldc_w, mzr_ldc2_w, mzr_ireturn, mzr_return_, mzr_copy, mzr_static, mzr_virtual, mzr_new, mz_tk, mz_dp, mz_ln, mz_sz, mz_af_v, mz_af_s, mz_wp_s, mz_w1, mz_g, mz_st, mz_k, mz_s2, mz_nx, mz_en, mx_to, mz_c1, ↓reduceIte, Nat.reduceAdd, Nat.reduceSub, Nat.reduceMul, Nat.reduceMod, Nat.reduceDiv, Nat.reduceEqDiff, Nat.reduceLeDiff, Nat.reduceLT, Int.reduceAdd, Int.reduceSub, Int.reduceNeg, Int.reduceMul, Int.reduceLE, Int.reduceLT, Int.reduceEq, Int.reduceToNat, Int.reduceNegSucc, Int.cast_ofNat_Int, Int32.reduceToInt, Int64.reduceToInt, Int.zero_add, Int.add_zero, Fin.isValue, Fin.val_zero, Fin.val_one, Fin.val_two, reduceCtorEq, or_false, false_or, or_true, true_or, or_self, and_true, true_and, and_self, not_true_eq_false, not_false_eq_true, implies_true, forall_const, List.mem_cons, List.not_mem_nil, false_implies, true_implies, imp_false, Nat.zero_add, Option.some.injEq, Prod.mk.injEq]
  repeat' first | omega | refine mz_it (fun hh => ?_) (fun hh => ?_) | refine And.intro ?_ ?_
  generalize hH1 : mz_cy (mz_w H (x + 293) X.1.length 1) (x + 291) 0 (x + 166 + X.1.length) 0 40 = H1
  have g1 : mz_fr H H1 [x + 293, x + 166 + X.1.length] := by rw [← hH1]; exact (mz_fr.w _ _ _ _ (by simp)).tr (mz_fr.cy _ _ _ _ _ _ (by simp))
  have g1v : ∀ i, H1.2.1 (x + 293) i = if i = X.1.length then 1 else H.2.1 (x + 293) i := fun i => by
    rw [← hH1, mz_cy_g, if_neg (by omega), mz_w_g]
    by_cases hi : i = X.1.length
    · rw [if_pos ⟨rfl, hi⟩, if_pos hi]
    · rw [if_neg (fun q => hi q.2), if_neg hi]
  have g1w : ∀ c, c < 40 → H1.2.1 (x + 166 + X.1.length) c = H.2.1 (x + 291) c := fun c hc => by
    rw [← hH1, mz_cy_g, if_pos rfl, if_pos ⟨by omega, by omega⟩, Nat.zero_add, Nat.sub_zero, mz_w_g, if_neg (by omega)]
  refine ct_fill (d + 3) hG t4 (by omega) (fun H2 g2 g2v => ?_)
  have z2 : H2.2.1 x 4 = X.1.length := by rw [g2.2.2 x (by simp; omega), g1.2.2 x (by simp; omega), a3]
  have p2 : H2.2.1 r 0 = p := by rw [g2.2.2 r (by simp; omega), g1.2.2 r (by simp; omega), hp]
  have e2 : H2.2.1 (x + 292) = H.2.1 (x + 292) := by rw [g2.2.2 (x + 292) (by simp; omega), g1.2.2 (x + 292) (by simp; omega)]
  simp only [mf_Lexicon_keepSmall, ca_Lexicon_keepSmall, dc_Lexicon_keepSmall_0, dc_Lexicon_keepSmall_1, dc_Lexicon_keepSmall_2, dc_Lexicon_keepSmall_3, dc_Lexicon_keepSmall_4, dc_Lexicon_keepSmall_5, dc_Lexicon_keepSmall_6, dc_Lexicon_keepSmall_7, dc_Lexicon_keepSmall_8, dc_Lexicon_keepSmall_9, dc_Lexicon_keepSmall_10, dc_Lexicon_keepSmall_11, dc_Lexicon_keepSmall_12, dc_Lexicon_keepSmall_13, dc_Lexicon_keepSmall_14, fl_Lexicon, sl_Lexicon, sg_Ring_inverse, sg_Arrays_fill, sg_Quotient_addRow, sg_Packed_variable, cpn_quotient_0, cpn_quotient_1, mx_cp_r, lx0, lx2, lx3, lx5, lx6, lx7, lx8, lx9, lx11, lx12, lx13, lx14, lx15, ly1, ly2, ly164, ly165, ly206, ly247, ly288, ly289, ly290, ly291, ly292, ly293, z2, t3, Int.toNat_natCast, mzr_iconst, mzr_bipush, mzr_sipush, mzr_lconst, mzr_iload, mzr_iload_n, mzr_aload, mzr_aload_n, mzr_lload, mzr_lload_n, mzr_istore, mzr_istore_n, mzr_astore, mzr_astore_n, mzr_lstore, mzr_lstore_n, mzr_iinc, mzr_iadd, mzr_isub, mzr_imul, mzr_iand, mzr_ior, mzr_ixor, mzr_ishl, mzr_ishr, mzr_iushr, mzr_idiv, mzr_irem, mzr_ineg, mzr_ladd, mzr_lsub, mzr_lmul, mzr_lrem, mzr_lcmp, mzr_i2l, mzr_l2i, mzr_i2b, mzr_dup, mzr_pop, mzr_dup2, mzr_ifCond_eq, mzr_if_icmp_eq, mzr_ifCond_ne, mzr_if_icmp_ne, mzr_ifCond_lt, mzr_if_icmp_lt, mzr_ifCond_ge, mzr_if_icmp_ge, mzr_ifCond_gt, mzr_if_icmp_gt, mzr_ifCond_le, mzr_if_icmp_le, mzr_goto, mzr_iaload, mzr_baload, mzr_laload, mzr_aaload, mzr_iastore, mzr_bastore, mzr_lastore, mzr_arraylength, mzr_getfield, mzr_putfield, mzr_getstatic, mzr_ldc, mzr_ldc_w, mzr_ldc2_w, mzr_ireturn, mzr_return_, mzr_copy, mzr_static, mzr_virtual, mzr_new, mz_tk, mz_dp, mz_ln, mz_sz, mz_af_v, mz_af_s, mz_wp_s, mz_w1, mz_g, mz_st, mz_k, mz_s2, mz_nx, mz_en, mx_to, mz_c1, ↓reduceIte, Nat.reduceAdd, Nat.reduceSub, Nat.reduceMul, Nat.reduceMod, Nat.reduceDiv, Nat.reduceEqDiff, Nat.reduceLeDiff, Nat.reduceLT, Int.reduceAdd, Int.reduceSub, Int.reduceNeg, Int.reduceMul, Int.reduceLE, Int.reduceLT, Int.reduceEq, Int.reduceToNat, Int.reduceNegSucc, Int.cast_ofNat_Int, Int32.reduceToInt, Int64.reduceToInt, Int.zero_add, Int.add_zero, Fin.isValue, Fin.val_zero, Fin.val_one, Fin.val_two, reduceCtorEq, or_false, false_or, or_true, true_or, or_self, and_true, true_and, and_self, not_true_eq_false, not_false_eq_true, implies_true, forall_const, List.mem_cons, List.not_mem_nil, false_implies, true_implies, imp_false, Nat.zero_add, Option.some.injEq, Prod.mk.injEq]
  repeat' first | omega | refine mz_it (fun hh => ?_) (fun hh => ?_) | refine And.intro ?_ ?_
  refine ct_addRow (d + 3) (p := p) hG hR p2 t4 ly292 (by omega) hp2 ⟨hivb1, hivb2⟩ (fun c hc => by rw [g2v, if_pos hc]; omega) (fun c hc => by rw [e2]; exact ⟨(hrow c hc).1, (hrow c hc).2.1⟩) (fun H3 g3 g3v => ?_)
  have z3 : H3.2.1 x 4 = X.1.length := by rw [g3.2.2 x (by simp; omega), z2]
  simp only [mf_Lexicon_keepSmall, ca_Lexicon_keepSmall, dc_Lexicon_keepSmall_0, dc_Lexicon_keepSmall_1, dc_Lexicon_keepSmall_2, dc_Lexicon_keepSmall_3, dc_Lexicon_keepSmall_4, dc_Lexicon_keepSmall_5, dc_Lexicon_keepSmall_6, dc_Lexicon_keepSmall_7, dc_Lexicon_keepSmall_8, dc_Lexicon_keepSmall_9, dc_Lexicon_keepSmall_10, dc_Lexicon_keepSmall_11, dc_Lexicon_keepSmall_12, dc_Lexicon_keepSmall_13, dc_Lexicon_keepSmall_14, fl_Lexicon, sl_Lexicon, sg_Ring_inverse, sg_Arrays_fill, sg_Quotient_addRow, sg_Packed_variable, cpn_quotient_0, cpn_quotient_1, mx_cp_r, lx0, lx2, lx3, lx5, lx6, lx7, lx8, lx9, lx11, lx12, lx13, lx14, lx15, ly1, ly2, ly164, ly165, ly206, ly247, ly288, ly289, ly290, ly291, ly292, ly293, z3, t5, Int.toNat_natCast, mzr_iconst, mzr_bipush, mzr_sipush, mzr_lconst, mzr_iload, mzr_iload_n, mzr_aload, mzr_aload_n, mzr_lload, mzr_lload_n, mzr_istore, mzr_istore_n, mzr_astore, mzr_astore_n, mzr_lstore, mzr_lstore_n, mzr_iinc, mzr_iadd, mzr_isub, mzr_imul, mzr_iand, mzr_ior, mzr_ixor, mzr_ishl, mzr_ishr, mzr_iushr, mzr_idiv, mzr_irem, mzr_ineg, mzr_ladd, mzr_lsub, mzr_lmul, mzr_lrem, mzr_lcmp, mzr_i2l, mzr_l2i, mzr_i2b, mzr_dup, mzr_pop, mzr_dup2, mzr_ifCond_eq, mzr_if_icmp_eq, mzr_ifCond_ne, mzr_if_icmp_ne, mzr_ifCond_lt, mzr_if_icmp_lt, mzr_ifCond_ge, mzr_if_icmp_ge, mzr_ifCond_gt, mzr_if_icmp_gt, mzr_ifCond_le, mzr_if_icmp_le, mzr_goto, mzr_iaload, mzr_baload, mzr_laload, mzr_aaload, mzr_iastore, mzr_bastore, mzr_lastore, mzr_arraylength, mzr_getfield, mzr_putfield, mzr_getstatic, mzr_ldc, mzr_ldc_w, mzr_ldc2_w, mzr_ireturn, mzr_return_, mzr_copy, mzr_static, mzr_virtual, mzr_new, mz_tk, mz_dp, mz_ln, mz_sz, mz_af_v, mz_af_s, mz_wp_s, mz_w1, mz_g, mz_st, mz_k, mz_s2, mz_nx, mz_en, mx_to, mz_c1, ↓reduceIte, Nat.reduceAdd, Nat.reduceSub, Nat.reduceMul, Nat.reduceMod, Nat.reduceDiv, Nat.reduceEqDiff, Nat.reduceLeDiff, Nat.reduceLT, Int.reduceAdd, Int.reduceSub, Int.reduceNeg, Int.reduceMul, Int.reduceLE, Int.reduceLT, Int.reduceEq, Int.reduceToNat, Int.reduceNegSucc, Int.cast_ofNat_Int, Int32.reduceToInt, Int64.reduceToInt, Int.zero_add, Int.add_zero, Fin.isValue, Fin.val_zero, Fin.val_one, Fin.val_two, reduceCtorEq, or_false, false_or, or_true, true_or, or_self, and_true, true_and, and_self, not_true_eq_false, not_false_eq_true, implies_true, forall_const, List.mem_cons, List.not_mem_nil, false_implies, true_implies, imp_false, Nat.zero_add, Option.some.injEq, Prod.mk.injEq]
  repeat' first | omega | refine mz_it (fun hh => ?_) (fun hh => ?_) | refine And.intro ?_ ?_
  refine ct_fill (d + 3) hG t6 (by omega) (fun H4 g4 g4v => ?_)
  have z4 : H4.2.1 x 4 = X.1.length := by rw [g4.2.2 x (by simp; omega), z3]
  have p4 : H4.2.1 r 0 = p := by rw [g4.2.2 r (by simp; omega), g3.2.2 r (by simp; omega), p2]
  have e4 : ∀ i, H4.2.1 (x + 293) i = if i = X.1.length then 1 else H.2.1 (x + 293) i := fun i => by rw [g4.2.2 (x + 293) (by simp; omega), g3.2.2 (x + 293) (by simp; omega), g2.2.2 (x + 293) (by simp; omega), g1v]
  simp only [mf_Lexicon_keepSmall, ca_Lexicon_keepSmall, dc_Lexicon_keepSmall_0, dc_Lexicon_keepSmall_1, dc_Lexicon_keepSmall_2, dc_Lexicon_keepSmall_3, dc_Lexicon_keepSmall_4, dc_Lexicon_keepSmall_5, dc_Lexicon_keepSmall_6, dc_Lexicon_keepSmall_7, dc_Lexicon_keepSmall_8, dc_Lexicon_keepSmall_9, dc_Lexicon_keepSmall_10, dc_Lexicon_keepSmall_11, dc_Lexicon_keepSmall_12, dc_Lexicon_keepSmall_13, dc_Lexicon_keepSmall_14, fl_Lexicon, sl_Lexicon, sg_Ring_inverse, sg_Arrays_fill, sg_Quotient_addRow, sg_Packed_variable, cpn_quotient_0, cpn_quotient_1, mx_cp_r, lx0, lx2, lx3, lx5, lx6, lx7, lx8, lx9, lx11, lx12, lx13, lx14, lx15, ly1, ly2, ly164, ly165, ly206, ly247, ly288, ly289, ly290, ly291, ly292, ly293, z4, t5, Int.toNat_natCast, mzr_iconst, mzr_bipush, mzr_sipush, mzr_lconst, mzr_iload, mzr_iload_n, mzr_aload, mzr_aload_n, mzr_lload, mzr_lload_n, mzr_istore, mzr_istore_n, mzr_astore, mzr_astore_n, mzr_lstore, mzr_lstore_n, mzr_iinc, mzr_iadd, mzr_isub, mzr_imul, mzr_iand, mzr_ior, mzr_ixor, mzr_ishl, mzr_ishr, mzr_iushr, mzr_idiv, mzr_irem, mzr_ineg, mzr_ladd, mzr_lsub, mzr_lmul, mzr_lrem, mzr_lcmp, mzr_i2l, mzr_l2i, mzr_i2b, mzr_dup, mzr_pop, mzr_dup2, mzr_ifCond_eq, mzr_if_icmp_eq, mzr_ifCond_ne, mzr_if_icmp_ne, mzr_ifCond_lt, mzr_if_icmp_lt, mzr_ifCond_ge, mzr_if_icmp_ge, mzr_ifCond_gt, mzr_if_icmp_gt, mzr_ifCond_le, mzr_if_icmp_le, mzr_goto, mzr_iaload, mzr_baload, mzr_laload, mzr_aaload, mzr_iastore, mzr_bastore, mzr_lastore, mzr_arraylength, mzr_getfield, mzr_putfield, mzr_getstatic, mzr_ldc, mzr_ldc_w, mzr_ldc2_w, mzr_ireturn, mzr_return_, mzr_copy, mzr_static, mzr_virtual, mzr_new, mz_tk, mz_dp, mz_ln, mz_sz, mz_af_v, mz_af_s, mz_wp_s, mz_w1, mz_g, mz_st, mz_k, mz_s2, mz_nx, mz_en, mx_to, mz_c1, ↓reduceIte, Nat.reduceAdd, Nat.reduceSub, Nat.reduceMul, Nat.reduceMod, Nat.reduceDiv, Nat.reduceEqDiff, Nat.reduceLeDiff, Nat.reduceLT, Int.reduceAdd, Int.reduceSub, Int.reduceNeg, Int.reduceMul, Int.reduceLE, Int.reduceLT, Int.reduceEq, Int.reduceToNat, Int.reduceNegSucc, Int.cast_ofNat_Int, Int32.reduceToInt, Int64.reduceToInt, Int.zero_add, Int.add_zero, Fin.isValue, Fin.val_zero, Fin.val_one, Fin.val_two, reduceCtorEq, or_false, false_or, or_true, true_or, or_self, and_true, true_and, and_self, not_true_eq_false, not_false_eq_true, implies_true, forall_const, List.mem_cons, List.not_mem_nil, false_implies, true_implies, imp_false, Nat.zero_add, Option.some.injEq, Prod.mk.injEq]
  repeat' first | omega | refine mz_it (fun hh => ?_) (fun hh => ?_) | refine And.intro ?_ ?_
  refine ct_addRow (d + 3) (p := p) hG hR p4 t6 ly293 (by omega) hp2 ⟨hivb1, hivb2⟩ (fun c hc => by rw [g4v, if_pos hc]; omega) (fun c hc => by
    rw [e4]
    by_cases hi : c = X.1.length
    · rw [if_pos hi]; omega
    · rw [if_neg hi]; exact ⟨(hsum c hc).1, (hsum c hc).2.1⟩) (fun H5 g5 g5v => ?_)
  have hf5 : mz_fr H H5 [x + 293, x + 166 + X.1.length, x + 207 + X.1.length, x + 248 + X.1.length] := (((g1.mono (by simp)).tr (g2.mono (by simp))).tr ((g3.mono (by simp)).tr (g4.mono (by simp)))).tr (g5.mono (by simp))
  have z5 : H5.2.1 x 4 = X.1.length := by rw [g5.2.2 x (by simp; omega), z4]
  have zx : ∀ k, H5.2.1 x k = H.2.1 x k := fun k => by rw [hf5.2.2 x (by simp; omega)]
  have lp : ∀ (w v : Nat) (h : mz_H), v + w = n → mz_fr (mz_w (mz_w H5 (x + 288) X.1.length (s : Int)) (x + 164) X.1.length (pk m : Int)) h [x, x + 289, x + 290] → (∀ k, k ≠ 10 → h.2.1 x k = H.2.1 x k) → h.2.1 x 10 = ((q + v : Nat) : Int) → (∀ j, j < q → h.2.1 (x + 289) j = H.2.1 (x + 289) j ∧ h.2.1 (x + 290) j = H.2.1 (x + 290) j) → (∀ v', v' < v → h.2.1 (x + 289) (q + v') = (pk (al_p m (tb_x v')) : Int) ∧ h.2.1 (x + 290) (q + v') = ((X.1.length * 4 + v' : Nat) : Int)) →
      mz_V e (d + 4) mm_Lexicon_keepSmall 129 [some (.inr (.inl x)), some (.inr (.inl r)), some (.inl (pk m : Int)), some (.inl (s : Int)), some (.inl iv), some (.inl (v : Int))] [] h P := by
    intro w
    induction w with
    | zero =>
      intro v h k1 k2 k3 k4 k5 k6
      obtain rfl : v = n := by omega
      have y0 : h.2.1 x 0 = v := by rw [k3 0 (by omega), a1]
      have y4 : h.2.1 x 4 = X.1.length := by rw [k3 4 (by omega), a3]
      have hfin : mz_fr H (mz_w h x 4 ((X.1.length : Int) + 1)) [x, x + 289, x + 290, x + 288, x + 164, x + 293, x + 166 + X.1.length, x + 207 + X.1.length, x + 248 + X.1.length] :=
        ((((hf5.mono (by simp)).tr (mz_fr.w _ _ _ _ (by simp))).tr (mz_fr.w _ _ _ _ (by simp))).tr (k2.mono (by simp))).tr (mz_fr.w _ _ _ _ (by simp))
      have hne : ∀ a, a ≠ x → (mz_w h x 4 ((X.1.length : Int) + 1)).2.1 a = h.2.1 a := fun a ha => by
        funext j
        rw [mz_w_g, if_neg (fun q => ha q.1)]
      have h288 : h.2.1 (x + 288) = (mz_w (mz_w H5 (x + 288) X.1.length (s : Int)) (x + 164) X.1.length (pk m : Int)).2.1 (x + 288) := k2.2.2 _ (by simp)
      have h164 : h.2.1 (x + 164) = (mz_w (mz_w H5 (x + 288) X.1.length (s : Int)) (x + 164) X.1.length (pk m : Int)).2.1 (x + 164) := k2.2.2 _ (by simp)
      have hrows : ∀ a, 166 ≤ a → a < 288 → h.2.1 (x + a) = H5.2.1 (x + a) := fun a ha hb => by
        rw [k2.2.2 (x + a) (by simp <;> omega)]
        funext j
        rw [mz_w_g, if_neg (by omega), mz_w_g, if_neg (by omega)]
      have fin := hP (mz_w h x 4 ((X.1.length : Int) + 1)) (hfin.mono (by intro a ha; simp [bl_m] at ha ⊢; omega)) (by rw [mz_w_g, if_neg (by omega), k4]) (fun j hj => by rw [hne _ (by omega), hne _ (by omega)]; exact k5 j hj) (fun v' hv' => by rw [hne _ (by omega), hne _ (by omega)]; exact k6 v' hv')
        ⟨⟨by rw [mz_w_g, if_neg (by omega), y0], by rw [mz_w_g, if_neg (by omega), k3 1 (by omega), a2], by rw [mz_w_g, if_pos ⟨rfl, rfl⟩, List.length_append, List.length_singleton]; omega⟩, a4, by rw [List.length_append, List.length_singleton]; omega, fun k hk => by
          obtain ⟨b1, b2, b3⟩ := a6 k hk
          have hk161 : k < 161 := Nat.lt_of_lt_of_le hk a4
          rw [hfin.2.2 (x + 1) (by simp <;> omega), hfin.2.2 (x + 3 + k) (by simp <;> omega)]
          exact ⟨b1, b2, b3⟩, fun i hi => by
          rw [List.length_append, List.length_singleton] at hi
          rw [hne _ (by omega), h164, mz_w_g]
          by_cases hil : i = X.1.length
          · rw [if_pos ⟨rfl, hil⟩, hil, fg_B_r]
            exact ⟨rfl, hmok⟩
          · rw [if_neg (fun q => hil q.2), mz_w_g, if_neg (by omega), fg_B_l _ _ _ (by omega), hf5.2.2 (x + 164) (by simp <;> omega)]
            exact a7 i (by omega)⟩
        (lw_n hp2.1 hlen hl40 hw he hs hsz hive (fun k hk => by
          refine ⟨hfin.2.2 _ (by simp <;> omega), hfin.2.2 _ (by simp <;> omega), hfin.2.2 _ (by simp <;> omega), ?_⟩
          rw [hne _ (by omega), h288, mz_w_g, if_neg (by omega), mz_w_g, if_neg (by omega), hf5.2.2 (x + 288) (by simp <;> omega)]) (fun c hc => by
          rw [hne _ (by omega), show x + 166 + X.1.length = x + (166 + X.1.length) by omega, hrows _ (by omega) (by omega), ← Nat.add_assoc, g5.2.2 _ (by simp <;> omega), g4.2.2 _ (by simp <;> omega), g3.2.2 _ (by simp <;> omega), g2.2.2 _ (by simp <;> omega), g1w c hc]
          exact hm c hc) (fun c hc => by
          rw [hne _ (by omega), show x + 207 + X.1.length = x + (207 + X.1.length) by omega, hrows _ (by omega) (by omega), ← Nat.add_assoc, g5.2.2 _ (by simp <;> omega), g4.2.2 _ (by simp <;> omega), g3v c hc, g2v, if_pos hc, e2, Int.zero_add]) (fun c hc => by
          rw [hne _ (by omega), show x + 248 + X.1.length = x + (248 + X.1.length) by omega, hrows _ (by omega) (by omega), ← Nat.add_assoc, g5v c hc, g4v, if_pos hc, e4, Int.zero_add]) (by
          rw [hne _ (by omega), h288, mz_w_g, if_neg (by omega), mz_w_g, if_pos ⟨rfl, rfl⟩]))
      apply mz_go hG 60 [129]
      simp only [mf_Lexicon_keepSmall, ca_Lexicon_keepSmall, dc_Lexicon_keepSmall_0, dc_Lexicon_keepSmall_1, dc_Lexicon_keepSmall_2, dc_Lexicon_keepSmall_3, dc_Lexicon_keepSmall_4, dc_Lexicon_keepSmall_5, dc_Lexicon_keepSmall_6, dc_Lexicon_keepSmall_7, dc_Lexicon_keepSmall_8, dc_Lexicon_keepSmall_9, dc_Lexicon_keepSmall_10, dc_Lexicon_keepSmall_11, dc_Lexicon_keepSmall_12, dc_Lexicon_keepSmall_13, dc_Lexicon_keepSmall_14, fl_Lexicon, sl_Lexicon, sg_Ring_inverse, sg_Arrays_fill, sg_Quotient_addRow, sg_Packed_variable, cpn_quotient_0, cpn_quotient_1, mx_cp_r, lx0, lx2, lx3, lx5, lx6, lx7, lx8, lx9, lx11, lx12, lx13, lx14, lx15, ly1, ly2, ly164, ly165, ly206, ly247, ly288, ly289, ly290, ly291, ly292, ly293, y0, y4, mz_w_g, Nat.left_eq_add, Nat.add_left_cancel_iff, Nat.add_eq_left, false_and, if_false, if_true, mzr_iconst, mzr_bipush, mzr_sipush, mzr_lconst, mzr_iload, mzr_iload_n, mzr_aload, mzr_aload_n, mzr_lload, mzr_lload_n, mzr_istore, mzr_istore_n, mzr_astore, mzr_astore_n, mzr_lstore, mzr_lstore_n, mzr_iinc, mzr_iadd, mzr_isub, mzr_imul, mzr_iand, mzr_ior, mzr_ixor, mzr_ishl, mzr_ishr, mzr_iushr, mzr_idiv, mzr_irem, mzr_ineg, mzr_ladd, mzr_lsub, mzr_lmul, mzr_lrem, mzr_lcmp, mzr_i2l, mzr_l2i, mzr_i2b, mzr_dup, mzr_pop, mzr_dup2, mzr_ifCond_eq, mzr_if_icmp_eq, mzr_ifCond_ne, mzr_if_icmp_ne, mzr_ifCond_lt, mzr_if_icmp_lt, mzr_ifCond_ge, mzr_if_icmp_ge, mzr_ifCond_gt, mzr_if_icmp_gt, mzr_ifCond_le, mzr_if_icmp_le, mzr_goto, mzr_iaload, mzr_baload, mzr_laload, mzr_aaload, mzr_iastore, mzr_bastore, mzr_lastore, mzr_arraylength, mzr_getfield, mzr_putfield, mzr_getstatic, mzr_ldc, mzr_ldc_w, mzr_ldc2_w, mzr_ireturn, mzr_return_, mzr_copy, mzr_static, mzr_virtual, mzr_new, mz_tk, mz_dp, mz_ln, mz_sz, mz_af_v, mz_af_s, mz_wp_s, mz_w1, mz_g, mz_st, mz_k, mz_s2, mz_nx, mz_en, mx_to, mz_c1, ↓reduceIte, Nat.reduceAdd, Nat.reduceSub, Nat.reduceMul, Nat.reduceMod, Nat.reduceDiv, Nat.reduceEqDiff, Nat.reduceLeDiff, Nat.reduceLT, Int.reduceAdd, Int.reduceSub, Int.reduceNeg, Int.reduceMul, Int.reduceLE, Int.reduceLT, Int.reduceEq, Int.reduceToNat, Int.reduceNegSucc, Int.cast_ofNat_Int, Int32.reduceToInt, Int64.reduceToInt, Int.zero_add, Int.add_zero, Fin.isValue, Fin.val_zero, Fin.val_one, Fin.val_two, reduceCtorEq, or_false, false_or, or_true, true_or, or_self, and_true, true_and, and_self, not_true_eq_false, not_false_eq_true, implies_true, forall_const, List.mem_cons, List.not_mem_nil, false_implies, true_implies, imp_false, Nat.zero_add, Option.some.injEq, Prod.mk.injEq]
      repeat' first | omega | refine mz_it (fun hh => ?_) (fun hh => ?_) | refine And.intro ?_ ?_
      all_goals exact fin
    | succ w ih =>
      intro v h k1 k2 k3 k4 k5 k6
      have y0 : h.2.1 x 0 = n := by rw [k3 0 (by omega), a1]
      have y4 : h.2.1 x 4 = X.1.length := by rw [k3 4 (by omega), a3]
      have hpp := pk_p m (tb_x v)
      have hpb := pk_b (pk_ok_d (show al_dg (al_p m (tb_x v)) < 64 by rw [al_dg_p, tb_x_d]; omega))
      have i1 : (((q + v : Nat) : Int)).toNat = q + v := by omega
      apply mz_go hG 60 [129]
      simp only [mf_Lexicon_keepSmall, ca_Lexicon_keepSmall, dc_Lexicon_keepSmall_0, dc_Lexicon_keepSmall_1, dc_Lexicon_keepSmall_2, dc_Lexicon_keepSmall_3, dc_Lexicon_keepSmall_4, dc_Lexicon_keepSmall_5, dc_Lexicon_keepSmall_6, dc_Lexicon_keepSmall_7, dc_Lexicon_keepSmall_8, dc_Lexicon_keepSmall_9, dc_Lexicon_keepSmall_10, dc_Lexicon_keepSmall_11, dc_Lexicon_keepSmall_12, dc_Lexicon_keepSmall_13, dc_Lexicon_keepSmall_14, fl_Lexicon, sl_Lexicon, sg_Ring_inverse, sg_Arrays_fill, sg_Quotient_addRow, sg_Packed_variable, cpn_quotient_0, cpn_quotient_1, mx_cp_r, lx0, lx2, lx3, lx5, lx6, lx7, lx8, lx9, lx11, lx12, lx13, lx14, lx15, ly1, ly2, ly164, ly165, ly206, ly247, ly288, ly289, ly290, ly291, ly292, ly293, y0, y4, k4, i1, mzr_iconst, mzr_bipush, mzr_sipush, mzr_lconst, mzr_iload, mzr_iload_n, mzr_aload, mzr_aload_n, mzr_lload, mzr_lload_n, mzr_istore, mzr_istore_n, mzr_astore, mzr_astore_n, mzr_lstore, mzr_lstore_n, mzr_iinc, mzr_iadd, mzr_isub, mzr_imul, mzr_iand, mzr_ior, mzr_ixor, mzr_ishl, mzr_ishr, mzr_iushr, mzr_idiv, mzr_irem, mzr_ineg, mzr_ladd, mzr_lsub, mzr_lmul, mzr_lrem, mzr_lcmp, mzr_i2l, mzr_l2i, mzr_i2b, mzr_dup, mzr_pop, mzr_dup2, mzr_ifCond_eq, mzr_if_icmp_eq, mzr_ifCond_ne, mzr_if_icmp_ne, mzr_ifCond_lt, mzr_if_icmp_lt, mzr_ifCond_ge, mzr_if_icmp_ge, mzr_ifCond_gt, mzr_if_icmp_gt, mzr_ifCond_le, mzr_if_icmp_le, mzr_goto, mzr_iaload, mzr_baload, mzr_laload, mzr_aaload, mzr_iastore, mzr_bastore, mzr_lastore, mzr_arraylength, mzr_getfield, mzr_putfield, mzr_getstatic, mzr_ldc, mzr_ldc_w, mzr_ldc2_w, mzr_ireturn, mzr_return_, mzr_copy, mzr_static, mzr_virtual, mzr_new, mz_tk, mz_dp, mz_ln, mz_sz, mz_af_v, mz_af_s, mz_wp_s, mz_w1, mz_g, mz_st, mz_k, mz_s2, mz_nx, mz_en, mx_to, mz_c1, ↓reduceIte, Nat.reduceAdd, Nat.reduceSub, Nat.reduceMul, Nat.reduceMod, Nat.reduceDiv, Nat.reduceEqDiff, Nat.reduceLeDiff, Nat.reduceLT, Int.reduceAdd, Int.reduceSub, Int.reduceNeg, Int.reduceMul, Int.reduceLE, Int.reduceLT, Int.reduceEq, Int.reduceToNat, Int.reduceNegSucc, Int.cast_ofNat_Int, Int32.reduceToInt, Int64.reduceToInt, Int.zero_add, Int.add_zero, Fin.isValue, Fin.val_zero, Fin.val_one, Fin.val_two, reduceCtorEq, or_false, false_or, or_true, true_or, or_self, and_true, true_and, and_self, not_true_eq_false, not_false_eq_true, implies_true, forall_const, List.mem_cons, List.not_mem_nil, false_implies, true_implies, imp_false, Nat.zero_add, Option.some.injEq, Prod.mk.injEq]
      repeat' first | omega | refine mz_it (fun hh => ?_) (fun hh => ?_) | refine And.intro ?_ ?_
      refine ct_pvariable (d + 3) hG (by omega) ?_
      have c2 : (x = x + 289) = False := eq_false (by omega)
      have c3 : (x = x + 290) = False := eq_false (by omega)
      have hx := ih (v + 1) (mz_w (mz_w (mz_w h (x + 289) (q + v) ((pk m : Int) + (pk (tb_x v) : Int))) (x + 290) (q + v) ((X.1.length : Int) * 4 + (v : Int))) x 10 (((q + v : Nat) : Int) + 1)) (by omega) ((k2.tr (mz_fr.w _ _ _ _ (by simp))).tr ((mz_fr.w _ _ _ _ (by simp)).tr (mz_fr.w _ _ _ _ (by simp)))) (fun k hk => by
          rw [mz_w_g, if_neg (by omega), mz_w_g, if_neg (by omega), mz_w_g, if_neg (by omega), k3 k hk]) (by rw [mz_w_g, if_pos ⟨rfl, rfl⟩]; omega) (fun j hj => by
          rw [mz_w_g, if_neg (by omega), mz_w_g, if_neg (by omega), mz_w_g, if_neg (by omega), mz_w_g, if_neg (by omega), mz_w_g, if_neg (by omega), mz_w_g, if_neg (by omega)]
          exact k5 j hj) (fun v' hv' => by
          refine ⟨?_, ?_⟩
          · rw [mz_w_g, if_neg (by omega), mz_w_g, if_neg (by omega), mz_w_g]
            by_cases hvv : v' = v
            · rw [if_pos ⟨rfl, by omega⟩, hvv, hpp]; omega
            · rw [if_neg (by omega)]
              exact (k6 v' (by omega)).1
          · rw [mz_w_g, if_neg (by omega), mz_w_g]
            by_cases hvv : v' = v
            · rw [if_pos ⟨rfl, by omega⟩, hvv]; omega
            · rw [if_neg (by omega), mz_w_g, if_neg (by omega)]
              exact (k6 v' (by omega)).2)
      simp only [mf_Lexicon_keepSmall, ca_Lexicon_keepSmall, dc_Lexicon_keepSmall_0, dc_Lexicon_keepSmall_1, dc_Lexicon_keepSmall_2, dc_Lexicon_keepSmall_3, dc_Lexicon_keepSmall_4, dc_Lexicon_keepSmall_5, dc_Lexicon_keepSmall_6, dc_Lexicon_keepSmall_7, dc_Lexicon_keepSmall_8, dc_Lexicon_keepSmall_9, dc_Lexicon_keepSmall_10, dc_Lexicon_keepSmall_11, dc_Lexicon_keepSmall_12, dc_Lexicon_keepSmall_13, dc_Lexicon_keepSmall_14, fl_Lexicon, sl_Lexicon, sg_Ring_inverse, sg_Arrays_fill, sg_Quotient_addRow, sg_Packed_variable, cpn_quotient_0, cpn_quotient_1, mx_cp_r, lx0, lx2, lx3, lx5, lx6, lx7, lx8, lx9, lx11, lx12, lx13, lx14, lx15, ly1, ly2, ly164, ly165, ly206, ly247, ly288, ly289, ly290, ly291, ly292, ly293, y4, k4, i1, c2, c3, mz_w_g, Nat.left_eq_add, Nat.add_left_cancel_iff, Nat.add_eq_left, false_and, if_false, if_true, Int.toNat_natCast, mzr_iconst, mzr_bipush, mzr_sipush, mzr_lconst, mzr_iload, mzr_iload_n, mzr_aload, mzr_aload_n, mzr_lload, mzr_lload_n, mzr_istore, mzr_istore_n, mzr_astore, mzr_astore_n, mzr_lstore, mzr_lstore_n, mzr_iinc, mzr_iadd, mzr_isub, mzr_imul, mzr_iand, mzr_ior, mzr_ixor, mzr_ishl, mzr_ishr, mzr_iushr, mzr_idiv, mzr_irem, mzr_ineg, mzr_ladd, mzr_lsub, mzr_lmul, mzr_lrem, mzr_lcmp, mzr_i2l, mzr_l2i, mzr_i2b, mzr_dup, mzr_pop, mzr_dup2, mzr_ifCond_eq, mzr_if_icmp_eq, mzr_ifCond_ne, mzr_if_icmp_ne, mzr_ifCond_lt, mzr_if_icmp_lt, mzr_ifCond_ge, mzr_if_icmp_ge, mzr_ifCond_gt, mzr_if_icmp_gt, mzr_ifCond_le, mzr_if_icmp_le, mzr_goto, mzr_iaload, mzr_baload, mzr_laload, mzr_aaload, mzr_iastore, mzr_bastore, mzr_lastore, mzr_arraylength, mzr_getfield, mzr_putfield, mzr_getstatic, mzr_ldc, mzr_ldc_w, mzr_ldc2_w, mzr_ireturn, mzr_return_, mzr_copy, mzr_static, mzr_virtual, mzr_new, mz_tk, mz_dp, mz_ln, mz_sz, mz_af_v, mz_af_s, mz_wp_s, mz_w1, mz_g, mz_st, mz_k, mz_s2, mz_nx, mz_en, mx_to, mz_c1, ↓reduceIte, Nat.reduceAdd, Nat.reduceSub, Nat.reduceMul, Nat.reduceMod, Nat.reduceDiv, Nat.reduceEqDiff, Nat.reduceLeDiff, Nat.reduceLT, Int.reduceAdd, Int.reduceSub, Int.reduceNeg, Int.reduceMul, Int.reduceLE, Int.reduceLT, Int.reduceEq, Int.reduceToNat, Int.reduceNegSucc, Int.cast_ofNat_Int, Int32.reduceToInt, Int64.reduceToInt, Int.zero_add, Int.add_zero, Fin.isValue, Fin.val_zero, Fin.val_one, Fin.val_two, reduceCtorEq, or_false, false_or, or_true, true_or, or_self, and_true, true_and, and_self, not_true_eq_false, not_false_eq_true, implies_true, forall_const, List.mem_cons, List.not_mem_nil, false_implies, true_implies, imp_false, Nat.zero_add, Option.some.injEq, Prod.mk.injEq]
      repeat' first | omega | refine mz_it (fun hh => ?_) (fun hh => ?_) | refine And.intro ?_ ?_
      all_goals exact hx
  have hx := lp n 0 (mz_w (mz_w H5 (x + 288) X.1.length (s : Int)) (x + 164) X.1.length (pk m : Int)) (by omega) (mz_fr.refl _ _) (fun k hk => by rw [mz_w_g, if_neg (by omega), mz_w_g, if_neg (by omega), zx]) (by rw [mz_w_g, if_neg (by omega), mz_w_g, if_neg (by omega), zx, hq]; rfl) (fun j hj => by
    rw [mz_w_g, if_neg (by omega), mz_w_g, if_neg (by omega), mz_w_g, if_neg (by omega), mz_w_g, if_neg (by omega), hf5.2.2 (x + 289) (by simp <;> omega), hf5.2.2 (x + 290) (by simp <;> omega)]
    exact ⟨rfl, rfl⟩) (fun v' hv' => by omega)
  have c4 : (x = x + 288) = False := eq_false (by omega)
  simp only [mf_Lexicon_keepSmall, ca_Lexicon_keepSmall, dc_Lexicon_keepSmall_0, dc_Lexicon_keepSmall_1, dc_Lexicon_keepSmall_2, dc_Lexicon_keepSmall_3, dc_Lexicon_keepSmall_4, dc_Lexicon_keepSmall_5, dc_Lexicon_keepSmall_6, dc_Lexicon_keepSmall_7, dc_Lexicon_keepSmall_8, dc_Lexicon_keepSmall_9, dc_Lexicon_keepSmall_10, dc_Lexicon_keepSmall_11, dc_Lexicon_keepSmall_12, dc_Lexicon_keepSmall_13, dc_Lexicon_keepSmall_14, fl_Lexicon, sl_Lexicon, sg_Ring_inverse, sg_Arrays_fill, sg_Quotient_addRow, sg_Packed_variable, cpn_quotient_0, cpn_quotient_1, mx_cp_r, lx0, lx2, lx3, lx5, lx6, lx7, lx8, lx9, lx11, lx12, lx13, lx14, lx15, ly1, ly2, ly164, ly165, ly206, ly247, ly288, ly289, ly290, ly291, ly292, ly293, z5, c4, mz_w_g, Nat.left_eq_add, Nat.add_left_cancel_iff, Nat.add_eq_left, false_and, if_false, if_true, Int.toNat_natCast, mzr_iconst, mzr_bipush, mzr_sipush, mzr_lconst, mzr_iload, mzr_iload_n, mzr_aload, mzr_aload_n, mzr_lload, mzr_lload_n, mzr_istore, mzr_istore_n, mzr_astore, mzr_astore_n, mzr_lstore, mzr_lstore_n, mzr_iinc, mzr_iadd, mzr_isub, mzr_imul, mzr_iand, mzr_ior, mzr_ixor, mzr_ishl, mzr_ishr, mzr_iushr, mzr_idiv, mzr_irem, mzr_ineg, mzr_ladd, mzr_lsub, mzr_lmul, mzr_lrem, mzr_lcmp, mzr_i2l, mzr_l2i, mzr_i2b, mzr_dup, mzr_pop, mzr_dup2, mzr_ifCond_eq, mzr_if_icmp_eq, mzr_ifCond_ne, mzr_if_icmp_ne, mzr_ifCond_lt, mzr_if_icmp_lt, mzr_ifCond_ge, mzr_if_icmp_ge, mzr_ifCond_gt, mzr_if_icmp_gt, mzr_ifCond_le, mzr_if_icmp_le, mzr_goto, mzr_iaload, mzr_baload, mzr_laload, mzr_aaload, mzr_iastore, mzr_bastore, mzr_lastore, mzr_arraylength, mzr_getfield, mzr_putfield, mzr_getstatic, mzr_ldc, mzr_ldc_w, mzr_ldc2_w, mzr_ireturn, mzr_return_, mzr_copy, mzr_static, mzr_virtual, mzr_new, mz_tk, mz_dp, mz_ln, mz_sz, mz_af_v, mz_af_s, mz_wp_s, mz_w1, mz_g, mz_st, mz_k, mz_s2, mz_nx, mz_en, mx_to, mz_c1, ↓reduceIte, Nat.reduceAdd, Nat.reduceSub, Nat.reduceMul, Nat.reduceMod, Nat.reduceDiv, Nat.reduceEqDiff, Nat.reduceLeDiff, Nat.reduceLT, Int.reduceAdd, Int.reduceSub, Int.reduceNeg, Int.reduceMul, Int.reduceLE, Int.reduceLT, Int.reduceEq, Int.reduceToNat, Int.reduceNegSucc, Int.cast_ofNat_Int, Int32.reduceToInt, Int64.reduceToInt, Int.zero_add, Int.add_zero, Fin.isValue, Fin.val_zero, Fin.val_one, Fin.val_two, reduceCtorEq, or_false, false_or, or_true, true_or, or_self, and_true, true_and, and_self, not_true_eq_false, not_false_eq_true, implies_true, forall_const, List.mem_cons, List.not_mem_nil, false_implies, true_implies, imp_false, Nat.zero_add, Option.some.injEq, Prod.mk.injEq]
  repeat' first | omega | refine mz_it (fun hh => ?_) (fun hh => ?_) | refine And.intro ?_ ?_
  all_goals exact hx
