def wl_S (H : mz_H) (y : Nat) (W : List Nat) : Prop := H.2.1 y 38 = W.length ∧ (∀ k, k < W.length → H.2.1 (y + 24) k = ((W[k]?.getD 0 : Nat) : Int)) ∧ W.Nodup
theorem nl_i {l : List Nat} (h : l.Nodup) : ∀ i j, i < l.length → j < l.length → l[i]?.getD 0 = l[j]?.getD 0 → i = j := by
  intro i j hi hj he
  rw [List.getElem?_eq_getElem hi, List.getElem?_eq_getElem hj] at he
  exact (List.getElem_inj h).mp he
theorem nl_m {l : List Nat} {i : Nat} (hi : i < l.length) : l[i]?.getD 0 ∈ l := by
  rw [List.getElem?_eq_getElem hi]
  exact List.getElem_mem _
theorem nl_le {l : List Nat} {N : Nat} (h : l.Nodup) (hb : ∀ m, m ∈ l → m < N) : l.length ≤ N :=
  ph_le N l.length (fun k => l[k]?.getD 0) (fun k hk => hb _ (nl_m hk)) (fun i j hi hj hij => nl_i h i j hi hj hij)
section RINS
variable {e : mz_E} {H : mz_H} {P : mz_O → mz_H → Prop} {y : Nat} {p : Int} {n o : Nat}
set_option maxRecDepth 100000 in
theorem cm_insert (d : Nat) {i N t : Nat} {W : List Nat} {w : Nat → Int} (hG : mx_G e.1) (hE : rm_E e y) (hp : H.2.1 y 1 = p) (hp2 : 2 ≤ p ∧ p < 32768) (hpr : al_pr p.toNat) (hi : i < 5) (ht : t ≤ 1) (h39 : H.2.1 y 39 = t) (hN : H.2.1 (y + 3) t = N) (hN126 : N ≤ 126) (hS : ru_S H y i p N W) (hWl : wl_S H y W) (hw : ∀ j, j < 126 → H.2.1 (y + 23) j = w j) (hwr : ∀ j, j < 126 → 0 ≤ w j ∧ w j < p) (hwz : ∀ j, N ≤ j → j < 126 → w j = 0)
    (hP : ∀ h W', (∃ E, W' = W ++ E) → mz_fr H h [y, y + 8, y + 10, y + 23, y + 24] → (∀ k, k ≠ 38 → h.2.1 y k = H.2.1 y k) → ru_S h y i p N W' → wl_S h y W' → (∀ l, l ∈ W → ∀ k, k < 126 → rrow h y i l k = rrow H y i l k) → (∀ q, q < 15876 * i ∨ 15876 * i + 15876 ≤ q → h.2.1 (y + 8) q = H.2.1 (y + 8) q) → (∀ q, q < 126 * i ∨ 126 * i + 126 ≤ q → h.2.1 (y + 10) q = H.2.1 (y + 10) q) →
      ru_R p h y i W' (cu w) → (∀ S, al_L p S → (∀ l, l ∈ W → S (cu (rrow H y i l))) → S (cu w) → ∀ l, l ∈ W' → S (cu (rrow h y i l))) → P (.inl none) h) :
    mz_CA e (d + 2) j_M_insert [.inr (.inl y), .inl (i : Int)] H P := by
  have hE' := hE
  obtain ⟨⟨ra0, ra4, ra5, ra6, ra7, ra8, ra9, ra10, ra11, ra12, ra13, ra14, ra15, ra16, ra17, ra21, ra29, ra30, ra31, ra32, ra33, ra34, ra35, ra36, ra37, ra41, ra42, ra46, ra47, ra48, ra49, ra50, ra51, ra52, ra53, ra54, ra56, ra57, ra58, ra59, ra60, ra65, ra66⟩, ⟨rb1, rb2, rb3, rb4, rb5, rb6, rb7, rb8, rb9, rb10, rb11, rb12, rb13, rb14, rb15, rb16, rb17, rb18, rb19, rb20, rb21, rb22, rb23, rb24, rb25, rb26, rb27, rb28, rb29, rb30, rb31, rb32, rb33, rb34, rb35, rb36, rb37, rb38, rb39, rb40, rb41, rb42⟩⟩ := hE
  refine mz_CA_of mr_M_insert ?_
  simp only [mf_M_insert, mz_en, List.replicate, Nat.reduceSub, Nat.reduceAdd, Nat.reduceMul]
  apply mz_go hG 60 [65]
  simp only [mf_M_insert, ca_M_insert, dc_M_insert_0, dc_M_insert_1, dc_M_insert_2, dc_M_insert_3, dc_M_insert_4, dc_M_insert_5, dc_M_insert_6, dc_M_insert_7, dc_M_insert_8, dc_M_insert_9, dc_M_insert_10, dc_M_insert_11, fl_M, sl_M, sg_M_reduce, sg_M_lead, sg_M_inverse, sg_M_rowAt, sg_M_mod, ra0, ra6, ra11, ra13, ra36, ra37, rb3, rb8, rb10, rb23, rb24, h39, hN, Int.toNat_natCast, mzr_iconst, mzr_bipush, mzr_sipush, mzr_lconst, mzr_iload, mzr_iload_n, mzr_aload, mzr_aload_n, mzr_lload, mzr_lload_n, mzr_istore, mzr_istore_n, mzr_astore, mzr_astore_n, mzr_lstore, mzr_lstore_n, mzr_iinc, mzr_iadd, mzr_isub, mzr_imul, mzr_iand, mzr_ior, mzr_ixor, mzr_ishl, mzr_ishr, mzr_iushr, mzr_idiv, mzr_irem, mzr_ineg, mzr_ladd, mzr_lsub, mzr_lmul, mzr_lrem, mzr_lcmp, mzr_i2l, mzr_l2i, mzr_i2b, mzr_dup, mzr_pop, mzr_dup2, mzr_ifCond_eq, mzr_if_icmp_eq, mzr_ifCond_ne, mzr_if_icmp_ne, mzr_ifCond_lt, mzr_if_icmp_lt, mzr_ifCond_ge, mzr_if_icmp_ge, mzr_ifCond_gt, mzr_if_icmp_gt, mzr_ifCond_le, mzr_if_icmp_le, mzr_goto, mzr_iaload, mzr_baload, mzr_laload, mzr_aaload, mzr_iastore, mzr_bastore, mzr_lastore, mzr_arraylength, mzr_getfield, mzr_putfield, mzr_getstatic, mzr_ldc, mzr_ldc_w, mzr_ldc2_w, mzr_ireturn, mzr_return_, mzr_copy, mzr_static, mzr_virtual, mzr_new, mz_tk, mz_dp, mz_ln, mz_sz, mz_af_v, mz_af_s, mz_wp_s, mz_w1, mz_g, mz_st, mz_k, mz_s2, mz_nx, mz_en, mx_to, mz_c1, ↓reduceIte, Nat.reduceAdd, Nat.reduceSub, Nat.reduceMul, Nat.reduceMod, Nat.reduceDiv, Nat.reduceEqDiff, Nat.reduceLeDiff, Nat.reduceLT, Int.reduceAdd, Int.reduceSub, Int.reduceNeg, Int.reduceMul, Int.reduceLE, Int.reduceLT, Int.reduceEq, Int.reduceToNat, Int.reduceNegSucc, Int.cast_ofNat_Int, Int32.reduceToInt, Int64.reduceToInt, Int.zero_add, Int.add_zero, Fin.isValue, Fin.val_zero, Fin.val_one, Fin.val_two, reduceCtorEq, or_false, false_or, or_true, true_or, or_self, and_true, true_and, and_self, not_true_eq_false, not_false_eq_true, implies_true, forall_const, List.mem_cons, List.not_mem_nil, false_implies, true_implies, imp_false, Nat.zero_add, Option.some.injEq, Prod.mk.injEq]
  repeat' first | omega | refine mz_it (fun hh => ?_) (fun hh => ?_) | refine And.intro ?_ ?_
  refine cm_reduce (f0 := N) d hG hE' hp hp2 hi hN126 hS hw hwr (fun h w' f1 hv hr hz hh hR => ?_)
  have e39 : h.2.1 y 39 = t := by rw [f1.2.2 y (by simp)]; exact h39
  have eN : h.2.1 (y + 3) t = N := by rw [f1.2.2 _ (by simp)]; exact hN
  have ey : h.2.1 y = H.2.1 y := f1.2.2 y (by simp)
  have e8 : h.2.1 (y + 8) = H.2.1 (y + 8) := f1.2.2 _ (by simp)
  have e10 : h.2.1 (y + 10) = H.2.1 (y + 10) := f1.2.2 _ (by simp)
  simp only [mf_M_insert, ca_M_insert, dc_M_insert_0, dc_M_insert_1, dc_M_insert_2, dc_M_insert_3, dc_M_insert_4, dc_M_insert_5, dc_M_insert_6, dc_M_insert_7, dc_M_insert_8, dc_M_insert_9, dc_M_insert_10, dc_M_insert_11, fl_M, sl_M, sg_M_reduce, sg_M_lead, sg_M_inverse, sg_M_rowAt, sg_M_mod, ra0, ra6, ra11, ra13, ra36, ra37, rb3, rb8, rb10, rb23, rb24, e39, eN, Int.toNat_natCast, mzr_iconst, mzr_bipush, mzr_sipush, mzr_lconst, mzr_iload, mzr_iload_n, mzr_aload, mzr_aload_n, mzr_lload, mzr_lload_n, mzr_istore, mzr_istore_n, mzr_astore, mzr_astore_n, mzr_lstore, mzr_lstore_n, mzr_iinc, mzr_iadd, mzr_isub, mzr_imul, mzr_iand, mzr_ior, mzr_ixor, mzr_ishl, mzr_ishr, mzr_iushr, mzr_idiv, mzr_irem, mzr_ineg, mzr_ladd, mzr_lsub, mzr_lmul, mzr_lrem, mzr_lcmp, mzr_i2l, mzr_l2i, mzr_i2b, mzr_dup, mzr_pop, mzr_dup2, mzr_ifCond_eq, mzr_if_icmp_eq, mzr_ifCond_ne, mzr_if_icmp_ne, mzr_ifCond_lt, mzr_if_icmp_lt, mzr_ifCond_ge, mzr_if_icmp_ge, mzr_ifCond_gt, mzr_if_icmp_gt, mzr_ifCond_le, mzr_if_icmp_le, mzr_goto, mzr_iaload, mzr_baload, mzr_laload, mzr_aaload, mzr_iastore, mzr_bastore, mzr_lastore, mzr_arraylength, mzr_getfield, mzr_putfield, mzr_getstatic, mzr_ldc, mzr_ldc_w, mzr_ldc2_w, mzr_ireturn, mzr_return_, mzr_copy, mzr_static, mzr_virtual, mzr_new, mz_tk, mz_dp, mz_ln, mz_sz, mz_af_v, mz_af_s, mz_wp_s, mz_w1, mz_g, mz_st, mz_k, mz_s2, mz_nx, mz_en, mx_to, mz_c1, ↓reduceIte, Nat.reduceAdd, Nat.reduceSub, Nat.reduceMul, Nat.reduceMod, Nat.reduceDiv, Nat.reduceEqDiff, Nat.reduceLeDiff, Nat.reduceLT, Int.reduceAdd, Int.reduceSub, Int.reduceNeg, Int.reduceMul, Int.reduceLE, Int.reduceLT, Int.reduceEq, Int.reduceToNat, Int.reduceNegSucc, Int.cast_ofNat_Int, Int32.reduceToInt, Int64.reduceToInt, Int.zero_add, Int.add_zero, Fin.isValue, Fin.val_zero, Fin.val_one, Fin.val_two, reduceCtorEq, or_false, false_or, or_true, true_or, or_self, and_true, true_and, and_self, not_true_eq_false, not_false_eq_true, implies_true, forall_const, List.mem_cons, List.not_mem_nil, false_implies, true_implies, imp_false, Nat.zero_add, Option.some.injEq, Prod.mk.injEq]
  repeat' first | omega | refine mz_it (fun hh => ?_) (fun hh => ?_) | refine And.intro ?_ ?_
  refine cm_lead (f := w') (b := 0) (d + 1) hG hE' rb23 (by omega) (by omega) (fun j hj => by rw [Nat.zero_add]; exact hv j (by omega)) ?_
  have htr := sp_top_r w' N
  have hwz' : ∀ j, N ≤ j → j < 126 → w' j = 0 := fun j h1 h2 => by rw [hh j h1]; exact hwz j h1 h2
  by_cases htop : sp_top w' N = -1
  · have hall : ∀ j, j < 126 → w' j = 0 := fun j hj => by
      by_cases hjN : j < N
      · exact sp_top_z hjN (by omega)
      · exact hwz' j (by omega) hj
    have fin := hP h W ⟨[], by simp⟩ (f1.mono (by intro c hc; simp at hc ⊢; omega)) (fun k _ => by rw [ey]) (hS.fr e8 e10) ⟨by rw [ey]; exact hWl.1, fun k hk => by rw [f1.2.2 _ (by simp)]; exact hWl.2.1 k hk, hWl.2.2⟩ (fun l _ k _ => by unfold rrow; rw [e8]) (fun q _ => by rw [e8]) (fun q _ => by rw [e10]) (fun S hSl hSr => by
      have a1 := hR S hSl (fun l hl => by
        have := hSr l hl
        unfold rrow at this ⊢
        rw [e8] at this
        exact this)
      refine hSl.2.1 _ _ a1 (fun j => al_e_of ?_)
      by_cases hj : j < 126
      · rw [cu_1 hj, cu_1 hj, hall j hj, Int.sub_zero]
      · have zc : ∀ f : Nat → Int, cu f j = 0 := fun f => if_neg hj
        rw [zc, zc]; omega) (fun S hSl hSr _ l hl => by
      have := hSr l hl
      unfold rrow at this ⊢
      rw [e8]
      exact this)
    simp only [mf_M_insert, ca_M_insert, dc_M_insert_0, dc_M_insert_1, dc_M_insert_2, dc_M_insert_3, dc_M_insert_4, dc_M_insert_5, dc_M_insert_6, dc_M_insert_7, dc_M_insert_8, dc_M_insert_9, dc_M_insert_10, dc_M_insert_11, fl_M, sl_M, sg_M_reduce, sg_M_lead, sg_M_inverse, sg_M_rowAt, sg_M_mod, ra0, ra6, ra11, ra13, ra36, ra37, rb3, rb8, rb10, rb23, rb24, htop, mzr_iconst, mzr_bipush, mzr_sipush, mzr_lconst, mzr_iload, mzr_iload_n, mzr_aload, mzr_aload_n, mzr_lload, mzr_lload_n, mzr_istore, mzr_istore_n, mzr_astore, mzr_astore_n, mzr_lstore, mzr_lstore_n, mzr_iinc, mzr_iadd, mzr_isub, mzr_imul, mzr_iand, mzr_ior, mzr_ixor, mzr_ishl, mzr_ishr, mzr_iushr, mzr_idiv, mzr_irem, mzr_ineg, mzr_ladd, mzr_lsub, mzr_lmul, mzr_lrem, mzr_lcmp, mzr_i2l, mzr_l2i, mzr_i2b, mzr_dup, mzr_pop, mzr_dup2, mzr_ifCond_eq, mzr_if_icmp_eq, mzr_ifCond_ne, mzr_if_icmp_ne, mzr_ifCond_lt, mzr_if_icmp_lt, mzr_ifCond_ge, mzr_if_icmp_ge, mzr_ifCond_gt, mzr_if_icmp_gt, mzr_ifCond_le, mzr_if_icmp_le, mzr_goto, mzr_iaload, mzr_baload, mzr_laload, mzr_aaload, mzr_iastore, mzr_bastore, mzr_lastore, mzr_arraylength, mzr_getfield, mzr_putfield, mzr_getstatic, mzr_ldc, mzr_ldc_w, mzr_ldc2_w, mzr_ireturn, mzr_return_, mzr_copy, mzr_static, mzr_virtual, mzr_new, mz_tk, mz_dp, mz_ln, mz_sz, mz_af_v, mz_af_s, mz_wp_s, mz_w1, mz_g, mz_st, mz_k, mz_s2, mz_nx, mz_en, mx_to, mz_c1, ↓reduceIte, Nat.reduceAdd, Nat.reduceSub, Nat.reduceMul, Nat.reduceMod, Nat.reduceDiv, Nat.reduceEqDiff, Nat.reduceLeDiff, Nat.reduceLT, Int.reduceAdd, Int.reduceSub, Int.reduceNeg, Int.reduceMul, Int.reduceLE, Int.reduceLT, Int.reduceEq, Int.reduceToNat, Int.reduceNegSucc, Int.cast_ofNat_Int, Int32.reduceToInt, Int64.reduceToInt, Int.zero_add, Int.add_zero, Fin.isValue, Fin.val_zero, Fin.val_one, Fin.val_two, reduceCtorEq, or_false, false_or, or_true, true_or, or_self, and_true, true_and, and_self, not_true_eq_false, not_false_eq_true, implies_true, forall_const, List.mem_cons, List.not_mem_nil, false_implies, true_implies, imp_false, Nat.zero_add, Option.some.injEq, Prod.mk.injEq]
    repeat' first | omega | refine mz_it (fun hh => ?_) (fun hh => ?_) | refine And.intro ?_ ?_
    all_goals exact fin
  · obtain ⟨m, hm⟩ : ∃ m : Nat, sp_top w' N = m := ⟨(sp_top w' N).toNat, by omega⟩
    rw [hm] at htr ⊢
    have hmN : m < N := by omega
    have hwm : w' m ≠ 0 := (sp_top_n hm).2
    have hab : ∀ j, m < j → j < 126 → w' j = 0 := fun j h1 h2 => by
      by_cases hjN : j < N
      · exact sp_top_z hjN (by omega)
      · exact hwz' j (by omega) h2
    have hmW : m ∉ W := fun q => hwm (hz m hmN q)
    have hlen : W.length + 1 ≤ N := by
      have := nl_le (l := W ++ [m]) (N := N) (List.nodup_append.mpr ⟨hWl.2.2, by simp, fun a ha b hb => by
        rw [List.mem_singleton.mp hb]; rintro rfl; exact hmW ha⟩) (fun q hq => by
        rcases List.mem_append.mp hq with hq | hq
        · exact hS.2.1 q hq
        · rw [List.mem_singleton.mp hq]; exact hmN)
      rw [List.length_append] at this
      exact this
    have z1 := hv m (by omega)
    have br := hr m (by omega)
    simp only [mf_M_insert, ca_M_insert, dc_M_insert_0, dc_M_insert_1, dc_M_insert_2, dc_M_insert_3, dc_M_insert_4, dc_M_insert_5, dc_M_insert_6, dc_M_insert_7, dc_M_insert_8, dc_M_insert_9, dc_M_insert_10, dc_M_insert_11, fl_M, sl_M, sg_M_reduce, sg_M_lead, sg_M_inverse, sg_M_rowAt, sg_M_mod, ra0, ra6, ra11, ra13, ra36, ra37, rb3, rb8, rb10, rb23, rb24, z1, Int.toNat_natCast, mzr_iconst, mzr_bipush, mzr_sipush, mzr_lconst, mzr_iload, mzr_iload_n, mzr_aload, mzr_aload_n, mzr_lload, mzr_lload_n, mzr_istore, mzr_istore_n, mzr_astore, mzr_astore_n, mzr_lstore, mzr_lstore_n, mzr_iinc, mzr_iadd, mzr_isub, mzr_imul, mzr_iand, mzr_ior, mzr_ixor, mzr_ishl, mzr_ishr, mzr_iushr, mzr_idiv, mzr_irem, mzr_ineg, mzr_ladd, mzr_lsub, mzr_lmul, mzr_lrem, mzr_lcmp, mzr_i2l, mzr_l2i, mzr_i2b, mzr_dup, mzr_pop, mzr_dup2, mzr_ifCond_eq, mzr_if_icmp_eq, mzr_ifCond_ne, mzr_if_icmp_ne, mzr_ifCond_lt, mzr_if_icmp_lt, mzr_ifCond_ge, mzr_if_icmp_ge, mzr_ifCond_gt, mzr_if_icmp_gt, mzr_ifCond_le, mzr_if_icmp_le, mzr_goto, mzr_iaload, mzr_baload, mzr_laload, mzr_aaload, mzr_iastore, mzr_bastore, mzr_lastore, mzr_arraylength, mzr_getfield, mzr_putfield, mzr_getstatic, mzr_ldc, mzr_ldc_w, mzr_ldc2_w, mzr_ireturn, mzr_return_, mzr_copy, mzr_static, mzr_virtual, mzr_new, mz_tk, mz_dp, mz_ln, mz_sz, mz_af_v, mz_af_s, mz_wp_s, mz_w1, mz_g, mz_st, mz_k, mz_s2, mz_nx, mz_en, mx_to, mz_c1, ↓reduceIte, Nat.reduceAdd, Nat.reduceSub, Nat.reduceMul, Nat.reduceMod, Nat.reduceDiv, Nat.reduceEqDiff, Nat.reduceLeDiff, Nat.reduceLT, Int.reduceAdd, Int.reduceSub, Int.reduceNeg, Int.reduceMul, Int.reduceLE, Int.reduceLT, Int.reduceEq, Int.reduceToNat, Int.reduceNegSucc, Int.cast_ofNat_Int, Int32.reduceToInt, Int64.reduceToInt, Int.zero_add, Int.add_zero, Fin.isValue, Fin.val_zero, Fin.val_one, Fin.val_two, reduceCtorEq, or_false, false_or, or_true, true_or, or_self, and_true, true_and, and_self, not_true_eq_false, not_false_eq_true, implies_true, forall_const, List.mem_cons, List.not_mem_nil, false_implies, true_implies, imp_false, Nat.zero_add, Option.some.injEq, Prod.mk.injEq]
    repeat' first | omega | refine mz_it (fun hh => ?_) (fun hh => ?_) | refine And.intro ?_ ?_
    refine cm_inverse d hG hE' (by rw [ey]; exact hp) hp2 br ?_
    generalize hiv : w' m ^ (p - 2).toNat % p = iv
    have hive := al_iv hp2.1 hpr br.1 br.2 hwm hiv.symm
    have iv0 : 0 ≤ iv := by rw [← hiv]; exact Int.emod_nonneg _ (by omega)
    have iv1 : iv < p := by rw [← hiv]; exact Int.emod_lt_of_pos _ (by omega)
    simp only [mf_M_insert, ca_M_insert, dc_M_insert_0, dc_M_insert_1, dc_M_insert_2, dc_M_insert_3, dc_M_insert_4, dc_M_insert_5, dc_M_insert_6, dc_M_insert_7, dc_M_insert_8, dc_M_insert_9, dc_M_insert_10, dc_M_insert_11, fl_M, sl_M, sg_M_reduce, sg_M_lead, sg_M_inverse, sg_M_rowAt, sg_M_mod, ra0, ra6, ra11, ra13, ra36, ra37, rb3, rb8, rb10, rb23, rb24, mzr_iconst, mzr_bipush, mzr_sipush, mzr_lconst, mzr_iload, mzr_iload_n, mzr_aload, mzr_aload_n, mzr_lload, mzr_lload_n, mzr_istore, mzr_istore_n, mzr_astore, mzr_astore_n, mzr_lstore, mzr_lstore_n, mzr_iinc, mzr_iadd, mzr_isub, mzr_imul, mzr_iand, mzr_ior, mzr_ixor, mzr_ishl, mzr_ishr, mzr_iushr, mzr_idiv, mzr_irem, mzr_ineg, mzr_ladd, mzr_lsub, mzr_lmul, mzr_lrem, mzr_lcmp, mzr_i2l, mzr_l2i, mzr_i2b, mzr_dup, mzr_pop, mzr_dup2, mzr_ifCond_eq, mzr_if_icmp_eq, mzr_ifCond_ne, mzr_if_icmp_ne, mzr_ifCond_lt, mzr_if_icmp_lt, mzr_ifCond_ge, mzr_if_icmp_ge, mzr_ifCond_gt, mzr_if_icmp_gt, mzr_ifCond_le, mzr_if_icmp_le, mzr_goto, mzr_iaload, mzr_baload, mzr_laload, mzr_aaload, mzr_iastore, mzr_bastore, mzr_lastore, mzr_arraylength, mzr_getfield, mzr_putfield, mzr_getstatic, mzr_ldc, mzr_ldc_w, mzr_ldc2_w, mzr_ireturn, mzr_return_, mzr_copy, mzr_static, mzr_virtual, mzr_new, mz_tk, mz_dp, mz_ln, mz_sz, mz_af_v, mz_af_s, mz_wp_s, mz_w1, mz_g, mz_st, mz_k, mz_s2, mz_nx, mz_en, mx_to, mz_c1, ↓reduceIte, Nat.reduceAdd, Nat.reduceSub, Nat.reduceMul, Nat.reduceMod, Nat.reduceDiv, Nat.reduceEqDiff, Nat.reduceLeDiff, Nat.reduceLT, Int.reduceAdd, Int.reduceSub, Int.reduceNeg, Int.reduceMul, Int.reduceLE, Int.reduceLT, Int.reduceEq, Int.reduceToNat, Int.reduceNegSucc, Int.cast_ofNat_Int, Int32.reduceToInt, Int64.reduceToInt, Int.zero_add, Int.add_zero, Fin.isValue, Fin.val_zero, Fin.val_one, Fin.val_two, reduceCtorEq, or_false, false_or, or_true, true_or, or_self, and_true, true_and, and_self, not_true_eq_false, not_false_eq_true, implies_true, forall_const, List.mem_cons, List.not_mem_nil, false_implies, true_implies, imp_false, Nat.zero_add, Option.some.injEq, Prod.mk.injEq]
    repeat' first | omega | refine mz_it (fun hh => ?_) (fun hh => ?_) | refine And.intro ?_ ?_
    refine cm_rowAt (i := i) (m := m) (d + 1) hG hi (by omega) ?_
    have lp : ∀ (c k : Nat) (h' : mz_H), k + c = 126 → mz_fr h h' [y + 8] → (∀ q, h'.2.1 (y + 8) q = if 126 * (126 * i + m) ≤ q ∧ q < 126 * (126 * i + m) + k then (iv * w' (q - 126 * (126 * i + m))) % p else h.2.1 (y + 8) q) → mz_V e (d + 2) mm_M_insert 65 [some (.inr (.inl y)), some (.inl (i : Int)), some (.inl ((N : Int) - 1)), some (.inl (m : Int)), some (.inl iv), some (.inl ((126 * (126 * i + m) : Nat) : Int)), some (.inl (k : Int))] [] h' P := by
      intro c
      induction c with
      | zero =>
        intro k h' h1 g1 g2
        obtain rfl : k = 126 := by omega
        have y38 : h'.2.1 y 38 = W.length := by rw [g1.2.2 y (by simp), ey]; exact hWl.1
        have i1 : (126 : Int) * (i : Int) + (m : Int) = ((126 * i + m : Nat) : Int) := by omega
        have i2 : (W.length : Int) + 1 = ((W.length + 1 : Nat) : Int) := by omega
        have w38 : (mz_w (mz_w h' (y + 10) (126 * i + m) 1) (y + 24) W.length (m : Int)).2.1 y 38 = W.length := by rw [mz_w_g, if_neg (by omega), mz_w_g, if_neg (by omega)]; exact y38
        have v38 : (mz_w h' (y + 10) (126 * i + m) 1).2.1 y 38 = W.length := by rw [mz_w_g, if_neg (by omega)]; exact y38
        generalize hgg : mz_w (mz_w (mz_w h' (y + 10) (126 * i + m) 1) (y + 24) W.length (m : Int)) y 38 ((W.length + 1 : Nat) : Int) = h2
        have g3 : mz_fr h' h2 [y, y + 10, y + 24] := by rw [← hgg]; exact ((mz_fr.w _ _ _ _ (by simp)).tr (mz_fr.w _ _ _ _ (by simp))).tr (mz_fr.w _ _ _ _ (by simp))
        have k8 : h2.2.1 (y + 8) = h'.2.1 (y + 8) := g3.2.2 _ (by simp)
        have k10 : ∀ q, h2.2.1 (y + 10) q = if q = 126 * i + m then 1 else H.2.1 (y + 10) q := fun q => by
          rw [← hgg, mz_w_g, if_neg (by omega), mz_w_g, if_neg (by omega), mz_w_g]
          by_cases hq : q = 126 * i + m
          · rw [if_pos ⟨rfl, hq⟩, if_pos hq]
          · rw [if_neg (fun z => hq z.2), if_neg hq, g1.2.2 _ (by simp), e10]
        have k24 : ∀ q, h2.2.1 (y + 24) q = if q = W.length then (m : Int) else H.2.1 (y + 24) q := fun q => by
          rw [← hgg, mz_w_g, if_neg (by omega), mz_w_g]
          by_cases hq : q = W.length
          · rw [if_pos ⟨rfl, hq⟩, if_pos hq]
          · rw [if_neg (fun z => hq z.2), if_neg hq, mz_w_g, if_neg (by omega), g1.2.2 _ (by simp), f1.2.2 _ (by simp)]
        have ky : ∀ k, k ≠ 38 → h2.2.1 y k = H.2.1 y k := fun k hk => by
          rw [← hgg, mz_w_g, if_neg (by omega), mz_w_g, if_neg (by omega), mz_w_g, if_neg (by omega), g1.2.2 y (by simp), ey]
        have ky38 : h2.2.1 y 38 = ((W.length + 1 : Nat) : Int) := by rw [← hgg, mz_w_g, if_pos ⟨rfl, rfl⟩]
        have krm : ∀ k, k < 126 → rrow h2 y i m k = iv * w' k % p := fun k hk => by
          show h2.2.1 (y + 8) _ = _
          rw [k8, g2, if_pos (by omega), show 126 * (126 * i + m) + k - 126 * (126 * i + m) = k by omega]
        have kro : ∀ l, l ≠ m → l < 126 → ∀ k, k < 126 → rrow h2 y i l k = rrow H y i l k := fun l hl hl2 k hk => by
          show h2.2.1 (y + 8) _ = H.2.1 (y + 8) _
          rw [k8, g2, if_neg (by omega), e8]
        have hWb : ∀ l, l ∈ W → l ≠ m ∧ l < 126 := fun l hl => ⟨fun q => hmW (q ▸ hl), by have := hS.2.1 l hl; omega⟩
        have krow : ∀ l, l ∈ W → cu (rrow h2 y i l) = cu (rrow H y i l) := fun l hl => cu_c (fun k hk => kro l (hWb l hl).1 (hWb l hl).2 k hk)
        have kz : ∀ j, 126 ≤ j → ∀ f : Nat → Int, cu f j = 0 := fun j hj f => if_neg (by omega)
        have knew : ∀ j, al_e p (cu (rrow h2 y i m) j) (iv * cu w' j) := fun j => by
          by_cases hj : j < 126
          · rw [cu_1 hj, cu_1 hj, krm j hj]; exact al_e_q _ _
          · rw [kz j (by omega), kz j (by omega)]; exact al_e_of (by omega)
        have fin := hP h2 (W ++ [m]) ⟨[m], rfl⟩ (((f1.mono (by intro c hc; simp at hc ⊢; omega)).tr (g1.mono (by intro c hc; simp at hc ⊢; omega))).tr (g3.mono (by intro c hc; simp at hc ⊢; omega))) ky ⟨fun q hq => by
            rw [k10]
            by_cases hqm : q = m
            · rw [if_pos (by omega), hqm]; exact Or.inl ⟨rfl, by simp⟩
            · rw [if_neg (by omega)]
              rcases hS.1 q hq with ⟨a1, a2⟩ | ⟨a1, a2⟩
              · exact Or.inl ⟨a1, List.mem_append_left _ a2⟩
              · exact Or.inr ⟨a1, fun z => by
                  rcases List.mem_append.mp z with z | z
                  · exact a2 z
                  · exact hqm (List.mem_singleton.mp z)⟩, fun q hq => by
            rcases List.mem_append.mp hq with hq | hq
            · exact hS.2.1 q hq
            · rw [List.mem_singleton.mp hq]; exact hmN, fun q hq => by
            rcases List.mem_append.mp hq with hq | hq
            · obtain ⟨a1, a2, a3⟩ := hS.2.2 q hq
              have hb := hWb q hq
              exact ⟨fun k hk => by rw [kro q hb.1 hb.2 k hk]; exact a1 k hk, by rw [kro q hb.1 hb.2 q hb.2]; exact a2, fun k k1 k2 => by rw [kro q hb.1 hb.2 k k2]; exact a3 k k1 k2⟩
            · rw [List.mem_singleton.mp hq]
              refine ⟨fun k hk => by rw [krm k hk]; exact ⟨Int.emod_nonneg _ (by omega), Int.emod_lt_of_pos _ (by omega)⟩, ?_, fun k k1 k2 => by rw [krm k k2, hab k k1 k2, Int.mul_zero, Int.zero_emod]⟩
              rw [krm m (by omega)]
              exact (al_e_i.mp hive).trans (Int.emod_eq_of_lt (by omega) (by omega))⟩ ⟨by rw [ky38, List.length_append]; rfl, fun k hk => by
            rw [List.length_append] at hk
            replace hk : k < W.length + 1 := hk
            rw [k24]
            by_cases hkl : k = W.length
            · rw [if_pos hkl, hkl, List.getElem?_append_right (Nat.le_refl _)]; simp
            · rw [if_neg hkl, List.getElem?_append_left (by omega)]; exact hWl.2.1 k (by omega), List.nodup_append.mpr ⟨hWl.2.2, by simp, fun a ha b hb => by
            rw [List.mem_singleton.mp hb]; rintro rfl; exact hmW ha⟩⟩ (fun l hl k hk => kro l (hWb l hl).1 (hWb l hl).2 k hk) (fun q hq => by rw [k8, g2, if_neg (by omega), e8]) (fun q hq => by rw [k10, if_neg (by omega)]) (fun S hSl hSr => by
            have a1 := hR S hSl (fun l hl => by
              have : S (cu (rrow h2 y i l)) := hSr l (List.mem_append_left _ hl)
              rw [krow l hl] at this
              exact this)
            have a2 := hSr m (by simp)
            refine hSl.2.1 _ _ (hSl.2.2 _ _ (w' m) a1 a2) (fun j => ?_)
            have b1 := al_e_m (al_e_r p (w' m)) (knew j)
            have b2 : al_e p (w' m * (iv * cu w' j)) (cu w' j) := by
              rw [← Int.mul_assoc, Int.mul_comm (w' m) iv]
              exact al_e_t (al_e_m hive (al_e_r _ _)) (al_e_of (Int.one_mul _))
            exact al_e_s (al_e_t (al_e_a (al_e_r p (cu w j - cu w' j)) (al_e_t b1 b2)) (al_e_of (by omega)))) (fun S hSl hSr hSw l hl => by
            rcases List.mem_append.mp hl with hl | hl
            · rw [krow l hl]; exact hSr l hl
            · rw [List.mem_singleton.mp hl]
              have a1 := hR S hSl hSr
              have a2 := al_L_d hSl hSw a1
              exact hSl.2.1 _ _ (al_L_m hSl iv a2) (fun j => al_e_t (knew j) (al_e_of (by
                show iv * cu w' j = iv * (cu w j - (cu w j - cu w' j))
                rw [show cu w j - (cu w j - cu w' j) = cu w' j by omega]))))
        apply mz_go hG 60 [65]
        simp only [mf_M_insert, ca_M_insert, dc_M_insert_0, dc_M_insert_1, dc_M_insert_2, dc_M_insert_3, dc_M_insert_4, dc_M_insert_5, dc_M_insert_6, dc_M_insert_7, dc_M_insert_8, dc_M_insert_9, dc_M_insert_10, dc_M_insert_11, fl_M, sl_M, sg_M_reduce, sg_M_lead, sg_M_inverse, sg_M_rowAt, sg_M_mod, ra0, ra6, ra11, ra13, ra36, ra37, rb3, rb8, rb10, rb23, rb24, i1, v38, w38, i2, Int.toNat_natCast, mzr_iconst, mzr_bipush, mzr_sipush, mzr_lconst, mzr_iload, mzr_iload_n, mzr_aload, mzr_aload_n, mzr_lload, mzr_lload_n, mzr_istore, mzr_istore_n, mzr_astore, mzr_astore_n, mzr_lstore, mzr_lstore_n, mzr_iinc, mzr_iadd, mzr_isub, mzr_imul, mzr_iand, mzr_ior, mzr_ixor, mzr_ishl, mzr_ishr, mzr_iushr, mzr_idiv, mzr_irem, mzr_ineg, mzr_ladd, mzr_lsub, mzr_lmul, mzr_lrem, mzr_lcmp, mzr_i2l, mzr_l2i, mzr_i2b, mzr_dup, mzr_pop, mzr_dup2, mzr_ifCond_eq, mzr_if_icmp_eq, mzr_ifCond_ne, mzr_if_icmp_ne, mzr_ifCond_lt, mzr_if_icmp_lt, mzr_ifCond_ge, mzr_if_icmp_ge, mzr_ifCond_gt, mzr_if_icmp_gt, mzr_ifCond_le, mzr_if_icmp_le, mzr_goto, mzr_iaload, mzr_baload, mzr_laload, mzr_aaload, mzr_iastore, mzr_bastore, mzr_lastore, mzr_arraylength, mzr_getfield, mzr_putfield, mzr_getstatic, mzr_ldc, mzr_ldc_w, mzr_ldc2_w, mzr_ireturn, mzr_return_, mzr_copy, mzr_static, mzr_virtual, mzr_new, mz_tk, mz_dp, mz_ln, mz_sz, mz_af_v, mz_af_s, mz_wp_s, mz_w1, mz_g, mz_st, mz_k, mz_s2, mz_nx, mz_en, mx_to, mz_c1, ↓reduceIte, Nat.reduceAdd, Nat.reduceSub, Nat.reduceMul, Nat.reduceMod, Nat.reduceDiv, Nat.reduceEqDiff, Nat.reduceLeDiff, Nat.reduceLT, Int.reduceAdd, Int.reduceSub, Int.reduceNeg, Int.reduceMul, Int.reduceLE, Int.reduceLT, Int.reduceEq, Int.reduceToNat, Int.reduceNegSucc, Int.cast_ofNat_Int, Int32.reduceToInt, Int64.reduceToInt, Int.zero_add, Int.add_zero, Fin.isValue, Fin.val_zero, Fin.val_one, Fin.val_two, reduceCtorEq, or_false, false_or, or_true, true_or, or_self, and_true, true_and, and_self, not_true_eq_false, not_false_eq_true, implies_true, forall_const, List.mem_cons, List.not_mem_nil, false_implies, true_implies, imp_false, Nat.zero_add, Option.some.injEq, Prod.mk.injEq]
        repeat' first | omega | refine mz_it (fun hh => ?_) (fun hh => ?_) | refine And.intro ?_ ?_
        all_goals rw [hgg]
        all_goals exact fin
      | succ c ih =>
        intro k h' h1 g1 g2
        have i2 : ((126 * (126 * i + m) : Nat) : Int) + (k : Int) = ((126 * (126 * i + m) + k : Nat) : Int) := by omega
        have e39' : h'.2.1 y 39 = t := by rw [g1.2.2 y (by simp)]; exact e39
        have eN' : h'.2.1 (y + 3) t = N := by rw [g1.2.2 _ (by simp)]; exact eN
        have z2 : h'.2.1 (y + 23) k = w' k := by rw [g1.2.2 _ (by simp)]; exact hv k (by omega)
        have nxt : ∀ b : Int, b = (iv * w' k) % p → mz_V e (d + 2) mm_M_insert 65 [some (.inr (.inl y)), some (.inl (i : Int)), some (.inl ((N : Int) - 1)), some (.inl (m : Int)), some (.inl iv), some (.inl ((126 * (126 * i + m) : Nat) : Int)), some (.inl ((k + 1 : Nat) : Int))] [] (mz_w h' (y + 8) (126 * (126 * i + m) + k) b) P := by
          intro b hb
          refine ih (k + 1) _ (by omega) (g1.tr (mz_fr.w _ _ _ _ (by simp))) (fun q => ?_)
          rw [mz_w_g]
          by_cases hq : q = 126 * (126 * i + m) + k
          · rw [if_pos ⟨rfl, hq⟩, if_pos (by omega), hb, hq, show 126 * (126 * i + m) + k - 126 * (126 * i + m) = k by omega]
          · rw [if_neg (fun z => hq z.2), g2 q]
            by_cases hc : 126 * (126 * i + m) ≤ q ∧ q < 126 * (126 * i + m) + k
            · rw [if_pos hc, if_pos (by omega)]
            · rw [if_neg hc, if_neg (by omega)]
        by_cases hkN : k < N
        · have b1 := hr k (by omega)
          have b4 : 0 ≤ iv * w' k := Int.mul_nonneg iv0 b1.1
          have b5 : iv * w' k ≤ 32767 * 32767 := Int.mul_le_mul (by omega) (by omega) b1.1 (by omega)
          apply mz_go hG 60 [65]
          simp only [mf_M_insert, ca_M_insert, dc_M_insert_0, dc_M_insert_1, dc_M_insert_2, dc_M_insert_3, dc_M_insert_4, dc_M_insert_5, dc_M_insert_6, dc_M_insert_7, dc_M_insert_8, dc_M_insert_9, dc_M_insert_10, dc_M_insert_11, fl_M, sl_M, sg_M_reduce, sg_M_lead, sg_M_inverse, sg_M_rowAt, sg_M_mod, ra0, ra6, ra11, ra13, ra36, ra37, rb3, rb8, rb10, rb23, rb24, e39', eN', z2, i2, Int.toNat_natCast, mzr_iconst, mzr_bipush, mzr_sipush, mzr_lconst, mzr_iload, mzr_iload_n, mzr_aload, mzr_aload_n, mzr_lload, mzr_lload_n, mzr_istore, mzr_istore_n, mzr_astore, mzr_astore_n, mzr_lstore, mzr_lstore_n, mzr_iinc, mzr_iadd, mzr_isub, mzr_imul, mzr_iand, mzr_ior, mzr_ixor, mzr_ishl, mzr_ishr, mzr_iushr, mzr_idiv, mzr_irem, mzr_ineg, mzr_ladd, mzr_lsub, mzr_lmul, mzr_lrem, mzr_lcmp, mzr_i2l, mzr_l2i, mzr_i2b, mzr_dup, mzr_pop, mzr_dup2, mzr_ifCond_eq, mzr_if_icmp_eq, mzr_ifCond_ne, mzr_if_icmp_ne, mzr_ifCond_lt, mzr_if_icmp_lt, mzr_ifCond_ge, mzr_if_icmp_ge, mzr_ifCond_gt, mzr_if_icmp_gt, mzr_ifCond_le, mzr_if_icmp_le, mzr_goto, mzr_iaload, mzr_baload, mzr_laload, mzr_aaload, mzr_iastore, mzr_bastore, mzr_lastore, mzr_arraylength, mzr_getfield, mzr_putfield, mzr_getstatic, mzr_ldc, mzr_ldc_w, mzr_ldc2_w, mzr_ireturn, mzr_return_, mzr_copy, mzr_static, mzr_virtual, mzr_new, mz_tk, mz_dp, mz_ln, mz_sz, mz_af_v, mz_af_s, mz_wp_s, mz_w1, mz_g, mz_st, mz_k, mz_s2, mz_nx, mz_en, mx_to, mz_c1, ↓reduceIte, Nat.reduceAdd, Nat.reduceSub, Nat.reduceMul, Nat.reduceMod, Nat.reduceDiv, Nat.reduceEqDiff, Nat.reduceLeDiff, Nat.reduceLT, Int.reduceAdd, Int.reduceSub, Int.reduceNeg, Int.reduceMul, Int.reduceLE, Int.reduceLT, Int.reduceEq, Int.reduceToNat, Int.reduceNegSucc, Int.cast_ofNat_Int, Int32.reduceToInt, Int64.reduceToInt, Int.zero_add, Int.add_zero, Fin.isValue, Fin.val_zero, Fin.val_one, Fin.val_two, reduceCtorEq, or_false, false_or, or_true, true_or, or_self, and_true, true_and, and_self, not_true_eq_false, not_false_eq_true, implies_true, forall_const, List.mem_cons, List.not_mem_nil, false_implies, true_implies, imp_false, Nat.zero_add, Option.some.injEq, Prod.mk.injEq]
          repeat' first | omega | refine mz_it (fun hh => ?_) (fun hh => ?_) | refine And.intro ?_ ?_
          refine cm_mod (d + 1) hG hE' (by rw [g1.2.2 y (by simp), ey]; exact hp) hp2 ?_
          have hx := nxt _ rfl
          simp only [mf_M_insert, ca_M_insert, dc_M_insert_0, dc_M_insert_1, dc_M_insert_2, dc_M_insert_3, dc_M_insert_4, dc_M_insert_5, dc_M_insert_6, dc_M_insert_7, dc_M_insert_8, dc_M_insert_9, dc_M_insert_10, dc_M_insert_11, fl_M, sl_M, sg_M_reduce, sg_M_lead, sg_M_inverse, sg_M_rowAt, sg_M_mod, ra0, ra6, ra11, ra13, ra36, ra37, rb3, rb8, rb10, rb23, rb24, Int.toNat_natCast, mzr_iconst, mzr_bipush, mzr_sipush, mzr_lconst, mzr_iload, mzr_iload_n, mzr_aload, mzr_aload_n, mzr_lload, mzr_lload_n, mzr_istore, mzr_istore_n, mzr_astore, mzr_astore_n, mzr_lstore, mzr_lstore_n, mzr_iinc, mzr_iadd, mzr_isub, mzr_imul, mzr_iand, mzr_ior, mzr_ixor, mzr_ishl, mzr_ishr, mzr_iushr, mzr_idiv, mzr_irem, mzr_ineg, mzr_ladd, mzr_lsub, mzr_lmul, mzr_lrem, mzr_lcmp, mzr_i2l, mzr_l2i, mzr_i2b, mzr_dup, mzr_pop, mzr_dup2, mzr_ifCond_eq, mzr_if_icmp_eq, mzr_ifCond_ne, mzr_if_icmp_ne, mzr_ifCond_lt, mzr_if_icmp_lt, mzr_ifCond_ge, mzr_if_icmp_ge, mzr_ifCond_gt, mzr_if_icmp_gt, mzr_ifCond_le, mzr_if_icmp_le, mzr_goto, mzr_iaload, mzr_baload, mzr_laload, mzr_aaload, mzr_iastore, mzr_bastore, mzr_lastore, mzr_arraylength, mzr_getfield, mzr_putfield, mzr_getstatic, mzr_ldc, mzr_ldc_w, mzr_ldc2_w, mzr_ireturn, mzr_return_, mzr_copy, mzr_static, mzr_virtual, mzr_new, mz_tk, mz_dp, mz_ln, mz_sz, mz_af_v, mz_af_s, mz_wp_s, mz_w1, mz_g, mz_st, mz_k, mz_s2, mz_nx, mz_en, mx_to, mz_c1, ↓reduceIte, Nat.reduceAdd, Nat.reduceSub, Nat.reduceMul, Nat.reduceMod, Nat.reduceDiv, Nat.reduceEqDiff, Nat.reduceLeDiff, Nat.reduceLT, Int.reduceAdd, Int.reduceSub, Int.reduceNeg, Int.reduceMul, Int.reduceLE, Int.reduceLT, Int.reduceEq, Int.reduceToNat, Int.reduceNegSucc, Int.cast_ofNat_Int, Int32.reduceToInt, Int64.reduceToInt, Int.zero_add, Int.add_zero, Fin.isValue, Fin.val_zero, Fin.val_one, Fin.val_two, reduceCtorEq, or_false, false_or, or_true, true_or, or_self, and_true, true_and, and_self, not_true_eq_false, not_false_eq_true, implies_true, forall_const, List.mem_cons, List.not_mem_nil, false_implies, true_implies, imp_false, Nat.zero_add, Option.some.injEq, Prod.mk.injEq]
          repeat' first | omega | refine mz_it (fun hh => ?_) (fun hh => ?_) | refine And.intro ?_ ?_
          all_goals exact hx
        · have hx := nxt 0 (by rw [hwz' k (by omega) (by omega), Int.mul_zero, Int.zero_emod])
          apply mz_go hG 60 [65]
          simp only [mf_M_insert, ca_M_insert, dc_M_insert_0, dc_M_insert_1, dc_M_insert_2, dc_M_insert_3, dc_M_insert_4, dc_M_insert_5, dc_M_insert_6, dc_M_insert_7, dc_M_insert_8, dc_M_insert_9, dc_M_insert_10, dc_M_insert_11, fl_M, sl_M, sg_M_reduce, sg_M_lead, sg_M_inverse, sg_M_rowAt, sg_M_mod, ra0, ra6, ra11, ra13, ra36, ra37, rb3, rb8, rb10, rb23, rb24, e39', eN', z2, i2, Int.toNat_natCast, mzr_iconst, mzr_bipush, mzr_sipush, mzr_lconst, mzr_iload, mzr_iload_n, mzr_aload, mzr_aload_n, mzr_lload, mzr_lload_n, mzr_istore, mzr_istore_n, mzr_astore, mzr_astore_n, mzr_lstore, mzr_lstore_n, mzr_iinc, mzr_iadd, mzr_isub, mzr_imul, mzr_iand, mzr_ior, mzr_ixor, mzr_ishl, mzr_ishr, mzr_iushr, mzr_idiv, mzr_irem, mzr_ineg, mzr_ladd, mzr_lsub, mzr_lmul, mzr_lrem, mzr_lcmp, mzr_i2l, mzr_l2i, mzr_i2b, mzr_dup, mzr_pop, mzr_dup2, mzr_ifCond_eq, mzr_if_icmp_eq, mzr_ifCond_ne, mzr_if_icmp_ne, mzr_ifCond_lt, mzr_if_icmp_lt, mzr_ifCond_ge, mzr_if_icmp_ge, mzr_ifCond_gt, mzr_if_icmp_gt, mzr_ifCond_le, mzr_if_icmp_le, mzr_goto, mzr_iaload, mzr_baload, mzr_laload, mzr_aaload, mzr_iastore, mzr_bastore, mzr_lastore, mzr_arraylength, mzr_getfield, mzr_putfield, mzr_getstatic, mzr_ldc, mzr_ldc_w, mzr_ldc2_w, mzr_ireturn, mzr_return_, mzr_copy, mzr_static, mzr_virtual, mzr_new, mz_tk, mz_dp, mz_ln, mz_sz, mz_af_v, mz_af_s, mz_wp_s, mz_w1, mz_g, mz_st, mz_k, mz_s2, mz_nx, mz_en, mx_to, mz_c1, ↓reduceIte, Nat.reduceAdd, Nat.reduceSub, Nat.reduceMul, Nat.reduceMod, Nat.reduceDiv, Nat.reduceEqDiff, Nat.reduceLeDiff, Nat.reduceLT, Int.reduceAdd, Int.reduceSub, Int.reduceNeg, Int.reduceMul, Int.reduceLE, Int.reduceLT, Int.reduceEq, Int.reduceToNat, Int.reduceNegSucc, Int.cast_ofNat_Int, Int32.reduceToInt, Int64.reduceToInt, Int.zero_add, Int.add_zero, Fin.isValue, Fin.val_zero, Fin.val_one, Fin.val_two, reduceCtorEq, or_false, false_or, or_true, true_or, or_self, and_true, true_and, and_self, not_true_eq_false, not_false_eq_true, implies_true, forall_const, List.mem_cons, List.not_mem_nil, false_implies, true_implies, imp_false, Nat.zero_add, Option.some.injEq, Prod.mk.injEq]
          repeat' first | omega | refine mz_it (fun hh => ?_) (fun hh => ?_) | refine And.intro ?_ ?_
          all_goals exact hx
    have hx := lp 126 0 h (by omega) (mz_fr.refl _ _) (fun q => by rw [if_neg (by omega)])
    simp only [mf_M_insert, ca_M_insert, dc_M_insert_0, dc_M_insert_1, dc_M_insert_2, dc_M_insert_3, dc_M_insert_4, dc_M_insert_5, dc_M_insert_6, dc_M_insert_7, dc_M_insert_8, dc_M_insert_9, dc_M_insert_10, dc_M_insert_11, fl_M, sl_M, sg_M_reduce, sg_M_lead, sg_M_inverse, sg_M_rowAt, sg_M_mod, ra0, ra6, ra11, ra13, ra36, ra37, rb3, rb8, rb10, rb23, rb24, mzr_iconst, mzr_bipush, mzr_sipush, mzr_lconst, mzr_iload, mzr_iload_n, mzr_aload, mzr_aload_n, mzr_lload, mzr_lload_n, mzr_istore, mzr_istore_n, mzr_astore, mzr_astore_n, mzr_lstore, mzr_lstore_n, mzr_iinc, mzr_iadd, mzr_isub, mzr_imul, mzr_iand, mzr_ior, mzr_ixor, mzr_ishl, mzr_ishr, mzr_iushr, mzr_idiv, mzr_irem, mzr_ineg, mzr_ladd, mzr_lsub, mzr_lmul, mzr_lrem, mzr_lcmp, mzr_i2l, mzr_l2i, mzr_i2b, mzr_dup, mzr_pop, mzr_dup2, mzr_ifCond_eq, mzr_if_icmp_eq, mzr_ifCond_ne, mzr_if_icmp_ne, mzr_ifCond_lt, mzr_if_icmp_lt, mzr_ifCond_ge, mzr_if_icmp_ge, mzr_ifCond_gt, mzr_if_icmp_gt, mzr_ifCond_le, mzr_if_icmp_le, mzr_goto, mzr_iaload, mzr_baload, mzr_laload, mzr_aaload, mzr_iastore, mzr_bastore, mzr_lastore, mzr_arraylength, mzr_getfield, mzr_putfield, mzr_getstatic, mzr_ldc, mzr_ldc_w, mzr_ldc2_w, mzr_ireturn, mzr_return_, mzr_copy, mzr_static, mzr_virtual, mzr_new, mz_tk, mz_dp, mz_ln, mz_sz, mz_af_v, mz_af_s, mz_wp_s, mz_w1, mz_g, mz_st, mz_k, mz_s2, mz_nx, mz_en, mx_to, mz_c1, ↓reduceIte, Nat.reduceAdd, Nat.reduceSub, Nat.reduceMul, Nat.reduceMod, Nat.reduceDiv, Nat.reduceEqDiff, Nat.reduceLeDiff, Nat.reduceLT, Int.reduceAdd, Int.reduceSub, Int.reduceNeg, Int.reduceMul, Int.reduceLE, Int.reduceLT, Int.reduceEq, Int.reduceToNat, Int.reduceNegSucc, Int.cast_ofNat_Int, Int32.reduceToInt, Int64.reduceToInt, Int.zero_add, Int.add_zero, Fin.isValue, Fin.val_zero, Fin.val_one, Fin.val_two, reduceCtorEq, or_false, false_or, or_true, true_or, or_self, and_true, true_and, and_self, not_true_eq_false, not_false_eq_true, implies_true, forall_const, List.mem_cons, List.not_mem_nil, false_implies, true_implies, imp_false, Nat.zero_add, Option.some.injEq, Prod.mk.injEq]
    repeat' first | omega | refine mz_it (fun hh => ?_) (fun hh => ?_) | refine And.intro ?_ ?_
    all_goals exact hx
end RINS
