/- the law's loop -/
theorem lI_up {e : mz_E} {x y b N : Nat} {B : Nat → Int} {H : mz_H} (h : lI e x y b B N H) : lI e x y b B (N + 1) H := by
  obtain ⟨p, n, o, a, g, t, l, v, X, z, iS, rS, hv, hT, hJ⟩ := h
  exact ⟨p, n, o, a, g, t, l, v, X, z, iS, rS, by omega, hT, by have := hJ.1; omega, hJ.2⟩
section LOOP
variable {e : mz_E} {x y w b L : Nat} {B : Nat → Int} {P : mz_O → mz_H → Prop}
set_option maxRecDepth 100000 in
theorem lp_next (D : Nat) {N : Nat} {i : Int} {H : mz_H} {u5 u6 : Option mz_W} (hG : mx_G e.1) (hE : lE e x y w b L) (hI : lI e x y b B N H) (hN : N ≤ 600) (hi : i = 6 * (N : Int)) (hL : i + 6 ≤ (L : Int)) (hB : ∀ j, mz_in (B j)) (K : ∀ H' v5 v6, lI e x y b B (N + 1) H' → mz_V e (D + 100) mm_law 1611 [some (.inr (.inl b)), some (.inr (.inl x)), some (.inr (.inl y)), some (.inr (.inl w)), some (.inl i), v5, v6] [] H' P) (s : Int) : mz_V e (D + 100) mm_law 40 [some (.inr (.inl b)), some (.inr (.inl x)), some (.inr (.inl y)), some (.inr (.inl w)), some (.inl i), u5, u6] [.inl s] H P := by
  have hd := dc_law_3.1
  rw [← ca_law] at hd
  refine mz_V1 hG (K := fun pc L st H => mz_V e (D + 100) mm_law pc L st H P) (fun _ _ _ _ h => h) hd ?_
  refine ⟨fun hs => ⟨by omega, K _ _ _ (lI_up hI)⟩, fun hs => ?_⟩
  obtain ⟨c, hc⟩ : ∃ c : Nat, s = c := ⟨s.toNat, by omega⟩
  subst hc
  have hc : c < 27 := by omega
  clear hs
  obtain rfl | rfl | rfl | rfl | rfl | rfl | rfl | rfl | rfl | rfl | rfl | rfl | rfl | rfl | rfl | rfl | rfl | rfl | rfl | rfl | rfl | rfl | rfl | rfl | rfl | rfl | rfl := (by omega : c = 0 ∨ c = 1 ∨ c = 2 ∨ c = 3 ∨ c = 4 ∨ c = 5 ∨ c = 6 ∨ c = 7 ∨ c = 8 ∨ c = 9 ∨ c = 10 ∨ c = 11 ∨ c = 12 ∨ c = 13 ∨ c = 14 ∨ c = 15 ∨ c = 16 ∨ c = 17 ∨ c = 18 ∨ c = 19 ∨ c = 20 ∨ c = 21 ∨ c = 22 ∨ c = 23 ∨ c = 24 ∨ c = 25 ∨ c = 26)
  · exact ⟨124, rfl, by omega, lc_field D hG hE hI hN hi hL hB K⟩
  · exact ⟨184, rfl, by omega, lc_feed D hG hE hI hN hi hL hB K⟩
  · exact ⟨255, rfl, by omega, lc_end D hG hE hI hN hi hL hB K⟩
  · exact ⟨280, rfl, by omega, lc_read D hG hE hI hN hi hL hB K⟩
  · exact ⟨336, rfl, by omega, lc_fault D hG hE hI hN hi hL hB K⟩
  · exact ⟨361, rfl, by omega, lc_add D hG hE hI hN hi hL hB K⟩
  · exact ⟨433, rfl, by omega, lc_multiply D hG hE hI hN hi hL hB K⟩
  · exact ⟨493, rfl, by omega, lc_derive D hG hE hI hN hi hL hB K⟩
  · exact ⟨553, rfl, by omega, lc_put D hG hE hI hN hi hL hB K⟩
  · exact ⟨625, rfl, by omega, lc_about D hG hE hI hN hi hL hB K⟩
  · exact ⟨662, rfl, by omega, lc_term D hG hE hI hN hi hL hB K⟩
  · exact ⟨711, rfl, by omega, lc_print D hG hE hI hN hi hL hB K⟩
  · exact ⟨767, rfl, by omega, lc_output D hG hE hI hN hi hL hB K⟩
  · exact ⟨792, rfl, by omega, lc_clear D hG hE hI hN hi hL hB K⟩
  · exact ⟨828, rfl, by omega, lc_join D hG hE hI hN hi hL hB K⟩
  · exact ⟨896, rfl, by omega, lc_both D hG hE hI hN hi hL hB K⟩
  · exact ⟨984, rfl, by omega, lc_basis D hG hE hI hN hi hL hB K⟩
  · exact ⟨1052, rfl, by omega, lc_element D hG hE hI hN hi hL hB K⟩
  · exact ⟨1112, rfl, by omega, lc_ideal D hG hE hI hN hi hL hB K⟩
  · exact ⟨1149, rfl, by omega, lc_standard D hG hE hI hN hi hL hB K⟩
  · exact ⟨1186, rfl, by omega, lc_remainder D hG hE hI hN hi hL hB K⟩
  · exact ⟨1273, rfl, by omega, lc_proved D hG hE hI hN hi hL hB K⟩
  · exact ⟨1286, rfl, by omega, lc_radical D hG hE hI hN hi hL hB K⟩
  · exact ⟨1373, rfl, by omega, lc_dictionary D hG hE hI hN hi hL hB K⟩
  · exact ⟨1429, rfl, by omega, lc_entry D hG hE hI hN hi hL hB K⟩
  · exact ⟨1478, rfl, by omega, lc_zeros D hG hE hI hN hi hL hB K⟩
  · exact ⟨1534, rfl, by omega, lc_zero D hG hE hI hN hi hL hB K⟩
set_option maxRecDepth 100000 in
theorem lp_law (D : Nat) (hG : mx_G e.1) (hE : lE e x y w b L) (hL0 : L ≤ 3072) (hB : ∀ j, mz_in (B j)) (hP : ∀ H, P (.inl (some (.inl 1))) H) : ∀ (m N : Nat) (H : mz_H) (u5 u6 : Option mz_W), L ≤ 6 * (N + m) + 5 → N + m ≤ 512 → lI e x y b B N H → mz_V e (D + 100) mm_law 23 [some (.inr (.inl b)), some (.inr (.inl x)), some (.inr (.inl y)), some (.inr (.inl w)), some (.inl (6 * (N : Int))), u5, u6] [] H P := by
  intro m
  induction m with
  | zero =>
    intro N H u5 u6 hm hm2 hI
    have hE' := hE
    obtain ⟨iE, rE, kw, kb, d1, d2, d3, r1, r2⟩ := hE
    have hB0 : H.2.1 b = B := by obtain ⟨p, n, o, a, g, t, l, v, X, z, iS, rS, hv, hT, hJ⟩ := hI; exact hJ.2.2
    apply mz_go hG 40 [40]
    simp only [mf_law, ca_law, dc_law_1, dc_law_2, dc_law_3, dc_law_127, kb, hB0, mzr_iconst, mzr_bipush, mzr_sipush, mzr_lconst, mzr_iload, mzr_iload_n, mzr_aload, mzr_aload_n, mzr_lload, mzr_lload_n, mzr_istore, mzr_istore_n, mzr_astore, mzr_astore_n, mzr_lstore, mzr_lstore_n, mzr_iinc, mzr_iadd, mzr_isub, mzr_imul, mzr_iand, mzr_ior, mzr_ixor, mzr_ishl, mzr_ishr, mzr_iushr, mzr_idiv, mzr_irem, mzr_ineg, mzr_ladd, mzr_lsub, mzr_lmul, mzr_lrem, mzr_lcmp, mzr_i2l, mzr_l2i, mzr_i2b, mzr_dup, mzr_pop, mzr_dup2, mzr_ifCond_eq, mzr_if_icmp_eq, mzr_ifCond_ne, mzr_if_icmp_ne, mzr_ifCond_lt, mzr_if_icmp_lt, mzr_ifCond_ge, mzr_if_icmp_ge, mzr_ifCond_gt, mzr_if_icmp_gt, mzr_ifCond_le, mzr_if_icmp_le, mzr_goto, mzr_iaload, mzr_baload, mzr_laload, mzr_aaload, mzr_iastore, mzr_bastore, mzr_lastore, mzr_arraylength, mzr_getfield, mzr_putfield, mzr_getstatic, mzr_ldc, mzr_ldc_w, mzr_ldc2_w, mzr_ireturn, mzr_return_, mzr_copy, mzr_static, mzr_virtual, mzr_new, mz_tk, mz_dp, mz_ln, mz_sz, mz_af_v, mz_af_s, mz_wp_s, mz_w1, mz_g, mz_st, mz_k, mz_s2, mz_nx, mz_en, mx_to, mz_c1, ↓reduceIte, Nat.reduceAdd, Nat.reduceSub, Nat.reduceMul, Nat.reduceMod, Nat.reduceDiv, Nat.reduceEqDiff, Nat.reduceLeDiff, Nat.reduceLT, Int.reduceAdd, Int.reduceSub, Int.reduceNeg, Int.reduceMul, Int.reduceLE, Int.reduceLT, Int.reduceEq, Int.reduceToNat, Int.reduceNegSucc, Int.cast_ofNat_Int, Int32.reduceToInt, Int64.reduceToInt, Int.zero_add, Int.add_zero, Fin.isValue, Fin.val_zero, Fin.val_one, Fin.val_two, reduceCtorEq, or_false, false_or, or_true, true_or, or_self, and_true, true_and, and_self, not_true_eq_false, not_false_eq_true, implies_true, forall_const, List.mem_cons, List.not_mem_nil, false_implies, true_implies, imp_false, Nat.zero_add, Option.some.injEq, Prod.mk.injEq]
    repeat' first | omega | refine mz_it (fun hh => ?_) (fun hh => ?_) | refine And.intro ?_ ?_
    exact hP _
  | succ m ih =>
    intro N H u5 u6 hm hm2 hI
    have hE' := hE
    obtain ⟨iE, rE, kw, kb, d1, d2, d3, r1, r2⟩ := hE
    have hB0 : H.2.1 b = B := by obtain ⟨p, n, o, a, g, t, l, v, X, z, iS, rS, hv, hT, hJ⟩ := hI; exact hJ.2.2
    apply mz_go hG 40 [40]
    simp only [mf_law, ca_law, dc_law_1, dc_law_2, dc_law_3, dc_law_127, kb, hB0, mzr_iconst, mzr_bipush, mzr_sipush, mzr_lconst, mzr_iload, mzr_iload_n, mzr_aload, mzr_aload_n, mzr_lload, mzr_lload_n, mzr_istore, mzr_istore_n, mzr_astore, mzr_astore_n, mzr_lstore, mzr_lstore_n, mzr_iinc, mzr_iadd, mzr_isub, mzr_imul, mzr_iand, mzr_ior, mzr_ixor, mzr_ishl, mzr_ishr, mzr_iushr, mzr_idiv, mzr_irem, mzr_ineg, mzr_ladd, mzr_lsub, mzr_lmul, mzr_lrem, mzr_lcmp, mzr_i2l, mzr_l2i, mzr_i2b, mzr_dup, mzr_pop, mzr_dup2, mzr_ifCond_eq, mzr_if_icmp_eq, mzr_ifCond_ne, mzr_if_icmp_ne, mzr_ifCond_lt, mzr_if_icmp_lt, mzr_ifCond_ge, mzr_if_icmp_ge, mzr_ifCond_gt, mzr_if_icmp_gt, mzr_ifCond_le, mzr_if_icmp_le, mzr_goto, mzr_iaload, mzr_baload, mzr_laload, mzr_aaload, mzr_iastore, mzr_bastore, mzr_lastore, mzr_arraylength, mzr_getfield, mzr_putfield, mzr_getstatic, mzr_ldc, mzr_ldc_w, mzr_ldc2_w, mzr_ireturn, mzr_return_, mzr_copy, mzr_static, mzr_virtual, mzr_new, mz_tk, mz_dp, mz_ln, mz_sz, mz_af_v, mz_af_s, mz_wp_s, mz_w1, mz_g, mz_st, mz_k, mz_s2, mz_nx, mz_en, mx_to, mz_c1, ↓reduceIte, Nat.reduceAdd, Nat.reduceSub, Nat.reduceMul, Nat.reduceMod, Nat.reduceDiv, Nat.reduceEqDiff, Nat.reduceLeDiff, Nat.reduceLT, Int.reduceAdd, Int.reduceSub, Int.reduceNeg, Int.reduceMul, Int.reduceLE, Int.reduceLT, Int.reduceEq, Int.reduceToNat, Int.reduceNegSucc, Int.cast_ofNat_Int, Int32.reduceToInt, Int64.reduceToInt, Int.zero_add, Int.add_zero, Fin.isValue, Fin.val_zero, Fin.val_one, Fin.val_two, reduceCtorEq, or_false, false_or, or_true, true_or, or_self, and_true, true_and, and_self, not_true_eq_false, not_false_eq_true, implies_true, forall_const, List.mem_cons, List.not_mem_nil, false_implies, true_implies, imp_false, Nat.zero_add, Option.some.injEq, Prod.mk.injEq]
    repeat' first | omega | refine mz_it (fun hh => ?_) (fun hh => ?_) | refine And.intro ?_ ?_
    · exact hP _
    · refine lp_next D hG hE' hI (by omega) rfl (by omega) hB (fun H' v5 v6 hI' => ?_) _
      apply mz_go hG 10 [23]
      simp only [mf_law, ca_law, dc_law_127, sl_W, cpn_law_0, cpn_law_1, mx_cp_r, mzr_iconst, mzr_bipush, mzr_sipush, mzr_lconst, mzr_iload, mzr_iload_n, mzr_aload, mzr_aload_n, mzr_lload, mzr_lload_n, mzr_istore, mzr_istore_n, mzr_astore, mzr_astore_n, mzr_lstore, mzr_lstore_n, mzr_iinc, mzr_iadd, mzr_isub, mzr_imul, mzr_iand, mzr_ior, mzr_ixor, mzr_ishl, mzr_ishr, mzr_iushr, mzr_idiv, mzr_irem, mzr_ineg, mzr_ladd, mzr_lsub, mzr_lmul, mzr_lrem, mzr_lcmp, mzr_i2l, mzr_l2i, mzr_i2b, mzr_dup, mzr_pop, mzr_dup2, mzr_ifCond_eq, mzr_if_icmp_eq, mzr_ifCond_ne, mzr_if_icmp_ne, mzr_ifCond_lt, mzr_if_icmp_lt, mzr_ifCond_ge, mzr_if_icmp_ge, mzr_ifCond_gt, mzr_if_icmp_gt, mzr_ifCond_le, mzr_if_icmp_le, mzr_goto, mzr_iaload, mzr_baload, mzr_laload, mzr_aaload, mzr_iastore, mzr_bastore, mzr_lastore, mzr_arraylength, mzr_getfield, mzr_putfield, mzr_getstatic, mzr_ldc, mzr_ldc_w, mzr_ldc2_w, mzr_ireturn, mzr_return_, mzr_copy, mzr_static, mzr_virtual, mzr_new, mz_tk, mz_dp, mz_ln, mz_sz, mz_af_v, mz_af_s, mz_wp_s, mz_w1, mz_g, mz_st, mz_k, mz_s2, mz_nx, mz_en, mx_to, mz_c1, ↓reduceIte, Nat.reduceAdd, Nat.reduceSub, Nat.reduceMul, Nat.reduceMod, Nat.reduceDiv, Nat.reduceEqDiff, Nat.reduceLeDiff, Nat.reduceLT, Int.reduceAdd, Int.reduceSub, Int.reduceNeg, Int.reduceMul, Int.reduceLE, Int.reduceLT, Int.reduceEq, Int.reduceToNat, Int.reduceNegSucc, Int.cast_ofNat_Int, Int32.reduceToInt, Int64.reduceToInt, Int.zero_add, Int.add_zero, Fin.isValue, Fin.val_zero, Fin.val_one, Fin.val_two, reduceCtorEq, or_false, false_or, or_true, true_or, or_self, and_true, true_and, and_self, not_true_eq_false, not_false_eq_true, implies_true, forall_const, List.mem_cons, List.not_mem_nil, false_implies, true_implies, imp_false, Nat.zero_add, Option.some.injEq, Prod.mk.injEq]
      repeat' first | omega | refine mz_it (fun hh => ?_) (fun hh => ?_) | refine And.intro ?_ ?_
      have := ih (N + 1) H' v5 v6 (by omega) (by omega) hI'
      rw [show (6 * ((N + 1 : Nat) : Int)) = 6 * (N : Int) + 6 by omega] at this
      exact this
end LOOP
