theorem se_top {H : mz_H} {s : Nat} {p : Int} {n d M : Nat} {ld : Nat → Nat} (hp : 2 ≤ p) (hs : se_R H s p n d M ld) (hE : tb_F n (d + 1) ≤ 126) {w0 w sh : Nat → Int} (hW : se_W p n d M (fun k => H.2.1 (s + 2 + k)) w0 w sh) (hz : ∀ k, k < M → w (ld k) = 0) {l : Nat} (h0 : ∀ j, l < j → j < 126 → w0 j = 0) (j : Nat) (hj : l < j) (hj2 : j < 126) : w j = 0 := by
  refine Classical.byContradiction (fun hne => ?_)
  have hne2 : ∀ i, i < 126 → al_e p (w i) 0 → w i = 0 := fun i hi q => al_e_z q (hW.1 i hi).1 (hW.1 i hi).2.1
  obtain ⟨t, h1, h2⟩ := al_top (p := p) (f := cu w) (N := 126) (fun j hj => by unfold cu; rw [if_neg (by omega)]; exact al_e_r _ _) (fun q => hne (hne2 j hj2 (by have := q j; rw [cu_1 hj2] at this; exact this)))
  have ht : t < 126 := Nat.lt_of_not_le (fun q => h1 (by unfold cu; rw [if_neg (by omega)]; exact al_e_r _ _))
  have htj : j ≤ t := Nat.le_of_not_lt (fun q => hne (hne2 j hj2 (by have := h2 j q; rw [cu_1 hj2] at this; exact this)))
  rw [cu_1 ht] at h1
  have hu : rs_R p M (fun k => H.2.1 (s + 2 + k)) (cu (fun j => w0 j - w j)) := rs_S (sh := sh) (fun j hj => by
    have h6 : al_e p (w0 j) (w j + al_S M (fun k => sh k * H.2.1 (s + 2 + k) j)) := hW.2.1 j hj
    have := al_e_d h6 (al_e_r p (w j))
    exact al_e_t this (al_e_of (by omega)))
  have hL := al_R_l (se_ec hs hE) ((se_R_i hs _).mpr hu) (l := t) (fun q => h1 (by
    rw [cu_1 ht, h0 t (by omega) ht] at q
    have := al_e_n q
    exact al_e_t (al_e_of (by omega)) (al_e_t this (al_e_of (by omega))))) (fun i hi => by
      by_cases hi2 : i < 126
      · rw [cu_1 hi2, h0 i (by omega) hi2]
        have := h2 i hi
        rw [cu_1 hi2] at this
        have h8 := al_e_n this
        exact al_e_t (al_e_of (by omega)) (al_e_t h8 (al_e_of (by omega)))
      · unfold cu; rw [if_neg hi2]; exact al_e_r _ _)
  obtain ⟨k, hk, rfl⟩ := hL
  exact h1 (al_e_of (hz k hk))
set_option maxRecDepth 100000 in
theorem ct_reducedInto {e : mz_E} (d0 : Nat) {s r c k0 : Nat} {p : Int} {n o d M : Nat} {ld : Nat → Nat} {H : mz_H} {P : mz_O → mz_H → Prop} (hG : mx_G e.1) (hR : rg_E e r) (hE : sa_E e s) (hc : e.2.1 c = some (20, 126)) (hok : tb_ok n o) (hd : d ≤ tb_h n) (hp2 : 2 ≤ p ∧ p < 32768)
    (hS : rg_S H r p n o) (hs : se_R H s p n d M ld) (hrs : ∀ i j, i ≤ 10 → j ≤ 260 → r + i ≠ s + j) (hcs : ∀ j, j ≤ 260 → c ≠ s + j) (hcr : ∀ j, j ≤ 8 → r + j ≠ c) (hk0 : k0 < M)
    (hP : ∀ h (sh : Nat → Int), mz_fr H h [s + 259, s + 260, c] → (∀ j, j < 126 → 0 ≤ h.2.1 c j ∧ h.2.1 c j < p) → h.2.1 c (ld k0) = 1 → (∀ k, k < M → k ≠ k0 → h.2.1 c (ld k) = 0) → (∀ j, ld k0 < j → j < 126 → h.2.1 c j = 0) →
      (∀ j, j < 126 → al_e p (H.2.1 (s + 2 + k0) j) (h.2.1 c j + al_S M (fun k => sh k * H.2.1 (s + 2 + k) j))) → P (.inl none) h) :
    mz_CA e (d0 + 3) j_Space_reducedInto [.inr (.inl s), .inr (.inl r), .inl (ld k0 : Int), .inr (.inl c)] H P := by
  have hE' := hE
  have hEN := tb_F_N hok (d := d + 1) (by omega)
  have hN := tb_N_b n
  have hME := hs.2.1
  obtain ⟨⟨s0, g3, g4, g5, g6, g7, g8, g9, g10⟩, ⟨q1, q128, q129, q130, q131, q258, q259, q260⟩, qr, qc⟩ := hE
  have t1 := (qr k0 (by omega)).1
  have t2 := (qr k0 (by omega)).2
  obtain ⟨l1, l2, l3, l4, l5, l6⟩ := hs.2.2.1 k0 hk0
  refine mz_CA_of mr_Space_reducedInto ?_
  simp only [mf_Space_reducedInto, mz_en, List.replicate, Nat.reduceSub, Nat.reduceAdd, Nat.reduceMul]
  apply mz_go hG 60 []
  simp only [mf_Space_reducedInto, ca_Space_reducedInto, dc_Space_reducedInto_0, dc_Space_reducedInto_1, dc_Space_reducedInto_2, dc_Space_reducedInto_3, dc_Space_reducedInto_4, dc_Space_reducedInto_5, fl_Space, sl_Space, sg_Arrays_fill, sg_Space_reduce, cpn_space_0, mx_cp_r, s0, g3, g4, g5, g6, g7, g8, g9, g10, q1, q128, q129, q130, q131, q258, q259, q260, hc, mzr_iconst, mzr_bipush, mzr_sipush, mzr_lconst, mzr_iload, mzr_iload_n, mzr_aload, mzr_aload_n, mzr_lload, mzr_lload_n, mzr_istore, mzr_istore_n, mzr_astore, mzr_astore_n, mzr_lstore, mzr_lstore_n, mzr_iinc, mzr_iadd, mzr_isub, mzr_imul, mzr_iand, mzr_ior, mzr_ixor, mzr_ishl, mzr_ishr, mzr_iushr, mzr_idiv, mzr_irem, mzr_ineg, mzr_ladd, mzr_lsub, mzr_lmul, mzr_lrem, mzr_lcmp, mzr_i2l, mzr_l2i, mzr_i2b, mzr_dup, mzr_pop, mzr_dup2, mzr_ifCond_eq, mzr_if_icmp_eq, mzr_ifCond_ne, mzr_if_icmp_ne, mzr_ifCond_lt, mzr_if_icmp_lt, mzr_ifCond_ge, mzr_if_icmp_ge, mzr_ifCond_gt, mzr_if_icmp_gt, mzr_ifCond_le, mzr_if_icmp_le, mzr_goto, mzr_iaload, mzr_baload, mzr_laload, mzr_aaload, mzr_iastore, mzr_bastore, mzr_lastore, mzr_arraylength, mzr_getfield, mzr_putfield, mzr_getstatic, mzr_ldc, mzr_ldc_w, mzr_ldc2_w, mzr_ireturn, mzr_return_, mzr_copy, mzr_static, mzr_virtual, mzr_new, mz_tk, mz_dp, mz_ln, mz_sz, mz_af_v, mz_af_s, mz_wp_s, mz_w1, mz_g, mz_st, mz_k, mz_s2, mz_nx, mz_en, mx_to, mz_c1, ↓reduceIte, Nat.reduceAdd, Nat.reduceSub, Nat.reduceMul, Nat.reduceMod, Nat.reduceDiv, Nat.reduceEqDiff, Nat.reduceLeDiff, Nat.reduceLT, Int.reduceAdd, Int.reduceSub, Int.reduceNeg, Int.reduceMul, Int.reduceLE, Int.reduceLT, Int.reduceEq, Int.reduceToNat, Int.reduceNegSucc, Int.cast_ofNat_Int, Int32.reduceToInt, Int64.reduceToInt, Int.zero_add, Int.add_zero, Fin.isValue, Fin.val_zero, Fin.val_one, Fin.val_two, reduceCtorEq, or_false, false_or, or_true, true_or, or_self, and_true, true_and, and_self, not_true_eq_false, not_false_eq_true, implies_true, forall_const, List.mem_cons, List.not_mem_nil, false_implies, true_implies, imp_false, Nat.zero_add, Option.some.injEq, Prod.mk.injEq]
  repeat' first | omega | refine mz_it (fun hh => ?_) (fun hh => ?_) | refine And.intro ?_ ?_
  refine ct_fill (d0 + 2) hG hc (by omega) (fun H1 f1 hv1 => ?_)
  have e1 : ∀ a, a ≠ c → H1.2.1 a = H.2.1 a := fun a q => f1.2.2 a (by simp; exact q)
  have z1 : H1.2.1 (s + 129) (ld k0) = k0 := by rw [e1 _ (fun q => hcs 129 (by omega) q.symm), l3]
  simp only [mf_Space_reducedInto, ca_Space_reducedInto, dc_Space_reducedInto_0, dc_Space_reducedInto_1, dc_Space_reducedInto_2, dc_Space_reducedInto_3, dc_Space_reducedInto_4, dc_Space_reducedInto_5, fl_Space, sl_Space, sg_Arrays_fill, sg_Space_reduce, cpn_space_0, mx_cp_r, s0, g3, g4, g5, g6, g7, g8, g9, g10, q1, q128, q129, q130, q131, q258, q259, q260, t1, t2, z1, Int.toNat_natCast, mzr_iconst, mzr_bipush, mzr_sipush, mzr_lconst, mzr_iload, mzr_iload_n, mzr_aload, mzr_aload_n, mzr_lload, mzr_lload_n, mzr_istore, mzr_istore_n, mzr_astore, mzr_astore_n, mzr_lstore, mzr_lstore_n, mzr_iinc, mzr_iadd, mzr_isub, mzr_imul, mzr_iand, mzr_ior, mzr_ixor, mzr_ishl, mzr_ishr, mzr_iushr, mzr_idiv, mzr_irem, mzr_ineg, mzr_ladd, mzr_lsub, mzr_lmul, mzr_lrem, mzr_lcmp, mzr_i2l, mzr_l2i, mzr_i2b, mzr_dup, mzr_pop, mzr_dup2, mzr_ifCond_eq, mzr_if_icmp_eq, mzr_ifCond_ne, mzr_if_icmp_ne, mzr_ifCond_lt, mzr_if_icmp_lt, mzr_ifCond_ge, mzr_if_icmp_ge, mzr_ifCond_gt, mzr_if_icmp_gt, mzr_ifCond_le, mzr_if_icmp_le, mzr_goto, mzr_iaload, mzr_baload, mzr_laload, mzr_aaload, mzr_iastore, mzr_bastore, mzr_lastore, mzr_arraylength, mzr_getfield, mzr_putfield, mzr_getstatic, mzr_ldc, mzr_ldc_w, mzr_ldc2_w, mzr_ireturn, mzr_return_, mzr_copy, mzr_static, mzr_virtual, mzr_new, mz_tk, mz_dp, mz_ln, mz_sz, mz_af_v, mz_af_s, mz_wp_s, mz_w1, mz_g, mz_st, mz_k, mz_s2, mz_nx, mz_en, mx_to, mz_c1, ↓reduceIte, Nat.reduceAdd, Nat.reduceSub, Nat.reduceMul, Nat.reduceMod, Nat.reduceDiv, Nat.reduceEqDiff, Nat.reduceLeDiff, Nat.reduceLT, Int.reduceAdd, Int.reduceSub, Int.reduceNeg, Int.reduceMul, Int.reduceLE, Int.reduceLT, Int.reduceEq, Int.reduceToNat, Int.reduceNegSucc, Int.cast_ofNat_Int, Int32.reduceToInt, Int64.reduceToInt, Int.zero_add, Int.add_zero, Fin.isValue, Fin.val_zero, Fin.val_one, Fin.val_two, reduceCtorEq, or_false, false_or, or_true, true_or, or_self, and_true, true_and, and_self, not_true_eq_false, not_false_eq_true, implies_true, forall_const, List.mem_cons, List.not_mem_nil, false_implies, true_implies, imp_false, Nat.zero_add, Option.some.injEq, Prod.mk.injEq]
  repeat' first | omega | refine mz_it (fun hh => ?_) (fun hh => ?_) | refine And.intro ?_ ?_
  have f2 : mz_fr H1 (mz_w (mz_cy H1 (s + 2 + k0) 0 (s + 259) 0 126) (s + 259) (ld k0) 0) [s + 259] := (mz_fr.cy _ _ _ _ _ _ (by simp)).tr (mz_fr.w _ _ _ _ (by simp))
  have y1 : ∀ j, j < 126 → (mz_w (mz_cy H1 (s + 2 + k0) 0 (s + 259) 0 126) (s + 259) (ld k0) 0).2.1 (s + 259) j = if j = ld k0 then 0 else H.2.1 (s + 2 + k0) j := fun j hj => by
    rw [mz_w_g]
    by_cases hjl : j = ld k0
    · rw [if_pos ⟨rfl, hjl⟩, if_pos hjl]
    · rw [if_neg (fun q => hjl q.2), if_neg hjl, mz_cy_g, if_pos rfl, if_pos (by omega), show 0 + (j - 0) = j by omega, e1 _ (fun q => hcs (2 + k0) (by omega) (by omega))]
  have f3 : mz_fr H (mz_w (mz_cy H1 (s + 2 + k0) 0 (s + 259) 0 126) (s + 259) (ld k0) 0) [s + 259, c] := (f1.mono (by simp)).tr (f2.mono (by simp))
  have hS2 := hS.fr f3 (fun j hj => by simp; exact ⟨hrs j 259 (by omega) (by omega), hcr j hj⟩)
  have hs2 := hs.fr f3 (fun j hj => by simp; exact ⟨by omega, fun q => hcs j (by omega) q.symm⟩) (by omega)
  have e2 : ∀ a, a ≠ c → a ≠ s + 259 → (mz_w (mz_cy H1 (s + 2 + k0) 0 (s + 259) 0 126) (s + 259) (ld k0) 0).2.1 a = H.2.1 a := fun a q q' => by rw [f2.2.2 a (by simp; exact q'), e1 a q]
  refine ct_reduce d0 hG hR hE' hok hd hp2 (Or.inr rfl) hS2 hs2 hrs (fun j hj => ?_) (fun h rest u1 u2 u3 u4 => ?_)
  · rw [y1 j hj]
    by_cases hjl : j = ld k0
    · rw [if_pos hjl]; exact ⟨by omega, by omega, fun _ => rfl⟩
    · rw [if_neg hjl]
      exact ⟨(l4 j hj).1, (l4 j hj).2, fun q => l6 j (by omega) hj⟩
  · have hrow : ∀ k, k < M → ∀ j, (mz_w (mz_cy H1 (s + 2 + k0) 0 (s + 259) 0 126) (s + 259) (ld k0) 0).2.1 (s + 2 + k) j = H.2.1 (s + 2 + k) j := fun k hk j => by rw [e2 _ (fun q => hcs (2 + k) (by omega) (by omega)) (by omega)]
    have htop := se_top (by omega) hs2 (by omega) u2 (u3 rfl) (l := ld k0) (fun j hj hj2 => by rw [y1 j hj2, if_neg (by omega), l6 j hj hj2])
    simp only [mf_Space_reducedInto, ca_Space_reducedInto, dc_Space_reducedInto_0, dc_Space_reducedInto_1, dc_Space_reducedInto_2, dc_Space_reducedInto_3, dc_Space_reducedInto_4, dc_Space_reducedInto_5, fl_Space, sl_Space, sg_Arrays_fill, sg_Space_reduce, cpn_space_0, mx_cp_r, s0, g3, g4, g5, g6, g7, g8, g9, g10, q1, q128, q129, q130, q131, q258, q259, q260, hc, Int.toNat_natCast, mzr_iconst, mzr_bipush, mzr_sipush, mzr_lconst, mzr_iload, mzr_iload_n, mzr_aload, mzr_aload_n, mzr_lload, mzr_lload_n, mzr_istore, mzr_istore_n, mzr_astore, mzr_astore_n, mzr_lstore, mzr_lstore_n, mzr_iinc, mzr_iadd, mzr_isub, mzr_imul, mzr_iand, mzr_ior, mzr_ixor, mzr_ishl, mzr_ishr, mzr_iushr, mzr_idiv, mzr_irem, mzr_ineg, mzr_ladd, mzr_lsub, mzr_lmul, mzr_lrem, mzr_lcmp, mzr_i2l, mzr_l2i, mzr_i2b, mzr_dup, mzr_pop, mzr_dup2, mzr_ifCond_eq, mzr_if_icmp_eq, mzr_ifCond_ne, mzr_if_icmp_ne, mzr_ifCond_lt, mzr_if_icmp_lt, mzr_ifCond_ge, mzr_if_icmp_ge, mzr_ifCond_gt, mzr_if_icmp_gt, mzr_ifCond_le, mzr_if_icmp_le, mzr_goto, mzr_iaload, mzr_baload, mzr_laload, mzr_aaload, mzr_iastore, mzr_bastore, mzr_lastore, mzr_arraylength, mzr_getfield, mzr_putfield, mzr_getstatic, mzr_ldc, mzr_ldc_w, mzr_ldc2_w, mzr_ireturn, mzr_return_, mzr_copy, mzr_static, mzr_virtual, mzr_new, mz_tk, mz_dp, mz_ln, mz_sz, mz_af_v, mz_af_s, mz_wp_s, mz_w1, mz_g, mz_st, mz_k, mz_s2, mz_nx, mz_en, mx_to, mz_c1, ↓reduceIte, Nat.reduceAdd, Nat.reduceSub, Nat.reduceMul, Nat.reduceMod, Nat.reduceDiv, Nat.reduceEqDiff, Nat.reduceLeDiff, Nat.reduceLT, Int.reduceAdd, Int.reduceSub, Int.reduceNeg, Int.reduceMul, Int.reduceLE, Int.reduceLT, Int.reduceEq, Int.reduceToNat, Int.reduceNegSucc, Int.cast_ofNat_Int, Int32.reduceToInt, Int64.reduceToInt, Int.zero_add, Int.add_zero, Fin.isValue, Fin.val_zero, Fin.val_one, Fin.val_two, reduceCtorEq, or_false, false_or, or_true, true_or, or_self, and_true, true_and, and_self, not_true_eq_false, not_false_eq_true, implies_true, forall_const, List.mem_cons, List.not_mem_nil, false_implies, true_implies, imp_false, Nat.zero_add, Option.some.injEq, Prod.mk.injEq]
    repeat' first | omega | refine mz_it (fun hh => ?_) (fun hh => ?_) | refine And.intro ?_ ?_
    have hcp : ∀ j, j < 126 → (mz_w (mz_cy h (s + 259) 0 c 0 126) c (ld k0) 1).2.1 c j = if j = ld k0 then 1 else h.2.1 (s + 259) j := fun j hj => by
      rw [mz_w_g]
      by_cases hjl : j = ld k0
      · rw [if_pos ⟨rfl, hjl⟩, if_pos hjl]
      · rw [if_neg (fun q => hjl q.2), if_neg hjl, mz_cy_g, if_pos rfl, if_pos (by omega), show 0 + (j - 0) = j by omega]
    have fz : mz_fr H (mz_w (mz_cy h (s + 259) 0 c 0 126) c (ld k0) 1) [s + 259, s + 260, c] := (((f3.mono (by simp)).tr (u1.mono (by simp))).tr (mz_fr.cy _ _ _ _ _ _ (by simp))).tr (mz_fr.w _ _ _ _ (by simp))
    refine hP _ (h.2.1 (s + 260)) fz (fun j hj => ?_) ?_ (fun k hk hkk => ?_) (fun j hj hj2 => ?_) (fun j hj => ?_)
    · rw [hcp j hj]
      by_cases hjl : j = ld k0
      · rw [if_pos hjl]; omega
      · rw [if_neg hjl]; exact ⟨(u2.1 j hj).1, (u2.1 j hj).2.1⟩
    · rw [hcp _ (by omega), if_pos rfl]
    · have := (hs.2.2.1 k hk).1
      rw [hcp _ (by omega), if_neg (fun q => hkk (se_inj hs k k0 hk hk0 q)), u3 rfl k hk]
    · rw [hcp j hj2, if_neg (by omega), htop j hj hj2]
    · have w2 := u2.2.1 j hj
      rw [y1 j hj] at w2
      have w3 : al_S M (fun k => h.2.1 (s + 260) k * (fun k => (mz_w (mz_cy H1 (s + 2 + k0) 0 (s + 259) 0 126) (s + 259) (ld k0) 0).2.1 (s + 2 + k)) k j) = al_S M (fun k => h.2.1 (s + 260) k * H.2.1 (s + 2 + k) j) := al_S_c (fun k hk => by
        show _ * (mz_w (mz_cy H1 (s + 2 + k0) 0 (s + 259) 0 126) (s + 259) (ld k0) 0).2.1 (s + 2 + k) j = _
        rw [hrow k hk])
      rw [w3] at w2
      rw [hcp j hj]
      by_cases hjl : j = ld k0
      · rw [if_pos hjl] at w2 ⊢
        have hw0 := u3 rfl k0 hk0
        rw [hjl, l5]
        rw [hjl, hw0] at w2
        have := al_e_a w2 (al_e_r p 1)
        exact al_e_t (al_e_of (by omega)) (al_e_t this (al_e_of (by omega)))
      · rw [if_neg hjl] at w2 ⊢
        exact w2
def sp_gap (f : Nat → Int) (a : Nat) : Nat → Nat
  | 0 => 0
  | k + 1 => sp_gap f a k + if f (a + k) = -1 then 1 else 0
theorem sp_gap_b (f : Nat → Int) (a k : Nat) : sp_gap f a k ≤ k := by
  induction k with
  | zero => exact Nat.le_refl 0
  | succ k ih => rw [sp_gap]; split <;> omega
set_option maxRecDepth 100000 in
theorem ct_gaps {e : mz_E} (d0 : Nat) {s r : Nat} {p q : Int} {n o d : Nat} {H : mz_H} {P : mz_O → mz_H → Prop} (hG : mx_G e.1) (hR : rg_E e r) (hE : sa_E e s) (hok : tb_ok n o) (hd : d ≤ tb_h n) (hS : rg_S H r p n o) (hb : H.2.1 s 0 = d)
    (hP0 : (q < 0 ∨ (d : Int) < q) → P (.inl (some (.inl (-1)))) H) (hP1 : ∀ k : Nat, q = k → k ≤ d → P (.inl (some (.inl (sp_gap (H.2.1 (s + 129)) (tb_F n k) (tb_F n (k + 1) - tb_F n k) : Int)))) H) :
    mz_CA e (d0 + 1) j_Space_gapsOfDegree [.inr (.inl s), .inr (.inl r), .inl q] H P := by
  have hR' := hR
  have hE' := hE
  have hh30 := tb_h_b n
  have hN := tb_N_b n
  obtain ⟨r0, f5, f6, f7, f8, f9, f10, f11, f12, f13, f14, k1, k2, k3, k4, k5, k6, k7, k8, k9, k10⟩ := hR
  obtain ⟨⟨s0, g3, g4, g5, g6, g7, g8, g9, g10⟩, ⟨q1, q128, q129, q130, q131, q258, q259, q260⟩, qr, qc⟩ := hE
  by_cases hq : q < 0 ∨ (d : Int) < q
  · refine mz_CA_of mr_Space_gapsOfDegree ?_
    simp only [mf_Space_gapsOfDegree, mz_en, List.replicate, Nat.reduceSub, Nat.reduceAdd, Nat.reduceMul]
    apply mz_go hG 60 []
    simp only [mf_Space_gapsOfDegree, ca_Space_gapsOfDegree, dc_Space_gapsOfDegree_0, dc_Space_gapsOfDegree_1, dc_Space_gapsOfDegree_2, dc_Space_gapsOfDegree_3, dc_Space_gapsOfDegree_4, fl_Space, sl_Space, sg_Space_isLead, s0, g3, g4, g5, g6, g7, g8, g9, g10, q1, q128, q129, q130, q131, q258, q259, q260, r0, f5, f6, f7, f8, f9, f10, f11, f12, f13, f14, k1, k2, k3, k4, k5, k6, k7, k8, k9, k10, hb, mzr_iconst, mzr_bipush, mzr_sipush, mzr_lconst, mzr_iload, mzr_iload_n, mzr_aload, mzr_aload_n, mzr_lload, mzr_lload_n, mzr_istore, mzr_istore_n, mzr_astore, mzr_astore_n, mzr_lstore, mzr_lstore_n, mzr_iinc, mzr_iadd, mzr_isub, mzr_imul, mzr_iand, mzr_ior, mzr_ixor, mzr_ishl, mzr_ishr, mzr_iushr, mzr_idiv, mzr_irem, mzr_ineg, mzr_ladd, mzr_lsub, mzr_lmul, mzr_lrem, mzr_lcmp, mzr_i2l, mzr_l2i, mzr_i2b, mzr_dup, mzr_pop, mzr_dup2, mzr_ifCond_eq, mzr_if_icmp_eq, mzr_ifCond_ne, mzr_if_icmp_ne, mzr_ifCond_lt, mzr_if_icmp_lt, mzr_ifCond_ge, mzr_if_icmp_ge, mzr_ifCond_gt, mzr_if_icmp_gt, mzr_ifCond_le, mzr_if_icmp_le, mzr_goto, mzr_iaload, mzr_baload, mzr_laload, mzr_aaload, mzr_iastore, mzr_bastore, mzr_lastore, mzr_arraylength, mzr_getfield, mzr_putfield, mzr_getstatic, mzr_ldc, mzr_ldc_w, mzr_ldc2_w, mzr_ireturn, mzr_return_, mzr_copy, mzr_static, mzr_virtual, mzr_new, mz_tk, mz_dp, mz_ln, mz_sz, mz_af_v, mz_af_s, mz_wp_s, mz_w1, mz_g, mz_st, mz_k, mz_s2, mz_nx, mz_en, mx_to, mz_c1, ↓reduceIte, Nat.reduceAdd, Nat.reduceSub, Nat.reduceMul, Nat.reduceMod, Nat.reduceDiv, Nat.reduceEqDiff, Nat.reduceLeDiff, Nat.reduceLT, Int.reduceAdd, Int.reduceSub, Int.reduceNeg, Int.reduceMul, Int.reduceLE, Int.reduceLT, Int.reduceEq, Int.reduceToNat, Int.reduceNegSucc, Int.cast_ofNat_Int, Int32.reduceToInt, Int64.reduceToInt, Int.zero_add, Int.add_zero, Fin.isValue, Fin.val_zero, Fin.val_one, Fin.val_two, reduceCtorEq, or_false, false_or, or_true, true_or, or_self, and_true, true_and, and_self, not_true_eq_false, not_false_eq_true, implies_true, forall_const, List.mem_cons, List.not_mem_nil, false_implies, true_implies, imp_false, Nat.zero_add, Option.some.injEq, Prod.mk.injEq]
    repeat' first | omega | refine mz_it (fun hh => ?_) (fun hh => ?_) | refine And.intro ?_ ?_
    all_goals exact hP0 hq
  · obtain ⟨k, rfl⟩ : ∃ k : Nat, q = k := ⟨q.toNat, by omega⟩
    have hk : k ≤ d := by omega
    have z2 := hS.2.2.2.2.2.2.1 k (by omega)
    have hE1 := tb_F_N hok (d := k + 1) (by omega)
    have hmono : tb_F n k ≤ tb_F n (k + 1) := by
      refine Nat.le_of_not_lt (fun hlt => ?_)
      have hE0 := tb_F_N hok (d := k) (by omega)
      have a1 := (tb_F_i hok (d := k) (by omega) (show tb_F n (k + 1) < tb_N n by omega)).mp hlt
      have a2 := (tb_F_i hok (d := k + 1) (by omega) (show tb_F n (k + 1) < tb_N n by omega)).mpr (by omega)
      omega
    have lp : ∀ (i m : Nat), m + i = tb_F n (k + 1) - tb_F n k → mz_V e (d0 + 1) mm_Space_gapsOfDegree 34 [some (.inr (.inl s)), some (.inr (.inl r)), some (.inl (k : Int)), some (.inl (sp_gap (H.2.1 (s + 129)) (tb_F n k) m : Int)), some (.inl ((tb_F n k + m : Nat) : Int))] [] H P := by
      intro i
      induction i with
      | zero =>
        intro m h1
        obtain rfl : m = tb_F n (k + 1) - tb_F n k := by omega
        apply mz_go hG 60 [34]
        simp only [mf_Space_gapsOfDegree, ca_Space_gapsOfDegree, dc_Space_gapsOfDegree_0, dc_Space_gapsOfDegree_1, dc_Space_gapsOfDegree_2, dc_Space_gapsOfDegree_3, dc_Space_gapsOfDegree_4, fl_Space, sl_Space, sg_Space_isLead, s0, g3, g4, g5, g6, g7, g8, g9, g10, q1, q128, q129, q130, q131, q258, q259, q260, r0, f5, f6, f7, f8, f9, f10, f11, f12, f13, f14, k1, k2, k3, k4, k5, k6, k7, k8, k9, k10, z2, Int.toNat_natCast, mzr_iconst, mzr_bipush, mzr_sipush, mzr_lconst, mzr_iload, mzr_iload_n, mzr_aload, mzr_aload_n, mzr_lload, mzr_lload_n, mzr_istore, mzr_istore_n, mzr_astore, mzr_astore_n, mzr_lstore, mzr_lstore_n, mzr_iinc, mzr_iadd, mzr_isub, mzr_imul, mzr_iand, mzr_ior, mzr_ixor, mzr_ishl, mzr_ishr, mzr_iushr, mzr_idiv, mzr_irem, mzr_ineg, mzr_ladd, mzr_lsub, mzr_lmul, mzr_lrem, mzr_lcmp, mzr_i2l, mzr_l2i, mzr_i2b, mzr_dup, mzr_pop, mzr_dup2, mzr_ifCond_eq, mzr_if_icmp_eq, mzr_ifCond_ne, mzr_if_icmp_ne, mzr_ifCond_lt, mzr_if_icmp_lt, mzr_ifCond_ge, mzr_if_icmp_ge, mzr_ifCond_gt, mzr_if_icmp_gt, mzr_ifCond_le, mzr_if_icmp_le, mzr_goto, mzr_iaload, mzr_baload, mzr_laload, mzr_aaload, mzr_iastore, mzr_bastore, mzr_lastore, mzr_arraylength, mzr_getfield, mzr_putfield, mzr_getstatic, mzr_ldc, mzr_ldc_w, mzr_ldc2_w, mzr_ireturn, mzr_return_, mzr_copy, mzr_static, mzr_virtual, mzr_new, mz_tk, mz_dp, mz_ln, mz_sz, mz_af_v, mz_af_s, mz_wp_s, mz_w1, mz_g, mz_st, mz_k, mz_s2, mz_nx, mz_en, mx_to, mz_c1, ↓reduceIte, Nat.reduceAdd, Nat.reduceSub, Nat.reduceMul, Nat.reduceMod, Nat.reduceDiv, Nat.reduceEqDiff, Nat.reduceLeDiff, Nat.reduceLT, Int.reduceAdd, Int.reduceSub, Int.reduceNeg, Int.reduceMul, Int.reduceLE, Int.reduceLT, Int.reduceEq, Int.reduceToNat, Int.reduceNegSucc, Int.cast_ofNat_Int, Int32.reduceToInt, Int64.reduceToInt, Int.zero_add, Int.add_zero, Fin.isValue, Fin.val_zero, Fin.val_one, Fin.val_two, reduceCtorEq, or_false, false_or, or_true, true_or, or_self, and_true, true_and, and_self, not_true_eq_false, not_false_eq_true, implies_true, forall_const, List.mem_cons, List.not_mem_nil, false_implies, true_implies, imp_false, Nat.zero_add, Option.some.injEq, Prod.mk.injEq]
        repeat' first | omega | refine mz_it (fun hh => ?_) (fun hh => ?_) | refine And.intro ?_ ?_
        all_goals exact hP1 k rfl hk
      | succ i ih =>
        intro m h1
        have hb2 := sp_gap_b (H.2.1 (s + 129)) (tb_F n k) m
        have h2 := ih (m + 1) (by omega)
        rw [sp_gap] at h2
        apply mz_go hG 60 [34]
        simp only [mf_Space_gapsOfDegree, ca_Space_gapsOfDegree, dc_Space_gapsOfDegree_0, dc_Space_gapsOfDegree_1, dc_Space_gapsOfDegree_2, dc_Space_gapsOfDegree_3, dc_Space_gapsOfDegree_4, fl_Space, sl_Space, sg_Space_isLead, s0, g3, g4, g5, g6, g7, g8, g9, g10, q1, q128, q129, q130, q131, q258, q259, q260, r0, f5, f6, f7, f8, f9, f10, f11, f12, f13, f14, k1, k2, k3, k4, k5, k6, k7, k8, k9, k10, z2, Int.toNat_natCast, mzr_iconst, mzr_bipush, mzr_sipush, mzr_lconst, mzr_iload, mzr_iload_n, mzr_aload, mzr_aload_n, mzr_lload, mzr_lload_n, mzr_istore, mzr_istore_n, mzr_astore, mzr_astore_n, mzr_lstore, mzr_lstore_n, mzr_iinc, mzr_iadd, mzr_isub, mzr_imul, mzr_iand, mzr_ior, mzr_ixor, mzr_ishl, mzr_ishr, mzr_iushr, mzr_idiv, mzr_irem, mzr_ineg, mzr_ladd, mzr_lsub, mzr_lmul, mzr_lrem, mzr_lcmp, mzr_i2l, mzr_l2i, mzr_i2b, mzr_dup, mzr_pop, mzr_dup2, mzr_ifCond_eq, mzr_if_icmp_eq, mzr_ifCond_ne, mzr_if_icmp_ne, mzr_ifCond_lt, mzr_if_icmp_lt, mzr_ifCond_ge, mzr_if_icmp_ge, mzr_ifCond_gt, mzr_if_icmp_gt, mzr_ifCond_le, mzr_if_icmp_le, mzr_goto, mzr_iaload, mzr_baload, mzr_laload, mzr_aaload, mzr_iastore, mzr_bastore, mzr_lastore, mzr_arraylength, mzr_getfield, mzr_putfield, mzr_getstatic, mzr_ldc, mzr_ldc_w, mzr_ldc2_w, mzr_ireturn, mzr_return_, mzr_copy, mzr_static, mzr_virtual, mzr_new, mz_tk, mz_dp, mz_ln, mz_sz, mz_af_v, mz_af_s, mz_wp_s, mz_w1, mz_g, mz_st, mz_k, mz_s2, mz_nx, mz_en, mx_to, mz_c1, ↓reduceIte, Nat.reduceAdd, Nat.reduceSub, Nat.reduceMul, Nat.reduceMod, Nat.reduceDiv, Nat.reduceEqDiff, Nat.reduceLeDiff, Nat.reduceLT, Int.reduceAdd, Int.reduceSub, Int.reduceNeg, Int.reduceMul, Int.reduceLE, Int.reduceLT, Int.reduceEq, Int.reduceToNat, Int.reduceNegSucc, Int.cast_ofNat_Int, Int32.reduceToInt, Int64.reduceToInt, Int.zero_add, Int.add_zero, Fin.isValue, Fin.val_zero, Fin.val_one, Fin.val_two, reduceCtorEq, or_false, false_or, or_true, true_or, or_self, and_true, true_and, and_self, not_true_eq_false, not_false_eq_true, implies_true, forall_const, List.mem_cons, List.not_mem_nil, false_implies, true_implies, imp_false, Nat.zero_add, Option.some.injEq, Prod.mk.injEq]
        repeat' first | omega | refine mz_it (fun hh => ?_) (fun hh => ?_) | refine And.intro ?_ ?_
        refine ct_isLead d0 hG hE' (by omega) ?_
        by_cases hl : H.2.1 (s + 129) (tb_F n k + m) = -1
        · rw [if_pos hl]
          rw [if_pos hl] at h2
          simp only [mf_Space_gapsOfDegree, ca_Space_gapsOfDegree, dc_Space_gapsOfDegree_0, dc_Space_gapsOfDegree_1, dc_Space_gapsOfDegree_2, dc_Space_gapsOfDegree_3, dc_Space_gapsOfDegree_4, fl_Space, sl_Space, sg_Space_isLead, s0, g3, g4, g5, g6, g7, g8, g9, g10, q1, q128, q129, q130, q131, q258, q259, q260, mzr_iconst, mzr_bipush, mzr_sipush, mzr_lconst, mzr_iload, mzr_iload_n, mzr_aload, mzr_aload_n, mzr_lload, mzr_lload_n, mzr_istore, mzr_istore_n, mzr_astore, mzr_astore_n, mzr_lstore, mzr_lstore_n, mzr_iinc, mzr_iadd, mzr_isub, mzr_imul, mzr_iand, mzr_ior, mzr_ixor, mzr_ishl, mzr_ishr, mzr_iushr, mzr_idiv, mzr_irem, mzr_ineg, mzr_ladd, mzr_lsub, mzr_lmul, mzr_lrem, mzr_lcmp, mzr_i2l, mzr_l2i, mzr_i2b, mzr_dup, mzr_pop, mzr_dup2, mzr_ifCond_eq, mzr_if_icmp_eq, mzr_ifCond_ne, mzr_if_icmp_ne, mzr_ifCond_lt, mzr_if_icmp_lt, mzr_ifCond_ge, mzr_if_icmp_ge, mzr_ifCond_gt, mzr_if_icmp_gt, mzr_ifCond_le, mzr_if_icmp_le, mzr_goto, mzr_iaload, mzr_baload, mzr_laload, mzr_aaload, mzr_iastore, mzr_bastore, mzr_lastore, mzr_arraylength, mzr_getfield, mzr_putfield, mzr_getstatic, mzr_ldc, mzr_ldc_w, mzr_ldc2_w, mzr_ireturn, mzr_return_, mzr_copy, mzr_static, mzr_virtual, mzr_new, mz_tk, mz_dp, mz_ln, mz_sz, mz_af_v, mz_af_s, mz_wp_s, mz_w1, mz_g, mz_st, mz_k, mz_s2, mz_nx, mz_en, mx_to, mz_c1, ↓reduceIte, Nat.reduceAdd, Nat.reduceSub, Nat.reduceMul, Nat.reduceMod, Nat.reduceDiv, Nat.reduceEqDiff, Nat.reduceLeDiff, Nat.reduceLT, Int.reduceAdd, Int.reduceSub, Int.reduceNeg, Int.reduceMul, Int.reduceLE, Int.reduceLT, Int.reduceEq, Int.reduceToNat, Int.reduceNegSucc, Int.cast_ofNat_Int, Int32.reduceToInt, Int64.reduceToInt, Int.zero_add, Int.add_zero, Fin.isValue, Fin.val_zero, Fin.val_one, Fin.val_two, reduceCtorEq, or_false, false_or, or_true, true_or, or_self, and_true, true_and, and_self, not_true_eq_false, not_false_eq_true, implies_true, forall_const, List.mem_cons, List.not_mem_nil, false_implies, true_implies, imp_false, Nat.zero_add, Option.some.injEq, Prod.mk.injEq]
          repeat' first | omega | refine mz_it (fun hh => ?_) (fun hh => ?_) | refine And.intro ?_ ?_
          exact h2
        · rw [if_neg hl]
          rw [if_neg hl] at h2
          simp only [mf_Space_gapsOfDegree, ca_Space_gapsOfDegree, dc_Space_gapsOfDegree_0, dc_Space_gapsOfDegree_1, dc_Space_gapsOfDegree_2, dc_Space_gapsOfDegree_3, dc_Space_gapsOfDegree_4, fl_Space, sl_Space, sg_Space_isLead, s0, g3, g4, g5, g6, g7, g8, g9, g10, q1, q128, q129, q130, q131, q258, q259, q260, mzr_iconst, mzr_bipush, mzr_sipush, mzr_lconst, mzr_iload, mzr_iload_n, mzr_aload, mzr_aload_n, mzr_lload, mzr_lload_n, mzr_istore, mzr_istore_n, mzr_astore, mzr_astore_n, mzr_lstore, mzr_lstore_n, mzr_iinc, mzr_iadd, mzr_isub, mzr_imul, mzr_iand, mzr_ior, mzr_ixor, mzr_ishl, mzr_ishr, mzr_iushr, mzr_idiv, mzr_irem, mzr_ineg, mzr_ladd, mzr_lsub, mzr_lmul, mzr_lrem, mzr_lcmp, mzr_i2l, mzr_l2i, mzr_i2b, mzr_dup, mzr_pop, mzr_dup2, mzr_ifCond_eq, mzr_if_icmp_eq, mzr_ifCond_ne, mzr_if_icmp_ne, mzr_ifCond_lt, mzr_if_icmp_lt, mzr_ifCond_ge, mzr_if_icmp_ge, mzr_ifCond_gt, mzr_if_icmp_gt, mzr_ifCond_le, mzr_if_icmp_le, mzr_goto, mzr_iaload, mzr_baload, mzr_laload, mzr_aaload, mzr_iastore, mzr_bastore, mzr_lastore, mzr_arraylength, mzr_getfield, mzr_putfield, mzr_getstatic, mzr_ldc, mzr_ldc_w, mzr_ldc2_w, mzr_ireturn, mzr_return_, mzr_copy, mzr_static, mzr_virtual, mzr_new, mz_tk, mz_dp, mz_ln, mz_sz, mz_af_v, mz_af_s, mz_wp_s, mz_w1, mz_g, mz_st, mz_k, mz_s2, mz_nx, mz_en, mx_to, mz_c1, ↓reduceIte, Nat.reduceAdd, Nat.reduceSub, Nat.reduceMul, Nat.reduceMod, Nat.reduceDiv, Nat.reduceEqDiff, Nat.reduceLeDiff, Nat.reduceLT, Int.reduceAdd, Int.reduceSub, Int.reduceNeg, Int.reduceMul, Int.reduceLE, Int.reduceLT, Int.reduceEq, Int.reduceToNat, Int.reduceNegSucc, Int.cast_ofNat_Int, Int32.reduceToInt, Int64.reduceToInt, Int.zero_add, Int.add_zero, Fin.isValue, Fin.val_zero, Fin.val_one, Fin.val_two, reduceCtorEq, or_false, false_or, or_true, true_or, or_self, and_true, true_and, and_self, not_true_eq_false, not_false_eq_true, implies_true, forall_const, List.mem_cons, List.not_mem_nil, false_implies, true_implies, imp_false, Nat.zero_add, Option.some.injEq, Prod.mk.injEq]
          repeat' first | omega | refine mz_it (fun hh => ?_) (fun hh => ?_) | refine And.intro ?_ ?_
          exact h2
    refine mz_CA_of mr_Space_gapsOfDegree ?_
    simp only [mf_Space_gapsOfDegree, mz_en, List.replicate, Nat.reduceSub, Nat.reduceAdd, Nat.reduceMul]
    by_cases hk0 : k = 0
    · subst hk0
      have h3 := lp _ 0 (Nat.zero_add _)
      have h4 : tb_F n 0 = 0 := by unfold tb_F; split <;> rfl
      rw [h4] at h3
      apply mz_go hG 60 [34]
      simp only [mf_Space_gapsOfDegree, ca_Space_gapsOfDegree, dc_Space_gapsOfDegree_0, dc_Space_gapsOfDegree_1, dc_Space_gapsOfDegree_2, dc_Space_gapsOfDegree_3, dc_Space_gapsOfDegree_4, fl_Space, sl_Space, sg_Space_isLead, s0, g3, g4, g5, g6, g7, g8, g9, g10, q1, q128, q129, q130, q131, q258, q259, q260, r0, f5, f6, f7, f8, f9, f10, f11, f12, f13, f14, k1, k2, k3, k4, k5, k6, k7, k8, k9, k10, hb, Int.toNat_natCast, mzr_iconst, mzr_bipush, mzr_sipush, mzr_lconst, mzr_iload, mzr_iload_n, mzr_aload, mzr_aload_n, mzr_lload, mzr_lload_n, mzr_istore, mzr_istore_n, mzr_astore, mzr_astore_n, mzr_lstore, mzr_lstore_n, mzr_iinc, mzr_iadd, mzr_isub, mzr_imul, mzr_iand, mzr_ior, mzr_ixor, mzr_ishl, mzr_ishr, mzr_iushr, mzr_idiv, mzr_irem, mzr_ineg, mzr_ladd, mzr_lsub, mzr_lmul, mzr_lrem, mzr_lcmp, mzr_i2l, mzr_l2i, mzr_i2b, mzr_dup, mzr_pop, mzr_dup2, mzr_ifCond_eq, mzr_if_icmp_eq, mzr_ifCond_ne, mzr_if_icmp_ne, mzr_ifCond_lt, mzr_if_icmp_lt, mzr_ifCond_ge, mzr_if_icmp_ge, mzr_ifCond_gt, mzr_if_icmp_gt, mzr_ifCond_le, mzr_if_icmp_le, mzr_goto, mzr_iaload, mzr_baload, mzr_laload, mzr_aaload, mzr_iastore, mzr_bastore, mzr_lastore, mzr_arraylength, mzr_getfield, mzr_putfield, mzr_getstatic, mzr_ldc, mzr_ldc_w, mzr_ldc2_w, mzr_ireturn, mzr_return_, mzr_copy, mzr_static, mzr_virtual, mzr_new, mz_tk, mz_dp, mz_ln, mz_sz, mz_af_v, mz_af_s, mz_wp_s, mz_w1, mz_g, mz_st, mz_k, mz_s2, mz_nx, mz_en, mx_to, mz_c1, ↓reduceIte, Nat.reduceAdd, Nat.reduceSub, Nat.reduceMul, Nat.reduceMod, Nat.reduceDiv, Nat.reduceEqDiff, Nat.reduceLeDiff, Nat.reduceLT, Int.reduceAdd, Int.reduceSub, Int.reduceNeg, Int.reduceMul, Int.reduceLE, Int.reduceLT, Int.reduceEq, Int.reduceToNat, Int.reduceNegSucc, Int.cast_ofNat_Int, Int32.reduceToInt, Int64.reduceToInt, Int.zero_add, Int.add_zero, Fin.isValue, Fin.val_zero, Fin.val_one, Fin.val_two, reduceCtorEq, or_false, false_or, or_true, true_or, or_self, and_true, true_and, and_self, not_true_eq_false, not_false_eq_true, implies_true, forall_const, List.mem_cons, List.not_mem_nil, false_implies, true_implies, imp_false, Nat.zero_add, Option.some.injEq, Prod.mk.injEq]
      repeat' first | omega | refine mz_it (fun hh => ?_) (fun hh => ?_) | refine And.intro ?_ ?_
      exact h3
    · have h3 := lp (tb_F n (k + 1) - tb_F n k) 0 (by omega)
      have z3 := hS.2.2.2.2.2.2.1 (k - 1) (by omega)
      rw [show k - 1 + 1 = k by omega] at z3
      have i1 : ((k : Int) - 1).toNat = k - 1 := by omega
      apply mz_go hG 60 [34]
      simp only [mf_Space_gapsOfDegree, ca_Space_gapsOfDegree, dc_Space_gapsOfDegree_0, dc_Space_gapsOfDegree_1, dc_Space_gapsOfDegree_2, dc_Space_gapsOfDegree_3, dc_Space_gapsOfDegree_4, fl_Space, sl_Space, sg_Space_isLead, s0, g3, g4, g5, g6, g7, g8, g9, g10, q1, q128, q129, q130, q131, q258, q259, q260, r0, f5, f6, f7, f8, f9, f10, f11, f12, f13, f14, k1, k2, k3, k4, k5, k6, k7, k8, k9, k10, hb, Int.toNat_natCast, i1, z3, mzr_iconst, mzr_bipush, mzr_sipush, mzr_lconst, mzr_iload, mzr_iload_n, mzr_aload, mzr_aload_n, mzr_lload, mzr_lload_n, mzr_istore, mzr_istore_n, mzr_astore, mzr_astore_n, mzr_lstore, mzr_lstore_n, mzr_iinc, mzr_iadd, mzr_isub, mzr_imul, mzr_iand, mzr_ior, mzr_ixor, mzr_ishl, mzr_ishr, mzr_iushr, mzr_idiv, mzr_irem, mzr_ineg, mzr_ladd, mzr_lsub, mzr_lmul, mzr_lrem, mzr_lcmp, mzr_i2l, mzr_l2i, mzr_i2b, mzr_dup, mzr_pop, mzr_dup2, mzr_ifCond_eq, mzr_if_icmp_eq, mzr_ifCond_ne, mzr_if_icmp_ne, mzr_ifCond_lt, mzr_if_icmp_lt, mzr_ifCond_ge, mzr_if_icmp_ge, mzr_ifCond_gt, mzr_if_icmp_gt, mzr_ifCond_le, mzr_if_icmp_le, mzr_goto, mzr_iaload, mzr_baload, mzr_laload, mzr_aaload, mzr_iastore, mzr_bastore, mzr_lastore, mzr_arraylength, mzr_getfield, mzr_putfield, mzr_getstatic, mzr_ldc, mzr_ldc_w, mzr_ldc2_w, mzr_ireturn, mzr_return_, mzr_copy, mzr_static, mzr_virtual, mzr_new, mz_tk, mz_dp, mz_ln, mz_sz, mz_af_v, mz_af_s, mz_wp_s, mz_w1, mz_g, mz_st, mz_k, mz_s2, mz_nx, mz_en, mx_to, mz_c1, ↓reduceIte, Nat.reduceAdd, Nat.reduceSub, Nat.reduceMul, Nat.reduceMod, Nat.reduceDiv, Nat.reduceEqDiff, Nat.reduceLeDiff, Nat.reduceLT, Int.reduceAdd, Int.reduceSub, Int.reduceNeg, Int.reduceMul, Int.reduceLE, Int.reduceLT, Int.reduceEq, Int.reduceToNat, Int.reduceNegSucc, Int.cast_ofNat_Int, Int32.reduceToInt, Int64.reduceToInt, Int.zero_add, Int.add_zero, Fin.isValue, Fin.val_zero, Fin.val_one, Fin.val_two, reduceCtorEq, or_false, false_or, or_true, true_or, or_self, and_true, true_and, and_self, not_true_eq_false, not_false_eq_true, implies_true, forall_const, List.mem_cons, List.not_mem_nil, false_implies, true_implies, imp_false, Nat.zero_add, Option.some.injEq, Prod.mk.injEq]
      repeat' first | omega | refine mz_it (fun hh => ?_) (fun hh => ?_) | refine And.intro ?_ ?_
      exact h3
