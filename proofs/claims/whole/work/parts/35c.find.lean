def se_D (H : mz_H) (s : Nat) (p : Int) (n o d M : Nat) (ld : Nat → Nat) (gm : Nat) (gen : Nat → Nat → Int) : Prop :=
  se_B H s p n o d M ld gm gen ∧ ∀ f, sV p n o d (sG n o d gm gen) f → rs_R p M (fun k => H.2.1 (s + 2 + k)) f
theorem se_hr {H : mz_H} {s : Nat} {p : Int} {n o d M : Nat} {ld : Nat → Nat} {gm : Nat} {gen : Nat → Nat → Int} (h : se_D H s p n o d M ld gm gen) : ∀ l, se_L M ld l → sV p n o d (sG n o d gm gen) (se_r H s l) := by
  rintro l ⟨k, hk, rfl⟩
  rw [se_r_k h.1.1 hk]
  exact h.1.2.2 k hk
theorem se_hl {H : mz_H} {s : Nat} {p : Int} {n o d M : Nat} {ld : Nat → Nat} {gm : Nat} {gen : Nat → Nat → Int} (hE : tb_F n (d + 1) ≤ 126) (h : se_D H s p n o d M ld gm gen) : ∀ f l, sV p n o d (sG n o d gm gen) f → ¬ al_e p (f l) 0 → (∀ j, l < j → al_e p (f j) 0) → se_L M ld l :=
  fun f l hf h1 h2 => al_R_l (se_ec h.1.1 hE) ((se_R_i h.1.1 f).mpr (h.2 f hf)) h1 h2
theorem se_L_i {H : mz_H} {s : Nat} {p : Int} {n d M : Nat} {ld : Nat → Nat} (hs : se_R H s p n d M ld) {l : Nat} (hl : l < 126) : H.2.1 (s + 129) l ≠ -1 ↔ se_L M ld l := by
  constructor
  · intro h
    rcases hs.2.2.2 l hl with h1 | ⟨k, h1, h2, h3⟩
    · exact absurd h1 h
    · exact ⟨k, h1, h3⟩
  · rintro ⟨k, hk, rfl⟩ h
    rw [(hs.2.2.1 k hk).2.2.1] at h
    omega
theorem se_C {H : mz_H} {s : Nat} {p : Int} {n o d M : Nat} {ld : Nat → Nat} {gm : Nat} {gen : Nat → Nat → Int} (hp : 1 < p) (hok : tb_ok n o) (hd : d ≤ tb_h n) (h : se_D H s p n o d M ld gm gen) {m : Nat} (hm : m < tb_F n (d + 1)) :
    sC n o (se_L M ld) m ↔ H.2.1 (s + 129) m ≠ -1 ∧ ∀ v, v < n → tb_be n o m v = -1 ∨ H.2.1 (s + 129) (tb_be n o m v).toNat = -1 := by
  have hEN := tb_F_N hok (d := d + 1) (by omega)
  have hN := tb_N_b n
  have hL : ∀ l, se_L M ld l → l < tb_F n (d + 1) := by
    rintro l ⟨k, hk, rfl⟩
    exact (h.1.1.2.2.1 k hk).1
  rw [sC_c hok hEN hL (fun l l' a h1 h2 h3 => sL_up hp hok hd (se_ec h.1.1 (by omega)) (se_hr h) (se_hl (by omega) h) h1 h2 h3)]
  rw [se_L_i h.1.1 (by omega)]
  constructor
  · rintro ⟨h1, h2⟩
    refine ⟨h1, fun v hv => ?_⟩
    by_cases hg : tb_g (tb_T n o m) v = 0
    · exact Or.inl ((tb_be_r hok (by omega) hv).2 hg).1
    · obtain ⟨b1, b2, b3⟩ := (tb_be_r hok (show m < tb_N n by omega) hv).1 hg
      right
      rw [b1, Int.toNat_natCast]
      refine Classical.byContradiction (fun hq => h2 v _ hv b2 b3.symm ?_)
      exact (se_L_i h.1.1 (by omega)).mp hq
  · rintro ⟨h1, h2⟩
    refine ⟨h1, fun v k hv hk hT hLk => ?_⟩
    have hg : tb_g (tb_T n o m) v ≠ 0 := by rw [hT, tb_g_x _ _ (by have := hok.2.1; omega)]; omega
    have hpd := (tb_pd_i hok (show m < tb_N n by omega) hk hv hg).mpr hT
    obtain ⟨b1, b2, b3⟩ := (tb_be_r hok (show m < tb_N n by omega) hv).1 hg
    rcases h2 v hv with h3 | h3
    · omega
    · rw [b1, Int.toNat_natCast] at h3
      unfold tb_pd at hpd
      rw [hpd] at h3
      exact (se_L_i h.1.1 (by omega)).mpr hLk h3
def cn_P (f : Nat → Int) (K : Nat) (c : Nat → Nat) (C : Nat → Prop) (N : Nat) : Prop :=
  (∀ k, k < K → f k = c k ∧ c k < N ∧ C (c k)) ∧ (∀ j k, j < k → k < K → c j < c k) ∧ (∀ m, m < N → C m → ∃ k, k < K ∧ c k = m)
theorem cn_b {f : Nat → Int} {K : Nat} {c : Nat → Nat} {C : Nat → Prop} {N : Nat} (h : cn_P f K c C N) : K ≤ N := by
  refine ph_le N K c (fun k hk => (h.1 k hk).2.1) (fun i j hi hj hij => ?_)
  rcases Nat.lt_trichotomy i j with q | q | q
  · have := h.2.1 i j q hj; omega
  · exact q
  · have := h.2.1 j i q hi; omega
set_option maxRecDepth 100000 in
theorem ct_findBasis {e : mz_E} (d : Nat) {i r gm : Nat} {p : Int} {n o dd : Nat} {gen : Nat → Nat → Int} {H : mz_H} {P : mz_O → mz_H → Prop} (hG : mx_G e.1) (hI : id_E e i) (hR : rg_E e r) (hok : tb_ok n o) (hd : dd ≤ tb_h n) (hp2 : 2 ≤ p ∧ p < 32768) (hpr : al_pr p.toNat)
    (hS : rg_S H r p n o) (hri : r + 10 < i ∨ i + 272 < r) (hgm : gm ≤ 9) (hgc : H.2.1 i 1 = gm) (hgen : ∀ g, g < gm → H.2.1 (i + 2 + g) = gen g) (hpl : ∀ g, g < gm → pl p n (gen g))
    (hP : ∀ h M ld K c cp, mz_fr H h (i :: bl (i + 11) 262) → h.2.1 i 1 = H.2.1 i 1 → se_D h (i + 11) p n o dd M ld gm gen → h.2.1 (i + 11) 2 = 0 → h.2.1 i 6 = (K : Nat) → cn_P (h.2.1 (i + 272)) K c (sC n o (se_L M ld)) (tb_F n (dd + 1)) →
      ((cp = 1 ∧ sp_gd n o gen gm ≤ dd ∧ ∀ x y, y < x → x < K → lw_P n o dd (c x) (c y)) ∨ (cp = 0 ∧ ¬ (sp_gd n o gen gm ≤ dd ∧ ∀ x y, y < x → x < K → lw_P n o dd (c x) (c y)))) → h.2.1 i 3 = cp → h.2.1 i 2 = 1 → P (.inl none) h) :
    mz_CA e (d + 6) j_Ideal_findBasis [.inr (.inl i), .inr (.inl r), .inl (dd : Int)] H P := by
  have hI' := hI
  have hR' := hR
  have hEN := tb_F_N hok (d := dd + 1) (by omega)
  have hN := tb_N_b n
  have hh30 := tb_h_b n
  obtain ⟨r0, f5, f6, f7, f8, f9, f10, f11, f12, f13, f14, k1, k2, k3, k4, k5, k6, k7, k8, k9, k10⟩ := hR
  obtain ⟨i0, d0, d4, d5, k272, hga, hsa⟩ := hI
  have s0 := hsa.1.1
  have hgdc : ∀ (h : mz_H), (∀ g, g < gm → h.2.1 (i + 2 + g) = gen g) → ∀ k, k ≤ gm → sp_gd n o (fun g => h.2.1 (i + 2 + g)) k = sp_gd n o gen k := by
    intro h hh k
    induction k with
    | zero => intro _; rfl
    | succ k ih => intro hk; simp only [sp_gd]; rw [ih (by omega), hh k (by omega)]
  refine mz_CA_of mr_Ideal_findBasis ?_
  simp only [mf_Ideal_findBasis, mz_en, List.replicate, Nat.reduceSub, Nat.reduceAdd, Nat.reduceMul]
  apply mz_go hG 120 [24]
  simp only [mf_Ideal_findBasis, ca_Ideal_findBasis, dc_Ideal_findBasis_0, dc_Ideal_findBasis_1, dc_Ideal_findBasis_2, dc_Ideal_findBasis_3, dc_Ideal_findBasis_4, dc_Ideal_findBasis_5, dc_Ideal_findBasis_6, dc_Ideal_findBasis_7, fl_Ideal, sl_Ideal, sg_Space_build, sg_Ideal_isCorner, sg_Ideal_greatestDegree, sg_Ideal_pairsAreLow, i0, d0, d4, d5, k272, s0, hgc, mzr_iconst, mzr_bipush, mzr_sipush, mzr_lconst, mzr_iload, mzr_iload_n, mzr_aload, mzr_aload_n, mzr_lload, mzr_lload_n, mzr_istore, mzr_istore_n, mzr_astore, mzr_astore_n, mzr_lstore, mzr_lstore_n, mzr_iinc, mzr_iadd, mzr_isub, mzr_imul, mzr_iand, mzr_ior, mzr_ixor, mzr_ishl, mzr_ishr, mzr_iushr, mzr_idiv, mzr_irem, mzr_ineg, mzr_ladd, mzr_lsub, mzr_lmul, mzr_lrem, mzr_lcmp, mzr_i2l, mzr_l2i, mzr_i2b, mzr_dup, mzr_pop, mzr_dup2, mzr_ifCond_eq, mzr_if_icmp_eq, mzr_ifCond_ne, mzr_if_icmp_ne, mzr_ifCond_lt, mzr_if_icmp_lt, mzr_ifCond_ge, mzr_if_icmp_ge, mzr_ifCond_gt, mzr_if_icmp_gt, mzr_ifCond_le, mzr_if_icmp_le, mzr_goto, mzr_iaload, mzr_baload, mzr_laload, mzr_aaload, mzr_iastore, mzr_bastore, mzr_lastore, mzr_arraylength, mzr_getfield, mzr_putfield, mzr_getstatic, mzr_ldc, mzr_ldc_w, mzr_ldc2_w, mzr_ireturn, mzr_return_, mzr_copy, mzr_static, mzr_virtual, mzr_new, mz_tk, mz_dp, mz_ln, mz_sz, mz_af_v, mz_af_s, mz_wp_s, mz_w1, mz_g, mz_st, mz_k, mz_s2, mz_nx, mz_en, mx_to, mz_c1, ↓reduceIte, Nat.reduceAdd, Nat.reduceSub, Nat.reduceMul, Nat.reduceMod, Nat.reduceDiv, Nat.reduceEqDiff, Nat.reduceLeDiff, Nat.reduceLT, Int.reduceAdd, Int.reduceSub, Int.reduceNeg, Int.reduceMul, Int.reduceLE, Int.reduceLT, Int.reduceEq, Int.reduceToNat, Int.reduceNegSucc, Int.cast_ofNat_Int, Int32.reduceToInt, Int64.reduceToInt, Int.zero_add, Int.add_zero, Fin.isValue, Fin.val_zero, Fin.val_one, Fin.val_two, reduceCtorEq, or_false, false_or, or_true, true_or, or_self, and_true, true_and, and_self, not_true_eq_false, not_false_eq_true, implies_true, forall_const, List.mem_cons, List.not_mem_nil, false_implies, true_implies, imp_false, Nat.zero_add, Option.some.injEq, Prod.mk.injEq]
  repeat' first | omega | refine mz_it (fun hh => ?_) (fun hh => ?_) | refine And.intro ?_ ?_
  refine ct_build d hG hR' hsa hga hok hd hp2 hpr hS (fun a b ha hb => by omega) (fun a b ha hb => by omega) hgm (fun g hg => by rw [show i + 1 + 1 + g = i + 2 + g by omega]; exact hgen g hg) hpl (fun h0 M ld f0 hB0 hck hVR => ?_)
  have e0 : ∀ a, (a < i + 11 ∨ i + 271 < a) → h0.2.1 a = H.2.1 a := fun a ha => f0.2.2 a (by rw [bl_m]; omega)
  have hS0 := hS.fr f0 (fun j hj => by rw [bl_m]; omega)
  have hD0 : se_D h0 (i + 11) p n o dd M ld gm gen := ⟨hB0, hVR⟩
  have hME := hB0.1.2.1
  simp only [mf_Ideal_findBasis, ca_Ideal_findBasis, dc_Ideal_findBasis_0, dc_Ideal_findBasis_1, dc_Ideal_findBasis_2, dc_Ideal_findBasis_3, dc_Ideal_findBasis_4, dc_Ideal_findBasis_5, dc_Ideal_findBasis_6, dc_Ideal_findBasis_7, fl_Ideal, sl_Ideal, sg_Space_build, sg_Ideal_isCorner, sg_Ideal_greatestDegree, sg_Ideal_pairsAreLow, i0, d0, d4, d5, k272, mzr_iconst, mzr_bipush, mzr_sipush, mzr_lconst, mzr_iload, mzr_iload_n, mzr_aload, mzr_aload_n, mzr_lload, mzr_lload_n, mzr_istore, mzr_istore_n, mzr_astore, mzr_astore_n, mzr_lstore, mzr_lstore_n, mzr_iinc, mzr_iadd, mzr_isub, mzr_imul, mzr_iand, mzr_ior, mzr_ixor, mzr_ishl, mzr_ishr, mzr_iushr, mzr_idiv, mzr_irem, mzr_ineg, mzr_ladd, mzr_lsub, mzr_lmul, mzr_lrem, mzr_lcmp, mzr_i2l, mzr_l2i, mzr_i2b, mzr_dup, mzr_pop, mzr_dup2, mzr_ifCond_eq, mzr_if_icmp_eq, mzr_ifCond_ne, mzr_if_icmp_ne, mzr_ifCond_lt, mzr_if_icmp_lt, mzr_ifCond_ge, mzr_if_icmp_ge, mzr_ifCond_gt, mzr_if_icmp_gt, mzr_ifCond_le, mzr_if_icmp_le, mzr_goto, mzr_iaload, mzr_baload, mzr_laload, mzr_aaload, mzr_iastore, mzr_bastore, mzr_lastore, mzr_arraylength, mzr_getfield, mzr_putfield, mzr_getstatic, mzr_ldc, mzr_ldc_w, mzr_ldc2_w, mzr_ireturn, mzr_return_, mzr_copy, mzr_static, mzr_virtual, mzr_new, mz_tk, mz_dp, mz_ln, mz_sz, mz_af_v, mz_af_s, mz_wp_s, mz_w1, mz_g, mz_st, mz_k, mz_s2, mz_nx, mz_en, mx_to, mz_c1, ↓reduceIte, Nat.reduceAdd, Nat.reduceSub, Nat.reduceMul, Nat.reduceMod, Nat.reduceDiv, Nat.reduceEqDiff, Nat.reduceLeDiff, Nat.reduceLT, Int.reduceAdd, Int.reduceSub, Int.reduceNeg, Int.reduceMul, Int.reduceLE, Int.reduceLT, Int.reduceEq, Int.reduceToNat, Int.reduceNegSucc, Int.cast_ofNat_Int, Int32.reduceToInt, Int64.reduceToInt, Int.zero_add, Int.add_zero, Fin.isValue, Fin.val_zero, Fin.val_one, Fin.val_two, reduceCtorEq, or_false, false_or, or_true, true_or, or_self, and_true, true_and, and_self, not_true_eq_false, not_false_eq_true, implies_true, forall_const, List.mem_cons, List.not_mem_nil, false_implies, true_implies, imp_false, Nat.zero_add, Option.some.injEq, Prod.mk.injEq]
  repeat' first | omega | refine mz_it (fun hh => ?_) (fun hh => ?_) | refine And.intro ?_ ?_
  have lp : ∀ (k m K : Nat) (c : Nat → Nat) (H1 : mz_H), m + k = tb_F n (dd + 1) → mz_fr h0 H1 [i, i + 272] → H1.2.1 i 1 = H.2.1 i 1 → H1.2.1 i 6 = K → K ≤ m → cn_P (H1.2.1 (i + 272)) K c (fun x => sC n o (se_L M ld) x ∧ x < m) (tb_F n (dd + 1)) →
      mz_V e (d + 6) mm_Ideal_findBasis 24 [some (.inr (.inl i)), some (.inr (.inl r)), some (.inl (dd : Int)), some (.inl (m : Int))] [] H1 P := by
    intro k
    induction k with
    | zero =>
      intro m K c H1 h1 h2 h3 h4 h5 h6
      obtain rfl : m = tb_F n (dd + 1) := by omega
      have hS1 := hS0.fr h2 (fun j hj => by simp; omega)
      have z2 := hS1.2.2.2.2.2.2.1 dd hd
      have e1 : ∀ a, a ≠ i → a ≠ i + 272 → H1.2.1 a = h0.2.1 a := fun a q q' => h2.2.2 a (by simp; exact ⟨q, q'⟩)
      have hB1 : se_B H1 (i + 11) p n o dd M ld gm gen := hB0.fr (by omega) h2 (fun j h1 h2 => by simp; omega) (by rw [e1 _ (by omega) (by omega)]) (by rw [e1 _ (by omega) (by omega)])
      have hgen1 : ∀ g, g < gm → H1.2.1 (i + 2 + g) = gen g := fun g hg => by rw [e1 _ (by omega) (by omega), e0 _ (by omega), hgen g hg]
      have hc1 : H1.2.1 i 1 = gm := by rw [h3, hgc]
      have hcn : cn_P (H1.2.1 (i + 272)) K c (sC n o (se_L M ld)) (tb_F n (dd + 1)) := ⟨fun k hk => ⟨(h6.1 k hk).1, (h6.1 k hk).2.1, (h6.1 k hk).2.2.1⟩, h6.2.1, fun m hm hC => h6.2.2 m hm ⟨hC, hm⟩⟩
      have fin : ∀ (cp : Int), ((cp = 1 ∧ sp_gd n o gen gm ≤ dd ∧ ∀ x y, y < x → x < K → lw_P n o dd (c x) (c y)) ∨ (cp = 0 ∧ ¬ (sp_gd n o gen gm ≤ dd ∧ ∀ x y, y < x → x < K → lw_P n o dd (c x) (c y)))) → P (.inl none) (mz_w (mz_w H1 i 3 cp) i 2 1) := by
        intro cp hcp
        have f2 : mz_fr H1 (mz_w (mz_w H1 i 3 cp) i 2 1) [i] := (mz_fr.w _ _ _ _ (by simp)).tr (mz_fr.w _ _ _ _ (by simp))
        have e2 : ∀ a, a ≠ i → (mz_w (mz_w H1 i 3 cp) i 2 1).2.1 a = H1.2.1 a := fun a q => f2.2.2 a (by simp; exact q)
        refine hP _ M ld K c cp ?_ ?_ ⟨?_, ?_⟩ ?_ ?_ ?_ hcp ?_ ?_
        · refine ((f0.mono (fun a ha => ?_)).tr (h2.mono (fun a ha => ?_))).tr (f2.mono (fun a ha => ?_))
          · rw [bl_m] at ha; rw [List.mem_cons, bl_m]; omega
          · simp at ha; rw [List.mem_cons, bl_m]; omega
          · simp at ha; rw [List.mem_cons, bl_m]; omega
        · rw [mz_w_g, if_neg (by omega), mz_w_g, if_neg (by omega), h3]
        · exact hB1.fr (by omega) f2 (fun j h1 h2 => by simp; omega) (by rw [e2 _ (by omega)]) (by rw [e2 _ (by omega)])
        · intro f hf
          refine rs_m (Nat.le_refl _) (fun k hk j hj => ?_) (hVR f hf)
          rw [e2 _ (by omega), e1 _ (by omega) (by omega)]
        · rw [e2 _ (by omega), e1 _ (by omega) (by omega), hck]
        · rw [mz_w_g, if_neg (by omega), mz_w_g, if_neg (by omega), h4]
        · rw [e2 _ (by omega)]; exact hcn
        · rw [mz_w_g, if_neg (by omega), mz_w_g, if_pos ⟨rfl, rfl⟩]
        · rw [mz_w_g, if_pos ⟨rfl, rfl⟩]
      apply mz_go hG 120 []
      simp only [mf_Ideal_findBasis, ca_Ideal_findBasis, dc_Ideal_findBasis_0, dc_Ideal_findBasis_1, dc_Ideal_findBasis_2, dc_Ideal_findBasis_3, dc_Ideal_findBasis_4, dc_Ideal_findBasis_5, dc_Ideal_findBasis_6, dc_Ideal_findBasis_7, fl_Ideal, sl_Ideal, sg_Space_build, sg_Ideal_isCorner, sg_Ideal_greatestDegree, sg_Ideal_pairsAreLow, i0, d0, d4, d5, k272, r0, f5, f6, f7, f8, f9, f10, f11, f12, f13, f14, k1, k2, k3, k4, k5, k6, k7, k8, k9, k10, z2, Int.toNat_natCast, mzr_iconst, mzr_bipush, mzr_sipush, mzr_lconst, mzr_iload, mzr_iload_n, mzr_aload, mzr_aload_n, mzr_lload, mzr_lload_n, mzr_istore, mzr_istore_n, mzr_astore, mzr_astore_n, mzr_lstore, mzr_lstore_n, mzr_iinc, mzr_iadd, mzr_isub, mzr_imul, mzr_iand, mzr_ior, mzr_ixor, mzr_ishl, mzr_ishr, mzr_iushr, mzr_idiv, mzr_irem, mzr_ineg, mzr_ladd, mzr_lsub, mzr_lmul, mzr_lrem, mzr_lcmp, mzr_i2l, mzr_l2i, mzr_i2b, mzr_dup, mzr_pop, mzr_dup2, mzr_ifCond_eq, mzr_if_icmp_eq, mzr_ifCond_ne, mzr_if_icmp_ne, mzr_ifCond_lt, mzr_if_icmp_lt, mzr_ifCond_ge, mzr_if_icmp_ge, mzr_ifCond_gt, mzr_if_icmp_gt, mzr_ifCond_le, mzr_if_icmp_le, mzr_goto, mzr_iaload, mzr_baload, mzr_laload, mzr_aaload, mzr_iastore, mzr_bastore, mzr_lastore, mzr_arraylength, mzr_getfield, mzr_putfield, mzr_getstatic, mzr_ldc, mzr_ldc_w, mzr_ldc2_w, mzr_ireturn, mzr_return_, mzr_copy, mzr_static, mzr_virtual, mzr_new, mz_tk, mz_dp, mz_ln, mz_sz, mz_af_v, mz_af_s, mz_wp_s, mz_w1, mz_g, mz_st, mz_k, mz_s2, mz_nx, mz_en, mx_to, mz_c1, ↓reduceIte, Nat.reduceAdd, Nat.reduceSub, Nat.reduceMul, Nat.reduceMod, Nat.reduceDiv, Nat.reduceEqDiff, Nat.reduceLeDiff, Nat.reduceLT, Int.reduceAdd, Int.reduceSub, Int.reduceNeg, Int.reduceMul, Int.reduceLE, Int.reduceLT, Int.reduceEq, Int.reduceToNat, Int.reduceNegSucc, Int.cast_ofNat_Int, Int32.reduceToInt, Int64.reduceToInt, Int.zero_add, Int.add_zero, Fin.isValue, Fin.val_zero, Fin.val_one, Fin.val_two, reduceCtorEq, or_false, false_or, or_true, true_or, or_self, and_true, true_and, and_self, not_true_eq_false, not_false_eq_true, implies_true, forall_const, List.mem_cons, List.not_mem_nil, false_implies, true_implies, imp_false, Nat.zero_add, Option.some.injEq, Prod.mk.injEq]
      repeat' first | omega | refine mz_it (fun hh => ?_) (fun hh => ?_) | refine And.intro ?_ ?_
      refine ct_greatestDegree (d + 3) hG hI' hR' hok hS1 hc1 hgm ?_
      rw [hgdc H1 hgen1 gm (Nat.le_refl _)]
      by_cases hgd : sp_gd n o gen gm ≤ dd
      · simp only [mf_Ideal_findBasis, ca_Ideal_findBasis, dc_Ideal_findBasis_0, dc_Ideal_findBasis_1, dc_Ideal_findBasis_2, dc_Ideal_findBasis_3, dc_Ideal_findBasis_4, dc_Ideal_findBasis_5, dc_Ideal_findBasis_6, dc_Ideal_findBasis_7, fl_Ideal, sl_Ideal, sg_Space_build, sg_Ideal_isCorner, sg_Ideal_greatestDegree, sg_Ideal_pairsAreLow, i0, d0, d4, d5, k272, mzr_iconst, mzr_bipush, mzr_sipush, mzr_lconst, mzr_iload, mzr_iload_n, mzr_aload, mzr_aload_n, mzr_lload, mzr_lload_n, mzr_istore, mzr_istore_n, mzr_astore, mzr_astore_n, mzr_lstore, mzr_lstore_n, mzr_iinc, mzr_iadd, mzr_isub, mzr_imul, mzr_iand, mzr_ior, mzr_ixor, mzr_ishl, mzr_ishr, mzr_iushr, mzr_idiv, mzr_irem, mzr_ineg, mzr_ladd, mzr_lsub, mzr_lmul, mzr_lrem, mzr_lcmp, mzr_i2l, mzr_l2i, mzr_i2b, mzr_dup, mzr_pop, mzr_dup2, mzr_ifCond_eq, mzr_if_icmp_eq, mzr_ifCond_ne, mzr_if_icmp_ne, mzr_ifCond_lt, mzr_if_icmp_lt, mzr_ifCond_ge, mzr_if_icmp_ge, mzr_ifCond_gt, mzr_if_icmp_gt, mzr_ifCond_le, mzr_if_icmp_le, mzr_goto, mzr_iaload, mzr_baload, mzr_laload, mzr_aaload, mzr_iastore, mzr_bastore, mzr_lastore, mzr_arraylength, mzr_getfield, mzr_putfield, mzr_getstatic, mzr_ldc, mzr_ldc_w, mzr_ldc2_w, mzr_ireturn, mzr_return_, mzr_copy, mzr_static, mzr_virtual, mzr_new, mz_tk, mz_dp, mz_ln, mz_sz, mz_af_v, mz_af_s, mz_wp_s, mz_w1, mz_g, mz_st, mz_k, mz_s2, mz_nx, mz_en, mx_to, mz_c1, ↓reduceIte, Nat.reduceAdd, Nat.reduceSub, Nat.reduceMul, Nat.reduceMod, Nat.reduceDiv, Nat.reduceEqDiff, Nat.reduceLeDiff, Nat.reduceLT, Int.reduceAdd, Int.reduceSub, Int.reduceNeg, Int.reduceMul, Int.reduceLE, Int.reduceLT, Int.reduceEq, Int.reduceToNat, Int.reduceNegSucc, Int.cast_ofNat_Int, Int32.reduceToInt, Int64.reduceToInt, Int.zero_add, Int.add_zero, Fin.isValue, Fin.val_zero, Fin.val_one, Fin.val_two, reduceCtorEq, or_false, false_or, or_true, true_or, or_self, and_true, true_and, and_self, not_true_eq_false, not_false_eq_true, implies_true, forall_const, List.mem_cons, List.not_mem_nil, false_implies, true_implies, imp_false, Nat.zero_add, Option.some.injEq, Prod.mk.injEq]
        repeat' first | omega | refine mz_it (fun hh => ?_) (fun hh => ?_) | refine And.intro ?_ ?_
        refine ct_pairsAreLow (d + 3) hG hI' hR' hok hS1 h4 (by omega) (fun k hk => ⟨(hcn.1 k hk).1, by have := (hcn.1 k hk).2.1; omega⟩) (by rw [e1 _ (by omega) (by omega)]; exact hB0.1.1.1) (fun hl => ?_) (fun hl => ?_)
        · simp only [mf_Ideal_findBasis, ca_Ideal_findBasis, dc_Ideal_findBasis_0, dc_Ideal_findBasis_1, dc_Ideal_findBasis_2, dc_Ideal_findBasis_3, dc_Ideal_findBasis_4, dc_Ideal_findBasis_5, dc_Ideal_findBasis_6, dc_Ideal_findBasis_7, fl_Ideal, sl_Ideal, sg_Space_build, sg_Ideal_isCorner, sg_Ideal_greatestDegree, sg_Ideal_pairsAreLow, i0, d0, d4, d5, k272, mzr_iconst, mzr_bipush, mzr_sipush, mzr_lconst, mzr_iload, mzr_iload_n, mzr_aload, mzr_aload_n, mzr_lload, mzr_lload_n, mzr_istore, mzr_istore_n, mzr_astore, mzr_astore_n, mzr_lstore, mzr_lstore_n, mzr_iinc, mzr_iadd, mzr_isub, mzr_imul, mzr_iand, mzr_ior, mzr_ixor, mzr_ishl, mzr_ishr, mzr_iushr, mzr_idiv, mzr_irem, mzr_ineg, mzr_ladd, mzr_lsub, mzr_lmul, mzr_lrem, mzr_lcmp, mzr_i2l, mzr_l2i, mzr_i2b, mzr_dup, mzr_pop, mzr_dup2, mzr_ifCond_eq, mzr_if_icmp_eq, mzr_ifCond_ne, mzr_if_icmp_ne, mzr_ifCond_lt, mzr_if_icmp_lt, mzr_ifCond_ge, mzr_if_icmp_ge, mzr_ifCond_gt, mzr_if_icmp_gt, mzr_ifCond_le, mzr_if_icmp_le, mzr_goto, mzr_iaload, mzr_baload, mzr_laload, mzr_aaload, mzr_iastore, mzr_bastore, mzr_lastore, mzr_arraylength, mzr_getfield, mzr_putfield, mzr_getstatic, mzr_ldc, mzr_ldc_w, mzr_ldc2_w, mzr_ireturn, mzr_return_, mzr_copy, mzr_static, mzr_virtual, mzr_new, mz_tk, mz_dp, mz_ln, mz_sz, mz_af_v, mz_af_s, mz_wp_s, mz_w1, mz_g, mz_st, mz_k, mz_s2, mz_nx, mz_en, mx_to, mz_c1, ↓reduceIte, Nat.reduceAdd, Nat.reduceSub, Nat.reduceMul, Nat.reduceMod, Nat.reduceDiv, Nat.reduceEqDiff, Nat.reduceLeDiff, Nat.reduceLT, Int.reduceAdd, Int.reduceSub, Int.reduceNeg, Int.reduceMul, Int.reduceLE, Int.reduceLT, Int.reduceEq, Int.reduceToNat, Int.reduceNegSucc, Int.cast_ofNat_Int, Int32.reduceToInt, Int64.reduceToInt, Int.zero_add, Int.add_zero, Fin.isValue, Fin.val_zero, Fin.val_one, Fin.val_two, reduceCtorEq, or_false, false_or, or_true, true_or, or_self, and_true, true_and, and_self, not_true_eq_false, not_false_eq_true, implies_true, forall_const, List.mem_cons, List.not_mem_nil, false_implies, true_implies, imp_false, Nat.zero_add, Option.some.injEq, Prod.mk.injEq]
          repeat' first | omega | refine mz_it (fun hh => ?_) (fun hh => ?_) | refine And.intro ?_ ?_
          exact fin 1 (Or.inl ⟨rfl, hgd, hl⟩)
        · simp only [mf_Ideal_findBasis, ca_Ideal_findBasis, dc_Ideal_findBasis_0, dc_Ideal_findBasis_1, dc_Ideal_findBasis_2, dc_Ideal_findBasis_3, dc_Ideal_findBasis_4, dc_Ideal_findBasis_5, dc_Ideal_findBasis_6, dc_Ideal_findBasis_7, fl_Ideal, sl_Ideal, sg_Space_build, sg_Ideal_isCorner, sg_Ideal_greatestDegree, sg_Ideal_pairsAreLow, i0, d0, d4, d5, k272, mzr_iconst, mzr_bipush, mzr_sipush, mzr_lconst, mzr_iload, mzr_iload_n, mzr_aload, mzr_aload_n, mzr_lload, mzr_lload_n, mzr_istore, mzr_istore_n, mzr_astore, mzr_astore_n, mzr_lstore, mzr_lstore_n, mzr_iinc, mzr_iadd, mzr_isub, mzr_imul, mzr_iand, mzr_ior, mzr_ixor, mzr_ishl, mzr_ishr, mzr_iushr, mzr_idiv, mzr_irem, mzr_ineg, mzr_ladd, mzr_lsub, mzr_lmul, mzr_lrem, mzr_lcmp, mzr_i2l, mzr_l2i, mzr_i2b, mzr_dup, mzr_pop, mzr_dup2, mzr_ifCond_eq, mzr_if_icmp_eq, mzr_ifCond_ne, mzr_if_icmp_ne, mzr_ifCond_lt, mzr_if_icmp_lt, mzr_ifCond_ge, mzr_if_icmp_ge, mzr_ifCond_gt, mzr_if_icmp_gt, mzr_ifCond_le, mzr_if_icmp_le, mzr_goto, mzr_iaload, mzr_baload, mzr_laload, mzr_aaload, mzr_iastore, mzr_bastore, mzr_lastore, mzr_arraylength, mzr_getfield, mzr_putfield, mzr_getstatic, mzr_ldc, mzr_ldc_w, mzr_ldc2_w, mzr_ireturn, mzr_return_, mzr_copy, mzr_static, mzr_virtual, mzr_new, mz_tk, mz_dp, mz_ln, mz_sz, mz_af_v, mz_af_s, mz_wp_s, mz_w1, mz_g, mz_st, mz_k, mz_s2, mz_nx, mz_en, mx_to, mz_c1, ↓reduceIte, Nat.reduceAdd, Nat.reduceSub, Nat.reduceMul, Nat.reduceMod, Nat.reduceDiv, Nat.reduceEqDiff, Nat.reduceLeDiff, Nat.reduceLT, Int.reduceAdd, Int.reduceSub, Int.reduceNeg, Int.reduceMul, Int.reduceLE, Int.reduceLT, Int.reduceEq, Int.reduceToNat, Int.reduceNegSucc, Int.cast_ofNat_Int, Int32.reduceToInt, Int64.reduceToInt, Int.zero_add, Int.add_zero, Fin.isValue, Fin.val_zero, Fin.val_one, Fin.val_two, reduceCtorEq, or_false, false_or, or_true, true_or, or_self, and_true, true_and, and_self, not_true_eq_false, not_false_eq_true, implies_true, forall_const, List.mem_cons, List.not_mem_nil, false_implies, true_implies, imp_false, Nat.zero_add, Option.some.injEq, Prod.mk.injEq]
          repeat' first | omega | refine mz_it (fun hh => ?_) (fun hh => ?_) | refine And.intro ?_ ?_
          obtain ⟨x, y, q1, q2, q3⟩ := hl
          exact fin 0 (Or.inr ⟨rfl, fun q => q3 (q.2 x y q1 q2)⟩)
      · simp only [mf_Ideal_findBasis, ca_Ideal_findBasis, dc_Ideal_findBasis_0, dc_Ideal_findBasis_1, dc_Ideal_findBasis_2, dc_Ideal_findBasis_3, dc_Ideal_findBasis_4, dc_Ideal_findBasis_5, dc_Ideal_findBasis_6, dc_Ideal_findBasis_7, fl_Ideal, sl_Ideal, sg_Space_build, sg_Ideal_isCorner, sg_Ideal_greatestDegree, sg_Ideal_pairsAreLow, i0, d0, d4, d5, k272, mzr_iconst, mzr_bipush, mzr_sipush, mzr_lconst, mzr_iload, mzr_iload_n, mzr_aload, mzr_aload_n, mzr_lload, mzr_lload_n, mzr_istore, mzr_istore_n, mzr_astore, mzr_astore_n, mzr_lstore, mzr_lstore_n, mzr_iinc, mzr_iadd, mzr_isub, mzr_imul, mzr_iand, mzr_ior, mzr_ixor, mzr_ishl, mzr_ishr, mzr_iushr, mzr_idiv, mzr_irem, mzr_ineg, mzr_ladd, mzr_lsub, mzr_lmul, mzr_lrem, mzr_lcmp, mzr_i2l, mzr_l2i, mzr_i2b, mzr_dup, mzr_pop, mzr_dup2, mzr_ifCond_eq, mzr_if_icmp_eq, mzr_ifCond_ne, mzr_if_icmp_ne, mzr_ifCond_lt, mzr_if_icmp_lt, mzr_ifCond_ge, mzr_if_icmp_ge, mzr_ifCond_gt, mzr_if_icmp_gt, mzr_ifCond_le, mzr_if_icmp_le, mzr_goto, mzr_iaload, mzr_baload, mzr_laload, mzr_aaload, mzr_iastore, mzr_bastore, mzr_lastore, mzr_arraylength, mzr_getfield, mzr_putfield, mzr_getstatic, mzr_ldc, mzr_ldc_w, mzr_ldc2_w, mzr_ireturn, mzr_return_, mzr_copy, mzr_static, mzr_virtual, mzr_new, mz_tk, mz_dp, mz_ln, mz_sz, mz_af_v, mz_af_s, mz_wp_s, mz_w1, mz_g, mz_st, mz_k, mz_s2, mz_nx, mz_en, mx_to, mz_c1, ↓reduceIte, Nat.reduceAdd, Nat.reduceSub, Nat.reduceMul, Nat.reduceMod, Nat.reduceDiv, Nat.reduceEqDiff, Nat.reduceLeDiff, Nat.reduceLT, Int.reduceAdd, Int.reduceSub, Int.reduceNeg, Int.reduceMul, Int.reduceLE, Int.reduceLT, Int.reduceEq, Int.reduceToNat, Int.reduceNegSucc, Int.cast_ofNat_Int, Int32.reduceToInt, Int64.reduceToInt, Int.zero_add, Int.add_zero, Fin.isValue, Fin.val_zero, Fin.val_one, Fin.val_two, reduceCtorEq, or_false, false_or, or_true, true_or, or_self, and_true, true_and, and_self, not_true_eq_false, not_false_eq_true, implies_true, forall_const, List.mem_cons, List.not_mem_nil, false_implies, true_implies, imp_false, Nat.zero_add, Option.some.injEq, Prod.mk.injEq]
        repeat' first | omega | refine mz_it (fun hh => ?_) (fun hh => ?_) | refine And.intro ?_ ?_
        exact fin 0 (Or.inr ⟨rfl, fun q => hgd q.1⟩)
    | succ k ih =>
      intro m K c H1 h1 h2 h3 h4 h5 h6
      have hm : m < tb_F n (dd + 1) := by omega
      have hS1 := hS0.fr h2 (fun j hj => by simp; omega)
      have z2 := hS1.2.2.2.2.2.2.1 dd hd
      have e1 : ∀ a, a ≠ i → a ≠ i + 272 → H1.2.1 a = h0.2.1 a := fun a q q' => h2.2.2 a (by simp; exact ⟨q, q'⟩)
      have hCi := se_C (by omega) hok hd hD0 hm
      rw [show i + 11 + 129 = i + 140 by omega] at hCi
      apply mz_go hG 120 [24]
      simp only [mf_Ideal_findBasis, ca_Ideal_findBasis, dc_Ideal_findBasis_0, dc_Ideal_findBasis_1, dc_Ideal_findBasis_2, dc_Ideal_findBasis_3, dc_Ideal_findBasis_4, dc_Ideal_findBasis_5, dc_Ideal_findBasis_6, dc_Ideal_findBasis_7, fl_Ideal, sl_Ideal, sg_Space_build, sg_Ideal_isCorner, sg_Ideal_greatestDegree, sg_Ideal_pairsAreLow, i0, d0, d4, d5, k272, r0, f5, f6, f7, f8, f9, f10, f11, f12, f13, f14, k1, k2, k3, k4, k5, k6, k7, k8, k9, k10, z2, Int.toNat_natCast, mzr_iconst, mzr_bipush, mzr_sipush, mzr_lconst, mzr_iload, mzr_iload_n, mzr_aload, mzr_aload_n, mzr_lload, mzr_lload_n, mzr_istore, mzr_istore_n, mzr_astore, mzr_astore_n, mzr_lstore, mzr_lstore_n, mzr_iinc, mzr_iadd, mzr_isub, mzr_imul, mzr_iand, mzr_ior, mzr_ixor, mzr_ishl, mzr_ishr, mzr_iushr, mzr_idiv, mzr_irem, mzr_ineg, mzr_ladd, mzr_lsub, mzr_lmul, mzr_lrem, mzr_lcmp, mzr_i2l, mzr_l2i, mzr_i2b, mzr_dup, mzr_pop, mzr_dup2, mzr_ifCond_eq, mzr_if_icmp_eq, mzr_ifCond_ne, mzr_if_icmp_ne, mzr_ifCond_lt, mzr_if_icmp_lt, mzr_ifCond_ge, mzr_if_icmp_ge, mzr_ifCond_gt, mzr_if_icmp_gt, mzr_ifCond_le, mzr_if_icmp_le, mzr_goto, mzr_iaload, mzr_baload, mzr_laload, mzr_aaload, mzr_iastore, mzr_bastore, mzr_lastore, mzr_arraylength, mzr_getfield, mzr_putfield, mzr_getstatic, mzr_ldc, mzr_ldc_w, mzr_ldc2_w, mzr_ireturn, mzr_return_, mzr_copy, mzr_static, mzr_virtual, mzr_new, mz_tk, mz_dp, mz_ln, mz_sz, mz_af_v, mz_af_s, mz_wp_s, mz_w1, mz_g, mz_st, mz_k, mz_s2, mz_nx, mz_en, mx_to, mz_c1, ↓reduceIte, Nat.reduceAdd, Nat.reduceSub, Nat.reduceMul, Nat.reduceMod, Nat.reduceDiv, Nat.reduceEqDiff, Nat.reduceLeDiff, Nat.reduceLT, Int.reduceAdd, Int.reduceSub, Int.reduceNeg, Int.reduceMul, Int.reduceLE, Int.reduceLT, Int.reduceEq, Int.reduceToNat, Int.reduceNegSucc, Int.cast_ofNat_Int, Int32.reduceToInt, Int64.reduceToInt, Int.zero_add, Int.add_zero, Fin.isValue, Fin.val_zero, Fin.val_one, Fin.val_two, reduceCtorEq, or_false, false_or, or_true, true_or, or_self, and_true, true_and, and_self, not_true_eq_false, not_false_eq_true, implies_true, forall_const, List.mem_cons, List.not_mem_nil, false_implies, true_implies, imp_false, Nat.zero_add, Option.some.injEq, Prod.mk.injEq]
      repeat' first | omega | refine mz_it (fun hh => ?_) (fun hh => ?_) | refine And.intro ?_ ?_
      refine ct_isCorner (d + 4) hG hI' hR' hok hS1 (by omega) (fun a1 a2 => ?_) (fun a1 => ?_)
      · rw [e1 _ (by omega) (by omega)] at a1 a2
        have hC := hCi.mpr ⟨a1, a2⟩
        simp only [mf_Ideal_findBasis, ca_Ideal_findBasis, dc_Ideal_findBasis_0, dc_Ideal_findBasis_1, dc_Ideal_findBasis_2, dc_Ideal_findBasis_3, dc_Ideal_findBasis_4, dc_Ideal_findBasis_5, dc_Ideal_findBasis_6, dc_Ideal_findBasis_7, fl_Ideal, sl_Ideal, sg_Space_build, sg_Ideal_isCorner, sg_Ideal_greatestDegree, sg_Ideal_pairsAreLow, i0, d0, d4, d5, k272, h4, Int.toNat_natCast, mz_w_g, Nat.left_eq_add, Nat.add_left_cancel_iff, Nat.add_eq_left, false_and, if_false, if_true, mzr_iconst, mzr_bipush, mzr_sipush, mzr_lconst, mzr_iload, mzr_iload_n, mzr_aload, mzr_aload_n, mzr_lload, mzr_lload_n, mzr_istore, mzr_istore_n, mzr_astore, mzr_astore_n, mzr_lstore, mzr_lstore_n, mzr_iinc, mzr_iadd, mzr_isub, mzr_imul, mzr_iand, mzr_ior, mzr_ixor, mzr_ishl, mzr_ishr, mzr_iushr, mzr_idiv, mzr_irem, mzr_ineg, mzr_ladd, mzr_lsub, mzr_lmul, mzr_lrem, mzr_lcmp, mzr_i2l, mzr_l2i, mzr_i2b, mzr_dup, mzr_pop, mzr_dup2, mzr_ifCond_eq, mzr_if_icmp_eq, mzr_ifCond_ne, mzr_if_icmp_ne, mzr_ifCond_lt, mzr_if_icmp_lt, mzr_ifCond_ge, mzr_if_icmp_ge, mzr_ifCond_gt, mzr_if_icmp_gt, mzr_ifCond_le, mzr_if_icmp_le, mzr_goto, mzr_iaload, mzr_baload, mzr_laload, mzr_aaload, mzr_iastore, mzr_bastore, mzr_lastore, mzr_arraylength, mzr_getfield, mzr_putfield, mzr_getstatic, mzr_ldc, mzr_ldc_w, mzr_ldc2_w, mzr_ireturn, mzr_return_, mzr_copy, mzr_static, mzr_virtual, mzr_new, mz_tk, mz_dp, mz_ln, mz_sz, mz_af_v, mz_af_s, mz_wp_s, mz_w1, mz_g, mz_st, mz_k, mz_s2, mz_nx, mz_en, mx_to, mz_c1, ↓reduceIte, Nat.reduceAdd, Nat.reduceSub, Nat.reduceMul, Nat.reduceMod, Nat.reduceDiv, Nat.reduceEqDiff, Nat.reduceLeDiff, Nat.reduceLT, Int.reduceAdd, Int.reduceSub, Int.reduceNeg, Int.reduceMul, Int.reduceLE, Int.reduceLT, Int.reduceEq, Int.reduceToNat, Int.reduceNegSucc, Int.cast_ofNat_Int, Int32.reduceToInt, Int64.reduceToInt, Int.zero_add, Int.add_zero, Fin.isValue, Fin.val_zero, Fin.val_one, Fin.val_two, reduceCtorEq, or_false, false_or, or_true, true_or, or_self, and_true, true_and, and_self, not_true_eq_false, not_false_eq_true, implies_true, forall_const, List.mem_cons, List.not_mem_nil, false_implies, true_implies, imp_false, Nat.zero_add, Option.some.injEq, Prod.mk.injEq]
        repeat' first | omega | refine mz_it (fun hh => ?_) (fun hh => ?_) | refine And.intro ?_ ?_
        rw [show (m : Int) + 1 = ((m + 1 : Nat) : Int) by omega]
        refine ih (m + 1) (K + 1) (fun k => if k = K then m else c k) _ (by omega) ((h2.tr (mz_fr.w _ _ _ _ (by simp))).tr (mz_fr.w _ _ _ _ (by simp))) ?_ ?_ (by omega) ⟨fun k hk => ?_, fun j k hjk hk => ?_, fun x hx hCx => ?_⟩
        · rw [mz_w_g, if_neg (by omega), mz_w_g, if_neg (by omega), h3]
        · rw [mz_w_g, if_pos ⟨rfl, rfl⟩]; omega
        · by_cases hkK : k = K
          · simp only [if_pos hkK]
            refine ⟨?_, hm, hC, by omega⟩
            rw [mz_w_g, if_neg (by omega), mz_w_g, if_pos ⟨rfl, hkK⟩]
          · simp only [if_neg hkK]
            have := h6.1 k (by omega)
            refine ⟨?_, this.2.1, this.2.2.1, by have := this.2.2.2; omega⟩
            rw [mz_w_g, if_neg (by omega), mz_w_g, if_neg (by omega), this.1]
        · by_cases hkK : k = K
          · simp only [if_pos hkK, if_neg (show ¬ j = K by omega)]
            exact (h6.1 j (by omega)).2.2.2
          · simp only [if_neg hkK, if_neg (show ¬ j = K by omega)]
            exact h6.2.1 j k hjk (by omega)
        · by_cases hxm : x = m
          · exact ⟨K, by omega, by simp only [if_true]; exact hxm.symm⟩
          · obtain ⟨k, hk, hkx⟩ := h6.2.2 x hx ⟨hCx.1, by have := hCx.2; omega⟩
            exact ⟨k, by omega, by show (if k = K then m else c k) = x; rw [if_neg (by omega)]; exact hkx⟩
      · rw [e1 _ (by omega) (by omega)] at a1
        have hC : ¬ sC n o (se_L M ld) m := fun q => by
          have := hCi.mp q
          rcases a1 with a1 | ⟨v, b1, b2, b3⟩
          · exact this.1 a1
          · rcases this.2 v b1 with q1 | q1
            · exact b2 q1
            · exact b3 q1
        simp only [mf_Ideal_findBasis, ca_Ideal_findBasis, dc_Ideal_findBasis_0, dc_Ideal_findBasis_1, dc_Ideal_findBasis_2, dc_Ideal_findBasis_3, dc_Ideal_findBasis_4, dc_Ideal_findBasis_5, dc_Ideal_findBasis_6, dc_Ideal_findBasis_7, fl_Ideal, sl_Ideal, sg_Space_build, sg_Ideal_isCorner, sg_Ideal_greatestDegree, sg_Ideal_pairsAreLow, i0, d0, d4, d5, k272, h4, Int.toNat_natCast, mzr_iconst, mzr_bipush, mzr_sipush, mzr_lconst, mzr_iload, mzr_iload_n, mzr_aload, mzr_aload_n, mzr_lload, mzr_lload_n, mzr_istore, mzr_istore_n, mzr_astore, mzr_astore_n, mzr_lstore, mzr_lstore_n, mzr_iinc, mzr_iadd, mzr_isub, mzr_imul, mzr_iand, mzr_ior, mzr_ixor, mzr_ishl, mzr_ishr, mzr_iushr, mzr_idiv, mzr_irem, mzr_ineg, mzr_ladd, mzr_lsub, mzr_lmul, mzr_lrem, mzr_lcmp, mzr_i2l, mzr_l2i, mzr_i2b, mzr_dup, mzr_pop, mzr_dup2, mzr_ifCond_eq, mzr_if_icmp_eq, mzr_ifCond_ne, mzr_if_icmp_ne, mzr_ifCond_lt, mzr_if_icmp_lt, mzr_ifCond_ge, mzr_if_icmp_ge, mzr_ifCond_gt, mzr_if_icmp_gt, mzr_ifCond_le, mzr_if_icmp_le, mzr_goto, mzr_iaload, mzr_baload, mzr_laload, mzr_aaload, mzr_iastore, mzr_bastore, mzr_lastore, mzr_arraylength, mzr_getfield, mzr_putfield, mzr_getstatic, mzr_ldc, mzr_ldc_w, mzr_ldc2_w, mzr_ireturn, mzr_return_, mzr_copy, mzr_static, mzr_virtual, mzr_new, mz_tk, mz_dp, mz_ln, mz_sz, mz_af_v, mz_af_s, mz_wp_s, mz_w1, mz_g, mz_st, mz_k, mz_s2, mz_nx, mz_en, mx_to, mz_c1, ↓reduceIte, Nat.reduceAdd, Nat.reduceSub, Nat.reduceMul, Nat.reduceMod, Nat.reduceDiv, Nat.reduceEqDiff, Nat.reduceLeDiff, Nat.reduceLT, Int.reduceAdd, Int.reduceSub, Int.reduceNeg, Int.reduceMul, Int.reduceLE, Int.reduceLT, Int.reduceEq, Int.reduceToNat, Int.reduceNegSucc, Int.cast_ofNat_Int, Int32.reduceToInt, Int64.reduceToInt, Int.zero_add, Int.add_zero, Fin.isValue, Fin.val_zero, Fin.val_one, Fin.val_two, reduceCtorEq, or_false, false_or, or_true, true_or, or_self, and_true, true_and, and_self, not_true_eq_false, not_false_eq_true, implies_true, forall_const, List.mem_cons, List.not_mem_nil, false_implies, true_implies, imp_false, Nat.zero_add, Option.some.injEq, Prod.mk.injEq]
        repeat' first | omega | refine mz_it (fun hh => ?_) (fun hh => ?_) | refine And.intro ?_ ?_
        rw [show (m : Int) + 1 = ((m + 1 : Nat) : Int) by omega]
        refine ih (m + 1) K c H1 (by omega) h2 h3 h4 (by omega) ⟨fun k hk => ?_, h6.2.1, fun x hx hCx => ?_⟩
        · have := h6.1 k hk
          exact ⟨this.1, this.2.1, this.2.2.1, by have := this.2.2.2; omega⟩
        · by_cases hxm : x = m
          · exact absurd (hxm ▸ hCx.1) hC
          · exact h6.2.2 x hx ⟨hCx.1, by have := hCx.2; omega⟩
  have f1 : mz_fr h0 (mz_w h0 i 6 0) [i, i + 272] := mz_fr.w _ _ _ _ (by simp)
  refine lp (tb_F n (dd + 1)) 0 0 (fun _ => 0) _ (by omega) f1 ?_ ?_ (by omega) ⟨fun k hk => by omega, fun j k hjk hk => by omega, fun x hx hCx => by omega⟩
  · rw [mz_w_g, if_neg (by omega), e0 _ (by omega)]
  · rw [mz_w_g, if_pos ⟨rfl, rfl⟩]; rfl
