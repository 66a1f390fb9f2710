def fb_g (p : Int) (n o : Nat) (w : Nat → Int) (x : al_M) (j : Nat) : Int := if tb_T n o j = x then (if w j = 0 then 0 else p - w j) else 0
theorem fb_n {p : Int} (hp : 2 ≤ p) {n o E c N : Nat} (hok : tb_ok n o) (hE : E ≤ tb_N n) (hc : c < E) {l : List al_M} {St : al_M → Prop} {V : (Nat → Int) → Prop} {nf : al_M → al_M → Int} (hnf : nf_A p n o l St E V nf) {w : Nat → Int} (hV : V w) (h1 : w c = 1) (h2 : ∀ j, c < j → w j = 0) (h3 : ∀ j, j < c → w j ≠ 0 → St (tb_T n o j)) (x : al_M) :
    al_e p (al_S c (fb_g p n o w x)) (nf (tb_T n o c) x) := by
  have h4 := hnf.2.2.2 w x hV
  rw [al_S_x (n := c + 1) (by omega) (fun i h8 _ => by rw [h2 i (by omega), Int.zero_mul]), al_S_s, h1, Int.one_mul] at h4
  have h5 : al_e p (al_S c (fun j => w j * nf (tb_T n o j) x)) (- al_S c (fb_g p n o w x)) := by
    rw [← al_S_n]
    refine al_e_S (fun j hj => ?_)
    unfold fb_g
    by_cases hz : w j = 0
    · rw [hz, Int.zero_mul, if_pos rfl]
      refine al_e_of ?_
      split <;> rfl
    · rw [hnf.1 _ _ (h3 j hj hz), if_neg hz]
      by_cases hx : tb_T n o j = x
      · rw [if_pos hx, if_pos hx.symm, Int.mul_one]
        exact ⟨1, by omega⟩
      · rw [if_neg hx, if_neg (fun q => hx q.symm), Int.mul_zero]
        exact al_e_r _ _
  have h6 := al_e_t (al_e_a (al_e_s h5) (al_e_r p (nf (tb_T n o c) x))) h4
  have h7 := al_e_a h6 (al_e_r p (al_S c (fb_g p n o w x)))
  exact al_e_s (al_e_t (al_e_of (by omega)) (al_e_t h7 (al_e_of (by omega))))
theorem fb_0 {p : Int} {n o m : Nat} (hok : tb_ok n o) (hm : m < tb_N n) (w : Nat → Int) : al_S m (fb_g p n o w (tb_T n o m)) = 0 := by
  refine al_S_z (fun j hj => ?_)
  unfold fb_g
  rw [if_neg]
  intro q
  have := tb_T_i hok (show j < tb_N n by omega) hm q
  omega
theorem fb_x {p : Int} {n o m : Nat} {w : Nat → Int} {x : al_M} (h : w m = 0 ∨ tb_T n o m ≠ x) : al_S (m + 1) (fb_g p n o w x) = al_S m (fb_g p n o w x) := by
  rw [al_S_s]
  have : fb_g p n o w x m = 0 := by
    unfold fb_g
    rcases h with h | h
    · rw [if_pos h]; split <;> rfl
    · rw [if_neg h]
  omega
theorem se_st {H : mz_H} {s : Nat} {p : Int} {n o d M : Nat} {ld : Nat → Nat} {gm : Nat} {gen : Nat → Nat → Int} (hp : 1 < p) (hok : tb_ok n o) (hd : d ≤ tb_h n) (hE : tb_F n (d + 1) ≤ 126) (h : se_D H s p n o d M ld gm gen) {j : Nat} (hj : j < tb_F n (d + 1)) (hn : ¬ se_L M ld j) : ¬ ∃ c, sC n o (se_L M ld) c ∧ al_le (tb_T n o c) (tb_T n o j) := by
  rintro ⟨c, hc, hle⟩
  obtain ⟨a, ha⟩ := al_le_i.mp hle
  exact hn (sL_up hp hok hd (se_ec h.1.1 hE) (se_hr h) (se_hl hE h) hc.1 hj ha)
set_option maxRecDepth 100000 in
theorem ct_formFromBasis {e : mz_E} (d : Nat) {u r i n o b K dd M k0 gm : Nat} {p : Int} {cor : Nat → al_M} {l : List al_M} {ld : Nat → Nat} {gen : Nat → Nat → Int} {nf : al_M → al_M → Int} {H : mz_H} {P : mz_O → mz_H → Prop} (hG : mx_G e.1) (hE : qu_E e u) (hR : rg_E e r) (hI : id_E e i) (hok : tb_ok n o) (hd : dd ≤ tb_h n) (hp2 : 2 ≤ p ∧ p < 32768) (hS : rg_S H r p n o) (hru : r + 10 < u) (hiu : i + 272 < u ∨ u + 166 < i) (hri : r + 10 < i) (hl : ql_S H u l) (hl40 : l.length ≤ 40) (hb : b < 160)
    (hs : se_D H (i + 11) p n o dd M ld gm gen) (hk0 : k0 < M) (hinj : ∀ i j, i < l.length → j < l.length → fg_B l i = fg_B l j → i = j) (hld : ∀ i, i < l.length → al_dg (fg_B l i) ≤ 40)
    (hst : ∀ m, (¬ ∃ c, sC n o (se_L M ld) c ∧ al_le (tb_T n o c) m) → sd_b K cor m = true) (hall : ∀ m, tb_v n m → sd_b K cor m = true → ∃ k, k < l.length ∧ m = fg_B l k)
    (hnf : nf_A p n o l (fun m => sd_b K cor m = true) (tb_F n (dd + 1)) (sV p n o dd (sG n o dd gm gen)) nf) (hz : ∀ k, k < 40 → H.2.1 (u + 5 + b) k = 0)
    (hP : ∀ h, mz_fr H h [i + 11 + 259, i + 11 + 260, u + 166, u + 5 + b] → fo_1 p (h.2.1 (u + 5 + b)) l nf (tb_T n o (ld k0)) → P (.inl none) h) :
    mz_CA e (d + 4) j_Quotient_formFromBasis [.inr (.inl u), .inr (.inl r), .inr (.inl i), .inl (ld k0 : Int), .inl (b : Int)] H P := by
  have hE' := hE
  have r0' := hR.1
  have i0' := hI.1
  have i4 := hI.2.2.1
  have hsa := hI.2.2.2.2.2.2
  have s0' := hsa.1.1
  have hEN := tb_F_N hok (d := dd + 1) (by omega)
  have hN := tb_N_b n
  have hk0b := (hs.1.1.2.2.1 k0 hk0).1
  obtain ⟨⟨u0, u1, u3, u5, u6, u7, u8⟩, ⟨k1, k2, k3, k4, k165, k166⟩, uf⟩ := hE
  have ub := uf b hb
  have ub1 := ub.1
  have ub2 := ub.2
  refine mz_CA_of mr_Quotient_formFromBasis ?_
  simp only [mf_Quotient_formFromBasis, mz_en, List.replicate, Nat.reduceSub, Nat.reduceAdd, Nat.reduceMul]
  apply mz_go hG 60 [16]
  simp only [mf_Quotient_formFromBasis, ca_Quotient_formFromBasis, dc_Quotient_formFromBasis_0, dc_Quotient_formFromBasis_1, dc_Quotient_formFromBasis_2, dc_Quotient_formFromBasis_3, dc_Quotient_formFromBasis_4, dc_Quotient_formFromBasis_5, fl_Quotient, sl_Quotient, sg_Space_reducedInto, sg_Packed_pack, sg_Packed_find, sg_Ring_negative, cpn_quotient_0, cpn_quotient_1, mx_cp_r, u0, i0', i4, u8, s0', mzr_iconst, mzr_bipush, mzr_sipush, mzr_lconst, mzr_iload, mzr_iload_n, mzr_aload, mzr_aload_n, mzr_lload, mzr_lload_n, mzr_istore, mzr_istore_n, mzr_astore, mzr_astore_n, mzr_lstore, mzr_lstore_n, mzr_iinc, mzr_iadd, mzr_isub, mzr_imul, mzr_iand, mzr_ior, mzr_ixor, mzr_ishl, mzr_ishr, mzr_iushr, mzr_idiv, mzr_irem, mzr_ineg, mzr_ladd, mzr_lsub, mzr_lmul, mzr_lrem, mzr_lcmp, mzr_i2l, mzr_l2i, mzr_i2b, mzr_dup, mzr_pop, mzr_dup2, mzr_ifCond_eq, mzr_if_icmp_eq, mzr_ifCond_ne, mzr_if_icmp_ne, mzr_ifCond_lt, mzr_if_icmp_lt, mzr_ifCond_ge, mzr_if_icmp_ge, mzr_ifCond_gt, mzr_if_icmp_gt, mzr_ifCond_le, mzr_if_icmp_le, mzr_goto, mzr_iaload, mzr_baload, mzr_laload, mzr_aaload, mzr_iastore, mzr_bastore, mzr_lastore, mzr_arraylength, mzr_getfield, mzr_putfield, mzr_getstatic, mzr_ldc, mzr_ldc_w, mzr_ldc2_w, mzr_ireturn, mzr_return_, mzr_copy, mzr_static, mzr_virtual, mzr_new, mz_tk, mz_dp, mz_ln, mz_sz, mz_af_v, mz_af_s, mz_wp_s, mz_w1, mz_g, mz_st, mz_k, mz_s2, mz_nx, mz_en, mx_to, mz_c1, ↓reduceIte, Nat.reduceAdd, Nat.reduceSub, Nat.reduceMul, Nat.reduceMod, Nat.reduceDiv, Nat.reduceEqDiff, Nat.reduceLeDiff, Nat.reduceLT, Int.reduceAdd, Int.reduceSub, Int.reduceNeg, Int.reduceMul, Int.reduceLE, Int.reduceLT, Int.reduceEq, Int.reduceToNat, Int.reduceNegSucc, Int.cast_ofNat_Int, Int32.reduceToInt, Int64.reduceToInt, Int.zero_add, Int.add_zero, Fin.isValue, Fin.val_zero, Fin.val_one, Fin.val_two, reduceCtorEq, or_false, false_or, or_true, true_or, or_self, and_true, true_and, and_self, not_true_eq_false, not_false_eq_true, implies_true, forall_const, List.mem_cons, List.not_mem_nil, false_implies, true_implies, imp_false, Nat.zero_add, Option.some.injEq, Prod.mk.injEq]
  repeat' first | omega | refine mz_it (fun hh => ?_) (fun hh => ?_) | refine And.intro ?_ ?_
  refine ct_reducedInto d hG hR hsa k166 hok hd hp2 hS hs.1.1 (fun a b h1 h2 => by omega) (fun j hj => by omega) (fun j hj => by omega) hk0 (fun h1 sh f1 w1 w2 w3 w4 w5 => ?_)
  have hwV : sV p n o dd (sG n o dd gm gen) (cu (h1.2.1 (u + 166))) := by
    have hVL := al_V_L p (sG n o dd gm gen) (fun v => al_up (tb_N n) (tb_T n o) (tb_x v)) n (tb_F n dd)
    have hrow := hs.1.2.2
    have hsum := al_L_S hVL M sh (fun k => cu (H.2.1 (i + 11 + 2 + k))) (fun k hk => Or.inr (hrow k hk))
    refine hVL.2.1 _ _ (al_L_d hVL (hrow k0 hk0) hsum) (fun j => ?_)
    by_cases hj : j < 126
    · rw [cu_1 hj, cu_1 hj]
      have h6 := al_e_d (w5 j hj) (al_e_r p (al_S M (fun k => sh k * H.2.1 (i + 11 + 2 + k) j)))
      rw [al_S_c (g := fun k => sh k * H.2.1 (i + 11 + 2 + k) j) (fun k _ => by rw [cu_1 hj])]
      exact al_e_t (al_e_of (by omega)) (al_e_s h6)
    · unfold cu
      rw [if_neg hj, if_neg hj, al_S_z (fun k _ => by rw [if_neg hj, Int.mul_zero])]
      exact al_e_of (by omega)
  have hwst : ∀ j, j < ld k0 → h1.2.1 (u + 166) j ≠ 0 → sd_b K cor (tb_T n o j) = true := by
    intro j hj hz
    refine hst _ (se_st (by omega) hok hd (by omega) hs (by omega) ?_)
    rintro ⟨k, hk, rfl⟩
    by_cases hkk : k = k0
    · rw [hkk] at hj; omega
    · exact hz (w3 k hk hkk)
  have lp : ∀ (q m : Nat) (h : mz_H) o6, m + q = ld k0 → mz_fr h1 h [u + 5 + b] → (∀ k, k < l.length → h.2.1 (u + 5 + b) k = al_S m (fb_g p n o (h1.2.1 (u + 166)) (fg_B l k)) ∧ 0 ≤ h.2.1 (u + 5 + b) k ∧ h.2.1 (u + 5 + b) k < p) → (∀ k, l.length ≤ k → k < 40 → h.2.1 (u + 5 + b) k = 0) →
      mz_V e (d + 4) mm_Quotient_formFromBasis 16 [some (.inr (.inl u)), some (.inr (.inl r)), some (.inr (.inl i)), some (.inl (ld k0 : Int)), some (.inl (b : Int)), some (.inl (m : Int)), o6] [] h P := by
    intro q
    induction q with
    | zero =>
      intro m h o6 g1 g2 g3 g4
      obtain rfl : m = ld k0 := by omega
      have fin := hP h ((f1.mono (by simp)).tr (g2.mono (by simp))) (fun k hk => by
        by_cases hkl : k < l.length
        · obtain ⟨z1, z2, z3⟩ := g3 k hkl
          refine ⟨z2, z3, fun _ => ?_, fun hq => by omega⟩
          rw [z1]
          have hc0 : ld k0 < 126 := by omega
          have e1 : al_S (ld k0) (fb_g p n o (h1.2.1 (u + 166)) (fg_B l k)) = al_S (ld k0) (fb_g p n o (cu (h1.2.1 (u + 166))) (fg_B l k)) := by
            refine al_S_c (fun j hj => ?_)
            unfold fb_g
            rw [cu_1 (by omega)]
          rw [e1]
          refine fb_n hp2.1 hok hEN hk0b hnf hwV (by rw [cu_1 hc0, w2]) (fun j hj => ?_) (fun j hj hz => ?_) (fg_B l k) (N := 0)
          · unfold cu
            by_cases hj2 : j < 126
            · rw [if_pos hj2, w4 j hj hj2]
            · rw [if_neg hj2]
          · rw [cu_1 (by omega)] at hz
            exact hwst j hj hz
        · have := g4 k (by omega) hk
          exact ⟨by omega, by omega, fun q => by omega, fun _ => this⟩)
      apply mz_go hG 60 [16]
      simp only [mf_Quotient_formFromBasis, ca_Quotient_formFromBasis, dc_Quotient_formFromBasis_0, dc_Quotient_formFromBasis_1, dc_Quotient_formFromBasis_2, dc_Quotient_formFromBasis_3, dc_Quotient_formFromBasis_4, dc_Quotient_formFromBasis_5, fl_Quotient, sl_Quotient, sg_Space_reducedInto, sg_Packed_pack, sg_Packed_find, sg_Ring_negative, cpn_quotient_0, cpn_quotient_1, mx_cp_r, u0, mzr_iconst, mzr_bipush, mzr_sipush, mzr_lconst, mzr_iload, mzr_iload_n, mzr_aload, mzr_aload_n, mzr_lload, mzr_lload_n, mzr_istore, mzr_istore_n, mzr_astore, mzr_astore_n, mzr_lstore, mzr_lstore_n, mzr_iinc, mzr_iadd, mzr_isub, mzr_imul, mzr_iand, mzr_ior, mzr_ixor, mzr_ishl, mzr_ishr, mzr_iushr, mzr_idiv, mzr_irem, mzr_ineg, mzr_ladd, mzr_lsub, mzr_lmul, mzr_lrem, mzr_lcmp, mzr_i2l, mzr_l2i, mzr_i2b, mzr_dup, mzr_pop, mzr_dup2, mzr_ifCond_eq, mzr_if_icmp_eq, mzr_ifCond_ne, mzr_if_icmp_ne, mzr_ifCond_lt, mzr_if_icmp_lt, mzr_ifCond_ge, mzr_if_icmp_ge, mzr_ifCond_gt, mzr_if_icmp_gt, mzr_ifCond_le, mzr_if_icmp_le, mzr_goto, mzr_iaload, mzr_baload, mzr_laload, mzr_aaload, mzr_iastore, mzr_bastore, mzr_lastore, mzr_arraylength, mzr_getfield, mzr_putfield, mzr_getstatic, mzr_ldc, mzr_ldc_w, mzr_ldc2_w, mzr_ireturn, mzr_return_, mzr_copy, mzr_static, mzr_virtual, mzr_new, mz_tk, mz_dp, mz_ln, mz_sz, mz_af_v, mz_af_s, mz_wp_s, mz_w1, mz_g, mz_st, mz_k, mz_s2, mz_nx, mz_en, mx_to, mz_c1, ↓reduceIte, Nat.reduceAdd, Nat.reduceSub, Nat.reduceMul, Nat.reduceMod, Nat.reduceDiv, Nat.reduceEqDiff, Nat.reduceLeDiff, Nat.reduceLT, Int.reduceAdd, Int.reduceSub, Int.reduceNeg, Int.reduceMul, Int.reduceLE, Int.reduceLT, Int.reduceEq, Int.reduceToNat, Int.reduceNegSucc, Int.cast_ofNat_Int, Int32.reduceToInt, Int64.reduceToInt, Int.zero_add, Int.add_zero, Fin.isValue, Fin.val_zero, Fin.val_one, Fin.val_two, reduceCtorEq, or_false, false_or, or_true, true_or, or_self, and_true, true_and, and_self, not_true_eq_false, not_false_eq_true, implies_true, forall_const, List.mem_cons, List.not_mem_nil, false_implies, true_implies, imp_false, Nat.zero_add, Option.some.injEq, Prod.mk.injEq]
      repeat' first | omega | refine mz_it (fun hh => ?_) (fun hh => ?_) | refine And.intro ?_ ?_
      all_goals exact fin
    | succ q ih =>
      intro m h o6 g1 g2 g3 g4
      have zw : h.2.1 (u + 166) m = h1.2.1 (u + 166) m := by rw [g2.2.2 (u + 166) (by simp; omega)]
      by_cases hzm : h1.2.1 (u + 166) m = 0
      · have hx := ih (m + 1) h (some (.inl (-1))) (by omega) g2 (fun k hk => by rw [fb_x (Or.inl hzm)]; exact g3 k hk) g4
        apply mz_go hG 60 [16]
        simp only [mf_Quotient_formFromBasis, ca_Quotient_formFromBasis, dc_Quotient_formFromBasis_0, dc_Quotient_formFromBasis_1, dc_Quotient_formFromBasis_2, dc_Quotient_formFromBasis_3, dc_Quotient_formFromBasis_4, dc_Quotient_formFromBasis_5, fl_Quotient, sl_Quotient, sg_Space_reducedInto, sg_Packed_pack, sg_Packed_find, sg_Ring_negative, cpn_quotient_0, cpn_quotient_1, mx_cp_r, u0, u8, k166, zw, hzm, Int.toNat_natCast, mzr_iconst, mzr_bipush, mzr_sipush, mzr_lconst, mzr_iload, mzr_iload_n, mzr_aload, mzr_aload_n, mzr_lload, mzr_lload_n, mzr_istore, mzr_istore_n, mzr_astore, mzr_astore_n, mzr_lstore, mzr_lstore_n, mzr_iinc, mzr_iadd, mzr_isub, mzr_imul, mzr_iand, mzr_ior, mzr_ixor, mzr_ishl, mzr_ishr, mzr_iushr, mzr_idiv, mzr_irem, mzr_ineg, mzr_ladd, mzr_lsub, mzr_lmul, mzr_lrem, mzr_lcmp, mzr_i2l, mzr_l2i, mzr_i2b, mzr_dup, mzr_pop, mzr_dup2, mzr_ifCond_eq, mzr_if_icmp_eq, mzr_ifCond_ne, mzr_if_icmp_ne, mzr_ifCond_lt, mzr_if_icmp_lt, mzr_ifCond_ge, mzr_if_icmp_ge, mzr_ifCond_gt, mzr_if_icmp_gt, mzr_ifCond_le, mzr_if_icmp_le, mzr_goto, mzr_iaload, mzr_baload, mzr_laload, mzr_aaload, mzr_iastore, mzr_bastore, mzr_lastore, mzr_arraylength, mzr_getfield, mzr_putfield, mzr_getstatic, mzr_ldc, mzr_ldc_w, mzr_ldc2_w, mzr_ireturn, mzr_return_, mzr_copy, mzr_static, mzr_virtual, mzr_new, mz_tk, mz_dp, mz_ln, mz_sz, mz_af_v, mz_af_s, mz_wp_s, mz_w1, mz_g, mz_st, mz_k, mz_s2, mz_nx, mz_en, mx_to, mz_c1, ↓reduceIte, Nat.reduceAdd, Nat.reduceSub, Nat.reduceMul, Nat.reduceMod, Nat.reduceDiv, Nat.reduceEqDiff, Nat.reduceLeDiff, Nat.reduceLT, Int.reduceAdd, Int.reduceSub, Int.reduceNeg, Int.reduceMul, Int.reduceLE, Int.reduceLT, Int.reduceEq, Int.reduceToNat, Int.reduceNegSucc, Int.cast_ofNat_Int, Int32.reduceToInt, Int64.reduceToInt, Int.zero_add, Int.add_zero, Fin.isValue, Fin.val_zero, Fin.val_one, Fin.val_two, reduceCtorEq, or_false, false_or, or_true, true_or, or_self, and_true, true_and, and_self, not_true_eq_false, not_false_eq_true, implies_true, forall_const, List.mem_cons, List.not_mem_nil, false_implies, true_implies, imp_false, Nat.zero_add, Option.some.injEq, Prod.mk.injEq]
        repeat' first | omega | refine mz_it (fun hh => ?_) (fun hh => ?_) | refine And.intro ?_ ?_
        all_goals exact hx
      · have hsd := hwst m (by omega) hzm
        have hmN : m < tb_N n := by omega
        obtain ⟨s0, hs0, hs1⟩ := hall _ (tb_T_b hok hmN).2 hsd
        have z0 : h.2.1 u 0 = l.length := by rw [g2.2.2 u (by simp; omega), f1.2.2 u (by simp; omega), hl.1]
        have hTd := (tb_T_b hok hmN).1
        have hhb := tb_h_b n
        have hTok := pk_ok_d (show al_dg (tb_T n o m) < 64 by omega)
        have hS1 : rg_S h r p n o := (hS.fr f1 (fun j hj => by simp; omega)).fr g2 (fun j hj => by simp; omega)
        have hw1 := w1 m (by omega)
        have z1 : ∀ k, h.2.1 (u + 1) k = H.2.1 (u + 1) k := fun k => by rw [g2.2.2 (u + 1) (by simp; omega), f1.2.2 (u + 1) (by simp; omega)]
        apply mz_go hG 60 [16]
        simp only [mf_Quotient_formFromBasis, ca_Quotient_formFromBasis, dc_Quotient_formFromBasis_0, dc_Quotient_formFromBasis_1, dc_Quotient_formFromBasis_2, dc_Quotient_formFromBasis_3, dc_Quotient_formFromBasis_4, dc_Quotient_formFromBasis_5, fl_Quotient, sl_Quotient, sg_Space_reducedInto, sg_Packed_pack, sg_Packed_find, sg_Ring_negative, cpn_quotient_0, cpn_quotient_1, mx_cp_r, u0, u8, k166, zw, u1, z0, Int.toNat_natCast, mzr_iconst, mzr_bipush, mzr_sipush, mzr_lconst, mzr_iload, mzr_iload_n, mzr_aload, mzr_aload_n, mzr_lload, mzr_lload_n, mzr_istore, mzr_istore_n, mzr_astore, mzr_astore_n, mzr_lstore, mzr_lstore_n, mzr_iinc, mzr_iadd, mzr_isub, mzr_imul, mzr_iand, mzr_ior, mzr_ixor, mzr_ishl, mzr_ishr, mzr_iushr, mzr_idiv, mzr_irem, mzr_ineg, mzr_ladd, mzr_lsub, mzr_lmul, mzr_lrem, mzr_lcmp, mzr_i2l, mzr_l2i, mzr_i2b, mzr_dup, mzr_pop, mzr_dup2, mzr_ifCond_eq, mzr_if_icmp_eq, mzr_ifCond_ne, mzr_if_icmp_ne, mzr_ifCond_lt, mzr_if_icmp_lt, mzr_ifCond_ge, mzr_if_icmp_ge, mzr_ifCond_gt, mzr_if_icmp_gt, mzr_ifCond_le, mzr_if_icmp_le, mzr_goto, mzr_iaload, mzr_baload, mzr_laload, mzr_aaload, mzr_iastore, mzr_bastore, mzr_lastore, mzr_arraylength, mzr_getfield, mzr_putfield, mzr_getstatic, mzr_ldc, mzr_ldc_w, mzr_ldc2_w, mzr_ireturn, mzr_return_, mzr_copy, mzr_static, mzr_virtual, mzr_new, mz_tk, mz_dp, mz_ln, mz_sz, mz_af_v, mz_af_s, mz_wp_s, mz_w1, mz_g, mz_st, mz_k, mz_s2, mz_nx, mz_en, mx_to, mz_c1, ↓reduceIte, Nat.reduceAdd, Nat.reduceSub, Nat.reduceMul, Nat.reduceMod, Nat.reduceDiv, Nat.reduceEqDiff, Nat.reduceLeDiff, Nat.reduceLT, Int.reduceAdd, Int.reduceSub, Int.reduceNeg, Int.reduceMul, Int.reduceLE, Int.reduceLT, Int.reduceEq, Int.reduceToNat, Int.reduceNegSucc, Int.cast_ofNat_Int, Int32.reduceToInt, Int64.reduceToInt, Int.zero_add, Int.add_zero, Fin.isValue, Fin.val_zero, Fin.val_one, Fin.val_two, reduceCtorEq, or_false, false_or, or_true, true_or, or_self, and_true, true_and, and_self, not_true_eq_false, not_false_eq_true, implies_true, forall_const, List.mem_cons, List.not_mem_nil, false_implies, true_implies, imp_false, Nat.zero_add, Option.some.injEq, Prod.mk.injEq]
        repeat' first | omega | refine mz_it (fun hh => ?_) (fun hh => ?_) | refine And.intro ?_ ?_
        refine ct_pack (d + 2) hG hR hok hS1 hmN ?_
        simp only [mf_Quotient_formFromBasis, ca_Quotient_formFromBasis, dc_Quotient_formFromBasis_0, dc_Quotient_formFromBasis_1, dc_Quotient_formFromBasis_2, dc_Quotient_formFromBasis_3, dc_Quotient_formFromBasis_4, dc_Quotient_formFromBasis_5, fl_Quotient, sl_Quotient, sg_Space_reducedInto, sg_Packed_pack, sg_Packed_find, sg_Ring_negative, cpn_quotient_0, cpn_quotient_1, mx_cp_r, u0, mzr_iconst, mzr_bipush, mzr_sipush, mzr_lconst, mzr_iload, mzr_iload_n, mzr_aload, mzr_aload_n, mzr_lload, mzr_lload_n, mzr_istore, mzr_istore_n, mzr_astore, mzr_astore_n, mzr_lstore, mzr_lstore_n, mzr_iinc, mzr_iadd, mzr_isub, mzr_imul, mzr_iand, mzr_ior, mzr_ixor, mzr_ishl, mzr_ishr, mzr_iushr, mzr_idiv, mzr_irem, mzr_ineg, mzr_ladd, mzr_lsub, mzr_lmul, mzr_lrem, mzr_lcmp, mzr_i2l, mzr_l2i, mzr_i2b, mzr_dup, mzr_pop, mzr_dup2, mzr_ifCond_eq, mzr_if_icmp_eq, mzr_ifCond_ne, mzr_if_icmp_ne, mzr_ifCond_lt, mzr_if_icmp_lt, mzr_ifCond_ge, mzr_if_icmp_ge, mzr_ifCond_gt, mzr_if_icmp_gt, mzr_ifCond_le, mzr_if_icmp_le, mzr_goto, mzr_iaload, mzr_baload, mzr_laload, mzr_aaload, mzr_iastore, mzr_bastore, mzr_lastore, mzr_arraylength, mzr_getfield, mzr_putfield, mzr_getstatic, mzr_ldc, mzr_ldc_w, mzr_ldc2_w, mzr_ireturn, mzr_return_, mzr_copy, mzr_static, mzr_virtual, mzr_new, mz_tk, mz_dp, mz_ln, mz_sz, mz_af_v, mz_af_s, mz_wp_s, mz_w1, mz_g, mz_st, mz_k, mz_s2, mz_nx, mz_en, mx_to, mz_c1, ↓reduceIte, Nat.reduceAdd, Nat.reduceSub, Nat.reduceMul, Nat.reduceMod, Nat.reduceDiv, Nat.reduceEqDiff, Nat.reduceLeDiff, Nat.reduceLT, Int.reduceAdd, Int.reduceSub, Int.reduceNeg, Int.reduceMul, Int.reduceLE, Int.reduceLT, Int.reduceEq, Int.reduceToNat, Int.reduceNegSucc, Int.cast_ofNat_Int, Int32.reduceToInt, Int64.reduceToInt, Int.zero_add, Int.add_zero, Fin.isValue, Fin.val_zero, Fin.val_one, Fin.val_two, reduceCtorEq, or_false, false_or, or_true, true_or, or_self, and_true, true_and, and_self, not_true_eq_false, not_false_eq_true, implies_true, forall_const, List.mem_cons, List.not_mem_nil, false_implies, true_implies, imp_false, Nat.zero_add, Option.some.injEq, Prod.mk.injEq]
        repeat' first | omega | refine mz_it (fun hh => ?_) (fun hh => ?_) | refine And.intro ?_ ?_
        refine ct_pfind (d + 3) hG k1 (by omega) (by omega) (fun s hs2 hs3 _ => ?_) (fun hno => ?_)
        · rw [z1, hl.2 s hs2] at hs3
          have hse : fg_B l s = tb_T n o m := pk_i (pk_ok_d (by have := hld s hs2; omega)) hTok (by omega)
          have hpr : h.2.1 r 0 = p := hS1.1
          simp only [mf_Quotient_formFromBasis, ca_Quotient_formFromBasis, dc_Quotient_formFromBasis_0, dc_Quotient_formFromBasis_1, dc_Quotient_formFromBasis_2, dc_Quotient_formFromBasis_3, dc_Quotient_formFromBasis_4, dc_Quotient_formFromBasis_5, fl_Quotient, sl_Quotient, sg_Space_reducedInto, sg_Packed_pack, sg_Packed_find, sg_Ring_negative, cpn_quotient_0, cpn_quotient_1, mx_cp_r, u0, u6, k4, ub1, u8, k166, zw, r0', Int.toNat_natCast, mzr_iconst, mzr_bipush, mzr_sipush, mzr_lconst, mzr_iload, mzr_iload_n, mzr_aload, mzr_aload_n, mzr_lload, mzr_lload_n, mzr_istore, mzr_istore_n, mzr_astore, mzr_astore_n, mzr_lstore, mzr_lstore_n, mzr_iinc, mzr_iadd, mzr_isub, mzr_imul, mzr_iand, mzr_ior, mzr_ixor, mzr_ishl, mzr_ishr, mzr_iushr, mzr_idiv, mzr_irem, mzr_ineg, mzr_ladd, mzr_lsub, mzr_lmul, mzr_lrem, mzr_lcmp, mzr_i2l, mzr_l2i, mzr_i2b, mzr_dup, mzr_pop, mzr_dup2, mzr_ifCond_eq, mzr_if_icmp_eq, mzr_ifCond_ne, mzr_if_icmp_ne, mzr_ifCond_lt, mzr_if_icmp_lt, mzr_ifCond_ge, mzr_if_icmp_ge, mzr_ifCond_gt, mzr_if_icmp_gt, mzr_ifCond_le, mzr_if_icmp_le, mzr_goto, mzr_iaload, mzr_baload, mzr_laload, mzr_aaload, mzr_iastore, mzr_bastore, mzr_lastore, mzr_arraylength, mzr_getfield, mzr_putfield, mzr_getstatic, mzr_ldc, mzr_ldc_w, mzr_ldc2_w, mzr_ireturn, mzr_return_, mzr_copy, mzr_static, mzr_virtual, mzr_new, mz_tk, mz_dp, mz_ln, mz_sz, mz_af_v, mz_af_s, mz_wp_s, mz_w1, mz_g, mz_st, mz_k, mz_s2, mz_nx, mz_en, mx_to, mz_c1, ↓reduceIte, Nat.reduceAdd, Nat.reduceSub, Nat.reduceMul, Nat.reduceMod, Nat.reduceDiv, Nat.reduceEqDiff, Nat.reduceLeDiff, Nat.reduceLT, Int.reduceAdd, Int.reduceSub, Int.reduceNeg, Int.reduceMul, Int.reduceLE, Int.reduceLT, Int.reduceEq, Int.reduceToNat, Int.reduceNegSucc, Int.cast_ofNat_Int, Int32.reduceToInt, Int64.reduceToInt, Int.zero_add, Int.add_zero, Fin.isValue, Fin.val_zero, Fin.val_one, Fin.val_two, reduceCtorEq, or_false, false_or, or_true, true_or, or_self, and_true, true_and, and_self, not_true_eq_false, not_false_eq_true, implies_true, forall_const, List.mem_cons, List.not_mem_nil, false_implies, true_implies, imp_false, Nat.zero_add, Option.some.injEq, Prod.mk.injEq]
          repeat' first | omega | refine mz_it (fun hh => ?_) (fun hh => ?_) | refine And.intro ?_ ?_
          refine ct_negative (d + 3) (x := h1.2.1 (u + 166) m) hG hR hpr hp2 (by omega) ?_
          rw [if_neg hzm]
          have hx := ih (m + 1) (mz_w h (u + 5 + b) s (p - h1.2.1 (u + 166) m)) (some (.inl (s : Int))) (by omega) (g2.tr (mz_fr.w _ _ _ _ (by simp))) (fun k hk => by
            rw [mz_w_g]
            by_cases hks : k = s
            · rw [if_pos ⟨rfl, hks⟩, hks, hse]
              refine ⟨?_, by omega, by omega⟩
              rw [al_S_s, fb_0 hok hmN, Int.zero_add]
              unfold fb_g
              rw [if_pos rfl, if_neg hzm]
            · rw [if_neg (fun q => hks q.2)]
              by_cases hte : tb_T n o m = fg_B l k
              · exfalso
                rw [← hse] at hte
                exact hks (hinj s k hs2 hk hte).symm
              · rw [fb_x (Or.inr hte)]
                exact g3 k hk) (fun k h5 h6 => by rw [mz_w_g, if_neg (by omega)]; exact g4 k h5 h6)
          simp only [mf_Quotient_formFromBasis, ca_Quotient_formFromBasis, dc_Quotient_formFromBasis_0, dc_Quotient_formFromBasis_1, dc_Quotient_formFromBasis_2, dc_Quotient_formFromBasis_3, dc_Quotient_formFromBasis_4, dc_Quotient_formFromBasis_5, fl_Quotient, sl_Quotient, sg_Space_reducedInto, sg_Packed_pack, sg_Packed_find, sg_Ring_negative, cpn_quotient_0, cpn_quotient_1, mx_cp_r, u0, ub2, Int.toNat_natCast, mzr_iconst, mzr_bipush, mzr_sipush, mzr_lconst, mzr_iload, mzr_iload_n, mzr_aload, mzr_aload_n, mzr_lload, mzr_lload_n, mzr_istore, mzr_istore_n, mzr_astore, mzr_astore_n, mzr_lstore, mzr_lstore_n, mzr_iinc, mzr_iadd, mzr_isub, mzr_imul, mzr_iand, mzr_ior, mzr_ixor, mzr_ishl, mzr_ishr, mzr_iushr, mzr_idiv, mzr_irem, mzr_ineg, mzr_ladd, mzr_lsub, mzr_lmul, mzr_lrem, mzr_lcmp, mzr_i2l, mzr_l2i, mzr_i2b, mzr_dup, mzr_pop, mzr_dup2, mzr_ifCond_eq, mzr_if_icmp_eq, mzr_ifCond_ne, mzr_if_icmp_ne, mzr_ifCond_lt, mzr_if_icmp_lt, mzr_ifCond_ge, mzr_if_icmp_ge, mzr_ifCond_gt, mzr_if_icmp_gt, mzr_ifCond_le, mzr_if_icmp_le, mzr_goto, mzr_iaload, mzr_baload, mzr_laload, mzr_aaload, mzr_iastore, mzr_bastore, mzr_lastore, mzr_arraylength, mzr_getfield, mzr_putfield, mzr_getstatic, mzr_ldc, mzr_ldc_w, mzr_ldc2_w, mzr_ireturn, mzr_return_, mzr_copy, mzr_static, mzr_virtual, mzr_new, mz_tk, mz_dp, mz_ln, mz_sz, mz_af_v, mz_af_s, mz_wp_s, mz_w1, mz_g, mz_st, mz_k, mz_s2, mz_nx, mz_en, mx_to, mz_c1, ↓reduceIte, Nat.reduceAdd, Nat.reduceSub, Nat.reduceMul, Nat.reduceMod, Nat.reduceDiv, Nat.reduceEqDiff, Nat.reduceLeDiff, Nat.reduceLT, Int.reduceAdd, Int.reduceSub, Int.reduceNeg, Int.reduceMul, Int.reduceLE, Int.reduceLT, Int.reduceEq, Int.reduceToNat, Int.reduceNegSucc, Int.cast_ofNat_Int, Int32.reduceToInt, Int64.reduceToInt, Int.zero_add, Int.add_zero, Fin.isValue, Fin.val_zero, Fin.val_one, Fin.val_two, reduceCtorEq, or_false, false_or, or_true, true_or, or_self, and_true, true_and, and_self, not_true_eq_false, not_false_eq_true, implies_true, forall_const, List.mem_cons, List.not_mem_nil, false_implies, true_implies, imp_false, Nat.zero_add, Option.some.injEq, Prod.mk.injEq]
          repeat' first | omega | refine mz_it (fun hh => ?_) (fun hh => ?_) | refine And.intro ?_ ?_
          all_goals exact hx
        · exfalso
          refine hno s0 hs0 ?_
          rw [z1, hl.2 s0 hs0, hs1]
  have hx := lp (ld k0) 0 h1 none (by omega) (mz_fr.refl _ _) (fun k hk => by rw [f1.2.2 (u + 5 + b) (by simp; omega), hz k (by omega), al_S_0]; exact ⟨rfl, by omega, by omega⟩) (fun k _ hk => by rw [f1.2.2 (u + 5 + b) (by simp; omega), hz k hk])
  simp only [mf_Quotient_formFromBasis, ca_Quotient_formFromBasis, dc_Quotient_formFromBasis_0, dc_Quotient_formFromBasis_1, dc_Quotient_formFromBasis_2, dc_Quotient_formFromBasis_3, dc_Quotient_formFromBasis_4, dc_Quotient_formFromBasis_5, fl_Quotient, sl_Quotient, sg_Space_reducedInto, sg_Packed_pack, sg_Packed_find, sg_Ring_negative, cpn_quotient_0, cpn_quotient_1, mx_cp_r, u0, mzr_iconst, mzr_bipush, mzr_sipush, mzr_lconst, mzr_iload, mzr_iload_n, mzr_aload, mzr_aload_n, mzr_lload, mzr_lload_n, mzr_istore, mzr_istore_n, mzr_astore, mzr_astore_n, mzr_lstore, mzr_lstore_n, mzr_iinc, mzr_iadd, mzr_isub, mzr_imul, mzr_iand, mzr_ior, mzr_ixor, mzr_ishl, mzr_ishr, mzr_iushr, mzr_idiv, mzr_irem, mzr_ineg, mzr_ladd, mzr_lsub, mzr_lmul, mzr_lrem, mzr_lcmp, mzr_i2l, mzr_l2i, mzr_i2b, mzr_dup, mzr_pop, mzr_dup2, mzr_ifCond_eq, mzr_if_icmp_eq, mzr_ifCond_ne, mzr_if_icmp_ne, mzr_ifCond_lt, mzr_if_icmp_lt, mzr_ifCond_ge, mzr_if_icmp_ge, mzr_ifCond_gt, mzr_if_icmp_gt, mzr_ifCond_le, mzr_if_icmp_le, mzr_goto, mzr_iaload, mzr_baload, mzr_laload, mzr_aaload, mzr_iastore, mzr_bastore, mzr_lastore, mzr_arraylength, mzr_getfield, mzr_putfield, mzr_getstatic, mzr_ldc, mzr_ldc_w, mzr_ldc2_w, mzr_ireturn, mzr_return_, mzr_copy, mzr_static, mzr_virtual, mzr_new, mz_tk, mz_dp, mz_ln, mz_sz, mz_af_v, mz_af_s, mz_wp_s, mz_w1, mz_g, mz_st, mz_k, mz_s2, mz_nx, mz_en, mx_to, mz_c1, ↓reduceIte, Nat.reduceAdd, Nat.reduceSub, Nat.reduceMul, Nat.reduceMod, Nat.reduceDiv, Nat.reduceEqDiff, Nat.reduceLeDiff, Nat.reduceLT, Int.reduceAdd, Int.reduceSub, Int.reduceNeg, Int.reduceMul, Int.reduceLE, Int.reduceLT, Int.reduceEq, Int.reduceToNat, Int.reduceNegSucc, Int.cast_ofNat_Int, Int32.reduceToInt, Int64.reduceToInt, Int.zero_add, Int.add_zero, Fin.isValue, Fin.val_zero, Fin.val_one, Fin.val_two, reduceCtorEq, or_false, false_or, or_true, true_or, or_self, and_true, true_and, and_self, not_true_eq_false, not_false_eq_true, implies_true, forall_const, List.mem_cons, List.not_mem_nil, false_implies, true_implies, imp_false, Nat.zero_add, Option.some.injEq, Prod.mk.injEq]
  repeat' first | omega | refine mz_it (fun hh => ?_) (fun hh => ?_) | refine And.intro ?_ ?_
  all_goals exact hx
