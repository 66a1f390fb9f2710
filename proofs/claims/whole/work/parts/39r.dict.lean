def iv_St (p : Int) (n o : Nat) (g : iG) (dd : Nat) (m : al_M) : Prop := tb_v n m ∧ ¬ ∃ c, iv_C p n o g dd c ∧ al_le (tb_T n o c) m
def iv_ok (p : Int) (n o : Nat) (g : iG) (dd : Nat) : Prop := iv_cp p n o g dd ∧ ¬ iv_L p n o g dd 0 ∧ ∃ l : List al_M, l.length ≤ 40 ∧ ∀ m, iv_St p n o g dd m → m ∈ l
def iv_X (p : Int) (n o : Nat) (g : iG) (dd : Nat) (X : fg_S) : Prop :=
  ∃ r k, al_B p (tb_F n (dd + 1)) (tb_T n o) (al_lt o) (iv_V p n o g dd) (iv_L p n o g dd) (iv_C p n o g dd) r ∧ fg_r p n (al_nm (al_lt o) (al_lt_w o) (tb_T n o) (iv_C p n o g dd) r) (iv_St p n o g dd) k ([(0, 0, 0, 0)], []) X ∧ ∀ m, ¬ fg_n n X m
theorem nd_i {l : List al_M} (h : l.Nodup) : ∀ i j, i < l.length → j < l.length → fg_B l i = fg_B l j → i = j := by
  intro i j hi hj he
  unfold fg_B at he
  rw [List.getElem?_eq_getElem hi, List.getElem?_eq_getElem hj] at he
  exact (List.getElem_inj h).mp he
theorem nd_l {l m : List al_M} (h : l.Nodup) (hs : ∀ y, y ∈ l → y ∈ m) : l.length ≤ m.length := by
  have key : ∀ i, i < l.length → ∃ j, j < m.length ∧ fg_B m j = fg_B l i := fun i hi => fg_B_e (hs _ (fg_B_mem hi))
  refine ph_le m.length l.length (fun i => if hi : i < l.length then Classical.choose (key i hi) else 0) (fun k hk => ?_) (fun i j hi hj hij => ?_)
  · simp only [dif_pos hk]
    exact (Classical.choose_spec (key k hk)).1
  · simp only [dif_pos hi, dif_pos hj] at hij
    refine nd_i h i j hi hj ?_
    rw [← (Classical.choose_spec (key i hi)).2, ← (Classical.choose_spec (key j hj)).2, hij]
theorem al_mx_c (a b : al_M) : al_mx a b = al_mx b a := by
  unfold al_mx
  rw [Nat.max_comm a.1, Nat.max_comm a.2.1, Nat.max_comm a.2.2.1, Nat.max_comm a.2.2.2]
theorem fg_r_e {p : Int} {n : Nat} {nf nf' : al_M → al_M → Int} {S : al_M → Prop} (h : ∀ m s, al_e p (nf m s) (nf' m s)) : ∀ (k : Nat) (X Y : fg_S), fg_r p n nf S k X Y → fg_r p n nf' S k X Y := by
  have hd : ∀ (B : List al_M) m a, fg_d p nf S B m a ↔ fg_d p nf' S B m a := by
    intro B m a
    have he : ∀ s, al_e p (nf m s + al_S B.length (fun i => a i * nf (fg_B B i) s)) (nf' m s + al_S B.length (fun i => a i * nf' (fg_B B i) s)) := fun s =>
      al_e_a (h m s) (al_e_S (fun i hi => al_e_m (al_e_r _ _) (h _ s)))
    exact ⟨fun q s hs => al_e_t (al_e_s (he s)) (q s hs), fun q s hs => al_e_t (he s) (q s hs)⟩
  intro k
  induction k with
  | zero => rintro X Y rfl; rfl
  | succ k ih =>
    rintro X Y ⟨Z, ⟨m, h1, h2⟩, h3⟩
    refine ⟨Z, ⟨m, h1, ?_⟩, ih Z Y h3⟩
    rcases h2 with ⟨a, a1, a2, a3⟩ | ⟨a1, a2⟩
    · exact Or.inl ⟨a, a1, (hd _ _ _).mp a2, a3⟩
    · exact Or.inr ⟨fun ⟨a, q⟩ => a1 ⟨a, (hd _ _ _).mpr q⟩, a2⟩
theorem iv_X_u {p : Int} (hp : 2 ≤ p) (hpr : al_pr p.toNat) {n o : Nat} (hok : tb_ok n o) {g : iG} {dd : Nat} (hd : dd ≤ tb_h n) (hL : ¬ iv_L p n o g dd 0) {X Y : fg_S} (h : iv_X p n o g dd X) (h' : iv_X p n o g dd Y) : X = Y := by
  obtain ⟨r, k, a1, a2, a3⟩ := h
  obtain ⟨r', k', b1, b2, b3⟩ := h'
  have hpe : ((p.toNat : Nat) : Int) = p := by omega
  have hN : ∀ w, ∃ m, ∀ j, j < tb_F n (dd + 1) → al_lt o (al_p (tb_T n o j) w) m := fun w => by
    refine ⟨al_p (31, 31, 31, 31) w, fun j hj => ?_⟩
    have hN1 := tb_F_N hok (show dd + 1 ≤ tb_h n + 1 by omega)
    have h3 := (tb_T_b hok (show j < tb_N n by omega)).1
    have h4 := tb_h_b n
    unfold al_lt
    left
    rw [al_dg_p, al_dg_p]
    show _ < 124 + _
    omega
  have he : ∀ m s, al_e p (al_nm (al_lt o) (al_lt_w o) (tb_T n o) (iv_C p n o g dd) r' m s) (al_nm (al_lt o) (al_lt_w o) (tb_T n o) (iv_C p n o g dd) r m s) := fun m s => al_nm_u (al_lt_w o) b1 a1 hN m s
  have b2' := fg_r_e he k' _ _ b2
  have hS1 : iv_St p n o g dd (0, 0, 0, 0) := by
    refine ⟨⟨fun _ => rfl, fun _ => rfl, fun _ => rfl⟩, ?_⟩
    rintro ⟨c, hc, hl⟩
    have hcN := (a1.2.2.2.2.2.2.2.1 c hc).1
    have hN1 := tb_F_N hok (show dd + 1 ≤ tb_h n + 1 by omega)
    have hd0 := al_le_d hl
    have h0 : tb_T n o c = tb_T n o 0 := by
      rw [tb_T_0 hok]
      exact al_le_x hl (by show _ = 0; have : al_dg ((0, 0, 0, 0) : al_M) = 0 := rfl; omega)
    have := tb_T_i hok (show c < tb_N n by omega) (show 0 < tb_N n by omega) h0
    rw [this] at hc
    exact hL hc.1
  refine fg_r_u (p := p.toNat) hpr k k' ([(0, 0, 0, 0)], []) X Y ?_ (by rw [hpe]; exact a2) (by rw [hpe]; exact b2') a3 b3
  intro a ha i hi
  replace hi : i < 1 := hi
  obtain rfl : i = 0 := by omega
  have h1 := ha (0, 0, 0, 0) hS1
  have h2 : al_nm (al_lt o) (al_lt_w o) (tb_T n o) (iv_C p n o g dd) r (0, 0, 0, 0) (0, 0, 0, 0) = 1 := by rw [al_nm_s _ _ _ _ hS1.2, if_pos rfl]
  have h3 : al_S 1 (fun i => a i * al_nm (al_lt o) (al_lt_w o) (tb_T n o) (iv_C p n o g dd) r (fg_B [(0, 0, 0, 0)] i) (0, 0, 0, 0)) = a 0 := by
    show 0 + a 0 * al_nm (al_lt o) (al_lt_w o) (tb_T n o) (iv_C p n o g dd) r (0, 0, 0, 0) (0, 0, 0, 0) = a 0
    rw [h2]; omega
  rw [← h3]
  exact h1
theorem bf_fst2 (K : Nat) (cor : Nat → al_M) (n s : Nat) : 1 ≤ (bf_l K cor n s).length ∧ fg_B (bf_l K cor n s) 0 = (0, 0, 0, 0) := by
  induction s with
  | zero => exact ⟨Nat.le_refl _, rfl⟩
  | succ s ih =>
    rw [bf_l, List.length_append]
    refine ⟨by omega, ?_⟩
    rw [fg_B_app (by omega)]
    exact ih.2
section PUB9
variable {e : mz_E} {H : mz_H} {P : mz_O → mz_H → Prop} {x : Nat} {p : Int} {n o : Nat} {a : Nat → Nat → Int} {g : Nat → iG} {t : iT} {l : List Int} {v : Nat} {X : fg_S} {z : iZ}
set_option maxRecDepth 100000 in
theorem ct_Idictionary (d : Nat) {i : Int} (hG : mx_G e.1) (hE : iw_E e x) (hS : iw_S H x p n o a g t l v X z) (hr : iw_rm e H)
    (hP0 : ¬ (0 ≤ i ∧ i < 4) → P (.inr 2) (H.1 + 1, H.2))
    (hP2 : ∀ h (I : Nat), i = I → I < 4 → ((g I).2.2 = none ∨ ∃ dd : Nat, (g I).2.2 = some dd ∧ dd ≤ tb_h n ∧ ¬ iv_ok p n o (g I) dd) → mz_fr H h (bl x 1987) → iw_S h x p n o a g t l v X z → P (.inr 1) (h.1 + 1, h.2))
    (hP1 : ∀ h (I dd : Nat) X', i = I → I < 4 → (g I).2.2 = some dd → dd ≤ tb_h n → iv_ok p n o (g I) dd → iv_X p n o (g I) dd X' → mz_fr H h (bl x 1987) → iw_S h x p n o a g t l v X' z → P (.inl (some (.inl (X'.2.length : Int)))) h) : mz_CA e (d + 7) j_I_dictionary [.inr (.inl x), .inl i] H P := by
  have hE' := hE
  obtain ⟨⟨xk, x0, x1, x2, x3, x4, x5, x6, x7, x8, x9, x10⟩, ⟨xg, xw, xd, xt, xq, xu, xl, xz⟩, ⟨xp, xa, xr⟩, xpr, xi, xs, xsa⟩ := hE
  have r0' := xg.1
  have w0' := xw.1
  have t0' := xt.1.1
  have q0' := xq.1
  have l0' := xl.1.1
  have z0' := xz.1.1
  have u0' := xu.1.1
  have dk' := xd.1
  obtain ⟨hf, ⟨hF, hF'⟩, hA, hGG, a5, a6, a7, a8, a9⟩ := id hS
  obtain ⟨hr1, hr2⟩ := id hr
  have hp2 : 2 ≤ p := by have := hf.2.1; omega
  have same : mz_fr H H (bl x 1987) := mz_fr.refl _ _
  refine mz_CA_of mr_I_dictionary ?_
  simp only [mf_I_dictionary, mz_en, List.replicate, Nat.reduceSub, Nat.reduceAdd, Nat.reduceMul]
  apply mz_go hG 80 []
  simp only [mf_I_dictionary, ca_I_dictionary, dc_I_dictionary_0, dc_I_dictionary_1, dc_I_dictionary_2, dc_I_dictionary_3, dc_I_dictionary_4, dc_I_dictionary_5, dc_I_dictionary_6, fl_I, sl_I, sg_I_needIdeal, sg_Space_isLead, sg_Quotient_gather, sg_Quotient_findForms, sg_Lexicon_compile, cpn_works_0, mx_cp_r, mx_xi, mx_ic, xk, x0, x1, x2, x3, x4, x5, x6, x7, x8, x9, x10, xp, xa, xr, r0', w0', t0', q0', l0', z0', u0', dk', mzr_iconst, mzr_bipush, mzr_sipush, mzr_lconst, mzr_iload, mzr_iload_n, mzr_aload, mzr_aload_n, mzr_lload, mzr_lload_n, mzr_istore, mzr_istore_n, mzr_astore, mzr_astore_n, mzr_lstore, mzr_lstore_n, mzr_iinc, mzr_iadd, mzr_isub, mzr_imul, mzr_iand, mzr_ior, mzr_ixor, mzr_ishl, mzr_ishr, mzr_iushr, mzr_idiv, mzr_irem, mzr_ineg, mzr_ladd, mzr_lsub, mzr_lmul, mzr_lrem, mzr_lcmp, mzr_i2l, mzr_l2i, mzr_i2b, mzr_dup, mzr_pop, mzr_dup2, mzr_ifCond_eq, mzr_if_icmp_eq, mzr_ifCond_ne, mzr_if_icmp_ne, mzr_ifCond_lt, mzr_if_icmp_lt, mzr_ifCond_ge, mzr_if_icmp_ge, mzr_ifCond_gt, mzr_if_icmp_gt, mzr_ifCond_le, mzr_if_icmp_le, mzr_goto, mzr_iaload, mzr_baload, mzr_laload, mzr_aaload, mzr_iastore, mzr_bastore, mzr_lastore, mzr_arraylength, mzr_getfield, mzr_putfield, mzr_getstatic, mzr_ldc, mzr_ldc_w, mzr_ldc2_w, mzr_ireturn, mzr_return_, mzr_copy, mzr_static, mzr_virtual, mzr_new, mz_tk, mz_dp, mz_ln, mz_sz, mz_af_v, mz_af_s, mz_wp_s, mz_w1, mz_g, mz_st, mz_k, mz_s2, mz_nx, mz_en, mx_to, mz_c1, ↓reduceIte, Nat.reduceAdd, Nat.reduceSub, Nat.reduceMul, Nat.reduceMod, Nat.reduceDiv, Nat.reduceEqDiff, Nat.reduceLeDiff, Nat.reduceLT, Int.reduceAdd, Int.reduceSub, Int.reduceNeg, Int.reduceMul, Int.reduceLE, Int.reduceLT, Int.reduceEq, Int.reduceToNat, Int.reduceNegSucc, Int.cast_ofNat_Int, Int32.reduceToInt, Int64.reduceToInt, Int.zero_add, Int.add_zero, Fin.isValue, Fin.val_zero, Fin.val_one, Fin.val_two, reduceCtorEq, or_false, false_or, or_true, true_or, or_self, and_true, true_and, and_self, not_true_eq_false, not_false_eq_true, implies_true, forall_const, List.mem_cons, List.not_mem_nil, false_implies, true_implies, imp_false, Nat.zero_add, Option.some.injEq, Prod.mk.injEq]
  repeat' first | omega | refine mz_it (fun hh => ?_) (fun hh => ?_) | refine And.intro ?_ ?_
  refine ct_needIdeal (d + 5) hG hr (fun I hI1 hI2 => ?_) (fun hb => mz_af_t mf_I_dictionary.2.2.2.1 (hP0 (by omega)))
  subst hI1
  obtain ⟨c1, c2⟩ := xi I hI2
  have c2' := c2
  obtain ⟨i0, d0, d4, d5, k272, hga, hsa⟩ := c2
  have s0' := hsa.1.1
  obtain ⟨⟨g1, g2, g3⟩, g4, g5⟩ := hGG I hI2
  cases hg : (g I).2.2 with
  | none =>
    have z2 := g4 hg
    have fin := hP2 H I rfl hI2 (Or.inl hg) same hS
    simp only [mf_I_dictionary, ca_I_dictionary, dc_I_dictionary_0, dc_I_dictionary_1, dc_I_dictionary_2, dc_I_dictionary_3, dc_I_dictionary_4, dc_I_dictionary_5, dc_I_dictionary_6, fl_I, sl_I, sg_I_needIdeal, sg_Space_isLead, sg_Quotient_gather, sg_Quotient_findForms, sg_Lexicon_compile, cpn_works_0, mx_cp_r, mx_xi, mx_ic, xk, x0, x1, x2, x3, x4, x5, x6, x7, x8, x9, x10, xp, xa, xr, r0', w0', t0', q0', l0', z0', u0', dk', c1, i0, z2, Int.toNat_natCast, mzr_iconst, mzr_bipush, mzr_sipush, mzr_lconst, mzr_iload, mzr_iload_n, mzr_aload, mzr_aload_n, mzr_lload, mzr_lload_n, mzr_istore, mzr_istore_n, mzr_astore, mzr_astore_n, mzr_lstore, mzr_lstore_n, mzr_iinc, mzr_iadd, mzr_isub, mzr_imul, mzr_iand, mzr_ior, mzr_ixor, mzr_ishl, mzr_ishr, mzr_iushr, mzr_idiv, mzr_irem, mzr_ineg, mzr_ladd, mzr_lsub, mzr_lmul, mzr_lrem, mzr_lcmp, mzr_i2l, mzr_l2i, mzr_i2b, mzr_dup, mzr_pop, mzr_dup2, mzr_ifCond_eq, mzr_if_icmp_eq, mzr_ifCond_ne, mzr_if_icmp_ne, mzr_ifCond_lt, mzr_if_icmp_lt, mzr_ifCond_ge, mzr_if_icmp_ge, mzr_ifCond_gt, mzr_if_icmp_gt, mzr_ifCond_le, mzr_if_icmp_le, mzr_goto, mzr_iaload, mzr_baload, mzr_laload, mzr_aaload, mzr_iastore, mzr_bastore, mzr_lastore, mzr_arraylength, mzr_getfield, mzr_putfield, mzr_getstatic, mzr_ldc, mzr_ldc_w, mzr_ldc2_w, mzr_ireturn, mzr_return_, mzr_copy, mzr_static, mzr_virtual, mzr_new, mz_tk, mz_dp, mz_ln, mz_sz, mz_af_v, mz_af_s, mz_wp_s, mz_w1, mz_g, mz_st, mz_k, mz_s2, mz_nx, mz_en, mx_to, mz_c1, ↓reduceIte, Nat.reduceAdd, Nat.reduceSub, Nat.reduceMul, Nat.reduceMod, Nat.reduceDiv, Nat.reduceEqDiff, Nat.reduceLeDiff, Nat.reduceLT, Int.reduceAdd, Int.reduceSub, Int.reduceNeg, Int.reduceMul, Int.reduceLE, Int.reduceLT, Int.reduceEq, Int.reduceToNat, Int.reduceNegSucc, Int.cast_ofNat_Int, Int32.reduceToInt, Int64.reduceToInt, Int.zero_add, Int.add_zero, Fin.isValue, Fin.val_zero, Fin.val_one, Fin.val_two, reduceCtorEq, or_false, false_or, or_true, true_or, or_self, and_true, true_and, and_self, not_true_eq_false, not_false_eq_true, implies_true, forall_const, List.mem_cons, List.not_mem_nil, false_implies, true_implies, imp_false, Nat.zero_add, Option.some.injEq, Prod.mk.injEq]
    repeat' first | omega | refine mz_it (fun hh => ?_) (fun hh => ?_) | refine And.intro ?_ ?_
    all_goals exact fin
  | some dd =>
    obtain ⟨h1, h2, M, ld, K, c, cp, c', h3, h4, h5, h6, h7, h8, h9⟩ := g5 dd hg
    have hE1 := tb_F_126 hf.1 h1
    have hL := se_iv (g := g I) hp2 hE1 h3
    have hcn := cn_C h7 (sC_k hL)
    have hN1 := tb_F_N hf.1 (show dd + 1 ≤ tb_h n + 1 by omega)
    have hM : M ≤ 126 := by have := h3.1.1.2.1; omega
    have hcp : (cp = 1 ∧ iv_cp p n o (g I) dd) ∨ (cp = 0 ∧ ¬ iv_cp p n o (g I) dd) := by
      rcases h8 with ⟨q1, q2⟩ | ⟨q1, q2⟩
      · exact Or.inl ⟨q1, (cp_i hcn).mp q2⟩
      · exact Or.inr ⟨q1, fun q => q2 ((cp_i hcn).mpr q)⟩
    rcases hcp with ⟨rfl, hcp⟩ | ⟨rfl, hcp⟩
    · simp only [mf_I_dictionary, ca_I_dictionary, dc_I_dictionary_0, dc_I_dictionary_1, dc_I_dictionary_2, dc_I_dictionary_3, dc_I_dictionary_4, dc_I_dictionary_5, dc_I_dictionary_6, fl_I, sl_I, sg_I_needIdeal, sg_Space_isLead, sg_Quotient_gather, sg_Quotient_findForms, sg_Lexicon_compile, cpn_works_0, mx_cp_r, mx_xi, mx_ic, xk, x0, x1, x2, x3, x4, x5, x6, x7, x8, x9, x10, xp, xa, xr, r0', w0', t0', q0', l0', z0', u0', dk', c1, i0, d4, h2, h9, s0', Int.toNat_natCast, mzr_iconst, mzr_bipush, mzr_sipush, mzr_lconst, mzr_iload, mzr_iload_n, mzr_aload, mzr_aload_n, mzr_lload, mzr_lload_n, mzr_istore, mzr_istore_n, mzr_astore, mzr_astore_n, mzr_lstore, mzr_lstore_n, mzr_iinc, mzr_iadd, mzr_isub, mzr_imul, mzr_iand, mzr_ior, mzr_ixor, mzr_ishl, mzr_ishr, mzr_iushr, mzr_idiv, mzr_irem, mzr_ineg, mzr_ladd, mzr_lsub, mzr_lmul, mzr_lrem, mzr_lcmp, mzr_i2l, mzr_l2i, mzr_i2b, mzr_dup, mzr_pop, mzr_dup2, mzr_ifCond_eq, mzr_if_icmp_eq, mzr_ifCond_ne, mzr_if_icmp_ne, mzr_ifCond_lt, mzr_if_icmp_lt, mzr_ifCond_ge, mzr_if_icmp_ge, mzr_ifCond_gt, mzr_if_icmp_gt, mzr_ifCond_le, mzr_if_icmp_le, mzr_goto, mzr_iaload, mzr_baload, mzr_laload, mzr_aaload, mzr_iastore, mzr_bastore, mzr_lastore, mzr_arraylength, mzr_getfield, mzr_putfield, mzr_getstatic, mzr_ldc, mzr_ldc_w, mzr_ldc2_w, mzr_ireturn, mzr_return_, mzr_copy, mzr_static, mzr_virtual, mzr_new, mz_tk, mz_dp, mz_ln, mz_sz, mz_af_v, mz_af_s, mz_wp_s, mz_w1, mz_g, mz_st, mz_k, mz_s2, mz_nx, mz_en, mx_to, mz_c1, ↓reduceIte, Nat.reduceAdd, Nat.reduceSub, Nat.reduceMul, Nat.reduceMod, Nat.reduceDiv, Nat.reduceEqDiff, Nat.reduceLeDiff, Nat.reduceLT, Int.reduceAdd, Int.reduceSub, Int.reduceNeg, Int.reduceMul, Int.reduceLE, Int.reduceLT, Int.reduceEq, Int.reduceToNat, Int.reduceNegSucc, Int.cast_ofNat_Int, Int32.reduceToInt, Int64.reduceToInt, Int.zero_add, Int.add_zero, Fin.isValue, Fin.val_zero, Fin.val_one, Fin.val_two, reduceCtorEq, or_false, false_or, or_true, true_or, or_self, and_true, true_and, and_self, not_true_eq_false, not_false_eq_true, implies_true, forall_const, List.mem_cons, List.not_mem_nil, false_implies, true_implies, imp_false, Nat.zero_add, Option.some.injEq, Prod.mk.injEq]
      repeat' first | omega | refine mz_it (fun hh => ?_) (fun hh => ?_) | refine And.intro ?_ ?_
      refine ct_isLead (m := 0) (d + 6) hG hsa (by omega) ?_
      have hLi := se_L_i h3.1.1 (show 0 < 126 by omega)
      by_cases hl0 : H.2.1 (x + 895 + 273 * I + 11 + 129) 0 = -1
      · rw [if_pos hl0]
        have hnl : ¬ iv_L p n o (g I) dd 0 := fun q => hLi.mpr ((hL 0).mpr q) hl0
        have hKb := cn_b h7
        have hcK : ∀ k, k < K → H.2.1 (x + 895 + 273 * I + 272) k = c k ∧ c k < tb_N n := fun k hk => ⟨(h7.1 k hk).1, by have := (h7.1 k hk).2.1; omega⟩
        have sdi : ∀ m, sd_b K (fun k => tb_T n o (c k)) m = true ↔ ¬ ∃ c, iv_C p n o (g I) dd c ∧ al_le (tb_T n o c) m := fun m => by
          rw [sd_i]
          constructor
          · rintro hq ⟨c0, hc1, hc2⟩
            obtain ⟨f0, hf1, hf2, hf3⟩ := id hc1.1
            have hc0 : c0 < tb_F n (dd + 1) := by
              obtain ⟨k, hk, hkc⟩ := (hL c0).mpr hc1.1
              rw [← hkc]
              exact (h3.1.1.2.2.1 k hk).1
            obtain ⟨k, hk, rfl⟩ := hcn.2.2 c0 hc0 hc1
            exact hq k hk hc2
          · intro hq k hk hle
            exact hq ⟨c k, (hcn.1 k hk).2.2, hle⟩
        have h0s : sd_b K (fun k => tb_T n o (c k)) (0, 0, 0, 0) = true := by
          rw [sdi]
          rintro ⟨c0, hc1, hc2⟩
          obtain ⟨k, hk, hkc⟩ := (hL c0).mpr hc1.1
          have hc0 := (h3.1.1.2.2.1 k hk).1
          rw [hkc] at hc0
          have hd0 := al_le_d hc2
          have he0 : tb_T n o c0 = tb_T n o 0 := by
            rw [tb_T_0 hf.1]
            exact al_le_x hc2 (by have : al_dg ((0, 0, 0, 0) : al_M) = 0 := rfl; omega)
          have := tb_T_i hf.1 (show c0 < tb_N n by omega) (show 0 < tb_N n by omega) he0
          rw [this] at hc1
          exact hnl hc1.1
        simp only [mf_I_dictionary, ca_I_dictionary, dc_I_dictionary_0, dc_I_dictionary_1, dc_I_dictionary_2, dc_I_dictionary_3, dc_I_dictionary_4, dc_I_dictionary_5, dc_I_dictionary_6, fl_I, sl_I, sg_I_needIdeal, sg_Space_isLead, sg_Quotient_gather, sg_Quotient_findForms, sg_Lexicon_compile, cpn_works_0, mx_cp_r, mx_xi, mx_ic, xk, x0, x1, x2, x3, x4, x5, x6, x7, x8, x9, x10, xp, xa, xr, r0', w0', t0', q0', l0', z0', u0', dk', mzr_iconst, mzr_bipush, mzr_sipush, mzr_lconst, mzr_iload, mzr_iload_n, mzr_aload, mzr_aload_n, mzr_lload, mzr_lload_n, mzr_istore, mzr_istore_n, mzr_astore, mzr_astore_n, mzr_lstore, mzr_lstore_n, mzr_iinc, mzr_iadd, mzr_isub, mzr_imul, mzr_iand, mzr_ior, mzr_ixor, mzr_ishl, mzr_ishr, mzr_iushr, mzr_idiv, mzr_irem, mzr_ineg, mzr_ladd, mzr_lsub, mzr_lmul, mzr_lrem, mzr_lcmp, mzr_i2l, mzr_l2i, mzr_i2b, mzr_dup, mzr_pop, mzr_dup2, mzr_ifCond_eq, mzr_if_icmp_eq, mzr_ifCond_ne, mzr_if_icmp_ne, mzr_ifCond_lt, mzr_if_icmp_lt, mzr_ifCond_ge, mzr_if_icmp_ge, mzr_ifCond_gt, mzr_if_icmp_gt, mzr_ifCond_le, mzr_if_icmp_le, mzr_goto, mzr_iaload, mzr_baload, mzr_laload, mzr_aaload, mzr_iastore, mzr_bastore, mzr_lastore, mzr_arraylength, mzr_getfield, mzr_putfield, mzr_getstatic, mzr_ldc, mzr_ldc_w, mzr_ldc2_w, mzr_ireturn, mzr_return_, mzr_copy, mzr_static, mzr_virtual, mzr_new, mz_tk, mz_dp, mz_ln, mz_sz, mz_af_v, mz_af_s, mz_wp_s, mz_w1, mz_g, mz_st, mz_k, mz_s2, mz_nx, mz_en, mx_to, mz_c1, ↓reduceIte, Nat.reduceAdd, Nat.reduceSub, Nat.reduceMul, Nat.reduceMod, Nat.reduceDiv, Nat.reduceEqDiff, Nat.reduceLeDiff, Nat.reduceLT, Int.reduceAdd, Int.reduceSub, Int.reduceNeg, Int.reduceMul, Int.reduceLE, Int.reduceLT, Int.reduceEq, Int.reduceToNat, Int.reduceNegSucc, Int.cast_ofNat_Int, Int32.reduceToInt, Int64.reduceToInt, Int.zero_add, Int.add_zero, Fin.isValue, Fin.val_zero, Fin.val_one, Fin.val_two, reduceCtorEq, or_false, false_or, or_true, true_or, or_self, and_true, true_and, and_self, not_true_eq_false, not_false_eq_true, implies_true, forall_const, List.mem_cons, List.not_mem_nil, false_implies, true_implies, imp_false, Nat.zero_add, Option.some.injEq, Prod.mk.injEq]
        repeat' first | omega | refine mz_it (fun hh => ?_) (fun hh => ?_) | refine And.intro ?_ ?_
        refine ct_gather (d + 2) hG xu xg c2' hf.1 hF (by omega) (by omega) h6 (by omega) hcK (fun h s f1 u1 u2 u3 u4 u5 u6 => ?_) (fun h s f1 u1 u2 u3 => ?_)
        · have hbp := bf_P hf.1.1 hf.1.2.1 h0s s u6
          have hall := bf_all hf.1.1 hf.1.2.1 h0s u6 u4
          have hbd := bf_dg K (fun k => tb_T n o (c k)) n s u6
          generalize hl : bf_l K (fun k => tb_T n o (c k)) n s = L at u3 u4 hbp hall hbd
          have hS1 := hS.fr f1 (fun c hc => by simp at hc; unfold iw_sc; omega)
          have hD1 := h3.fr hM f1 (fun j hj => by simp; omega)
          have hF1 := hS1.2.1.1
          have hinj := nd_i hbp.1
          have hls : ∀ j, j < L.length → tb_v n (fg_B L j) ∧ sd_b K (fun k => tb_T n o (c k)) (fg_B L j) = true ∧ al_dg (fg_B L j) ≤ 40 := fun j hj => ⟨(hbp.2.1 _ (fg_B_mem hj)).1, (hbp.2.1 _ (fg_B_mem hj)).2, by have := (hbd j hj).1; omega⟩
          have hall2 : ∀ m, tb_v n m → sd_b K (fun k => tb_T n o (c k)) m = true → ∃ k, k < L.length ∧ m = fg_B L k := fun m h1 h2 => by
            obtain ⟨k, hk, he⟩ := fg_B_e (hall _ m rfl h1 h2)
            exact ⟨k, hk, he.symm⟩
          have hLe : se_L M ld = iv_L p n o (g I) dd := funext fun m => propext (hL m)
          have hB : al_B p (tb_F n (dd + 1)) (tb_T n o) (al_lt o) (iv_V p n o (g I) dd) (iv_L p n o (g I) dd) (iv_C p n o (g I) dd) (se_r h (x + 895 + 273 * I + 11)) := by
            have hec := se_ec hD1.1.1 hE1
            have hhr := se_hr hD1
            have hhl := se_hl hE1 hD1
            rw [hLe] at hec hhr hhl
            refine sp_B hf.1 h1 (sG_z hf.1 h1 (fun i hi => (g3 i hi).2)) hec hhr hhl (fun c1 c2 hc1 hc2 hne => ?_)
            have hb : ∀ c0, iv_C p n o (g I) dd c0 → c0 < tb_F n (dd + 1) := fun c0 hc0 => (hec c0 hc0.1).1
            rcases Nat.lt_or_gt_of_ne hne with hlt | hlt
            · have := hcp.2 c2 c1 hlt (hb c2 hc2) hc2 hc1
              unfold lw_P at this
              rw [al_mx_c (tb_T n o c1), Nat.add_comm (al_dg (tb_T n o c1))]
              exact this
            · exact hcp.2 c1 c2 hlt (hb c1 hc1) hc1 hc2
          have hSt : (fun m => ¬ ∃ c, iv_C p n o (g I) dd c ∧ al_le (tb_T n o c) m) = (fun m => sd_b K (fun k => tb_T n o (c k)) m = true) := funext fun m => propext (sdi m).symm
          have hnf := nf_ok hf.1 h1 hB hinj (fun m h1 h2 => hall2 m h1 ((sdi m).mpr h2))
          rw [hSt] at hnf
          have hcu : ∀ k, k < K → h.2.1 (x + 387 + 2) k = (pk (tb_T n o (c k)) : Int) := u2
          simp only [mf_I_dictionary, ca_I_dictionary, dc_I_dictionary_0, dc_I_dictionary_1, dc_I_dictionary_2, dc_I_dictionary_3, dc_I_dictionary_4, dc_I_dictionary_5, dc_I_dictionary_6, fl_I, sl_I, sg_I_needIdeal, sg_Space_isLead, sg_Quotient_gather, sg_Quotient_findForms, sg_Lexicon_compile, cpn_works_0, mx_cp_r, mx_xi, mx_ic, xk, x0, x1, x2, x3, x4, x5, x6, x7, x8, x9, x10, xp, xa, xr, r0', w0', t0', q0', l0', z0', u0', dk', mzr_iconst, mzr_bipush, mzr_sipush, mzr_lconst, mzr_iload, mzr_iload_n, mzr_aload, mzr_aload_n, mzr_lload, mzr_lload_n, mzr_istore, mzr_istore_n, mzr_astore, mzr_astore_n, mzr_lstore, mzr_lstore_n, mzr_iinc, mzr_iadd, mzr_isub, mzr_imul, mzr_iand, mzr_ior, mzr_ixor, mzr_ishl, mzr_ishr, mzr_iushr, mzr_idiv, mzr_irem, mzr_ineg, mzr_ladd, mzr_lsub, mzr_lmul, mzr_lrem, mzr_lcmp, mzr_i2l, mzr_l2i, mzr_i2b, mzr_dup, mzr_pop, mzr_dup2, mzr_ifCond_eq, mzr_if_icmp_eq, mzr_ifCond_ne, mzr_if_icmp_ne, mzr_ifCond_lt, mzr_if_icmp_lt, mzr_ifCond_ge, mzr_if_icmp_ge, mzr_ifCond_gt, mzr_if_icmp_gt, mzr_ifCond_le, mzr_if_icmp_le, mzr_goto, mzr_iaload, mzr_baload, mzr_laload, mzr_aaload, mzr_iastore, mzr_bastore, mzr_lastore, mzr_arraylength, mzr_getfield, mzr_putfield, mzr_getstatic, mzr_ldc, mzr_ldc_w, mzr_ldc2_w, mzr_ireturn, mzr_return_, mzr_copy, mzr_static, mzr_virtual, mzr_new, mz_tk, mz_dp, mz_ln, mz_sz, mz_af_v, mz_af_s, mz_wp_s, mz_w1, mz_g, mz_st, mz_k, mz_s2, mz_nx, mz_en, mx_to, mz_c1, ↓reduceIte, Nat.reduceAdd, Nat.reduceSub, Nat.reduceMul, Nat.reduceMod, Nat.reduceDiv, Nat.reduceEqDiff, Nat.reduceLeDiff, Nat.reduceLT, Int.reduceAdd, Int.reduceSub, Int.reduceNeg, Int.reduceMul, Int.reduceLE, Int.reduceLT, Int.reduceEq, Int.reduceToNat, Int.reduceNegSucc, Int.cast_ofNat_Int, Int32.reduceToInt, Int64.reduceToInt, Int.zero_add, Int.add_zero, Fin.isValue, Fin.val_zero, Fin.val_one, Fin.val_two, reduceCtorEq, or_false, false_or, or_true, true_or, or_self, and_true, true_and, and_self, not_true_eq_false, not_false_eq_true, implies_true, forall_const, List.mem_cons, List.not_mem_nil, false_implies, true_implies, imp_false, Nat.zero_add, Option.some.injEq, Prod.mk.injEq]
          repeat' first | omega | refine mz_it (fun hh => ?_) (fun hh => ?_) | refine And.intro ?_ ?_
          refine ct_findForms (d + 1) hG xu xg c2' hf.1 h1 hf.2.1 hF1 (by omega) (by omega) (by omega) u3 (by omega) hD1 u1 (by rw [f1.2.2 _ (by simp; omega)]; exact h7) hcu hls hinj hall2 hnf (fun h' B f f2 w1 w2 => ?_)
          have hS2 := hS1.fr f2 (fun c hc => by simp [bl_m] at hc; unfold iw_sc; omega)
          have hF2 := hS2.2.1.1
          have hz0 : fg_B L 0 = (0, 0, 0, 0) := by
            rw [← hl]
            exact (bf_fst2 K (fun k => tb_T n o (c k)) n s).2
          have hl1 : 1 ≤ L.length := by
            obtain ⟨k, hk, _⟩ := fg_B_e hbp.2.2.1
            omega
          simp only [mf_I_dictionary, ca_I_dictionary, dc_I_dictionary_0, dc_I_dictionary_1, dc_I_dictionary_2, dc_I_dictionary_3, dc_I_dictionary_4, dc_I_dictionary_5, dc_I_dictionary_6, fl_I, sl_I, sg_I_needIdeal, sg_Space_isLead, sg_Quotient_gather, sg_Quotient_findForms, sg_Lexicon_compile, cpn_works_0, mx_cp_r, mx_xi, mx_ic, xk, x0, x1, x2, x3, x4, x5, x6, x7, x8, x9, x10, xp, xa, xr, r0', w0', t0', q0', l0', z0', u0', dk', mzr_iconst, mzr_bipush, mzr_sipush, mzr_lconst, mzr_iload, mzr_iload_n, mzr_aload, mzr_aload_n, mzr_lload, mzr_lload_n, mzr_istore, mzr_istore_n, mzr_astore, mzr_astore_n, mzr_lstore, mzr_lstore_n, mzr_iinc, mzr_iadd, mzr_isub, mzr_imul, mzr_iand, mzr_ior, mzr_ixor, mzr_ishl, mzr_ishr, mzr_iushr, mzr_idiv, mzr_irem, mzr_ineg, mzr_ladd, mzr_lsub, mzr_lmul, mzr_lrem, mzr_lcmp, mzr_i2l, mzr_l2i, mzr_i2b, mzr_dup, mzr_pop, mzr_dup2, mzr_ifCond_eq, mzr_if_icmp_eq, mzr_ifCond_ne, mzr_if_icmp_ne, mzr_ifCond_lt, mzr_if_icmp_lt, mzr_ifCond_ge, mzr_if_icmp_ge, mzr_ifCond_gt, mzr_if_icmp_gt, mzr_ifCond_le, mzr_if_icmp_le, mzr_goto, mzr_iaload, mzr_baload, mzr_laload, mzr_aaload, mzr_iastore, mzr_bastore, mzr_lastore, mzr_arraylength, mzr_getfield, mzr_putfield, mzr_getstatic, mzr_ldc, mzr_ldc_w, mzr_ldc2_w, mzr_ireturn, mzr_return_, mzr_copy, mzr_static, mzr_virtual, mzr_new, mz_tk, mz_dp, mz_ln, mz_sz, mz_af_v, mz_af_s, mz_wp_s, mz_w1, mz_g, mz_st, mz_k, mz_s2, mz_nx, mz_en, mx_to, mz_c1, ↓reduceIte, Nat.reduceAdd, Nat.reduceSub, Nat.reduceMul, Nat.reduceMod, Nat.reduceDiv, Nat.reduceEqDiff, Nat.reduceLeDiff, Nat.reduceLT, Int.reduceAdd, Int.reduceSub, Int.reduceNeg, Int.reduceMul, Int.reduceLE, Int.reduceLT, Int.reduceEq, Int.reduceToNat, Int.reduceNegSucc, Int.cast_ofNat_Int, Int32.reduceToInt, Int64.reduceToInt, Int.zero_add, Int.add_zero, Fin.isValue, Fin.val_zero, Fin.val_one, Fin.val_two, reduceCtorEq, or_false, false_or, or_true, true_or, or_self, and_true, true_and, and_self, not_true_eq_false, not_false_eq_true, implies_true, forall_const, List.mem_cons, List.not_mem_nil, false_implies, true_implies, imp_false, Nat.zero_add, Option.some.injEq, Prod.mk.injEq]
          repeat' first | omega | refine mz_it (fun hh => ?_) (fun hh => ?_) | refine And.intro ?_ ?_
          refine ct_compile d (o := o) (B := B) (f := f) (St := fun m => sd_b K (fun k => tb_T n o (c k)) m = true) hG xl xu xg hF2.1 hF2.2.1 hf.2.1 hf.2.2.2 (by omega) (by omega) hf.1.1 hf.1.2.1 (by rw [w1 0 (by omega)]; exact u3.1) hl1 (by omega) hz0 (fun i hi => (hls i hi).2.1) hinj w2 hnf (fun h'' X' k f3 hX3 hrun hterm hlb => ?_)
          have hsl : sl_S L = iv_St p n o (g I) dd := funext fun m => propext ⟨fun ⟨c0, q1, q2⟩ => by
            rw [q2]
            exact ⟨(hls c0 q1).1, (sdi _).mp (hls c0 q1).2.1⟩, fun ⟨q1, q2⟩ => hall2 m q1 ((sdi m).mpr q2)⟩
          rw [hsl] at hrun
          have hok2 : iv_ok p n o (g I) dd := ⟨hcp, hnl, L, by omega, fun m hm => hall _ m rfl hm.1 ((sdi m).mpr hm.2)⟩
          have fin := hP1 h'' I dd X' rfl hI2 hg h1 hok2 ⟨_, k, hB, hrun, hterm⟩ (((f1.mono (by intro c hc; simp [bl_m] at hc ⊢; omega)).tr (f2.mono (by intro c hc; simp [bl_m] at hc ⊢; omega))).tr (f3.mono (by intro c hc; simp [bl_m] at hc ⊢; omega))) (by
            obtain ⟨y1, y2, y3, y4, y5, y6, y7, y8, y9⟩ := hS2
            exact ⟨y1, y2.fr f3 (fun c h1 h2 h3 => by simp [bl_m]; omega), y3.fr f3 (fun c h1 h2 => by simp [bl_m]; omega), y4.fr y1.1 f3 (fun i c h1 h2 h3 h4 => by simp [bl_m]; omega), y5.fr f3 (fun c h1 h2 => by simp [bl_m]; omega), y6.fr f3 (fun c h1 h2 => by simp [bl_m]; omega), by rw [f3.2.2 x (by simp [bl_m]; omega)]; exact y7, ⟨n, hX3⟩, y9.fr f3 (fun c h1 h2 => by simp [bl_m]; omega)⟩)
          simp only [mf_I_dictionary, ca_I_dictionary, dc_I_dictionary_0, dc_I_dictionary_1, dc_I_dictionary_2, dc_I_dictionary_3, dc_I_dictionary_4, dc_I_dictionary_5, dc_I_dictionary_6, fl_I, sl_I, sg_I_needIdeal, sg_Space_isLead, sg_Quotient_gather, sg_Quotient_findForms, sg_Lexicon_compile, cpn_works_0, mx_cp_r, mx_xi, mx_ic, xk, x0, x1, x2, x3, x4, x5, x6, x7, x8, x9, x10, xp, xa, xr, r0', w0', t0', q0', l0', z0', u0', dk', mzr_iconst, mzr_bipush, mzr_sipush, mzr_lconst, mzr_iload, mzr_iload_n, mzr_aload, mzr_aload_n, mzr_lload, mzr_lload_n, mzr_istore, mzr_istore_n, mzr_astore, mzr_astore_n, mzr_lstore, mzr_lstore_n, mzr_iinc, mzr_iadd, mzr_isub, mzr_imul, mzr_iand, mzr_ior, mzr_ixor, mzr_ishl, mzr_ishr, mzr_iushr, mzr_idiv, mzr_irem, mzr_ineg, mzr_ladd, mzr_lsub, mzr_lmul, mzr_lrem, mzr_lcmp, mzr_i2l, mzr_l2i, mzr_i2b, mzr_dup, mzr_pop, mzr_dup2, mzr_ifCond_eq, mzr_if_icmp_eq, mzr_ifCond_ne, mzr_if_icmp_ne, mzr_ifCond_lt, mzr_if_icmp_lt, mzr_ifCond_ge, mzr_if_icmp_ge, mzr_ifCond_gt, mzr_if_icmp_gt, mzr_ifCond_le, mzr_if_icmp_le, mzr_goto, mzr_iaload, mzr_baload, mzr_laload, mzr_aaload, mzr_iastore, mzr_bastore, mzr_lastore, mzr_arraylength, mzr_getfield, mzr_putfield, mzr_getstatic, mzr_ldc, mzr_ldc_w, mzr_ldc2_w, mzr_ireturn, mzr_return_, mzr_copy, mzr_static, mzr_virtual, mzr_new, mz_tk, mz_dp, mz_ln, mz_sz, mz_af_v, mz_af_s, mz_wp_s, mz_w1, mz_g, mz_st, mz_k, mz_s2, mz_nx, mz_en, mx_to, mz_c1, ↓reduceIte, Nat.reduceAdd, Nat.reduceSub, Nat.reduceMul, Nat.reduceMod, Nat.reduceDiv, Nat.reduceEqDiff, Nat.reduceLeDiff, Nat.reduceLT, Int.reduceAdd, Int.reduceSub, Int.reduceNeg, Int.reduceMul, Int.reduceLE, Int.reduceLT, Int.reduceEq, Int.reduceToNat, Int.reduceNegSucc, Int.cast_ofNat_Int, Int32.reduceToInt, Int64.reduceToInt, Int.zero_add, Int.add_zero, Fin.isValue, Fin.val_zero, Fin.val_one, Fin.val_two, reduceCtorEq, or_false, false_or, or_true, true_or, or_self, and_true, true_and, and_self, not_true_eq_false, not_false_eq_true, implies_true, forall_const, List.mem_cons, List.not_mem_nil, false_implies, true_implies, imp_false, Nat.zero_add, Option.some.injEq, Prod.mk.injEq]
          repeat' first | omega | refine mz_it (fun hh => ?_) (fun hh => ?_) | refine And.intro ?_ ?_
          all_goals exact fin
        · have hbp := bf_P hf.1.1 hf.1.2.1 h0s (s + 1) (fun s' hs' => u2 s' (by omega))
          have e1 := f1.1
          have fin := hP2 h I rfl hI2 (Or.inr ⟨dd, hg, h1, fun ⟨_, _, L, q1, q2⟩ => by
            have := nd_l hbp.1 (m := L) (fun y hy => q2 y ⟨(hbp.2.1 y hy).1, (sdi y).mp (hbp.2.1 y hy).2⟩)
            omega⟩) (f1.mono (by intro c hc; simp [bl_m] at hc ⊢; omega)) (hS.fr f1 (fun c hc => by simp at hc; unfold iw_sc; omega))
          simp only [mf_I_dictionary, ca_I_dictionary, dc_I_dictionary_0, dc_I_dictionary_1, dc_I_dictionary_2, dc_I_dictionary_3, dc_I_dictionary_4, dc_I_dictionary_5, dc_I_dictionary_6, fl_I, sl_I, sg_I_needIdeal, sg_Space_isLead, sg_Quotient_gather, sg_Quotient_findForms, sg_Lexicon_compile, cpn_works_0, mx_cp_r, mx_xi, mx_ic, xk, x0, x1, x2, x3, x4, x5, x6, x7, x8, x9, x10, xp, xa, xr, r0', w0', t0', q0', l0', z0', u0', dk', mzr_iconst, mzr_bipush, mzr_sipush, mzr_lconst, mzr_iload, mzr_iload_n, mzr_aload, mzr_aload_n, mzr_lload, mzr_lload_n, mzr_istore, mzr_istore_n, mzr_astore, mzr_astore_n, mzr_lstore, mzr_lstore_n, mzr_iinc, mzr_iadd, mzr_isub, mzr_imul, mzr_iand, mzr_ior, mzr_ixor, mzr_ishl, mzr_ishr, mzr_iushr, mzr_idiv, mzr_irem, mzr_ineg, mzr_ladd, mzr_lsub, mzr_lmul, mzr_lrem, mzr_lcmp, mzr_i2l, mzr_l2i, mzr_i2b, mzr_dup, mzr_pop, mzr_dup2, mzr_ifCond_eq, mzr_if_icmp_eq, mzr_ifCond_ne, mzr_if_icmp_ne, mzr_ifCond_lt, mzr_if_icmp_lt, mzr_ifCond_ge, mzr_if_icmp_ge, mzr_ifCond_gt, mzr_if_icmp_gt, mzr_ifCond_le, mzr_if_icmp_le, mzr_goto, mzr_iaload, mzr_baload, mzr_laload, mzr_aaload, mzr_iastore, mzr_bastore, mzr_lastore, mzr_arraylength, mzr_getfield, mzr_putfield, mzr_getstatic, mzr_ldc, mzr_ldc_w, mzr_ldc2_w, mzr_ireturn, mzr_return_, mzr_copy, mzr_static, mzr_virtual, mzr_new, mz_tk, mz_dp, mz_ln, mz_sz, mz_af_v, mz_af_s, mz_wp_s, mz_w1, mz_g, mz_st, mz_k, mz_s2, mz_nx, mz_en, mx_to, mz_c1, ↓reduceIte, Nat.reduceAdd, Nat.reduceSub, Nat.reduceMul, Nat.reduceMod, Nat.reduceDiv, Nat.reduceEqDiff, Nat.reduceLeDiff, Nat.reduceLT, Int.reduceAdd, Int.reduceSub, Int.reduceNeg, Int.reduceMul, Int.reduceLE, Int.reduceLT, Int.reduceEq, Int.reduceToNat, Int.reduceNegSucc, Int.cast_ofNat_Int, Int32.reduceToInt, Int64.reduceToInt, Int.zero_add, Int.add_zero, Fin.isValue, Fin.val_zero, Fin.val_one, Fin.val_two, reduceCtorEq, or_false, false_or, or_true, true_or, or_self, and_true, true_and, and_self, not_true_eq_false, not_false_eq_true, implies_true, forall_const, List.mem_cons, List.not_mem_nil, false_implies, true_implies, imp_false, Nat.zero_add, Option.some.injEq, Prod.mk.injEq]
          repeat' first | omega | refine mz_it (fun hh => ?_) (fun hh => ?_) | refine And.intro ?_ ?_
          all_goals exact fin
      · rw [if_neg hl0]
        have fin := hP2 H I rfl hI2 (Or.inr ⟨dd, hg, h1, fun q => q.2.1 ((hL 0).mp (hLi.mp hl0))⟩) same hS
        simp only [mf_I_dictionary, ca_I_dictionary, dc_I_dictionary_0, dc_I_dictionary_1, dc_I_dictionary_2, dc_I_dictionary_3, dc_I_dictionary_4, dc_I_dictionary_5, dc_I_dictionary_6, fl_I, sl_I, sg_I_needIdeal, sg_Space_isLead, sg_Quotient_gather, sg_Quotient_findForms, sg_Lexicon_compile, cpn_works_0, mx_cp_r, mx_xi, mx_ic, xk, x0, x1, x2, x3, x4, x5, x6, x7, x8, x9, x10, xp, xa, xr, r0', w0', t0', q0', l0', z0', u0', dk', mzr_iconst, mzr_bipush, mzr_sipush, mzr_lconst, mzr_iload, mzr_iload_n, mzr_aload, mzr_aload_n, mzr_lload, mzr_lload_n, mzr_istore, mzr_istore_n, mzr_astore, mzr_astore_n, mzr_lstore, mzr_lstore_n, mzr_iinc, mzr_iadd, mzr_isub, mzr_imul, mzr_iand, mzr_ior, mzr_ixor, mzr_ishl, mzr_ishr, mzr_iushr, mzr_idiv, mzr_irem, mzr_ineg, mzr_ladd, mzr_lsub, mzr_lmul, mzr_lrem, mzr_lcmp, mzr_i2l, mzr_l2i, mzr_i2b, mzr_dup, mzr_pop, mzr_dup2, mzr_ifCond_eq, mzr_if_icmp_eq, mzr_ifCond_ne, mzr_if_icmp_ne, mzr_ifCond_lt, mzr_if_icmp_lt, mzr_ifCond_ge, mzr_if_icmp_ge, mzr_ifCond_gt, mzr_if_icmp_gt, mzr_ifCond_le, mzr_if_icmp_le, mzr_goto, mzr_iaload, mzr_baload, mzr_laload, mzr_aaload, mzr_iastore, mzr_bastore, mzr_lastore, mzr_arraylength, mzr_getfield, mzr_putfield, mzr_getstatic, mzr_ldc, mzr_ldc_w, mzr_ldc2_w, mzr_ireturn, mzr_return_, mzr_copy, mzr_static, mzr_virtual, mzr_new, mz_tk, mz_dp, mz_ln, mz_sz, mz_af_v, mz_af_s, mz_wp_s, mz_w1, mz_g, mz_st, mz_k, mz_s2, mz_nx, mz_en, mx_to, mz_c1, ↓reduceIte, Nat.reduceAdd, Nat.reduceSub, Nat.reduceMul, Nat.reduceMod, Nat.reduceDiv, Nat.reduceEqDiff, Nat.reduceLeDiff, Nat.reduceLT, Int.reduceAdd, Int.reduceSub, Int.reduceNeg, Int.reduceMul, Int.reduceLE, Int.reduceLT, Int.reduceEq, Int.reduceToNat, Int.reduceNegSucc, Int.cast_ofNat_Int, Int32.reduceToInt, Int64.reduceToInt, Int.zero_add, Int.add_zero, Fin.isValue, Fin.val_zero, Fin.val_one, Fin.val_two, reduceCtorEq, or_false, false_or, or_true, true_or, or_self, and_true, true_and, and_self, not_true_eq_false, not_false_eq_true, implies_true, forall_const, List.mem_cons, List.not_mem_nil, false_implies, true_implies, imp_false, Nat.zero_add, Option.some.injEq, Prod.mk.injEq]
        repeat' first | omega | refine mz_it (fun hh => ?_) (fun hh => ?_) | refine And.intro ?_ ?_
        all_goals exact fin
    · have fin := hP2 H I rfl hI2 (Or.inr ⟨dd, hg, h1, fun q => hcp q.1⟩) same hS
      simp only [mf_I_dictionary, ca_I_dictionary, dc_I_dictionary_0, dc_I_dictionary_1, dc_I_dictionary_2, dc_I_dictionary_3, dc_I_dictionary_4, dc_I_dictionary_5, dc_I_dictionary_6, fl_I, sl_I, sg_I_needIdeal, sg_Space_isLead, sg_Quotient_gather, sg_Quotient_findForms, sg_Lexicon_compile, cpn_works_0, mx_cp_r, mx_xi, mx_ic, xk, x0, x1, x2, x3, x4, x5, x6, x7, x8, x9, x10, xp, xa, xr, r0', w0', t0', q0', l0', z0', u0', dk', c1, i0, d4, h2, h9, s0', Int.toNat_natCast, mzr_iconst, mzr_bipush, mzr_sipush, mzr_lconst, mzr_iload, mzr_iload_n, mzr_aload, mzr_aload_n, mzr_lload, mzr_lload_n, mzr_istore, mzr_istore_n, mzr_astore, mzr_astore_n, mzr_lstore, mzr_lstore_n, mzr_iinc, mzr_iadd, mzr_isub, mzr_imul, mzr_iand, mzr_ior, mzr_ixor, mzr_ishl, mzr_ishr, mzr_iushr, mzr_idiv, mzr_irem, mzr_ineg, mzr_ladd, mzr_lsub, mzr_lmul, mzr_lrem, mzr_lcmp, mzr_i2l, mzr_l2i, mzr_i2b, mzr_dup, mzr_pop, mzr_dup2, mzr_ifCond_eq, mzr_if_icmp_eq, mzr_ifCond_ne, mzr_if_icmp_ne, mzr_ifCond_lt, mzr_if_icmp_lt, mzr_ifCond_ge, mzr_if_icmp_ge, mzr_ifCond_gt, mzr_if_icmp_gt, mzr_ifCond_le, mzr_if_icmp_le, mzr_goto, mzr_iaload, mzr_baload, mzr_laload, mzr_aaload, mzr_iastore, mzr_bastore, mzr_lastore, mzr_arraylength, mzr_getfield, mzr_putfield, mzr_getstatic, mzr_ldc, mzr_ldc_w, mzr_ldc2_w, mzr_ireturn, mzr_return_, mzr_copy, mzr_static, mzr_virtual, mzr_new, mz_tk, mz_dp, mz_ln, mz_sz, mz_af_v, mz_af_s, mz_wp_s, mz_w1, mz_g, mz_st, mz_k, mz_s2, mz_nx, mz_en, mx_to, mz_c1, ↓reduceIte, Nat.reduceAdd, Nat.reduceSub, Nat.reduceMul, Nat.reduceMod, Nat.reduceDiv, Nat.reduceEqDiff, Nat.reduceLeDiff, Nat.reduceLT, Int.reduceAdd, Int.reduceSub, Int.reduceNeg, Int.reduceMul, Int.reduceLE, Int.reduceLT, Int.reduceEq, Int.reduceToNat, Int.reduceNegSucc, Int.cast_ofNat_Int, Int32.reduceToInt, Int64.reduceToInt, Int.zero_add, Int.add_zero, Fin.isValue, Fin.val_zero, Fin.val_one, Fin.val_two, reduceCtorEq, or_false, false_or, or_true, true_or, or_self, and_true, true_and, and_self, not_true_eq_false, not_false_eq_true, implies_true, forall_const, List.mem_cons, List.not_mem_nil, false_implies, true_implies, imp_false, Nat.zero_add, Option.some.injEq, Prod.mk.injEq]
      repeat' first | omega | refine mz_it (fun hh => ?_) (fun hh => ?_) | refine And.intro ?_ ?_
      all_goals exact fin
end PUB9
