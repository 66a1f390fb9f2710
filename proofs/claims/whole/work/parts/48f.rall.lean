def pwi (w : Nat → Nat) (q x j : Nat) : Nat := if j < q then w j else if j = q then x else w (j - 1)
theorem pwi_1 {w : Nat → Nat} {q j x : Nat} (h : j < q) : pwi w q x j = w j := if_pos h
theorem pwi_2 {w : Nat → Nat} {q j x : Nat} (h : j = q) : pwi w q x j = x := by unfold pwi; rw [if_neg (by omega), if_pos h]
theorem pwi_3 {w : Nat → Nat} {q j x : Nat} (h : q < j) : pwi w q x j = w (j - 1) := by unfold pwi; rw [if_neg (by omega), if_neg (by omega)]
def bo_N (o B : Nat) (f : Nat → al_M) : Prop := ∀ i j, i < j → j < B → ¬ al_lt o (f j) (f i)
theorem bo_N_i {o B k : Nat} {f : Nat → al_M} {x : al_M} (hO : bo_N o B f) (hk : k ≤ B) (h1 : k = 0 ∨ ¬ al_lt o x (f (k - 1))) (h2 : ∀ j, k ≤ j → j < B → al_lt o x (f j)) : bo_N o (B + 1) (bo_i f k x) := by
  have low : ∀ i, i < k → ¬ al_lt o x (f i) := by
    intro i hi hq
    rcases h1 with h | h
    · omega
    · by_cases hik : i = k - 1
      · rw [hik] at hq; exact h hq
      · have h3 := hO i (k - 1) (by omega) (by omega)
        rcases al_lt_x o (f i) (f (k - 1)) with q | q | q
        · exact h (al_lt_t o _ _ _ hq q)
        · rw [q] at hq; exact h hq
        · exact h3 q
  intro i j hij hj
  rcases Nat.lt_trichotomy i k with hi | hi | hi
  · rw [bo_i1 hi]
    rcases Nat.lt_trichotomy j k with hjk | hjk | hjk
    · rw [bo_i1 hjk]; exact hO i j hij (by omega)
    · rw [bo_i2 hjk]; exact low i hi
    · rw [bo_i3 hjk]
      exact hO i (j - 1) (by omega) (by omega)
  · rw [bo_i2 hi, bo_i3 (by omega)]
    exact fun q => al_lt_i o _ (al_lt_t o _ _ _ q (h2 (j - 1) (by omega) (by omega)))
  · rw [bo_i3 hi, bo_i3 (by omega)]
    exact hO (i - 1) (j - 1) (by omega) (by omega)
/- pairs gathered so far -/
def pa_F (h : mz_H) (y : Nat) (n : Nat) (l : List al_M) (M : Nat) (f : Nat → al_M) (w : Nat → Nat) : Prop :=
  ∀ j, j < M → m4 h (y + 38) (4 * j) (f j) ∧ h.2.1 (y + 39) j = (w j : Int) ∧ ∃ v k, v < n ∧ k < l.length ∧ w j = 40 * v + k ∧ f j = al_p (fg_B l k) (tb_x v)
def pa_I (H h : mz_H) (y n o : Nat) (l : List al_M) (M : Nat) (f : Nat → al_M) (w : Nat → Nat) (K0 V0 : Nat) : Prop :=
  mz_fr H h [y + 36, y + 38, y + 39] ∧ pa_F h y n l M f w ∧ bo_N o M f ∧ M = n * K0 + V0 ∧ ∀ k v, k < l.length → v < n → (k < K0 ∨ k = K0 ∧ v < V0) → ∃ j, j < M ∧ w j = 40 * v + k
section RALL
variable {e : mz_E} {H : mz_H} {P : mz_O → mz_H → Prop} {y i : Nat} {p : Int} {n o : Nat} {g : iG} {dd : Nat} {l : List al_M} {nf : al_M → al_M → Int}
set_option maxRecDepth 100000 in
theorem lp_pair {d : Nat} {M K V : Nat} {f : Nat → al_M} {w : Nat → Nat} (hG : mx_G e.1) (hE : rm_E e y) (hok : tb_ok n o) (ho : H.2.1 y 3 = o) (hdg : ∀ k, k < l.length → al_dg (fg_B l k) < 200) (hl40 : l.length ≤ 40) (hK : K < l.length) (hV : V < n) (hM : M < 160) {h0 : mz_H} (hI : pa_I H h0 y n o l M f w K V) (h36 : m4 h0 (y + 36) 0 (al_p (fg_B l K) (tb_x V)))
    (hQ : ∀ h f' w' o5, pa_I H h y n o l (M + 1) f' w' K (V + 1) → mz_V e (d + 4) mm_M_multiplyAll 15 [some (.inr (.inl y)), some (.inl (i : Int)), some (.inl ((M + 1 : Nat) : Int)), some (.inl (K : Int)), some (.inl ((V + 1 : Nat) : Int)), o5] [] h P) :
    ∀ (k : Nat) (h : mz_H), k ≤ M → mz_fr h0 h [y + 38, y + 39] → (∀ j, j < k → m4 h (y + 38) (4 * j) (f j) ∧ h.2.1 (y + 39) j = (w j : Int)) → (∀ j, k < j → j ≤ M → m4 h (y + 38) (4 * j) (f (j - 1)) ∧ h.2.1 (y + 39) j = (w (j - 1) : Int)) → (∀ j, k ≤ j → j < M → al_lt o (al_p (fg_B l K) (tb_x V)) (f j)) → mz_V e (d + 4) mm_M_multiplyAll 53 [some (.inr (.inl y)), some (.inl (i : Int)), some (.inl (M : Int)), some (.inl (K : Int)), some (.inl (V : Int)), some (.inl (k : Int))] [] h P := by
  have hE' := hE
  obtain ⟨⟨ra0, ra4, ra5, ra6, ra7, ra8, ra9, ra10, ra11, ra12, ra13, ra14, ra15, ra16, ra17, ra21, ra29, ra30, ra31, ra32, ra33, ra34, ra35, ra36, ra37, ra41, ra42, ra46, ra47, ra48, ra49, ra50, ra51, ra52, ra53, ra54, ra56, ra57, ra58, ra59, ra60, ra65, ra66⟩, ⟨rb1, rb2, rb3, rb4, rb5, rb6, rb7, rb8, rb9, rb10, rb11, rb12, rb13, rb14, rb15, rb16, rb17, rb18, rb19, rb20, rb21, rb22, rb23, rb24, rb25, rb26, rb27, rb28, rb29, rb30, rb31, rb32, rb33, rb34, rb35, rb36, rb37, rb38, rb39, rb40, rb41, rb42⟩⟩ := hE
  have hok2 := hok.2.1
  obtain ⟨i1, i2, i3, i4, i5⟩ := hI
  generalize hm : al_p (fg_B l K) (tb_x V) = m at *
  have mdg : al_dg m < 1000 := by rw [← hm, al_dg_p, tb_x_d]; have := hdg K hK; omega
  have tail : ∀ (k : Nat) (h : mz_H), k ≤ M → mz_fr h0 h [y + 38, y + 39] → (∀ j, j < k → m4 h (y + 38) (4 * j) (f j) ∧ h.2.1 (y + 39) j = (w j : Int)) → (∀ j, k < j → j ≤ M → m4 h (y + 38) (4 * j) (f (j - 1)) ∧ h.2.1 (y + 39) j = (w (j - 1) : Int)) → (∀ j, k ≤ j → j < M → al_lt o m (f j)) → (k = 0 ∨ ¬ al_lt o m (f (k - 1))) → mz_V e (d + 4) mm_M_multiplyAll 123 [some (.inr (.inl y)), some (.inl (i : Int)), some (.inl (M : Int)), some (.inl (K : Int)), some (.inl (V : Int)), some (.inl (k : Int))] [] h P := by
    intro k h hk f1 h1 h2 h3 h4
    have x0 : (4 : Int) * (k : Int) = ((4 * k : Nat) : Int) := by omega
    have x1 : (40 : Int) * (V : Int) + (K : Int) = ((40 * V + K : Nat) : Int) := by omega
    apply mz_go hG 80 [15]
    simp only [mf_M_multiplyAll, ca_M_multiplyAll, dc_M_multiplyAll_0, dc_M_multiplyAll_1, dc_M_multiplyAll_2, dc_M_multiplyAll_3, dc_M_multiplyAll_4, dc_M_multiplyAll_5, dc_M_multiplyAll_6, dc_M_multiplyAll_7, dc_M_multiplyAll_8, dc_M_multiplyAll_9, dc_M_multiplyAll_10, dc_M_multiplyAll_11, dc_M_multiplyAll_12, dc_M_multiplyAll_13, fl_M, sl_M, sg_M_copyFour, sg_M_isLess, sg_M_multiplyOne, cpn_model_0, cpn_model_1, mx_cp_r, ra0, ra41, ra56, ra58, ra59, rb25, rb36, rb38, rb39, x0, mzr_iconst, mzr_bipush, mzr_sipush, mzr_lconst, mzr_iload, mzr_iload_n, mzr_aload, mzr_aload_n, mzr_lload, mzr_lload_n, mzr_istore, mzr_istore_n, mzr_astore, mzr_astore_n, mzr_lstore, mzr_lstore_n, mzr_iinc, mzr_iadd, mzr_isub, mzr_imul, mzr_iand, mzr_ior, mzr_ixor, mzr_ishl, mzr_ishr, mzr_iushr, mzr_idiv, mzr_irem, mzr_ineg, mzr_ladd, mzr_lsub, mzr_lmul, mzr_lrem, mzr_lcmp, mzr_i2l, mzr_l2i, mzr_i2b, mzr_dup, mzr_pop, mzr_dup2, mzr_ifCond_eq, mzr_if_icmp_eq, mzr_ifCond_ne, mzr_if_icmp_ne, mzr_ifCond_lt, mzr_if_icmp_lt, mzr_ifCond_ge, mzr_if_icmp_ge, mzr_ifCond_gt, mzr_if_icmp_gt, mzr_ifCond_le, mzr_if_icmp_le, mzr_goto, mzr_iaload, mzr_baload, mzr_laload, mzr_aaload, mzr_iastore, mzr_bastore, mzr_lastore, mzr_arraylength, mzr_getfield, mzr_putfield, mzr_getstatic, mzr_ldc, mzr_ldc_w, mzr_ldc2_w, mzr_ireturn, mzr_return_, mzr_copy, mzr_static, mzr_virtual, mzr_new, mz_tk, mz_dp, mz_ln, mz_sz, mz_af_v, mz_af_s, mz_wp_s, mz_w1, mz_g, mz_st, mz_k, mz_s2, mz_nx, mz_en, mx_to, mz_c1, ↓reduceIte, Nat.reduceAdd, Nat.reduceSub, Nat.reduceMul, Nat.reduceMod, Nat.reduceDiv, Nat.reduceEqDiff, Nat.reduceLeDiff, Nat.reduceLT, Int.reduceAdd, Int.reduceSub, Int.reduceNeg, Int.reduceMul, Int.reduceLE, Int.reduceLT, Int.reduceEq, Int.reduceToNat, Int.reduceNegSucc, Int.cast_ofNat_Int, Int32.reduceToInt, Int64.reduceToInt, Int.zero_add, Int.add_zero, Fin.isValue, Fin.val_zero, Fin.val_one, Fin.val_two, reduceCtorEq, or_false, false_or, or_true, true_or, or_self, and_true, true_and, and_self, not_true_eq_false, not_false_eq_true, implies_true, forall_const, List.mem_cons, List.not_mem_nil, false_implies, true_implies, imp_false, Nat.zero_add, Option.some.injEq, Prod.mk.injEq]
    repeat' first | omega | refine mz_it (fun hh => ?_) (fun hh => ?_) | refine And.intro ?_ ?_
    refine cm_copyFour (i := 0) (j := 4 * k) (d + 3) hG rb36 rb38 (by omega) (by omega) (by omega) (by omega) (h36.fr' (f1.2.2 _ (by simp))) (Or.inl (by omega)) (fun h' f2 q1 q2 => ?_)
    have f3 : mz_fr h0 (mz_w h' (y + 39) k ((40 * V + K : Nat) : Int)) [y + 38, y + 39] := (f1.tr (f2.mono (by simp))).tr (mz_fr.w _ _ _ _ (by simp))
    have e39 : ∀ j, h'.2.1 (y + 39) j = h.2.1 (y + 39) j := fun j => by rw [f2.2.2 _ (by simp)]
    have hx := hQ (mz_w h' (y + 39) k ((40 * V + K : Nat) : Int)) (bo_i f k m) (pwi w k (40 * V + K)) (some (.inl (k : Int))) ⟨i1.tr (f3.mono (by simp)), fun j hj => by
      have z38 : (mz_w h' (y + 39) k ((40 * V + K : Nat) : Int)).2.1 (y + 38) = h'.2.1 (y + 38) := (mz_fr.w h' (y + 39) k ((40 * V + K : Nat) : Int) (A := [y + 39]) (by simp)).2.2 _ (by simp)
      rcases Nat.lt_trichotomy j k with q | q | q
      · rw [bo_i1 q, pwi_1 q]
        obtain ⟨_, _, a3⟩ := i2 j (by omega)
        exact ⟨((h1 j q).1.fr (fun v hv => q2 _ (by omega))).fr' z38, by rw [mz_w_g, if_neg (by omega), e39]; exact (h1 j q).2, a3⟩
      · rw [bo_i2 q, pwi_2 q]
        exact ⟨by rw [q]; exact q1.fr' z38, by rw [mz_w_g, if_pos ⟨rfl, q⟩], V, K, hV, hK, rfl, hm.symm⟩
      · rw [bo_i3 q, pwi_3 q]
        obtain ⟨_, _, a3⟩ := i2 (j - 1) (by omega)
        exact ⟨((h2 j q (by omega)).1.fr (fun v hv => q2 _ (by omega))).fr' z38, by rw [mz_w_g, if_neg (by omega), e39]; exact (h2 j q (by omega)).2, a3⟩, bo_N_i i3 hk h4 h3, by omega, fun k' v' q1 q2 q3 => by
      by_cases hkv : k' = K ∧ v' = V
      · exact ⟨k, by omega, by rw [pwi_2 rfl, hkv.1, hkv.2]⟩
      · obtain ⟨j, j1, j2⟩ := i5 k' v' q1 q2 (by omega)
        by_cases hjk : j < k
        · exact ⟨j, by omega, by rw [pwi_1 hjk]; exact j2⟩
        · exact ⟨j + 1, by omega, by rw [pwi_3 (by omega), Nat.add_sub_cancel]; exact j2⟩⟩
    simp only [mf_M_multiplyAll, ca_M_multiplyAll, dc_M_multiplyAll_0, dc_M_multiplyAll_1, dc_M_multiplyAll_2, dc_M_multiplyAll_3, dc_M_multiplyAll_4, dc_M_multiplyAll_5, dc_M_multiplyAll_6, dc_M_multiplyAll_7, dc_M_multiplyAll_8, dc_M_multiplyAll_9, dc_M_multiplyAll_10, dc_M_multiplyAll_11, dc_M_multiplyAll_12, dc_M_multiplyAll_13, fl_M, sl_M, sg_M_copyFour, sg_M_isLess, sg_M_multiplyOne, cpn_model_0, cpn_model_1, mx_cp_r, ra0, ra41, ra56, ra58, ra59, rb25, rb36, rb38, rb39, x1, Int.toNat_natCast, mzr_iconst, mzr_bipush, mzr_sipush, mzr_lconst, mzr_iload, mzr_iload_n, mzr_aload, mzr_aload_n, mzr_lload, mzr_lload_n, mzr_istore, mzr_istore_n, mzr_astore, mzr_astore_n, mzr_lstore, mzr_lstore_n, mzr_iinc, mzr_iadd, mzr_isub, mzr_imul, mzr_iand, mzr_ior, mzr_ixor, mzr_ishl, mzr_ishr, mzr_iushr, mzr_idiv, mzr_irem, mzr_ineg, mzr_ladd, mzr_lsub, mzr_lmul, mzr_lrem, mzr_lcmp, mzr_i2l, mzr_l2i, mzr_i2b, mzr_dup, mzr_pop, mzr_dup2, mzr_ifCond_eq, mzr_if_icmp_eq, mzr_ifCond_ne, mzr_if_icmp_ne, mzr_ifCond_lt, mzr_if_icmp_lt, mzr_ifCond_ge, mzr_if_icmp_ge, mzr_ifCond_gt, mzr_if_icmp_gt, mzr_ifCond_le, mzr_if_icmp_le, mzr_goto, mzr_iaload, mzr_baload, mzr_laload, mzr_aaload, mzr_iastore, mzr_bastore, mzr_lastore, mzr_arraylength, mzr_getfield, mzr_putfield, mzr_getstatic, mzr_ldc, mzr_ldc_w, mzr_ldc2_w, mzr_ireturn, mzr_return_, mzr_copy, mzr_static, mzr_virtual, mzr_new, mz_tk, mz_dp, mz_ln, mz_sz, mz_af_v, mz_af_s, mz_wp_s, mz_w1, mz_g, mz_st, mz_k, mz_s2, mz_nx, mz_en, mx_to, mz_c1, ↓reduceIte, Nat.reduceAdd, Nat.reduceSub, Nat.reduceMul, Nat.reduceMod, Nat.reduceDiv, Nat.reduceEqDiff, Nat.reduceLeDiff, Nat.reduceLT, Int.reduceAdd, Int.reduceSub, Int.reduceNeg, Int.reduceMul, Int.reduceLE, Int.reduceLT, Int.reduceEq, Int.reduceToNat, Int.reduceNegSucc, Int.cast_ofNat_Int, Int32.reduceToInt, Int64.reduceToInt, Int.zero_add, Int.add_zero, Fin.isValue, Fin.val_zero, Fin.val_one, Fin.val_two, reduceCtorEq, or_false, false_or, or_true, true_or, or_self, and_true, true_and, and_self, not_true_eq_false, not_false_eq_true, implies_true, forall_const, List.mem_cons, List.not_mem_nil, false_implies, true_implies, imp_false, Nat.zero_add, Option.some.injEq, Prod.mk.injEq]
    repeat' first | omega | refine mz_it (fun hh => ?_) (fun hh => ?_) | refine And.intro ?_ ?_
    all_goals exact hx
  intro k
  induction k with
  | zero =>
    intro h hk f1 h1 h2 h3
    have hx := tail 0 h hk f1 h1 h2 h3 (Or.inl rfl)
    apply mz_go hG 80 [123]
    simp only [mf_M_multiplyAll, ca_M_multiplyAll, dc_M_multiplyAll_0, dc_M_multiplyAll_1, dc_M_multiplyAll_2, dc_M_multiplyAll_3, dc_M_multiplyAll_4, dc_M_multiplyAll_5, dc_M_multiplyAll_6, dc_M_multiplyAll_7, dc_M_multiplyAll_8, dc_M_multiplyAll_9, dc_M_multiplyAll_10, dc_M_multiplyAll_11, dc_M_multiplyAll_12, dc_M_multiplyAll_13, fl_M, sl_M, sg_M_copyFour, sg_M_isLess, sg_M_multiplyOne, cpn_model_0, cpn_model_1, mx_cp_r, ra0, ra41, ra56, ra58, ra59, rb25, rb36, rb38, rb39, mzr_iconst, mzr_bipush, mzr_sipush, mzr_lconst, mzr_iload, mzr_iload_n, mzr_aload, mzr_aload_n, mzr_lload, mzr_lload_n, mzr_istore, mzr_istore_n, mzr_astore, mzr_astore_n, mzr_lstore, mzr_lstore_n, mzr_iinc, mzr_iadd, mzr_isub, mzr_imul, mzr_iand, mzr_ior, mzr_ixor, mzr_ishl, mzr_ishr, mzr_iushr, mzr_idiv, mzr_irem, mzr_ineg, mzr_ladd, mzr_lsub, mzr_lmul, mzr_lrem, mzr_lcmp, mzr_i2l, mzr_l2i, mzr_i2b, mzr_dup, mzr_pop, mzr_dup2, mzr_ifCond_eq, mzr_if_icmp_eq, mzr_ifCond_ne, mzr_if_icmp_ne, mzr_ifCond_lt, mzr_if_icmp_lt, mzr_ifCond_ge, mzr_if_icmp_ge, mzr_ifCond_gt, mzr_if_icmp_gt, mzr_ifCond_le, mzr_if_icmp_le, mzr_goto, mzr_iaload, mzr_baload, mzr_laload, mzr_aaload, mzr_iastore, mzr_bastore, mzr_lastore, mzr_arraylength, mzr_getfield, mzr_putfield, mzr_getstatic, mzr_ldc, mzr_ldc_w, mzr_ldc2_w, mzr_ireturn, mzr_return_, mzr_copy, mzr_static, mzr_virtual, mzr_new, mz_tk, mz_dp, mz_ln, mz_sz, mz_af_v, mz_af_s, mz_wp_s, mz_w1, mz_g, mz_st, mz_k, mz_s2, mz_nx, mz_en, mx_to, mz_c1, ↓reduceIte, Nat.reduceAdd, Nat.reduceSub, Nat.reduceMul, Nat.reduceMod, Nat.reduceDiv, Nat.reduceEqDiff, Nat.reduceLeDiff, Nat.reduceLT, Int.reduceAdd, Int.reduceSub, Int.reduceNeg, Int.reduceMul, Int.reduceLE, Int.reduceLT, Int.reduceEq, Int.reduceToNat, Int.reduceNegSucc, Int.cast_ofNat_Int, Int32.reduceToInt, Int64.reduceToInt, Int.zero_add, Int.add_zero, Fin.isValue, Fin.val_zero, Fin.val_one, Fin.val_two, reduceCtorEq, or_false, false_or, or_true, true_or, or_self, and_true, true_and, and_self, not_true_eq_false, not_false_eq_true, implies_true, forall_const, List.mem_cons, List.not_mem_nil, false_implies, true_implies, imp_false, Nat.zero_add, Option.some.injEq, Prod.mk.injEq]
    repeat' first | omega | refine mz_it (fun hh => ?_) (fun hh => ?_) | refine And.intro ?_ ?_
    all_goals exact hx
  | succ k ih =>
    intro h hk f1 h1 h2 h3
    have x0 : (4 : Int) * ((k + 1 : Nat) : Int) - 4 = ((4 * k : Nat) : Int) := by omega
    have x1 : (4 : Int) * ((k + 1 : Nat) : Int) = ((4 * (k + 1) : Nat) : Int) := by omega
    have x4 : ((4 * (k + 1) : Nat) : Int) - 4 = ((4 * k : Nat) : Int) := by omega
    have x2 : (((k + 1 : Nat) : Int) + -1) = (k : Int) := by omega
    have x3 : (((k + 1 : Nat) : Int) - 1) = (k : Int) := by omega
    have hfk : al_dg (f k) < 1000 := by
      obtain ⟨_, _, v', k', q1, q2, _, q4⟩ := i2 k (by omega)
      rw [q4, al_dg_p, tb_x_d]
      have := hdg k' q2
      omega
    apply mz_go hG 80 [53, 123]
    simp only [mf_M_multiplyAll, ca_M_multiplyAll, dc_M_multiplyAll_0, dc_M_multiplyAll_1, dc_M_multiplyAll_2, dc_M_multiplyAll_3, dc_M_multiplyAll_4, dc_M_multiplyAll_5, dc_M_multiplyAll_6, dc_M_multiplyAll_7, dc_M_multiplyAll_8, dc_M_multiplyAll_9, dc_M_multiplyAll_10, dc_M_multiplyAll_11, dc_M_multiplyAll_12, dc_M_multiplyAll_13, fl_M, sl_M, sg_M_copyFour, sg_M_isLess, sg_M_multiplyOne, cpn_model_0, cpn_model_1, mx_cp_r, ra0, ra41, ra56, ra58, ra59, rb25, rb36, rb38, rb39, x0, mzr_iconst, mzr_bipush, mzr_sipush, mzr_lconst, mzr_iload, mzr_iload_n, mzr_aload, mzr_aload_n, mzr_lload, mzr_lload_n, mzr_istore, mzr_istore_n, mzr_astore, mzr_astore_n, mzr_lstore, mzr_lstore_n, mzr_iinc, mzr_iadd, mzr_isub, mzr_imul, mzr_iand, mzr_ior, mzr_ixor, mzr_ishl, mzr_ishr, mzr_iushr, mzr_idiv, mzr_irem, mzr_ineg, mzr_ladd, mzr_lsub, mzr_lmul, mzr_lrem, mzr_lcmp, mzr_i2l, mzr_l2i, mzr_i2b, mzr_dup, mzr_pop, mzr_dup2, mzr_ifCond_eq, mzr_if_icmp_eq, mzr_ifCond_ne, mzr_if_icmp_ne, mzr_ifCond_lt, mzr_if_icmp_lt, mzr_ifCond_ge, mzr_if_icmp_ge, mzr_ifCond_gt, mzr_if_icmp_gt, mzr_ifCond_le, mzr_if_icmp_le, mzr_goto, mzr_iaload, mzr_baload, mzr_laload, mzr_aaload, mzr_iastore, mzr_bastore, mzr_lastore, mzr_arraylength, mzr_getfield, mzr_putfield, mzr_getstatic, mzr_ldc, mzr_ldc_w, mzr_ldc2_w, mzr_ireturn, mzr_return_, mzr_copy, mzr_static, mzr_virtual, mzr_new, mz_tk, mz_dp, mz_ln, mz_sz, mz_af_v, mz_af_s, mz_wp_s, mz_w1, mz_g, mz_st, mz_k, mz_s2, mz_nx, mz_en, mx_to, mz_c1, ↓reduceIte, Nat.reduceAdd, Nat.reduceSub, Nat.reduceMul, Nat.reduceMod, Nat.reduceDiv, Nat.reduceEqDiff, Nat.reduceLeDiff, Nat.reduceLT, Int.reduceAdd, Int.reduceSub, Int.reduceNeg, Int.reduceMul, Int.reduceLE, Int.reduceLT, Int.reduceEq, Int.reduceToNat, Int.reduceNegSucc, Int.cast_ofNat_Int, Int32.reduceToInt, Int64.reduceToInt, Int.zero_add, Int.add_zero, Fin.isValue, Fin.val_zero, Fin.val_one, Fin.val_two, reduceCtorEq, or_false, false_or, or_true, true_or, or_self, and_true, true_and, and_self, not_true_eq_false, not_false_eq_true, implies_true, forall_const, List.mem_cons, List.not_mem_nil, false_implies, true_implies, imp_false, Nat.zero_add, Option.some.injEq, Prod.mk.injEq]
    repeat' first | omega | refine mz_it (fun hh => ?_) (fun hh => ?_) | refine And.intro ?_ ?_
    refine cm_isLess (i := 0) (j := 4 * k) (x := m) (z := f k) (d + 3) hG hE' (by rw [f1.2.2 y (by simp), i1.2.2 y (by simp)]; exact ho) hok.2.2 rb36 rb38 (by omega) (by omega) (by omega) (by omega) (h36.fr' (f1.2.2 _ (by simp))) (h1 k (by omega)).1 mdg hfk (fun hlt => ?_) (fun hnl => ?_)
    · simp only [mf_M_multiplyAll, ca_M_multiplyAll, dc_M_multiplyAll_0, dc_M_multiplyAll_1, dc_M_multiplyAll_2, dc_M_multiplyAll_3, dc_M_multiplyAll_4, dc_M_multiplyAll_5, dc_M_multiplyAll_6, dc_M_multiplyAll_7, dc_M_multiplyAll_8, dc_M_multiplyAll_9, dc_M_multiplyAll_10, dc_M_multiplyAll_11, dc_M_multiplyAll_12, dc_M_multiplyAll_13, fl_M, sl_M, sg_M_copyFour, sg_M_isLess, sg_M_multiplyOne, cpn_model_0, cpn_model_1, mx_cp_r, ra0, ra41, ra56, ra58, ra59, rb25, rb36, rb38, rb39, x1, x4, mzr_iconst, mzr_bipush, mzr_sipush, mzr_lconst, mzr_iload, mzr_iload_n, mzr_aload, mzr_aload_n, mzr_lload, mzr_lload_n, mzr_istore, mzr_istore_n, mzr_astore, mzr_astore_n, mzr_lstore, mzr_lstore_n, mzr_iinc, mzr_iadd, mzr_isub, mzr_imul, mzr_iand, mzr_ior, mzr_ixor, mzr_ishl, mzr_ishr, mzr_iushr, mzr_idiv, mzr_irem, mzr_ineg, mzr_ladd, mzr_lsub, mzr_lmul, mzr_lrem, mzr_lcmp, mzr_i2l, mzr_l2i, mzr_i2b, mzr_dup, mzr_pop, mzr_dup2, mzr_ifCond_eq, mzr_if_icmp_eq, mzr_ifCond_ne, mzr_if_icmp_ne, mzr_ifCond_lt, mzr_if_icmp_lt, mzr_ifCond_ge, mzr_if_icmp_ge, mzr_ifCond_gt, mzr_if_icmp_gt, mzr_ifCond_le, mzr_if_icmp_le, mzr_goto, mzr_iaload, mzr_baload, mzr_laload, mzr_aaload, mzr_iastore, mzr_bastore, mzr_lastore, mzr_arraylength, mzr_getfield, mzr_putfield, mzr_getstatic, mzr_ldc, mzr_ldc_w, mzr_ldc2_w, mzr_ireturn, mzr_return_, mzr_copy, mzr_static, mzr_virtual, mzr_new, mz_tk, mz_dp, mz_ln, mz_sz, mz_af_v, mz_af_s, mz_wp_s, mz_w1, mz_g, mz_st, mz_k, mz_s2, mz_nx, mz_en, mx_to, mz_c1, ↓reduceIte, Nat.reduceAdd, Nat.reduceSub, Nat.reduceMul, Nat.reduceMod, Nat.reduceDiv, Nat.reduceEqDiff, Nat.reduceLeDiff, Nat.reduceLT, Int.reduceAdd, Int.reduceSub, Int.reduceNeg, Int.reduceMul, Int.reduceLE, Int.reduceLT, Int.reduceEq, Int.reduceToNat, Int.reduceNegSucc, Int.cast_ofNat_Int, Int32.reduceToInt, Int64.reduceToInt, Int.zero_add, Int.add_zero, Fin.isValue, Fin.val_zero, Fin.val_one, Fin.val_two, reduceCtorEq, or_false, false_or, or_true, true_or, or_self, and_true, true_and, and_self, not_true_eq_false, not_false_eq_true, implies_true, forall_const, List.mem_cons, List.not_mem_nil, false_implies, true_implies, imp_false, Nat.zero_add, Option.some.injEq, Prod.mk.injEq]
      repeat' first | omega | refine mz_it (fun hh => ?_) (fun hh => ?_) | refine And.intro ?_ ?_
      refine cm_copyFour (i := 4 * k) (j := 4 * (k + 1)) (d + 3) hG rb38 rb38 (by omega) (by omega) (by omega) (by omega) (h1 k (by omega)).1 (Or.inr (by omega)) (fun h' f2 q1 q2 => ?_)
      have e39 : ∀ j, h'.2.1 (y + 39) j = h.2.1 (y + 39) j := fun j => by rw [f2.2.2 _ (by simp)]
      have zk : h'.2.1 (y + 39) k = (w k : Int) := by rw [e39]; exact (h1 k (by omega)).2
      have z38 : (mz_w h' (y + 39) (k + 1) (w k : Int)).2.1 (y + 38) = h'.2.1 (y + 38) := (mz_fr.w h' (y + 39) (k + 1) (w k : Int) (A := [y + 39]) (by simp)).2.2 _ (by simp)
      have hx := ih (mz_w h' (y + 39) (k + 1) (w k : Int)) (by omega) ((f1.tr (f2.mono (by simp))).tr (mz_fr.w _ _ _ _ (by simp))) (fun j hj => ⟨((h1 j (by omega)).1.fr (fun v hv => q2 _ (by omega))).fr' z38, by rw [mz_w_g, if_neg (by omega), e39]; exact (h1 j (by omega)).2⟩) (fun j hj1 hj2 => by
        by_cases hjk : j = k + 1
        · rw [hjk, Nat.add_sub_cancel]; exact ⟨q1.fr' z38, by rw [mz_w_g, if_pos ⟨rfl, rfl⟩]⟩
        · exact ⟨((h2 j (by omega) hj2).1.fr (fun v hv => q2 _ (by omega))).fr' z38, by rw [mz_w_g, if_neg (by omega), e39]; exact (h2 j (by omega) hj2).2⟩) (fun j hj1 hj2 => by
        by_cases hjk : j = k
        · rw [hjk]; exact hlt
        · exact h3 j (by omega) hj2)
      simp only [mf_M_multiplyAll, ca_M_multiplyAll, dc_M_multiplyAll_0, dc_M_multiplyAll_1, dc_M_multiplyAll_2, dc_M_multiplyAll_3, dc_M_multiplyAll_4, dc_M_multiplyAll_5, dc_M_multiplyAll_6, dc_M_multiplyAll_7, dc_M_multiplyAll_8, dc_M_multiplyAll_9, dc_M_multiplyAll_10, dc_M_multiplyAll_11, dc_M_multiplyAll_12, dc_M_multiplyAll_13, fl_M, sl_M, sg_M_copyFour, sg_M_isLess, sg_M_multiplyOne, cpn_model_0, cpn_model_1, mx_cp_r, ra0, ra41, ra56, ra58, ra59, rb25, rb36, rb38, rb39, x2, x3, zk, Int.toNat_natCast, mzr_iconst, mzr_bipush, mzr_sipush, mzr_lconst, mzr_iload, mzr_iload_n, mzr_aload, mzr_aload_n, mzr_lload, mzr_lload_n, mzr_istore, mzr_istore_n, mzr_astore, mzr_astore_n, mzr_lstore, mzr_lstore_n, mzr_iinc, mzr_iadd, mzr_isub, mzr_imul, mzr_iand, mzr_ior, mzr_ixor, mzr_ishl, mzr_ishr, mzr_iushr, mzr_idiv, mzr_irem, mzr_ineg, mzr_ladd, mzr_lsub, mzr_lmul, mzr_lrem, mzr_lcmp, mzr_i2l, mzr_l2i, mzr_i2b, mzr_dup, mzr_pop, mzr_dup2, mzr_ifCond_eq, mzr_if_icmp_eq, mzr_ifCond_ne, mzr_if_icmp_ne, mzr_ifCond_lt, mzr_if_icmp_lt, mzr_ifCond_ge, mzr_if_icmp_ge, mzr_ifCond_gt, mzr_if_icmp_gt, mzr_ifCond_le, mzr_if_icmp_le, mzr_goto, mzr_iaload, mzr_baload, mzr_laload, mzr_aaload, mzr_iastore, mzr_bastore, mzr_lastore, mzr_arraylength, mzr_getfield, mzr_putfield, mzr_getstatic, mzr_ldc, mzr_ldc_w, mzr_ldc2_w, mzr_ireturn, mzr_return_, mzr_copy, mzr_static, mzr_virtual, mzr_new, mz_tk, mz_dp, mz_ln, mz_sz, mz_af_v, mz_af_s, mz_wp_s, mz_w1, mz_g, mz_st, mz_k, mz_s2, mz_nx, mz_en, mx_to, mz_c1, ↓reduceIte, Nat.reduceAdd, Nat.reduceSub, Nat.reduceMul, Nat.reduceMod, Nat.reduceDiv, Nat.reduceEqDiff, Nat.reduceLeDiff, Nat.reduceLT, Int.reduceAdd, Int.reduceSub, Int.reduceNeg, Int.reduceMul, Int.reduceLE, Int.reduceLT, Int.reduceEq, Int.reduceToNat, Int.reduceNegSucc, Int.cast_ofNat_Int, Int32.reduceToInt, Int64.reduceToInt, Int.zero_add, Int.add_zero, Fin.isValue, Fin.val_zero, Fin.val_one, Fin.val_two, reduceCtorEq, or_false, false_or, or_true, true_or, or_self, and_true, true_and, and_self, not_true_eq_false, not_false_eq_true, implies_true, forall_const, List.mem_cons, List.not_mem_nil, false_implies, true_implies, imp_false, Nat.zero_add, Option.some.injEq, Prod.mk.injEq]
      repeat' first | omega | refine mz_it (fun hh => ?_) (fun hh => ?_) | refine And.intro ?_ ?_
      all_goals exact hx
    · have hx := tail (k + 1) h hk f1 h1 h2 h3 (Or.inr (by rw [Nat.add_sub_cancel]; exact hnl))
      simp only [mf_M_multiplyAll, ca_M_multiplyAll, dc_M_multiplyAll_0, dc_M_multiplyAll_1, dc_M_multiplyAll_2, dc_M_multiplyAll_3, dc_M_multiplyAll_4, dc_M_multiplyAll_5, dc_M_multiplyAll_6, dc_M_multiplyAll_7, dc_M_multiplyAll_8, dc_M_multiplyAll_9, dc_M_multiplyAll_10, dc_M_multiplyAll_11, dc_M_multiplyAll_12, dc_M_multiplyAll_13, fl_M, sl_M, sg_M_copyFour, sg_M_isLess, sg_M_multiplyOne, cpn_model_0, cpn_model_1, mx_cp_r, ra0, ra41, ra56, ra58, ra59, rb25, rb36, rb38, rb39, mzr_iconst, mzr_bipush, mzr_sipush, mzr_lconst, mzr_iload, mzr_iload_n, mzr_aload, mzr_aload_n, mzr_lload, mzr_lload_n, mzr_istore, mzr_istore_n, mzr_astore, mzr_astore_n, mzr_lstore, mzr_lstore_n, mzr_iinc, mzr_iadd, mzr_isub, mzr_imul, mzr_iand, mzr_ior, mzr_ixor, mzr_ishl, mzr_ishr, mzr_iushr, mzr_idiv, mzr_irem, mzr_ineg, mzr_ladd, mzr_lsub, mzr_lmul, mzr_lrem, mzr_lcmp, mzr_i2l, mzr_l2i, mzr_i2b, mzr_dup, mzr_pop, mzr_dup2, mzr_ifCond_eq, mzr_if_icmp_eq, mzr_ifCond_ne, mzr_if_icmp_ne, mzr_ifCond_lt, mzr_if_icmp_lt, mzr_ifCond_ge, mzr_if_icmp_ge, mzr_ifCond_gt, mzr_if_icmp_gt, mzr_ifCond_le, mzr_if_icmp_le, mzr_goto, mzr_iaload, mzr_baload, mzr_laload, mzr_aaload, mzr_iastore, mzr_bastore, mzr_lastore, mzr_arraylength, mzr_getfield, mzr_putfield, mzr_getstatic, mzr_ldc, mzr_ldc_w, mzr_ldc2_w, mzr_ireturn, mzr_return_, mzr_copy, mzr_static, mzr_virtual, mzr_new, mz_tk, mz_dp, mz_ln, mz_sz, mz_af_v, mz_af_s, mz_wp_s, mz_w1, mz_g, mz_st, mz_k, mz_s2, mz_nx, mz_en, mx_to, mz_c1, ↓reduceIte, Nat.reduceAdd, Nat.reduceSub, Nat.reduceMul, Nat.reduceMod, Nat.reduceDiv, Nat.reduceEqDiff, Nat.reduceLeDiff, Nat.reduceLT, Int.reduceAdd, Int.reduceSub, Int.reduceNeg, Int.reduceMul, Int.reduceLE, Int.reduceLT, Int.reduceEq, Int.reduceToNat, Int.reduceNegSucc, Int.cast_ofNat_Int, Int32.reduceToInt, Int64.reduceToInt, Int.zero_add, Int.add_zero, Fin.isValue, Fin.val_zero, Fin.val_one, Fin.val_two, reduceCtorEq, or_false, false_or, or_true, true_or, or_self, and_true, true_and, and_self, not_true_eq_false, not_false_eq_true, implies_true, forall_const, List.mem_cons, List.not_mem_nil, false_implies, true_implies, imp_false, Nat.zero_add, Option.some.injEq, Prod.mk.injEq]
      repeat' first | omega | refine mz_it (fun hh => ?_) (fun hh => ?_) | refine And.intro ?_ ?_
      all_goals exact hx
set_option maxRecDepth 100000 in
theorem cm_multiplyAll (d : Nat) (hG : mx_G e.1) (hE : rm_E e y) (hi : i < 4) (hok : tb_ok n o) (hp2 : 2 ≤ p ∧ p < 32768) (hF : rm_F H y p n o) (hd : dd ≤ tb_h n) (hg : ∀ k, k < g.1 → pl p n (g.2.1 k)) (hb : rb_S H y i p n o g dd) (hl : rp_L H y l) (hlS : ∀ m, m ∈ l ↔ iv_St p n o g dd m) (hinj : ∀ i j, i < l.length → j < l.length → fg_B l i = fg_B l j → i = j)
    (hnf : nf_A p n o l (fun m => ¬ ∃ c, iv_C p n o g dd c ∧ al_le (tb_T n o c) m) (tb_F n (dd + 1)) (iv_V p n o g dd) nf) (hdg : ∀ k, k < l.length → al_dg (fg_B l k) < 200)
    (hP : ∀ h, mz_fr H h [y, y + 26, y + 36, y + 38, y + 39] → (∀ k, k ≠ 55 → h.2.1 y k = H.2.1 y k) → (∀ v k, v < n → k < l.length → fo_1 p (fun q => h.2.1 (y + 26) (40 * (40 * v + k) + q)) l nf (al_p (fg_B l k) (tb_x v))) → P (.inl none) h) : mz_CA e (d + 4) j_M_multiplyAll [.inr (.inl y), .inl (i : Int)] H P := by
  have hE' := hE
  obtain ⟨⟨ra0, ra4, ra5, ra6, ra7, ra8, ra9, ra10, ra11, ra12, ra13, ra14, ra15, ra16, ra17, ra21, ra29, ra30, ra31, ra32, ra33, ra34, ra35, ra36, ra37, ra41, ra42, ra46, ra47, ra48, ra49, ra50, ra51, ra52, ra53, ra54, ra56, ra57, ra58, ra59, ra60, ra65, ra66⟩, ⟨rb1, rb2, rb3, rb4, rb5, rb6, rb7, rb8, rb9, rb10, rb11, rb12, rb13, rb14, rb15, rb16, rb17, rb18, rb19, rb20, rb21, rb22, rb23, rb24, rb25, rb26, rb27, rb28, rb29, rb30, rb31, rb32, rb33, rb34, rb35, rb36, rb37, rb38, rb39, rb40, rb41, rb42⟩⟩ := hE
  have hok1 := hok.1
  have hok2 := hok.2.1
  have hl40 := hl.2.1
  have zn := hF.1.2.1
  have ho := hF.1.2.2
  -- all products
  have run : ∀ (M : Nat) (f : Nat → al_M) (w : Nat → Nat) (h1 : mz_H) o4 o5, pa_I H h1 y n o l M f w l.length 0 → M ≤ 160 → ∀ (c j : Nat) (h : mz_H), j + c = M → mz_fr h1 h [y, y + 26, y + 36] → (∀ k, k ≠ 55 → h.2.1 y k = H.2.1 y k) → (∀ j', j' < j → fo_1 p (fun q => h.2.1 (y + 26) (40 * w j' + q)) l nf (f j')) → mz_V e (d + 4) mm_M_multiplyAll 170 [some (.inr (.inl y)), some (.inl (i : Int)), some (.inl (M : Int)), some (.inl (j : Int)), o4, o5] [] h P := by
    intro M f w h1 o4 o5 hI hM c
    obtain ⟨i1, i2, i3, i4, i5⟩ := hI
    have dec : ∀ j, j < M → ∀ v k, v < n → k < l.length → w j = 40 * v + k → f j = al_p (fg_B l k) (tb_x v) := fun j hj v k hv hk hw => by
      obtain ⟨_, _, v', k', q1, q2, q3, q4⟩ := i2 j hj
      have : v' = v ∧ k' = k := by omega
      rw [q4, this.1, this.2]
    induction c with
    | zero =>
      intro j h hj f2 hk hdone
      obtain rfl : j = M := by omega
      have fin := hP h ((i1.mono (by simp)).tr (f2.mono (by simp))) hk (fun v k hv hkl => by
        obtain ⟨j', j1, j2⟩ := i5 k v hkl hv (Or.inl hkl)
        have := hdone j' j1
        rw [dec j' j1 v k hv hkl j2, j2] at this
        exact this)
      apply mz_go hG 80 [170]
      simp only [mf_M_multiplyAll, ca_M_multiplyAll, dc_M_multiplyAll_0, dc_M_multiplyAll_1, dc_M_multiplyAll_2, dc_M_multiplyAll_3, dc_M_multiplyAll_4, dc_M_multiplyAll_5, dc_M_multiplyAll_6, dc_M_multiplyAll_7, dc_M_multiplyAll_8, dc_M_multiplyAll_9, dc_M_multiplyAll_10, dc_M_multiplyAll_11, dc_M_multiplyAll_12, dc_M_multiplyAll_13, fl_M, sl_M, sg_M_copyFour, sg_M_isLess, sg_M_multiplyOne, cpn_model_0, cpn_model_1, mx_cp_r, ra0, ra41, ra56, ra58, ra59, rb25, rb36, rb38, rb39, mzr_iconst, mzr_bipush, mzr_sipush, mzr_lconst, mzr_iload, mzr_iload_n, mzr_aload, mzr_aload_n, mzr_lload, mzr_lload_n, mzr_istore, mzr_istore_n, mzr_astore, mzr_astore_n, mzr_lstore, mzr_lstore_n, mzr_iinc, mzr_iadd, mzr_isub, mzr_imul, mzr_iand, mzr_ior, mzr_ixor, mzr_ishl, mzr_ishr, mzr_iushr, mzr_idiv, mzr_irem, mzr_ineg, mzr_ladd, mzr_lsub, mzr_lmul, mzr_lrem, mzr_lcmp, mzr_i2l, mzr_l2i, mzr_i2b, mzr_dup, mzr_pop, mzr_dup2, mzr_ifCond_eq, mzr_if_icmp_eq, mzr_ifCond_ne, mzr_if_icmp_ne, mzr_ifCond_lt, mzr_if_icmp_lt, mzr_ifCond_ge, mzr_if_icmp_ge, mzr_ifCond_gt, mzr_if_icmp_gt, mzr_ifCond_le, mzr_if_icmp_le, mzr_goto, mzr_iaload, mzr_baload, mzr_laload, mzr_aaload, mzr_iastore, mzr_bastore, mzr_lastore, mzr_arraylength, mzr_getfield, mzr_putfield, mzr_getstatic, mzr_ldc, mzr_ldc_w, mzr_ldc2_w, mzr_ireturn, mzr_return_, mzr_copy, mzr_static, mzr_virtual, mzr_new, mz_tk, mz_dp, mz_ln, mz_sz, mz_af_v, mz_af_s, mz_wp_s, mz_w1, mz_g, mz_st, mz_k, mz_s2, mz_nx, mz_en, mx_to, mz_c1, ↓reduceIte, Nat.reduceAdd, Nat.reduceSub, Nat.reduceMul, Nat.reduceMod, Nat.reduceDiv, Nat.reduceEqDiff, Nat.reduceLeDiff, Nat.reduceLT, Int.reduceAdd, Int.reduceSub, Int.reduceNeg, Int.reduceMul, Int.reduceLE, Int.reduceLT, Int.reduceEq, Int.reduceToNat, Int.reduceNegSucc, Int.cast_ofNat_Int, Int32.reduceToInt, Int64.reduceToInt, Int.zero_add, Int.add_zero, Fin.isValue, Fin.val_zero, Fin.val_one, Fin.val_two, reduceCtorEq, or_false, false_or, or_true, true_or, or_self, and_true, true_and, and_self, not_true_eq_false, not_false_eq_true, implies_true, forall_const, List.mem_cons, List.not_mem_nil, false_implies, true_implies, imp_false, Nat.zero_add, Option.some.injEq, Prod.mk.injEq]
      repeat' first | omega | refine mz_it (fun hh => ?_) (fun hh => ?_) | refine And.intro ?_ ?_
      all_goals exact fin
    | succ c ih =>
      intro j h hj f2 hk hdone
      obtain ⟨a1, a2, v, k, a3, a4, a5, a6⟩ := i2 j (by omega)
      have yh : ∀ c, c ≠ y → c ≠ y + 26 → c ≠ y + 36 → h.2.1 c = h1.2.1 c := fun c c1 c2 c3 => f2.2.2 c (by simp; omega)
      have yH : ∀ c, c ≠ y → c ≠ y + 26 → c ≠ y + 36 → c ≠ y + 38 → c ≠ y + 39 → h.2.1 c = H.2.1 c := fun c c1 c2 c3 c4 c5 => by rw [yh c c1 c2 c3]; exact i1.2.2 c (by simp; omega)
      have fH : mz_fr H h [y, y + 26, y + 36, y + 38, y + 39] := (i1.mono (by simp)).tr (f2.mono (by simp))
      apply mz_go hG 80 [170]
      simp only [mf_M_multiplyAll, ca_M_multiplyAll, dc_M_multiplyAll_0, dc_M_multiplyAll_1, dc_M_multiplyAll_2, dc_M_multiplyAll_3, dc_M_multiplyAll_4, dc_M_multiplyAll_5, dc_M_multiplyAll_6, dc_M_multiplyAll_7, dc_M_multiplyAll_8, dc_M_multiplyAll_9, dc_M_multiplyAll_10, dc_M_multiplyAll_11, dc_M_multiplyAll_12, dc_M_multiplyAll_13, fl_M, sl_M, sg_M_copyFour, sg_M_isLess, sg_M_multiplyOne, cpn_model_0, cpn_model_1, mx_cp_r, ra0, ra41, ra56, ra58, ra59, rb25, rb36, rb38, rb39, mzr_iconst, mzr_bipush, mzr_sipush, mzr_lconst, mzr_iload, mzr_iload_n, mzr_aload, mzr_aload_n, mzr_lload, mzr_lload_n, mzr_istore, mzr_istore_n, mzr_astore, mzr_astore_n, mzr_lstore, mzr_lstore_n, mzr_iinc, mzr_iadd, mzr_isub, mzr_imul, mzr_iand, mzr_ior, mzr_ixor, mzr_ishl, mzr_ishr, mzr_iushr, mzr_idiv, mzr_irem, mzr_ineg, mzr_ladd, mzr_lsub, mzr_lmul, mzr_lrem, mzr_lcmp, mzr_i2l, mzr_l2i, mzr_i2b, mzr_dup, mzr_pop, mzr_dup2, mzr_ifCond_eq, mzr_if_icmp_eq, mzr_ifCond_ne, mzr_if_icmp_ne, mzr_ifCond_lt, mzr_if_icmp_lt, mzr_ifCond_ge, mzr_if_icmp_ge, mzr_ifCond_gt, mzr_if_icmp_gt, mzr_ifCond_le, mzr_if_icmp_le, mzr_goto, mzr_iaload, mzr_baload, mzr_laload, mzr_aaload, mzr_iastore, mzr_bastore, mzr_lastore, mzr_arraylength, mzr_getfield, mzr_putfield, mzr_getstatic, mzr_ldc, mzr_ldc_w, mzr_ldc2_w, mzr_ireturn, mzr_return_, mzr_copy, mzr_static, mzr_virtual, mzr_new, mz_tk, mz_dp, mz_ln, mz_sz, mz_af_v, mz_af_s, mz_wp_s, mz_w1, mz_g, mz_st, mz_k, mz_s2, mz_nx, mz_en, mx_to, mz_c1, ↓reduceIte, Nat.reduceAdd, Nat.reduceSub, Nat.reduceMul, Nat.reduceMod, Nat.reduceDiv, Nat.reduceEqDiff, Nat.reduceLeDiff, Nat.reduceLT, Int.reduceAdd, Int.reduceSub, Int.reduceNeg, Int.reduceMul, Int.reduceLE, Int.reduceLT, Int.reduceEq, Int.reduceToNat, Int.reduceNegSucc, Int.cast_ofNat_Int, Int32.reduceToInt, Int64.reduceToInt, Int.zero_add, Int.add_zero, Fin.isValue, Fin.val_zero, Fin.val_one, Fin.val_two, reduceCtorEq, or_false, false_or, or_true, true_or, or_self, and_true, true_and, and_self, not_true_eq_false, not_false_eq_true, implies_true, forall_const, List.mem_cons, List.not_mem_nil, false_implies, true_implies, imp_false, Nat.zero_add, Option.some.injEq, Prod.mk.injEq]
      repeat' first | omega | refine mz_it (fun hh => ?_) (fun hh => ?_) | refine And.intro ?_ ?_
      refine cm_multiplyOne (V := v) (K := k) (g := g) (dd := dd) (l := l) (nf := nf) d hG hE' hi hok hp2 (hF.fr fH (fun q q1 q2 => hk q (by omega)) (fun c h1 h2 => by simp; omega)) hd hg (hb.fr (yH _ (by omega) (by omega) (by omega) (by omega) (by omega)) (yH _ (by omega) (by omega) (by omega) (by omega) (by omega))) (hl.fr (hk 40 (by omega)) (yH _ (by omega) (by omega) (by omega) (by omega) (by omega))) hlS hinj hnf (by omega) a3 a4 (by rw [← a6]; exact a1.fr' (yh _ (by omega) (by omega) (by omega))) (by rw [yh _ (by omega) (by omega) (by omega), a2, a5]) (by have := hdg k a4; omega) (fun v' k' hv' hk' hlt => by
        obtain ⟨j', j1, j2⟩ := i5 k' v' hk' hv' (Or.inl hk')
        have hfj := dec j' j1 v' k' hv' hk' j2
        rw [← a6, ← hfj] at hlt
        have hjj : j' < j := by
          rcases Nat.lt_trichotomy j' j with q | q | q
          · exact q
          · rw [q] at hlt; exact absurd hlt (al_lt_i o _)
          · exact absurd hlt (i3 j j' q j1)
        have := hdone j' hjj
        rw [hfj, j2] at this
        exact this) (fun h2 f3 k3 r3 w3 => ?_)
      have hx := ih (j + 1) h2 (by omega) (f2.tr f3) (fun q hq => by rw [k3 q hq]; exact hk q hq) (fun j' hj' => by
        by_cases hww : w j' = w j
        · have hfj : f j' = f j := by rw [dec j' (by omega) v k a3 a4 (by rw [hww]; exact a5), a6]
          rw [hfj, hww, a5, a6]
          exact w3
        · have hj2 : j' < j := by
            by_cases hq : j' = j
            · rw [hq] at hww; exact absurd rfl hww
            · omega
          refine (hdone j' hj2).c (fun q hq => ?_)
          (try simp only [])
          refine r3 _ ?_
          rw [a5] at hww
          omega)
      simp only [mf_M_multiplyAll, ca_M_multiplyAll, dc_M_multiplyAll_0, dc_M_multiplyAll_1, dc_M_multiplyAll_2, dc_M_multiplyAll_3, dc_M_multiplyAll_4, dc_M_multiplyAll_5, dc_M_multiplyAll_6, dc_M_multiplyAll_7, dc_M_multiplyAll_8, dc_M_multiplyAll_9, dc_M_multiplyAll_10, dc_M_multiplyAll_11, dc_M_multiplyAll_12, dc_M_multiplyAll_13, fl_M, sl_M, sg_M_copyFour, sg_M_isLess, sg_M_multiplyOne, cpn_model_0, cpn_model_1, mx_cp_r, ra0, ra41, ra56, ra58, ra59, rb25, rb36, rb38, rb39, mzr_iconst, mzr_bipush, mzr_sipush, mzr_lconst, mzr_iload, mzr_iload_n, mzr_aload, mzr_aload_n, mzr_lload, mzr_lload_n, mzr_istore, mzr_istore_n, mzr_astore, mzr_astore_n, mzr_lstore, mzr_lstore_n, mzr_iinc, mzr_iadd, mzr_isub, mzr_imul, mzr_iand, mzr_ior, mzr_ixor, mzr_ishl, mzr_ishr, mzr_iushr, mzr_idiv, mzr_irem, mzr_ineg, mzr_ladd, mzr_lsub, mzr_lmul, mzr_lrem, mzr_lcmp, mzr_i2l, mzr_l2i, mzr_i2b, mzr_dup, mzr_pop, mzr_dup2, mzr_ifCond_eq, mzr_if_icmp_eq, mzr_ifCond_ne, mzr_if_icmp_ne, mzr_ifCond_lt, mzr_if_icmp_lt, mzr_ifCond_ge, mzr_if_icmp_ge, mzr_ifCond_gt, mzr_if_icmp_gt, mzr_ifCond_le, mzr_if_icmp_le, mzr_goto, mzr_iaload, mzr_baload, mzr_laload, mzr_aaload, mzr_iastore, mzr_bastore, mzr_lastore, mzr_arraylength, mzr_getfield, mzr_putfield, mzr_getstatic, mzr_ldc, mzr_ldc_w, mzr_ldc2_w, mzr_ireturn, mzr_return_, mzr_copy, mzr_static, mzr_virtual, mzr_new, mz_tk, mz_dp, mz_ln, mz_sz, mz_af_v, mz_af_s, mz_wp_s, mz_w1, mz_g, mz_st, mz_k, mz_s2, mz_nx, mz_en, mx_to, mz_c1, ↓reduceIte, Nat.reduceAdd, Nat.reduceSub, Nat.reduceMul, Nat.reduceMod, Nat.reduceDiv, Nat.reduceEqDiff, Nat.reduceLeDiff, Nat.reduceLT, Int.reduceAdd, Int.reduceSub, Int.reduceNeg, Int.reduceMul, Int.reduceLE, Int.reduceLT, Int.reduceEq, Int.reduceToNat, Int.reduceNegSucc, Int.cast_ofNat_Int, Int32.reduceToInt, Int64.reduceToInt, Int.zero_add, Int.add_zero, Fin.isValue, Fin.val_zero, Fin.val_one, Fin.val_two, reduceCtorEq, or_false, false_or, or_true, true_or, or_self, and_true, true_and, and_self, not_true_eq_false, not_false_eq_true, implies_true, forall_const, List.mem_cons, List.not_mem_nil, false_implies, true_implies, imp_false, Nat.zero_add, Option.some.injEq, Prod.mk.injEq]
      repeat' first | omega | refine mz_it (fun hh => ?_) (fun hh => ?_) | refine And.intro ?_ ?_
      all_goals exact hx
  have lpv : ∀ (K : Nat), K < l.length → (∀ h M f w o4 o5, pa_I H h y n o l M f w (K + 1) 0 → mz_V e (d + 4) mm_M_multiplyAll 4 [some (.inr (.inl y)), some (.inl (i : Int)), some (.inl (M : Int)), some (.inl ((K + 1 : Nat) : Int)), o4, o5] [] h P) →
      ∀ (c V : Nat) (h : mz_H) (M : Nat) (f : Nat → al_M) (w : Nat → Nat) o5, V + c = n → pa_I H h y n o l M f w K V → mz_V e (d + 4) mm_M_multiplyAll 15 [some (.inr (.inl y)), some (.inl (i : Int)), some (.inl (M : Int)), some (.inl (K : Int)), some (.inl (V : Int)), o5] [] h P := by
    intro K hK hQ c
    induction c with
    | zero =>
      intro V h M f w o5 hV hI
      obtain rfl : V = n := by omega
      obtain ⟨i1, i2, i3, i4, i5⟩ := hI
      have wn : h.2.1 y 2 = V := by rw [i1.2.2 y (by simp)]; exact zn
      have hx := hQ h M f w (some (.inl (V : Int))) o5 ⟨i1, i2, i3, by rw [i4, Nat.mul_add]; omega, fun k v q1 q2 q3 => i5 k v q1 q2 (by omega)⟩
      apply mz_go hG 80 [4, 15]
      simp only [mf_M_multiplyAll, ca_M_multiplyAll, dc_M_multiplyAll_0, dc_M_multiplyAll_1, dc_M_multiplyAll_2, dc_M_multiplyAll_3, dc_M_multiplyAll_4, dc_M_multiplyAll_5, dc_M_multiplyAll_6, dc_M_multiplyAll_7, dc_M_multiplyAll_8, dc_M_multiplyAll_9, dc_M_multiplyAll_10, dc_M_multiplyAll_11, dc_M_multiplyAll_12, dc_M_multiplyAll_13, fl_M, sl_M, sg_M_copyFour, sg_M_isLess, sg_M_multiplyOne, cpn_model_0, cpn_model_1, mx_cp_r, ra0, ra41, ra56, ra58, ra59, rb25, rb36, rb38, rb39, wn, mzr_iconst, mzr_bipush, mzr_sipush, mzr_lconst, mzr_iload, mzr_iload_n, mzr_aload, mzr_aload_n, mzr_lload, mzr_lload_n, mzr_istore, mzr_istore_n, mzr_astore, mzr_astore_n, mzr_lstore, mzr_lstore_n, mzr_iinc, mzr_iadd, mzr_isub, mzr_imul, mzr_iand, mzr_ior, mzr_ixor, mzr_ishl, mzr_ishr, mzr_iushr, mzr_idiv, mzr_irem, mzr_ineg, mzr_ladd, mzr_lsub, mzr_lmul, mzr_lrem, mzr_lcmp, mzr_i2l, mzr_l2i, mzr_i2b, mzr_dup, mzr_pop, mzr_dup2, mzr_ifCond_eq, mzr_if_icmp_eq, mzr_ifCond_ne, mzr_if_icmp_ne, mzr_ifCond_lt, mzr_if_icmp_lt, mzr_ifCond_ge, mzr_if_icmp_ge, mzr_ifCond_gt, mzr_if_icmp_gt, mzr_ifCond_le, mzr_if_icmp_le, mzr_goto, mzr_iaload, mzr_baload, mzr_laload, mzr_aaload, mzr_iastore, mzr_bastore, mzr_lastore, mzr_arraylength, mzr_getfield, mzr_putfield, mzr_getstatic, mzr_ldc, mzr_ldc_w, mzr_ldc2_w, mzr_ireturn, mzr_return_, mzr_copy, mzr_static, mzr_virtual, mzr_new, mz_tk, mz_dp, mz_ln, mz_sz, mz_af_v, mz_af_s, mz_wp_s, mz_w1, mz_g, mz_st, mz_k, mz_s2, mz_nx, mz_en, mx_to, mz_c1, ↓reduceIte, Nat.reduceAdd, Nat.reduceSub, Nat.reduceMul, Nat.reduceMod, Nat.reduceDiv, Nat.reduceEqDiff, Nat.reduceLeDiff, Nat.reduceLT, Int.reduceAdd, Int.reduceSub, Int.reduceNeg, Int.reduceMul, Int.reduceLE, Int.reduceLT, Int.reduceEq, Int.reduceToNat, Int.reduceNegSucc, Int.cast_ofNat_Int, Int32.reduceToInt, Int64.reduceToInt, Int.zero_add, Int.add_zero, Fin.isValue, Fin.val_zero, Fin.val_one, Fin.val_two, reduceCtorEq, or_false, false_or, or_true, true_or, or_self, and_true, true_and, and_self, not_true_eq_false, not_false_eq_true, implies_true, forall_const, List.mem_cons, List.not_mem_nil, false_implies, true_implies, imp_false, Nat.zero_add, Option.some.injEq, Prod.mk.injEq]
      repeat' first | omega | refine mz_it (fun hh => ?_) (fun hh => ?_) | refine And.intro ?_ ?_
      all_goals exact hx
    | succ c ih =>
      intro V h M f w o5 hV hI
      obtain ⟨i1, i2, i3, i4, i5⟩ := id hI
      have wn : h.2.1 y 2 = n := by rw [i1.2.2 y (by simp)]; exact zn
      have hMb : M < 160 := by
        have : n * K ≤ 4 * 39 := Nat.mul_le_mul hok2 (by omega)
        omega
      have hKm : m4 h (y + 25) (4 * K) (fg_B l K) := (hl.2.2 K hK).fr' (i1.2.2 _ (by simp))
      have x0 : (4 : Int) * (K : Int) = ((4 * K : Nat) : Int) := by omega
      apply mz_go hG 80 [15, 53]
      simp only [mf_M_multiplyAll, ca_M_multiplyAll, dc_M_multiplyAll_0, dc_M_multiplyAll_1, dc_M_multiplyAll_2, dc_M_multiplyAll_3, dc_M_multiplyAll_4, dc_M_multiplyAll_5, dc_M_multiplyAll_6, dc_M_multiplyAll_7, dc_M_multiplyAll_8, dc_M_multiplyAll_9, dc_M_multiplyAll_10, dc_M_multiplyAll_11, dc_M_multiplyAll_12, dc_M_multiplyAll_13, fl_M, sl_M, sg_M_copyFour, sg_M_isLess, sg_M_multiplyOne, cpn_model_0, cpn_model_1, mx_cp_r, ra0, ra41, ra56, ra58, ra59, rb25, rb36, rb38, rb39, wn, x0, mzr_iconst, mzr_bipush, mzr_sipush, mzr_lconst, mzr_iload, mzr_iload_n, mzr_aload, mzr_aload_n, mzr_lload, mzr_lload_n, mzr_istore, mzr_istore_n, mzr_astore, mzr_astore_n, mzr_lstore, mzr_lstore_n, mzr_iinc, mzr_iadd, mzr_isub, mzr_imul, mzr_iand, mzr_ior, mzr_ixor, mzr_ishl, mzr_ishr, mzr_iushr, mzr_idiv, mzr_irem, mzr_ineg, mzr_ladd, mzr_lsub, mzr_lmul, mzr_lrem, mzr_lcmp, mzr_i2l, mzr_l2i, mzr_i2b, mzr_dup, mzr_pop, mzr_dup2, mzr_ifCond_eq, mzr_if_icmp_eq, mzr_ifCond_ne, mzr_if_icmp_ne, mzr_ifCond_lt, mzr_if_icmp_lt, mzr_ifCond_ge, mzr_if_icmp_ge, mzr_ifCond_gt, mzr_if_icmp_gt, mzr_ifCond_le, mzr_if_icmp_le, mzr_goto, mzr_iaload, mzr_baload, mzr_laload, mzr_aaload, mzr_iastore, mzr_bastore, mzr_lastore, mzr_arraylength, mzr_getfield, mzr_putfield, mzr_getstatic, mzr_ldc, mzr_ldc_w, mzr_ldc2_w, mzr_ireturn, mzr_return_, mzr_copy, mzr_static, mzr_virtual, mzr_new, mz_tk, mz_dp, mz_ln, mz_sz, mz_af_v, mz_af_s, mz_wp_s, mz_w1, mz_g, mz_st, mz_k, mz_s2, mz_nx, mz_en, mx_to, mz_c1, ↓reduceIte, Nat.reduceAdd, Nat.reduceSub, Nat.reduceMul, Nat.reduceMod, Nat.reduceDiv, Nat.reduceEqDiff, Nat.reduceLeDiff, Nat.reduceLT, Int.reduceAdd, Int.reduceSub, Int.reduceNeg, Int.reduceMul, Int.reduceLE, Int.reduceLT, Int.reduceEq, Int.reduceToNat, Int.reduceNegSucc, Int.cast_ofNat_Int, Int32.reduceToInt, Int64.reduceToInt, Int.zero_add, Int.add_zero, Fin.isValue, Fin.val_zero, Fin.val_one, Fin.val_two, reduceCtorEq, or_false, false_or, or_true, true_or, or_self, and_true, true_and, and_self, not_true_eq_false, not_false_eq_true, implies_true, forall_const, List.mem_cons, List.not_mem_nil, false_implies, true_implies, imp_false, Nat.zero_add, Option.some.injEq, Prod.mk.injEq]
      repeat' first | omega | refine mz_it (fun hh => ?_) (fun hh => ?_) | refine And.intro ?_ ?_
      refine cm_copyFour (i := 4 * K) (j := 0) (d + 3) hG rb25 rb36 (by omega) (by omega) (by omega) (by omega) hKm (Or.inl (by omega)) (fun h2 f2 q1 q2 => ?_)
      have hgu := q1.g (v := V) (by omega)
      rw [Nat.zero_add] at hgu
      have hgb : tb_g (fg_B l K) V ≤ 200 := by
        have := hdg K hK
        unfold al_dg at this
        obtain rfl | rfl | rfl | rfl : V = 0 ∨ V = 1 ∨ V = 2 ∨ V = 3 := by omega
        all_goals
          simp only [tb_g]
          omega
      generalize hgg2 : mz_w h2 (y + 36) V ((tb_g (fg_B l K) V : Int) + 1) = h3
      have f3 : mz_fr h h3 [y + 36] := f2.tr (by rw [← hgg2]; exact mz_fr.w _ _ _ _ (by simp))
      have hm3 : m4 h3 (y + 36) 0 (al_p (fg_B l K) (tb_x V)) := m4.of (fun u hu => by
        rw [← hgg2, mz_w_g, Nat.zero_add]
        by_cases hwu : u = V
        · rw [if_pos ⟨rfl, hwu⟩, hwu, tb_g_x _ _ (by omega)]; omega
        · rw [if_neg (fun q => hwu q.2)]
          have := q1.g hu
          rw [Nat.zero_add] at this
          rw [this]
          congr 1
          unfold tb_x
          obtain rfl | rfl | rfl | rfl : u = 0 ∨ u = 1 ∨ u = 2 ∨ u = 3 := by omega
          all_goals
            obtain rfl | rfl | rfl | rfl : V = 0 ∨ V = 1 ∨ V = 2 ∨ V = 3 := by omega
            all_goals first | omega | simp [tb_g, al_p, tb_s])
      have y3 : ∀ c, c ≠ y + 36 → h3.2.1 c = h.2.1 c := fun c hc => f3.2.2 c (by simp; exact hc)
      have hI3 : pa_I H h3 y n o l M f w K V := ⟨i1.tr (f3.mono (by simp)), fun j hj => by
        obtain ⟨a1, a2, a3⟩ := i2 j hj
        exact ⟨a1.fr' (y3 _ (by omega)), by rw [y3 _ (by omega)]; exact a2, a3⟩, i3, i4, i5⟩
      have hx := lp_pair (d := d) (i := i) (P := P) hG hE' hok ho hdg hl40 hK (by omega) hMb hI3 hm3 (fun h' f' w' o5' hI' => ih (V + 1) h' (M + 1) f' w' o5' (by omega) hI') M h3 (Nat.le_refl _) (mz_fr.refl _ _) (fun j hj => ⟨(hI3.2.1 j hj).1, (hI3.2.1 j hj).2.1⟩) (fun j q1 q2 => by omega) (fun j q1 q2 => by omega)
      simp only [mf_M_multiplyAll, ca_M_multiplyAll, dc_M_multiplyAll_0, dc_M_multiplyAll_1, dc_M_multiplyAll_2, dc_M_multiplyAll_3, dc_M_multiplyAll_4, dc_M_multiplyAll_5, dc_M_multiplyAll_6, dc_M_multiplyAll_7, dc_M_multiplyAll_8, dc_M_multiplyAll_9, dc_M_multiplyAll_10, dc_M_multiplyAll_11, dc_M_multiplyAll_12, dc_M_multiplyAll_13, fl_M, sl_M, sg_M_copyFour, sg_M_isLess, sg_M_multiplyOne, cpn_model_0, cpn_model_1, mx_cp_r, ra0, ra41, ra56, ra58, ra59, rb25, rb36, rb38, rb39, hgu, Int.toNat_natCast, mzr_iconst, mzr_bipush, mzr_sipush, mzr_lconst, mzr_iload, mzr_iload_n, mzr_aload, mzr_aload_n, mzr_lload, mzr_lload_n, mzr_istore, mzr_istore_n, mzr_astore, mzr_astore_n, mzr_lstore, mzr_lstore_n, mzr_iinc, mzr_iadd, mzr_isub, mzr_imul, mzr_iand, mzr_ior, mzr_ixor, mzr_ishl, mzr_ishr, mzr_iushr, mzr_idiv, mzr_irem, mzr_ineg, mzr_ladd, mzr_lsub, mzr_lmul, mzr_lrem, mzr_lcmp, mzr_i2l, mzr_l2i, mzr_i2b, mzr_dup, mzr_pop, mzr_dup2, mzr_ifCond_eq, mzr_if_icmp_eq, mzr_ifCond_ne, mzr_if_icmp_ne, mzr_ifCond_lt, mzr_if_icmp_lt, mzr_ifCond_ge, mzr_if_icmp_ge, mzr_ifCond_gt, mzr_if_icmp_gt, mzr_ifCond_le, mzr_if_icmp_le, mzr_goto, mzr_iaload, mzr_baload, mzr_laload, mzr_aaload, mzr_iastore, mzr_bastore, mzr_lastore, mzr_arraylength, mzr_getfield, mzr_putfield, mzr_getstatic, mzr_ldc, mzr_ldc_w, mzr_ldc2_w, mzr_ireturn, mzr_return_, mzr_copy, mzr_static, mzr_virtual, mzr_new, mz_tk, mz_dp, mz_ln, mz_sz, mz_af_v, mz_af_s, mz_wp_s, mz_w1, mz_g, mz_st, mz_k, mz_s2, mz_nx, mz_en, mx_to, mz_c1, ↓reduceIte, Nat.reduceAdd, Nat.reduceSub, Nat.reduceMul, Nat.reduceMod, Nat.reduceDiv, Nat.reduceEqDiff, Nat.reduceLeDiff, Nat.reduceLT, Int.reduceAdd, Int.reduceSub, Int.reduceNeg, Int.reduceMul, Int.reduceLE, Int.reduceLT, Int.reduceEq, Int.reduceToNat, Int.reduceNegSucc, Int.cast_ofNat_Int, Int32.reduceToInt, Int64.reduceToInt, Int.zero_add, Int.add_zero, Fin.isValue, Fin.val_zero, Fin.val_one, Fin.val_two, reduceCtorEq, or_false, false_or, or_true, true_or, or_self, and_true, true_and, and_self, not_true_eq_false, not_false_eq_true, implies_true, forall_const, List.mem_cons, List.not_mem_nil, false_implies, true_implies, imp_false, Nat.zero_add, Option.some.injEq, Prod.mk.injEq]
      repeat' first | omega | refine mz_it (fun hh => ?_) (fun hh => ?_) | refine And.intro ?_ ?_
      all_goals rw [hgg2]
      all_goals exact hx
  have lpk : ∀ (c K : Nat) (h : mz_H) (M : Nat) (f : Nat → al_M) (w : Nat → Nat) o4 o5, K + c = l.length → pa_I H h y n o l M f w K 0 → mz_V e (d + 4) mm_M_multiplyAll 4 [some (.inr (.inl y)), some (.inl (i : Int)), some (.inl (M : Int)), some (.inl (K : Int)), o4, o5] [] h P := by
    intro c
    induction c with
    | zero =>
      intro K h M f w o4 o5 hK hI
      obtain rfl : K = l.length := by omega
      have wl : h.2.1 y 40 = l.length := by rw [hI.1.2.2 y (by simp)]; exact hl.1
      have hMb : M ≤ 160 := by
        have : n * l.length ≤ 4 * 40 := Nat.mul_le_mul hok2 hl40
        have := hI.2.2.2.1
        omega
      have hx := run M f w h o4 o5 hI hMb M 0 h (by omega) (mz_fr.refl _ _) (fun k _ => by rw [hI.1.2.2 y (by simp)]) (fun j' hj' => by omega)
      apply mz_go hG 80 [4, 170]
      simp only [mf_M_multiplyAll, ca_M_multiplyAll, dc_M_multiplyAll_0, dc_M_multiplyAll_1, dc_M_multiplyAll_2, dc_M_multiplyAll_3, dc_M_multiplyAll_4, dc_M_multiplyAll_5, dc_M_multiplyAll_6, dc_M_multiplyAll_7, dc_M_multiplyAll_8, dc_M_multiplyAll_9, dc_M_multiplyAll_10, dc_M_multiplyAll_11, dc_M_multiplyAll_12, dc_M_multiplyAll_13, fl_M, sl_M, sg_M_copyFour, sg_M_isLess, sg_M_multiplyOne, cpn_model_0, cpn_model_1, mx_cp_r, ra0, ra41, ra56, ra58, ra59, rb25, rb36, rb38, rb39, wl, mzr_iconst, mzr_bipush, mzr_sipush, mzr_lconst, mzr_iload, mzr_iload_n, mzr_aload, mzr_aload_n, mzr_lload, mzr_lload_n, mzr_istore, mzr_istore_n, mzr_astore, mzr_astore_n, mzr_lstore, mzr_lstore_n, mzr_iinc, mzr_iadd, mzr_isub, mzr_imul, mzr_iand, mzr_ior, mzr_ixor, mzr_ishl, mzr_ishr, mzr_iushr, mzr_idiv, mzr_irem, mzr_ineg, mzr_ladd, mzr_lsub, mzr_lmul, mzr_lrem, mzr_lcmp, mzr_i2l, mzr_l2i, mzr_i2b, mzr_dup, mzr_pop, mzr_dup2, mzr_ifCond_eq, mzr_if_icmp_eq, mzr_ifCond_ne, mzr_if_icmp_ne, mzr_ifCond_lt, mzr_if_icmp_lt, mzr_ifCond_ge, mzr_if_icmp_ge, mzr_ifCond_gt, mzr_if_icmp_gt, mzr_ifCond_le, mzr_if_icmp_le, mzr_goto, mzr_iaload, mzr_baload, mzr_laload, mzr_aaload, mzr_iastore, mzr_bastore, mzr_lastore, mzr_arraylength, mzr_getfield, mzr_putfield, mzr_getstatic, mzr_ldc, mzr_ldc_w, mzr_ldc2_w, mzr_ireturn, mzr_return_, mzr_copy, mzr_static, mzr_virtual, mzr_new, mz_tk, mz_dp, mz_ln, mz_sz, mz_af_v, mz_af_s, mz_wp_s, mz_w1, mz_g, mz_st, mz_k, mz_s2, mz_nx, mz_en, mx_to, mz_c1, ↓reduceIte, Nat.reduceAdd, Nat.reduceSub, Nat.reduceMul, Nat.reduceMod, Nat.reduceDiv, Nat.reduceEqDiff, Nat.reduceLeDiff, Nat.reduceLT, Int.reduceAdd, Int.reduceSub, Int.reduceNeg, Int.reduceMul, Int.reduceLE, Int.reduceLT, Int.reduceEq, Int.reduceToNat, Int.reduceNegSucc, Int.cast_ofNat_Int, Int32.reduceToInt, Int64.reduceToInt, Int.zero_add, Int.add_zero, Fin.isValue, Fin.val_zero, Fin.val_one, Fin.val_two, reduceCtorEq, or_false, false_or, or_true, true_or, or_self, and_true, true_and, and_self, not_true_eq_false, not_false_eq_true, implies_true, forall_const, List.mem_cons, List.not_mem_nil, false_implies, true_implies, imp_false, Nat.zero_add, Option.some.injEq, Prod.mk.injEq]
      repeat' first | omega | refine mz_it (fun hh => ?_) (fun hh => ?_) | refine And.intro ?_ ?_
      all_goals exact hx
    | succ c ih =>
      intro K h M f w o4 o5 hK hI
      have wl : h.2.1 y 40 = l.length := by rw [hI.1.2.2 y (by simp)]; exact hl.1
      have hx := lpv K (by omega) (fun h' M' f' w' o4' o5' hI' => ih (K + 1) h' M' f' w' o4' o5' (by omega) hI') n 0 h M f w o5 (by omega) hI
      apply mz_go hG 80 [4, 15]
      simp only [mf_M_multiplyAll, ca_M_multiplyAll, dc_M_multiplyAll_0, dc_M_multiplyAll_1, dc_M_multiplyAll_2, dc_M_multiplyAll_3, dc_M_multiplyAll_4, dc_M_multiplyAll_5, dc_M_multiplyAll_6, dc_M_multiplyAll_7, dc_M_multiplyAll_8, dc_M_multiplyAll_9, dc_M_multiplyAll_10, dc_M_multiplyAll_11, dc_M_multiplyAll_12, dc_M_multiplyAll_13, fl_M, sl_M, sg_M_copyFour, sg_M_isLess, sg_M_multiplyOne, cpn_model_0, cpn_model_1, mx_cp_r, ra0, ra41, ra56, ra58, ra59, rb25, rb36, rb38, rb39, wl, mzr_iconst, mzr_bipush, mzr_sipush, mzr_lconst, mzr_iload, mzr_iload_n, mzr_aload, mzr_aload_n, mzr_lload, mzr_lload_n, mzr_istore, mzr_istore_n, mzr_astore, mzr_astore_n, mzr_lstore, mzr_lstore_n, mzr_iinc, mzr_iadd, mzr_isub, mzr_imul, mzr_iand, mzr_ior, mzr_ixor, mzr_ishl, mzr_ishr, mzr_iushr, mzr_idiv, mzr_irem, mzr_ineg, mzr_ladd, mzr_lsub, mzr_lmul, mzr_lrem, mzr_lcmp, mzr_i2l, mzr_l2i, mzr_i2b, mzr_dup, mzr_pop, mzr_dup2, mzr_ifCond_eq, mzr_if_icmp_eq, mzr_ifCond_ne, mzr_if_icmp_ne, mzr_ifCond_lt, mzr_if_icmp_lt, mzr_ifCond_ge, mzr_if_icmp_ge, mzr_ifCond_gt, mzr_if_icmp_gt, mzr_ifCond_le, mzr_if_icmp_le, mzr_goto, mzr_iaload, mzr_baload, mzr_laload, mzr_aaload, mzr_iastore, mzr_bastore, mzr_lastore, mzr_arraylength, mzr_getfield, mzr_putfield, mzr_getstatic, mzr_ldc, mzr_ldc_w, mzr_ldc2_w, mzr_ireturn, mzr_return_, mzr_copy, mzr_static, mzr_virtual, mzr_new, mz_tk, mz_dp, mz_ln, mz_sz, mz_af_v, mz_af_s, mz_wp_s, mz_w1, mz_g, mz_st, mz_k, mz_s2, mz_nx, mz_en, mx_to, mz_c1, ↓reduceIte, Nat.reduceAdd, Nat.reduceSub, Nat.reduceMul, Nat.reduceMod, Nat.reduceDiv, Nat.reduceEqDiff, Nat.reduceLeDiff, Nat.reduceLT, Int.reduceAdd, Int.reduceSub, Int.reduceNeg, Int.reduceMul, Int.reduceLE, Int.reduceLT, Int.reduceEq, Int.reduceToNat, Int.reduceNegSucc, Int.cast_ofNat_Int, Int32.reduceToInt, Int64.reduceToInt, Int.zero_add, Int.add_zero, Fin.isValue, Fin.val_zero, Fin.val_one, Fin.val_two, reduceCtorEq, or_false, false_or, or_true, true_or, or_self, and_true, true_and, and_self, not_true_eq_false, not_false_eq_true, implies_true, forall_const, List.mem_cons, List.not_mem_nil, false_implies, true_implies, imp_false, Nat.zero_add, Option.some.injEq, Prod.mk.injEq]
      repeat' first | omega | refine mz_it (fun hh => ?_) (fun hh => ?_) | refine And.intro ?_ ?_
      all_goals exact hx
  have hx := lpk l.length 0 H 0 (fun _ => (0, 0, 0, 0)) (fun _ => 0) none none (by omega) ⟨mz_fr.refl _ _, fun j hj => by omega, fun i j _ hj => by omega, by omega, fun k v _ _ q => by omega⟩
  refine mz_CA_of mr_M_multiplyAll ?_
  simp only [mf_M_multiplyAll, mz_en, List.replicate, Nat.reduceSub, Nat.reduceAdd, Nat.reduceMul]
  apply mz_go hG 80 [4]
  simp only [mf_M_multiplyAll, ca_M_multiplyAll, dc_M_multiplyAll_0, dc_M_multiplyAll_1, dc_M_multiplyAll_2, dc_M_multiplyAll_3, dc_M_multiplyAll_4, dc_M_multiplyAll_5, dc_M_multiplyAll_6, dc_M_multiplyAll_7, dc_M_multiplyAll_8, dc_M_multiplyAll_9, dc_M_multiplyAll_10, dc_M_multiplyAll_11, dc_M_multiplyAll_12, dc_M_multiplyAll_13, fl_M, sl_M, sg_M_copyFour, sg_M_isLess, sg_M_multiplyOne, cpn_model_0, cpn_model_1, mx_cp_r, ra0, ra41, ra56, ra58, ra59, rb25, rb36, rb38, rb39, mzr_iconst, mzr_bipush, mzr_sipush, mzr_lconst, mzr_iload, mzr_iload_n, mzr_aload, mzr_aload_n, mzr_lload, mzr_lload_n, mzr_istore, mzr_istore_n, mzr_astore, mzr_astore_n, mzr_lstore, mzr_lstore_n, mzr_iinc, mzr_iadd, mzr_isub, mzr_imul, mzr_iand, mzr_ior, mzr_ixor, mzr_ishl, mzr_ishr, mzr_iushr, mzr_idiv, mzr_irem, mzr_ineg, mzr_ladd, mzr_lsub, mzr_lmul, mzr_lrem, mzr_lcmp, mzr_i2l, mzr_l2i, mzr_i2b, mzr_dup, mzr_pop, mzr_dup2, mzr_ifCond_eq, mzr_if_icmp_eq, mzr_ifCond_ne, mzr_if_icmp_ne, mzr_ifCond_lt, mzr_if_icmp_lt, mzr_ifCond_ge, mzr_if_icmp_ge, mzr_ifCond_gt, mzr_if_icmp_gt, mzr_ifCond_le, mzr_if_icmp_le, mzr_goto, mzr_iaload, mzr_baload, mzr_laload, mzr_aaload, mzr_iastore, mzr_bastore, mzr_lastore, mzr_arraylength, mzr_getfield, mzr_putfield, mzr_getstatic, mzr_ldc, mzr_ldc_w, mzr_ldc2_w, mzr_ireturn, mzr_return_, mzr_copy, mzr_static, mzr_virtual, mzr_new, mz_tk, mz_dp, mz_ln, mz_sz, mz_af_v, mz_af_s, mz_wp_s, mz_w1, mz_g, mz_st, mz_k, mz_s2, mz_nx, mz_en, mx_to, mz_c1, ↓reduceIte, Nat.reduceAdd, Nat.reduceSub, Nat.reduceMul, Nat.reduceMod, Nat.reduceDiv, Nat.reduceEqDiff, Nat.reduceLeDiff, Nat.reduceLT, Int.reduceAdd, Int.reduceSub, Int.reduceNeg, Int.reduceMul, Int.reduceLE, Int.reduceLT, Int.reduceEq, Int.reduceToNat, Int.reduceNegSucc, Int.cast_ofNat_Int, Int32.reduceToInt, Int64.reduceToInt, Int.zero_add, Int.add_zero, Fin.isValue, Fin.val_zero, Fin.val_one, Fin.val_two, reduceCtorEq, or_false, false_or, or_true, true_or, or_self, and_true, true_and, and_self, not_true_eq_false, not_false_eq_true, implies_true, forall_const, List.mem_cons, List.not_mem_nil, false_implies, true_implies, imp_false, Nat.zero_add, Option.some.injEq, Prod.mk.injEq]
  repeat' first | omega | refine mz_it (fun hh => ?_) (fun hh => ?_) | refine And.intro ?_ ?_
  all_goals exact hx
end RALL
