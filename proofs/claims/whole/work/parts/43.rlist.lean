theorem rf_in_sp {o : Nat} {x : al_M} (A : List al_M) (hA : ∀ a t, A = a :: t → ¬ al_lt o x a) : ∀ B : List al_M, (∀ b, b ∈ B → al_lt o x b) → rf_in o x (B ++ A) = B ++ x :: A := by
  intro B
  induction B with
  | nil =>
    intro _
    cases A with
    | nil => rfl
    | cons a t =>
      show (if al_ltb o x a = true then a :: rf_in o x t else x :: a :: t) = _
      rw [if_neg (fun q => hA a t rfl ((al_ltb_i o x a).mp q))]
      rfl
  | cons b B ih =>
    intro hB
    show (if al_ltb o x b = true then b :: rf_in o x (B ++ A) else x :: b :: (B ++ A)) = _
    rw [if_pos ((al_ltb_i o x b).mpr (hB b List.mem_cons_self)), ih (fun c hc => hB c (List.mem_cons_of_mem _ hc))]
    rfl
theorem rf_in_l {o : Nat} {x : al_M} (R : List al_M) : (rf_in o x R).length = R.length + 1 := by
  induction R with
  | nil => rfl
  | cons y t ih =>
    show (if al_ltb o x y = true then y :: rf_in o x t else x :: y :: t).length = _
    split
    · rw [List.length_cons, ih, List.length_cons]
    · rfl
theorem rf_fo_l {o : Nat} : ∀ (L R : List al_M), (L.foldl (fun l x => rf_in o x l) R).length = R.length + L.length := by
  intro L
  induction L with
  | nil => intro R; rfl
  | cons x L ih =>
    intro R
    show (L.foldl (fun l x => rf_in o x l) (rf_in o x R)).length = _
    rw [ih, rf_in_l, List.length_cons]; omega
/- rows of table t as listed so far; the rest of the reference's exponents as before -/
def rl_S (H0 H : mz_H) (y t : Nat) (S : List al_M) : Prop :=
  (∀ i, i < S.length → m4 H (y + 1) (4 * (126 * t + i)) (fg_B S i)) ∧ ∀ q, q < 504 * t ∨ 504 * t + 504 ≤ q → H.2.1 (y + 1) q = H0.2.1 (y + 1) q
theorem fg_B_m (A B : List al_M) (x : al_M) : fg_B (A ++ x :: B) A.length = x := by
  unfold fg_B
  rw [List.getElem?_append_right (Nat.le_refl _)]
  simp
theorem fg_B_m2 (A B : List al_M) (x : al_M) {i : Nat} (h : A.length < i) : fg_B (A ++ x :: B) i = fg_B (A ++ B) (i - 1) := by
  unfold fg_B
  rw [List.getElem?_append_right (by omega), List.getElem?_append_right (by omega), show i - A.length = (i - 1 - A.length) + 1 by omega, List.getElem?_cons_succ]
section RLIST
variable {e : mz_E} {H : mz_H} {P : mz_O → mz_H → Prop} {y : Nat} {p : Int} {n o : Nat}
theorem rl_e {H0 h : mz_H} {t : Nat} {S : List al_M} (hS : rl_S H0 h y t S) {i w : Nat} (hi : i < S.length) (hw : w < 4) : h.2.1 (y + 1) (4 * (126 * t + i) + w) = tb_g (fg_B S i) w := (hS.1 i hi).g hw
set_option maxRecDepth 100000 in
theorem lp_swap {d t : Nat} (hG : mx_G e.1) (hE : rm_E e y) (ht : t ≤ 1) {l2 l3 l4 l5 l6 l7 l8 : Option mz_W} {l9 : Int} {x b : al_M} {k : Nat} (hk1 : 1 ≤ k) (hk : k < 126) {h0 : mz_H} (hx0 : m4 h0 (y + 1) (4 * (126 * t + k)) x) (hb0 : m4 h0 (y + 1) (4 * (126 * t + (k - 1))) b)
    (hK : ∀ h o11 o12, mz_fr h0 h [y + 1] → m4 h (y + 1) (4 * (126 * t + k)) b → m4 h (y + 1) (4 * (126 * t + (k - 1))) x → (∀ q, q < 4 * (126 * t + (k - 1)) ∨ 4 * (126 * t + k) + 4 ≤ q → h.2.1 (y + 1) q = h0.2.1 (y + 1) q) → mz_V e (d + 1) mm_M_list 146 [some (.inr (.inl y)), some (.inl (t : Int)), l2, l3, l4, l5, l6, l7, l8, some (.inl l9), some (.inl ((k - 1 : Nat) : Int)), o11, o12] [] h P) :
    ∀ (c j : Nat) (h : mz_H) o12, j + c = 4 → mz_fr h0 h [y + 1] → (∀ w, w < 4 → h.2.1 (y + 1) (4 * (126 * t + k) + w) = if w < j then (tb_g b w : Int) else tb_g x w) → (∀ w, w < 4 → h.2.1 (y + 1) (4 * (126 * t + (k - 1)) + w) = if w < j then (tb_g x w : Int) else tb_g b w) → (∀ q, q < 4 * (126 * t + (k - 1)) ∨ 4 * (126 * t + k) + 4 ≤ q → h.2.1 (y + 1) q = h0.2.1 (y + 1) q) →
      mz_V e (d + 1) mm_M_list 189 [some (.inr (.inl y)), some (.inl (t : Int)), l2, l3, l4, l5, l6, l7, l8, some (.inl l9), some (.inl (k : Int)), some (.inl (j : Int)), o12] [] h P := by
  obtain ⟨⟨ra0, ra4, ra5, ra6, ra7, ra8, ra9, ra10, ra11, ra12, ra13, ra14, ra15, ra16, ra17, ra21, ra29, ra30, ra31, ra32, ra33, ra34, ra35, ra36, ra37, ra41, ra42, ra46, ra47, ra48, ra49, ra50, ra51, ra52, ra53, ra54, ra56, ra57, ra58, ra59, ra60, ra65, ra66⟩, ⟨rb1, rb2, rb3, rb4, rb5, rb6, rb7, rb8, rb9, rb10, rb11, rb12, rb13, rb14, rb15, rb16, rb17, rb18, rb19, rb20, rb21, rb22, rb23, rb24, rb25, rb26, rb27, rb28, rb29, rb30, rb31, rb32, rb33, rb34, rb35, rb36, rb37, rb38, rb39, rb40, rb41, rb42⟩⟩ := hE
  intro c
  induction c with
  | zero =>
    intro j h o12 h1 f1 v1 v2 v3
    obtain rfl : j = 4 := by omega
    have hx := hK h (some (.inl 4)) o12 f1 (m4.of (fun w hw => by rw [v1 w hw, if_pos hw])) (m4.of (fun w hw => by rw [v2 w hw, if_pos hw])) v3
    rw [show ((k - 1 : Nat) : Int) = (k : Int) + -1 by omega] at hx
    apply mz_go hG 60 [146, 189]
    simp only [mf_M_list, ca_M_list, dc_M_list_0, dc_M_list_1, dc_M_list_2, dc_M_list_3, dc_M_list_4, dc_M_list_5, dc_M_list_6, dc_M_list_7, dc_M_list_8, dc_M_list_9, dc_M_list_10, dc_M_list_11, dc_M_list_12, dc_M_list_13, dc_M_list_14, dc_M_list_15, dc_M_list_16, dc_M_list_17, dc_M_list_18, dc_M_list_19, dc_M_list_20, dc_M_list_21, dc_M_list_22, dc_M_list_23, dc_M_list_24, dc_M_list_25, dc_M_list_26, dc_M_list_27, dc_M_list_28, dc_M_list_29, dc_M_list_30, dc_M_list_31, dc_M_list_32, dc_M_list_33, fl_M, sl_M, sg_M_highest, sg_M_isLess, sg_M_key, cpn_model_0, cpn_model_1, mx_cp_r, ra0, ra4, ra5, ra6, ra7, rb1, rb2, rb3, rb4, mzr_iconst, mzr_bipush, mzr_sipush, mzr_lconst, mzr_iload, mzr_iload_n, mzr_aload, mzr_aload_n, mzr_lload, mzr_lload_n, mzr_istore, mzr_istore_n, mzr_astore, mzr_astore_n, mzr_lstore, mzr_lstore_n, mzr_iinc, mzr_iadd, mzr_isub, mzr_imul, mzr_iand, mzr_ior, mzr_ixor, mzr_ishl, mzr_ishr, mzr_iushr, mzr_idiv, mzr_irem, mzr_ineg, mzr_ladd, mzr_lsub, mzr_lmul, mzr_lrem, mzr_lcmp, mzr_i2l, mzr_l2i, mzr_i2b, mzr_dup, mzr_pop, mzr_dup2, mzr_ifCond_eq, mzr_if_icmp_eq, mzr_ifCond_ne, mzr_if_icmp_ne, mzr_ifCond_lt, mzr_if_icmp_lt, mzr_ifCond_ge, mzr_if_icmp_ge, mzr_ifCond_gt, mzr_if_icmp_gt, mzr_ifCond_le, mzr_if_icmp_le, mzr_goto, mzr_iaload, mzr_baload, mzr_laload, mzr_aaload, mzr_iastore, mzr_bastore, mzr_lastore, mzr_arraylength, mzr_getfield, mzr_putfield, mzr_getstatic, mzr_ldc, mzr_ldc_w, mzr_ldc2_w, mzr_ireturn, mzr_return_, mzr_copy, mzr_static, mzr_virtual, mzr_new, mz_tk, mz_dp, mz_ln, mz_sz, mz_af_v, mz_af_s, mz_wp_s, mz_w1, mz_g, mz_st, mz_k, mz_s2, mz_nx, mz_en, mx_to, mz_c1, ↓reduceIte, Nat.reduceAdd, Nat.reduceSub, Nat.reduceMul, Nat.reduceMod, Nat.reduceDiv, Nat.reduceEqDiff, Nat.reduceLeDiff, Nat.reduceLT, Int.reduceAdd, Int.reduceSub, Int.reduceNeg, Int.reduceMul, Int.reduceLE, Int.reduceLT, Int.reduceEq, Int.reduceToNat, Int.reduceNegSucc, Int.cast_ofNat_Int, Int32.reduceToInt, Int64.reduceToInt, Int.zero_add, Int.add_zero, Fin.isValue, Fin.val_zero, Fin.val_one, Fin.val_two, reduceCtorEq, or_false, false_or, or_true, true_or, or_self, and_true, true_and, and_self, not_true_eq_false, not_false_eq_true, implies_true, forall_const, List.mem_cons, List.not_mem_nil, false_implies, true_implies, imp_false, Nat.zero_add, Option.some.injEq, Prod.mk.injEq]
    repeat' first | omega | refine mz_it (fun hh => ?_) (fun hh => ?_) | refine And.intro ?_ ?_
    all_goals exact hx
  | succ c ih =>
    intro j h o12 h1 f1 v1 v2 v3
    have i1 : (4 : Int) * (126 * (t : Int) + k) + j = ((4 * (126 * t + k) + j : Nat) : Int) := by omega
    have i2 : (4 : Int) * (126 * (t : Int) + k - 1) + j = ((4 * (126 * t + (k - 1)) + j : Nat) : Int) := by omega
    have z1 : h.2.1 (y + 1) (4 * (126 * t + k) + j) = tb_g x j := by rw [v1 j (by omega), if_neg (by omega)]
    have z2 : h.2.1 (y + 1) (4 * (126 * t + (k - 1)) + j) = tb_g b j := by rw [v2 j (by omega), if_neg (by omega)]
    generalize hgg : mz_w (mz_w h (y + 1) (4 * (126 * t + k) + j) (tb_g b j)) (y + 1) (4 * (126 * t + (k - 1)) + j) (tb_g x j) = h'
    have hx := ih (j + 1) h' (some (.inl (tb_g x j : Int))) (by omega) (by rw [← hgg]; exact (f1.tr (mz_fr.w _ _ _ _ (by simp))).tr (mz_fr.w _ _ _ _ (by simp))) (fun w hw => by
      rw [← hgg, mz_w_g, if_neg (by omega), mz_w_g]
      by_cases hwj : w = j
      · rw [if_pos ⟨rfl, by omega⟩, if_pos (by omega), hwj]
      · rw [if_neg (by omega), v1 w hw]
        by_cases h2 : w < j
        · rw [if_pos h2, if_pos (by omega)]
        · rw [if_neg h2, if_neg (by omega)]) (fun w hw => by
      rw [← hgg, mz_w_g]
      by_cases hwj : w = j
      · rw [if_pos ⟨rfl, by omega⟩, if_pos (by omega), hwj]
      · rw [if_neg (by omega), mz_w_g, if_neg (by omega), v2 w hw]
        by_cases h2 : w < j
        · rw [if_pos h2, if_pos (by omega)]
        · rw [if_neg h2, if_neg (by omega)]) (fun q hq => by rw [← hgg, mz_w_g, if_neg (by omega), mz_w_g, if_neg (by omega)]; exact v3 q hq)
    apply mz_go hG 80 [146, 189]
    simp only [mf_M_list, ca_M_list, dc_M_list_0, dc_M_list_1, dc_M_list_2, dc_M_list_3, dc_M_list_4, dc_M_list_5, dc_M_list_6, dc_M_list_7, dc_M_list_8, dc_M_list_9, dc_M_list_10, dc_M_list_11, dc_M_list_12, dc_M_list_13, dc_M_list_14, dc_M_list_15, dc_M_list_16, dc_M_list_17, dc_M_list_18, dc_M_list_19, dc_M_list_20, dc_M_list_21, dc_M_list_22, dc_M_list_23, dc_M_list_24, dc_M_list_25, dc_M_list_26, dc_M_list_27, dc_M_list_28, dc_M_list_29, dc_M_list_30, dc_M_list_31, dc_M_list_32, dc_M_list_33, fl_M, sl_M, sg_M_highest, sg_M_isLess, sg_M_key, cpn_model_0, cpn_model_1, mx_cp_r, ra0, ra4, ra5, ra6, ra7, rb1, rb2, rb3, rb4, i1, i2, z1, z2, Int.toNat_natCast, mzr_iconst, mzr_bipush, mzr_sipush, mzr_lconst, mzr_iload, mzr_iload_n, mzr_aload, mzr_aload_n, mzr_lload, mzr_lload_n, mzr_istore, mzr_istore_n, mzr_astore, mzr_astore_n, mzr_lstore, mzr_lstore_n, mzr_iinc, mzr_iadd, mzr_isub, mzr_imul, mzr_iand, mzr_ior, mzr_ixor, mzr_ishl, mzr_ishr, mzr_iushr, mzr_idiv, mzr_irem, mzr_ineg, mzr_ladd, mzr_lsub, mzr_lmul, mzr_lrem, mzr_lcmp, mzr_i2l, mzr_l2i, mzr_i2b, mzr_dup, mzr_pop, mzr_dup2, mzr_ifCond_eq, mzr_if_icmp_eq, mzr_ifCond_ne, mzr_if_icmp_ne, mzr_ifCond_lt, mzr_if_icmp_lt, mzr_ifCond_ge, mzr_if_icmp_ge, mzr_ifCond_gt, mzr_if_icmp_gt, mzr_ifCond_le, mzr_if_icmp_le, mzr_goto, mzr_iaload, mzr_baload, mzr_laload, mzr_aaload, mzr_iastore, mzr_bastore, mzr_lastore, mzr_arraylength, mzr_getfield, mzr_putfield, mzr_getstatic, mzr_ldc, mzr_ldc_w, mzr_ldc2_w, mzr_ireturn, mzr_return_, mzr_copy, mzr_static, mzr_virtual, mzr_new, mz_tk, mz_dp, mz_ln, mz_sz, mz_af_v, mz_af_s, mz_wp_s, mz_w1, mz_g, mz_st, mz_k, mz_s2, mz_nx, mz_en, mx_to, mz_c1, ↓reduceIte, Nat.reduceAdd, Nat.reduceSub, Nat.reduceMul, Nat.reduceMod, Nat.reduceDiv, Nat.reduceEqDiff, Nat.reduceLeDiff, Nat.reduceLT, Int.reduceAdd, Int.reduceSub, Int.reduceNeg, Int.reduceMul, Int.reduceLE, Int.reduceLT, Int.reduceEq, Int.reduceToNat, Int.reduceNegSucc, Int.cast_ofNat_Int, Int32.reduceToInt, Int64.reduceToInt, Int.zero_add, Int.add_zero, Fin.isValue, Fin.val_zero, Fin.val_one, Fin.val_two, reduceCtorEq, or_false, false_or, or_true, true_or, or_self, and_true, true_and, and_self, not_true_eq_false, not_false_eq_true, implies_true, forall_const, List.mem_cons, List.not_mem_nil, false_implies, true_implies, imp_false, Nat.zero_add, Option.some.injEq, Prod.mk.injEq]
    repeat' first | omega | refine mz_it (fun hh => ?_) (fun hh => ?_) | refine And.intro ?_ ?_
    all_goals rw [hgg]
    all_goals exact hx
set_option maxRecDepth 100000 in
theorem lp_ins {d t : Nat} (hG : mx_G e.1) (hE : rm_E e y) (ht : t ≤ 1) (ho1 : o ≤ 1) (H0 : mz_H) (ho : H0.2.1 y 3 = o) {l2 l3 l4 l5 l6 l7 l8 : Option mz_W} {l9 : Int} {x : al_M} {m : Nat} (hx : al_dg x < 1000) (hm : m < 126) {S : List al_M} (hSb : ∀ b, b ∈ S → al_dg b < 1000)
    (hK : ∀ h o10 o11 o12 A B, A ++ B = S → mz_fr H0 h [y + 1] → rl_S H0 h y t (A ++ x :: B) → (∀ b, b ∈ B → al_lt o x b) → (∀ A0 a, A = A0 ++ [a] → ¬ al_lt o x a) → mz_V e (d + 1) mm_M_list 283 [some (.inr (.inl y)), some (.inl (t : Int)), l2, l3, l4, l5, l6, l7, l8, some (.inl l9), o10, o11, o12] [] h P) :
    ∀ (c : Nat) (A B : List al_M) (h : mz_H) o11 o12, A.length = c → A ++ B = S → A.length + B.length = m → mz_fr H0 h [y + 1] → rl_S H0 h y t (A ++ x :: B) → (∀ b, b ∈ B → al_lt o x b) →
      mz_V e (d + 1) mm_M_list 146 [some (.inr (.inl y)), some (.inl (t : Int)), l2, l3, l4, l5, l6, l7, l8, some (.inl l9), some (.inl (A.length : Int)), o11, o12] [] h P := by
  have hE' := hE
  obtain ⟨⟨ra0, ra4, ra5, ra6, ra7, ra8, ra9, ra10, ra11, ra12, ra13, ra14, ra15, ra16, ra17, ra21, ra29, ra30, ra31, ra32, ra33, ra34, ra35, ra36, ra37, ra41, ra42, ra46, ra47, ra48, ra49, ra50, ra51, ra52, ra53, ra54, ra56, ra57, ra58, ra59, ra60, ra65, ra66⟩, ⟨rb1, rb2, rb3, rb4, rb5, rb6, rb7, rb8, rb9, rb10, rb11, rb12, rb13, rb14, rb15, rb16, rb17, rb18, rb19, rb20, rb21, rb22, rb23, rb24, rb25, rb26, rb27, rb28, rb29, rb30, rb31, rb32, rb33, rb34, rb35, rb36, rb37, rb38, rb39, rb40, rb41, rb42⟩⟩ := hE
  intro c
  induction c with
  | zero =>
    intro A B h o11 o12 h1 h2 h3 f1 hS hB
    obtain rfl := List.length_eq_zero_iff.mp h1
    have hx := hK h (some (.inl 0)) o11 o12 [] B h2 f1 hS hB (fun A0 a q => by
      have := congrArg List.length q
      simp at this)
    apply mz_go hG 60 [146, 283]
    simp only [mf_M_list, ca_M_list, dc_M_list_0, dc_M_list_1, dc_M_list_2, dc_M_list_3, dc_M_list_4, dc_M_list_5, dc_M_list_6, dc_M_list_7, dc_M_list_8, dc_M_list_9, dc_M_list_10, dc_M_list_11, dc_M_list_12, dc_M_list_13, dc_M_list_14, dc_M_list_15, dc_M_list_16, dc_M_list_17, dc_M_list_18, dc_M_list_19, dc_M_list_20, dc_M_list_21, dc_M_list_22, dc_M_list_23, dc_M_list_24, dc_M_list_25, dc_M_list_26, dc_M_list_27, dc_M_list_28, dc_M_list_29, dc_M_list_30, dc_M_list_31, dc_M_list_32, dc_M_list_33, fl_M, sl_M, sg_M_highest, sg_M_isLess, sg_M_key, cpn_model_0, cpn_model_1, mx_cp_r, ra0, ra4, ra5, ra6, ra7, rb1, rb2, rb3, rb4, mzr_iconst, mzr_bipush, mzr_sipush, mzr_lconst, mzr_iload, mzr_iload_n, mzr_aload, mzr_aload_n, mzr_lload, mzr_lload_n, mzr_istore, mzr_istore_n, mzr_astore, mzr_astore_n, mzr_lstore, mzr_lstore_n, mzr_iinc, mzr_iadd, mzr_isub, mzr_imul, mzr_iand, mzr_ior, mzr_ixor, mzr_ishl, mzr_ishr, mzr_iushr, mzr_idiv, mzr_irem, mzr_ineg, mzr_ladd, mzr_lsub, mzr_lmul, mzr_lrem, mzr_lcmp, mzr_i2l, mzr_l2i, mzr_i2b, mzr_dup, mzr_pop, mzr_dup2, mzr_ifCond_eq, mzr_if_icmp_eq, mzr_ifCond_ne, mzr_if_icmp_ne, mzr_ifCond_lt, mzr_if_icmp_lt, mzr_ifCond_ge, mzr_if_icmp_ge, mzr_ifCond_gt, mzr_if_icmp_gt, mzr_ifCond_le, mzr_if_icmp_le, mzr_goto, mzr_iaload, mzr_baload, mzr_laload, mzr_aaload, mzr_iastore, mzr_bastore, mzr_lastore, mzr_arraylength, mzr_getfield, mzr_putfield, mzr_getstatic, mzr_ldc, mzr_ldc_w, mzr_ldc2_w, mzr_ireturn, mzr_return_, mzr_copy, mzr_static, mzr_virtual, mzr_new, mz_tk, mz_dp, mz_ln, mz_sz, mz_af_v, mz_af_s, mz_wp_s, mz_w1, mz_g, mz_st, mz_k, mz_s2, mz_nx, mz_en, mx_to, mz_c1, ↓reduceIte, Nat.reduceAdd, Nat.reduceSub, Nat.reduceMul, Nat.reduceMod, Nat.reduceDiv, Nat.reduceEqDiff, Nat.reduceLeDiff, Nat.reduceLT, Int.reduceAdd, Int.reduceSub, Int.reduceNeg, Int.reduceMul, Int.reduceLE, Int.reduceLT, Int.reduceEq, Int.reduceToNat, Int.reduceNegSucc, Int.cast_ofNat_Int, Int32.reduceToInt, Int64.reduceToInt, Int.zero_add, Int.add_zero, Fin.isValue, Fin.val_zero, Fin.val_one, Fin.val_two, reduceCtorEq, or_false, false_or, or_true, true_or, or_self, and_true, true_and, and_self, not_true_eq_false, not_false_eq_true, implies_true, forall_const, List.mem_cons, List.not_mem_nil, false_implies, true_implies, imp_false, Nat.zero_add, Option.some.injEq, Prod.mk.injEq]
    repeat' first | omega | refine mz_it (fun hh => ?_) (fun hh => ?_) | refine And.intro ?_ ?_
    all_goals exact hx
  | succ c ih =>
    intro A B h o11 o12 h1 h2 h3 f1 hS hB
    obtain ⟨A0, a, rfl⟩ : ∃ A0 a, A = A0 ++ [a] := ⟨A.dropLast, A.getLast (by intro q; rw [q] at h1; simp at h1), (List.dropLast_concat_getLast _).symm⟩
    have hl : (A0 ++ [a]).length = A0.length + 1 := by rw [List.length_append]; rfl
    rw [hl]
    have hSl : (A0 ++ [a] ++ x :: B).length = A0.length + 1 + (B.length + 1) := by rw [List.length_append, hl, List.length_cons]
    have mx : m4 h (y + 1) (4 * (126 * t + (A0.length + 1))) x := by
      have := hS.1 (A0.length + 1) (by rw [hSl]; omega)
      rw [show fg_B (A0 ++ [a] ++ x :: B) (A0.length + 1) = x from by rw [← hl, fg_B_m]] at this
      exact this
    have ma : m4 h (y + 1) (4 * (126 * t + A0.length)) a := by
      have := hS.1 A0.length (by rw [hSl]; omega)
      rw [show A0 ++ [a] ++ x :: B = A0 ++ a :: (x :: B) by simp, fg_B_m] at this
      exact this
    have hab : al_dg a < 1000 := hSb a (by rw [← h2]; simp)
    have i1 : (4 : Int) * (126 * (t : Int) + ((A0.length + 1 : Nat) : Int)) = ((4 * (126 * t + (A0.length + 1)) : Nat) : Int) := by omega
    have i2 : (4 : Int) * (126 * (t : Int) + ((A0.length + 1 : Nat) : Int) - 1) = ((4 * (126 * t + A0.length) : Nat) : Int) := by omega
    have ho' : h.2.1 y 3 = o := by rw [f1.2.2 y (by simp)]; exact ho
    apply mz_go hG 60 [146, 189, 283]
    simp only [mf_M_list, ca_M_list, dc_M_list_0, dc_M_list_1, dc_M_list_2, dc_M_list_3, dc_M_list_4, dc_M_list_5, dc_M_list_6, dc_M_list_7, dc_M_list_8, dc_M_list_9, dc_M_list_10, dc_M_list_11, dc_M_list_12, dc_M_list_13, dc_M_list_14, dc_M_list_15, dc_M_list_16, dc_M_list_17, dc_M_list_18, dc_M_list_19, dc_M_list_20, dc_M_list_21, dc_M_list_22, dc_M_list_23, dc_M_list_24, dc_M_list_25, dc_M_list_26, dc_M_list_27, dc_M_list_28, dc_M_list_29, dc_M_list_30, dc_M_list_31, dc_M_list_32, dc_M_list_33, fl_M, sl_M, sg_M_highest, sg_M_isLess, sg_M_key, cpn_model_0, cpn_model_1, mx_cp_r, ra0, ra4, ra5, ra6, ra7, rb1, rb2, rb3, rb4, i1, i2, mzr_iconst, mzr_bipush, mzr_sipush, mzr_lconst, mzr_iload, mzr_iload_n, mzr_aload, mzr_aload_n, mzr_lload, mzr_lload_n, mzr_istore, mzr_istore_n, mzr_astore, mzr_astore_n, mzr_lstore, mzr_lstore_n, mzr_iinc, mzr_iadd, mzr_isub, mzr_imul, mzr_iand, mzr_ior, mzr_ixor, mzr_ishl, mzr_ishr, mzr_iushr, mzr_idiv, mzr_irem, mzr_ineg, mzr_ladd, mzr_lsub, mzr_lmul, mzr_lrem, mzr_lcmp, mzr_i2l, mzr_l2i, mzr_i2b, mzr_dup, mzr_pop, mzr_dup2, mzr_ifCond_eq, mzr_if_icmp_eq, mzr_ifCond_ne, mzr_if_icmp_ne, mzr_ifCond_lt, mzr_if_icmp_lt, mzr_ifCond_ge, mzr_if_icmp_ge, mzr_ifCond_gt, mzr_if_icmp_gt, mzr_ifCond_le, mzr_if_icmp_le, mzr_goto, mzr_iaload, mzr_baload, mzr_laload, mzr_aaload, mzr_iastore, mzr_bastore, mzr_lastore, mzr_arraylength, mzr_getfield, mzr_putfield, mzr_getstatic, mzr_ldc, mzr_ldc_w, mzr_ldc2_w, mzr_ireturn, mzr_return_, mzr_copy, mzr_static, mzr_virtual, mzr_new, mz_tk, mz_dp, mz_ln, mz_sz, mz_af_v, mz_af_s, mz_wp_s, mz_w1, mz_g, mz_st, mz_k, mz_s2, mz_nx, mz_en, mx_to, mz_c1, ↓reduceIte, Nat.reduceAdd, Nat.reduceSub, Nat.reduceMul, Nat.reduceMod, Nat.reduceDiv, Nat.reduceEqDiff, Nat.reduceLeDiff, Nat.reduceLT, Int.reduceAdd, Int.reduceSub, Int.reduceNeg, Int.reduceMul, Int.reduceLE, Int.reduceLT, Int.reduceEq, Int.reduceToNat, Int.reduceNegSucc, Int.cast_ofNat_Int, Int32.reduceToInt, Int64.reduceToInt, Int.zero_add, Int.add_zero, Fin.isValue, Fin.val_zero, Fin.val_one, Fin.val_two, reduceCtorEq, or_false, false_or, or_true, true_or, or_self, and_true, true_and, and_self, not_true_eq_false, not_false_eq_true, implies_true, forall_const, List.mem_cons, List.not_mem_nil, false_implies, true_implies, imp_false, Nat.zero_add, Option.some.injEq, Prod.mk.injEq]
    repeat' first | omega | refine mz_it (fun hh => ?_) (fun hh => ?_) | refine And.intro ?_ ?_
    refine cm_isLess d hG hE' ho' ho1 rb1 rb1 (by omega) (by omega) (by omega) (by omega) mx ma hx hab (fun hlt => ?_) (fun hlt => ?_)
    · have hy := lp_swap (d := d) (l2 := l2) (l3 := l3) (l4 := l4) (l5 := l5) (l6 := l6) (l7 := l7) (l8 := l8) (l9 := l9) (P := P) hG hE' ht (x := x) (b := a) (k := A0.length + 1) (by omega) (by omega) (h0 := h) mx ma (fun h' o11 o12 g1 g2 g3 g4 => by
        rw [show A0.length + 1 - 1 = A0.length by omega] at g3 g4 ⊢
        refine ih A0 (a :: B) h' o11 o12 (by omega) (by rw [← h2]; simp) (by rw [List.length_cons]; omega) (f1.tr g1) ⟨fun i hi => ?_, fun q hq => ?_⟩ (fun b hb => ?_)
        · have hi' : i < A0.length + 1 + (B.length + 1) := by
            rw [List.length_append, List.length_cons, List.length_cons] at hi; omega
          by_cases c1 : i = A0.length
          · rw [c1, fg_B_m]; exact g3
          · by_cases c2 : i = A0.length + 1
            · rw [c2, fg_B_m2 _ _ _ (by omega), show A0.length + 1 - 1 = A0.length by omega, fg_B_m]; exact g2
            · have e1 : fg_B (A0 ++ x :: a :: B) i = fg_B (A0 ++ [a] ++ x :: B) i := by
                by_cases c3 : i < A0.length
                · rw [fg_B_app c3, show A0 ++ [a] ++ x :: B = A0 ++ (a :: x :: B) by simp, fg_B_app c3]
                · rw [fg_B_m2 _ _ _ (by omega), fg_B_m2 _ _ _ (by omega), show A0 ++ [a] ++ x :: B = A0 ++ a :: (x :: B) by simp, fg_B_m2 _ _ _ (by omega), fg_B_m2 _ _ _ (by omega)]
              rw [e1]
              exact (hS.1 i (by rw [hSl]; omega)).fr (fun w hw => g4 _ (by omega))
        · rw [g4 q (by omega)]; exact hS.2 q hq
        · rcases List.mem_cons.mp hb with rfl | hb
          · exact hlt
          · exact hB b hb) 4 0 h o12 (by omega) (mz_fr.refl _ _) (fun w hw => by rw [if_neg (by omega)]; exact mx.g hw) (fun w hw => by
        rw [if_neg (by omega), show A0.length + 1 - 1 = A0.length by omega]; exact ma.g hw) (fun q _ => rfl)
      simp only [mf_M_list, ca_M_list, dc_M_list_0, dc_M_list_1, dc_M_list_2, dc_M_list_3, dc_M_list_4, dc_M_list_5, dc_M_list_6, dc_M_list_7, dc_M_list_8, dc_M_list_9, dc_M_list_10, dc_M_list_11, dc_M_list_12, dc_M_list_13, dc_M_list_14, dc_M_list_15, dc_M_list_16, dc_M_list_17, dc_M_list_18, dc_M_list_19, dc_M_list_20, dc_M_list_21, dc_M_list_22, dc_M_list_23, dc_M_list_24, dc_M_list_25, dc_M_list_26, dc_M_list_27, dc_M_list_28, dc_M_list_29, dc_M_list_30, dc_M_list_31, dc_M_list_32, dc_M_list_33, fl_M, sl_M, sg_M_highest, sg_M_isLess, sg_M_key, cpn_model_0, cpn_model_1, mx_cp_r, ra0, ra4, ra5, ra6, ra7, rb1, rb2, rb3, rb4, mzr_iconst, mzr_bipush, mzr_sipush, mzr_lconst, mzr_iload, mzr_iload_n, mzr_aload, mzr_aload_n, mzr_lload, mzr_lload_n, mzr_istore, mzr_istore_n, mzr_astore, mzr_astore_n, mzr_lstore, mzr_lstore_n, mzr_iinc, mzr_iadd, mzr_isub, mzr_imul, mzr_iand, mzr_ior, mzr_ixor, mzr_ishl, mzr_ishr, mzr_iushr, mzr_idiv, mzr_irem, mzr_ineg, mzr_ladd, mzr_lsub, mzr_lmul, mzr_lrem, mzr_lcmp, mzr_i2l, mzr_l2i, mzr_i2b, mzr_dup, mzr_pop, mzr_dup2, mzr_ifCond_eq, mzr_if_icmp_eq, mzr_ifCond_ne, mzr_if_icmp_ne, mzr_ifCond_lt, mzr_if_icmp_lt, mzr_ifCond_ge, mzr_if_icmp_ge, mzr_ifCond_gt, mzr_if_icmp_gt, mzr_ifCond_le, mzr_if_icmp_le, mzr_goto, mzr_iaload, mzr_baload, mzr_laload, mzr_aaload, mzr_iastore, mzr_bastore, mzr_lastore, mzr_arraylength, mzr_getfield, mzr_putfield, mzr_getstatic, mzr_ldc, mzr_ldc_w, mzr_ldc2_w, mzr_ireturn, mzr_return_, mzr_copy, mzr_static, mzr_virtual, mzr_new, mz_tk, mz_dp, mz_ln, mz_sz, mz_af_v, mz_af_s, mz_wp_s, mz_w1, mz_g, mz_st, mz_k, mz_s2, mz_nx, mz_en, mx_to, mz_c1, ↓reduceIte, Nat.reduceAdd, Nat.reduceSub, Nat.reduceMul, Nat.reduceMod, Nat.reduceDiv, Nat.reduceEqDiff, Nat.reduceLeDiff, Nat.reduceLT, Int.reduceAdd, Int.reduceSub, Int.reduceNeg, Int.reduceMul, Int.reduceLE, Int.reduceLT, Int.reduceEq, Int.reduceToNat, Int.reduceNegSucc, Int.cast_ofNat_Int, Int32.reduceToInt, Int64.reduceToInt, Int.zero_add, Int.add_zero, Fin.isValue, Fin.val_zero, Fin.val_one, Fin.val_two, reduceCtorEq, or_false, false_or, or_true, true_or, or_self, and_true, true_and, and_self, not_true_eq_false, not_false_eq_true, implies_true, forall_const, List.mem_cons, List.not_mem_nil, false_implies, true_implies, imp_false, Nat.zero_add, Option.some.injEq, Prod.mk.injEq]
      repeat' first | omega | refine mz_it (fun hh => ?_) (fun hh => ?_) | refine And.intro ?_ ?_
      all_goals exact hy
    · have hy := hK h (some (.inl ((A0.length + 1 : Nat) : Int))) o11 o12 (A0 ++ [a]) B h2 f1 hS hB (fun A1 a1 q => by
        have := (List.append_inj' q rfl).2
        rw [← List.singleton_inj.mp this]
        exact hlt)
      simp only [mf_M_list, ca_M_list, dc_M_list_0, dc_M_list_1, dc_M_list_2, dc_M_list_3, dc_M_list_4, dc_M_list_5, dc_M_list_6, dc_M_list_7, dc_M_list_8, dc_M_list_9, dc_M_list_10, dc_M_list_11, dc_M_list_12, dc_M_list_13, dc_M_list_14, dc_M_list_15, dc_M_list_16, dc_M_list_17, dc_M_list_18, dc_M_list_19, dc_M_list_20, dc_M_list_21, dc_M_list_22, dc_M_list_23, dc_M_list_24, dc_M_list_25, dc_M_list_26, dc_M_list_27, dc_M_list_28, dc_M_list_29, dc_M_list_30, dc_M_list_31, dc_M_list_32, dc_M_list_33, fl_M, sl_M, sg_M_highest, sg_M_isLess, sg_M_key, cpn_model_0, cpn_model_1, mx_cp_r, ra0, ra4, ra5, ra6, ra7, rb1, rb2, rb3, rb4, mzr_iconst, mzr_bipush, mzr_sipush, mzr_lconst, mzr_iload, mzr_iload_n, mzr_aload, mzr_aload_n, mzr_lload, mzr_lload_n, mzr_istore, mzr_istore_n, mzr_astore, mzr_astore_n, mzr_lstore, mzr_lstore_n, mzr_iinc, mzr_iadd, mzr_isub, mzr_imul, mzr_iand, mzr_ior, mzr_ixor, mzr_ishl, mzr_ishr, mzr_iushr, mzr_idiv, mzr_irem, mzr_ineg, mzr_ladd, mzr_lsub, mzr_lmul, mzr_lrem, mzr_lcmp, mzr_i2l, mzr_l2i, mzr_i2b, mzr_dup, mzr_pop, mzr_dup2, mzr_ifCond_eq, mzr_if_icmp_eq, mzr_ifCond_ne, mzr_if_icmp_ne, mzr_ifCond_lt, mzr_if_icmp_lt, mzr_ifCond_ge, mzr_if_icmp_ge, mzr_ifCond_gt, mzr_if_icmp_gt, mzr_ifCond_le, mzr_if_icmp_le, mzr_goto, mzr_iaload, mzr_baload, mzr_laload, mzr_aaload, mzr_iastore, mzr_bastore, mzr_lastore, mzr_arraylength, mzr_getfield, mzr_putfield, mzr_getstatic, mzr_ldc, mzr_ldc_w, mzr_ldc2_w, mzr_ireturn, mzr_return_, mzr_copy, mzr_static, mzr_virtual, mzr_new, mz_tk, mz_dp, mz_ln, mz_sz, mz_af_v, mz_af_s, mz_wp_s, mz_w1, mz_g, mz_st, mz_k, mz_s2, mz_nx, mz_en, mx_to, mz_c1, ↓reduceIte, Nat.reduceAdd, Nat.reduceSub, Nat.reduceMul, Nat.reduceMod, Nat.reduceDiv, Nat.reduceEqDiff, Nat.reduceLeDiff, Nat.reduceLT, Int.reduceAdd, Int.reduceSub, Int.reduceNeg, Int.reduceMul, Int.reduceLE, Int.reduceLT, Int.reduceEq, Int.reduceToNat, Int.reduceNegSucc, Int.cast_ofNat_Int, Int32.reduceToInt, Int64.reduceToInt, Int.zero_add, Int.add_zero, Fin.isValue, Fin.val_zero, Fin.val_one, Fin.val_two, reduceCtorEq, or_false, false_or, or_true, true_or, or_self, and_true, true_and, and_self, not_true_eq_false, not_false_eq_true, implies_true, forall_const, List.mem_cons, List.not_mem_nil, false_implies, true_implies, imp_false, Nat.zero_add, Option.some.injEq, Prod.mk.injEq]
      repeat' first | omega | refine mz_it (fun hh => ?_) (fun hh => ?_) | refine And.intro ?_ ?_
      all_goals exact hy
end RLIST
