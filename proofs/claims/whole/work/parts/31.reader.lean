def bl (a k : Nat) : List Nat := List.range' a k
theorem bl_m {a k c : Nat} : c ∈ bl a k ↔ a ≤ c ∧ c < a + k := by
  unfold bl; exact List.mem_range'_1
theorem mz_w_w (H : mz_H) (a i : Nat) (x y : Int) : mz_w (mz_w H a i x) a i y = mz_w H a i y := by
  unfold mz_w
  refine congrArg (fun f => (H.1, f, H.2.2)) ?_
  funext b j
  show mx_up2 (mx_up2 H.2.1 a i x) a i y b j = mx_up2 H.2.1 a i y b j
  unfold mx_up2
  split <;> rfl
theorem mz_w_id (H : mz_H) (a i : Nat) {x : Int} (h : H.2.1 a i = x) : mz_w H a i x = H := by
  unfold mz_w
  have : mx_up2 H.2.1 a i x = H.2.1 := by
    funext b j
    unfold mx_up2
    split
    · rename_i q
      rw [q.1, q.2, h]
    · rfl
  rw [this]
def tr_E (e : mz_E) (t r : Nat) : Prop :=
  (e.2.1 t = some (6, 12) ∧ e.2.2.1 t 2 = some r ∧ e.2.2.1 t 3 = some (t + 1) ∧ e.2.2.1 t 4 = some (t + 2) ∧ e.2.2.1 t 7 = some (t + 3) ∧ e.2.2.1 t 8 = some (t + 25) ∧ e.2.2.1 t 9 = some (t + 47) ∧ e.2.2.1 t 10 = some (t + 69) ∧ e.2.2.1 t 11 = some (t + 70)) ∧
  (e.2.1 (t + 1) = some (20, 20) ∧ e.2.1 (t + 2) = some (20, 400) ∧ e.2.1 (t + 3) = some (25, 21) ∧ e.2.1 (t + 25) = some (25, 21) ∧ e.2.1 (t + 47) = some (25, 21) ∧ e.2.1 (t + 69) = some (20, 126) ∧ e.2.1 (t + 70) = some (20, 126)) ∧
  (∀ k, k < 21 → e.2.2.1 (t + 3) k = some (t + 4 + k) ∧ e.2.1 (t + 4 + k) = some (20, 126)) ∧ (∀ k, k < 21 → e.2.2.1 (t + 25) k = some (t + 26 + k) ∧ e.2.1 (t + 26 + k) = some (20, 126)) ∧ (∀ k, k < 21 → e.2.2.1 (t + 47) k = some (t + 48 + k) ∧ e.2.1 (t + 48 + k) = some (20, 126))
set_option maxRecDepth 100000 in
theorem ct_isNext {e : mz_E} (d : Nat) {t r len a : Nat} {c : Int} {H : mz_H} {P : mz_O → mz_H → Prop} (hG : mx_G e.1) (hT : tr_E e t r) (h5 : H.2.1 t 5 = len) (h6 : H.2.1 t 6 = a) (hl : len ≤ 400) (hP : P (.inl (some (.inl (if a < len ∧ H.2.1 (t + 2) a = c then 1 else 0)))) H) : mz_CA e d j_TextReader_isNext [.inr (.inl t), .inl c] H P := by
  obtain ⟨⟨t0, y2, y3, y4, y7, y8, y9, y10, y11⟩, ⟨w1, w2, w3, w25, w47, w69, w70⟩, ws, wt, wf⟩ := hT
  refine mz_CA_of mr_TextReader_isNext ?_
  simp only [mf_TextReader_isNext, mz_en, List.replicate, Nat.reduceSub, Nat.reduceAdd, Nat.reduceMul]
  apply mz_go hG 40 []
  simp only [mf_TextReader_isNext, ca_TextReader_isNext, dc_TextReader_isNext_0, dc_TextReader_isNext_1, fl_TextReader, t0, y2, y3, y4, y7, y8, y9, y10, y11, w1, w2, w3, w25, w47, w69, w70, h5, h6, Int.toNat_natCast, mzr_iconst, mzr_bipush, mzr_sipush, mzr_lconst, mzr_iload, mzr_iload_n, mzr_aload, mzr_aload_n, mzr_lload, mzr_lload_n, mzr_istore, mzr_istore_n, mzr_astore, mzr_astore_n, mzr_lstore, mzr_lstore_n, mzr_iinc, mzr_iadd, mzr_isub, mzr_imul, mzr_iand, mzr_ior, mzr_ixor, mzr_ishl, mzr_ishr, mzr_iushr, mzr_idiv, mzr_irem, mzr_ineg, mzr_ladd, mzr_lsub, mzr_lmul, mzr_lrem, mzr_lcmp, mzr_i2l, mzr_l2i, mzr_i2b, mzr_dup, mzr_pop, mzr_dup2, mzr_ifCond_eq, mzr_if_icmp_eq, mzr_ifCond_ne, mzr_if_icmp_ne, mzr_ifCond_lt, mzr_if_icmp_lt, mzr_ifCond_ge, mzr_if_icmp_ge, mzr_ifCond_gt, mzr_if_icmp_gt, mzr_ifCond_le, mzr_if_icmp_le, mzr_goto, mzr_iaload, mzr_baload, mzr_laload, mzr_aaload, mzr_iastore, mzr_bastore, mzr_lastore, mzr_arraylength, mzr_getfield, mzr_putfield, mzr_getstatic, mzr_ldc, mzr_ldc_w, mzr_ldc2_w, mzr_ireturn, mzr_return_, mzr_copy, mzr_static, mzr_virtual, mzr_new, mz_tk, mz_dp, mz_ln, mz_sz, mz_af_v, mz_af_s, mz_wp_s, mz_w1, mz_g, mz_st, mz_k, mz_s2, mz_nx, mz_en, mx_to, mz_c1, ↓reduceIte, Nat.reduceAdd, Nat.reduceSub, Nat.reduceMul, Nat.reduceMod, Nat.reduceDiv, Nat.reduceEqDiff, Nat.reduceLeDiff, Nat.reduceLT, Int.reduceAdd, Int.reduceSub, Int.reduceNeg, Int.reduceMul, Int.reduceLE, Int.reduceLT, Int.reduceEq, Int.reduceToNat, Int.reduceNegSucc, Int.cast_ofNat_Int, Int32.reduceToInt, Int64.reduceToInt, Int.zero_add, Int.add_zero, Fin.isValue, Fin.val_zero, Fin.val_one, Fin.val_two, reduceCtorEq, or_false, false_or, or_true, true_or, or_self, and_true, true_and, and_self, not_true_eq_false, not_false_eq_true, implies_true, forall_const, List.mem_cons, List.not_mem_nil, false_implies, true_implies, imp_false, Nat.zero_add, Option.some.injEq, Prod.mk.injEq]
  repeat' first | omega | refine mz_it (fun hh => ?_) (fun hh => ?_) | refine And.intro ?_ ?_
  · rwa [if_neg (fun q => by omega)] at hP
  · rwa [if_pos ⟨by omega, by assumption⟩] at hP
  · rwa [if_neg (fun q => absurd q.2 (by assumption))] at hP
set_option maxRecDepth 100000 in
theorem ct_isDigit {e : mz_E} (d : Nat) {t r len a : Nat} {H : mz_H} {P : mz_O → mz_H → Prop} (hG : mx_G e.1) (hT : tr_E e t r) (h5 : H.2.1 t 5 = len) (h6 : H.2.1 t 6 = a) (hl : len ≤ 400) (hP : P (.inl (some (.inl (if a < len ∧ 48 ≤ H.2.1 (t + 2) a ∧ H.2.1 (t + 2) a ≤ 57 then 1 else 0)))) H) : mz_CA e d j_TextReader_isDigitNext [.inr (.inl t)] H P := by
  obtain ⟨⟨t0, y2, y3, y4, y7, y8, y9, y10, y11⟩, ⟨w1, w2, w3, w25, w47, w69, w70⟩, ws, wt, wf⟩ := hT
  refine mz_CA_of mr_TextReader_isDigitNext ?_
  simp only [mf_TextReader_isDigitNext, mz_en, List.replicate, Nat.reduceSub, Nat.reduceAdd, Nat.reduceMul]
  apply mz_go hG 40 []
  simp only [mf_TextReader_isDigitNext, ca_TextReader_isDigitNext, dc_TextReader_isDigitNext_0, dc_TextReader_isDigitNext_1, dc_TextReader_isDigitNext_2, fl_TextReader, t0, y2, y3, y4, y7, y8, y9, y10, y11, w1, w2, w3, w25, w47, w69, w70, h5, h6, Int.toNat_natCast, mzr_iconst, mzr_bipush, mzr_sipush, mzr_lconst, mzr_iload, mzr_iload_n, mzr_aload, mzr_aload_n, mzr_lload, mzr_lload_n, mzr_istore, mzr_istore_n, mzr_astore, mzr_astore_n, mzr_lstore, mzr_lstore_n, mzr_iinc, mzr_iadd, mzr_isub, mzr_imul, mzr_iand, mzr_ior, mzr_ixor, mzr_ishl, mzr_ishr, mzr_iushr, mzr_idiv, mzr_irem, mzr_ineg, mzr_ladd, mzr_lsub, mzr_lmul, mzr_lrem, mzr_lcmp, mzr_i2l, mzr_l2i, mzr_i2b, mzr_dup, mzr_pop, mzr_dup2, mzr_ifCond_eq, mzr_if_icmp_eq, mzr_ifCond_ne, mzr_if_icmp_ne, mzr_ifCond_lt, mzr_if_icmp_lt, mzr_ifCond_ge, mzr_if_icmp_ge, mzr_ifCond_gt, mzr_if_icmp_gt, mzr_ifCond_le, mzr_if_icmp_le, mzr_goto, mzr_iaload, mzr_baload, mzr_laload, mzr_aaload, mzr_iastore, mzr_bastore, mzr_lastore, mzr_arraylength, mzr_getfield, mzr_putfield, mzr_getstatic, mzr_ldc, mzr_ldc_w, mzr_ldc2_w, mzr_ireturn, mzr_return_, mzr_copy, mzr_static, mzr_virtual, mzr_new, mz_tk, mz_dp, mz_ln, mz_sz, mz_af_v, mz_af_s, mz_wp_s, mz_w1, mz_g, mz_st, mz_k, mz_s2, mz_nx, mz_en, mx_to, mz_c1, ↓reduceIte, Nat.reduceAdd, Nat.reduceSub, Nat.reduceMul, Nat.reduceMod, Nat.reduceDiv, Nat.reduceEqDiff, Nat.reduceLeDiff, Nat.reduceLT, Int.reduceAdd, Int.reduceSub, Int.reduceNeg, Int.reduceMul, Int.reduceLE, Int.reduceLT, Int.reduceEq, Int.reduceToNat, Int.reduceNegSucc, Int.cast_ofNat_Int, Int32.reduceToInt, Int64.reduceToInt, Int.zero_add, Int.add_zero, Fin.isValue, Fin.val_zero, Fin.val_one, Fin.val_two, reduceCtorEq, or_false, false_or, or_true, true_or, or_self, and_true, true_and, and_self, not_true_eq_false, not_false_eq_true, implies_true, forall_const, List.mem_cons, List.not_mem_nil, false_implies, true_implies, imp_false, Nat.zero_add, Option.some.injEq, Prod.mk.injEq]
  repeat' first | omega | refine mz_it (fun hh => ?_) (fun hh => ?_) | refine And.intro ?_ ?_
  · rwa [if_neg (fun q => by omega)] at hP
  · rwa [if_neg (fun q => by omega)] at hP
  · rwa [if_neg (fun q => by omega)] at hP
  · rwa [if_pos (by omega)] at hP
set_option maxRecDepth 100000 in
theorem ct_skip {e : mz_E} (d : Nat) {t r len a : Nat} {H : mz_H} {P : mz_O → mz_H → Prop} (hG : mx_G e.1) (hT : tr_E e t r) (h5 : H.2.1 t 5 = len) (h6 : H.2.1 t 6 = a) (hl : len ≤ 400) (hP : P (.inl none) (mz_w H t 6 (ps_sk (H.2.1 (t + 2)) (len - a) a : Nat))) : mz_CA e d j_TextReader_skipSpaces [.inr (.inl t)] H P := by
  obtain ⟨⟨t0, y2, y3, y4, y7, y8, y9, y10, y11⟩, ⟨w1, w2, w3, w25, w47, w69, w70⟩, ws, wt, wf⟩ := hT
  have lp : ∀ (k b : Nat), b + k = len ∨ (k = 0 ∧ len ≤ b) → ps_sk (H.2.1 (t + 2)) k b = ps_sk (H.2.1 (t + 2)) (len - a) a → mz_V e d mm_TextReader_skipSpaces 0 [some (.inr (.inl t))] [] (mz_w H t 6 (b : Int)) P := by
    intro k
    induction k with
    | zero =>
      intro b h1 h2
      rw [← h2] at hP
      apply mz_go hG 40 [0]
      simp only [mf_TextReader_skipSpaces, ca_TextReader_skipSpaces, dc_TextReader_skipSpaces_0, dc_TextReader_skipSpaces_1, dc_TextReader_skipSpaces_2, fl_TextReader, t0, y2, y3, y4, y7, y8, y9, y10, y11, w1, w2, w3, w25, w47, w69, w70, mz_w_g, Nat.left_eq_add, Nat.add_left_cancel_iff, Nat.add_eq_left, false_and, if_false, if_true, h5, Int.toNat_natCast, mzr_iconst, mzr_bipush, mzr_sipush, mzr_lconst, mzr_iload, mzr_iload_n, mzr_aload, mzr_aload_n, mzr_lload, mzr_lload_n, mzr_istore, mzr_istore_n, mzr_astore, mzr_astore_n, mzr_lstore, mzr_lstore_n, mzr_iinc, mzr_iadd, mzr_isub, mzr_imul, mzr_iand, mzr_ior, mzr_ixor, mzr_ishl, mzr_ishr, mzr_iushr, mzr_idiv, mzr_irem, mzr_ineg, mzr_ladd, mzr_lsub, mzr_lmul, mzr_lrem, mzr_lcmp, mzr_i2l, mzr_l2i, mzr_i2b, mzr_dup, mzr_pop, mzr_dup2, mzr_ifCond_eq, mzr_if_icmp_eq, mzr_ifCond_ne, mzr_if_icmp_ne, mzr_ifCond_lt, mzr_if_icmp_lt, mzr_ifCond_ge, mzr_if_icmp_ge, mzr_ifCond_gt, mzr_if_icmp_gt, mzr_ifCond_le, mzr_if_icmp_le, mzr_goto, mzr_iaload, mzr_baload, mzr_laload, mzr_aaload, mzr_iastore, mzr_bastore, mzr_lastore, mzr_arraylength, mzr_getfield, mzr_putfield, mzr_getstatic, mzr_ldc, mzr_ldc_w, mzr_ldc2_w, mzr_ireturn, mzr_return_, mzr_copy, mzr_static, mzr_virtual, mzr_new, mz_tk, mz_dp, mz_ln, mz_sz, mz_af_v, mz_af_s, mz_wp_s, mz_w1, mz_g, mz_st, mz_k, mz_s2, mz_nx, mz_en, mx_to, mz_c1, ↓reduceIte, Nat.reduceAdd, Nat.reduceSub, Nat.reduceMul, Nat.reduceMod, Nat.reduceDiv, Nat.reduceEqDiff, Nat.reduceLeDiff, Nat.reduceLT, Int.reduceAdd, Int.reduceSub, Int.reduceNeg, Int.reduceMul, Int.reduceLE, Int.reduceLT, Int.reduceEq, Int.reduceToNat, Int.reduceNegSucc, Int.cast_ofNat_Int, Int32.reduceToInt, Int64.reduceToInt, Int.zero_add, Int.add_zero, Fin.isValue, Fin.val_zero, Fin.val_one, Fin.val_two, reduceCtorEq, or_false, false_or, or_true, true_or, or_self, and_true, true_and, and_self, not_true_eq_false, not_false_eq_true, implies_true, forall_const, List.mem_cons, List.not_mem_nil, false_implies, true_implies, imp_false, Nat.zero_add, Option.some.injEq, Prod.mk.injEq]
      repeat' first | omega | refine mz_it (fun hh => ?_) (fun hh => ?_) | refine And.intro ?_ ?_
      all_goals exact hP
    | succ k ih =>
      intro b h1 h2
      have ih' := ih (b + 1) (by omega)
      apply mz_go hG 40 [0]
      rw [ps_sk] at h2
      simp only [mf_TextReader_skipSpaces, ca_TextReader_skipSpaces, dc_TextReader_skipSpaces_0, dc_TextReader_skipSpaces_1, dc_TextReader_skipSpaces_2, fl_TextReader, t0, y2, y3, y4, y7, y8, y9, y10, y11, w1, w2, w3, w25, w47, w69, w70, mz_w_g, Nat.left_eq_add, Nat.add_left_cancel_iff, Nat.add_eq_left, false_and, if_false, if_true, h5, Int.toNat_natCast, mzr_iconst, mzr_bipush, mzr_sipush, mzr_lconst, mzr_iload, mzr_iload_n, mzr_aload, mzr_aload_n, mzr_lload, mzr_lload_n, mzr_istore, mzr_istore_n, mzr_astore, mzr_astore_n, mzr_lstore, mzr_lstore_n, mzr_iinc, mzr_iadd, mzr_isub, mzr_imul, mzr_iand, mzr_ior, mzr_ixor, mzr_ishl, mzr_ishr, mzr_iushr, mzr_idiv, mzr_irem, mzr_ineg, mzr_ladd, mzr_lsub, mzr_lmul, mzr_lrem, mzr_lcmp, mzr_i2l, mzr_l2i, mzr_i2b, mzr_dup, mzr_pop, mzr_dup2, mzr_ifCond_eq, mzr_if_icmp_eq, mzr_ifCond_ne, mzr_if_icmp_ne, mzr_ifCond_lt, mzr_if_icmp_lt, mzr_ifCond_ge, mzr_if_icmp_ge, mzr_ifCond_gt, mzr_if_icmp_gt, mzr_ifCond_le, mzr_if_icmp_le, mzr_goto, mzr_iaload, mzr_baload, mzr_laload, mzr_aaload, mzr_iastore, mzr_bastore, mzr_lastore, mzr_arraylength, mzr_getfield, mzr_putfield, mzr_getstatic, mzr_ldc, mzr_ldc_w, mzr_ldc2_w, mzr_ireturn, mzr_return_, mzr_copy, mzr_static, mzr_virtual, mzr_new, mz_tk, mz_dp, mz_ln, mz_sz, mz_af_v, mz_af_s, mz_wp_s, mz_w1, mz_g, mz_st, mz_k, mz_s2, mz_nx, mz_en, mx_to, mz_c1, ↓reduceIte, Nat.reduceAdd, Nat.reduceSub, Nat.reduceMul, Nat.reduceMod, Nat.reduceDiv, Nat.reduceEqDiff, Nat.reduceLeDiff, Nat.reduceLT, Int.reduceAdd, Int.reduceSub, Int.reduceNeg, Int.reduceMul, Int.reduceLE, Int.reduceLT, Int.reduceEq, Int.reduceToNat, Int.reduceNegSucc, Int.cast_ofNat_Int, Int32.reduceToInt, Int64.reduceToInt, Int.zero_add, Int.add_zero, Fin.isValue, Fin.val_zero, Fin.val_one, Fin.val_two, reduceCtorEq, or_false, false_or, or_true, true_or, or_self, and_true, true_and, and_self, not_true_eq_false, not_false_eq_true, implies_true, forall_const, List.mem_cons, List.not_mem_nil, false_implies, true_implies, imp_false, Nat.zero_add, Option.some.injEq, Prod.mk.injEq]
      repeat' first | omega | refine mz_it (fun hh => ?_) (fun hh => ?_) | refine And.intro ?_ ?_
      · rw [if_pos (by assumption)] at h2
        rw [mz_w_w, show (b : Int) + 1 = ((b + 1 : Nat) : Int) by omega]
        exact ih' h2
      · rw [if_neg (by assumption)] at h2
        rw [← h2] at hP
        exact hP
  refine mz_CA_of mr_TextReader_skipSpaces ?_
  simp only [mf_TextReader_skipSpaces, mz_en, List.replicate, Nat.reduceSub, Nat.reduceAdd, Nat.reduceMul]
  have h3 := lp (len - a) a (by omega) rfl
  rw [mz_w_id H t 6 h6] at h3
  exact h3
theorem ps_sk_b (tx : Nat → Int) (k a : Nat) : a ≤ ps_sk tx k a ∧ ps_sk tx k a ≤ a + k := by
  induction k generalizing a with
  | zero => exact ⟨Nat.le_refl _, Nat.le_refl _⟩
  | succ k ih =>
    rw [ps_sk]
    have := ih (a + 1)
    split <;> omega
theorem ps_dt_b (tx : Nat → Int) (k a : Nat) : a ≤ ps_dt tx k a ∧ ps_dt tx k a ≤ a + k ∧ ∀ j, a ≤ j → j < ps_dt tx k a → 48 ≤ tx j ∧ tx j ≤ 57 := by
  induction k generalizing a with
  | zero => exact ⟨Nat.le_refl _, Nat.le_refl _, fun j h1 h2 => by rw [ps_dt] at h2; omega⟩
  | succ k ih =>
    rw [ps_dt]
    have := ih (a + 1)
    split
    · refine ⟨by omega, by omega, fun j h1 h2 => ?_⟩
      by_cases hj : j = a
      · rw [hj]; assumption
      · exact this.2.2 j (by omega) h2
    · exact ⟨Nat.le_refl _, by omega, fun j h1 h2 => by omega⟩
theorem ps_v_b {tx : Nat → Int} {a m : Nat} (h : ∀ j, a ≤ j → j < a + m → 48 ≤ tx j ∧ tx j ≤ 57) : ∀ k, k ≤ m → 0 ≤ ps_v tx a k ∧ ps_v tx a k < 10 ^ k := by
  intro k
  induction k with
  | zero => intro _; exact ⟨Int.le_refl _, (by decide : (0 : Int) < 10 ^ 0)⟩
  | succ k ih =>
    intro hk
    have h1 := ih (by omega)
    have h2 := h (a + k) (by omega) (by omega)
    show 0 ≤ ps_v tx a k * 10 + (tx (a + k) - 48) ∧ ps_v tx a k * 10 + (tx (a + k) - 48) < 10 ^ (k + 1)
    rw [Int.pow_succ]
    omega
theorem ps_p9 : ∀ k, k ≤ 9 → (10 : Int) ^ k ≤ 1000000000 := by
  intro k hk
  obtain rfl | rfl | rfl | rfl | rfl | rfl | rfl | rfl | rfl | rfl : k = 0 ∨ k = 1 ∨ k = 2 ∨ k = 3 ∨ k = 4 ∨ k = 5 ∨ k = 6 ∨ k = 7 ∨ k = 8 ∨ k = 9 := by omega
  all_goals decide
set_option maxRecDepth 100000 in
theorem ct_blame {e : mz_E} (d : Nat) {t r : Nat} {k y : Int} {H : mz_H} {P : mz_O → mz_H → Prop} (hG : mx_G e.1) (hT : tr_E e t r) (hP : P (.inl none) (mz_w (mz_w H t 0 k) t 1 y)) : mz_CA e d j_TextReader_blame [.inr (.inl t), .inl k, .inl y] H P := by
  obtain ⟨⟨t0, y2, y3, y4, y7, y8, y9, y10, y11⟩, ⟨w1, w2, w3, w25, w47, w69, w70⟩, ws, wt, wf⟩ := hT
  refine mz_CA_of mr_TextReader_blame ?_
  simp only [mf_TextReader_blame, mz_en, List.replicate, Nat.reduceSub, Nat.reduceAdd, Nat.reduceMul]
  apply mz_go hG 40 []
  simp only [mf_TextReader_blame, ca_TextReader_blame, dc_TextReader_blame_0, fl_TextReader, t0, y2, y3, y4, y7, y8, y9, y10, y11, w1, w2, w3, w25, w47, w69, w70, mzr_iconst, mzr_bipush, mzr_sipush, mzr_lconst, mzr_iload, mzr_iload_n, mzr_aload, mzr_aload_n, mzr_lload, mzr_lload_n, mzr_istore, mzr_istore_n, mzr_astore, mzr_astore_n, mzr_lstore, mzr_lstore_n, mzr_iinc, mzr_iadd, mzr_isub, mzr_imul, mzr_iand, mzr_ior, mzr_ixor, mzr_ishl, mzr_ishr, mzr_iushr, mzr_idiv, mzr_irem, mzr_ineg, mzr_ladd, mzr_lsub, mzr_lmul, mzr_lrem, mzr_lcmp, mzr_i2l, mzr_l2i, mzr_i2b, mzr_dup, mzr_pop, mzr_dup2, mzr_ifCond_eq, mzr_if_icmp_eq, mzr_ifCond_ne, mzr_if_icmp_ne, mzr_ifCond_lt, mzr_if_icmp_lt, mzr_ifCond_ge, mzr_if_icmp_ge, mzr_ifCond_gt, mzr_if_icmp_gt, mzr_ifCond_le, mzr_if_icmp_le, mzr_goto, mzr_iaload, mzr_baload, mzr_laload, mzr_aaload, mzr_iastore, mzr_bastore, mzr_lastore, mzr_arraylength, mzr_getfield, mzr_putfield, mzr_getstatic, mzr_ldc, mzr_ldc_w, mzr_ldc2_w, mzr_ireturn, mzr_return_, mzr_copy, mzr_static, mzr_virtual, mzr_new, mz_tk, mz_dp, mz_ln, mz_sz, mz_af_v, mz_af_s, mz_wp_s, mz_w1, mz_g, mz_st, mz_k, mz_s2, mz_nx, mz_en, mx_to, mz_c1, ↓reduceIte, Nat.reduceAdd, Nat.reduceSub, Nat.reduceMul, Nat.reduceMod, Nat.reduceDiv, Nat.reduceEqDiff, Nat.reduceLeDiff, Nat.reduceLT, Int.reduceAdd, Int.reduceSub, Int.reduceNeg, Int.reduceMul, Int.reduceLE, Int.reduceLT, Int.reduceEq, Int.reduceToNat, Int.reduceNegSucc, Int.cast_ofNat_Int, Int32.reduceToInt, Int64.reduceToInt, Int.zero_add, Int.add_zero, Fin.isValue, Fin.val_zero, Fin.val_one, Fin.val_two, reduceCtorEq, or_false, false_or, or_true, true_or, or_self, and_true, true_and, and_self, not_true_eq_false, not_false_eq_true, implies_true, forall_const, List.mem_cons, List.not_mem_nil, false_implies, true_implies, imp_false, Nat.zero_add, Option.some.injEq, Prod.mk.injEq]
  repeat' first | omega | refine mz_it (fun hh => ?_) (fun hh => ?_) | refine And.intro ?_ ?_
  all_goals exact hP
set_option maxRecDepth 100000 in
theorem ct_takeNumber {e : mz_E} (d : Nat) {t r len a m : Nat} {H : mz_H} {P : mz_O → mz_H → Prop} (hG : mx_G e.1) (hT : tr_E e t r) (h5 : H.2.1 t 5 = len) (h6 : H.2.1 t 6 = a) (hl : len ≤ 400) (hm : m ≤ 9)
    (hP1 : ps_dt (H.2.1 (t + 2)) (len - a) a - a ≤ m → P (.inl (some (.inl (ps_v (H.2.1 (t + 2)) a (ps_dt (H.2.1 (t + 2)) (len - a) a - a))))) (mz_w H t 6 (ps_dt (H.2.1 (t + 2)) (len - a) a : Nat)))
    (hP0 : m < ps_dt (H.2.1 (t + 2)) (len - a) a - a → ∀ y, 0 ≤ y → y < 1000000000 → P (.inl (some (.inl y))) (mz_w (mz_w (mz_w H t 6 (ps_dt (H.2.1 (t + 2)) (len - a) a : Nat)) t 0 4) t 1 (a : Int))) : mz_CA e (d + 1) j_TextReader_takeNumber [.inr (.inl t), .inl (m : Int)] H P := by
  have hT' := hT
  obtain ⟨⟨t0, y2, y3, y4, y7, y8, y9, y10, y11⟩, ⟨w1, w2, w3, w25, w47, w69, w70⟩, ws, wt, wf⟩ := hT
  generalize htx : H.2.1 (t + 2) = tx at *
  have hdb := ps_dt_b tx (len - a) a
  generalize hq : ps_dt tx (len - a) a = q at *
  have hvb : ∀ k, k ≤ q - a → 0 ≤ ps_v tx a k ∧ ps_v tx a k < 10 ^ k := ps_v_b (m := q - a) (fun j h1 h2 => hdb.2.2 j h1 (by omega))
  have fin : mz_V e (d + 1) mm_TextReader_takeNumber 70 [some (.inr (.inl t)), some (.inl (m : Int)), some (.inl (a : Int)), some (.inl (ps_v tx a (min (q - a) m)))] [] (mz_w H t 6 (q : Int)) P := by
    by_cases hqm : q - a ≤ m
    · have h8 := hP1 hqm
      rw [show min (q - a) m = q - a by omega]
      apply mz_go hG 60 []
      simp only [mf_TextReader_takeNumber, ca_TextReader_takeNumber, dc_TextReader_takeNumber_0, dc_TextReader_takeNumber_1, dc_TextReader_takeNumber_2, dc_TextReader_takeNumber_3, dc_TextReader_takeNumber_4, dc_TextReader_takeNumber_5, dc_TextReader_takeNumber_6, fl_TextReader, sl_TextReader, sg_TextReader_isDigitNext, sg_TextReader_blame, t0, y2, y3, y4, y7, y8, y9, y10, y11, w1, w2, w3, w25, w47, w69, w70, mz_w_g, Nat.left_eq_add, Nat.add_left_cancel_iff, Nat.add_eq_left, false_and, if_false, if_true, mzr_iconst, mzr_bipush, mzr_sipush, mzr_lconst, mzr_iload, mzr_iload_n, mzr_aload, mzr_aload_n, mzr_lload, mzr_lload_n, mzr_istore, mzr_istore_n, mzr_astore, mzr_astore_n, mzr_lstore, mzr_lstore_n, mzr_iinc, mzr_iadd, mzr_isub, mzr_imul, mzr_iand, mzr_ior, mzr_ixor, mzr_ishl, mzr_ishr, mzr_iushr, mzr_idiv, mzr_irem, mzr_ineg, mzr_ladd, mzr_lsub, mzr_lmul, mzr_lrem, mzr_lcmp, mzr_i2l, mzr_l2i, mzr_i2b, mzr_dup, mzr_pop, mzr_dup2, mzr_ifCond_eq, mzr_if_icmp_eq, mzr_ifCond_ne, mzr_if_icmp_ne, mzr_ifCond_lt, mzr_if_icmp_lt, mzr_ifCond_ge, mzr_if_icmp_ge, mzr_ifCond_gt, mzr_if_icmp_gt, mzr_ifCond_le, mzr_if_icmp_le, mzr_goto, mzr_iaload, mzr_baload, mzr_laload, mzr_aaload, mzr_iastore, mzr_bastore, mzr_lastore, mzr_arraylength, mzr_getfield, mzr_putfield, mzr_getstatic, mzr_ldc, mzr_ldc_w, mzr_ldc2_w, mzr_ireturn, mzr_return_, mzr_copy, mzr_static, mzr_virtual, mzr_new, mz_tk, mz_dp, mz_ln, mz_sz, mz_af_v, mz_af_s, mz_wp_s, mz_w1, mz_g, mz_st, mz_k, mz_s2, mz_nx, mz_en, mx_to, mz_c1, ↓reduceIte, Nat.reduceAdd, Nat.reduceSub, Nat.reduceMul, Nat.reduceMod, Nat.reduceDiv, Nat.reduceEqDiff, Nat.reduceLeDiff, Nat.reduceLT, Int.reduceAdd, Int.reduceSub, Int.reduceNeg, Int.reduceMul, Int.reduceLE, Int.reduceLT, Int.reduceEq, Int.reduceToNat, Int.reduceNegSucc, Int.cast_ofNat_Int, Int32.reduceToInt, Int64.reduceToInt, Int.zero_add, Int.add_zero, Fin.isValue, Fin.val_zero, Fin.val_one, Fin.val_two, reduceCtorEq, or_false, false_or, or_true, true_or, or_self, and_true, true_and, and_self, not_true_eq_false, not_false_eq_true, implies_true, forall_const, List.mem_cons, List.not_mem_nil, false_implies, true_implies, imp_false, Nat.zero_add, Option.some.injEq, Prod.mk.injEq]
      repeat' first | omega | refine mz_it (fun hh => ?_) (fun hh => ?_) | refine And.intro ?_ ?_
      all_goals exact h8
    · apply mz_go hG 60 []
      simp only [mf_TextReader_takeNumber, ca_TextReader_takeNumber, dc_TextReader_takeNumber_0, dc_TextReader_takeNumber_1, dc_TextReader_takeNumber_2, dc_TextReader_takeNumber_3, dc_TextReader_takeNumber_4, dc_TextReader_takeNumber_5, dc_TextReader_takeNumber_6, fl_TextReader, sl_TextReader, sg_TextReader_isDigitNext, sg_TextReader_blame, t0, y2, y3, y4, y7, y8, y9, y10, y11, w1, w2, w3, w25, w47, w69, w70, mz_w_g, Nat.left_eq_add, Nat.add_left_cancel_iff, Nat.add_eq_left, false_and, if_false, if_true, mzr_iconst, mzr_bipush, mzr_sipush, mzr_lconst, mzr_iload, mzr_iload_n, mzr_aload, mzr_aload_n, mzr_lload, mzr_lload_n, mzr_istore, mzr_istore_n, mzr_astore, mzr_astore_n, mzr_lstore, mzr_lstore_n, mzr_iinc, mzr_iadd, mzr_isub, mzr_imul, mzr_iand, mzr_ior, mzr_ixor, mzr_ishl, mzr_ishr, mzr_iushr, mzr_idiv, mzr_irem, mzr_ineg, mzr_ladd, mzr_lsub, mzr_lmul, mzr_lrem, mzr_lcmp, mzr_i2l, mzr_l2i, mzr_i2b, mzr_dup, mzr_pop, mzr_dup2, mzr_ifCond_eq, mzr_if_icmp_eq, mzr_ifCond_ne, mzr_if_icmp_ne, mzr_ifCond_lt, mzr_if_icmp_lt, mzr_ifCond_ge, mzr_if_icmp_ge, mzr_ifCond_gt, mzr_if_icmp_gt, mzr_ifCond_le, mzr_if_icmp_le, mzr_goto, mzr_iaload, mzr_baload, mzr_laload, mzr_aaload, mzr_iastore, mzr_bastore, mzr_lastore, mzr_arraylength, mzr_getfield, mzr_putfield, mzr_getstatic, mzr_ldc, mzr_ldc_w, mzr_ldc2_w, mzr_ireturn, mzr_return_, mzr_copy, mzr_static, mzr_virtual, mzr_new, mz_tk, mz_dp, mz_ln, mz_sz, mz_af_v, mz_af_s, mz_wp_s, mz_w1, mz_g, mz_st, mz_k, mz_s2, mz_nx, mz_en, mx_to, mz_c1, ↓reduceIte, Nat.reduceAdd, Nat.reduceSub, Nat.reduceMul, Nat.reduceMod, Nat.reduceDiv, Nat.reduceEqDiff, Nat.reduceLeDiff, Nat.reduceLT, Int.reduceAdd, Int.reduceSub, Int.reduceNeg, Int.reduceMul, Int.reduceLE, Int.reduceLT, Int.reduceEq, Int.reduceToNat, Int.reduceNegSucc, Int.cast_ofNat_Int, Int32.reduceToInt, Int64.reduceToInt, Int.zero_add, Int.add_zero, Fin.isValue, Fin.val_zero, Fin.val_one, Fin.val_two, reduceCtorEq, or_false, false_or, or_true, true_or, or_self, and_true, true_and, and_self, not_true_eq_false, not_false_eq_true, implies_true, forall_const, List.mem_cons, List.not_mem_nil, false_implies, true_implies, imp_false, Nat.zero_add, Option.some.injEq, Prod.mk.injEq]
      repeat' first | omega | refine mz_it (fun hh => ?_) (fun hh => ?_) | refine And.intro ?_ ?_
      refine ct_blame d hG hT' ?_
      have h9 := hvb (min (q - a) m) (by omega)
      have h10 := ps_p9 (min (q - a) m) (by omega)
      have h8 := hP0 (by omega) (ps_v tx a (min (q - a) m)) h9.1 (by omega)
      simp only [mf_TextReader_takeNumber, ca_TextReader_takeNumber, dc_TextReader_takeNumber_0, dc_TextReader_takeNumber_1, dc_TextReader_takeNumber_2, dc_TextReader_takeNumber_3, dc_TextReader_takeNumber_4, dc_TextReader_takeNumber_5, dc_TextReader_takeNumber_6, fl_TextReader, sl_TextReader, sg_TextReader_isDigitNext, sg_TextReader_blame, t0, y2, y3, y4, y7, y8, y9, y10, y11, w1, w2, w3, w25, w47, w69, w70, mzr_iconst, mzr_bipush, mzr_sipush, mzr_lconst, mzr_iload, mzr_iload_n, mzr_aload, mzr_aload_n, mzr_lload, mzr_lload_n, mzr_istore, mzr_istore_n, mzr_astore, mzr_astore_n, mzr_lstore, mzr_lstore_n, mzr_iinc, mzr_iadd, mzr_isub, mzr_imul, mzr_iand, mzr_ior, mzr_ixor, mzr_ishl, mzr_ishr, mzr_iushr, mzr_idiv, mzr_irem, mzr_ineg, mzr_ladd, mzr_lsub, mzr_lmul, mzr_lrem, mzr_lcmp, mzr_i2l, mzr_l2i, mzr_i2b, mzr_dup, mzr_pop, mzr_dup2, mzr_ifCond_eq, mzr_if_icmp_eq, mzr_ifCond_ne, mzr_if_icmp_ne, mzr_ifCond_lt, mzr_if_icmp_lt, mzr_ifCond_ge, mzr_if_icmp_ge, mzr_ifCond_gt, mzr_if_icmp_gt, mzr_ifCond_le, mzr_if_icmp_le, mzr_goto, mzr_iaload, mzr_baload, mzr_laload, mzr_aaload, mzr_iastore, mzr_bastore, mzr_lastore, mzr_arraylength, mzr_getfield, mzr_putfield, mzr_getstatic, mzr_ldc, mzr_ldc_w, mzr_ldc2_w, mzr_ireturn, mzr_return_, mzr_copy, mzr_static, mzr_virtual, mzr_new, mz_tk, mz_dp, mz_ln, mz_sz, mz_af_v, mz_af_s, mz_wp_s, mz_w1, mz_g, mz_st, mz_k, mz_s2, mz_nx, mz_en, mx_to, mz_c1, ↓reduceIte, Nat.reduceAdd, Nat.reduceSub, Nat.reduceMul, Nat.reduceMod, Nat.reduceDiv, Nat.reduceEqDiff, Nat.reduceLeDiff, Nat.reduceLT, Int.reduceAdd, Int.reduceSub, Int.reduceNeg, Int.reduceMul, Int.reduceLE, Int.reduceLT, Int.reduceEq, Int.reduceToNat, Int.reduceNegSucc, Int.cast_ofNat_Int, Int32.reduceToInt, Int64.reduceToInt, Int.zero_add, Int.add_zero, Fin.isValue, Fin.val_zero, Fin.val_one, Fin.val_two, reduceCtorEq, or_false, false_or, or_true, true_or, or_self, and_true, true_and, and_self, not_true_eq_false, not_false_eq_true, implies_true, forall_const, List.mem_cons, List.not_mem_nil, false_implies, true_implies, imp_false, Nat.zero_add, Option.some.injEq, Prod.mk.injEq]
      repeat' first | omega | refine mz_it (fun hh => ?_) (fun hh => ?_) | refine And.intro ?_ ?_
      all_goals exact h8
  have lp : ∀ (k b : Nat), b + k = len ∨ (k = 0 ∧ len ≤ b) → a ≤ b → ps_dt tx k b = q → b ≤ q → mz_V e (d + 1) mm_TextReader_takeNumber 7 [some (.inr (.inl t)), some (.inl (m : Int)), some (.inl (a : Int)), some (.inl (ps_v tx a (min (b - a) m)))] [] (mz_w H t 6 (b : Int)) P := by
    intro k
    induction k with
    | zero =>
      intro b h1 h2 h3 h4
      rw [ps_dt] at h3
      subst h3
      apply mz_go hG 60 [70]
      simp only [mf_TextReader_takeNumber, ca_TextReader_takeNumber, dc_TextReader_takeNumber_0, dc_TextReader_takeNumber_1, dc_TextReader_takeNumber_2, dc_TextReader_takeNumber_3, dc_TextReader_takeNumber_4, dc_TextReader_takeNumber_5, dc_TextReader_takeNumber_6, fl_TextReader, sl_TextReader, sg_TextReader_isDigitNext, sg_TextReader_blame, t0, y2, y3, y4, y7, y8, y9, y10, y11, w1, w2, w3, w25, w47, w69, w70, mz_w_g, Nat.left_eq_add, Nat.add_left_cancel_iff, Nat.add_eq_left, false_and, if_false, if_true, h5, mzr_iconst, mzr_bipush, mzr_sipush, mzr_lconst, mzr_iload, mzr_iload_n, mzr_aload, mzr_aload_n, mzr_lload, mzr_lload_n, mzr_istore, mzr_istore_n, mzr_astore, mzr_astore_n, mzr_lstore, mzr_lstore_n, mzr_iinc, mzr_iadd, mzr_isub, mzr_imul, mzr_iand, mzr_ior, mzr_ixor, mzr_ishl, mzr_ishr, mzr_iushr, mzr_idiv, mzr_irem, mzr_ineg, mzr_ladd, mzr_lsub, mzr_lmul, mzr_lrem, mzr_lcmp, mzr_i2l, mzr_l2i, mzr_i2b, mzr_dup, mzr_pop, mzr_dup2, mzr_ifCond_eq, mzr_if_icmp_eq, mzr_ifCond_ne, mzr_if_icmp_ne, mzr_ifCond_lt, mzr_if_icmp_lt, mzr_ifCond_ge, mzr_if_icmp_ge, mzr_ifCond_gt, mzr_if_icmp_gt, mzr_ifCond_le, mzr_if_icmp_le, mzr_goto, mzr_iaload, mzr_baload, mzr_laload, mzr_aaload, mzr_iastore, mzr_bastore, mzr_lastore, mzr_arraylength, mzr_getfield, mzr_putfield, mzr_getstatic, mzr_ldc, mzr_ldc_w, mzr_ldc2_w, mzr_ireturn, mzr_return_, mzr_copy, mzr_static, mzr_virtual, mzr_new, mz_tk, mz_dp, mz_ln, mz_sz, mz_af_v, mz_af_s, mz_wp_s, mz_w1, mz_g, mz_st, mz_k, mz_s2, mz_nx, mz_en, mx_to, mz_c1, ↓reduceIte, Nat.reduceAdd, Nat.reduceSub, Nat.reduceMul, Nat.reduceMod, Nat.reduceDiv, Nat.reduceEqDiff, Nat.reduceLeDiff, Nat.reduceLT, Int.reduceAdd, Int.reduceSub, Int.reduceNeg, Int.reduceMul, Int.reduceLE, Int.reduceLT, Int.reduceEq, Int.reduceToNat, Int.reduceNegSucc, Int.cast_ofNat_Int, Int32.reduceToInt, Int64.reduceToInt, Int.zero_add, Int.add_zero, Fin.isValue, Fin.val_zero, Fin.val_one, Fin.val_two, reduceCtorEq, or_false, false_or, or_true, true_or, or_self, and_true, true_and, and_self, not_true_eq_false, not_false_eq_true, implies_true, forall_const, List.mem_cons, List.not_mem_nil, false_implies, true_implies, imp_false, Nat.zero_add, Option.some.injEq, Prod.mk.injEq]
      repeat' first | omega | refine mz_it (fun hh => ?_) (fun hh => ?_) | refine And.intro ?_ ?_
      all_goals exact fin
    | succ k ih =>
      intro b h1 h2 h3 h4
      rw [ps_dt] at h3
      have z5 : (mz_w H t 6 (b : Int)).2.1 t 5 = len := by rw [mz_w_g, if_neg (by omega), h5]
      have z6 : (mz_w H t 6 (b : Int)).2.1 t 6 = b := by rw [mz_w_g, if_pos ⟨rfl, rfl⟩]
      have z2 : (mz_w H t 6 (b : Int)).2.1 (t + 2) = tx := by
        funext j
        rw [mz_w_g, if_neg (by omega), htx]
      apply mz_go hG 60 [7, 70]
      simp only [mf_TextReader_takeNumber, ca_TextReader_takeNumber, dc_TextReader_takeNumber_0, dc_TextReader_takeNumber_1, dc_TextReader_takeNumber_2, dc_TextReader_takeNumber_3, dc_TextReader_takeNumber_4, dc_TextReader_takeNumber_5, dc_TextReader_takeNumber_6, fl_TextReader, sl_TextReader, sg_TextReader_isDigitNext, sg_TextReader_blame, t0, y2, y3, y4, y7, y8, y9, y10, y11, w1, w2, w3, w25, w47, w69, w70, mz_w_g, Nat.left_eq_add, Nat.add_left_cancel_iff, Nat.add_eq_left, false_and, if_false, if_true, h5, mzr_iconst, mzr_bipush, mzr_sipush, mzr_lconst, mzr_iload, mzr_iload_n, mzr_aload, mzr_aload_n, mzr_lload, mzr_lload_n, mzr_istore, mzr_istore_n, mzr_astore, mzr_astore_n, mzr_lstore, mzr_lstore_n, mzr_iinc, mzr_iadd, mzr_isub, mzr_imul, mzr_iand, mzr_ior, mzr_ixor, mzr_ishl, mzr_ishr, mzr_iushr, mzr_idiv, mzr_irem, mzr_ineg, mzr_ladd, mzr_lsub, mzr_lmul, mzr_lrem, mzr_lcmp, mzr_i2l, mzr_l2i, mzr_i2b, mzr_dup, mzr_pop, mzr_dup2, mzr_ifCond_eq, mzr_if_icmp_eq, mzr_ifCond_ne, mzr_if_icmp_ne, mzr_ifCond_lt, mzr_if_icmp_lt, mzr_ifCond_ge, mzr_if_icmp_ge, mzr_ifCond_gt, mzr_if_icmp_gt, mzr_ifCond_le, mzr_if_icmp_le, mzr_goto, mzr_iaload, mzr_baload, mzr_laload, mzr_aaload, mzr_iastore, mzr_bastore, mzr_lastore, mzr_arraylength, mzr_getfield, mzr_putfield, mzr_getstatic, mzr_ldc, mzr_ldc_w, mzr_ldc2_w, mzr_ireturn, mzr_return_, mzr_copy, mzr_static, mzr_virtual, mzr_new, mz_tk, mz_dp, mz_ln, mz_sz, mz_af_v, mz_af_s, mz_wp_s, mz_w1, mz_g, mz_st, mz_k, mz_s2, mz_nx, mz_en, mx_to, mz_c1, ↓reduceIte, Nat.reduceAdd, Nat.reduceSub, Nat.reduceMul, Nat.reduceMod, Nat.reduceDiv, Nat.reduceEqDiff, Nat.reduceLeDiff, Nat.reduceLT, Int.reduceAdd, Int.reduceSub, Int.reduceNeg, Int.reduceMul, Int.reduceLE, Int.reduceLT, Int.reduceEq, Int.reduceToNat, Int.reduceNegSucc, Int.cast_ofNat_Int, Int32.reduceToInt, Int64.reduceToInt, Int.zero_add, Int.add_zero, Fin.isValue, Fin.val_zero, Fin.val_one, Fin.val_two, reduceCtorEq, or_false, false_or, or_true, true_or, or_self, and_true, true_and, and_self, not_true_eq_false, not_false_eq_true, implies_true, forall_const, List.mem_cons, List.not_mem_nil, false_implies, true_implies, imp_false, Nat.zero_add, Option.some.injEq, Prod.mk.injEq]
      repeat' first | omega | refine mz_it (fun hh => ?_) (fun hh => ?_) | refine And.intro ?_ ?_
      refine ct_isDigit d hG hT' z5 z6 hl ?_
      rw [z2]
      by_cases hdg : 48 ≤ tx b ∧ tx b ≤ 57
      · rw [if_pos ⟨by omega, hdg⟩]
        rw [if_pos hdg] at h3
        have hbq := (ps_dt_b tx k (b + 1)).1
        rw [h3] at hbq
        have h9 := hvb (min (b - a) m) (by omega)
        have h11 := ih (b + 1) (by omega) (by omega) h3 (by omega)
        have zt : (mz_w H t 6 (b : Int)).2.1 (t + 2) b = tx b := by rw [z2]
        by_cases hbm : b - a < m
        · have h10 := ps_p9 (b - a + 1) (by omega)
          rw [Int.pow_succ] at h10
          rw [show min (b - a) m = b - a by omega] at h9 ⊢
          rw [show min (b + 1 - a) m = b - a + 1 by omega, ps_v, show a + (b - a) = b by omega] at h11
          simp only [mf_TextReader_takeNumber, ca_TextReader_takeNumber, dc_TextReader_takeNumber_0, dc_TextReader_takeNumber_1, dc_TextReader_takeNumber_2, dc_TextReader_takeNumber_3, dc_TextReader_takeNumber_4, dc_TextReader_takeNumber_5, dc_TextReader_takeNumber_6, fl_TextReader, sl_TextReader, sg_TextReader_isDigitNext, sg_TextReader_blame, t0, y2, y3, y4, y7, y8, y9, y10, y11, w1, w2, w3, w25, w47, w69, w70, z5, z6, zt, Int.toNat_natCast, mzr_iconst, mzr_bipush, mzr_sipush, mzr_lconst, mzr_iload, mzr_iload_n, mzr_aload, mzr_aload_n, mzr_lload, mzr_lload_n, mzr_istore, mzr_istore_n, mzr_astore, mzr_astore_n, mzr_lstore, mzr_lstore_n, mzr_iinc, mzr_iadd, mzr_isub, mzr_imul, mzr_iand, mzr_ior, mzr_ixor, mzr_ishl, mzr_ishr, mzr_iushr, mzr_idiv, mzr_irem, mzr_ineg, mzr_ladd, mzr_lsub, mzr_lmul, mzr_lrem, mzr_lcmp, mzr_i2l, mzr_l2i, mzr_i2b, mzr_dup, mzr_pop, mzr_dup2, mzr_ifCond_eq, mzr_if_icmp_eq, mzr_ifCond_ne, mzr_if_icmp_ne, mzr_ifCond_lt, mzr_if_icmp_lt, mzr_ifCond_ge, mzr_if_icmp_ge, mzr_ifCond_gt, mzr_if_icmp_gt, mzr_ifCond_le, mzr_if_icmp_le, mzr_goto, mzr_iaload, mzr_baload, mzr_laload, mzr_aaload, mzr_iastore, mzr_bastore, mzr_lastore, mzr_arraylength, mzr_getfield, mzr_putfield, mzr_getstatic, mzr_ldc, mzr_ldc_w, mzr_ldc2_w, mzr_ireturn, mzr_return_, mzr_copy, mzr_static, mzr_virtual, mzr_new, mz_tk, mz_dp, mz_ln, mz_sz, mz_af_v, mz_af_s, mz_wp_s, mz_w1, mz_g, mz_st, mz_k, mz_s2, mz_nx, mz_en, mx_to, mz_c1, ↓reduceIte, Nat.reduceAdd, Nat.reduceSub, Nat.reduceMul, Nat.reduceMod, Nat.reduceDiv, Nat.reduceEqDiff, Nat.reduceLeDiff, Nat.reduceLT, Int.reduceAdd, Int.reduceSub, Int.reduceNeg, Int.reduceMul, Int.reduceLE, Int.reduceLT, Int.reduceEq, Int.reduceToNat, Int.reduceNegSucc, Int.cast_ofNat_Int, Int32.reduceToInt, Int64.reduceToInt, Int.zero_add, Int.add_zero, Fin.isValue, Fin.val_zero, Fin.val_one, Fin.val_two, reduceCtorEq, or_false, false_or, or_true, true_or, or_self, and_true, true_and, and_self, not_true_eq_false, not_false_eq_true, implies_true, forall_const, List.mem_cons, List.not_mem_nil, false_implies, true_implies, imp_false, Nat.zero_add, Option.some.injEq, Prod.mk.injEq]
          repeat' first | omega | refine mz_it (fun hh => ?_) (fun hh => ?_) | refine And.intro ?_ ?_
          rw [mz_w_w, show (b : Int) + 1 = ((b + 1 : Nat) : Int) by omega]
          exact h11
        · rw [show min (b + 1 - a) m = min (b - a) m by omega] at h11
          simp only [mf_TextReader_takeNumber, ca_TextReader_takeNumber, dc_TextReader_takeNumber_0, dc_TextReader_takeNumber_1, dc_TextReader_takeNumber_2, dc_TextReader_takeNumber_3, dc_TextReader_takeNumber_4, dc_TextReader_takeNumber_5, dc_TextReader_takeNumber_6, fl_TextReader, sl_TextReader, sg_TextReader_isDigitNext, sg_TextReader_blame, t0, y2, y3, y4, y7, y8, y9, y10, y11, w1, w2, w3, w25, w47, w69, w70, z5, z6, zt, Int.toNat_natCast, mzr_iconst, mzr_bipush, mzr_sipush, mzr_lconst, mzr_iload, mzr_iload_n, mzr_aload, mzr_aload_n, mzr_lload, mzr_lload_n, mzr_istore, mzr_istore_n, mzr_astore, mzr_astore_n, mzr_lstore, mzr_lstore_n, mzr_iinc, mzr_iadd, mzr_isub, mzr_imul, mzr_iand, mzr_ior, mzr_ixor, mzr_ishl, mzr_ishr, mzr_iushr, mzr_idiv, mzr_irem, mzr_ineg, mzr_ladd, mzr_lsub, mzr_lmul, mzr_lrem, mzr_lcmp, mzr_i2l, mzr_l2i, mzr_i2b, mzr_dup, mzr_pop, mzr_dup2, mzr_ifCond_eq, mzr_if_icmp_eq, mzr_ifCond_ne, mzr_if_icmp_ne, mzr_ifCond_lt, mzr_if_icmp_lt, mzr_ifCond_ge, mzr_if_icmp_ge, mzr_ifCond_gt, mzr_if_icmp_gt, mzr_ifCond_le, mzr_if_icmp_le, mzr_goto, mzr_iaload, mzr_baload, mzr_laload, mzr_aaload, mzr_iastore, mzr_bastore, mzr_lastore, mzr_arraylength, mzr_getfield, mzr_putfield, mzr_getstatic, mzr_ldc, mzr_ldc_w, mzr_ldc2_w, mzr_ireturn, mzr_return_, mzr_copy, mzr_static, mzr_virtual, mzr_new, mz_tk, mz_dp, mz_ln, mz_sz, mz_af_v, mz_af_s, mz_wp_s, mz_w1, mz_g, mz_st, mz_k, mz_s2, mz_nx, mz_en, mx_to, mz_c1, ↓reduceIte, Nat.reduceAdd, Nat.reduceSub, Nat.reduceMul, Nat.reduceMod, Nat.reduceDiv, Nat.reduceEqDiff, Nat.reduceLeDiff, Nat.reduceLT, Int.reduceAdd, Int.reduceSub, Int.reduceNeg, Int.reduceMul, Int.reduceLE, Int.reduceLT, Int.reduceEq, Int.reduceToNat, Int.reduceNegSucc, Int.cast_ofNat_Int, Int32.reduceToInt, Int64.reduceToInt, Int.zero_add, Int.add_zero, Fin.isValue, Fin.val_zero, Fin.val_one, Fin.val_two, reduceCtorEq, or_false, false_or, or_true, true_or, or_self, and_true, true_and, and_self, not_true_eq_false, not_false_eq_true, implies_true, forall_const, List.mem_cons, List.not_mem_nil, false_implies, true_implies, imp_false, Nat.zero_add, Option.some.injEq, Prod.mk.injEq]
          repeat' first | omega | refine mz_it (fun hh => ?_) (fun hh => ?_) | refine And.intro ?_ ?_
          rw [mz_w_w, show (b : Int) + 1 = ((b + 1 : Nat) : Int) by omega]
          exact h11
      · rw [if_neg (fun q => hdg q.2)]
        rw [if_neg hdg] at h3
        subst h3
        simp only [mf_TextReader_takeNumber, ca_TextReader_takeNumber, dc_TextReader_takeNumber_0, dc_TextReader_takeNumber_1, dc_TextReader_takeNumber_2, dc_TextReader_takeNumber_3, dc_TextReader_takeNumber_4, dc_TextReader_takeNumber_5, dc_TextReader_takeNumber_6, fl_TextReader, sl_TextReader, sg_TextReader_isDigitNext, sg_TextReader_blame, t0, y2, y3, y4, y7, y8, y9, y10, y11, w1, w2, w3, w25, w47, w69, w70, mzr_iconst, mzr_bipush, mzr_sipush, mzr_lconst, mzr_iload, mzr_iload_n, mzr_aload, mzr_aload_n, mzr_lload, mzr_lload_n, mzr_istore, mzr_istore_n, mzr_astore, mzr_astore_n, mzr_lstore, mzr_lstore_n, mzr_iinc, mzr_iadd, mzr_isub, mzr_imul, mzr_iand, mzr_ior, mzr_ixor, mzr_ishl, mzr_ishr, mzr_iushr, mzr_idiv, mzr_irem, mzr_ineg, mzr_ladd, mzr_lsub, mzr_lmul, mzr_lrem, mzr_lcmp, mzr_i2l, mzr_l2i, mzr_i2b, mzr_dup, mzr_pop, mzr_dup2, mzr_ifCond_eq, mzr_if_icmp_eq, mzr_ifCond_ne, mzr_if_icmp_ne, mzr_ifCond_lt, mzr_if_icmp_lt, mzr_ifCond_ge, mzr_if_icmp_ge, mzr_ifCond_gt, mzr_if_icmp_gt, mzr_ifCond_le, mzr_if_icmp_le, mzr_goto, mzr_iaload, mzr_baload, mzr_laload, mzr_aaload, mzr_iastore, mzr_bastore, mzr_lastore, mzr_arraylength, mzr_getfield, mzr_putfield, mzr_getstatic, mzr_ldc, mzr_ldc_w, mzr_ldc2_w, mzr_ireturn, mzr_return_, mzr_copy, mzr_static, mzr_virtual, mzr_new, mz_tk, mz_dp, mz_ln, mz_sz, mz_af_v, mz_af_s, mz_wp_s, mz_w1, mz_g, mz_st, mz_k, mz_s2, mz_nx, mz_en, mx_to, mz_c1, ↓reduceIte, Nat.reduceAdd, Nat.reduceSub, Nat.reduceMul, Nat.reduceMod, Nat.reduceDiv, Nat.reduceEqDiff, Nat.reduceLeDiff, Nat.reduceLT, Int.reduceAdd, Int.reduceSub, Int.reduceNeg, Int.reduceMul, Int.reduceLE, Int.reduceLT, Int.reduceEq, Int.reduceToNat, Int.reduceNegSucc, Int.cast_ofNat_Int, Int32.reduceToInt, Int64.reduceToInt, Int.zero_add, Int.add_zero, Fin.isValue, Fin.val_zero, Fin.val_one, Fin.val_two, reduceCtorEq, or_false, false_or, or_true, true_or, or_self, and_true, true_and, and_self, not_true_eq_false, not_false_eq_true, implies_true, forall_const, List.mem_cons, List.not_mem_nil, false_implies, true_implies, imp_false, Nat.zero_add, Option.some.injEq, Prod.mk.injEq]
        repeat' first | omega | refine mz_it (fun hh => ?_) (fun hh => ?_) | refine And.intro ?_ ?_
        all_goals exact fin
  refine mz_CA_of mr_TextReader_takeNumber ?_
  simp only [mf_TextReader_takeNumber, mz_en, List.replicate, Nat.reduceSub, Nat.reduceAdd, Nat.reduceMul]
  apply mz_go hG 60 [7]
  simp only [mf_TextReader_takeNumber, ca_TextReader_takeNumber, dc_TextReader_takeNumber_0, dc_TextReader_takeNumber_1, dc_TextReader_takeNumber_2, dc_TextReader_takeNumber_3, dc_TextReader_takeNumber_4, dc_TextReader_takeNumber_5, dc_TextReader_takeNumber_6, fl_TextReader, sl_TextReader, sg_TextReader_isDigitNext, sg_TextReader_blame, t0, y2, y3, y4, y7, y8, y9, y10, y11, w1, w2, w3, w25, w47, w69, w70, h6, mzr_iconst, mzr_bipush, mzr_sipush, mzr_lconst, mzr_iload, mzr_iload_n, mzr_aload, mzr_aload_n, mzr_lload, mzr_lload_n, mzr_istore, mzr_istore_n, mzr_astore, mzr_astore_n, mzr_lstore, mzr_lstore_n, mzr_iinc, mzr_iadd, mzr_isub, mzr_imul, mzr_iand, mzr_ior, mzr_ixor, mzr_ishl, mzr_ishr, mzr_iushr, mzr_idiv, mzr_irem, mzr_ineg, mzr_ladd, mzr_lsub, mzr_lmul, mzr_lrem, mzr_lcmp, mzr_i2l, mzr_l2i, mzr_i2b, mzr_dup, mzr_pop, mzr_dup2, mzr_ifCond_eq, mzr_if_icmp_eq, mzr_ifCond_ne, mzr_if_icmp_ne, mzr_ifCond_lt, mzr_if_icmp_lt, mzr_ifCond_ge, mzr_if_icmp_ge, mzr_ifCond_gt, mzr_if_icmp_gt, mzr_ifCond_le, mzr_if_icmp_le, mzr_goto, mzr_iaload, mzr_baload, mzr_laload, mzr_aaload, mzr_iastore, mzr_bastore, mzr_lastore, mzr_arraylength, mzr_getfield, mzr_putfield, mzr_getstatic, mzr_ldc, mzr_ldc_w, mzr_ldc2_w, mzr_ireturn, mzr_return_, mzr_copy, mzr_static, mzr_virtual, mzr_new, mz_tk, mz_dp, mz_ln, mz_sz, mz_af_v, mz_af_s, mz_wp_s, mz_w1, mz_g, mz_st, mz_k, mz_s2, mz_nx, mz_en, mx_to, mz_c1, ↓reduceIte, Nat.reduceAdd, Nat.reduceSub, Nat.reduceMul, Nat.reduceMod, Nat.reduceDiv, Nat.reduceEqDiff, Nat.reduceLeDiff, Nat.reduceLT, Int.reduceAdd, Int.reduceSub, Int.reduceNeg, Int.reduceMul, Int.reduceLE, Int.reduceLT, Int.reduceEq, Int.reduceToNat, Int.reduceNegSucc, Int.cast_ofNat_Int, Int32.reduceToInt, Int64.reduceToInt, Int.zero_add, Int.add_zero, Fin.isValue, Fin.val_zero, Fin.val_one, Fin.val_two, reduceCtorEq, or_false, false_or, or_true, true_or, or_self, and_true, true_and, and_self, not_true_eq_false, not_false_eq_true, implies_true, forall_const, List.mem_cons, List.not_mem_nil, false_implies, true_implies, imp_false, Nat.zero_add, Option.some.injEq, Prod.mk.injEq]
  repeat' first | omega | refine mz_it (fun hh => ?_) (fun hh => ?_) | refine And.intro ?_ ?_
  have h7 := lp (len - a) a (by omega) (Nat.le_refl _) hq (by omega)
  rw [mz_w_id H t 6 h6, show min (a - a) m = 0 by omega] at h7
  exact h7
