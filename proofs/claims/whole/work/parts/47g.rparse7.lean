theorem ps_cb_n (p : Int) (n o : Nat) (r : ps_R) : ps_cb p n o none r = r := by cases r <;> rfl
theorem ps_sgm (p F G : Int) (mi : Bool) : (F + (if mi = true then -1 else 1) * G) % p = (F + (if mi = true then p - 1 else 1) * G) % p := by
  cases mi with
  | false => rfl
  | true =>
    rw [if_pos rfl, if_pos rfl, show F + (p - 1) * G = F + -1 * G + p * G by grind, Int.add_mul_emod_self_left]
theorem ps_sl_s {p : Int} {n o len : Nat} {tx : Nat → Int} {br : Option (Nat → ps_R)} {a b k : Nat} {mi : Bool} {f : Nat → Int} (h : ps_sk tx (len - a) a = ps_sk tx (len - b) b) : ps_sl p n o tx len br (k + 1) a mi f = ps_sl p n o tx len br (k + 1) b mi f := by
  rw [ps_sl, ps_sl]
  unfold ps_te
  rw [ps_fa_s h]
section RPARSE7
variable {e : mz_E} {P : mz_O → mz_H → Prop} {y : Nat} {p : Int} {n o len : Nat} {tx : Nat → Int} {kk : Int}
set_option maxRecDepth 100000 in
theorem lp_tail (d : Nat) (hG : mx_G e.1) (hE : rm_E e y) {br : Option (Nat → ps_R)} {D : Nat} (hD : D ≤ 20) (hLF : rt_LF e d kk y P p n o len tx br D) :
    ∀ (fu : Nat) (h : mz_H) (b : Nat) (f F : Nat → Int) (sg : Int), rt_S h y D p n o len tx b F sg → (∀ j, j < 126 → h.2.1 (y + 17) (126 * D + j) = f j) → pl p n f → h.2.1 y 27 = 0 → h.2.1 y 28 = 0 → len - ps_sk tx (len - b) b < fu →
    (∀ h' c w, ps_tl p n o tx len br fu (ps_sk tx (len - b) b) f = .inl (c, w) → 0 < c → rp_f h h' y → h'.2.1 y 25 = c → h'.2.1 y 26 = w → rt_W e d kk y P h') →
    (∀ h' (b' : Nat) g, ps_tl p n o tx len br fu (ps_sk tx (len - b) b) f = .inr (ps_sk tx (len - b') b', g) → b ≤ b' → rt_S h' y D p n o len tx b' F sg → (∀ j, j < 126 → h'.2.1 (y + 17) (126 * D + j) = g j) → pl p n g → h'.2.1 y 27 = 0 → h'.2.1 y 28 = 0 → ¬ (ps_sk tx (len - b') b' < len ∧ tx (ps_sk tx (len - b') b') = 42) → rt_L h h' y D → rt_W e d kk y P h') → rt_W e d kk y P h := by
  have hE' := hE
  obtain ⟨⟨ra0, ra4, ra5, ra6, ra7, ra8, ra9, ra10, ra11, ra12, ra13, ra14, ra15, ra16, ra17, ra21, ra29, ra30, ra31, ra32, ra33, ra34, ra35, ra36, ra37, ra41, ra42, ra46, ra47, ra48, ra49, ra50, ra51, ra52, ra53, ra54, ra56, ra57, ra58, ra59, ra60, ra65, ra66⟩, ⟨rb1, rb2, rb3, rb4, rb5, rb6, rb7, rb8, rb9, rb10, rb11, rb12, rb13, rb14, rb15, rb16, rb17, rb18, rb19, rb20, rb21, rb22, rb23, rb24, rb25, rb26, rb27, rb28, rb29, rb30, rb31, rb32, rb33, rb34, rb35, rb36, rb37, rb38, rb39, rb40, rb41, rb42⟩⟩ := hE
  intro fu
  induction fu with
  | zero => intro h b f F sg _ _ _ _ _ hfu; omega
  | succ fu ih =>
    intro h b f F sg hS h17 hf h27 h28 hfu hP0 hP1
    by_cases hst : ps_sk tx (len - b) b < len ∧ tx (ps_sk tx (len - b) b) = 42
    · intro o3
      have hS1 := hS.sk
      obtain ⟨a1, a2, a3, a4, a5, a6, a7, a8, a9⟩ := id hS
      have hl := a1.2.2.2.1
      have hb := ps_sk_b tx (len - b) b
      have htl : ps_tl p n o tx len br (fu + 1) (ps_sk tx (len - b) b) f = match ps_fa p n o tx len br (ps_sk tx (len - b) b + 1) with
          | .inl e => .inl e
          | .inr q => if sp_deg n o f = -1 ∨ sp_deg n o q.2 = -1 ∨ sp_deg n o f + sp_deg n o q.2 ≤ tb_h n then ps_tl p n o tx len br fu q.1 (al_mp p (tb_N n) (tb_T n o) f q.2) else .inl (3, ((ps_sk tx (len - b) b : Nat) : Int)) := by
        rw [ps_tl, if_pos hst]
        rfl
      apply mz_go hG 60 [66]
      simp only [mf_M_read, ca_M_read, dc_M_read_0, dc_M_read_1, dc_M_read_2, dc_M_read_3, dc_M_read_4, dc_M_read_5, dc_M_read_6, dc_M_read_7, dc_M_read_8, dc_M_read_9, dc_M_read_10, dc_M_read_11, fl_M, sl_M, sg_M_isNumber, sg_M_openSum, sg_M_here, sg_M_readFactor, sg_M_readSign, sg_M_endTerm, sg_M_copy, sg_M_termsOf, cpn_model_0, cpn_model_1, mx_cp_r, ra0, ra8, ra29, rb5, rb16, a5, mzr_iconst, mzr_bipush, mzr_sipush, mzr_lconst, mzr_iload, mzr_iload_n, mzr_aload, mzr_aload_n, mzr_lload, mzr_lload_n, mzr_istore, mzr_istore_n, mzr_astore, mzr_astore_n, mzr_lstore, mzr_lstore_n, mzr_iinc, mzr_iadd, mzr_isub, mzr_imul, mzr_iand, mzr_ior, mzr_ixor, mzr_ishl, mzr_ishr, mzr_iushr, mzr_idiv, mzr_irem, mzr_ineg, mzr_ladd, mzr_lsub, mzr_lmul, mzr_lrem, mzr_lcmp, mzr_i2l, mzr_l2i, mzr_i2b, mzr_dup, mzr_pop, mzr_dup2, mzr_ifCond_eq, mzr_if_icmp_eq, mzr_ifCond_ne, mzr_if_icmp_ne, mzr_ifCond_lt, mzr_if_icmp_lt, mzr_ifCond_ge, mzr_if_icmp_ge, mzr_ifCond_gt, mzr_if_icmp_gt, mzr_ifCond_le, mzr_if_icmp_le, mzr_goto, mzr_iaload, mzr_baload, mzr_laload, mzr_aaload, mzr_iastore, mzr_bastore, mzr_lastore, mzr_arraylength, mzr_getfield, mzr_putfield, mzr_getstatic, mzr_ldc, mzr_ldc_w, mzr_ldc2_w, mzr_ireturn, mzr_return_, mzr_copy, mzr_static, mzr_virtual, mzr_new, mz_tk, mz_dp, mz_ln, mz_sz, mz_af_v, mz_af_s, mz_wp_s, mz_w1, mz_g, mz_st, mz_k, mz_s2, mz_nx, mz_en, mx_to, mz_c1, ↓reduceIte, Nat.reduceAdd, Nat.reduceSub, Nat.reduceMul, Nat.reduceMod, Nat.reduceDiv, Nat.reduceEqDiff, Nat.reduceLeDiff, Nat.reduceLT, Int.reduceAdd, Int.reduceSub, Int.reduceNeg, Int.reduceMul, Int.reduceLE, Int.reduceLT, Int.reduceEq, Int.reduceToNat, Int.reduceNegSucc, Int.cast_ofNat_Int, Int32.reduceToInt, Int64.reduceToInt, Int.zero_add, Int.add_zero, Fin.isValue, Fin.val_zero, Fin.val_one, Fin.val_two, reduceCtorEq, or_false, false_or, or_true, true_or, or_self, and_true, true_and, and_self, not_true_eq_false, not_false_eq_true, implies_true, forall_const, List.mem_cons, List.not_mem_nil, false_implies, true_implies, imp_false, Nat.zero_add, Option.some.injEq, Prod.mk.injEq]
      repeat' first | omega | refine mz_it (fun hh => ?_) (fun hh => ?_) | refine And.intro ?_ ?_
      refine cm_here (d + 5) hG hE' a1 a2 a3 ?_
      have f0 : rt_L h (mz_w h y 22 (ps_sk tx (len - b) b : Int)) y D := rt_L.w
      generalize ps_sk tx (len - b) b = q at *
      have g0 : ∀ k, k ≠ 22 → (mz_w h y 22 (q : Int)).2.1 y k = h.2.1 y k := fun k hk => by rw [mz_w_g, if_neg (by omega)]
      have y0 : ∀ c, c ≠ y → (mz_w h y 22 (q : Int)).2.1 c = h.2.1 c := fun c hc => (mz_fr.w h y 22 (q : Int) (A := [y]) (by simp)).2.2 c (by simp; exact hc)
      generalize mz_w h y 22 (q : Int) = h1 at *
      obtain ⟨b1, b2, b3, b4, b5, b6, b7, b8, b9⟩ := id hS1
      have z27 : h1.2.1 y 27 = 0 := by rw [g0 27 (by omega)]; exact h27
      rw [if_pos hst.1, hst.2]
      simp only [mf_M_read, ca_M_read, dc_M_read_0, dc_M_read_1, dc_M_read_2, dc_M_read_3, dc_M_read_4, dc_M_read_5, dc_M_read_6, dc_M_read_7, dc_M_read_8, dc_M_read_9, dc_M_read_10, dc_M_read_11, fl_M, sl_M, sg_M_isNumber, sg_M_openSum, sg_M_here, sg_M_readFactor, sg_M_readSign, sg_M_endTerm, sg_M_copy, sg_M_termsOf, cpn_model_0, cpn_model_1, mx_cp_r, ra0, ra8, ra29, rb5, rb16, z27, mzr_iconst, mzr_bipush, mzr_sipush, mzr_lconst, mzr_iload, mzr_iload_n, mzr_aload, mzr_aload_n, mzr_lload, mzr_lload_n, mzr_istore, mzr_istore_n, mzr_astore, mzr_astore_n, mzr_lstore, mzr_lstore_n, mzr_iinc, mzr_iadd, mzr_isub, mzr_imul, mzr_iand, mzr_ior, mzr_ixor, mzr_ishl, mzr_ishr, mzr_iushr, mzr_idiv, mzr_irem, mzr_ineg, mzr_ladd, mzr_lsub, mzr_lmul, mzr_lrem, mzr_lcmp, mzr_i2l, mzr_l2i, mzr_i2b, mzr_dup, mzr_pop, mzr_dup2, mzr_ifCond_eq, mzr_if_icmp_eq, mzr_ifCond_ne, mzr_if_icmp_ne, mzr_ifCond_lt, mzr_if_icmp_lt, mzr_ifCond_ge, mzr_if_icmp_ge, mzr_ifCond_gt, mzr_if_icmp_gt, mzr_ifCond_le, mzr_if_icmp_le, mzr_goto, mzr_iaload, mzr_baload, mzr_laload, mzr_aaload, mzr_iastore, mzr_bastore, mzr_lastore, mzr_arraylength, mzr_getfield, mzr_putfield, mzr_getstatic, mzr_ldc, mzr_ldc_w, mzr_ldc2_w, mzr_ireturn, mzr_return_, mzr_copy, mzr_static, mzr_virtual, mzr_new, mz_tk, mz_dp, mz_ln, mz_sz, mz_af_v, mz_af_s, mz_wp_s, mz_w1, mz_g, mz_st, mz_k, mz_s2, mz_nx, mz_en, mx_to, mz_c1, ↓reduceIte, Nat.reduceAdd, Nat.reduceSub, Nat.reduceMul, Nat.reduceMod, Nat.reduceDiv, Nat.reduceEqDiff, Nat.reduceLeDiff, Nat.reduceLT, Int.reduceAdd, Int.reduceSub, Int.reduceNeg, Int.reduceMul, Int.reduceLE, Int.reduceLT, Int.reduceEq, Int.reduceToNat, Int.reduceNegSucc, Int.cast_ofNat_Int, Int32.reduceToInt, Int64.reduceToInt, Int.zero_add, Int.add_zero, Fin.isValue, Fin.val_zero, Fin.val_one, Fin.val_two, reduceCtorEq, or_false, false_or, or_true, true_or, or_self, and_true, true_and, and_self, not_true_eq_false, not_false_eq_true, implies_true, forall_const, List.mem_cons, List.not_mem_nil, false_implies, true_implies, imp_false, Nat.zero_add, Option.some.injEq, Prod.mk.injEq]
      repeat' first | omega | refine mz_it (fun hh => ?_) (fun hh => ?_) | refine And.intro ?_ ?_
      refine cm_readStar (D := D) (d + 5) hG hE' hD (by omega) b2 b4 (fun h2 f2 u1 u2 u3 u4 => ?_)
      have y2 : ∀ c, c ≠ y → c ≠ y + 19 → h2.2.1 c = h1.2.1 c := fun c c1 c2 => f2.2.2 c (by simp; omega)
      have L2 : rt_L h1 h2 y D := ⟨⟨f2.mono (by intro c hc; simp at hc ⊢; omega), fun k hk => u1 k (by omega) (by omega)⟩, fun i _ => by rw [y2 _ (by omega) (by omega)], fun i _ => by rw [y2 _ (by omega) (by omega)], fun i _ => by rw [y2 _ (by omega) (by omega)], fun i hi => by rw [u4, if_neg (by omega)], u1 26 (by omega) (by omega)⟩
      have hS2 : rt_S h2 y D p n o len tx (q + 1) F sg := ⟨b1.fr L2.1, u2, by omega, by rw [u1 24 (by omega) (by omega)]; exact b4, by rw [u1 25 (by omega) (by omega)]; exact b5, fun j hj => by rw [y2 _ (by omega) (by omega)]; exact b6 j hj, b7, by rw [y2 _ (by omega) (by omega)]; exact b8, b9⟩
      have hx := hLF h2 (q + 1) F sg (some (q, f)) hS2 u3 (Or.inr (by rw [u1 28 (by omega) (by omega), g0 28 (by omega)]; exact h28)) ⟨by rw [u4, if_pos rfl], fun j hj => by rw [y2 _ (by omega) (by omega), y0 _ (by omega)]; exact h17 j hj, hf⟩ (fun h3 c w q1 q2 q3 q4 q5 => hP0 h3 c w (by
        rw [htl]
        cases hfa : ps_fa p n o tx len br (q + 1) with
        | inl r => rw [hfa] at q1; exact q1
        | inr r =>
          rw [hfa] at q1
          replace q1 : (if sp_deg n o f = -1 ∨ sp_deg n o r.2 = -1 ∨ sp_deg n o f + sp_deg n o r.2 ≤ tb_h n then (.inr (r.1, al_mp p (tb_N n) (tb_T n o) f r.2) : ps_R) else .inl (3, (q : Int))) = .inl (c, w) := q1
          show (if sp_deg n o f = -1 ∨ sp_deg n o r.2 = -1 ∨ sp_deg n o f + sp_deg n o r.2 ≤ tb_h n then ps_tl p n o tx len br fu r.1 (al_mp p (tb_N n) (tb_T n o) f r.2) else .inl (3, (q : Int))) = .inl (c, w)
          by_cases hfit : sp_deg n o f = -1 ∨ sp_deg n o r.2 = -1 ∨ sp_deg n o f + sp_deg n o r.2 ≤ tb_h n
          · rw [if_pos hfit] at q1; exact absurd q1 (by simp)
          · rw [if_neg hfit] at q1 ⊢; exact q1) q2 ((f0.tr L2).1.tr q3) q4 q5) (fun h3 b' g q1 q2 q3 q4 q5 q6 q7 q8 => by
        have htl2 : ps_tl p n o tx len br (fu + 1) q f = ps_tl p n o tx len br fu (ps_sk tx (len - b') b') g := by
          rw [htl]
          cases hfa : ps_fa p n o tx len br (q + 1) with
          | inl r => rw [hfa] at q1; exact absurd q1 (by simp [ps_cb])
          | inr r =>
            rw [hfa] at q1
            replace q1 : (if sp_deg n o f = -1 ∨ sp_deg n o r.2 = -1 ∨ sp_deg n o f + sp_deg n o r.2 ≤ tb_h n then (.inr (r.1, al_mp p (tb_N n) (tb_T n o) f r.2) : ps_R) else .inl (3, (q : Int))) = .inr (ps_sk tx (len - b') b', g) := q1
            show (if sp_deg n o f = -1 ∨ sp_deg n o r.2 = -1 ∨ sp_deg n o f + sp_deg n o r.2 ≤ tb_h n then ps_tl p n o tx len br fu r.1 (al_mp p (tb_N n) (tb_T n o) f r.2) else .inl (3, (q : Int))) = _
            by_cases hfit : sp_deg n o f = -1 ∨ sp_deg n o r.2 = -1 ∨ sp_deg n o f + sp_deg n o r.2 ≤ tb_h n
            · rw [if_pos hfit] at q1 ⊢
              injection q1 with q1
              injection q1 with w1 w2
              rw [w1, w2]
            · rw [if_neg hfit] at q1; exact absurd q1 (by simp)
        have hsb := ps_sk_b tx (len - b') b'
        exact ih h3 b' g F sg q3 q4 q5 q6 q7 (by omega) (fun h4 c w r1 r2 r3 r4 r5 => hP0 h4 c w (by rw [htl2]; exact r1) r2 (((f0.tr L2).tr q8).1.tr r3) r4 r5) (fun h4 b'' g' r1 r2 r3 r4 r5 r6 r7 r8 r9 => hP1 h4 b'' g' (by rw [htl2]; exact r1) (by omega) r3 r4 r5 r6 r7 r8 (((f0.tr L2).tr q8).tr r9))) (some (.inl 42))
      simp only [mf_M_read, ca_M_read, dc_M_read_0, dc_M_read_1, dc_M_read_2, dc_M_read_3, dc_M_read_4, dc_M_read_5, dc_M_read_6, dc_M_read_7, dc_M_read_8, dc_M_read_9, dc_M_read_10, dc_M_read_11, fl_M, sl_M, sg_M_isNumber, sg_M_openSum, sg_M_here, sg_M_readFactor, sg_M_readSign, sg_M_endTerm, sg_M_copy, sg_M_termsOf, cpn_model_0, cpn_model_1, mx_cp_r, ra0, ra8, ra29, rb5, rb16, mzr_iconst, mzr_bipush, mzr_sipush, mzr_lconst, mzr_iload, mzr_iload_n, mzr_aload, mzr_aload_n, mzr_lload, mzr_lload_n, mzr_istore, mzr_istore_n, mzr_astore, mzr_astore_n, mzr_lstore, mzr_lstore_n, mzr_iinc, mzr_iadd, mzr_isub, mzr_imul, mzr_iand, mzr_ior, mzr_ixor, mzr_ishl, mzr_ishr, mzr_iushr, mzr_idiv, mzr_irem, mzr_ineg, mzr_ladd, mzr_lsub, mzr_lmul, mzr_lrem, mzr_lcmp, mzr_i2l, mzr_l2i, mzr_i2b, mzr_dup, mzr_pop, mzr_dup2, mzr_ifCond_eq, mzr_if_icmp_eq, mzr_ifCond_ne, mzr_if_icmp_ne, mzr_ifCond_lt, mzr_if_icmp_lt, mzr_ifCond_ge, mzr_if_icmp_ge, mzr_ifCond_gt, mzr_if_icmp_gt, mzr_ifCond_le, mzr_if_icmp_le, mzr_goto, mzr_iaload, mzr_baload, mzr_laload, mzr_aaload, mzr_iastore, mzr_bastore, mzr_lastore, mzr_arraylength, mzr_getfield, mzr_putfield, mzr_getstatic, mzr_ldc, mzr_ldc_w, mzr_ldc2_w, mzr_ireturn, mzr_return_, mzr_copy, mzr_static, mzr_virtual, mzr_new, mz_tk, mz_dp, mz_ln, mz_sz, mz_af_v, mz_af_s, mz_wp_s, mz_w1, mz_g, mz_st, mz_k, mz_s2, mz_nx, mz_en, mx_to, mz_c1, ↓reduceIte, Nat.reduceAdd, Nat.reduceSub, Nat.reduceMul, Nat.reduceMod, Nat.reduceDiv, Nat.reduceEqDiff, Nat.reduceLeDiff, Nat.reduceLT, Int.reduceAdd, Int.reduceSub, Int.reduceNeg, Int.reduceMul, Int.reduceLE, Int.reduceLT, Int.reduceEq, Int.reduceToNat, Int.reduceNegSucc, Int.cast_ofNat_Int, Int32.reduceToInt, Int64.reduceToInt, Int.zero_add, Int.add_zero, Fin.isValue, Fin.val_zero, Fin.val_one, Fin.val_two, reduceCtorEq, or_false, false_or, or_true, true_or, or_self, and_true, true_and, and_self, not_true_eq_false, not_false_eq_true, implies_true, forall_const, List.mem_cons, List.not_mem_nil, false_implies, true_implies, imp_false, Nat.zero_add, Option.some.injEq, Prod.mk.injEq]
      repeat' first | omega | refine mz_it (fun hh => ?_) (fun hh => ?_) | refine And.intro ?_ ?_
      all_goals exact hx
    · exact hP1 h b f (by rw [ps_tl, if_neg hst]) (Nat.le_refl _) hS h17 hf h27 h28 hst (rt_L.rf h y D)
set_option maxRecDepth 100000 in
theorem lp_sum (d : Nat) (hG : mx_G e.1) (hE : rm_E e y) (hp2 : 2 ≤ p ∧ p < 32768) {br : Option (Nat → ps_R)} {D : Nat} (hD : D ≤ 20) (hLF : rt_LF e d kk y P p n o len tx br D) :
    ∀ (fu : Nat) (h : mz_H) (a : Nat) (F : Nat → Int) (mi : Bool), rt_S h y D p n o len tx a F (if mi = true then -1 else 1) → h.2.1 y 27 = 1 → ((h.2.1 y 28 = 1 ∧ ¬ (ps_sk tx (len - a) a < len ∧ tx (ps_sk tx (len - a) a) = 45)) ∨ h.2.1 y 28 = 0) → h.2.1 (y + 19) D = -1 → len - a < fu →
    (∀ h' c w, ps_sl p n o tx len br fu a mi F = .inl (c, w) → 0 < c → rp_f h h' y → h'.2.1 y 25 = c → h'.2.1 y 26 = w → rt_W e d kk y P h') →
    (∀ h' (b : Nat) F' G sg g, ps_sl p n o tx len br fu a mi F = .inr (ps_sk tx (len - b) b, g) → a ≤ b → rt_S h' y D p n o len tx b F' sg → (∀ j, j < 126 → h'.2.1 (y + 17) (126 * D + j) = G j) → pl p n G → (∀ j, j < 126 → g j = (F' j + sg * G j) % p) → h'.2.1 y 27 = 0 → h'.2.1 y 28 = 0 → ¬ (ps_sk tx (len - b) b < len ∧ (tx (ps_sk tx (len - b) b) = 42 ∨ tx (ps_sk tx (len - b) b) = 43 ∨ tx (ps_sk tx (len - b) b) = 45)) → rt_L h h' y D → rt_W e d kk y P h') → rt_W e d kk y P h := by
  have hE' := hE
  obtain ⟨⟨ra0, ra4, ra5, ra6, ra7, ra8, ra9, ra10, ra11, ra12, ra13, ra14, ra15, ra16, ra17, ra21, ra29, ra30, ra31, ra32, ra33, ra34, ra35, ra36, ra37, ra41, ra42, ra46, ra47, ra48, ra49, ra50, ra51, ra52, ra53, ra54, ra56, ra57, ra58, ra59, ra60, ra65, ra66⟩, ⟨rb1, rb2, rb3, rb4, rb5, rb6, rb7, rb8, rb9, rb10, rb11, rb12, rb13, rb14, rb15, rb16, rb17, rb18, rb19, rb20, rb21, rb22, rb23, rb24, rb25, rb26, rb27, rb28, rb29, rb30, rb31, rb32, rb33, rb34, rb35, rb36, rb37, rb38, rb39, rb40, rb41, rb42⟩⟩ := hE
  intro fu
  induction fu with
  | zero => intro h a F mi _ _ _ _ hfu; omega
  | succ fu ih =>
    intro h a F mi hS h27 h28 h19 hfu hP0 hP1
    have hl := hS.1.2.2.2.1
    have hal := hS.2.2.1
    have hsl : ps_sl p n o tx len br (fu + 1) a mi F = match ps_te p n o tx len br a with
        | .inl e => .inl e
        | .inr q => if q.1 < len ∧ tx q.1 = 45 then ps_sl p n o tx len br fu (q.1 + 1) true (fun m => (F m + (if mi = true then p - 1 else 1) * q.2 m) % p)
          else if q.1 < len ∧ tx q.1 = 43 then ps_sl p n o tx len br fu (q.1 + 1) false (fun m => (F m + (if mi = true then p - 1 else 1) * q.2 m) % p)
          else .inr (q.1, fun m => (F m + (if mi = true then p - 1 else 1) * q.2 m) % p) := by rw [ps_sl]; rfl
    have hte : ps_te p n o tx len br a = match ps_fa p n o tx len br a with | .inl e => .inl e | .inr q => ps_tl p n o tx len br 401 q.1 q.2 := rfl
    refine hLF h a F _ none hS h27 h28 h19 (fun h1 c w q1 q2 q3 q4 q5 => hP0 h1 c w (by rw [ps_cb_n] at q1; rw [hsl, hte, q1]) q2 q3 q4 q5) (fun h1 b f q1 q2 q3 q4 q5 q6 q7 q8 => ?_)
    rw [ps_cb_n] at q1
    rw [q1] at hte
    replace hte : ps_te p n o tx len br a = ps_tl p n o tx len br 401 (ps_sk tx (len - b) b) f := hte
    refine lp_tail d hG hE' hD hLF 401 h1 b f F _ q3 q4 q5 q6 q7 (by omega) (fun h2 c w r1 r2 r3 r4 r5 => hP0 h2 c w (by rw [hsl, hte, r1]) r2 (q8.1.tr r3) r4 r5) (fun h2 b' f' r1 r2 r3 r4 r5 r6 r7 r8 r9 => ?_)
    rw [hte, r1] at hsl
    replace hsl : ps_sl p n o tx len br (fu + 1) a mi F = if ps_sk tx (len - b') b' < len ∧ tx (ps_sk tx (len - b') b') = 45 then ps_sl p n o tx len br fu (ps_sk tx (len - b') b' + 1) true (fun m => (F m + (if mi = true then p - 1 else 1) * f' m) % p)
          else if ps_sk tx (len - b') b' < len ∧ tx (ps_sk tx (len - b') b') = 43 then ps_sl p n o tx len br fu (ps_sk tx (len - b') b' + 1) false (fun m => (F m + (if mi = true then p - 1 else 1) * f' m) % p)
          else .inr (ps_sk tx (len - b') b', fun m => (F m + (if mi = true then p - 1 else 1) * f' m) % p) := hsl
    have L02 := q8.tr r9
    by_cases hpm : ps_sk tx (len - b') b' < len ∧ (tx (ps_sk tx (len - b') b') = 43 ∨ tx (ps_sk tx (len - b') b') = 45)
    · intro o3
      have hS1 := r3.sk
      obtain ⟨a1, a2, a3, a4, a5, a6, a7, a8, a9⟩ := id r3
      have hb := ps_sk_b tx (len - b') b'
      obtain ⟨cc, hcc⟩ : ∃ cc, tx (ps_sk tx (len - b') b') = cc := ⟨_, rfl⟩
      rw [hcc] at hpm
      have hsl2 : ps_sl p n o tx len br (fu + 1) a mi F = ps_sl p n o tx len br fu (ps_sk tx (len - b') b' + 1) (decide (cc = 45)) (fun m => (F m + (if mi = true then p - 1 else 1) * f' m) % p) := by
        rw [hsl, hcc]
        rcases hpm.2 with q | q
        · rw [q, if_neg (by omega), if_pos ⟨hpm.1, rfl⟩]; rfl
        · rw [q, if_pos ⟨hpm.1, rfl⟩]; rfl
      apply mz_go hG 60 [66]
      simp only [mf_M_read, ca_M_read, dc_M_read_0, dc_M_read_1, dc_M_read_2, dc_M_read_3, dc_M_read_4, dc_M_read_5, dc_M_read_6, dc_M_read_7, dc_M_read_8, dc_M_read_9, dc_M_read_10, dc_M_read_11, fl_M, sl_M, sg_M_isNumber, sg_M_openSum, sg_M_here, sg_M_readFactor, sg_M_readSign, sg_M_endTerm, sg_M_copy, sg_M_termsOf, cpn_model_0, cpn_model_1, mx_cp_r, ra0, ra8, ra29, rb5, rb16, a5, mzr_iconst, mzr_bipush, mzr_sipush, mzr_lconst, mzr_iload, mzr_iload_n, mzr_aload, mzr_aload_n, mzr_lload, mzr_lload_n, mzr_istore, mzr_istore_n, mzr_astore, mzr_astore_n, mzr_lstore, mzr_lstore_n, mzr_iinc, mzr_iadd, mzr_isub, mzr_imul, mzr_iand, mzr_ior, mzr_ixor, mzr_ishl, mzr_ishr, mzr_iushr, mzr_idiv, mzr_irem, mzr_ineg, mzr_ladd, mzr_lsub, mzr_lmul, mzr_lrem, mzr_lcmp, mzr_i2l, mzr_l2i, mzr_i2b, mzr_dup, mzr_pop, mzr_dup2, mzr_ifCond_eq, mzr_if_icmp_eq, mzr_ifCond_ne, mzr_if_icmp_ne, mzr_ifCond_lt, mzr_if_icmp_lt, mzr_ifCond_ge, mzr_if_icmp_ge, mzr_ifCond_gt, mzr_if_icmp_gt, mzr_ifCond_le, mzr_if_icmp_le, mzr_goto, mzr_iaload, mzr_baload, mzr_laload, mzr_aaload, mzr_iastore, mzr_bastore, mzr_lastore, mzr_arraylength, mzr_getfield, mzr_putfield, mzr_getstatic, mzr_ldc, mzr_ldc_w, mzr_ldc2_w, mzr_ireturn, mzr_return_, mzr_copy, mzr_static, mzr_virtual, mzr_new, mz_tk, mz_dp, mz_ln, mz_sz, mz_af_v, mz_af_s, mz_wp_s, mz_w1, mz_g, mz_st, mz_k, mz_s2, mz_nx, mz_en, mx_to, mz_c1, ↓reduceIte, Nat.reduceAdd, Nat.reduceSub, Nat.reduceMul, Nat.reduceMod, Nat.reduceDiv, Nat.reduceEqDiff, Nat.reduceLeDiff, Nat.reduceLT, Int.reduceAdd, Int.reduceSub, Int.reduceNeg, Int.reduceMul, Int.reduceLE, Int.reduceLT, Int.reduceEq, Int.reduceToNat, Int.reduceNegSucc, Int.cast_ofNat_Int, Int32.reduceToInt, Int64.reduceToInt, Int.zero_add, Int.add_zero, Fin.isValue, Fin.val_zero, Fin.val_one, Fin.val_two, reduceCtorEq, or_false, false_or, or_true, true_or, or_self, and_true, true_and, and_self, not_true_eq_false, not_false_eq_true, implies_true, forall_const, List.mem_cons, List.not_mem_nil, false_implies, true_implies, imp_false, Nat.zero_add, Option.some.injEq, Prod.mk.injEq]
      repeat' first | omega | refine mz_it (fun hh => ?_) (fun hh => ?_) | refine And.intro ?_ ?_
      refine cm_here (d + 5) hG hE' a1 a2 a3 ?_
      rw [if_pos hpm.1, hcc]
      have f0 : rt_L h2 (mz_w h2 y 22 (ps_sk tx (len - b') b' : Int)) y D := rt_L.w
      generalize ps_sk tx (len - b') b' = q at *
      have g0 : ∀ k, k ≠ 22 → (mz_w h2 y 22 (q : Int)).2.1 y k = h2.2.1 y k := fun k hk => by rw [mz_w_g, if_neg (by omega)]
      have y0 : ∀ c, c ≠ y → (mz_w h2 y 22 (q : Int)).2.1 c = h2.2.1 c := fun c hc => (mz_fr.w h2 y 22 (q : Int) (A := [y]) (by simp)).2.2 c (by simp; exact hc)
      generalize mz_w h2 y 22 (q : Int) = h3 at *
      obtain ⟨b1, b2, b3, b4, b5, b6, b7, b8, b9⟩ := id hS1
      have z27 : h3.2.1 y 27 = 0 := by rw [g0 27 (by omega)]; exact r6
      have hm1 : cc ≠ -1 := by omega
      simp only [mf_M_read, ca_M_read, dc_M_read_0, dc_M_read_1, dc_M_read_2, dc_M_read_3, dc_M_read_4, dc_M_read_5, dc_M_read_6, dc_M_read_7, dc_M_read_8, dc_M_read_9, dc_M_read_10, dc_M_read_11, fl_M, sl_M, sg_M_isNumber, sg_M_openSum, sg_M_here, sg_M_readFactor, sg_M_readSign, sg_M_endTerm, sg_M_copy, sg_M_termsOf, cpn_model_0, cpn_model_1, mx_cp_r, ra0, ra8, ra29, rb5, rb16, z27, hm1, mzr_iconst, mzr_bipush, mzr_sipush, mzr_lconst, mzr_iload, mzr_iload_n, mzr_aload, mzr_aload_n, mzr_lload, mzr_lload_n, mzr_istore, mzr_istore_n, mzr_astore, mzr_astore_n, mzr_lstore, mzr_lstore_n, mzr_iinc, mzr_iadd, mzr_isub, mzr_imul, mzr_iand, mzr_ior, mzr_ixor, mzr_ishl, mzr_ishr, mzr_iushr, mzr_idiv, mzr_irem, mzr_ineg, mzr_ladd, mzr_lsub, mzr_lmul, mzr_lrem, mzr_lcmp, mzr_i2l, mzr_l2i, mzr_i2b, mzr_dup, mzr_pop, mzr_dup2, mzr_ifCond_eq, mzr_if_icmp_eq, mzr_ifCond_ne, mzr_if_icmp_ne, mzr_ifCond_lt, mzr_if_icmp_lt, mzr_ifCond_ge, mzr_if_icmp_ge, mzr_ifCond_gt, mzr_if_icmp_gt, mzr_ifCond_le, mzr_if_icmp_le, mzr_goto, mzr_iaload, mzr_baload, mzr_laload, mzr_aaload, mzr_iastore, mzr_bastore, mzr_lastore, mzr_arraylength, mzr_getfield, mzr_putfield, mzr_getstatic, mzr_ldc, mzr_ldc_w, mzr_ldc2_w, mzr_ireturn, mzr_return_, mzr_copy, mzr_static, mzr_virtual, mzr_new, mz_tk, mz_dp, mz_ln, mz_sz, mz_af_v, mz_af_s, mz_wp_s, mz_w1, mz_g, mz_st, mz_k, mz_s2, mz_nx, mz_en, mx_to, mz_c1, ↓reduceIte, Nat.reduceAdd, Nat.reduceSub, Nat.reduceMul, Nat.reduceMod, Nat.reduceDiv, Nat.reduceEqDiff, Nat.reduceLeDiff, Nat.reduceLT, Int.reduceAdd, Int.reduceSub, Int.reduceNeg, Int.reduceMul, Int.reduceLE, Int.reduceLT, Int.reduceEq, Int.reduceToNat, Int.reduceNegSucc, Int.cast_ofNat_Int, Int32.reduceToInt, Int64.reduceToInt, Int.zero_add, Int.add_zero, Fin.isValue, Fin.val_zero, Fin.val_one, Fin.val_two, reduceCtorEq, or_false, false_or, or_true, true_or, or_self, and_true, true_and, and_self, not_true_eq_false, not_false_eq_true, implies_true, forall_const, List.mem_cons, List.not_mem_nil, false_implies, true_implies, imp_false, Nat.zero_add, Option.some.injEq, Prod.mk.injEq]
      repeat' first | omega | refine mz_it (fun hh => ?_) (fun hh => ?_) | refine And.intro ?_ ?_
      refine cm_readPlus (D := D) (b := q) (F := F) (G := f') (n := n) (d + 3) hG hE' b1.1.1.1 hp2 hD (by omega) b2 b4 hpm.2 b8 b9 b6 (fun j hj => by rw [y0 _ (by omega)]; exact r4 j hj) b7 r5 (fun h4 f4 u1 u2 u3 u4 u5 u6 u7 => ?_)
      have y4 : ∀ c, c ≠ y → c ≠ y + 16 → c ≠ y + 18 → c ≠ y + 19 → h4.2.1 c = h3.2.1 c := fun c c1 c2 c3 c4 => f4.2.2 c (by simp; omega)
      have L4 : rt_L h3 h4 y D := ⟨⟨f4.mono (by intro c hc; simp at hc ⊢; omega), fun k hk => u1 k (by omega) (by omega)⟩, u4, fun i _ => by rw [y4 _ (by omega) (by omega) (by omega) (by omega)], fun i hi => by rw [u6, if_neg (by omega)], fun i hi => by rw [u7, if_neg (by omega)], u1 26 (by omega) (by omega)⟩
      have hS4 : rt_S h4 y D p n o len tx (q + 1) (fun m => (F m + (if mi = true then p - 1 else 1) * f' m) % p) (if decide (cc = 45) = true then -1 else 1) := ⟨b1.fr L4.1, u2, by omega, by rw [u1 24 (by omega) (by omega)]; exact b4, by rw [u1 25 (by omega) (by omega)]; exact b5, fun j hj => by rw [u5 j hj, ps_sgm], fun m hm => ⟨fun _ => ⟨Int.emod_nonneg _ (by omega), Int.emod_lt_of_pos _ (by omega)⟩, fun hm2 => by
        simp only []
        rw [(b7 m hm).2 hm2, (r5 m hm).2 hm2]; simp⟩, by
          rw [u6, if_pos rfl]
          by_cases hc : cc = 45
          · rw [if_pos hc, if_pos (by simp [hc])]
          · rw [if_neg hc, if_neg (by simp [hc])], by
          by_cases hc : cc = 45
          · right; rw [if_pos (by simp [hc])]
          · left; rw [if_neg (by simp [hc])]⟩
      have hx := ih h4 (q + 1) _ (decide (cc = 45)) hS4 u3 (Or.inr (by rw [u1 28 (by omega) (by omega), g0 28 (by omega)]; exact r7)) (by rw [u7, if_pos rfl]) (by omega) (fun h5 c w s1 s2 s3 s4 s5 => hP0 h5 c w (by rw [hsl2]; exact s1) s2 (((L02.tr f0).tr L4).1.tr s3) s4 s5) (fun h5 b'' F' G sg g s1 s2 s3 s4 s5 s6 s7 s8 s9 s10 => hP1 h5 b'' F' G sg g (by rw [hsl2]; exact s1) (by omega) s3 s4 s5 s6 s7 s8 s9 (((L02.tr f0).tr L4).tr s10)) (some (.inl cc))
      simp only [mf_M_read, ca_M_read, dc_M_read_0, dc_M_read_1, dc_M_read_2, dc_M_read_3, dc_M_read_4, dc_M_read_5, dc_M_read_6, dc_M_read_7, dc_M_read_8, dc_M_read_9, dc_M_read_10, dc_M_read_11, fl_M, sl_M, sg_M_isNumber, sg_M_openSum, sg_M_here, sg_M_readFactor, sg_M_readSign, sg_M_endTerm, sg_M_copy, sg_M_termsOf, cpn_model_0, cpn_model_1, mx_cp_r, ra0, ra8, ra29, rb5, rb16, mzr_iconst, mzr_bipush, mzr_sipush, mzr_lconst, mzr_iload, mzr_iload_n, mzr_aload, mzr_aload_n, mzr_lload, mzr_lload_n, mzr_istore, mzr_istore_n, mzr_astore, mzr_astore_n, mzr_lstore, mzr_lstore_n, mzr_iinc, mzr_iadd, mzr_isub, mzr_imul, mzr_iand, mzr_ior, mzr_ixor, mzr_ishl, mzr_ishr, mzr_iushr, mzr_idiv, mzr_irem, mzr_ineg, mzr_ladd, mzr_lsub, mzr_lmul, mzr_lrem, mzr_lcmp, mzr_i2l, mzr_l2i, mzr_i2b, mzr_dup, mzr_pop, mzr_dup2, mzr_ifCond_eq, mzr_if_icmp_eq, mzr_ifCond_ne, mzr_if_icmp_ne, mzr_ifCond_lt, mzr_if_icmp_lt, mzr_ifCond_ge, mzr_if_icmp_ge, mzr_ifCond_gt, mzr_if_icmp_gt, mzr_ifCond_le, mzr_if_icmp_le, mzr_goto, mzr_iaload, mzr_baload, mzr_laload, mzr_aaload, mzr_iastore, mzr_bastore, mzr_lastore, mzr_arraylength, mzr_getfield, mzr_putfield, mzr_getstatic, mzr_ldc, mzr_ldc_w, mzr_ldc2_w, mzr_ireturn, mzr_return_, mzr_copy, mzr_static, mzr_virtual, mzr_new, mz_tk, mz_dp, mz_ln, mz_sz, mz_af_v, mz_af_s, mz_wp_s, mz_w1, mz_g, mz_st, mz_k, mz_s2, mz_nx, mz_en, mx_to, mz_c1, ↓reduceIte, Nat.reduceAdd, Nat.reduceSub, Nat.reduceMul, Nat.reduceMod, Nat.reduceDiv, Nat.reduceEqDiff, Nat.reduceLeDiff, Nat.reduceLT, Int.reduceAdd, Int.reduceSub, Int.reduceNeg, Int.reduceMul, Int.reduceLE, Int.reduceLT, Int.reduceEq, Int.reduceToNat, Int.reduceNegSucc, Int.cast_ofNat_Int, Int32.reduceToInt, Int64.reduceToInt, Int.zero_add, Int.add_zero, Fin.isValue, Fin.val_zero, Fin.val_one, Fin.val_two, reduceCtorEq, or_false, false_or, or_true, true_or, or_self, and_true, true_and, and_self, not_true_eq_false, not_false_eq_true, implies_true, forall_const, List.mem_cons, List.not_mem_nil, false_implies, true_implies, imp_false, Nat.zero_add, Option.some.injEq, Prod.mk.injEq]
      repeat' first | omega | refine mz_it (fun hh => ?_) (fun hh => ?_) | refine And.intro ?_ ?_
      all_goals exact hx
    · rw [if_neg (fun q => hpm ⟨q.1, Or.inr q.2⟩), if_neg (fun q => hpm ⟨q.1, Or.inl q.2⟩)] at hsl
      exact hP1 h2 b' F f' _ _ hsl (by omega) r3 r4 r5 (fun j hj => (ps_sgm p (F j) (f' j) mi).symm) r6 r7 (fun q => by
        rcases q.2 with w | w | w
        · exact r8 ⟨q.1, w⟩
        · exact hpm ⟨q.1, Or.inl w⟩
        · exact hpm ⟨q.1, Or.inr w⟩) L02
set_option maxRecDepth 100000 in
theorem lp_level (d : Nat) (hG : mx_G e.1) (hE : rm_E e y) (hp2 : 2 ≤ p ∧ p < 32768) {k D : Nat} (hD : D ≤ 20) (hLF : rt_LF e d kk y P p n o len tx (ps_kb p n o tx len k) D) : rt_LV e d kk y P p n o len tx k D := by
  intro h a hS h27 h28 h19 hP0 hP1
  have hE' := hE
  obtain ⟨⟨ra0, ra4, ra5, ra6, ra7, ra8, ra9, ra10, ra11, ra12, ra13, ra14, ra15, ra16, ra17, ra21, ra29, ra30, ra31, ra32, ra33, ra34, ra35, ra36, ra37, ra41, ra42, ra46, ra47, ra48, ra49, ra50, ra51, ra52, ra53, ra54, ra56, ra57, ra58, ra59, ra60, ra65, ra66⟩, ⟨rb1, rb2, rb3, rb4, rb5, rb6, rb7, rb8, rb9, rb10, rb11, rb12, rb13, rb14, rb15, rb16, rb17, rb18, rb19, rb20, rb21, rb22, rb23, rb24, rb25, rb26, rb27, rb28, rb29, rb30, rb31, rb32, rb33, rb34, rb35, rb36, rb37, rb38, rb39, rb40, rb41, rb42⟩⟩ := hE
  have hsu : ps_K p n o tx len k a = if ps_sk tx (len - a) a < len ∧ tx (ps_sk tx (len - a) a) = 45 then ps_sl p n o tx len (ps_kb p n o tx len k) 401 (ps_sk tx (len - a) a + 1) true (fun _ => 0) else ps_sl p n o tx len (ps_kb p n o tx len k) 401 (ps_sk tx (len - a) a) false (fun _ => 0) := by
    rw [ps_K_su]; rfl
  obtain ⟨a1, a2, a3, a4, a5, a6, a7, a8, a9⟩ := id hS
  have hl := a1.2.2.2.1
  have hb := ps_sk_b tx (len - a) a
  have hsi := ps_sk_j (tx := tx) a3
  by_cases hm : ps_sk tx (len - a) a < len ∧ tx (ps_sk tx (len - a) a) = 45
  · intro o3
    rw [if_pos hm] at hsu
    have hS1 := hS.sk
    apply mz_go hG 60 [66]
    simp only [mf_M_read, ca_M_read, dc_M_read_0, dc_M_read_1, dc_M_read_2, dc_M_read_3, dc_M_read_4, dc_M_read_5, dc_M_read_6, dc_M_read_7, dc_M_read_8, dc_M_read_9, dc_M_read_10, dc_M_read_11, fl_M, sl_M, sg_M_isNumber, sg_M_openSum, sg_M_here, sg_M_readFactor, sg_M_readSign, sg_M_endTerm, sg_M_copy, sg_M_termsOf, cpn_model_0, cpn_model_1, mx_cp_r, ra0, ra8, ra29, rb5, rb16, a5, mzr_iconst, mzr_bipush, mzr_sipush, mzr_lconst, mzr_iload, mzr_iload_n, mzr_aload, mzr_aload_n, mzr_lload, mzr_lload_n, mzr_istore, mzr_istore_n, mzr_astore, mzr_astore_n, mzr_lstore, mzr_lstore_n, mzr_iinc, mzr_iadd, mzr_isub, mzr_imul, mzr_iand, mzr_ior, mzr_ixor, mzr_ishl, mzr_ishr, mzr_iushr, mzr_idiv, mzr_irem, mzr_ineg, mzr_ladd, mzr_lsub, mzr_lmul, mzr_lrem, mzr_lcmp, mzr_i2l, mzr_l2i, mzr_i2b, mzr_dup, mzr_pop, mzr_dup2, mzr_ifCond_eq, mzr_if_icmp_eq, mzr_ifCond_ne, mzr_if_icmp_ne, mzr_ifCond_lt, mzr_if_icmp_lt, mzr_ifCond_ge, mzr_if_icmp_ge, mzr_ifCond_gt, mzr_if_icmp_gt, mzr_ifCond_le, mzr_if_icmp_le, mzr_goto, mzr_iaload, mzr_baload, mzr_laload, mzr_aaload, mzr_iastore, mzr_bastore, mzr_lastore, mzr_arraylength, mzr_getfield, mzr_putfield, mzr_getstatic, mzr_ldc, mzr_ldc_w, mzr_ldc2_w, mzr_ireturn, mzr_return_, mzr_copy, mzr_static, mzr_virtual, mzr_new, mz_tk, mz_dp, mz_ln, mz_sz, mz_af_v, mz_af_s, mz_wp_s, mz_w1, mz_g, mz_st, mz_k, mz_s2, mz_nx, mz_en, mx_to, mz_c1, ↓reduceIte, Nat.reduceAdd, Nat.reduceSub, Nat.reduceMul, Nat.reduceMod, Nat.reduceDiv, Nat.reduceEqDiff, Nat.reduceLeDiff, Nat.reduceLT, Int.reduceAdd, Int.reduceSub, Int.reduceNeg, Int.reduceMul, Int.reduceLE, Int.reduceLT, Int.reduceEq, Int.reduceToNat, Int.reduceNegSucc, Int.cast_ofNat_Int, Int32.reduceToInt, Int64.reduceToInt, Int.zero_add, Int.add_zero, Fin.isValue, Fin.val_zero, Fin.val_one, Fin.val_two, reduceCtorEq, or_false, false_or, or_true, true_or, or_self, and_true, true_and, and_self, not_true_eq_false, not_false_eq_true, implies_true, forall_const, List.mem_cons, List.not_mem_nil, false_implies, true_implies, imp_false, Nat.zero_add, Option.some.injEq, Prod.mk.injEq]
    repeat' first | omega | refine mz_it (fun hh => ?_) (fun hh => ?_) | refine And.intro ?_ ?_
    refine cm_here (d + 5) hG hE' a1 a2 a3 ?_
    have f0 : rt_L h (mz_w h y 22 (ps_sk tx (len - a) a : Int)) y D := rt_L.w
    generalize ps_sk tx (len - a) a = q at *
    have g0 : ∀ k, k ≠ 22 → (mz_w h y 22 (q : Int)).2.1 y k = h.2.1 y k := fun k hk => by rw [mz_w_g, if_neg (by omega)]
    have y0 : ∀ c, c ≠ y → (mz_w h y 22 (q : Int)).2.1 c = h.2.1 c := fun c hc => (mz_fr.w h y 22 (q : Int) (A := [y]) (by simp)).2.2 c (by simp; exact hc)
    generalize mz_w h y 22 (q : Int) = h1 at *
    obtain ⟨b1, b2, b3, b4, b5, b6, b7, b8, b9⟩ := id hS1
    have z27 : h1.2.1 y 27 = 1 := by rw [g0 27 (by omega)]; exact h27
    rw [if_pos hm.1, hm.2]
    simp only [mf_M_read, ca_M_read, dc_M_read_0, dc_M_read_1, dc_M_read_2, dc_M_read_3, dc_M_read_4, dc_M_read_5, dc_M_read_6, dc_M_read_7, dc_M_read_8, dc_M_read_9, dc_M_read_10, dc_M_read_11, fl_M, sl_M, sg_M_isNumber, sg_M_openSum, sg_M_here, sg_M_readFactor, sg_M_readSign, sg_M_endTerm, sg_M_copy, sg_M_termsOf, cpn_model_0, cpn_model_1, mx_cp_r, ra0, ra8, ra29, rb5, rb16, z27, mzr_iconst, mzr_bipush, mzr_sipush, mzr_lconst, mzr_iload, mzr_iload_n, mzr_aload, mzr_aload_n, mzr_lload, mzr_lload_n, mzr_istore, mzr_istore_n, mzr_astore, mzr_astore_n, mzr_lstore, mzr_lstore_n, mzr_iinc, mzr_iadd, mzr_isub, mzr_imul, mzr_iand, mzr_ior, mzr_ixor, mzr_ishl, mzr_ishr, mzr_iushr, mzr_idiv, mzr_irem, mzr_ineg, mzr_ladd, mzr_lsub, mzr_lmul, mzr_lrem, mzr_lcmp, mzr_i2l, mzr_l2i, mzr_i2b, mzr_dup, mzr_pop, mzr_dup2, mzr_ifCond_eq, mzr_if_icmp_eq, mzr_ifCond_ne, mzr_if_icmp_ne, mzr_ifCond_lt, mzr_if_icmp_lt, mzr_ifCond_ge, mzr_if_icmp_ge, mzr_ifCond_gt, mzr_if_icmp_gt, mzr_ifCond_le, mzr_if_icmp_le, mzr_goto, mzr_iaload, mzr_baload, mzr_laload, mzr_aaload, mzr_iastore, mzr_bastore, mzr_lastore, mzr_arraylength, mzr_getfield, mzr_putfield, mzr_getstatic, mzr_ldc, mzr_ldc_w, mzr_ldc2_w, mzr_ireturn, mzr_return_, mzr_copy, mzr_static, mzr_virtual, mzr_new, mz_tk, mz_dp, mz_ln, mz_sz, mz_af_v, mz_af_s, mz_wp_s, mz_w1, mz_g, mz_st, mz_k, mz_s2, mz_nx, mz_en, mx_to, mz_c1, ↓reduceIte, Nat.reduceAdd, Nat.reduceSub, Nat.reduceMul, Nat.reduceMod, Nat.reduceDiv, Nat.reduceEqDiff, Nat.reduceLeDiff, Nat.reduceLT, Int.reduceAdd, Int.reduceSub, Int.reduceNeg, Int.reduceMul, Int.reduceLE, Int.reduceLT, Int.reduceEq, Int.reduceToNat, Int.reduceNegSucc, Int.cast_ofNat_Int, Int32.reduceToInt, Int64.reduceToInt, Int.zero_add, Int.add_zero, Fin.isValue, Fin.val_zero, Fin.val_one, Fin.val_two, reduceCtorEq, or_false, false_or, or_true, true_or, or_self, and_true, true_and, and_self, not_true_eq_false, not_false_eq_true, implies_true, forall_const, List.mem_cons, List.not_mem_nil, false_implies, true_implies, imp_false, Nat.zero_add, Option.some.injEq, Prod.mk.injEq]
    repeat' first | omega | refine mz_it (fun hh => ?_) (fun hh => ?_) | refine And.intro ?_ ?_
    refine cm_readMinus (D := D) (d + 5) hG hE' hD (by omega) b2 b4 (by rw [g0 28 (by omega)]; exact h28) (fun h2 f2 u1 u2 u3 u4 => ?_)
    have y2 : ∀ c, c ≠ y → c ≠ y + 18 → h2.2.1 c = h1.2.1 c := fun c c1 c2 => f2.2.2 c (by simp; omega)
    have L2 : rt_L h1 h2 y D := ⟨⟨f2.mono (by intro c hc; simp at hc ⊢; omega), fun k hk => u1 k (by omega) (by omega)⟩, fun i _ => by rw [y2 _ (by omega) (by omega)], fun i _ => by rw [y2 _ (by omega) (by omega)], fun i hi => by rw [u4, if_neg (by omega)], fun i _ => by rw [y2 _ (by omega) (by omega)], u1 26 (by omega) (by omega)⟩
    have hS2 : rt_S h2 y D p n o len tx (q + 1) (fun _ => 0) (if true = true then -1 else 1) := ⟨b1.fr L2.1, u2, by omega, by rw [u1 24 (by omega) (by omega)]; exact b4, by rw [u1 25 (by omega) (by omega)]; exact b5, fun j hj => by rw [y2 _ (by omega) (by omega)]; exact b6 j hj, b7, by rw [u4, if_pos rfl, if_pos rfl], Or.inr rfl⟩
    have hx := lp_sum d hG hE' hp2 hD hLF 401 h2 (q + 1) _ true hS2 (by rw [u1 27 (by omega) (by omega)]; exact z27) (Or.inr u3) (by rw [y2 _ (by omega) (by omega), y0 _ (by omega)]; exact h19) (by omega) (fun h5 c w s1 s2 s3 s4 s5 => hP0 h5 c w (by rw [hsu]; exact s1) s2 ((f0.tr L2).1.tr s3) s4 s5) (fun h5 b'' F' G sg g s1 s2 s3 s4 s5 s6 s7 s8 s9 s10 => hP1 h5 b'' F' G sg g (by rw [hsu]; exact s1) (by omega) s3 s4 s5 s6 s7 s8 s9 ((f0.tr L2).tr s10)) (some (.inl 45))
    simp only [mf_M_read, ca_M_read, dc_M_read_0, dc_M_read_1, dc_M_read_2, dc_M_read_3, dc_M_read_4, dc_M_read_5, dc_M_read_6, dc_M_read_7, dc_M_read_8, dc_M_read_9, dc_M_read_10, dc_M_read_11, fl_M, sl_M, sg_M_isNumber, sg_M_openSum, sg_M_here, sg_M_readFactor, sg_M_readSign, sg_M_endTerm, sg_M_copy, sg_M_termsOf, cpn_model_0, cpn_model_1, mx_cp_r, ra0, ra8, ra29, rb5, rb16, mzr_iconst, mzr_bipush, mzr_sipush, mzr_lconst, mzr_iload, mzr_iload_n, mzr_aload, mzr_aload_n, mzr_lload, mzr_lload_n, mzr_istore, mzr_istore_n, mzr_astore, mzr_astore_n, mzr_lstore, mzr_lstore_n, mzr_iinc, mzr_iadd, mzr_isub, mzr_imul, mzr_iand, mzr_ior, mzr_ixor, mzr_ishl, mzr_ishr, mzr_iushr, mzr_idiv, mzr_irem, mzr_ineg, mzr_ladd, mzr_lsub, mzr_lmul, mzr_lrem, mzr_lcmp, mzr_i2l, mzr_l2i, mzr_i2b, mzr_dup, mzr_pop, mzr_dup2, mzr_ifCond_eq, mzr_if_icmp_eq, mzr_ifCond_ne, mzr_if_icmp_ne, mzr_ifCond_lt, mzr_if_icmp_lt, mzr_ifCond_ge, mzr_if_icmp_ge, mzr_ifCond_gt, mzr_if_icmp_gt, mzr_ifCond_le, mzr_if_icmp_le, mzr_goto, mzr_iaload, mzr_baload, mzr_laload, mzr_aaload, mzr_iastore, mzr_bastore, mzr_lastore, mzr_arraylength, mzr_getfield, mzr_putfield, mzr_getstatic, mzr_ldc, mzr_ldc_w, mzr_ldc2_w, mzr_ireturn, mzr_return_, mzr_copy, mzr_static, mzr_virtual, mzr_new, mz_tk, mz_dp, mz_ln, mz_sz, mz_af_v, mz_af_s, mz_wp_s, mz_w1, mz_g, mz_st, mz_k, mz_s2, mz_nx, mz_en, mx_to, mz_c1, ↓reduceIte, Nat.reduceAdd, Nat.reduceSub, Nat.reduceMul, Nat.reduceMod, Nat.reduceDiv, Nat.reduceEqDiff, Nat.reduceLeDiff, Nat.reduceLT, Int.reduceAdd, Int.reduceSub, Int.reduceNeg, Int.reduceMul, Int.reduceLE, Int.reduceLT, Int.reduceEq, Int.reduceToNat, Int.reduceNegSucc, Int.cast_ofNat_Int, Int32.reduceToInt, Int64.reduceToInt, Int.zero_add, Int.add_zero, Fin.isValue, Fin.val_zero, Fin.val_one, Fin.val_two, reduceCtorEq, or_false, false_or, or_true, true_or, or_self, and_true, true_and, and_self, not_true_eq_false, not_false_eq_true, implies_true, forall_const, List.mem_cons, List.not_mem_nil, false_implies, true_implies, imp_false, Nat.zero_add, Option.some.injEq, Prod.mk.injEq]
    repeat' first | omega | refine mz_it (fun hh => ?_) (fun hh => ?_) | refine And.intro ?_ ?_
    all_goals exact hx
  · rw [if_neg hm, ps_sl_s (k := 400) hsi] at hsu
    exact lp_sum d hG hE' hp2 hD hLF 401 h a (fun _ => 0) false hS h27 (Or.inl ⟨h28, hm⟩) h19 (by omega) (fun h5 c w s1 => hP0 h5 c w (by rw [hsu]; exact s1)) (fun h5 b'' F' G sg g s1 => hP1 h5 b'' F' G sg g (by rw [hsu]; exact s1))
theorem lp_levels (d : Nat) (hG : mx_G e.1) (hE : rm_E e y) (hok : tb_ok n o) (hp2 : 2 ≤ p ∧ p < 32768) : ∀ k D, k + D = 20 → rt_LV e d kk y P p n o len tx k D := by
  intro k
  induction k with
  | zero => intro D hD; exact lp_level d hG hE hp2 (by omega) (lp_factor d hG hE hok hp2 0 D hD (fun k' hk' => by omega))
  | succ k ih =>
    intro D hD
    refine lp_level d hG hE hp2 (by omega) (lp_factor d hG hE hok hp2 (k + 1) D hD (fun k' hk' => ?_))
    obtain rfl : k = k' := by omega
    exact ih (D + 1) (by omega)
end RPARSE7
