theorem al_lt_00 (o : Nat) (x : al_M) : ¬ al_lt o x (0, 0, 0, 0) := by
  intro h
  have h1 := al_lt_d h
  have h2 : al_dg ((0, 0, 0, 0) : al_M) = 0 := rfl
  have h3 := al_dg_0 (show al_dg x = 0 by omega)
  rw [h3] at h
  exact al_lt_i o _ h
/- entries: products of those found, each once -/
def en_S (n : Nat) (X : fg_S) : Prop := (∀ j, j < X.2.length → ∃ i v, i < X.1.length ∧ v < n ∧ (fg_H X.2 j).1 = al_p (fg_B X.1 i) (tb_x v)) ∧ ∀ i j, i < X.2.length → j < X.2.length → (fg_H X.2 i).1 = (fg_H X.2 j).1 → i = j
theorem en_len {n : Nat} (hn : n ≤ 4) {X : fg_S} (h : en_S n X) {k v : Nat} (hk : k < X.1.length) (hv : v < n) (hnew : ∀ a, a ∈ X.2 → a.1 ≠ al_p (fg_B X.1 k) (tb_x v)) : X.2.length + 1 ≤ 4 * X.1.length := by
  have key : ∀ j, j < X.2.length + 1 → ∃ q : Nat, q < 4 * X.1.length ∧ (if j < X.2.length then (fg_H X.2 j).1 else al_p (fg_B X.1 k) (tb_x v)) = al_p (fg_B X.1 (q / 4)) (tb_x (q % 4)) := by
    intro j hj
    by_cases hjl : j < X.2.length
    · obtain ⟨i, w, h1, h2, h3⟩ := h.1 j hjl
      refine ⟨4 * i + w, by omega, ?_⟩
      rw [if_pos hjl, h3, show (4 * i + w) / 4 = i by omega, show (4 * i + w) % 4 = w by omega]
    · refine ⟨4 * k + v, by omega, ?_⟩
      rw [if_neg hjl, show (4 * k + v) / 4 = k by omega, show (4 * k + v) % 4 = v by omega]
  have inj : ∀ i j, i < X.2.length + 1 → j < X.2.length + 1 → (if i < X.2.length then (fg_H X.2 i).1 else al_p (fg_B X.1 k) (tb_x v)) = (if j < X.2.length then (fg_H X.2 j).1 else al_p (fg_B X.1 k) (tb_x v)) → i = j := by
    intro i j hi hj hij
    by_cases hil : i < X.2.length
    · by_cases hjl : j < X.2.length
      · rw [if_pos hil, if_pos hjl] at hij; exact h.2 i j hil hjl hij
      · rw [if_pos hil, if_neg hjl] at hij; exact absurd hij (hnew _ (fg_H_m hil))
    · by_cases hjl : j < X.2.length
      · rw [if_neg hil, if_pos hjl] at hij; exact absurd hij.symm (hnew _ (fg_H_m hjl))
      · omega
  refine ph_le (4 * X.1.length) (X.2.length + 1) (fun j => if hj : j < X.2.length + 1 then Classical.choose (key j hj) else 0) (fun j hj => ?_) (fun i j hi hj hij => ?_)
  · simp only [dif_pos hj]
    exact (Classical.choose_spec (key j hj)).1
  · simp only [dif_pos hi, dif_pos hj] at hij
    refine inj i j hi hj ?_
    rw [(Classical.choose_spec (key i hi)).2, (Classical.choose_spec (key j hj)).2, hij]
theorem en_B {n : Nat} {X : fg_S} {m : al_M} (h : en_S n X) : en_S n (X.1 ++ [m], X.2) := by
  refine ⟨fun j hj => ?_, h.2⟩
  obtain ⟨i, v, h1, h2, h3⟩ := h.1 j hj
  refine ⟨i, v, ?_, h2, ?_⟩
  · show i < (X.1 ++ [m]).length
    rw [List.length_append, List.length_singleton]; omega
  · show _ = al_p (fg_B (X.1 ++ [m]) i) (tb_x v)
    rw [fg_B_l _ _ _ h1]; exact h3
theorem en_E {n : Nat} {X : fg_S} (h : en_S n X) {k v : Nat} {w : Nat → Int} (hk : k < X.1.length) (hv : v < n) (hnew : ∀ a, a ∈ X.2 → a.1 ≠ al_p (fg_B X.1 k) (tb_x v)) : en_S n (X.1, X.2 ++ [(al_p (fg_B X.1 k) (tb_x v), w)]) := by
  have hlen : (X.2 ++ [(al_p (fg_B X.1 k) (tb_x v), w)]).length = X.2.length + 1 := by rw [List.length_append, List.length_singleton]
  refine ⟨fun j hj => ?_, fun i j hi hj hij => ?_⟩
  · replace hj : j < (X.2 ++ [(al_p (fg_B X.1 k) (tb_x v), w)]).length := hj
    show ∃ i v', i < X.1.length ∧ v' < n ∧ (fg_H (X.2 ++ [(al_p (fg_B X.1 k) (tb_x v), w)]) j).1 = al_p (fg_B X.1 i) (tb_x v')
    rw [hlen] at hj
    by_cases hjl : j < X.2.length
    · rw [fg_H_l _ _ _ hjl]; exact h.1 j hjl
    · obtain rfl : j = X.2.length := by omega
      rw [fg_H_r]
      exact ⟨k, v, hk, hv, rfl⟩
  · replace hi : i < (X.2 ++ [(al_p (fg_B X.1 k) (tb_x v), w)]).length := hi
    replace hj : j < (X.2 ++ [(al_p (fg_B X.1 k) (tb_x v), w)]).length := hj
    replace hij : (fg_H (X.2 ++ [(al_p (fg_B X.1 k) (tb_x v), w)]) i).1 = (fg_H (X.2 ++ [(al_p (fg_B X.1 k) (tb_x v), w)]) j).1 := hij
    rw [hlen] at hi hj
    by_cases hil : i < X.2.length
    · by_cases hjl : j < X.2.length
      · rw [fg_H_l _ _ _ hil, fg_H_l _ _ _ hjl] at hij; exact h.2 i j hil hjl hij
      · obtain rfl : j = X.2.length := by omega
        rw [fg_H_l _ _ _ hil, fg_H_r] at hij
        exact absurd hij (hnew _ (fg_H_m hil))
    · obtain rfl : i = X.2.length := by omega
      by_cases hjl : j < X.2.length
      · rw [fg_H_l _ _ _ hjl, fg_H_r] at hij
        exact absurd hij.symm (hnew _ (fg_H_m hjl))
      · omega
/- what the dictionary leaves as it is -/
def dk_f (H h : mz_H) (y : Nat) : Prop := mz_fr H h (y :: bl (y + 25) 16) ∧ ∀ q, q ≠ 0 → q ≠ 40 → q ≠ 43 → q ≠ 44 → q ≠ 45 → q ≠ 55 → q ≠ 61 → q ≠ 62 → h.2.1 y q = H.2.1 y q
theorem dk_f.tr {H h k : mz_H} {y : Nat} (h1 : dk_f H h y) (h2 : dk_f h k y) : dk_f H k y := ⟨h1.1.tr h2.1, fun q a b c d e f g i => by rw [h2.2 q a b c d e f g i]; exact h1.2 q a b c d e f g i⟩
theorem dk_f.of {H h : mz_H} {y : Nat} {A : List Nat} (h1 : mz_fr H h A) (hA : ∀ c, c ∈ A → c = y ∨ (y + 25 ≤ c ∧ c < y + 41)) (h2 : ∀ q, q ≠ 0 → q ≠ 40 → q ≠ 43 → q ≠ 44 → q ≠ 45 → q ≠ 55 → q ≠ 61 → q ≠ 62 → h.2.1 y q = H.2.1 y q) : dk_f H h y := ⟨h1.mono (fun c hc => by have := hA c hc; simp [bl_m]; omega), h2⟩
section RDICT
variable {e : mz_E} {H : mz_H} {P : mz_O → mz_H → Prop} {y : Nat} {p : Int} {n o : Nat} {a : Nat → Nat → Int} {g : Nat → iG} {t : iT} {l : List Int} {v : Nat} {X : fg_S} {z : iZ}
theorem dk_f.S {h : mz_H} (hS : rm_S H y p n o a g t l v X z) (hf : dk_f H h y) {X' : fg_S} (hX : rm_X h y X') : rm_S h y p n o a g t l v X' z := by
  obtain ⟨f1, f2⟩ := hf
  obtain ⟨a1, a2, a3, a4, a5, a6, a7, a8, a9⟩ := hS
  have e : ∀ c, (1 ≤ c ∧ c ≤ 24) ∨ c = 41 → h.2.1 (y + c) = H.2.1 (y + c) := fun c hc => f1.2.2 _ (by simp [bl_m]; omega)
  have e0 : ∀ k, k ≠ 0 → k ≠ 40 → k ≠ 43 → k ≠ 44 → k ≠ 45 → k ≠ 55 → k ≠ 61 → k ≠ 62 → h.2.1 y k = H.2.1 y k := f2
  exact ⟨a1, a2.fr f1 (fun k q1 q2 => e0 k (by omega) (by omega) (by omega) (by omega) (by omega) (by omega) (by omega) (by omega)) (fun c q1 q2 => by simp [bl_m]; omega), a3.fr (e 5 (by omega)), fun i hi => (a4 i hi).fr (fun c q1 q2 => e c (by omega)), a5.fr (fun k q => e0 k (by omega) (by omega) (by omega) (by omega) (by omega) (by omega) (by omega) (by omega)) (fun c q1 q2 => e c (by omega)), a6.fr (e0 19 (by omega) (by omega) (by omega) (by omega) (by omega) (by omega) (by omega) (by omega)) (e 14 (by omega)), by rw [e0 20 (by omega) (by omega) (by omega) (by omega) (by omega) (by omega) (by omega) (by omega)]; exact a7, hX, a9.fr (fun k q => e0 k (by omega) (by omega) (by omega) (by omega) (by omega) (by omega) (by omega) (by omega)) (e 41 (by omega))⟩
/- the state of the run -/
def dk_S (H h : mz_H) (y : Nat) (p : Int) (n : Nat) (L : List al_M) (nf : al_M → al_M → Int) (X : fg_S) (pv : Nat → Nat) : Prop :=
  dk_f H h y ∧ h.2.1 y 0 = 0 ∧ h.2.1 y 40 = L.length ∧ rm_X h y X ∧ rw_S (fun k c => h.2.1 (y + 28) (40 * k + c)) (fun k c => h.2.1 (y + 29) (40 * k + c)) (fun k c => h.2.1 (y + 30) (40 * k + c)) pv p L nf X.1 ∧ (∀ k, k < X.1.length → h.2.1 (y + 31) k = (pv k : Int)) ∧
  (∀ v k, v < n → k < L.length → fo_1 p (fun q => h.2.1 (y + 26) (40 * (40 * v + k) + q)) L nf (al_p (fg_B L k) (tb_x v))) ∧ en_S n X ∧ lb_S n X.1 ∧ ∃ k, fg_r p n nf (sl_S L) k ([(0, 0, 0, 0)], []) X
set_option maxRecDepth 100000 in
theorem lp_dict (d : Nat) {I : Nat} {L : List al_M} {nf : al_M → al_M → Int} {St : al_M → Prop} {N : Nat} {V : (Nat → Int) → Prop} (hG : mx_G e.1) (hE : rm_E e y) (hn : H.2.1 y 2 = n) (hp : H.2.1 y 1 = p) (hok : tb_ok n o) (hp2 : 2 ≤ p ∧ p < 32768) (hpr : al_pr p.toNat) (hL40 : L.length ≤ 40) (hnf : nf_A p n o L St N V nf)
    (hP : ∀ h X' k, dk_f H h y → h.2.1 y 0 = 0 → rm_X h y X' → fg_r p n nf (sl_S L) k ([(0, 0, 0, 0)], []) X' → (∀ m, ¬ fg_n n X' m) → P (.inl (some (.inl (X'.2.length : Int)))) h) :
    ∀ (c : Nat) (h : mz_H) (X : fg_S) (pv : Nat → Nat) (i2 : Int) o3, c + X.1.length + X.2.length = 201 → dk_S H h y p n L nf X pv → mz_V e (d + 3) mm_M_dictionary 152 [some (.inr (.inl y)), some (.inl (I : Int)), some (.inl i2), o3] [] h P := by
  have hE' := hE
  obtain ⟨⟨ra0, ra4, ra5, ra6, ra7, ra8, ra9, ra10, ra11, ra12, ra13, ra14, ra15, ra16, ra17, ra21, ra29, ra30, ra31, ra32, ra33, ra34, ra35, ra36, ra37, ra41, ra42, ra46, ra47, ra48, ra49, ra50, ra51, ra52, ra53, ra54, ra56, ra57, ra58, ra59, ra60, ra65, ra66⟩, ⟨rb1, rb2, rb3, rb4, rb5, rb6, rb7, rb8, rb9, rb10, rb11, rb12, rb13, rb14, rb15, rb16, rb17, rb18, rb19, rb20, rb21, rb22, rb23, rb24, rb25, rb26, rb27, rb28, rb29, rb30, rb31, rb32, rb33, rb34, rb35, rb36, rb37, rb38, rb39, rb40, rb41, rb42⟩⟩ := hE
  have hok2 := hok.2.1
  intro c
  induction c with
  | zero =>
    intro h X pv i2 o3 hc hS
    obtain ⟨_, _, _, hX, _⟩ := hS
    have h1 := hX.2.1
    have h2 := hX.2.2.1
    omega
  | succ c ih =>
    intro h X pv i2 o3 hc hS
    obtain ⟨s1, s0, s2, s3, s4, s5, s6, s7, s8, kr, s9⟩ := hS
    obtain ⟨⟨x44, x43⟩, xe, xb, x32, x27⟩ := id s3
    have zn : h.2.1 y 2 = n := by rw [s1.2 2 (by omega) (by omega) (by omega) (by omega) (by omega) (by omega) (by omega) (by omega)]; exact hn
    have zp : h.2.1 y 1 = p := by rw [s1.2 1 (by omega) (by omega) (by omega) (by omega) (by omega) (by omega) (by omega) (by omega)]; exact hp
    apply mz_go hG 80 [152, 165, 231]
    simp only [mf_M_dictionary, ca_M_dictionary, dc_M_dictionary_0, dc_M_dictionary_1, dc_M_dictionary_2, dc_M_dictionary_3, dc_M_dictionary_4, dc_M_dictionary_5, dc_M_dictionary_6, dc_M_dictionary_7, dc_M_dictionary_8, dc_M_dictionary_9, dc_M_dictionary_10, dc_M_dictionary_11, dc_M_dictionary_12, dc_M_dictionary_13, dc_M_dictionary_14, dc_M_dictionary_15, dc_M_dictionary_16, dc_M_dictionary_17, dc_M_dictionary_18, dc_M_dictionary_19, fl_M, sl_M, sg_M_isIdeal, sg_M_isComplete, sg_M_listPlain, sg_M_multiplyAll, sg_M_depends, sg_M_copyRow, sg_M_addFound, sg_M_nextOne, sg_M_rowOfLeast, sg_M_copyFour, cpn_model_0, cpn_model_1, mx_cp_r, ra0, ra13, ra14, ra47, ra51, ra52, ra53, ra54, ra60, rb10, rb11, rb28, rb32, rb33, rb34, rb35, rb40, mzr_iconst, mzr_bipush, mzr_sipush, mzr_lconst, mzr_iload, mzr_iload_n, mzr_aload, mzr_aload_n, mzr_lload, mzr_lload_n, mzr_istore, mzr_istore_n, mzr_astore, mzr_astore_n, mzr_lstore, mzr_lstore_n, mzr_iinc, mzr_iadd, mzr_isub, mzr_imul, mzr_iand, mzr_ior, mzr_ixor, mzr_ishl, mzr_ishr, mzr_iushr, mzr_idiv, mzr_irem, mzr_ineg, mzr_ladd, mzr_lsub, mzr_lmul, mzr_lrem, mzr_lcmp, mzr_i2l, mzr_l2i, mzr_i2b, mzr_dup, mzr_pop, mzr_dup2, mzr_ifCond_eq, mzr_if_icmp_eq, mzr_ifCond_ne, mzr_if_icmp_ne, mzr_ifCond_lt, mzr_if_icmp_lt, mzr_ifCond_ge, mzr_if_icmp_ge, mzr_ifCond_gt, mzr_if_icmp_gt, mzr_ifCond_le, mzr_if_icmp_le, mzr_goto, mzr_iaload, mzr_baload, mzr_laload, mzr_aaload, mzr_iastore, mzr_bastore, mzr_lastore, mzr_arraylength, mzr_getfield, mzr_putfield, mzr_getstatic, mzr_ldc, mzr_ldc_w, mzr_ldc2_w, mzr_ireturn, mzr_return_, mzr_copy, mzr_static, mzr_virtual, mzr_new, mz_tk, mz_dp, mz_ln, mz_sz, mz_af_v, mz_af_s, mz_wp_s, mz_w1, mz_g, mz_st, mz_k, mz_s2, mz_nx, mz_en, mx_to, mz_c1, ↓reduceIte, Nat.reduceAdd, Nat.reduceSub, Nat.reduceMul, Nat.reduceMod, Nat.reduceDiv, Nat.reduceEqDiff, Nat.reduceLeDiff, Nat.reduceLT, Int.reduceAdd, Int.reduceSub, Int.reduceNeg, Int.reduceMul, Int.reduceLE, Int.reduceLT, Int.reduceEq, Int.reduceToNat, Int.reduceNegSucc, Int.cast_ofNat_Int, Int32.reduceToInt, Int64.reduceToInt, Int.zero_add, Int.add_zero, Fin.isValue, Fin.val_zero, Fin.val_one, Fin.val_two, reduceCtorEq, or_false, false_or, or_true, true_or, or_self, and_true, true_and, and_self, not_true_eq_false, not_false_eq_true, implies_true, forall_const, List.mem_cons, List.not_mem_nil, false_implies, true_implies, imp_false, Nat.zero_add, Option.some.injEq, Prod.mk.injEq]
    repeat' first | omega | refine mz_it (fun hh => ?_) (fun hh => ?_) | refine And.intro ?_ ?_
    refine cm_nextOne (d + 1) hG hE' zn hok2 s3 (fun k hk => by have := (s8 k hk).2; omega) (fun h1 k v hk hv f1 g1 z61 z62 hm hfn => ?_) (fun h1 f1 g1 hno => ?_)
    · generalize hmd : al_p (fg_B X.1 k) (tb_x v) = m at *
      have D1 : dk_f h h1 y := dk_f.of f1 (by intro c hc; simp at hc; omega) (fun q q0 q1 q2 q3 q4 q5 q6 q7 => g1 q q6 q7)
      have y1 : ∀ c, c ≠ y → c ≠ y + 36 → c ≠ y + 40 → h1.2.1 c = h.2.1 c := fun c c1 c2 c3 => f1.2.2 c (by simp; omega)
      have hbv := s8 k hk
      simp only [mf_M_dictionary, ca_M_dictionary, dc_M_dictionary_0, dc_M_dictionary_1, dc_M_dictionary_2, dc_M_dictionary_3, dc_M_dictionary_4, dc_M_dictionary_5, dc_M_dictionary_6, dc_M_dictionary_7, dc_M_dictionary_8, dc_M_dictionary_9, dc_M_dictionary_10, dc_M_dictionary_11, dc_M_dictionary_12, dc_M_dictionary_13, dc_M_dictionary_14, dc_M_dictionary_15, dc_M_dictionary_16, dc_M_dictionary_17, dc_M_dictionary_18, dc_M_dictionary_19, fl_M, sl_M, sg_M_isIdeal, sg_M_isComplete, sg_M_listPlain, sg_M_multiplyAll, sg_M_depends, sg_M_copyRow, sg_M_addFound, sg_M_nextOne, sg_M_rowOfLeast, sg_M_copyFour, cpn_model_0, cpn_model_1, mx_cp_r, ra0, ra13, ra14, ra47, ra51, ra52, ra53, ra54, ra60, rb10, rb11, rb28, rb32, rb33, rb34, rb35, rb40, mzr_iconst, mzr_bipush, mzr_sipush, mzr_lconst, mzr_iload, mzr_iload_n, mzr_aload, mzr_aload_n, mzr_lload, mzr_lload_n, mzr_istore, mzr_istore_n, mzr_astore, mzr_astore_n, mzr_lstore, mzr_lstore_n, mzr_iinc, mzr_iadd, mzr_isub, mzr_imul, mzr_iand, mzr_ior, mzr_ixor, mzr_ishl, mzr_ishr, mzr_iushr, mzr_idiv, mzr_irem, mzr_ineg, mzr_ladd, mzr_lsub, mzr_lmul, mzr_lrem, mzr_lcmp, mzr_i2l, mzr_l2i, mzr_i2b, mzr_dup, mzr_pop, mzr_dup2, mzr_ifCond_eq, mzr_if_icmp_eq, mzr_ifCond_ne, mzr_if_icmp_ne, mzr_ifCond_lt, mzr_if_icmp_lt, mzr_ifCond_ge, mzr_if_icmp_ge, mzr_ifCond_gt, mzr_if_icmp_gt, mzr_ifCond_le, mzr_if_icmp_le, mzr_goto, mzr_iaload, mzr_baload, mzr_laload, mzr_aaload, mzr_iastore, mzr_bastore, mzr_lastore, mzr_arraylength, mzr_getfield, mzr_putfield, mzr_getstatic, mzr_ldc, mzr_ldc_w, mzr_ldc2_w, mzr_ireturn, mzr_return_, mzr_copy, mzr_static, mzr_virtual, mzr_new, mz_tk, mz_dp, mz_ln, mz_sz, mz_af_v, mz_af_s, mz_wp_s, mz_w1, mz_g, mz_st, mz_k, mz_s2, mz_nx, mz_en, mx_to, mz_c1, ↓reduceIte, Nat.reduceAdd, Nat.reduceSub, Nat.reduceMul, Nat.reduceMod, Nat.reduceDiv, Nat.reduceEqDiff, Nat.reduceLeDiff, Nat.reduceLT, Int.reduceAdd, Int.reduceSub, Int.reduceNeg, Int.reduceMul, Int.reduceLE, Int.reduceLT, Int.reduceEq, Int.reduceToNat, Int.reduceNegSucc, Int.cast_ofNat_Int, Int32.reduceToInt, Int64.reduceToInt, Int.zero_add, Int.add_zero, Fin.isValue, Fin.val_zero, Fin.val_one, Fin.val_two, reduceCtorEq, or_false, false_or, or_true, true_or, or_self, and_true, true_and, and_self, not_true_eq_false, not_false_eq_true, implies_true, forall_const, List.mem_cons, List.not_mem_nil, false_implies, true_implies, imp_false, Nat.zero_add, Option.some.injEq, Prod.mk.injEq]
      repeat' first | omega | refine mz_it (fun hh => ?_) (fun hh => ?_) | refine And.intro ?_ ?_
      refine cm_rowOfLeast (K := k) (V := v) (b := fg_B X.1 k) (l := L) (nf := nf) (d + 1) hG hE' (by rw [g1 1 (by omega) (by omega)]; exact zp) hp2 (by rw [g1 40 (by omega) (by omega)]; exact s2) hL40 z61 z62 (by omega) (by omega) (by rw [y1 _ (by omega) (by omega) (by omega)]; exact s4.1 k hk) (fun q hq => by rw [y1 _ (by omega) (by omega) (by omega)]; exact s6 v q hv hq) (fun s => hnf.2.1 _ _ s hbv.1) (fun h2 f2 hrow => ?_)
      rw [hmd] at hrow
      have D2 : dk_f h1 h2 y := dk_f.of f2 (by intro c hc; simp at hc; omega) (fun q _ _ _ _ _ _ _ _ => by rw [f2.2.2 y (by simp)])
      have y2 : ∀ c, c ≠ y → c ≠ y + 34 → c ≠ y + 36 → c ≠ y + 40 → h2.2.1 c = h.2.1 c := fun c c1 c2 c3 c4 => by rw [f2.2.2 c (by simp; omega)]; exact y1 c c1 c3 c4
      have g2 : ∀ q, q ≠ 61 → q ≠ 62 → h2.2.1 y q = h.2.1 y q := fun q q1 q2 => by rw [f2.2.2 y (by simp)]; exact g1 q q1 q2
      have hm2 : m4 h2 (y + 40) 0 m := hm.fr' (f2.2.2 _ (by simp))
      -- behind the copied row
      have body : ∀ h3 o3', mz_fr h2 h3 [y + 28] → (∀ q, h3.2.1 (y + 28) q = if 40 * X.1.length ≤ q ∧ q < 40 * X.1.length + 40 then h2.2.1 (y + 34) (q - 40 * X.1.length) else h2.2.1 (y + 28) q) → mz_V e (d + 3) mm_M_dictionary 197 [some (.inr (.inl y)), some (.inl (I : Int)), some (.inl i2), o3'] [] h3 P := by
        intro h3 o3' f3 v3
        have D3 : dk_f h h3 y := (D1.tr D2).tr (dk_f.of f3 (by intro c hc; simp at hc; omega) (fun q _ _ _ _ _ _ _ _ => by rw [f3.2.2 y (by simp)]))
        have y3 : ∀ c, c ≠ y → c ≠ y + 28 → c ≠ y + 34 → c ≠ y + 36 → c ≠ y + 40 → h3.2.1 c = h.2.1 c := fun c c1 c2 c3 c4 c5 => by rw [f3.2.2 c (by simp; omega)]; exact y2 c c1 c3 c4 c5
        have g3 : ∀ q, q ≠ 61 → q ≠ 62 → h3.2.1 y q = h.2.1 y q := fun q q1 q2 => by rw [f3.2.2 y (by simp)]; exact g2 q q1 q2
        have hX3 : rm_X h3 y X := s3.fr (fun k hk => g3 k (by omega) (by omega)) (fun c hc => y3 _ (by omega) (by omega) (by omega) (by omega) (by omega))
        have hw3 : rw_S (fun k c => h3.2.1 (y + 28) (40 * k + c)) (fun k c => h3.2.1 (y + 29) (40 * k + c)) (fun k c => h3.2.1 (y + 30) (40 * k + c)) pv p L nf X.1 := by
          refine rw_c s4 xb hL40 (fun k' c' hk' hc' => ?_) (fun k' c' hk' hc' => ?_) (fun k' c' hk' hc' => ?_)
          · rw [v3, if_neg (by omega), y2 _ (by omega) (by omega) (by omega) (by omega)]
          · rw [y3 _ (by omega) (by omega) (by omega) (by omega) (by omega)]
          · rw [y3 _ (by omega) (by omega) (by omega) (by omega) (by omega)]
        have hp3 : ∀ k, k < X.1.length → h3.2.1 (y + 31) k = (pv k : Int) := fun k hk => by rw [y3 _ (by omega) (by omega) (by omega) (by omega) (by omega)]; exact s5 k hk
        have hfo3 : fo_1 p (fun q => h3.2.1 (y + 28) (40 * X.1.length + q)) L nf m := hrow.c (fun q hq => by rw [v3, if_pos (by omega), Nat.add_sub_cancel_left])
        have hm3 : m4 h3 (y + 40) 0 m := hm2.fr' (f3.2.2 _ (by simp))
        apply mz_go hG 80 [152, 231]
        simp only [mf_M_dictionary, ca_M_dictionary, dc_M_dictionary_0, dc_M_dictionary_1, dc_M_dictionary_2, dc_M_dictionary_3, dc_M_dictionary_4, dc_M_dictionary_5, dc_M_dictionary_6, dc_M_dictionary_7, dc_M_dictionary_8, dc_M_dictionary_9, dc_M_dictionary_10, dc_M_dictionary_11, dc_M_dictionary_12, dc_M_dictionary_13, dc_M_dictionary_14, dc_M_dictionary_15, dc_M_dictionary_16, dc_M_dictionary_17, dc_M_dictionary_18, dc_M_dictionary_19, fl_M, sl_M, sg_M_isIdeal, sg_M_isComplete, sg_M_listPlain, sg_M_multiplyAll, sg_M_depends, sg_M_copyRow, sg_M_addFound, sg_M_nextOne, sg_M_rowOfLeast, sg_M_copyFour, cpn_model_0, cpn_model_1, mx_cp_r, ra0, ra13, ra14, ra47, ra51, ra52, ra53, ra54, ra60, rb10, rb11, rb28, rb32, rb33, rb34, rb35, rb40, mzr_iconst, mzr_bipush, mzr_sipush, mzr_lconst, mzr_iload, mzr_iload_n, mzr_aload, mzr_aload_n, mzr_lload, mzr_lload_n, mzr_istore, mzr_istore_n, mzr_astore, mzr_astore_n, mzr_lstore, mzr_lstore_n, mzr_iinc, mzr_iadd, mzr_isub, mzr_imul, mzr_iand, mzr_ior, mzr_ixor, mzr_ishl, mzr_ishr, mzr_iushr, mzr_idiv, mzr_irem, mzr_ineg, mzr_ladd, mzr_lsub, mzr_lmul, mzr_lrem, mzr_lcmp, mzr_i2l, mzr_l2i, mzr_i2b, mzr_dup, mzr_pop, mzr_dup2, mzr_ifCond_eq, mzr_if_icmp_eq, mzr_ifCond_ne, mzr_if_icmp_ne, mzr_ifCond_lt, mzr_if_icmp_lt, mzr_ifCond_ge, mzr_if_icmp_ge, mzr_ifCond_gt, mzr_if_icmp_gt, mzr_ifCond_le, mzr_if_icmp_le, mzr_goto, mzr_iaload, mzr_baload, mzr_laload, mzr_aaload, mzr_iastore, mzr_bastore, mzr_lastore, mzr_arraylength, mzr_getfield, mzr_putfield, mzr_getstatic, mzr_ldc, mzr_ldc_w, mzr_ldc2_w, mzr_ireturn, mzr_return_, mzr_copy, mzr_static, mzr_virtual, mzr_new, mz_tk, mz_dp, mz_ln, mz_sz, mz_af_v, mz_af_s, mz_wp_s, mz_w1, mz_g, mz_st, mz_k, mz_s2, mz_nx, mz_en, mx_to, mz_c1, ↓reduceIte, Nat.reduceAdd, Nat.reduceSub, Nat.reduceMul, Nat.reduceMod, Nat.reduceDiv, Nat.reduceEqDiff, Nat.reduceLeDiff, Nat.reduceLT, Int.reduceAdd, Int.reduceSub, Int.reduceNeg, Int.reduceMul, Int.reduceLE, Int.reduceLT, Int.reduceEq, Int.reduceToNat, Int.reduceNegSucc, Int.cast_ofNat_Int, Int32.reduceToInt, Int64.reduceToInt, Int.zero_add, Int.add_zero, Fin.isValue, Fin.val_zero, Fin.val_one, Fin.val_two, reduceCtorEq, or_false, false_or, or_true, true_or, or_self, and_true, true_and, and_self, not_true_eq_false, not_false_eq_true, implies_true, forall_const, List.mem_cons, List.not_mem_nil, false_implies, true_implies, imp_false, Nat.zero_add, Option.some.injEq, Prod.mk.injEq]
        repeat' first | omega | refine mz_it (fun hh => ?_) (fun hh => ?_) | refine And.intro ?_ ?_
        refine cm_depends (B := X.1) (pv := pv) (m := m) (l := L) (nf := nf) (d + 1) hG hE' (by rw [g3 1 (by omega) (by omega)]; exact zp) hp2 (by rw [g3 40 (by omega) (by omega)]; exact s2) hL40 hX3.1.2 xb hw3 hp3 (by rw [f3.2.2 _ (by simp)]; exact hrow) (fun h4 f4 hel hz => ?_) (fun h4 s f4 hel hs hsz hst => ?_)
        · -- an entry
          obtain ⟨fk, fd⟩ := lw_yes xb hL40 hel hz
          have D4 : dk_f h h4 y := D3.tr (dk_f.of f4 (by intro c hc; simp at hc; omega) (fun q _ _ _ _ _ _ _ _ => by rw [f4.2.2 y (by simp)]))
          have hnew : ∀ b, b ∈ X.2 → b.1 ≠ m := fun b hb q => hfn.1.2.2 b hb (by rw [q]; exact ⟨Nat.le_refl _, Nat.le_refl _, Nat.le_refl _, Nat.le_refl _⟩)
          have hel4 := en_len hok2 s7 hk hv (by rw [hmd]; exact hnew)
          have y4 : ∀ c, c ≠ y → c ≠ y + 28 → c ≠ y + 34 → c ≠ y + 35 → c ≠ y + 36 → c ≠ y + 40 → h4.2.1 c = h.2.1 c := fun c c1 c2 c3 c4 c5 c6 => by rw [f4.2.2 c (by simp; omega)]; exact y3 c c1 c2 c3 c5 c6
          have g4 : ∀ q, q ≠ 61 → q ≠ 62 → h4.2.1 y q = h.2.1 y q := fun q q1 q2 => by rw [f4.2.2 y (by simp)]; exact g3 q q1 q2
          have w44 : h4.2.1 y 44 = X.2.length := by rw [g4 44 (by omega) (by omega)]; exact x44
          have i0 : (4 : Int) * (X.2.length : Int) = ((4 * X.2.length : Nat) : Int) := by omega
          simp only [mf_M_dictionary, ca_M_dictionary, dc_M_dictionary_0, dc_M_dictionary_1, dc_M_dictionary_2, dc_M_dictionary_3, dc_M_dictionary_4, dc_M_dictionary_5, dc_M_dictionary_6, dc_M_dictionary_7, dc_M_dictionary_8, dc_M_dictionary_9, dc_M_dictionary_10, dc_M_dictionary_11, dc_M_dictionary_12, dc_M_dictionary_13, dc_M_dictionary_14, dc_M_dictionary_15, dc_M_dictionary_16, dc_M_dictionary_17, dc_M_dictionary_18, dc_M_dictionary_19, fl_M, sl_M, sg_M_isIdeal, sg_M_isComplete, sg_M_listPlain, sg_M_multiplyAll, sg_M_depends, sg_M_copyRow, sg_M_addFound, sg_M_nextOne, sg_M_rowOfLeast, sg_M_copyFour, cpn_model_0, cpn_model_1, mx_cp_r, ra0, ra13, ra14, ra47, ra51, ra52, ra53, ra54, ra60, rb10, rb11, rb28, rb32, rb33, rb34, rb35, rb40, w44, i0, mzr_iconst, mzr_bipush, mzr_sipush, mzr_lconst, mzr_iload, mzr_iload_n, mzr_aload, mzr_aload_n, mzr_lload, mzr_lload_n, mzr_istore, mzr_istore_n, mzr_astore, mzr_astore_n, mzr_lstore, mzr_lstore_n, mzr_iinc, mzr_iadd, mzr_isub, mzr_imul, mzr_iand, mzr_ior, mzr_ixor, mzr_ishl, mzr_ishr, mzr_iushr, mzr_idiv, mzr_irem, mzr_ineg, mzr_ladd, mzr_lsub, mzr_lmul, mzr_lrem, mzr_lcmp, mzr_i2l, mzr_l2i, mzr_i2b, mzr_dup, mzr_pop, mzr_dup2, mzr_ifCond_eq, mzr_if_icmp_eq, mzr_ifCond_ne, mzr_if_icmp_ne, mzr_ifCond_lt, mzr_if_icmp_lt, mzr_ifCond_ge, mzr_if_icmp_ge, mzr_ifCond_gt, mzr_if_icmp_gt, mzr_ifCond_le, mzr_if_icmp_le, mzr_goto, mzr_iaload, mzr_baload, mzr_laload, mzr_aaload, mzr_iastore, mzr_bastore, mzr_lastore, mzr_arraylength, mzr_getfield, mzr_putfield, mzr_getstatic, mzr_ldc, mzr_ldc_w, mzr_ldc2_w, mzr_ireturn, mzr_return_, mzr_copy, mzr_static, mzr_virtual, mzr_new, mz_tk, mz_dp, mz_ln, mz_sz, mz_af_v, mz_af_s, mz_wp_s, mz_w1, mz_g, mz_st, mz_k, mz_s2, mz_nx, mz_en, mx_to, mz_c1, ↓reduceIte, Nat.reduceAdd, Nat.reduceSub, Nat.reduceMul, Nat.reduceMod, Nat.reduceDiv, Nat.reduceEqDiff, Nat.reduceLeDiff, Nat.reduceLT, Int.reduceAdd, Int.reduceSub, Int.reduceNeg, Int.reduceMul, Int.reduceLE, Int.reduceLT, Int.reduceEq, Int.reduceToNat, Int.reduceNegSucc, Int.cast_ofNat_Int, Int32.reduceToInt, Int64.reduceToInt, Int.zero_add, Int.add_zero, Fin.isValue, Fin.val_zero, Fin.val_one, Fin.val_two, reduceCtorEq, or_false, false_or, or_true, true_or, or_self, and_true, true_and, and_self, not_true_eq_false, not_false_eq_true, implies_true, forall_const, List.mem_cons, List.not_mem_nil, false_implies, true_implies, imp_false, Nat.zero_add, Option.some.injEq, Prod.mk.injEq]
          repeat' first | omega | refine mz_it (fun hh => ?_) (fun hh => ?_) | refine And.intro ?_ ?_
          refine cm_copyFour (i := 0) (j := 4 * X.2.length) (d + 2) hG rb40 rb32 (by omega) (by omega) (by omega) (by omega) (hm3.fr' (f4.2.2 _ (by simp))) (Or.inl (by omega)) (fun h5 f5 q1 q2 => ?_)
          have lpe : ∀ (cc q : Nat) (h6 : mz_H), q + cc = 40 → mz_fr h5 h6 [y + 33] → (∀ r, h6.2.1 (y + 33) r = if 40 * X.2.length ≤ r ∧ r < 40 * X.2.length + q then h4.2.1 (y + 35) (r - 40 * X.2.length) else h4.2.1 (y + 33) r) → mz_V e (d + 3) mm_M_dictionary 231 [some (.inr (.inl y)), some (.inl (I : Int)), some (.inl i2), some (.inl (q : Int))] [] h6 P := by
            intro cc
            induction cc with
            | zero =>
              intro q h6 hq f6 v6
              obtain rfl : q = 40 := by omega
              have u44 : h6.2.1 y 44 = X.2.length := by rw [f6.2.2 y (by simp), f5.2.2 y (by simp)]; exact w44
              have hlen : (X.2 ++ [(m, cu4 (h4.2.1 (y + 35)))]).length = X.2.length + 1 := by rw [List.length_append, List.length_singleton]
              generalize hgg : mz_w h6 y 44 ((X.2.length : Int) + 1) = h7
              have f7 : mz_fr h6 h7 [y] := by rw [← hgg]; exact mz_fr.w _ _ _ _ (by simp)
              have y7 : ∀ c, c ≠ y → h7.2.1 c = h6.2.1 c := fun c hc => f7.2.2 c (by simp; exact hc)
              have g7 : ∀ q, q ≠ 44 → h7.2.1 y q = h4.2.1 y q := fun q hq => by rw [← hgg, mz_w_g, if_neg (by omega), f6.2.2 y (by simp), f5.2.2 y (by simp)]
              have y47 : ∀ c, c ≠ y → c ≠ y + 32 → c ≠ y + 33 → h7.2.1 c = h4.2.1 c := fun c c1 c2 c3 => by rw [y7 c c1, f6.2.2 c (by simp; omega), f5.2.2 c (by simp; omega)]
              have D7 : dk_f h4 h7 y := dk_f.of (A := [y, y + 32, y + 33]) (((f5.mono (by simp)).tr (f6.mono (by simp))).tr (f7.mono (by simp))) (by intro c hc; simp at hc; omega) (fun q q0 q1 q2 q3 q4 q5 q6 q7 => g7 q q3)
              have hX7 : rm_X h7 y (X.1, X.2 ++ [(m, cu4 (h4.2.1 (y + 35)))]) := by
                refine ⟨⟨?_, ?_⟩, ?_, xb, fun k' hk' => ?_, fun k' hk' => ?_⟩
                · show h7.2.1 y 44 = ((X.2 ++ [(m, cu4 (h4.2.1 (y + 35)))]).length : Int)
                  rw [hlen, ← hgg, mz_w_g, if_pos ⟨rfl, rfl⟩]; omega
                · show h7.2.1 y 43 = (X.1.length : Int)
                  rw [g7 43 (by omega), g4 43 (by omega) (by omega)]; exact x43
                · show (X.2 ++ [(m, cu4 (h4.2.1 (y + 35)))]).length ≤ 160
                  rw [hlen]; omega
                · replace hk' : k' < (X.2 ++ [(m, cu4 (h4.2.1 (y + 35)))]).length := hk'
                  show m4 h7 (y + 32) (4 * k') (fg_H (X.2 ++ [(m, cu4 (h4.2.1 (y + 35)))]) k').1 ∧ ∀ q, q < 40 → h7.2.1 (y + 33) (40 * k' + q) = (fg_H (X.2 ++ [(m, cu4 (h4.2.1 (y + 35)))]) k').2 q
                  rw [hlen] at hk'
                  have e32 : h7.2.1 (y + 32) = h5.2.1 (y + 32) := by rw [y7 _ (by omega), f6.2.2 _ (by simp)]
                  by_cases hkl : k' < X.2.length
                  · rw [fg_H_l _ _ _ hkl]
                    obtain ⟨z1, z2⟩ := x32 k' hkl
                    refine ⟨((z1.fr' (y4 _ (by omega) (by omega) (by omega) (by omega) (by omega) (by omega))).fr (fun v hv => q2 _ (by omega))).fr' e32, fun q hq => ?_⟩
                    rw [y7 _ (by omega), v6, if_neg (by omega), y4 _ (by omega) (by omega) (by omega) (by omega) (by omega) (by omega)]
                    exact z2 q hq
                  · obtain rfl : k' = X.2.length := by omega
                    rw [fg_H_r]
                    refine ⟨q1.fr' e32, fun q hq => ?_⟩
                    rw [y7 _ (by omega), v6, if_pos (by omega), Nat.add_sub_cancel_left]
                    show _ = cu4 (h4.2.1 (y + 35)) q
                    unfold cu4
                    rw [if_pos hq]
                · exact (x27 k' hk').fr' (by rw [y47 _ (by omega) (by omega) (by omega), y4 _ (by omega) (by omega) (by omega) (by omega) (by omega) (by omega)])
              have hx := ih h7 (X.1, X.2 ++ [(m, cu4 (h4.2.1 (y + 35)))]) pv i2 (some (.inl 40)) (by
                show c + X.1.length + (X.2 ++ [(m, cu4 (h4.2.1 (y + 35)))]).length = 201
                rw [hlen]; omega) ⟨(s1.tr D4).tr D7, by rw [g7 0 (by omega), g4 0 (by omega) (by omega)]; exact s0, by rw [g7 40 (by omega), g4 40 (by omega) (by omega)]; exact s2, hX7, by
                refine rw_c hw3 xb hL40 (fun k' c' hk' hc' => ?_) (fun k' c' hk' hc' => ?_) (fun k' c' hk' hc' => ?_)
                · rw [y47 _ (by omega) (by omega) (by omega), f4.2.2 _ (by simp)]
                · rw [y47 _ (by omega) (by omega) (by omega), f4.2.2 _ (by simp)]
                · rw [y47 _ (by omega) (by omega) (by omega), f4.2.2 _ (by simp)], fun k' hk' => by rw [y47 _ (by omega) (by omega) (by omega), f4.2.2 _ (by simp)]; exact hp3 k' hk', fun v' k' hv' hk' => by
                rw [y47 _ (by omega) (by omega) (by omega), y4 _ (by omega) (by omega) (by omega) (by omega) (by omega) (by omega)]
                exact s6 v' k' hv' hk', by rw [← hmd]; exact en_E s7 hk hv (by rw [hmd]; exact hnew), s8, kr + 1, fg_r_s kr _ _ _ s9 ⟨m, hfn, Or.inl ⟨_, fk, fd, rfl⟩⟩⟩
              apply mz_go hG 80 [152, 231]
              simp only [mf_M_dictionary, ca_M_dictionary, dc_M_dictionary_0, dc_M_dictionary_1, dc_M_dictionary_2, dc_M_dictionary_3, dc_M_dictionary_4, dc_M_dictionary_5, dc_M_dictionary_6, dc_M_dictionary_7, dc_M_dictionary_8, dc_M_dictionary_9, dc_M_dictionary_10, dc_M_dictionary_11, dc_M_dictionary_12, dc_M_dictionary_13, dc_M_dictionary_14, dc_M_dictionary_15, dc_M_dictionary_16, dc_M_dictionary_17, dc_M_dictionary_18, dc_M_dictionary_19, fl_M, sl_M, sg_M_isIdeal, sg_M_isComplete, sg_M_listPlain, sg_M_multiplyAll, sg_M_depends, sg_M_copyRow, sg_M_addFound, sg_M_nextOne, sg_M_rowOfLeast, sg_M_copyFour, cpn_model_0, cpn_model_1, mx_cp_r, ra0, ra13, ra14, ra47, ra51, ra52, ra53, ra54, ra60, rb10, rb11, rb28, rb32, rb33, rb34, rb35, rb40, u44, mzr_iconst, mzr_bipush, mzr_sipush, mzr_lconst, mzr_iload, mzr_iload_n, mzr_aload, mzr_aload_n, mzr_lload, mzr_lload_n, mzr_istore, mzr_istore_n, mzr_astore, mzr_astore_n, mzr_lstore, mzr_lstore_n, mzr_iinc, mzr_iadd, mzr_isub, mzr_imul, mzr_iand, mzr_ior, mzr_ixor, mzr_ishl, mzr_ishr, mzr_iushr, mzr_idiv, mzr_irem, mzr_ineg, mzr_ladd, mzr_lsub, mzr_lmul, mzr_lrem, mzr_lcmp, mzr_i2l, mzr_l2i, mzr_i2b, mzr_dup, mzr_pop, mzr_dup2, mzr_ifCond_eq, mzr_if_icmp_eq, mzr_ifCond_ne, mzr_if_icmp_ne, mzr_ifCond_lt, mzr_if_icmp_lt, mzr_ifCond_ge, mzr_if_icmp_ge, mzr_ifCond_gt, mzr_if_icmp_gt, mzr_ifCond_le, mzr_if_icmp_le, mzr_goto, mzr_iaload, mzr_baload, mzr_laload, mzr_aaload, mzr_iastore, mzr_bastore, mzr_lastore, mzr_arraylength, mzr_getfield, mzr_putfield, mzr_getstatic, mzr_ldc, mzr_ldc_w, mzr_ldc2_w, mzr_ireturn, mzr_return_, mzr_copy, mzr_static, mzr_virtual, mzr_new, mz_tk, mz_dp, mz_ln, mz_sz, mz_af_v, mz_af_s, mz_wp_s, mz_w1, mz_g, mz_st, mz_k, mz_s2, mz_nx, mz_en, mx_to, mz_c1, ↓reduceIte, Nat.reduceAdd, Nat.reduceSub, Nat.reduceMul, Nat.reduceMod, Nat.reduceDiv, Nat.reduceEqDiff, Nat.reduceLeDiff, Nat.reduceLT, Int.reduceAdd, Int.reduceSub, Int.reduceNeg, Int.reduceMul, Int.reduceLE, Int.reduceLT, Int.reduceEq, Int.reduceToNat, Int.reduceNegSucc, Int.cast_ofNat_Int, Int32.reduceToInt, Int64.reduceToInt, Int.zero_add, Int.add_zero, Fin.isValue, Fin.val_zero, Fin.val_one, Fin.val_two, reduceCtorEq, or_false, false_or, or_true, true_or, or_self, and_true, true_and, and_self, not_true_eq_false, not_false_eq_true, implies_true, forall_const, List.mem_cons, List.not_mem_nil, false_implies, true_implies, imp_false, Nat.zero_add, Option.some.injEq, Prod.mk.injEq]
              repeat' first | omega | refine mz_it (fun hh => ?_) (fun hh => ?_) | refine And.intro ?_ ?_
              all_goals rw [hgg]
              all_goals exact hx
            | succ cc ihe =>
              intro q h6 hq f6 v6
              have u44 : h6.2.1 y 44 = X.2.length := by rw [f6.2.2 y (by simp), f5.2.2 y (by simp)]; exact w44
              have i1 : (40 : Int) * (X.2.length : Int) + (q : Int) = ((40 * X.2.length + q : Nat) : Int) := by omega
              have u35 : h6.2.1 (y + 35) q = h4.2.1 (y + 35) q := by rw [f6.2.2 _ (by simp), f5.2.2 _ (by simp)]
              have hx := ihe (q + 1) (mz_w h6 (y + 33) (40 * X.2.length + q) (h4.2.1 (y + 35) q)) (by omega) (f6.tr (mz_fr.w _ _ _ _ (by simp))) (fun r => by
                rw [mz_w_g]
                by_cases hrq : r = 40 * X.2.length + q
                · rw [if_pos ⟨rfl, hrq⟩, if_pos (by omega), hrq, Nat.add_sub_cancel_left]
                · rw [if_neg (fun w => hrq w.2), v6]
                  by_cases hr2 : 40 * X.2.length ≤ r ∧ r < 40 * X.2.length + q
                  · rw [if_pos hr2, if_pos (by omega)]
                  · rw [if_neg hr2, if_neg (by omega)])
              apply mz_go hG 80 [231]
              simp only [mf_M_dictionary, ca_M_dictionary, dc_M_dictionary_0, dc_M_dictionary_1, dc_M_dictionary_2, dc_M_dictionary_3, dc_M_dictionary_4, dc_M_dictionary_5, dc_M_dictionary_6, dc_M_dictionary_7, dc_M_dictionary_8, dc_M_dictionary_9, dc_M_dictionary_10, dc_M_dictionary_11, dc_M_dictionary_12, dc_M_dictionary_13, dc_M_dictionary_14, dc_M_dictionary_15, dc_M_dictionary_16, dc_M_dictionary_17, dc_M_dictionary_18, dc_M_dictionary_19, fl_M, sl_M, sg_M_isIdeal, sg_M_isComplete, sg_M_listPlain, sg_M_multiplyAll, sg_M_depends, sg_M_copyRow, sg_M_addFound, sg_M_nextOne, sg_M_rowOfLeast, sg_M_copyFour, cpn_model_0, cpn_model_1, mx_cp_r, ra0, ra13, ra14, ra47, ra51, ra52, ra53, ra54, ra60, rb10, rb11, rb28, rb32, rb33, rb34, rb35, rb40, u44, i1, u35, Int.toNat_natCast, mzr_iconst, mzr_bipush, mzr_sipush, mzr_lconst, mzr_iload, mzr_iload_n, mzr_aload, mzr_aload_n, mzr_lload, mzr_lload_n, mzr_istore, mzr_istore_n, mzr_astore, mzr_astore_n, mzr_lstore, mzr_lstore_n, mzr_iinc, mzr_iadd, mzr_isub, mzr_imul, mzr_iand, mzr_ior, mzr_ixor, mzr_ishl, mzr_ishr, mzr_iushr, mzr_idiv, mzr_irem, mzr_ineg, mzr_ladd, mzr_lsub, mzr_lmul, mzr_lrem, mzr_lcmp, mzr_i2l, mzr_l2i, mzr_i2b, mzr_dup, mzr_pop, mzr_dup2, mzr_ifCond_eq, mzr_if_icmp_eq, mzr_ifCond_ne, mzr_if_icmp_ne, mzr_ifCond_lt, mzr_if_icmp_lt, mzr_ifCond_ge, mzr_if_icmp_ge, mzr_ifCond_gt, mzr_if_icmp_gt, mzr_ifCond_le, mzr_if_icmp_le, mzr_goto, mzr_iaload, mzr_baload, mzr_laload, mzr_aaload, mzr_iastore, mzr_bastore, mzr_lastore, mzr_arraylength, mzr_getfield, mzr_putfield, mzr_getstatic, mzr_ldc, mzr_ldc_w, mzr_ldc2_w, mzr_ireturn, mzr_return_, mzr_copy, mzr_static, mzr_virtual, mzr_new, mz_tk, mz_dp, mz_ln, mz_sz, mz_af_v, mz_af_s, mz_wp_s, mz_w1, mz_g, mz_st, mz_k, mz_s2, mz_nx, mz_en, mx_to, mz_c1, ↓reduceIte, Nat.reduceAdd, Nat.reduceSub, Nat.reduceMul, Nat.reduceMod, Nat.reduceDiv, Nat.reduceEqDiff, Nat.reduceLeDiff, Nat.reduceLT, Int.reduceAdd, Int.reduceSub, Int.reduceNeg, Int.reduceMul, Int.reduceLE, Int.reduceLT, Int.reduceEq, Int.reduceToNat, Int.reduceNegSucc, Int.cast_ofNat_Int, Int32.reduceToInt, Int64.reduceToInt, Int.zero_add, Int.add_zero, Fin.isValue, Fin.val_zero, Fin.val_one, Fin.val_two, reduceCtorEq, or_false, false_or, or_true, true_or, or_self, and_true, true_and, and_self, not_true_eq_false, not_false_eq_true, implies_true, forall_const, List.mem_cons, List.not_mem_nil, false_implies, true_implies, imp_false, Nat.zero_add, Option.some.injEq, Prod.mk.injEq]
              repeat' first | omega | refine mz_it (fun hh => ?_) (fun hh => ?_) | refine And.intro ?_ ?_
              all_goals exact hx
          have hx := lpe 40 0 h5 (by omega) (mz_fr.refl _ _) (fun r => by rw [if_neg (by omega), f5.2.2 _ (by simp)])
          simp only [mf_M_dictionary, ca_M_dictionary, dc_M_dictionary_0, dc_M_dictionary_1, dc_M_dictionary_2, dc_M_dictionary_3, dc_M_dictionary_4, dc_M_dictionary_5, dc_M_dictionary_6, dc_M_dictionary_7, dc_M_dictionary_8, dc_M_dictionary_9, dc_M_dictionary_10, dc_M_dictionary_11, dc_M_dictionary_12, dc_M_dictionary_13, dc_M_dictionary_14, dc_M_dictionary_15, dc_M_dictionary_16, dc_M_dictionary_17, dc_M_dictionary_18, dc_M_dictionary_19, fl_M, sl_M, sg_M_isIdeal, sg_M_isComplete, sg_M_listPlain, sg_M_multiplyAll, sg_M_depends, sg_M_copyRow, sg_M_addFound, sg_M_nextOne, sg_M_rowOfLeast, sg_M_copyFour, cpn_model_0, cpn_model_1, mx_cp_r, ra0, ra13, ra14, ra47, ra51, ra52, ra53, ra54, ra60, rb10, rb11, rb28, rb32, rb33, rb34, rb35, rb40, mzr_iconst, mzr_bipush, mzr_sipush, mzr_lconst, mzr_iload, mzr_iload_n, mzr_aload, mzr_aload_n, mzr_lload, mzr_lload_n, mzr_istore, mzr_istore_n, mzr_astore, mzr_astore_n, mzr_lstore, mzr_lstore_n, mzr_iinc, mzr_iadd, mzr_isub, mzr_imul, mzr_iand, mzr_ior, mzr_ixor, mzr_ishl, mzr_ishr, mzr_iushr, mzr_idiv, mzr_irem, mzr_ineg, mzr_ladd, mzr_lsub, mzr_lmul, mzr_lrem, mzr_lcmp, mzr_i2l, mzr_l2i, mzr_i2b, mzr_dup, mzr_pop, mzr_dup2, mzr_ifCond_eq, mzr_if_icmp_eq, mzr_ifCond_ne, mzr_if_icmp_ne, mzr_ifCond_lt, mzr_if_icmp_lt, mzr_ifCond_ge, mzr_if_icmp_ge, mzr_ifCond_gt, mzr_if_icmp_gt, mzr_ifCond_le, mzr_if_icmp_le, mzr_goto, mzr_iaload, mzr_baload, mzr_laload, mzr_aaload, mzr_iastore, mzr_bastore, mzr_lastore, mzr_arraylength, mzr_getfield, mzr_putfield, mzr_getstatic, mzr_ldc, mzr_ldc_w, mzr_ldc2_w, mzr_ireturn, mzr_return_, mzr_copy, mzr_static, mzr_virtual, mzr_new, mz_tk, mz_dp, mz_ln, mz_sz, mz_af_v, mz_af_s, mz_wp_s, mz_w1, mz_g, mz_st, mz_k, mz_s2, mz_nx, mz_en, mx_to, mz_c1, ↓reduceIte, Nat.reduceAdd, Nat.reduceSub, Nat.reduceMul, Nat.reduceMod, Nat.reduceDiv, Nat.reduceEqDiff, Nat.reduceLeDiff, Nat.reduceLT, Int.reduceAdd, Int.reduceSub, Int.reduceNeg, Int.reduceMul, Int.reduceLE, Int.reduceLT, Int.reduceEq, Int.reduceToNat, Int.reduceNegSucc, Int.cast_ofNat_Int, Int32.reduceToInt, Int64.reduceToInt, Int.zero_add, Int.add_zero, Fin.isValue, Fin.val_zero, Fin.val_one, Fin.val_two, reduceCtorEq, or_false, false_or, or_true, true_or, or_self, and_true, true_and, and_self, not_true_eq_false, not_false_eq_true, implies_true, forall_const, List.mem_cons, List.not_mem_nil, false_implies, true_implies, imp_false, Nat.zero_add, Option.some.injEq, Prod.mk.injEq]
          repeat' first | omega | refine mz_it (fun hh => ?_) (fun hh => ?_) | refine And.intro ?_ ?_
          all_goals exact hx
        · -- one more found
          have hno := rw_no (by omega) hw3 hel hs hsz
          have hlt := rw_len hw3 hel hs hsz
          have D4 : dk_f h h4 y := D3.tr (dk_f.of f4 (by intro c hc; simp at hc; omega) (fun q _ _ _ _ _ _ _ _ => by rw [f4.2.2 y (by simp)]))
          have y4 : ∀ c, c ≠ y + 34 → c ≠ y + 35 → h4.2.1 c = h3.2.1 c := fun c c1 c2 => f4.2.2 c (by simp; omega)
          simp only [mf_M_dictionary, ca_M_dictionary, dc_M_dictionary_0, dc_M_dictionary_1, dc_M_dictionary_2, dc_M_dictionary_3, dc_M_dictionary_4, dc_M_dictionary_5, dc_M_dictionary_6, dc_M_dictionary_7, dc_M_dictionary_8, dc_M_dictionary_9, dc_M_dictionary_10, dc_M_dictionary_11, dc_M_dictionary_12, dc_M_dictionary_13, dc_M_dictionary_14, dc_M_dictionary_15, dc_M_dictionary_16, dc_M_dictionary_17, dc_M_dictionary_18, dc_M_dictionary_19, fl_M, sl_M, sg_M_isIdeal, sg_M_isComplete, sg_M_listPlain, sg_M_multiplyAll, sg_M_depends, sg_M_copyRow, sg_M_addFound, sg_M_nextOne, sg_M_rowOfLeast, sg_M_copyFour, cpn_model_0, cpn_model_1, mx_cp_r, ra0, ra13, ra14, ra47, ra51, ra52, ra53, ra54, ra60, rb10, rb11, rb28, rb32, rb33, rb34, rb35, rb40, mzr_iconst, mzr_bipush, mzr_sipush, mzr_lconst, mzr_iload, mzr_iload_n, mzr_aload, mzr_aload_n, mzr_lload, mzr_lload_n, mzr_istore, mzr_istore_n, mzr_astore, mzr_astore_n, mzr_lstore, mzr_lstore_n, mzr_iinc, mzr_iadd, mzr_isub, mzr_imul, mzr_iand, mzr_ior, mzr_ixor, mzr_ishl, mzr_ishr, mzr_iushr, mzr_idiv, mzr_irem, mzr_ineg, mzr_ladd, mzr_lsub, mzr_lmul, mzr_lrem, mzr_lcmp, mzr_i2l, mzr_l2i, mzr_i2b, mzr_dup, mzr_pop, mzr_dup2, mzr_ifCond_eq, mzr_if_icmp_eq, mzr_ifCond_ne, mzr_if_icmp_ne, mzr_ifCond_lt, mzr_if_icmp_lt, mzr_ifCond_ge, mzr_if_icmp_ge, mzr_ifCond_gt, mzr_if_icmp_gt, mzr_ifCond_le, mzr_if_icmp_le, mzr_goto, mzr_iaload, mzr_baload, mzr_laload, mzr_aaload, mzr_iastore, mzr_bastore, mzr_lastore, mzr_arraylength, mzr_getfield, mzr_putfield, mzr_getstatic, mzr_ldc, mzr_ldc_w, mzr_ldc2_w, mzr_ireturn, mzr_return_, mzr_copy, mzr_static, mzr_virtual, mzr_new, mz_tk, mz_dp, mz_ln, mz_sz, mz_af_v, mz_af_s, mz_wp_s, mz_w1, mz_g, mz_st, mz_k, mz_s2, mz_nx, mz_en, mx_to, mz_c1, ↓reduceIte, Nat.reduceAdd, Nat.reduceSub, Nat.reduceMul, Nat.reduceMod, Nat.reduceDiv, Nat.reduceEqDiff, Nat.reduceLeDiff, Nat.reduceLT, Int.reduceAdd, Int.reduceSub, Int.reduceNeg, Int.reduceMul, Int.reduceLE, Int.reduceLT, Int.reduceEq, Int.reduceToNat, Int.reduceNegSucc, Int.cast_ofNat_Int, Int32.reduceToInt, Int64.reduceToInt, Int.zero_add, Int.add_zero, Fin.isValue, Fin.val_zero, Fin.val_one, Fin.val_two, reduceCtorEq, or_false, false_or, or_true, true_or, or_self, and_true, true_and, and_self, not_true_eq_false, not_false_eq_true, implies_true, forall_const, List.mem_cons, List.not_mem_nil, false_implies, true_implies, imp_false, Nat.zero_add, Option.some.injEq, Prod.mk.injEq]
          repeat' first | omega | refine mz_it (fun hh => ?_) (fun hh => ?_) | refine And.intro ?_ ?_
          refine cm_addFound (X := X) (pv := pv) (m := m) (s := s) (l := L) (nf := nf) d hG hE' (by rw [y4 _ (by omega) (by omega), g3 1 (by omega) (by omega)]; exact zp) hp2 hpr (by rw [y4 _ (by omega) (by omega), g3 40 (by omega) (by omega)]; exact s2) hL40 (hX3.fr (fun k _ => by rw [y4 _ (by omega) (by omega)]) (fun c hc => y4 _ (by omega) (by omega))) (by
            rw [y4 _ (by omega) (by omega), y4 _ (by omega) (by omega), y4 _ (by omega) (by omega)]
            exact hw3) (fun k' hk' => by rw [y4 _ (by omega) (by omega)]; exact hp3 k' hk') hel hs hsz hst (by rw [y4 _ (by omega) (by omega)]; exact hfo3) (hm3.fr' (y4 _ (by omega) (by omega))) (fun h5 pv' f5 g5 hX5 hw5 hp5 => ?_)
          have hlen : (X.1 ++ [m]).length = X.1.length + 1 := by rw [List.length_append, List.length_singleton]
          have D5 : dk_f h4 h5 y := dk_f.of f5 (by intro c hc; simp at hc; omega) (fun q q0 q1 q2 q3 q4 q5 q6 q7 => g5 q q2)
          have hx := ih h5 (X.1 ++ [m], X.2) pv' i2 o3' (by
            show c + (X.1 ++ [m]).length + X.2.length = 201
            rw [hlen]; omega) ⟨(s1.tr D4).tr D5, by rw [g5 0 (by omega), y4 _ (by omega) (by omega), g3 0 (by omega) (by omega)]; exact s0, by rw [g5 40 (by omega), y4 _ (by omega) (by omega), g3 40 (by omega) (by omega)]; exact s2, hX5, hw5, fun k' hk' => hp5 k' (by
              replace hk' : k' < (X.1 ++ [m]).length := hk'
              rw [hlen] at hk'; exact hk'), fun v' k' hv' hk' => by
              rw [f5.2.2 _ (by simp), y4 _ (by omega) (by omega), y3 _ (by omega) (by omega) (by omega) (by omega) (by omega)]
              exact s6 v' k' hv' hk', en_B s7, fun i hi => by
              replace hi : i < (X.1 ++ [m]).length := hi
              show tb_v n (fg_B (X.1 ++ [m]) i) ∧ al_dg (fg_B (X.1 ++ [m]) i) ≤ i
              rw [hlen] at hi
              by_cases hil : i < X.1.length
              · rw [fg_B_l _ _ _ hil]; exact s8 i hil
              · obtain rfl : i = X.1.length := by omega
                rw [fg_B_r, ← hmd]
                refine ⟨tb_v_p hbv.1 (tb_x_v hv hok2), ?_⟩
                rw [al_dg_p, tb_x_d]
                omega, kr + 1, fg_r_s kr _ _ _ s9 ⟨m, hfn, Or.inr ⟨hno, rfl⟩⟩⟩
          simp only [mf_M_dictionary, ca_M_dictionary, dc_M_dictionary_0, dc_M_dictionary_1, dc_M_dictionary_2, dc_M_dictionary_3, dc_M_dictionary_4, dc_M_dictionary_5, dc_M_dictionary_6, dc_M_dictionary_7, dc_M_dictionary_8, dc_M_dictionary_9, dc_M_dictionary_10, dc_M_dictionary_11, dc_M_dictionary_12, dc_M_dictionary_13, dc_M_dictionary_14, dc_M_dictionary_15, dc_M_dictionary_16, dc_M_dictionary_17, dc_M_dictionary_18, dc_M_dictionary_19, fl_M, sl_M, sg_M_isIdeal, sg_M_isComplete, sg_M_listPlain, sg_M_multiplyAll, sg_M_depends, sg_M_copyRow, sg_M_addFound, sg_M_nextOne, sg_M_rowOfLeast, sg_M_copyFour, cpn_model_0, cpn_model_1, mx_cp_r, ra0, ra13, ra14, ra47, ra51, ra52, ra53, ra54, ra60, rb10, rb11, rb28, rb32, rb33, rb34, rb35, rb40, mzr_iconst, mzr_bipush, mzr_sipush, mzr_lconst, mzr_iload, mzr_iload_n, mzr_aload, mzr_aload_n, mzr_lload, mzr_lload_n, mzr_istore, mzr_istore_n, mzr_astore, mzr_astore_n, mzr_lstore, mzr_lstore_n, mzr_iinc, mzr_iadd, mzr_isub, mzr_imul, mzr_iand, mzr_ior, mzr_ixor, mzr_ishl, mzr_ishr, mzr_iushr, mzr_idiv, mzr_irem, mzr_ineg, mzr_ladd, mzr_lsub, mzr_lmul, mzr_lrem, mzr_lcmp, mzr_i2l, mzr_l2i, mzr_i2b, mzr_dup, mzr_pop, mzr_dup2, mzr_ifCond_eq, mzr_if_icmp_eq, mzr_ifCond_ne, mzr_if_icmp_ne, mzr_ifCond_lt, mzr_if_icmp_lt, mzr_ifCond_ge, mzr_if_icmp_ge, mzr_ifCond_gt, mzr_if_icmp_gt, mzr_ifCond_le, mzr_if_icmp_le, mzr_goto, mzr_iaload, mzr_baload, mzr_laload, mzr_aaload, mzr_iastore, mzr_bastore, mzr_lastore, mzr_arraylength, mzr_getfield, mzr_putfield, mzr_getstatic, mzr_ldc, mzr_ldc_w, mzr_ldc2_w, mzr_ireturn, mzr_return_, mzr_copy, mzr_static, mzr_virtual, mzr_new, mz_tk, mz_dp, mz_ln, mz_sz, mz_af_v, mz_af_s, mz_wp_s, mz_w1, mz_g, mz_st, mz_k, mz_s2, mz_nx, mz_en, mx_to, mz_c1, ↓reduceIte, Nat.reduceAdd, Nat.reduceSub, Nat.reduceMul, Nat.reduceMod, Nat.reduceDiv, Nat.reduceEqDiff, Nat.reduceLeDiff, Nat.reduceLT, Int.reduceAdd, Int.reduceSub, Int.reduceNeg, Int.reduceMul, Int.reduceLE, Int.reduceLT, Int.reduceEq, Int.reduceToNat, Int.reduceNegSucc, Int.cast_ofNat_Int, Int32.reduceToInt, Int64.reduceToInt, Int.zero_add, Int.add_zero, Fin.isValue, Fin.val_zero, Fin.val_one, Fin.val_two, reduceCtorEq, or_false, false_or, or_true, true_or, or_self, and_true, true_and, and_self, not_true_eq_false, not_false_eq_true, implies_true, forall_const, List.mem_cons, List.not_mem_nil, false_implies, true_implies, imp_false, Nat.zero_add, Option.some.injEq, Prod.mk.injEq]
          repeat' first | omega | refine mz_it (fun hh => ?_) (fun hh => ?_) | refine And.intro ?_ ?_
          all_goals exact hx
      have lpr : ∀ (cc q : Nat) (h3 : mz_H), q + cc = 40 → mz_fr h2 h3 [y + 28] → (∀ r, h3.2.1 (y + 28) r = if 40 * X.1.length ≤ r ∧ r < 40 * X.1.length + q then h2.2.1 (y + 34) (r - 40 * X.1.length) else h2.2.1 (y + 28) r) → mz_V e (d + 3) mm_M_dictionary 165 [some (.inr (.inl y)), some (.inl (I : Int)), some (.inl i2), some (.inl (q : Int))] [] h3 P := by
        intro cc
        induction cc with
        | zero =>
          intro q h3 hq f3 v3
          obtain rfl : q = 40 := by omega
          have hx := body h3 (some (.inl 40)) f3 v3
          apply mz_go hG 80 [165, 197]
          simp only [mf_M_dictionary, ca_M_dictionary, dc_M_dictionary_0, dc_M_dictionary_1, dc_M_dictionary_2, dc_M_dictionary_3, dc_M_dictionary_4, dc_M_dictionary_5, dc_M_dictionary_6, dc_M_dictionary_7, dc_M_dictionary_8, dc_M_dictionary_9, dc_M_dictionary_10, dc_M_dictionary_11, dc_M_dictionary_12, dc_M_dictionary_13, dc_M_dictionary_14, dc_M_dictionary_15, dc_M_dictionary_16, dc_M_dictionary_17, dc_M_dictionary_18, dc_M_dictionary_19, fl_M, sl_M, sg_M_isIdeal, sg_M_isComplete, sg_M_listPlain, sg_M_multiplyAll, sg_M_depends, sg_M_copyRow, sg_M_addFound, sg_M_nextOne, sg_M_rowOfLeast, sg_M_copyFour, cpn_model_0, cpn_model_1, mx_cp_r, ra0, ra13, ra14, ra47, ra51, ra52, ra53, ra54, ra60, rb10, rb11, rb28, rb32, rb33, rb34, rb35, rb40, mzr_iconst, mzr_bipush, mzr_sipush, mzr_lconst, mzr_iload, mzr_iload_n, mzr_aload, mzr_aload_n, mzr_lload, mzr_lload_n, mzr_istore, mzr_istore_n, mzr_astore, mzr_astore_n, mzr_lstore, mzr_lstore_n, mzr_iinc, mzr_iadd, mzr_isub, mzr_imul, mzr_iand, mzr_ior, mzr_ixor, mzr_ishl, mzr_ishr, mzr_iushr, mzr_idiv, mzr_irem, mzr_ineg, mzr_ladd, mzr_lsub, mzr_lmul, mzr_lrem, mzr_lcmp, mzr_i2l, mzr_l2i, mzr_i2b, mzr_dup, mzr_pop, mzr_dup2, mzr_ifCond_eq, mzr_if_icmp_eq, mzr_ifCond_ne, mzr_if_icmp_ne, mzr_ifCond_lt, mzr_if_icmp_lt, mzr_ifCond_ge, mzr_if_icmp_ge, mzr_ifCond_gt, mzr_if_icmp_gt, mzr_ifCond_le, mzr_if_icmp_le, mzr_goto, mzr_iaload, mzr_baload, mzr_laload, mzr_aaload, mzr_iastore, mzr_bastore, mzr_lastore, mzr_arraylength, mzr_getfield, mzr_putfield, mzr_getstatic, mzr_ldc, mzr_ldc_w, mzr_ldc2_w, mzr_ireturn, mzr_return_, mzr_copy, mzr_static, mzr_virtual, mzr_new, mz_tk, mz_dp, mz_ln, mz_sz, mz_af_v, mz_af_s, mz_wp_s, mz_w1, mz_g, mz_st, mz_k, mz_s2, mz_nx, mz_en, mx_to, mz_c1, ↓reduceIte, Nat.reduceAdd, Nat.reduceSub, Nat.reduceMul, Nat.reduceMod, Nat.reduceDiv, Nat.reduceEqDiff, Nat.reduceLeDiff, Nat.reduceLT, Int.reduceAdd, Int.reduceSub, Int.reduceNeg, Int.reduceMul, Int.reduceLE, Int.reduceLT, Int.reduceEq, Int.reduceToNat, Int.reduceNegSucc, Int.cast_ofNat_Int, Int32.reduceToInt, Int64.reduceToInt, Int.zero_add, Int.add_zero, Fin.isValue, Fin.val_zero, Fin.val_one, Fin.val_two, reduceCtorEq, or_false, false_or, or_true, true_or, or_self, and_true, true_and, and_self, not_true_eq_false, not_false_eq_true, implies_true, forall_const, List.mem_cons, List.not_mem_nil, false_implies, true_implies, imp_false, Nat.zero_add, Option.some.injEq, Prod.mk.injEq]
          repeat' first | omega | refine mz_it (fun hh => ?_) (fun hh => ?_) | refine And.intro ?_ ?_
          all_goals exact hx
        | succ cc ihr =>
          intro q h3 hq f3 v3
          have u43 : h3.2.1 y 43 = X.1.length := by rw [f3.2.2 y (by simp), g2 43 (by omega) (by omega)]; exact x43
          have i1 : (40 : Int) * (X.1.length : Int) + (q : Int) = ((40 * X.1.length + q : Nat) : Int) := by omega
          have u34 : h3.2.1 (y + 34) q = h2.2.1 (y + 34) q := by rw [f3.2.2 _ (by simp)]
          have hx := ihr (q + 1) (mz_w h3 (y + 28) (40 * X.1.length + q) (h2.2.1 (y + 34) q)) (by omega) (f3.tr (mz_fr.w _ _ _ _ (by simp))) (fun r => by
            rw [mz_w_g]
            by_cases hrq : r = 40 * X.1.length + q
            · rw [if_pos ⟨rfl, hrq⟩, if_pos (by omega), hrq, Nat.add_sub_cancel_left]
            · rw [if_neg (fun w => hrq w.2), v3]
              by_cases hr2 : 40 * X.1.length ≤ r ∧ r < 40 * X.1.length + q
              · rw [if_pos hr2, if_pos (by omega)]
              · rw [if_neg hr2, if_neg (by omega)])
          apply mz_go hG 80 [165]
          simp only [mf_M_dictionary, ca_M_dictionary, dc_M_dictionary_0, dc_M_dictionary_1, dc_M_dictionary_2, dc_M_dictionary_3, dc_M_dictionary_4, dc_M_dictionary_5, dc_M_dictionary_6, dc_M_dictionary_7, dc_M_dictionary_8, dc_M_dictionary_9, dc_M_dictionary_10, dc_M_dictionary_11, dc_M_dictionary_12, dc_M_dictionary_13, dc_M_dictionary_14, dc_M_dictionary_15, dc_M_dictionary_16, dc_M_dictionary_17, dc_M_dictionary_18, dc_M_dictionary_19, fl_M, sl_M, sg_M_isIdeal, sg_M_isComplete, sg_M_listPlain, sg_M_multiplyAll, sg_M_depends, sg_M_copyRow, sg_M_addFound, sg_M_nextOne, sg_M_rowOfLeast, sg_M_copyFour, cpn_model_0, cpn_model_1, mx_cp_r, ra0, ra13, ra14, ra47, ra51, ra52, ra53, ra54, ra60, rb10, rb11, rb28, rb32, rb33, rb34, rb35, rb40, u43, i1, u34, Int.toNat_natCast, mzr_iconst, mzr_bipush, mzr_sipush, mzr_lconst, mzr_iload, mzr_iload_n, mzr_aload, mzr_aload_n, mzr_lload, mzr_lload_n, mzr_istore, mzr_istore_n, mzr_astore, mzr_astore_n, mzr_lstore, mzr_lstore_n, mzr_iinc, mzr_iadd, mzr_isub, mzr_imul, mzr_iand, mzr_ior, mzr_ixor, mzr_ishl, mzr_ishr, mzr_iushr, mzr_idiv, mzr_irem, mzr_ineg, mzr_ladd, mzr_lsub, mzr_lmul, mzr_lrem, mzr_lcmp, mzr_i2l, mzr_l2i, mzr_i2b, mzr_dup, mzr_pop, mzr_dup2, mzr_ifCond_eq, mzr_if_icmp_eq, mzr_ifCond_ne, mzr_if_icmp_ne, mzr_ifCond_lt, mzr_if_icmp_lt, mzr_ifCond_ge, mzr_if_icmp_ge, mzr_ifCond_gt, mzr_if_icmp_gt, mzr_ifCond_le, mzr_if_icmp_le, mzr_goto, mzr_iaload, mzr_baload, mzr_laload, mzr_aaload, mzr_iastore, mzr_bastore, mzr_lastore, mzr_arraylength, mzr_getfield, mzr_putfield, mzr_getstatic, mzr_ldc, mzr_ldc_w, mzr_ldc2_w, mzr_ireturn, mzr_return_, mzr_copy, mzr_static, mzr_virtual, mzr_new, mz_tk, mz_dp, mz_ln, mz_sz, mz_af_v, mz_af_s, mz_wp_s, mz_w1, mz_g, mz_st, mz_k, mz_s2, mz_nx, mz_en, mx_to, mz_c1, ↓reduceIte, Nat.reduceAdd, Nat.reduceSub, Nat.reduceMul, Nat.reduceMod, Nat.reduceDiv, Nat.reduceEqDiff, Nat.reduceLeDiff, Nat.reduceLT, Int.reduceAdd, Int.reduceSub, Int.reduceNeg, Int.reduceMul, Int.reduceLE, Int.reduceLT, Int.reduceEq, Int.reduceToNat, Int.reduceNegSucc, Int.cast_ofNat_Int, Int32.reduceToInt, Int64.reduceToInt, Int.zero_add, Int.add_zero, Fin.isValue, Fin.val_zero, Fin.val_one, Fin.val_two, reduceCtorEq, or_false, false_or, or_true, true_or, or_self, and_true, true_and, and_self, not_true_eq_false, not_false_eq_true, implies_true, forall_const, List.mem_cons, List.not_mem_nil, false_implies, true_implies, imp_false, Nat.zero_add, Option.some.injEq, Prod.mk.injEq]
          repeat' first | omega | refine mz_it (fun hh => ?_) (fun hh => ?_) | refine And.intro ?_ ?_
          all_goals exact hx
      have hx := lpr 40 0 h2 (by omega) (mz_fr.refl _ _) (fun r => by rw [if_neg (by omega)])
      simp only [mf_M_dictionary, ca_M_dictionary, dc_M_dictionary_0, dc_M_dictionary_1, dc_M_dictionary_2, dc_M_dictionary_3, dc_M_dictionary_4, dc_M_dictionary_5, dc_M_dictionary_6, dc_M_dictionary_7, dc_M_dictionary_8, dc_M_dictionary_9, dc_M_dictionary_10, dc_M_dictionary_11, dc_M_dictionary_12, dc_M_dictionary_13, dc_M_dictionary_14, dc_M_dictionary_15, dc_M_dictionary_16, dc_M_dictionary_17, dc_M_dictionary_18, dc_M_dictionary_19, fl_M, sl_M, sg_M_isIdeal, sg_M_isComplete, sg_M_listPlain, sg_M_multiplyAll, sg_M_depends, sg_M_copyRow, sg_M_addFound, sg_M_nextOne, sg_M_rowOfLeast, sg_M_copyFour, cpn_model_0, cpn_model_1, mx_cp_r, ra0, ra13, ra14, ra47, ra51, ra52, ra53, ra54, ra60, rb10, rb11, rb28, rb32, rb33, rb34, rb35, rb40, mzr_iconst, mzr_bipush, mzr_sipush, mzr_lconst, mzr_iload, mzr_iload_n, mzr_aload, mzr_aload_n, mzr_lload, mzr_lload_n, mzr_istore, mzr_istore_n, mzr_astore, mzr_astore_n, mzr_lstore, mzr_lstore_n, mzr_iinc, mzr_iadd, mzr_isub, mzr_imul, mzr_iand, mzr_ior, mzr_ixor, mzr_ishl, mzr_ishr, mzr_iushr, mzr_idiv, mzr_irem, mzr_ineg, mzr_ladd, mzr_lsub, mzr_lmul, mzr_lrem, mzr_lcmp, mzr_i2l, mzr_l2i, mzr_i2b, mzr_dup, mzr_pop, mzr_dup2, mzr_ifCond_eq, mzr_if_icmp_eq, mzr_ifCond_ne, mzr_if_icmp_ne, mzr_ifCond_lt, mzr_if_icmp_lt, mzr_ifCond_ge, mzr_if_icmp_ge, mzr_ifCond_gt, mzr_if_icmp_gt, mzr_ifCond_le, mzr_if_icmp_le, mzr_goto, mzr_iaload, mzr_baload, mzr_laload, mzr_aaload, mzr_iastore, mzr_bastore, mzr_lastore, mzr_arraylength, mzr_getfield, mzr_putfield, mzr_getstatic, mzr_ldc, mzr_ldc_w, mzr_ldc2_w, mzr_ireturn, mzr_return_, mzr_copy, mzr_static, mzr_virtual, mzr_new, mz_tk, mz_dp, mz_ln, mz_sz, mz_af_v, mz_af_s, mz_wp_s, mz_w1, mz_g, mz_st, mz_k, mz_s2, mz_nx, mz_en, mx_to, mz_c1, ↓reduceIte, Nat.reduceAdd, Nat.reduceSub, Nat.reduceMul, Nat.reduceMod, Nat.reduceDiv, Nat.reduceEqDiff, Nat.reduceLeDiff, Nat.reduceLT, Int.reduceAdd, Int.reduceSub, Int.reduceNeg, Int.reduceMul, Int.reduceLE, Int.reduceLT, Int.reduceEq, Int.reduceToNat, Int.reduceNegSucc, Int.cast_ofNat_Int, Int32.reduceToInt, Int64.reduceToInt, Int.zero_add, Int.add_zero, Fin.isValue, Fin.val_zero, Fin.val_one, Fin.val_two, reduceCtorEq, or_false, false_or, or_true, true_or, or_self, and_true, true_and, and_self, not_true_eq_false, not_false_eq_true, implies_true, forall_const, List.mem_cons, List.not_mem_nil, false_implies, true_implies, imp_false, Nat.zero_add, Option.some.injEq, Prod.mk.injEq]
      repeat' first | omega | refine mz_it (fun hh => ?_) (fun hh => ?_) | refine And.intro ?_ ?_
      all_goals exact hx
    · have D1 : dk_f h h1 y := dk_f.of f1 (by intro c hc; simp at hc; omega) (fun q q0 q1 q2 q3 q4 q5 q6 q7 => g1 q q6 q7)
      have w44 : h1.2.1 y 44 = X.2.length := by rw [g1 44 (by omega) (by omega)]; exact x44
      have fin := hP h1 X kr (s1.tr D1) (by rw [g1 0 (by omega) (by omega)]; exact s0) (s3.fr (fun k hk => g1 k (by omega) (by omega)) (fun c hc => f1.2.2 _ (by simp; omega))) s9 hno
      simp only [mf_M_dictionary, ca_M_dictionary, dc_M_dictionary_0, dc_M_dictionary_1, dc_M_dictionary_2, dc_M_dictionary_3, dc_M_dictionary_4, dc_M_dictionary_5, dc_M_dictionary_6, dc_M_dictionary_7, dc_M_dictionary_8, dc_M_dictionary_9, dc_M_dictionary_10, dc_M_dictionary_11, dc_M_dictionary_12, dc_M_dictionary_13, dc_M_dictionary_14, dc_M_dictionary_15, dc_M_dictionary_16, dc_M_dictionary_17, dc_M_dictionary_18, dc_M_dictionary_19, fl_M, sl_M, sg_M_isIdeal, sg_M_isComplete, sg_M_listPlain, sg_M_multiplyAll, sg_M_depends, sg_M_copyRow, sg_M_addFound, sg_M_nextOne, sg_M_rowOfLeast, sg_M_copyFour, cpn_model_0, cpn_model_1, mx_cp_r, ra0, ra13, ra14, ra47, ra51, ra52, ra53, ra54, ra60, rb10, rb11, rb28, rb32, rb33, rb34, rb35, rb40, w44, mzr_iconst, mzr_bipush, mzr_sipush, mzr_lconst, mzr_iload, mzr_iload_n, mzr_aload, mzr_aload_n, mzr_lload, mzr_lload_n, mzr_istore, mzr_istore_n, mzr_astore, mzr_astore_n, mzr_lstore, mzr_lstore_n, mzr_iinc, mzr_iadd, mzr_isub, mzr_imul, mzr_iand, mzr_ior, mzr_ixor, mzr_ishl, mzr_ishr, mzr_iushr, mzr_idiv, mzr_irem, mzr_ineg, mzr_ladd, mzr_lsub, mzr_lmul, mzr_lrem, mzr_lcmp, mzr_i2l, mzr_l2i, mzr_i2b, mzr_dup, mzr_pop, mzr_dup2, mzr_ifCond_eq, mzr_if_icmp_eq, mzr_ifCond_ne, mzr_if_icmp_ne, mzr_ifCond_lt, mzr_if_icmp_lt, mzr_ifCond_ge, mzr_if_icmp_ge, mzr_ifCond_gt, mzr_if_icmp_gt, mzr_ifCond_le, mzr_if_icmp_le, mzr_goto, mzr_iaload, mzr_baload, mzr_laload, mzr_aaload, mzr_iastore, mzr_bastore, mzr_lastore, mzr_arraylength, mzr_getfield, mzr_putfield, mzr_getstatic, mzr_ldc, mzr_ldc_w, mzr_ldc2_w, mzr_ireturn, mzr_return_, mzr_copy, mzr_static, mzr_virtual, mzr_new, mz_tk, mz_dp, mz_ln, mz_sz, mz_af_v, mz_af_s, mz_wp_s, mz_w1, mz_g, mz_st, mz_k, mz_s2, mz_nx, mz_en, mx_to, mz_c1, ↓reduceIte, Nat.reduceAdd, Nat.reduceSub, Nat.reduceMul, Nat.reduceMod, Nat.reduceDiv, Nat.reduceEqDiff, Nat.reduceLeDiff, Nat.reduceLT, Int.reduceAdd, Int.reduceSub, Int.reduceNeg, Int.reduceMul, Int.reduceLE, Int.reduceLT, Int.reduceEq, Int.reduceToNat, Int.reduceNegSucc, Int.cast_ofNat_Int, Int32.reduceToInt, Int64.reduceToInt, Int.zero_add, Int.add_zero, Fin.isValue, Fin.val_zero, Fin.val_one, Fin.val_two, reduceCtorEq, or_false, false_or, or_true, true_or, or_self, and_true, true_and, and_self, not_true_eq_false, not_false_eq_true, implies_true, forall_const, List.mem_cons, List.not_mem_nil, false_implies, true_implies, imp_false, Nat.zero_add, Option.some.injEq, Prod.mk.injEq]
      repeat' first | omega | refine mz_it (fun hh => ?_) (fun hh => ?_) | refine And.intro ?_ ?_
      all_goals exact fin
end RDICT
