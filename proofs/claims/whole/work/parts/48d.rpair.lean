/- rows of a space, cut at 126 -/
def rr_r (H : mz_H) (y i c : Nat) : Nat → Int := cu (fun k => H.2.1 (y + 8) (126 * (126 * i + c) + k))
section RPAIR
variable {e : mz_E} {H : mz_H} {P : mz_O → mz_H → Prop} {y i : Nat} {p : Int} {n o : Nat} {g : iG} {dd : Nat}
theorem rr_ec (hok : tb_ok n o) (hd : dd ≤ tb_h n) (hg : ∀ k, k < g.1 → pl p n (g.2.1 k)) (hb : rb_S H y i p n o g dd) : al_ec p (tb_F n (dd + 1)) (iv_L p n o g dd) (rr_r H y i) := by
  intro c hc
  have h1 := iv_L_b hok hd hg hc
  have h2 := tb_F_126 hok hd
  obtain ⟨a1, a2, a3, a4, a5⟩ := hb.2 c (by omega) hc
  refine ⟨h1, ?_, fun j hj => ?_⟩
  · unfold rr_r
    rw [cu_1 (by omega), a2]
    exact al_e_r _ _
  · unfold rr_r
    by_cases hj2 : j < 126
    · rw [cu_1 hj2, a3 j hj hj2]; exact al_e_r _ _
    · exact cu_z (by omega)
theorem rr_V (hb : rb_S H y i p n o g dd) (hok : tb_ok n o) (hd : dd ≤ tb_h n) (hg : ∀ k, k < g.1 → pl p n (g.2.1 k)) {c : Nat} (hc : iv_L p n o g dd c) : iv_V p n o g dd (rr_r H y i c) := by
  have h1 := iv_L_b hok hd hg hc
  have h2 := tb_F_126 hok hd
  exact (hb.2 c (by omega) hc).2.2.2.2
theorem rr_st (hp : 2 ≤ p) (hok : tb_ok n o) (hd : dd ≤ tb_h n) (hg : ∀ k, k < g.1 → pl p n (g.2.1 k)) (hb : rb_S H y i p n o g dd) {j : Nat} (hj : j < tb_F n (dd + 1)) (hn : ¬ iv_L p n o g dd j) : ¬ ∃ c, iv_C p n o g dd c ∧ al_le (tb_T n o c) (tb_T n o j) := by
  rintro ⟨c, hc, hle⟩
  obtain ⟨a, ha⟩ := al_le_i.mp hle
  exact hn (sL_up (by omega) hok hd (rr_ec hok hd hg hb) (fun l hl => rr_V hb hok hd hg hl) (fun f l h1 h2 h3 => ⟨f, h1, h2, h3⟩) hc.1 hj ha)
theorem rr_B (hp : 2 ≤ p) (hok : tb_ok n o) (hd : dd ≤ tb_h n) (hg : ∀ k, k < g.1 → pl p n (g.2.1 k)) (hb : rb_S H y i p n o g dd) (hcp : iv_cp p n o g dd) : al_B p (tb_F n (dd + 1)) (tb_T n o) (al_lt o) (iv_V p n o g dd) (iv_L p n o g dd) (iv_C p n o g dd) (rr_r H y i) := by
  have hec := rr_ec hok hd hg hb
  refine sp_B hok hd (sG_z hok hd hg) hec (fun l hl => rr_V hb hok hd hg hl) (fun f l h1 h2 h3 => ⟨f, h1, h2, h3⟩) (fun c1 c2 hc1 hc2 hne => ?_)
  have hbd : ∀ c0, iv_C p n o g dd c0 → c0 < tb_F n (dd + 1) := fun c0 hc0 => (hec c0 hc0.1).1
  rcases Nat.lt_or_gt_of_ne hne with hlt | hlt
  · have := hcp.2 c2 c1 hlt (hbd c2 hc2) hc2 hc1
    unfold lw_P at this
    rw [al_mx_c (tb_T n o c1), Nat.add_comm (al_dg (tb_T n o c1))]
    exact this
  · exact hcp.2 c1 c2 hlt (hbd c1 hc1) hc1 hc2
/- a corner's form out of its row -/
theorem rr_n (hp : 2 ≤ p) (hok : tb_ok n o) (hd : dd ≤ tb_h n) (hg : ∀ k, k < g.1 → pl p n (g.2.1 k)) (hb : rb_S H y i p n o g dd) {l : List al_M} {nf : al_M → al_M → Int} (hnf : nf_A p n o l (fun m => ¬ ∃ c, iv_C p n o g dd c ∧ al_le (tb_T n o c) m) (tb_F n (dd + 1)) (iv_V p n o g dd) nf) {c : Nat} (hc : iv_C p n o g dd c) :
    (∀ x, al_e p (al_S c (fb_g p n o (rr_r H y i c) x)) (nf (tb_T n o c) x)) ∧ (∀ j, j < c → rr_r H y i c j ≠ 0 → ¬ ∃ c', iv_C p n o g dd c' ∧ al_le (tb_T n o c') (tb_T n o j)) := by
  have h1 := iv_L_b hok hd hg hc.1
  have h2 := tb_F_126 hok hd
  have hEN := tb_F_N hok (d := dd + 1) (by omega)
  obtain ⟨a1, a2, a3, a4, a5⟩ := hb.2 c (by omega) hc.1
  have st : ∀ j, j < c → rr_r H y i c j ≠ 0 → ¬ ∃ c', iv_C p n o g dd c' ∧ al_le (tb_T n o c') (tb_T n o j) := fun j hj hne => by
    refine rr_st hp hok hd hg hb (by omega) (fun hL => hne ?_)
    unfold rr_r
    rw [cu_1 (by omega)]
    exact a4 j (by omega) hL (by omega)
  refine ⟨fun x => ?_, st⟩
  refine fb_n (N := 0) hp hok hEN h1 hnf (rr_V hb hok hd hg hc.1) (by unfold rr_r; rw [cu_1 (by omega)]; exact a2) (fun j hj => ?_) st x
  unfold rr_r
  by_cases hj2 : j < 126
  · rw [cu_1 hj2]; exact a3 j hj hj2
  · unfold cu; rw [if_neg hj2]
/- forms of products that lie below m -/
def pr_D (h : mz_H) (y : Nat) (p : Int) (n o : Nat) (l : List al_M) (nf : al_M → al_M → Int) (m : al_M) : Prop :=
  ∀ v k, v < n → k < l.length → al_lt o (al_p (fg_B l k) (tb_x v)) m → fo_1 p (fun q => h.2.1 (y + 26) (40 * (40 * v + k) + q)) l nf (al_p (fg_B l k) (tb_x v))
theorem fo_1.c {p : Int} {row row' : Nat → Int} {l : List al_M} {nf : al_M → al_M → Int} {m : al_M} (h : fo_1 p row l nf m) (he : ∀ q, q < 40 → row' q = row q) : fo_1 p row' l nf m := fun k hk => by rw [he k hk]; exact h k hk
set_option maxRecDepth 100000 in
theorem cm_productAt (d : Nat) {v k : Nat} (hG : mx_G e.1) (hv : v < 4) (hk : k < 40) (hP : P (.inl (some (.inl ((40 * (40 * v + k) : Nat) : Int)))) H) : mz_CA e d j_M_productAt [.inr (.inl y), .inl (v : Int), .inl (k : Int)] H P := by
  have i0 : (40 : Int) * ((40 : Int) * (v : Int) + (k : Int)) = ((40 * (40 * v + k) : Nat) : Int) := by omega
  rw [← i0] at hP
  refine mz_CA_of mr_M_productAt ?_
  simp only [mf_M_productAt, mz_en, List.replicate, Nat.reduceSub, Nat.reduceAdd, Nat.reduceMul]
  apply mz_go hG 40 []
  simp only [mf_M_productAt, ca_M_productAt, dc_M_productAt_0, mzr_iconst, mzr_bipush, mzr_sipush, mzr_lconst, mzr_iload, mzr_iload_n, mzr_aload, mzr_aload_n, mzr_lload, mzr_lload_n, mzr_istore, mzr_istore_n, mzr_astore, mzr_astore_n, mzr_lstore, mzr_lstore_n, mzr_iinc, mzr_iadd, mzr_isub, mzr_imul, mzr_iand, mzr_ior, mzr_ixor, mzr_ishl, mzr_ishr, mzr_iushr, mzr_idiv, mzr_irem, mzr_ineg, mzr_ladd, mzr_lsub, mzr_lmul, mzr_lrem, mzr_lcmp, mzr_i2l, mzr_l2i, mzr_i2b, mzr_dup, mzr_pop, mzr_dup2, mzr_ifCond_eq, mzr_if_icmp_eq, mzr_ifCond_ne, mzr_if_icmp_ne, mzr_ifCond_lt, mzr_if_icmp_lt, mzr_ifCond_ge, mzr_if_icmp_ge, mzr_ifCond_gt, mzr_if_icmp_gt, mzr_ifCond_le, mzr_if_icmp_le, mzr_goto, mzr_iaload, mzr_baload, mzr_laload, mzr_aaload, mzr_iastore, mzr_bastore, mzr_lastore, mzr_arraylength, mzr_getfield, mzr_putfield, mzr_getstatic, mzr_ldc, mzr_ldc_w, mzr_ldc2_w, mzr_ireturn, mzr_return_, mzr_copy, mzr_static, mzr_virtual, mzr_new, mz_tk, mz_dp, mz_ln, mz_sz, mz_af_v, mz_af_s, mz_wp_s, mz_w1, mz_g, mz_st, mz_k, mz_s2, mz_nx, mz_en, mx_to, mz_c1, ↓reduceIte, Nat.reduceAdd, Nat.reduceSub, Nat.reduceMul, Nat.reduceMod, Nat.reduceDiv, Nat.reduceEqDiff, Nat.reduceLeDiff, Nat.reduceLT, Int.reduceAdd, Int.reduceSub, Int.reduceNeg, Int.reduceMul, Int.reduceLE, Int.reduceLT, Int.reduceEq, Int.reduceToNat, Int.reduceNegSucc, Int.cast_ofNat_Int, Int32.reduceToInt, Int64.reduceToInt, Int.zero_add, Int.add_zero, Fin.isValue, Fin.val_zero, Fin.val_one, Fin.val_two, reduceCtorEq, or_false, false_or, or_true, true_or, or_self, and_true, true_and, and_self, not_true_eq_false, not_false_eq_true, implies_true, forall_const, List.mem_cons, List.not_mem_nil, false_implies, true_implies, imp_false, Nat.zero_add, Option.some.injEq, Prod.mk.injEq]
  repeat' first | omega | refine mz_it (fun hh => ?_) (fun hh => ?_) | refine And.intro ?_ ?_
  all_goals exact hP
/- x_V b over a corner other than itself: a step below -/
theorem pr_u {l : List al_M} {c V K : Nat} (hok : tb_ok n o) (hlS : ∀ m, m ∈ l ↔ iv_St p n o g dd m) (hV : V < n) (hK : K < l.length) (hc : iv_C p n o g dd c) (hle : al_le (tb_T n o c) (al_p (fg_B l K) (tb_x V))) {u : Nat} (hu : u < 4) (hgt : tb_g (tb_T n o c) u < tb_g (al_p (fg_B l K) (tb_x V)) u) :
    u < n ∧ tb_g (fg_B l K) u ≠ 0 ∧ (∃ K', K' < l.length ∧ fg_B l K' = tb_s (fg_B l K) u (tb_g (fg_B l K) u - 1) ∧ al_p (al_p (fg_B l K') (tb_x V)) (tb_x u) = al_p (fg_B l K) (tb_x V) ∧ al_le (tb_T n o c) (al_p (fg_B l K') (tb_x V))) := by
  have hn := hok.2.1
  have hSt := (hlS _).mp (fg_B_mem hK)
  generalize hb : fg_B l K = b at *
  generalize htc : tb_T n o c = t at *
  have hnle : ¬ al_le t b := fun q => hSt.2 ⟨c, hc, by rw [htc]; exact q⟩
  rw [al_le_g] at hle
  have hxg : ∀ w, w < 4 → tb_g (al_p b (tb_x V)) w = tb_g b w + (if w = V then 1 else 0) := fun w hw => by
    unfold tb_x
    obtain rfl | rfl | rfl | rfl : w = 0 ∨ w = 1 ∨ w = 2 ∨ w = 3 := by omega
    all_goals
      obtain rfl | rfl | rfl | rfl : V = 0 ∨ V = 1 ∨ V = 2 ∨ V = 3 := by omega
      all_goals simp [tb_g, al_p, tb_s]
  have huV : u ≠ V := by
    rintro rfl
    refine hnle (al_le_g.mpr (fun w hw => ?_))
    have h1 := hle w hw
    rw [hxg w hw] at h1
    by_cases hwu : w = u
    · rw [hxg u hu, if_pos rfl] at hgt
      rw [hwu]; omega
    · rw [if_neg hwu] at h1; omega
  have hbu : tb_g b u ≠ 0 := by
    rw [hxg u hu, if_neg huV] at hgt
    omega
  have hun : u < n := by
    refine Classical.byContradiction (fun hq => hbu ?_)
    have hv := hSt.1
    have hn1 := hok.1
    unfold tb_v at hv
    obtain rfl | rfl | rfl | rfl : u = 0 ∨ u = 1 ∨ u = 2 ∨ u = 3 := by omega
    all_goals
      simp only [tb_g]
      omega
  refine ⟨hun, hbu, ?_⟩
  have hs := tb_g_s b u hu hbu
  generalize htr : tb_s b u (tb_g b u - 1) = tr at *
  have hsg : ∀ w, w < 4 → tb_g tr w = if w = u then tb_g b u - 1 else tb_g b w := fun w hw => by rw [← htr, tb_s_g _ _ _ _ hu hw]
  have htS : iv_St p n o g dd tr := by
    refine ⟨?_, ?_⟩
    · have hv := hSt.1
      rw [← hs] at hv
      unfold tb_v at *
      simp only [al_p] at hv
      omega
    · rintro ⟨c', hc', hle'⟩
      exact hSt.2 ⟨c', hc', al_le_t hle' (al_le_i.mpr ⟨tb_x u, hs.symm⟩)⟩
  obtain ⟨K', hK', hKe⟩ := fg_B_e ((hlS tr).mpr htS)
  refine ⟨K', hK', hKe, ?_, ?_⟩
  · rw [hKe, al_p_a, al_p_c (tb_x V), ← al_p_a, hs]
  · rw [hKe, al_le_g]
    intro w hw
    have h1 := hle w hw
    have h2 : tb_g (al_p tr (tb_x V)) w = tb_g tr w + (if w = V then 1 else 0) := by
      unfold tb_x
      obtain rfl | rfl | rfl | rfl : w = 0 ∨ w = 1 ∨ w = 2 ∨ w = 3 := by omega
      all_goals
        obtain rfl | rfl | rfl | rfl : V = 0 ∨ V = 1 ∨ V = 2 ∨ V = 3 := by omega
        all_goals simp [tb_g, al_p, tb_s]
    rw [h2, hsg w hw]
    rw [hxg w hw] at h1
    rw [hxg u hu, if_neg huV] at hgt
    by_cases hwu : w = u
    · rw [hwu, if_pos rfl, if_neg huV]; omega
    · rw [if_neg hwu]; exact h1
end RPAIR
