theorem fq_S.fr {H h : mz_H} {A : List Nat} {u : Nat} {p : Int} {n o B : Nat} {l : List al_M} {f : Nat → al_M} {nf : al_M → al_M → Int} (hS : fq_S H u p n o B l f nf) (hf : mz_fr H h A) (hA : ∀ i, i ≤ 165 → u + i ∉ A) : fq_S h u p n o B l f nf := by
  obtain ⟨a1, a2, a3, a4, a5⟩ := hS
  refine ⟨a1, ⟨?_, fun j hj => ?_⟩, a3, fun s v hs hv => ?_, fun b hb => ?_⟩
  · rw [hf.2.2 u (hA 0 (by omega))]; exact a2.1
  · rw [hf.2.2 (u + 3) (hA 3 (by omega))]; exact a2.2 j hj
  · rw [hf.2.2 (u + 165) (hA 165 (by omega))]; exact a4 s v hs hv
  · rw [Nat.add_assoc, hf.2.2 (u + (5 + b)) (hA (5 + b) (by omega)), ← Nat.add_assoc]; exact a5 b hb
/- the queue: every product of a small one with a variable is done or waits -/
def lq_S (H : mz_H) (x n : Nat) (X : fg_S) (q : Nat) (mo : Nat → al_M) : Prop :=
  H.2.1 x 10 = q ∧ q ≤ 161 ∧
  (∀ j, j < q → H.2.1 (x + 289) j = (pk (mo j) : Int) ∧ ((X.1 = [] ∧ mo j = (0, 0, 0, 0) ∧ H.2.1 (x + 290) j = -1) ∨ ∃ i v, i < X.1.length ∧ v < n ∧ mo j = al_p (fg_B X.1 i) (tb_x v) ∧ H.2.1 (x + 290) j = ((i * 4 + v : Nat) : Int))) ∧
  (∀ i v, i < X.1.length → v < n → lx_D X (al_p (fg_B X.1 i) (tb_x v)) ∨ ∃ j, j < q ∧ mo j = al_p (fg_B X.1 i) (tb_x v))
def lb_S (n : Nat) (B : List al_M) : Prop := ∀ i, i < B.length → tb_v n (fg_B B i) ∧ al_dg (fg_B B i) ≤ i
def sl_S (l : List al_M) (s : al_M) : Prop := ∃ c, c < l.length ∧ s = fg_B l c
def lr_S (p : Int) (n : Nat) (nf : al_M → al_M → Int) (l : List al_M) (X : fg_S) : Prop := X = ([], []) ∨ ∃ k, fg_r p n nf (sl_S l) k ([(0, 0, 0, 0)], []) X
def lc_S (H : mz_H) (x : Nat) (p : Int) (n : Nat) (l : List al_M) (nf : al_M → al_M → Int) (X : fg_S) (pv : Nat → Nat) (q : Nat) (mo : Nat → al_M) : Prop :=
  lx_S H x n X ∧ lw_S H x p l nf X.1 pv ∧ lq_S H x n X q mo ∧ lb_S n X.1 ∧ lr_S p n nf l X
theorem lw_b {H : mz_H} {x s : Nat} {row sum : Nat → Int} {p : Int} {l : List al_M} {nf : al_M → al_M → Int} {B : List al_M} {pv : Nat → Nat} {m : al_M} (hw : lw_S H x p l nf B pv) (he : el_S row sum p l nf B pv m B.length) (hs : s < 40) (hsz : row s ≠ 0) : B.length < l.length := by
  obtain ⟨a1, a2, a3, a4, a5⟩ := hw
  have hsl : s < l.length := Classical.byContradiction (fun hq => hsz ((he.1 s hs).2.2 (by omega)))
  have hne : ∀ i, i < B.length → pv i ≠ s := fun i hi hq => hsz (hq ▸ he.2.1 i hi)
  have hii : ∀ i k, i < k → k < B.length → pv i ≠ pv k := fun i k hik hk hq => by
    have h1 := (a3 k hk).2.2 i hik
    have h2 := (a3 k hk).2.1
    rw [hq, h2] at h1
    omega
  refine ph_le l.length (B.length + 1) (fun k => if k = B.length then s else pv k) (fun k hk => ?_) (fun i j hi hj hij => ?_)
  · show (if k = B.length then s else pv k) < _
    by_cases hkc : k = B.length
    · rw [if_pos hkc]; exact hsl
    · rw [if_neg hkc]; exact (a2 k (by omega)).1
  · replace hij : (if i = B.length then s else pv i) = (if j = B.length then s else pv j) := hij
    by_cases hic : i = B.length
    · by_cases hjc : j = B.length
      · omega
      · rw [if_pos hic, if_neg hjc] at hij
        exact absurd hij.symm (hne j (by omega))
    · by_cases hjc : j = B.length
      · rw [if_neg hic, if_pos hjc] at hij
        exact absurd hij (hne i (by omega))
      · rw [if_neg hic, if_neg hjc] at hij
        rcases Nat.lt_trichotomy i j with h | h | h
        · exact absurd hij (hii i j h (by omega))
        · exact h
        · exact absurd hij.symm (hii j i h (by omega))
theorem lw_no {H : mz_H} {x s : Nat} {row sum : Nat → Int} {p : Int} (hp2 : 2 ≤ p) {l : List al_M} {nf : al_M → al_M → Int} {B : List al_M} {pv : Nat → Nat} {m : al_M} (hw : lw_S H x p l nf B pv) (he : el_S row sum p l nf B pv m B.length) (hs : s < 40) (hsz : row s ≠ 0) : ¬ ∃ a, fg_d p nf (sl_S l) B m a := by
  intro hd
  obtain ⟨a1, a2, a3, a4, a5⟩ := hw
  have hsl : s < l.length := Classical.byContradiction (fun hq => hsz ((he.1 s hs).2.2 (by omega)))
  have h := fg_el2 (p := p) (nf := nf) (S := sl_S l) (st := fg_B l) (B := B) (K := l.length) (fun c hc => ⟨c, hc, rfl⟩) (w := fun k c => H.2.1 (x + 207 + k) c) (pv := pv) (fun k hk => ⟨(a2 k hk).1, al_e_of (a3 k hk).2.1⟩) (fun i k hik hk => al_e_of ((a3 k hk).2.2 i hik)) a5 (m := m) (q := sum) (rho := row) he.2.2.2 (fun k hk => al_e_of (he.2.1 k hk)) hd s hsl
  exact hsz (al_e_z h (he.1 s hs).1 (he.1 s hs).2.1)
theorem lw_yes {row sum : Nat → Int} {p : Int} {l : List al_M} {nf : al_M → al_M → Int} {B : List al_M} {pv : Nat → Nat} {m : al_M} (hB : B.length ≤ 40) (hl : l.length ≤ 40) (he : el_S row sum p l nf B pv m B.length) (hz : ∀ c, c < 40 → row c = 0) : fg_k p B (cu4 sum) ∧ fg_d p nf (sl_S l) B m (cu4 sum) := by
  obtain ⟨e1, e2, e3, e4⟩ := he
  refine ⟨fun i => ⟨fun hi => ?_, fun hi => ?_⟩, ?_⟩
  · unfold cu4
    rw [if_pos (by omega)]
    exact ⟨(e3 i (by omega)).1, (e3 i (by omega)).2.1⟩
  · unfold cu4
    by_cases h : i < 40
    · rw [if_pos h]; exact (e3 i h).2.2 hi
    · rw [if_neg h]
  · rintro s ⟨c, hc, rfl⟩
    have h1 := e4 c hc
    rw [hz c (by omega)] at h1
    rw [al_S_c (g := fun i => sum i * nf (fg_B B i) (fg_B l c)) (fun i hi => by unfold cu4; rw [if_pos (by omega)])]
    exact al_e_s h1
theorem lx_nx {H : mz_H} {x n q : Nat} {X : fg_S} {mo : Nat → al_M} {a : Nat} (hn4 : n ≤ 4) (hq : lq_S H x n X q mo) (hb : lb_S n X.1) (hB : X.1.length ≤ 40) (ha : a < q) (hle : ∀ j, j < q → pk (mo a) ≤ pk (mo j)) (hX : X.1 ≠ []) (hd : ¬ lx_D X (mo a)) : fg_n n X (mo a) := by
  have hok : ∀ j, j < q → pk_ok (mo j) := fun j hj => by
    rcases (hq.2.2.1 j hj).2 with ⟨h1, _⟩ | ⟨i, v, h1, h2, h3, _⟩
    · exact absurd h1 hX
    · rw [h3]
      exact pk_ok_d (by rw [al_dg_p, tb_x_d]; have := (hb i h1).2; omega)
  refine ⟨⟨?_, fun h => hd (Or.inl h), fun e he hle => hd (Or.inr ⟨e, he, hle⟩)⟩, fun m' hm' => ?_⟩
  · rcases (hq.2.2.1 a ha).2 with ⟨h1, _⟩ | ⟨i, v, h1, h2, h3, _⟩
    · exact absurd h1 hX
    · exact ⟨i, v, h1, h2, h3⟩
  · obtain ⟨⟨i, v, h1, h2, h3⟩, h4, h5⟩ := hm'
    rcases hq.2.2.2 i v h1 h2 with h6 | ⟨j, h6, h7⟩
    · exfalso
      rw [← h3] at h6
      rcases h6 with h6 | ⟨e, h6, h7⟩
      · exact h4 h6
      · exact h5 e h6 h7
    · rw [← h3] at h7
      have h8 := hle j h6
      rw [h7] at h8
      by_cases h9 : pk (mo a) = pk m'
      · left
        exact (pk_i (hok a ha) (h7 ▸ hok j h6) h9).symm
      · right
        exact (pk_lx (hok a ha) (h7 ▸ hok j h6)).mp (by omega)
theorem fg_r_len {p : Int} {n : Nat} {nf : al_M → al_M → Int} {S : al_M → Prop} : ∀ (k : Nat) (X Y : fg_S), fg_r p n nf S k X Y → X.1.length ≤ Y.1.length := by
  intro k
  induction k with
  | zero => rintro X Y rfl; exact Nat.le_refl _
  | succ k ih =>
    rintro X Y ⟨Z, ⟨m, _, ⟨a, _, _, h⟩ | ⟨_, h⟩⟩, h2⟩
    · have := ih Z Y h2
      rw [h] at this
      exact this
    · have := ih Z Y h2
      rw [h, List.length_append] at this
      omega
theorem lr_ne {p : Int} {n : Nat} {nf : al_M → al_M → Int} {l : List al_M} {X : fg_S} (h : lr_S p n nf l X) (hX : X.1 = []) : X = ([], []) := by
  rcases h with h | ⟨k, h⟩
  · exact h
  · have := fg_r_len k _ _ h
    rw [hX] at this
    simp at this
set_option maxRecDepth 100000 in
theorem ct_takeLeast {e : mz_E} (d : Nat) {x u r n o q B N : Nat} {p : Int} {l : List al_M} {f : Nat → al_M} {St : al_M → Prop} {V : (Nat → Int) → Prop} {nf : al_M → al_M → Int} {X : fg_S} {pv : Nat → Nat} {mo : Nat → al_M} {H : mz_H} {P : mz_O → mz_H → Prop} (hG : mx_G e.1) (hE : lx_E e x) (hU : qu_E e u) (hR : rg_E e r) (hp : H.2.1 r 0 = p) (hp2 : 2 ≤ p ∧ p < 32768) (hpr : al_pr p.toNat) (hru : r + 10 < u) (hux : u + 166 < x) (hn1 : 1 ≤ n) (hn4 : n ≤ 4) (hl : H.2.1 u 0 = l.length) (hl1 : 1 ≤ l.length) (hl40 : l.length ≤ 40) (h0 : fg_B l 0 = (0, 0, 0, 0))
    (hls : ∀ i, i < l.length → St (fg_B l i)) (hinj : ∀ i j, i < l.length → j < l.length → fg_B l i = fg_B l j → i = j) (hF : fq_S H u p n o B l f nf) (hnf : nf_A p n o l St N V nf) (hC : lc_S H x p n l nf X pv q mo) (hq1 : 1 ≤ q) (hq0 : X.1 = [] → q = 1) (hcnt : X.2.length + X.1.length < 161) (hqb : q + n * (40 - X.1.length) ≤ 161)
    (hP : ∀ h X' pv' q' mo', mz_fr H h (x :: bl (x + 1) 293) → lc_S h x p n l nf X' pv' q' mo' → X'.1 ≠ [] → q' + 1 + n * X.1.length = q + n * X'.1.length → X'.2.length + X'.1.length ≤ X.2.length + X.1.length + 1 → X.1.length ≤ X'.1.length → P (.inl none) h) :
    mz_CA e (d + 5) j_Lexicon_takeLeast [.inr (.inl x), .inr (.inl r), .inr (.inl u)] H P := by
  have hE' := hE
  obtain ⟨⟨lx0, lx2, lx3, lx5, lx6, lx7, lx8, lx9, lx11, lx12, lx13, lx14, lx15⟩, ⟨ly1, ly2, ly164, ly165, ly206, ly247, ly288, ly289, ly290, ly291, ly292, ly293⟩, lxt, lxs, lxp, lxq⟩ := hE
  obtain ⟨hX, hw, hq, hb, hrun⟩ := hC
  obtain ⟨hq10, hq161, hqj, hqc⟩ := hq
  have hB40 := hX.2.2.1
  have hSt1 : St (0, 0, 0, 0) := by rw [← h0]; exact hls 0 (by omega)
  have hmd : ∀ j, j < q → al_dg (mo j) ≤ X.1.length := fun j hj => by
    rcases (hqj j hj).2 with ⟨h1, h2, _⟩ | ⟨i, v, h1, h2, h3, _⟩
    · rw [h2]; exact Nat.zero_le _
    · rw [h3, al_dg_p, tb_x_d]; have := (hb i h1).2; omega
  have hmok : ∀ j, j < q → pk_ok (mo j) := fun j hj => pk_ok_d (by have := hmd j hj; omega)
  have main : ∀ (a : Nat) o5, a < q → (∀ j, j < q → pk (mo a) ≤ pk (mo j)) → mz_V e (d + 5) mm_Lexicon_takeLeast 43 [some (.inr (.inl x)), some (.inr (.inl r)), some (.inr (.inl u)), some (.inl (a : Int)), some (.inl (q : Int)), o5, none] [] H P := by
    intro a o5 ha hle
    have za := (hqj a ha).1
    have zl := (hqj (q - 1) (by omega)).1
    have i1 : ((q : Int) - 1).toNat = q - 1 := by omega
    have c1 : (x + 289 = x) = False := eq_false (by omega)
    have c2 : (x + 290 = x) = False := eq_false (by omega)
    have c3 : (x = x + 289) = False := eq_false (by omega)
    have c4 : (x + 290 = x + 289) = False := eq_false (by omega)
    have mab := pk_b (hmok a ha)
    generalize hH1 : mz_w (mz_w (mz_w H x 10 ((q : Int) - 1)) (x + 289) a (pk (mo (q - 1)) : Int)) (x + 290) a (H.2.1 (x + 290) (q - 1)) = H1
    have g1 : mz_fr H H1 [x, x + 289, x + 290] := by rw [← hH1]; exact ((mz_fr.w _ _ _ _ (by simp)).tr (mz_fr.w _ _ _ _ (by simp))).tr (mz_fr.w _ _ _ _ (by simp))
    have g1x : ∀ k, k ≠ 10 → H1.2.1 x k = H.2.1 x k := fun k hk => by rw [← hH1, mz_w_g, if_neg (by omega), mz_w_g, if_neg (by omega), mz_w_g, if_neg (by omega)]
    have g1q : H1.2.1 x 10 = ((q - 1 : Nat) : Int) := by rw [← hH1, mz_w_g, if_neg (by omega), mz_w_g, if_neg (by omega), mz_w_g, if_pos ⟨rfl, rfl⟩]; omega
    have g1a : ∀ j, H1.2.1 (x + 289) j = if j = a then (pk (mo (q - 1)) : Int) else H.2.1 (x + 289) j := fun j => by
      rw [← hH1, mz_w_g, if_neg (by omega), mz_w_g]
      by_cases hj : j = a
      · rw [if_pos ⟨rfl, hj⟩, if_pos hj]
      · rw [if_neg (fun q => hj q.2), if_neg hj, mz_w_g, if_neg (by omega)]
    have g1b : ∀ j, H1.2.1 (x + 290) j = if j = a then H.2.1 (x + 290) (q - 1) else H.2.1 (x + 290) j := fun j => by
      rw [← hH1, mz_w_g]
      by_cases hj : j = a
      · rw [if_pos ⟨rfl, hj⟩, if_pos hj]
      · rw [if_neg (fun q => hj q.2), if_neg hj, mz_w_g, if_neg (by omega), mz_w_g, if_neg (by omega)]
    have hX1 : lx_S H1 x n X := hX.fr g1 (fun k hk => g1x k (by omega)) (fun i hi1 hi2 => by simp; omega)
    have hw1 : lw_S H1 x p l nf X.1 pv := hw.fr hB40 g1 (fun i hi1 hi2 => by simp; omega)
    have hF1 : fq_S H1 u p n o B l f nf := hF.fr g1 (fun i hi => by simp; omega)
    have hj1 : ∀ j, j < q - 1 → H1.2.1 (x + 289) j = (pk (if j = a then mo (q - 1) else mo j) : Int) ∧ ((X.1 = [] ∧ (if j = a then mo (q - 1) else mo j) = (0, 0, 0, 0) ∧ H1.2.1 (x + 290) j = -1) ∨ ∃ i v, i < X.1.length ∧ v < n ∧ (if j = a then mo (q - 1) else mo j) = al_p (fg_B X.1 i) (tb_x v) ∧ H1.2.1 (x + 290) j = ((i * 4 + v : Nat) : Int)) := fun j hj => by
      rw [g1a, g1b]
      by_cases hja : j = a
      · simp only [if_pos hja]
        exact ⟨trivial, (hqj (q - 1) (by omega)).2⟩
      · simp only [if_neg hja]
        exact hqj j (by omega)
    have hcm : ∀ y, (∃ j, j < q ∧ mo j = y) → y = mo a ∨ ∃ j, j < q - 1 ∧ (if j = a then mo (q - 1) else mo j) = y := by
      rintro y ⟨j, hj, rfl⟩
      by_cases hja : j = a
      · exact Or.inl (by rw [hja])
      · by_cases hjl : j = q - 1
        · exact Or.inr ⟨a, by omega, by rw [if_pos rfl, hjl]⟩
        · exact Or.inr ⟨j, by omega, by rw [if_neg hja]⟩
    have hxu : ∀ k, H1.2.1 u k = H.2.1 u k := fun k => by rw [g1.2.2 u (by simp; omega)]
    have hpH1 : H1.2.1 r 0 = p := by rw [g1.2.2 r (by simp; omega), hp]
    apply mz_go hG 80 [117]
    simp only [mf_Lexicon_takeLeast, ca_Lexicon_takeLeast, dc_Lexicon_takeLeast_0, dc_Lexicon_takeLeast_1, dc_Lexicon_takeLeast_2, dc_Lexicon_takeLeast_3, dc_Lexicon_takeLeast_4, dc_Lexicon_takeLeast_5, dc_Lexicon_takeLeast_6, dc_Lexicon_takeLeast_7, dc_Lexicon_takeLeast_8, dc_Lexicon_takeLeast_9, dc_Lexicon_takeLeast_10, fl_Lexicon, sl_Lexicon, sg_Lexicon_isDone, sg_Lexicon_loadRow, sg_Lexicon_eliminate, sg_Lexicon_keepHead, sg_Lexicon_keepSmall, lx0, lx2, lx3, lx5, lx6, lx7, lx8, lx9, lx11, lx12, lx13, lx14, lx15, ly1, ly2, ly164, ly165, ly206, ly247, ly288, ly289, ly290, ly291, ly292, ly293, hq10, za, zl, i1, c1, c2, c3, c4, mz_w_g, Nat.left_eq_add, Nat.add_left_cancel_iff, Nat.add_eq_left, false_and, if_false, if_true, Int.toNat_natCast, mzr_iconst, mzr_bipush, mzr_sipush, mzr_lconst, mzr_iload, mzr_iload_n, mzr_aload, mzr_aload_n, mzr_lload, mzr_lload_n, mzr_istore, mzr_istore_n, mzr_astore, mzr_astore_n, mzr_lstore, mzr_lstore_n, mzr_iinc, mzr_iadd, mzr_isub, mzr_imul, mzr_iand, mzr_ior, mzr_ixor, mzr_ishl, mzr_ishr, mzr_iushr, mzr_idiv, mzr_irem, mzr_ineg, mzr_ladd, mzr_lsub, mzr_lmul, mzr_lrem, mzr_lcmp, mzr_i2l, mzr_l2i, mzr_i2b, mzr_dup, mzr_pop, mzr_dup2, mzr_ifCond_eq, mzr_if_icmp_eq, mzr_ifCond_ne, mzr_if_icmp_ne, mzr_ifCond_lt, mzr_if_icmp_lt, mzr_ifCond_ge, mzr_if_icmp_ge, mzr_ifCond_gt, mzr_if_icmp_gt, mzr_ifCond_le, mzr_if_icmp_le, mzr_goto, mzr_iaload, mzr_baload, mzr_laload, mzr_aaload, mzr_iastore, mzr_bastore, mzr_lastore, mzr_arraylength, mzr_getfield, mzr_putfield, mzr_getstatic, mzr_ldc, mzr_ldc_w, mzr_ldc2_w, mzr_ireturn, mzr_return_, mzr_copy, mzr_static, mzr_virtual, mzr_new, mz_tk, mz_dp, mz_ln, mz_sz, mz_af_v, mz_af_s, mz_wp_s, mz_w1, mz_g, mz_st, mz_k, mz_s2, mz_nx, mz_en, mx_to, mz_c1, ↓reduceIte, Nat.reduceAdd, Nat.reduceSub, Nat.reduceMul, Nat.reduceMod, Nat.reduceDiv, Nat.reduceEqDiff, Nat.reduceLeDiff, Nat.reduceLT, Int.reduceAdd, Int.reduceSub, Int.reduceNeg, Int.reduceMul, Int.reduceLE, Int.reduceLT, Int.reduceEq, Int.reduceToNat, Int.reduceNegSucc, Int.cast_ofNat_Int, Int32.reduceToInt, Int64.reduceToInt, Int.zero_add, Int.add_zero, Fin.isValue, Fin.val_zero, Fin.val_one, Fin.val_two, reduceCtorEq, or_false, false_or, or_true, true_or, or_self, and_true, true_and, and_self, not_true_eq_false, not_false_eq_true, implies_true, forall_const, List.mem_cons, List.not_mem_nil, false_implies, true_implies, imp_false, Nat.zero_add, Option.some.injEq, Prod.mk.injEq]
    repeat' first | omega | refine mz_it (fun hh => ?_) (fun hh => ?_) | refine And.intro ?_ ?_
    all_goals rw [hH1]
    refine ct_isDone (d + 2) hG hE' hX1 (hmok a ha) (fun hdn => ?_) (fun hdn => ?_)
    · have hXne : X.1 ≠ [] := by
        intro hXe
        have hX0 := lr_ne hrun hXe
        rw [hX0] at hdn
        rcases hdn with h | ⟨e, h, _⟩
        · cases h
        · cases h
      have fin := hP H1 X pv (q - 1) (fun j => if j = a then mo (q - 1) else mo j) (g1.mono (by intro c hc; simp [bl_m] at hc ⊢; omega)) ⟨hX1, hw1, ⟨g1q, by omega, hj1, fun i v hi hv => by
        rcases hqc i v hi hv with h | h
        · exact Or.inl h
        · rcases hcm _ h with h | h
          · rw [h]; exact Or.inl hdn
          · exact Or.inr h⟩, hb, hrun⟩ hXne (by omega) (by omega) (Nat.le_refl _)
      simp only [mf_Lexicon_takeLeast, ca_Lexicon_takeLeast, dc_Lexicon_takeLeast_0, dc_Lexicon_takeLeast_1, dc_Lexicon_takeLeast_2, dc_Lexicon_takeLeast_3, dc_Lexicon_takeLeast_4, dc_Lexicon_takeLeast_5, dc_Lexicon_takeLeast_6, dc_Lexicon_takeLeast_7, dc_Lexicon_takeLeast_8, dc_Lexicon_takeLeast_9, dc_Lexicon_takeLeast_10, fl_Lexicon, sl_Lexicon, sg_Lexicon_isDone, sg_Lexicon_loadRow, sg_Lexicon_eliminate, sg_Lexicon_keepHead, sg_Lexicon_keepSmall, lx0, lx2, lx3, lx5, lx6, lx7, lx8, lx9, lx11, lx12, lx13, lx14, lx15, ly1, ly2, ly164, ly165, ly206, ly247, ly288, ly289, ly290, ly291, ly292, ly293, mzr_iconst, mzr_bipush, mzr_sipush, mzr_lconst, mzr_iload, mzr_iload_n, mzr_aload, mzr_aload_n, mzr_lload, mzr_lload_n, mzr_istore, mzr_istore_n, mzr_astore, mzr_astore_n, mzr_lstore, mzr_lstore_n, mzr_iinc, mzr_iadd, mzr_isub, mzr_imul, mzr_iand, mzr_ior, mzr_ixor, mzr_ishl, mzr_ishr, mzr_iushr, mzr_idiv, mzr_irem, mzr_ineg, mzr_ladd, mzr_lsub, mzr_lmul, mzr_lrem, mzr_lcmp, mzr_i2l, mzr_l2i, mzr_i2b, mzr_dup, mzr_pop, mzr_dup2, mzr_ifCond_eq, mzr_if_icmp_eq, mzr_ifCond_ne, mzr_if_icmp_ne, mzr_ifCond_lt, mzr_if_icmp_lt, mzr_ifCond_ge, mzr_if_icmp_ge, mzr_ifCond_gt, mzr_if_icmp_gt, mzr_ifCond_le, mzr_if_icmp_le, mzr_goto, mzr_iaload, mzr_baload, mzr_laload, mzr_aaload, mzr_iastore, mzr_bastore, mzr_lastore, mzr_arraylength, mzr_getfield, mzr_putfield, mzr_getstatic, mzr_ldc, mzr_ldc_w, mzr_ldc2_w, mzr_ireturn, mzr_return_, mzr_copy, mzr_static, mzr_virtual, mzr_new, mz_tk, mz_dp, mz_ln, mz_sz, mz_af_v, mz_af_s, mz_wp_s, mz_w1, mz_g, mz_st, mz_k, mz_s2, mz_nx, mz_en, mx_to, mz_c1, ↓reduceIte, Nat.reduceAdd, Nat.reduceSub, Nat.reduceMul, Nat.reduceMod, Nat.reduceDiv, Nat.reduceEqDiff, Nat.reduceLeDiff, Nat.reduceLT, Int.reduceAdd, Int.reduceSub, Int.reduceNeg, Int.reduceMul, Int.reduceLE, Int.reduceLT, Int.reduceEq, Int.reduceToNat, Int.reduceNegSucc, Int.cast_ofNat_Int, Int32.reduceToInt, Int64.reduceToInt, Int.zero_add, Int.add_zero, Fin.isValue, Fin.val_zero, Fin.val_one, Fin.val_two, reduceCtorEq, or_false, false_or, or_true, true_or, or_self, and_true, true_and, and_self, not_true_eq_false, not_false_eq_true, implies_true, forall_const, List.mem_cons, List.not_mem_nil, false_implies, true_implies, imp_false, Nat.zero_add, Option.some.injEq, Prod.mk.injEq]
      repeat' first | omega | refine mz_it (fun hh => ?_) (fun hh => ?_) | refine And.intro ?_ ?_
      all_goals exact fin
    · have hnx : X.1 ≠ [] → fg_n n X (mo a) := fun hne => lx_nx hn4 ⟨hq10, hq161, hqj, hqc⟩ hb hB40 ha hle hne hdn
      have hmv : tb_v n (mo a) := by
        rcases (hqj a ha).2 with ⟨_, h2, _⟩ | ⟨i, v, h1, h2, h3, _⟩
        · rw [h2]; exact ⟨fun _ => rfl, fun _ => rfl, fun _ => rfl⟩
        · rw [h3]; exact tb_v_p (hb i h1).1 (tb_x_v h2 hn4)
      have hmd0 := hmd a ha
      have hm2 : ∀ h1 o5 o6, mz_fr H1 h1 [x + 291] → fo_1 p (h1.2.1 (x + 291)) l nf (mo a) → mz_V e (d + 5) mm_Lexicon_takeLeast 117 [some (.inr (.inl x)), some (.inr (.inl r)), some (.inr (.inl u)), some (.inl (a : Int)), some (.inl (pk (mo a) : Int)), o5, o6] [] h1 P := by
        intro h1 o5 o6 f1 hfo
        have hw2 : lw_S h1 x p l nf X.1 pv := hw1.fr hB40 f1 (fun i hi1 hi2 => by simp; omega)
        have hp1 : h1.2.1 r 0 = p := by rw [f1.2.2 r (by simp; omega), hpH1]
        have hsc1 : h1.2.1 x 4 = X.1.length := by rw [f1.2.2 x (by simp), g1x 4 (by omega)]; exact hX.1.2.2
        apply mz_go hG 80 []
        simp only [mf_Lexicon_takeLeast, ca_Lexicon_takeLeast, dc_Lexicon_takeLeast_0, dc_Lexicon_takeLeast_1, dc_Lexicon_takeLeast_2, dc_Lexicon_takeLeast_3, dc_Lexicon_takeLeast_4, dc_Lexicon_takeLeast_5, dc_Lexicon_takeLeast_6, dc_Lexicon_takeLeast_7, dc_Lexicon_takeLeast_8, dc_Lexicon_takeLeast_9, dc_Lexicon_takeLeast_10, fl_Lexicon, sl_Lexicon, sg_Lexicon_isDone, sg_Lexicon_loadRow, sg_Lexicon_eliminate, sg_Lexicon_keepHead, sg_Lexicon_keepSmall, lx0, lx2, lx3, lx5, lx6, lx7, lx8, lx9, lx11, lx12, lx13, lx14, lx15, ly1, ly2, ly164, ly165, ly206, ly247, ly288, ly289, ly290, ly291, ly292, ly293, mzr_iconst, mzr_bipush, mzr_sipush, mzr_lconst, mzr_iload, mzr_iload_n, mzr_aload, mzr_aload_n, mzr_lload, mzr_lload_n, mzr_istore, mzr_istore_n, mzr_astore, mzr_astore_n, mzr_lstore, mzr_lstore_n, mzr_iinc, mzr_iadd, mzr_isub, mzr_imul, mzr_iand, mzr_ior, mzr_ixor, mzr_ishl, mzr_ishr, mzr_iushr, mzr_idiv, mzr_irem, mzr_ineg, mzr_ladd, mzr_lsub, mzr_lmul, mzr_lrem, mzr_lcmp, mzr_i2l, mzr_l2i, mzr_i2b, mzr_dup, mzr_pop, mzr_dup2, mzr_ifCond_eq, mzr_if_icmp_eq, mzr_ifCond_ne, mzr_if_icmp_ne, mzr_ifCond_lt, mzr_if_icmp_lt, mzr_ifCond_ge, mzr_if_icmp_ge, mzr_ifCond_gt, mzr_if_icmp_gt, mzr_ifCond_le, mzr_if_icmp_le, mzr_goto, mzr_iaload, mzr_baload, mzr_laload, mzr_aaload, mzr_iastore, mzr_bastore, mzr_lastore, mzr_arraylength, mzr_getfield, mzr_putfield, mzr_getstatic, mzr_ldc, mzr_ldc_w, mzr_ldc2_w, mzr_ireturn, mzr_return_, mzr_copy, mzr_static, mzr_virtual, mzr_new, mz_tk, mz_dp, mz_ln, mz_sz, mz_af_v, mz_af_s, mz_wp_s, mz_w1, mz_g, mz_st, mz_k, mz_s2, mz_nx, mz_en, mx_to, mz_c1, ↓reduceIte, Nat.reduceAdd, Nat.reduceSub, Nat.reduceMul, Nat.reduceMod, Nat.reduceDiv, Nat.reduceEqDiff, Nat.reduceLeDiff, Nat.reduceLT, Int.reduceAdd, Int.reduceSub, Int.reduceNeg, Int.reduceMul, Int.reduceLE, Int.reduceLT, Int.reduceEq, Int.reduceToNat, Int.reduceNegSucc, Int.cast_ofNat_Int, Int32.reduceToInt, Int64.reduceToInt, Int.zero_add, Int.add_zero, Fin.isValue, Fin.val_zero, Fin.val_one, Fin.val_two, reduceCtorEq, or_false, false_or, or_true, true_or, or_self, and_true, true_and, and_self, not_true_eq_false, not_false_eq_true, implies_true, forall_const, List.mem_cons, List.not_mem_nil, false_implies, true_implies, imp_false, Nat.zero_add, Option.some.injEq, Prod.mk.injEq]
        repeat' first | omega | refine mz_it (fun hh => ?_) (fun hh => ?_) | refine And.intro ?_ ?_
        refine ct_eliminate (d + 3) hG hE' hR hp1 hp2 (by omega) hl40 hB40 hsc1 hw2 hfo (fun h2 f2 he hz => ?_) (fun h2 s f2 he hs hsz => ?_)
        · have hXne : X.1 ≠ [] := by
            intro hXe
            have h1z : mo a = (0, 0, 0, 0) := by
              rcases (hqj a ha).2 with ⟨_, h2, _⟩ | ⟨i, v, h1, _⟩
              · exact h2
              · rw [hXe] at h1; simp at h1
            have z1 := he.2.2.2 0 (by omega)
            rw [hz 0 (by omega), h1z, hXe, h0, hnf.1 _ _ hSt1, if_pos rfl] at z1
            have z2 : al_e p 0 1 := al_e_t z1 (al_e_of (by show (1 : Int) + 0 = 1; omega))
            exact absurd (al_e_z (al_e_s z2) (by omega) (by omega)) (by omega)
          have g12 : mz_fr H1 h2 [x + 291, x + 292, x + 293] := (f1.mono (by intro c hc; simp at hc ⊢; omega)).tr (f2.mono (by intro c hc; simp at hc ⊢; omega))
          have hX2 : lx_S h2 x n X := hX1.fr g12 (fun k hk => by rw [g12.2.2 x (by simp)]) (fun i hi1 hi2 => by simp; omega)
          have hw3 : lw_S h2 x p l nf X.1 pv := hw1.fr hB40 g12 (fun i hi1 hi2 => by simp; omega)
          obtain ⟨hk1, hk2⟩ := lw_yes hB40 hl40 he hz
          simp only [mf_Lexicon_takeLeast, ca_Lexicon_takeLeast, dc_Lexicon_takeLeast_0, dc_Lexicon_takeLeast_1, dc_Lexicon_takeLeast_2, dc_Lexicon_takeLeast_3, dc_Lexicon_takeLeast_4, dc_Lexicon_takeLeast_5, dc_Lexicon_takeLeast_6, dc_Lexicon_takeLeast_7, dc_Lexicon_takeLeast_8, dc_Lexicon_takeLeast_9, dc_Lexicon_takeLeast_10, fl_Lexicon, sl_Lexicon, sg_Lexicon_isDone, sg_Lexicon_loadRow, sg_Lexicon_eliminate, sg_Lexicon_keepHead, sg_Lexicon_keepSmall, lx0, lx2, lx3, lx5, lx6, lx7, lx8, lx9, lx11, lx12, lx13, lx14, lx15, ly1, ly2, ly164, ly165, ly206, ly247, ly288, ly289, ly290, ly291, ly292, ly293, mzr_iconst, mzr_bipush, mzr_sipush, mzr_lconst, mzr_iload, mzr_iload_n, mzr_aload, mzr_aload_n, mzr_lload, mzr_lload_n, mzr_istore, mzr_istore_n, mzr_astore, mzr_astore_n, mzr_lstore, mzr_lstore_n, mzr_iinc, mzr_iadd, mzr_isub, mzr_imul, mzr_iand, mzr_ior, mzr_ixor, mzr_ishl, mzr_ishr, mzr_iushr, mzr_idiv, mzr_irem, mzr_ineg, mzr_ladd, mzr_lsub, mzr_lmul, mzr_lrem, mzr_lcmp, mzr_i2l, mzr_l2i, mzr_i2b, mzr_dup, mzr_pop, mzr_dup2, mzr_ifCond_eq, mzr_if_icmp_eq, mzr_ifCond_ne, mzr_if_icmp_ne, mzr_ifCond_lt, mzr_if_icmp_lt, mzr_ifCond_ge, mzr_if_icmp_ge, mzr_ifCond_gt, mzr_if_icmp_gt, mzr_ifCond_le, mzr_if_icmp_le, mzr_goto, mzr_iaload, mzr_baload, mzr_laload, mzr_aaload, mzr_iastore, mzr_bastore, mzr_lastore, mzr_arraylength, mzr_getfield, mzr_putfield, mzr_getstatic, mzr_ldc, mzr_ldc_w, mzr_ldc2_w, mzr_ireturn, mzr_return_, mzr_copy, mzr_static, mzr_virtual, mzr_new, mz_tk, mz_dp, mz_ln, mz_sz, mz_af_v, mz_af_s, mz_wp_s, mz_w1, mz_g, mz_st, mz_k, mz_s2, mz_nx, mz_en, mx_to, mz_c1, ↓reduceIte, Nat.reduceAdd, Nat.reduceSub, Nat.reduceMul, Nat.reduceMod, Nat.reduceDiv, Nat.reduceEqDiff, Nat.reduceLeDiff, Nat.reduceLT, Int.reduceAdd, Int.reduceSub, Int.reduceNeg, Int.reduceMul, Int.reduceLE, Int.reduceLT, Int.reduceEq, Int.reduceToNat, Int.reduceNegSucc, Int.cast_ofNat_Int, Int32.reduceToInt, Int64.reduceToInt, Int.zero_add, Int.add_zero, Fin.isValue, Fin.val_zero, Fin.val_one, Fin.val_two, reduceCtorEq, or_false, false_or, or_true, true_or, or_self, and_true, true_and, and_self, not_true_eq_false, not_false_eq_true, implies_true, forall_const, List.mem_cons, List.not_mem_nil, false_implies, true_implies, imp_false, Nat.zero_add, Option.some.injEq, Prod.mk.injEq]
          repeat' first | omega | refine mz_it (fun hh => ?_) (fun hh => ?_) | refine And.intro ?_ ?_
          refine ct_keepHead (d + 4) hG hE' hX2 (hmok a ha) (by omega) (fun h3 f3 hk3 hX3 => ?_)
          have g13 : mz_fr H1 h3 [x, x + 1, x + 3 + X.2.length, x + 291, x + 292, x + 293] := (g12.mono (by intro c hc; simp at hc ⊢; omega)).tr (f3.mono (by intro c hc; simp at hc ⊢; omega))
          have fin := hP h3 (X.1, X.2 ++ [(mo a, cu4 (h2.2.1 (x + 293)))]) pv (q - 1) (fun j => if j = a then mo (q - 1) else mo j) ((g1.mono (by intro c hc; simp [bl_m] at hc ⊢; omega)).tr (g13.mono (by intro c hc; simp [bl_m] at hc ⊢; omega))) ⟨hX3, hw3.fr hB40 f3 (fun i hi1 hi2 => by simp; omega), ⟨by rw [hk3 10 (by omega), g12.2.2 x (by simp), g1q], by omega, fun j hj => by
              rw [g13.2.2 (x + 289) (by simp; omega), g13.2.2 (x + 290) (by simp; omega)]
              exact hj1 j hj, fun i v hi hv => by
              rcases hqc i v hi hv with h | h
              · left
                rcases h with h | ⟨e, h, hl⟩
                · exact Or.inl h
                · exact Or.inr ⟨e, List.mem_append_left _ h, hl⟩
              · rcases hcm _ h with h | h
                · rw [h]
                  exact Or.inl (Or.inr ⟨_, List.mem_append_right _ (List.mem_singleton.mpr rfl), al_le_g.mpr (fun v _ => Nat.le_refl _)⟩)
                · exact Or.inr h⟩, hb, by
              right
              rcases hrun with hr | ⟨k, hr⟩
              · rw [hr] at hXne; exact absurd rfl hXne
              · exact ⟨k + 1, fg_r_s k _ _ _ hr ⟨mo a, hnx hXne, Or.inl ⟨_, hk1, hk2, rfl⟩⟩⟩⟩ hXne (by show _ = q + n * X.1.length; omega) (by show (X.2 ++ [_]).length + X.1.length ≤ _; rw [List.length_append, List.length_singleton]; omega) (Nat.le_refl _)
          simp only [mf_Lexicon_takeLeast, ca_Lexicon_takeLeast, dc_Lexicon_takeLeast_0, dc_Lexicon_takeLeast_1, dc_Lexicon_takeLeast_2, dc_Lexicon_takeLeast_3, dc_Lexicon_takeLeast_4, dc_Lexicon_takeLeast_5, dc_Lexicon_takeLeast_6, dc_Lexicon_takeLeast_7, dc_Lexicon_takeLeast_8, dc_Lexicon_takeLeast_9, dc_Lexicon_takeLeast_10, fl_Lexicon, sl_Lexicon, sg_Lexicon_isDone, sg_Lexicon_loadRow, sg_Lexicon_eliminate, sg_Lexicon_keepHead, sg_Lexicon_keepSmall, lx0, lx2, lx3, lx5, lx6, lx7, lx8, lx9, lx11, lx12, lx13, lx14, lx15, ly1, ly2, ly164, ly165, ly206, ly247, ly288, ly289, ly290, ly291, ly292, ly293, mzr_iconst, mzr_bipush, mzr_sipush, mzr_lconst, mzr_iload, mzr_iload_n, mzr_aload, mzr_aload_n, mzr_lload, mzr_lload_n, mzr_istore, mzr_istore_n, mzr_astore, mzr_astore_n, mzr_lstore, mzr_lstore_n, mzr_iinc, mzr_iadd, mzr_isub, mzr_imul, mzr_iand, mzr_ior, mzr_ixor, mzr_ishl, mzr_ishr, mzr_iushr, mzr_idiv, mzr_irem, mzr_ineg, mzr_ladd, mzr_lsub, mzr_lmul, mzr_lrem, mzr_lcmp, mzr_i2l, mzr_l2i, mzr_i2b, mzr_dup, mzr_pop, mzr_dup2, mzr_ifCond_eq, mzr_if_icmp_eq, mzr_ifCond_ne, mzr_if_icmp_ne, mzr_ifCond_lt, mzr_if_icmp_lt, mzr_ifCond_ge, mzr_if_icmp_ge, mzr_ifCond_gt, mzr_if_icmp_gt, mzr_ifCond_le, mzr_if_icmp_le, mzr_goto, mzr_iaload, mzr_baload, mzr_laload, mzr_aaload, mzr_iastore, mzr_bastore, mzr_lastore, mzr_arraylength, mzr_getfield, mzr_putfield, mzr_getstatic, mzr_ldc, mzr_ldc_w, mzr_ldc2_w, mzr_ireturn, mzr_return_, mzr_copy, mzr_static, mzr_virtual, mzr_new, mz_tk, mz_dp, mz_ln, mz_sz, mz_af_v, mz_af_s, mz_wp_s, mz_w1, mz_g, mz_st, mz_k, mz_s2, mz_nx, mz_en, mx_to, mz_c1, ↓reduceIte, Nat.reduceAdd, Nat.reduceSub, Nat.reduceMul, Nat.reduceMod, Nat.reduceDiv, Nat.reduceEqDiff, Nat.reduceLeDiff, Nat.reduceLT, Int.reduceAdd, Int.reduceSub, Int.reduceNeg, Int.reduceMul, Int.reduceLE, Int.reduceLT, Int.reduceEq, Int.reduceToNat, Int.reduceNegSucc, Int.cast_ofNat_Int, Int32.reduceToInt, Int64.reduceToInt, Int.zero_add, Int.add_zero, Fin.isValue, Fin.val_zero, Fin.val_one, Fin.val_two, reduceCtorEq, or_false, false_or, or_true, true_or, or_self, and_true, true_and, and_self, not_true_eq_false, not_false_eq_true, implies_true, forall_const, List.mem_cons, List.not_mem_nil, false_implies, true_implies, imp_false, Nat.zero_add, Option.some.injEq, Prod.mk.injEq]
          repeat' first | omega | refine mz_it (fun hh => ?_) (fun hh => ?_) | refine And.intro ?_ ?_
          all_goals exact fin
        · have hlt := lw_b hw2 he hs hsz
          have hno := lw_no hp2.1 hw2 he hs hsz
          have g12 : mz_fr H1 h2 [x + 291, x + 292, x + 293] := (f1.mono (by intro c hc; simp at hc ⊢; omega)).tr (f2.mono (by intro c hc; simp at hc ⊢; omega))
          have hX2 : lx_S h2 x n X := hX1.fr g12 (fun k hk => by rw [g12.2.2 x (by simp)]) (fun i hi1 hi2 => by simp; omega)
          have hw3 : lw_S h2 x p l nf X.1 pv := hw1.fr hB40 g12 (fun i hi1 hi2 => by simp; omega)
          have hsc2 : h2.2.1 x 4 = X.1.length := hX2.1.2.2
          have hp2' : h2.2.1 r 0 = p := by rw [g12.2.2 r (by simp; omega), hpH1]
          have hfo2 : fo_1 p (h2.2.1 (x + 291)) l nf (mo a) := by rw [f2.2.2 (x + 291) (by simp)]; exact hfo
          have hnn : n ≤ n * (40 - X.1.length) := Nat.le_mul_of_pos_right _ (by omega)
          simp only [mf_Lexicon_takeLeast, ca_Lexicon_takeLeast, dc_Lexicon_takeLeast_0, dc_Lexicon_takeLeast_1, dc_Lexicon_takeLeast_2, dc_Lexicon_takeLeast_3, dc_Lexicon_takeLeast_4, dc_Lexicon_takeLeast_5, dc_Lexicon_takeLeast_6, dc_Lexicon_takeLeast_7, dc_Lexicon_takeLeast_8, dc_Lexicon_takeLeast_9, dc_Lexicon_takeLeast_10, fl_Lexicon, sl_Lexicon, sg_Lexicon_isDone, sg_Lexicon_loadRow, sg_Lexicon_eliminate, sg_Lexicon_keepHead, sg_Lexicon_keepSmall, lx0, lx2, lx3, lx5, lx6, lx7, lx8, lx9, lx11, lx12, lx13, lx14, lx15, ly1, ly2, ly164, ly165, ly206, ly247, ly288, ly289, ly290, ly291, ly292, ly293, hsc2, mzr_iconst, mzr_bipush, mzr_sipush, mzr_lconst, mzr_iload, mzr_iload_n, mzr_aload, mzr_aload_n, mzr_lload, mzr_lload_n, mzr_istore, mzr_istore_n, mzr_astore, mzr_astore_n, mzr_lstore, mzr_lstore_n, mzr_iinc, mzr_iadd, mzr_isub, mzr_imul, mzr_iand, mzr_ior, mzr_ixor, mzr_ishl, mzr_ishr, mzr_iushr, mzr_idiv, mzr_irem, mzr_ineg, mzr_ladd, mzr_lsub, mzr_lmul, mzr_lrem, mzr_lcmp, mzr_i2l, mzr_l2i, mzr_i2b, mzr_dup, mzr_pop, mzr_dup2, mzr_ifCond_eq, mzr_if_icmp_eq, mzr_ifCond_ne, mzr_if_icmp_ne, mzr_ifCond_lt, mzr_if_icmp_lt, mzr_ifCond_ge, mzr_if_icmp_ge, mzr_ifCond_gt, mzr_if_icmp_gt, mzr_ifCond_le, mzr_if_icmp_le, mzr_goto, mzr_iaload, mzr_baload, mzr_laload, mzr_aaload, mzr_iastore, mzr_bastore, mzr_lastore, mzr_arraylength, mzr_getfield, mzr_putfield, mzr_getstatic, mzr_ldc, mzr_ldc_w, mzr_ldc2_w, mzr_ireturn, mzr_return_, mzr_copy, mzr_static, mzr_virtual, mzr_new, mz_tk, mz_dp, mz_ln, mz_sz, mz_af_v, mz_af_s, mz_wp_s, mz_w1, mz_g, mz_st, mz_k, mz_s2, mz_nx, mz_en, mx_to, mz_c1, ↓reduceIte, Nat.reduceAdd, Nat.reduceSub, Nat.reduceMul, Nat.reduceMod, Nat.reduceDiv, Nat.reduceEqDiff, Nat.reduceLeDiff, Nat.reduceLT, Int.reduceAdd, Int.reduceSub, Int.reduceNeg, Int.reduceMul, Int.reduceLE, Int.reduceLT, Int.reduceEq, Int.reduceToNat, Int.reduceNegSucc, Int.cast_ofNat_Int, Int32.reduceToInt, Int64.reduceToInt, Int.zero_add, Int.add_zero, Fin.isValue, Fin.val_zero, Fin.val_one, Fin.val_two, reduceCtorEq, or_false, false_or, or_true, true_or, or_self, and_true, true_and, and_self, not_true_eq_false, not_false_eq_true, implies_true, forall_const, List.mem_cons, List.not_mem_nil, false_implies, true_implies, imp_false, Nat.zero_add, Option.some.injEq, Prod.mk.injEq]
          repeat' first | omega | refine mz_it (fun hh => ?_) (fun hh => ?_) | refine And.intro ?_ ?_
          refine ct_keepSmall (d + 0) (q := q - 1) hG hE' hR hp2' hp2 hpr (by omega) hl40 hX2 hn4 (by omega) hw3 hfo2 he hs hsz (by omega) (by rw [g12.2.2 x (by simp), g1q]) (by omega) (fun h3 f3 hq3 hqo hqn hX3 hw4 => ?_)
          have fin := hP h3 (X.1 ++ [mo a], X.2) (fun k => if k = X.1.length then s else pv k) (q - 1 + n) (fun j => if j < q - 1 then (if j = a then mo (q - 1) else mo j) else al_p (mo a) (tb_x (j - (q - 1)))) (((g1.mono (by intro c hc; simp [bl_m] at hc ⊢; omega)).tr (g12.mono (by intro c hc; simp [bl_m] at hc ⊢; omega))).tr (f3.mono (by intro c hc; simp [bl_m] at hc ⊢; omega))) ⟨hX3, hw4, ⟨hq3, by omega, fun j hj => by
              by_cases hjq : j < q - 1
              · simp only [if_pos hjq]
                have hXne : X.1 ≠ [] := fun h => by have := hq0 h; omega
                obtain ⟨y1, y2⟩ := hj1 j hjq
                rw [(hqo j hjq).1, (hqo j hjq).2, g12.2.2 (x + 289) (by simp), g12.2.2 (x + 290) (by simp)]
                refine ⟨y1, Or.inr ?_⟩
                rcases y2 with ⟨y2, _⟩ | ⟨i, v, y2, y3, y4, y5⟩
                · exact absurd y2 hXne
                · refine ⟨i, v, ?_, y3, ?_, y5⟩
                  · show i < (X.1 ++ [mo a]).length
                    rw [List.length_append]; omega
                  · show _ = al_p (fg_B (X.1 ++ [mo a]) i) _
                    rw [fg_B_l _ _ _ y2]; exact y4
              · simp only [if_neg hjq]
                obtain ⟨y1, y2⟩ := hqn (j - (q - 1)) (by omega)
                rw [show q - 1 + (j - (q - 1)) = j by omega] at y1 y2
                refine ⟨y1, Or.inr ⟨X.1.length, j - (q - 1), ?_, by omega, ?_, y2⟩⟩
                · show _ < (X.1 ++ [mo a]).length
                  rw [List.length_append, List.length_singleton]; omega
                · show _ = al_p (fg_B (X.1 ++ [mo a]) _) _
                  rw [fg_B_r], fun i v hi hv => by
              replace hi : i < (X.1 ++ [mo a]).length := hi
              rw [List.length_append, List.length_singleton] at hi
              show lx_D (X.1 ++ [mo a], X.2) (al_p (fg_B (X.1 ++ [mo a]) i) (tb_x v)) ∨ ∃ j, j < q - 1 + n ∧ (if j < q - 1 then (if j = a then mo (q - 1) else mo j) else al_p (mo a) (tb_x (j - (q - 1)))) = al_p (fg_B (X.1 ++ [mo a]) i) (tb_x v)
              by_cases hil : i = X.1.length
              · right
                refine ⟨q - 1 + v, by omega, ?_⟩
                rw [if_neg (by omega), hil, fg_B_r, show q - 1 + v - (q - 1) = v by omega]
              · rw [fg_B_l _ _ _ (by omega)]
                rcases hqc i v (by omega) hv with h | h
                · left
                  rcases h with h | ⟨e, h, hl⟩
                  · exact Or.inl (List.mem_append_left _ h)
                  · exact Or.inr ⟨e, h, hl⟩
                · rcases hcm _ h with h | ⟨j, h, h'⟩
                  · rw [h]
                    exact Or.inl (Or.inl (List.mem_append_right _ (List.mem_singleton.mpr rfl)))
                  · exact Or.inr ⟨j, by omega, by rw [if_pos h]; exact h'⟩⟩, fun i hi => by
              replace hi : i < (X.1 ++ [mo a]).length := hi
              rw [List.length_append, List.length_singleton] at hi
              show tb_v n (fg_B (X.1 ++ [mo a]) i) ∧ al_dg (fg_B (X.1 ++ [mo a]) i) ≤ i
              by_cases hil : i = X.1.length
              · rw [hil, fg_B_r]; exact ⟨hmv, hmd0⟩
              · rw [fg_B_l _ _ _ (by omega)]; exact hb i (by omega), by
              right
              rcases hrun with hr | ⟨k, hr⟩
              · refine ⟨0, ?_⟩
                show _ = _
                rcases (hqj a ha).2 with ⟨_, h2, _⟩ | ⟨i, v, h1, _⟩
                · rw [h2, hr]; rfl
                · rw [hr] at h1; exact absurd h1 (Nat.not_lt_zero _)
              · have hXne : X.1 ≠ [] := fun hXe => by
                  have := fg_r_len k _ _ hr
                  rw [hXe] at this
                  simp at this
                exact ⟨k + 1, fg_r_s k _ _ _ hr ⟨mo a, hnx hXne, Or.inr ⟨hno, rfl⟩⟩⟩⟩ (by simp) (by
              show _ = q + n * (X.1 ++ [mo a]).length
              rw [List.length_append, List.length_singleton, Nat.mul_add]; omega) (by
              show X.2.length + (X.1 ++ [mo a]).length ≤ _
              rw [List.length_append, List.length_singleton]; omega) (by
              show _ ≤ (X.1 ++ [mo a]).length
              rw [List.length_append]; omega)
          simp only [mf_Lexicon_takeLeast, ca_Lexicon_takeLeast, dc_Lexicon_takeLeast_0, dc_Lexicon_takeLeast_1, dc_Lexicon_takeLeast_2, dc_Lexicon_takeLeast_3, dc_Lexicon_takeLeast_4, dc_Lexicon_takeLeast_5, dc_Lexicon_takeLeast_6, dc_Lexicon_takeLeast_7, dc_Lexicon_takeLeast_8, dc_Lexicon_takeLeast_9, dc_Lexicon_takeLeast_10, fl_Lexicon, sl_Lexicon, sg_Lexicon_isDone, sg_Lexicon_loadRow, sg_Lexicon_eliminate, sg_Lexicon_keepHead, sg_Lexicon_keepSmall, lx0, lx2, lx3, lx5, lx6, lx7, lx8, lx9, lx11, lx12, lx13, lx14, lx15, ly1, ly2, ly164, ly165, ly206, ly247, ly288, ly289, ly290, ly291, ly292, ly293, mzr_iconst, mzr_bipush, mzr_sipush, mzr_lconst, mzr_iload, mzr_iload_n, mzr_aload, mzr_aload_n, mzr_lload, mzr_lload_n, mzr_istore, mzr_istore_n, mzr_astore, mzr_astore_n, mzr_lstore, mzr_lstore_n, mzr_iinc, mzr_iadd, mzr_isub, mzr_imul, mzr_iand, mzr_ior, mzr_ixor, mzr_ishl, mzr_ishr, mzr_iushr, mzr_idiv, mzr_irem, mzr_ineg, mzr_ladd, mzr_lsub, mzr_lmul, mzr_lrem, mzr_lcmp, mzr_i2l, mzr_l2i, mzr_i2b, mzr_dup, mzr_pop, mzr_dup2, mzr_ifCond_eq, mzr_if_icmp_eq, mzr_ifCond_ne, mzr_if_icmp_ne, mzr_ifCond_lt, mzr_if_icmp_lt, mzr_ifCond_ge, mzr_if_icmp_ge, mzr_ifCond_gt, mzr_if_icmp_gt, mzr_ifCond_le, mzr_if_icmp_le, mzr_goto, mzr_iaload, mzr_baload, mzr_laload, mzr_aaload, mzr_iastore, mzr_bastore, mzr_lastore, mzr_arraylength, mzr_getfield, mzr_putfield, mzr_getstatic, mzr_ldc, mzr_ldc_w, mzr_ldc2_w, mzr_ireturn, mzr_return_, mzr_copy, mzr_static, mzr_virtual, mzr_new, mz_tk, mz_dp, mz_ln, mz_sz, mz_af_v, mz_af_s, mz_wp_s, mz_w1, mz_g, mz_st, mz_k, mz_s2, mz_nx, mz_en, mx_to, mz_c1, ↓reduceIte, Nat.reduceAdd, Nat.reduceSub, Nat.reduceMul, Nat.reduceMod, Nat.reduceDiv, Nat.reduceEqDiff, Nat.reduceLeDiff, Nat.reduceLT, Int.reduceAdd, Int.reduceSub, Int.reduceNeg, Int.reduceMul, Int.reduceLE, Int.reduceLT, Int.reduceEq, Int.reduceToNat, Int.reduceNegSucc, Int.cast_ofNat_Int, Int32.reduceToInt, Int64.reduceToInt, Int.zero_add, Int.add_zero, Fin.isValue, Fin.val_zero, Fin.val_one, Fin.val_two, reduceCtorEq, or_false, false_or, or_true, true_or, or_self, and_true, true_and, and_self, not_true_eq_false, not_false_eq_true, implies_true, forall_const, List.mem_cons, List.not_mem_nil, false_implies, true_implies, imp_false, Nat.zero_add, Option.some.injEq, Prod.mk.injEq]
          repeat' first | omega | refine mz_it (fun hh => ?_) (fun hh => ?_) | refine And.intro ?_ ?_
          all_goals exact fin
      rcases (hqj a ha).2 with ⟨hXe, h2, h3⟩ | ⟨i, v, hi, hv, h3, h4⟩
      · simp only [mf_Lexicon_takeLeast, ca_Lexicon_takeLeast, dc_Lexicon_takeLeast_0, dc_Lexicon_takeLeast_1, dc_Lexicon_takeLeast_2, dc_Lexicon_takeLeast_3, dc_Lexicon_takeLeast_4, dc_Lexicon_takeLeast_5, dc_Lexicon_takeLeast_6, dc_Lexicon_takeLeast_7, dc_Lexicon_takeLeast_8, dc_Lexicon_takeLeast_9, dc_Lexicon_takeLeast_10, fl_Lexicon, sl_Lexicon, sg_Lexicon_isDone, sg_Lexicon_loadRow, sg_Lexicon_eliminate, sg_Lexicon_keepHead, sg_Lexicon_keepSmall, lx0, lx2, lx3, lx5, lx6, lx7, lx8, lx9, lx11, lx12, lx13, lx14, lx15, ly1, ly2, ly164, ly165, ly206, ly247, ly288, ly289, ly290, ly291, ly292, ly293, h3, mzr_iconst, mzr_bipush, mzr_sipush, mzr_lconst, mzr_iload, mzr_iload_n, mzr_aload, mzr_aload_n, mzr_lload, mzr_lload_n, mzr_istore, mzr_istore_n, mzr_astore, mzr_astore_n, mzr_lstore, mzr_lstore_n, mzr_iinc, mzr_iadd, mzr_isub, mzr_imul, mzr_iand, mzr_ior, mzr_ixor, mzr_ishl, mzr_ishr, mzr_iushr, mzr_idiv, mzr_irem, mzr_ineg, mzr_ladd, mzr_lsub, mzr_lmul, mzr_lrem, mzr_lcmp, mzr_i2l, mzr_l2i, mzr_i2b, mzr_dup, mzr_pop, mzr_dup2, mzr_ifCond_eq, mzr_if_icmp_eq, mzr_ifCond_ne, mzr_if_icmp_ne, mzr_ifCond_lt, mzr_if_icmp_lt, mzr_ifCond_ge, mzr_if_icmp_ge, mzr_ifCond_gt, mzr_if_icmp_gt, mzr_ifCond_le, mzr_if_icmp_le, mzr_goto, mzr_iaload, mzr_baload, mzr_laload, mzr_aaload, mzr_iastore, mzr_bastore, mzr_lastore, mzr_arraylength, mzr_getfield, mzr_putfield, mzr_getstatic, mzr_ldc, mzr_ldc_w, mzr_ldc2_w, mzr_ireturn, mzr_return_, mzr_copy, mzr_static, mzr_virtual, mzr_new, mz_tk, mz_dp, mz_ln, mz_sz, mz_af_v, mz_af_s, mz_wp_s, mz_w1, mz_g, mz_st, mz_k, mz_s2, mz_nx, mz_en, mx_to, mz_c1, ↓reduceIte, Nat.reduceAdd, Nat.reduceSub, Nat.reduceMul, Nat.reduceMod, Nat.reduceDiv, Nat.reduceEqDiff, Nat.reduceLeDiff, Nat.reduceLT, Int.reduceAdd, Int.reduceSub, Int.reduceNeg, Int.reduceMul, Int.reduceLE, Int.reduceLT, Int.reduceEq, Int.reduceToNat, Int.reduceNegSucc, Int.cast_ofNat_Int, Int32.reduceToInt, Int64.reduceToInt, Int.zero_add, Int.add_zero, Fin.isValue, Fin.val_zero, Fin.val_one, Fin.val_two, reduceCtorEq, or_false, false_or, or_true, true_or, or_self, and_true, true_and, and_self, not_true_eq_false, not_false_eq_true, implies_true, forall_const, List.mem_cons, List.not_mem_nil, false_implies, true_implies, imp_false, Nat.zero_add, Option.some.injEq, Prod.mk.injEq]
        repeat' first | omega | refine mz_it (fun hh => ?_) (fun hh => ?_) | refine And.intro ?_ ?_
        refine ct_loadRow0 (d + 1) hG hE' hp2.1 hl1 hl40 h0 hSt1 hinj hnf (fun h1 f1 hfo => ?_)
        rw [← h2] at hfo
        have hx := hm2 h1 (some (.inl (-1))) none f1 hfo
        simp only [mf_Lexicon_takeLeast, ca_Lexicon_takeLeast, dc_Lexicon_takeLeast_0, dc_Lexicon_takeLeast_1, dc_Lexicon_takeLeast_2, dc_Lexicon_takeLeast_3, dc_Lexicon_takeLeast_4, dc_Lexicon_takeLeast_5, dc_Lexicon_takeLeast_6, dc_Lexicon_takeLeast_7, dc_Lexicon_takeLeast_8, dc_Lexicon_takeLeast_9, dc_Lexicon_takeLeast_10, fl_Lexicon, sl_Lexicon, sg_Lexicon_isDone, sg_Lexicon_loadRow, sg_Lexicon_eliminate, sg_Lexicon_keepHead, sg_Lexicon_keepSmall, lx0, lx2, lx3, lx5, lx6, lx7, lx8, lx9, lx11, lx12, lx13, lx14, lx15, ly1, ly2, ly164, ly165, ly206, ly247, ly288, ly289, ly290, ly291, ly292, ly293, mzr_iconst, mzr_bipush, mzr_sipush, mzr_lconst, mzr_iload, mzr_iload_n, mzr_aload, mzr_aload_n, mzr_lload, mzr_lload_n, mzr_istore, mzr_istore_n, mzr_astore, mzr_astore_n, mzr_lstore, mzr_lstore_n, mzr_iinc, mzr_iadd, mzr_isub, mzr_imul, mzr_iand, mzr_ior, mzr_ixor, mzr_ishl, mzr_ishr, mzr_iushr, mzr_idiv, mzr_irem, mzr_ineg, mzr_ladd, mzr_lsub, mzr_lmul, mzr_lrem, mzr_lcmp, mzr_i2l, mzr_l2i, mzr_i2b, mzr_dup, mzr_pop, mzr_dup2, mzr_ifCond_eq, mzr_if_icmp_eq, mzr_ifCond_ne, mzr_if_icmp_ne, mzr_ifCond_lt, mzr_if_icmp_lt, mzr_ifCond_ge, mzr_if_icmp_ge, mzr_ifCond_gt, mzr_if_icmp_gt, mzr_ifCond_le, mzr_if_icmp_le, mzr_goto, mzr_iaload, mzr_baload, mzr_laload, mzr_aaload, mzr_iastore, mzr_bastore, mzr_lastore, mzr_arraylength, mzr_getfield, mzr_putfield, mzr_getstatic, mzr_ldc, mzr_ldc_w, mzr_ldc2_w, mzr_ireturn, mzr_return_, mzr_copy, mzr_static, mzr_virtual, mzr_new, mz_tk, mz_dp, mz_ln, mz_sz, mz_af_v, mz_af_s, mz_wp_s, mz_w1, mz_g, mz_st, mz_k, mz_s2, mz_nx, mz_en, mx_to, mz_c1, ↓reduceIte, Nat.reduceAdd, Nat.reduceSub, Nat.reduceMul, Nat.reduceMod, Nat.reduceDiv, Nat.reduceEqDiff, Nat.reduceLeDiff, Nat.reduceLT, Int.reduceAdd, Int.reduceSub, Int.reduceNeg, Int.reduceMul, Int.reduceLE, Int.reduceLT, Int.reduceEq, Int.reduceToNat, Int.reduceNegSucc, Int.cast_ofNat_Int, Int32.reduceToInt, Int64.reduceToInt, Int.zero_add, Int.add_zero, Fin.isValue, Fin.val_zero, Fin.val_one, Fin.val_two, reduceCtorEq, or_false, false_or, or_true, true_or, or_self, and_true, true_and, and_self, not_true_eq_false, not_false_eq_true, implies_true, forall_const, List.mem_cons, List.not_mem_nil, false_implies, true_implies, imp_false, Nat.zero_add, Option.some.injEq, Prod.mk.injEq]
        repeat' first | omega | refine mz_it (fun hh => ?_) (fun hh => ?_) | refine And.intro ?_ ?_
        all_goals exact hx
      · simp only [mf_Lexicon_takeLeast, ca_Lexicon_takeLeast, dc_Lexicon_takeLeast_0, dc_Lexicon_takeLeast_1, dc_Lexicon_takeLeast_2, dc_Lexicon_takeLeast_3, dc_Lexicon_takeLeast_4, dc_Lexicon_takeLeast_5, dc_Lexicon_takeLeast_6, dc_Lexicon_takeLeast_7, dc_Lexicon_takeLeast_8, dc_Lexicon_takeLeast_9, dc_Lexicon_takeLeast_10, fl_Lexicon, sl_Lexicon, sg_Lexicon_isDone, sg_Lexicon_loadRow, sg_Lexicon_eliminate, sg_Lexicon_keepHead, sg_Lexicon_keepSmall, lx0, lx2, lx3, lx5, lx6, lx7, lx8, lx9, lx11, lx12, lx13, lx14, lx15, ly1, ly2, ly164, ly165, ly206, ly247, ly288, ly289, ly290, ly291, ly292, ly293, h4, mzr_iconst, mzr_bipush, mzr_sipush, mzr_lconst, mzr_iload, mzr_iload_n, mzr_aload, mzr_aload_n, mzr_lload, mzr_lload_n, mzr_istore, mzr_istore_n, mzr_astore, mzr_astore_n, mzr_lstore, mzr_lstore_n, mzr_iinc, mzr_iadd, mzr_isub, mzr_imul, mzr_iand, mzr_ior, mzr_ixor, mzr_ishl, mzr_ishr, mzr_iushr, mzr_idiv, mzr_irem, mzr_ineg, mzr_ladd, mzr_lsub, mzr_lmul, mzr_lrem, mzr_lcmp, mzr_i2l, mzr_l2i, mzr_i2b, mzr_dup, mzr_pop, mzr_dup2, mzr_ifCond_eq, mzr_if_icmp_eq, mzr_ifCond_ne, mzr_if_icmp_ne, mzr_ifCond_lt, mzr_if_icmp_lt, mzr_ifCond_ge, mzr_if_icmp_ge, mzr_ifCond_gt, mzr_if_icmp_gt, mzr_ifCond_le, mzr_if_icmp_le, mzr_goto, mzr_iaload, mzr_baload, mzr_laload, mzr_aaload, mzr_iastore, mzr_bastore, mzr_lastore, mzr_arraylength, mzr_getfield, mzr_putfield, mzr_getstatic, mzr_ldc, mzr_ldc_w, mzr_ldc2_w, mzr_ireturn, mzr_return_, mzr_copy, mzr_static, mzr_virtual, mzr_new, mz_tk, mz_dp, mz_ln, mz_sz, mz_af_v, mz_af_s, mz_wp_s, mz_w1, mz_g, mz_st, mz_k, mz_s2, mz_nx, mz_en, mx_to, mz_c1, ↓reduceIte, Nat.reduceAdd, Nat.reduceSub, Nat.reduceMul, Nat.reduceMod, Nat.reduceDiv, Nat.reduceEqDiff, Nat.reduceLeDiff, Nat.reduceLT, Int.reduceAdd, Int.reduceSub, Int.reduceNeg, Int.reduceMul, Int.reduceLE, Int.reduceLT, Int.reduceEq, Int.reduceToNat, Int.reduceNegSucc, Int.cast_ofNat_Int, Int32.reduceToInt, Int64.reduceToInt, Int.zero_add, Int.add_zero, Fin.isValue, Fin.val_zero, Fin.val_one, Fin.val_two, reduceCtorEq, or_false, false_or, or_true, true_or, or_self, and_true, true_and, and_self, not_true_eq_false, not_false_eq_true, implies_true, forall_const, List.mem_cons, List.not_mem_nil, false_implies, true_implies, imp_false, Nat.zero_add, Option.some.injEq, Prod.mk.injEq]
        repeat' first | omega | refine mz_it (fun hh => ?_) (fun hh => ?_) | refine And.intro ?_ ?_
        refine ct_loadRow1 (d + 1) (B := B) hG hE' hU hR hpH1 hp2 hru hux hn4 hv (by omega) (by rw [hxu, hl]) hl40 hls hinj hF1 hnf (hw1.1 i hi) (hb i hi).1 (fun h1 f1 hfo => ?_)
        rw [← h3] at hfo
        have hx := hm2 h1 (some (.inl ((i * 4 + v : Nat) : Int))) none f1 hfo
        simp only [mf_Lexicon_takeLeast, ca_Lexicon_takeLeast, dc_Lexicon_takeLeast_0, dc_Lexicon_takeLeast_1, dc_Lexicon_takeLeast_2, dc_Lexicon_takeLeast_3, dc_Lexicon_takeLeast_4, dc_Lexicon_takeLeast_5, dc_Lexicon_takeLeast_6, dc_Lexicon_takeLeast_7, dc_Lexicon_takeLeast_8, dc_Lexicon_takeLeast_9, dc_Lexicon_takeLeast_10, fl_Lexicon, sl_Lexicon, sg_Lexicon_isDone, sg_Lexicon_loadRow, sg_Lexicon_eliminate, sg_Lexicon_keepHead, sg_Lexicon_keepSmall, lx0, lx2, lx3, lx5, lx6, lx7, lx8, lx9, lx11, lx12, lx13, lx14, lx15, ly1, ly2, ly164, ly165, ly206, ly247, ly288, ly289, ly290, ly291, ly292, ly293, mzr_iconst, mzr_bipush, mzr_sipush, mzr_lconst, mzr_iload, mzr_iload_n, mzr_aload, mzr_aload_n, mzr_lload, mzr_lload_n, mzr_istore, mzr_istore_n, mzr_astore, mzr_astore_n, mzr_lstore, mzr_lstore_n, mzr_iinc, mzr_iadd, mzr_isub, mzr_imul, mzr_iand, mzr_ior, mzr_ixor, mzr_ishl, mzr_ishr, mzr_iushr, mzr_idiv, mzr_irem, mzr_ineg, mzr_ladd, mzr_lsub, mzr_lmul, mzr_lrem, mzr_lcmp, mzr_i2l, mzr_l2i, mzr_i2b, mzr_dup, mzr_pop, mzr_dup2, mzr_ifCond_eq, mzr_if_icmp_eq, mzr_ifCond_ne, mzr_if_icmp_ne, mzr_ifCond_lt, mzr_if_icmp_lt, mzr_ifCond_ge, mzr_if_icmp_ge, mzr_ifCond_gt, mzr_if_icmp_gt, mzr_ifCond_le, mzr_if_icmp_le, mzr_goto, mzr_iaload, mzr_baload, mzr_laload, mzr_aaload, mzr_iastore, mzr_bastore, mzr_lastore, mzr_arraylength, mzr_getfield, mzr_putfield, mzr_getstatic, mzr_ldc, mzr_ldc_w, mzr_ldc2_w, mzr_ireturn, mzr_return_, mzr_copy, mzr_static, mzr_virtual, mzr_new, mz_tk, mz_dp, mz_ln, mz_sz, mz_af_v, mz_af_s, mz_wp_s, mz_w1, mz_g, mz_st, mz_k, mz_s2, mz_nx, mz_en, mx_to, mz_c1, ↓reduceIte, Nat.reduceAdd, Nat.reduceSub, Nat.reduceMul, Nat.reduceMod, Nat.reduceDiv, Nat.reduceEqDiff, Nat.reduceLeDiff, Nat.reduceLT, Int.reduceAdd, Int.reduceSub, Int.reduceNeg, Int.reduceMul, Int.reduceLE, Int.reduceLT, Int.reduceEq, Int.reduceToNat, Int.reduceNegSucc, Int.cast_ofNat_Int, Int32.reduceToInt, Int64.reduceToInt, Int.zero_add, Int.add_zero, Fin.isValue, Fin.val_zero, Fin.val_one, Fin.val_two, reduceCtorEq, or_false, false_or, or_true, true_or, or_self, and_true, true_and, and_self, not_true_eq_false, not_false_eq_true, implies_true, forall_const, List.mem_cons, List.not_mem_nil, false_implies, true_implies, imp_false, Nat.zero_add, Option.some.injEq, Prod.mk.injEq]
        repeat' first | omega | refine mz_it (fun hh => ?_) (fun hh => ?_) | refine And.intro ?_ ?_
        all_goals exact hx
  have lp : ∀ (c k a : Nat), k + c = q → a < q → (∀ j, j < k → pk (mo a) ≤ pk (mo j)) → mz_V e (d + 5) mm_Lexicon_takeLeast 5 [some (.inr (.inl x)), some (.inr (.inl r)), some (.inr (.inl u)), some (.inl (a : Int)), some (.inl (k : Int)), none, none] [] H P := by
    intro c
    induction c with
    | zero =>
      intro k a h1 ha h2
      obtain rfl : k = q := by omega
      have hx := main a none ha h2
      apply mz_go hG 80 [5, 43]
      simp only [mf_Lexicon_takeLeast, ca_Lexicon_takeLeast, dc_Lexicon_takeLeast_0, dc_Lexicon_takeLeast_1, dc_Lexicon_takeLeast_2, dc_Lexicon_takeLeast_3, dc_Lexicon_takeLeast_4, dc_Lexicon_takeLeast_5, dc_Lexicon_takeLeast_6, dc_Lexicon_takeLeast_7, dc_Lexicon_takeLeast_8, dc_Lexicon_takeLeast_9, dc_Lexicon_takeLeast_10, fl_Lexicon, sl_Lexicon, sg_Lexicon_isDone, sg_Lexicon_loadRow, sg_Lexicon_eliminate, sg_Lexicon_keepHead, sg_Lexicon_keepSmall, lx0, lx2, lx3, lx5, lx6, lx7, lx8, lx9, lx11, lx12, lx13, lx14, lx15, ly1, ly2, ly164, ly165, ly206, ly247, ly288, ly289, ly290, ly291, ly292, ly293, hq10, mzr_iconst, mzr_bipush, mzr_sipush, mzr_lconst, mzr_iload, mzr_iload_n, mzr_aload, mzr_aload_n, mzr_lload, mzr_lload_n, mzr_istore, mzr_istore_n, mzr_astore, mzr_astore_n, mzr_lstore, mzr_lstore_n, mzr_iinc, mzr_iadd, mzr_isub, mzr_imul, mzr_iand, mzr_ior, mzr_ixor, mzr_ishl, mzr_ishr, mzr_iushr, mzr_idiv, mzr_irem, mzr_ineg, mzr_ladd, mzr_lsub, mzr_lmul, mzr_lrem, mzr_lcmp, mzr_i2l, mzr_l2i, mzr_i2b, mzr_dup, mzr_pop, mzr_dup2, mzr_ifCond_eq, mzr_if_icmp_eq, mzr_ifCond_ne, mzr_if_icmp_ne, mzr_ifCond_lt, mzr_if_icmp_lt, mzr_ifCond_ge, mzr_if_icmp_ge, mzr_ifCond_gt, mzr_if_icmp_gt, mzr_ifCond_le, mzr_if_icmp_le, mzr_goto, mzr_iaload, mzr_baload, mzr_laload, mzr_aaload, mzr_iastore, mzr_bastore, mzr_lastore, mzr_arraylength, mzr_getfield, mzr_putfield, mzr_getstatic, mzr_ldc, mzr_ldc_w, mzr_ldc2_w, mzr_ireturn, mzr_return_, mzr_copy, mzr_static, mzr_virtual, mzr_new, mz_tk, mz_dp, mz_ln, mz_sz, mz_af_v, mz_af_s, mz_wp_s, mz_w1, mz_g, mz_st, mz_k, mz_s2, mz_nx, mz_en, mx_to, mz_c1, ↓reduceIte, Nat.reduceAdd, Nat.reduceSub, Nat.reduceMul, Nat.reduceMod, Nat.reduceDiv, Nat.reduceEqDiff, Nat.reduceLeDiff, Nat.reduceLT, Int.reduceAdd, Int.reduceSub, Int.reduceNeg, Int.reduceMul, Int.reduceLE, Int.reduceLT, Int.reduceEq, Int.reduceToNat, Int.reduceNegSucc, Int.cast_ofNat_Int, Int32.reduceToInt, Int64.reduceToInt, Int.zero_add, Int.add_zero, Fin.isValue, Fin.val_zero, Fin.val_one, Fin.val_two, reduceCtorEq, or_false, false_or, or_true, true_or, or_self, and_true, true_and, and_self, not_true_eq_false, not_false_eq_true, implies_true, forall_const, List.mem_cons, List.not_mem_nil, false_implies, true_implies, imp_false, Nat.zero_add, Option.some.injEq, Prod.mk.injEq]
      repeat' first | omega | refine mz_it (fun hh => ?_) (fun hh => ?_) | refine And.intro ?_ ?_
      all_goals exact hx
    | succ c ih =>
      intro k a h1 ha h2
      have zk := (hqj k (by omega)).1
      have za := (hqj a ha).1
      by_cases hlt : pk (mo k) < pk (mo a)
      · have hx := ih (k + 1) k (by omega) (by omega) (fun j hj => by
          by_cases hjk : j = k
          · rw [hjk]; exact Nat.le_refl _
          · exact Nat.le_trans (Nat.le_of_lt hlt) (h2 j (by omega)))
        apply mz_go hG 80 [5, 43]
        simp only [mf_Lexicon_takeLeast, ca_Lexicon_takeLeast, dc_Lexicon_takeLeast_0, dc_Lexicon_takeLeast_1, dc_Lexicon_takeLeast_2, dc_Lexicon_takeLeast_3, dc_Lexicon_takeLeast_4, dc_Lexicon_takeLeast_5, dc_Lexicon_takeLeast_6, dc_Lexicon_takeLeast_7, dc_Lexicon_takeLeast_8, dc_Lexicon_takeLeast_9, dc_Lexicon_takeLeast_10, fl_Lexicon, sl_Lexicon, sg_Lexicon_isDone, sg_Lexicon_loadRow, sg_Lexicon_eliminate, sg_Lexicon_keepHead, sg_Lexicon_keepSmall, lx0, lx2, lx3, lx5, lx6, lx7, lx8, lx9, lx11, lx12, lx13, lx14, lx15, ly1, ly2, ly164, ly165, ly206, ly247, ly288, ly289, ly290, ly291, ly292, ly293, hq10, zk, za, Int.toNat_natCast, mzr_iconst, mzr_bipush, mzr_sipush, mzr_lconst, mzr_iload, mzr_iload_n, mzr_aload, mzr_aload_n, mzr_lload, mzr_lload_n, mzr_istore, mzr_istore_n, mzr_astore, mzr_astore_n, mzr_lstore, mzr_lstore_n, mzr_iinc, mzr_iadd, mzr_isub, mzr_imul, mzr_iand, mzr_ior, mzr_ixor, mzr_ishl, mzr_ishr, mzr_iushr, mzr_idiv, mzr_irem, mzr_ineg, mzr_ladd, mzr_lsub, mzr_lmul, mzr_lrem, mzr_lcmp, mzr_i2l, mzr_l2i, mzr_i2b, mzr_dup, mzr_pop, mzr_dup2, mzr_ifCond_eq, mzr_if_icmp_eq, mzr_ifCond_ne, mzr_if_icmp_ne, mzr_ifCond_lt, mzr_if_icmp_lt, mzr_ifCond_ge, mzr_if_icmp_ge, mzr_ifCond_gt, mzr_if_icmp_gt, mzr_ifCond_le, mzr_if_icmp_le, mzr_goto, mzr_iaload, mzr_baload, mzr_laload, mzr_aaload, mzr_iastore, mzr_bastore, mzr_lastore, mzr_arraylength, mzr_getfield, mzr_putfield, mzr_getstatic, mzr_ldc, mzr_ldc_w, mzr_ldc2_w, mzr_ireturn, mzr_return_, mzr_copy, mzr_static, mzr_virtual, mzr_new, mz_tk, mz_dp, mz_ln, mz_sz, mz_af_v, mz_af_s, mz_wp_s, mz_w1, mz_g, mz_st, mz_k, mz_s2, mz_nx, mz_en, mx_to, mz_c1, ↓reduceIte, Nat.reduceAdd, Nat.reduceSub, Nat.reduceMul, Nat.reduceMod, Nat.reduceDiv, Nat.reduceEqDiff, Nat.reduceLeDiff, Nat.reduceLT, Int.reduceAdd, Int.reduceSub, Int.reduceNeg, Int.reduceMul, Int.reduceLE, Int.reduceLT, Int.reduceEq, Int.reduceToNat, Int.reduceNegSucc, Int.cast_ofNat_Int, Int32.reduceToInt, Int64.reduceToInt, Int.zero_add, Int.add_zero, Fin.isValue, Fin.val_zero, Fin.val_one, Fin.val_two, reduceCtorEq, or_false, false_or, or_true, true_or, or_self, and_true, true_and, and_self, not_true_eq_false, not_false_eq_true, implies_true, forall_const, List.mem_cons, List.not_mem_nil, false_implies, true_implies, imp_false, Nat.zero_add, Option.some.injEq, Prod.mk.injEq]
        repeat' first | omega | refine mz_it (fun hh => ?_) (fun hh => ?_) | refine And.intro ?_ ?_
        all_goals exact hx
      · have hx := ih (k + 1) a (by omega) ha (fun j hj => by
          by_cases hjk : j = k
          · rw [hjk]; omega
          · exact h2 j (by omega))
        apply mz_go hG 80 [5, 43]
        simp only [mf_Lexicon_takeLeast, ca_Lexicon_takeLeast, dc_Lexicon_takeLeast_0, dc_Lexicon_takeLeast_1, dc_Lexicon_takeLeast_2, dc_Lexicon_takeLeast_3, dc_Lexicon_takeLeast_4, dc_Lexicon_takeLeast_5, dc_Lexicon_takeLeast_6, dc_Lexicon_takeLeast_7, dc_Lexicon_takeLeast_8, dc_Lexicon_takeLeast_9, dc_Lexicon_takeLeast_10, fl_Lexicon, sl_Lexicon, sg_Lexicon_isDone, sg_Lexicon_loadRow, sg_Lexicon_eliminate, sg_Lexicon_keepHead, sg_Lexicon_keepSmall, lx0, lx2, lx3, lx5, lx6, lx7, lx8, lx9, lx11, lx12, lx13, lx14, lx15, ly1, ly2, ly164, ly165, ly206, ly247, ly288, ly289, ly290, ly291, ly292, ly293, hq10, zk, za, Int.toNat_natCast, mzr_iconst, mzr_bipush, mzr_sipush, mzr_lconst, mzr_iload, mzr_iload_n, mzr_aload, mzr_aload_n, mzr_lload, mzr_lload_n, mzr_istore, mzr_istore_n, mzr_astore, mzr_astore_n, mzr_lstore, mzr_lstore_n, mzr_iinc, mzr_iadd, mzr_isub, mzr_imul, mzr_iand, mzr_ior, mzr_ixor, mzr_ishl, mzr_ishr, mzr_iushr, mzr_idiv, mzr_irem, mzr_ineg, mzr_ladd, mzr_lsub, mzr_lmul, mzr_lrem, mzr_lcmp, mzr_i2l, mzr_l2i, mzr_i2b, mzr_dup, mzr_pop, mzr_dup2, mzr_ifCond_eq, mzr_if_icmp_eq, mzr_ifCond_ne, mzr_if_icmp_ne, mzr_ifCond_lt, mzr_if_icmp_lt, mzr_ifCond_ge, mzr_if_icmp_ge, mzr_ifCond_gt, mzr_if_icmp_gt, mzr_ifCond_le, mzr_if_icmp_le, mzr_goto, mzr_iaload, mzr_baload, mzr_laload, mzr_aaload, mzr_iastore, mzr_bastore, mzr_lastore, mzr_arraylength, mzr_getfield, mzr_putfield, mzr_getstatic, mzr_ldc, mzr_ldc_w, mzr_ldc2_w, mzr_ireturn, mzr_return_, mzr_copy, mzr_static, mzr_virtual, mzr_new, mz_tk, mz_dp, mz_ln, mz_sz, mz_af_v, mz_af_s, mz_wp_s, mz_w1, mz_g, mz_st, mz_k, mz_s2, mz_nx, mz_en, mx_to, mz_c1, ↓reduceIte, Nat.reduceAdd, Nat.reduceSub, Nat.reduceMul, Nat.reduceMod, Nat.reduceDiv, Nat.reduceEqDiff, Nat.reduceLeDiff, Nat.reduceLT, Int.reduceAdd, Int.reduceSub, Int.reduceNeg, Int.reduceMul, Int.reduceLE, Int.reduceLT, Int.reduceEq, Int.reduceToNat, Int.reduceNegSucc, Int.cast_ofNat_Int, Int32.reduceToInt, Int64.reduceToInt, Int.zero_add, Int.add_zero, Fin.isValue, Fin.val_zero, Fin.val_one, Fin.val_two, reduceCtorEq, or_false, false_or, or_true, true_or, or_self, and_true, true_and, and_self, not_true_eq_false, not_false_eq_true, implies_true, forall_const, List.mem_cons, List.not_mem_nil, false_implies, true_implies, imp_false, Nat.zero_add, Option.some.injEq, Prod.mk.injEq]
        repeat' first | omega | refine mz_it (fun hh => ?_) (fun hh => ?_) | refine And.intro ?_ ?_
        all_goals exact hx
  have hx := lp (q - 1) 1 0 (by omega) (by omega) (fun j hj => by obtain rfl : j = 0 := by omega
                                                                  exact Nat.le_refl _)
  refine mz_CA_of mr_Lexicon_takeLeast ?_
  simp only [mf_Lexicon_takeLeast, mz_en, List.replicate, Nat.reduceSub, Nat.reduceAdd, Nat.reduceMul]
  apply mz_go hG 80 [5, 43]
  simp only [mf_Lexicon_takeLeast, ca_Lexicon_takeLeast, dc_Lexicon_takeLeast_0, dc_Lexicon_takeLeast_1, dc_Lexicon_takeLeast_2, dc_Lexicon_takeLeast_3, dc_Lexicon_takeLeast_4, dc_Lexicon_takeLeast_5, dc_Lexicon_takeLeast_6, dc_Lexicon_takeLeast_7, dc_Lexicon_takeLeast_8, dc_Lexicon_takeLeast_9, dc_Lexicon_takeLeast_10, fl_Lexicon, sl_Lexicon, sg_Lexicon_isDone, sg_Lexicon_loadRow, sg_Lexicon_eliminate, sg_Lexicon_keepHead, sg_Lexicon_keepSmall, lx0, lx2, lx3, lx5, lx6, lx7, lx8, lx9, lx11, lx12, lx13, lx14, lx15, ly1, ly2, ly164, ly165, ly206, ly247, ly288, ly289, ly290, ly291, ly292, ly293, mzr_iconst, mzr_bipush, mzr_sipush, mzr_lconst, mzr_iload, mzr_iload_n, mzr_aload, mzr_aload_n, mzr_lload, mzr_lload_n, mzr_istore, mzr_istore_n, mzr_astore, mzr_astore_n, mzr_lstore, mzr_lstore_n, mzr_iinc, mzr_iadd, mzr_isub, mzr_imul, mzr_iand, mzr_ior, mzr_ixor, mzr_ishl, mzr_ishr, mzr_iushr, mzr_idiv, mzr_irem, mzr_ineg, mzr_ladd, mzr_lsub, mzr_lmul, mzr_lrem, mzr_lcmp, mzr_i2l, mzr_l2i, mzr_i2b, mzr_dup, mzr_pop, mzr_dup2, mzr_ifCond_eq, mzr_if_icmp_eq, mzr_ifCond_ne, mzr_if_icmp_ne, mzr_ifCond_lt, mzr_if_icmp_lt, mzr_ifCond_ge, mzr_if_icmp_ge, mzr_ifCond_gt, mzr_if_icmp_gt, mzr_ifCond_le, mzr_if_icmp_le, mzr_goto, mzr_iaload, mzr_baload, mzr_laload, mzr_aaload, mzr_iastore, mzr_bastore, mzr_lastore, mzr_arraylength, mzr_getfield, mzr_putfield, mzr_getstatic, mzr_ldc, mzr_ldc_w, mzr_ldc2_w, mzr_ireturn, mzr_return_, mzr_copy, mzr_static, mzr_virtual, mzr_new, mz_tk, mz_dp, mz_ln, mz_sz, mz_af_v, mz_af_s, mz_wp_s, mz_w1, mz_g, mz_st, mz_k, mz_s2, mz_nx, mz_en, mx_to, mz_c1, ↓reduceIte, Nat.reduceAdd, Nat.reduceSub, Nat.reduceMul, Nat.reduceMod, Nat.reduceDiv, Nat.reduceEqDiff, Nat.reduceLeDiff, Nat.reduceLT, Int.reduceAdd, Int.reduceSub, Int.reduceNeg, Int.reduceMul, Int.reduceLE, Int.reduceLT, Int.reduceEq, Int.reduceToNat, Int.reduceNegSucc, Int.cast_ofNat_Int, Int32.reduceToInt, Int64.reduceToInt, Int.zero_add, Int.add_zero, Fin.isValue, Fin.val_zero, Fin.val_one, Fin.val_two, reduceCtorEq, or_false, false_or, or_true, true_or, or_self, and_true, true_and, and_self, not_true_eq_false, not_false_eq_true, implies_true, forall_const, List.mem_cons, List.not_mem_nil, false_implies, true_implies, imp_false, Nat.zero_add, Option.some.injEq, Prod.mk.injEq]
  repeat' first | omega | refine mz_it (fun hh => ?_) (fun hh => ?_) | refine And.intro ?_ ?_
  all_goals exact hx
