/- the law's entry: class, reference and the long array are made; then the loop -/
theorem uh_i {e : mz_E} {H : mz_H} (hk : mz_hk H) (c k : Nat) : ((mz_uh e H).2.2.2.1 c k).toInt = H.2.1 c k := mz_in_t (hk.1 c k)
theorem nw_o {E : mx_E} {h : mx_H} {k n z c : Nat} (hz : z = E.2.1 + h.1) (hc : c ≠ z) : (mx_nw E h k n).2.2.1 c = h.2.2.1 c ∧ (mx_nw E h k n).2.2.2.1 c = h.2.2.2.1 c ∧ (mx_nw E h k n).2.2.2.2.1 c = h.2.2.2.2.1 c := by
  subst hz
  exact ⟨if_neg hc, if_neg hc, if_neg hc⟩
theorem nw_s {E : mx_E} {h : mx_H} {k n z : Nat} (hz : z = E.2.1 + h.1) : (mx_nw E h k n).2.2.1 z = some (k, n) := by
  subst hz
  exact if_pos rfl
/- at the loop's head -/
set_option maxRecDepth 100000 in
theorem ent_3 {E : mx_E} {b L x y w s1 s2 : Nat} (D : Nat) (hG : mx_G E) {h1 hJ h2 hM h3 : mx_H} {H H2 : mz_H} {a : Nat → Nat → Int} {l : mx_L} (hx : x = E.2.1) (hy : y = x + 1987) (hw : w = y + 43) (hbl : b < x) (hsl : E.2.2.2.2 < x) (hL : L ≤ 3072)
    (hb : h1.2.2.1 b = some (21, L)) (hst : h1.2.2.1 E.2.2.2.2 = some (21, 5)) (hi : ∀ n, 1 ≤ n → n ≤ 4 → (h1.2.2.2.1 E.2.2.2.2 n).toInt = tb_h n)
    (qS : bS E h1 x 1987 s1 bk_J (br_J x) bm_J bf_I bw_J [314, 12, 1] hJ) (qf : mz_fr (eh hJ) H (iw_ba x)) (qk : mz_hk H) (qI : iw_S H x 7 2 0 a g00 t00 [] 0 ([], []) (0, 0, []))
    (e2 : ∀ c, c ≠ y → h2.2.2.1 c = hJ.2.2.1 c ∧ h2.2.2.2.1 c = (mz_uh (en E hJ) H).2.2.2.1 c ∧ h2.2.2.2.2.1 c = hJ.2.2.2.2.1 c)
    (rS : bS E h2 y 43 s2 bk_M (br_M y) bm_M bf_M [] [] hM) (rf : mz_fr (eh hM) H2 [y + 1, y + 2, y + 3, y + 4]) (rk : mz_hk H2) (rI : rm_S H2 y 7 2 0 a g00 t00 [] 0 ([], []) (0, 0, []))
    (e3 : ∀ c, c ≠ w → h3.2.2.1 c = hM.2.2.1 c ∧ h3.2.2.2.1 c = (mz_uh (en E hM) H2).2.2.2.1 c ∧ h3.2.2.2.2.1 c = hM.2.2.2.2.1 c) (e3w : h3.2.2.1 w = some (24, 1)) (e3c : h3.1 ≤ 600000) (e3s : h3.2.1 ≤ 7000000)
    (l0 : l 0 = some (.ref b)) (l1 : l 1 = some (.ref x)) (l2 : l 2 = some (.ref y)) (l3 : l 3 = some (.ref w)) (l4 : l 4 = some (.int 0)) : mx_V E (D + 100) mm_law 23 l [] h3 (fun o _ => o = .inl (some (.int 1))) := by
  have iM : ∀ c, c ≠ w → ∀ k, (h3.2.2.2.1 c k).toInt = H2.2.1 c k := fun c hc k => by rw [(e3 c hc).2.1, uh_i rk]
  have iJ : ∀ c, c ≠ y → ∀ k, (h2.2.2.2.1 c k).toInt = H.2.1 c k := fun c hc k => by rw [(e2 c hc).2.1, uh_i qk]
  have fM := rS.2.1
  have fJ := qS.2.1
  have kM : ∀ c, c < y → H2.2.1 c = H.2.1 c := fun c hc => by
    funext k
    rw [rf.2.2 c (by simp; omega)]
    show (hM.2.2.2.1 c k).toInt = _
    rw [(fM c (Or.inl hc)).2.1, iJ c (by omega)]
  have kM2 : ∀ c, w ≤ c → H2.2.1 c = H.2.1 c := fun c hc => by
    funext k
    rw [rf.2.2 c (by simp; omega)]
    show (hM.2.2.2.1 c k).toInt = _
    rw [(fM c (Or.inr (by omega))).2.1, iJ c (by omega)]
  have kJ : ∀ c, c < x → ∀ k, H.2.1 c k = (h1.2.2.2.1 c k).toInt := fun c hc k => by
    rw [qf.2.2 c (by unfold iw_ba; simp [bl_m]; omega)]
    show (hJ.2.2.2.1 c k).toInt = _
    rw [(fJ c (Or.inl hc)).2.1]
  have kk : ∀ c, c < x → h3.2.2.1 c = h1.2.2.1 c := fun c hc => by
    rw [(e3 c (by omega)).1, (fM c (Or.inl (by omega))).1, (e2 c (by omega)).1, (fJ c (Or.inl hc)).1]
  have hE : lE (en E h3) x y w b L := by
    refine ⟨eE_iw qS.2.2 (fun c hc => ?_) ?_ hsl, eE_rm rS.2.2 (fun c hc => ?_), e3w, ?_, by omega, hbl, hsl, e3c, e3s⟩
    · exact ⟨by rw [(e3 _ (by omega)).1, (fM _ (Or.inl (by omega))).1, (e2 _ (by omega)).1], by rw [(e3 _ (by omega)).2.2, (fM _ (Or.inl (by omega))).2.2.1, (e2 _ (by omega)).2.2]⟩
    · show h3.2.2.1 E.2.2.2.2 = _
      rw [kk _ hsl]
      exact hst
    · exact ⟨(e3 _ (by omega)).1, (e3 _ (by omega)).2.2⟩
    · show h3.2.2.1 b = _
      rw [kk _ hbl]
      exact hb
  have hI : lI (en E h3) x y b ((eh h3).2.1 b) 0 (eh h3) := by
    refine ⟨7, 2, 0, a, g00, t00, [], 0, ([], []), (0, 0, []), ?_, ?_, Nat.le_refl 0, ⟨fun j _ => by show (0 : Int) ≠ -1; decide, fun j => by show (0 : Int) ≠ -1; decide⟩, Nat.le_refl 0, fun n n1 n2 => ?_, rfl⟩
    · refine (qI.fr (h := (H.1, (eh h3).2.1, H.2.2)) (A := bl y 44) ⟨rfl, rfl, fun c hc => ?_⟩ (fun c hc => by rw [bl_m] at hc; unfold iw_sc; omega)).c 0 (eh h3).2.2
      rw [bl_m] at hc
      funext k
      show (h3.2.2.2.1 c k).toInt = _
      rw [iM c (by omega)]
      by_cases q : c < y
      · rw [kM c q]
      · rw [kM2 c (by omega)]
    · refine (rI.fr (h := (H2.1, (eh h3).2.1, H2.2.2)) (A := [w]) ⟨rfl, rfl, fun c hc => ?_⟩ (fun k _ => ?_) (fun c hc => by unfold rm_c at hc; simp; omega)).c 0 (eh h3).2.2
      · funext k
        show (h3.2.2.2.1 c k).toInt = _
        rw [iM c (by simpa using hc)]
      · show (h3.2.2.2.1 y k).toInt = _
        rw [iM y (by omega)]
    · show (h3.2.2.2.1 E.2.2.2.2 n).toInt = _
      rw [iM _ (by omega), kM _ (by omega), kJ _ hsl]
      exact hi n n1 n2
  have hl := lp_law (e := en E h3) (B := (eh h3).2.1 b) (P := fun O _ => O = .inl (some (.inl 1))) D hG hE hL (fun j => (eh_hk h3).1 b j) (fun _ => rfl) 512 0 (eh h3) none none (by omega) (by omega) hI (fun _ h => by cases h) (eh_hk h3) l ?_
  · rw [en_uh] at hl
    refine hl.mono (fun o h' q => ?_)
    obtain ⟨O, H', q1, q2, q3, q4, q5⟩ := q
    rw [q1, q5]
    rfl
  · intro j v hj
    rcases j with _ | _ | _ | _ | _ | _ | _ | j
    · cases hj
      exact ⟨l0, trivial⟩
    · cases hj
      exact ⟨l1, trivial⟩
    · cases hj
      exact ⟨l2, trivial⟩
    · cases hj
      exact ⟨l3, trivial⟩
    · cases hj
      exact ⟨l4, by show mz_in _; unfold mz_in; omega⟩
    · cases hj
    · cases hj
    · cases hj
set_option maxRecDepth 100000 in
theorem ent {E : mx_E} {b L : Nat} (D : Nat) (hG : mx_G E) {h0 : mx_H} (c0 : h0.1 = 0) (s0 : h0.2.1 = 0) (hb : h0.2.2.1 b = some (21, L)) (hst : h0.2.2.1 E.2.2.2.2 = some (21, 5)) (hi : ∀ n, 1 ≤ n → n ≤ 4 → (h0.2.2.2.1 E.2.2.2.2 n).toInt = tb_h n) (hbl : b < E.2.1) (hsl : E.2.2.2.2 < E.2.1) (hL : L ≤ 3072) : mx_V E (D + 100) mm_law 0 (mx_en [.ref b]) [] h0 (fun o _ => o = .inl (some (.int 1))) := by
  obtain ⟨x, hx⟩ : ∃ x, x = E.2.1 + h0.1 := ⟨_, rfl⟩
  refine mv_new hG (idx := 8) (by rw [ca_law]; exact dc_law_0.1) (by rw [mf_law.1]; exact mx_cn_r.1.1) (by omega) (by omega) ?_
  rw [← hx]
  have S1 : bS E (mx_nw E h0 8 12) x 1 12 [(0, 8, 12)] [] [] (fun _ => 0) [] [] (mx_nw E h0 8 12) := ⟨⟨by show E.2.1 + (h0.1 + 1) = _; omega, by show h0.2.1 + 12 = _; omega⟩, bx_f.rf _ _ _, bq_0 hx.symm⟩
  have k1 : ∀ c, c < x → (mx_nw E h0 8 12).2.2.1 c = h0.2.2.1 c ∧ (mx_nw E h0 8 12).2.2.2.1 c = h0.2.2.2.1 c := fun c hc => ⟨(nw_o hx (by omega)).1, (nw_o hx (by omega)).2.1⟩
  generalize mx_nw E h0 8 12 = h1 at S1 k1 ⊢
  have t1 : h1.2.2.1 E.2.2.2.2 = some (21, 5) := by rw [(k1 _ (by omega)).1]; exact hst
  have t2 : ∀ n, 1 ≤ n → n ≤ 4 → (h1.2.2.2.1 E.2.2.2.2 n).toInt = tb_h n := fun n n1 n2 => by rw [(k1 _ (by omega)).2]; exact hi n n1 n2
  have t3 : h1.2.2.1 b = some (21, L) := by rw [(k1 _ (by omega)).1]; exact hb
  refine mv_dup rfl (by rw [ca_law]; exact dc_law_0.2.1) ?_
  refine bv_call (d := D + 99) (pc := 4) (idx := 70) (b := x) (argsL := []) (rest := [.ref x]) (Q := fun h' => ∃ hJ H a, bS E h1 x 1987 (12 + 214076) bk_J (br_J x) bm_J bf_I bw_J [314, 12, 1] hJ ∧ mz_fr (eh hJ) H (iw_ba x) ∧ mz_hk H ∧ (∀ k, k < 16 → ∀ j, j < 126 → a k j = 0) ∧ iw_S H x 7 2 0 a g00 t00 [] 0 ([], []) (0, 0, []) ∧ h' = mz_uh (en E hJ) H) hG (by rw [ca_law]; exact dc_law_0.2.2.1) (by rw [mf_law.1]; exact sl_W.1.1) mr_I_init sg_I_init (by simp [mx_sz]) (by simp [mx_sz]) (cl_I (d := D + 92) hG S1 (by omega) (by omega) (by omega) t1 t2 (fun hJ H a q1 q2 q3 q4 q5 => ⟨rfl, hJ, H, a, q1, q2, q3, q4, q5, rfl⟩)) (fun h' hQ => ?_)
  obtain ⟨hJ, H, a, qS, qf, qk, qa, qI, he⟩ := hQ
  have cJ := qS.1.1
  have sJ := qS.1.2
  have H0 : H.1 = 0 := qf.1
  have c2 : h'.1 = hJ.1 := by rw [he]; show hJ.1 + H.1 = _; omega
  have s2 : h'.2.1 = hJ.2.1 := by rw [he]; show hJ.2.1 + 6 * H.1 = _; omega
  have f2 : h'.2.2.1 = hJ.2.2.1 ∧ h'.2.2.2.1 = (mz_uh (en E hJ) H).2.2.2.1 ∧ h'.2.2.2.2.1 = hJ.2.2.2.2.1 := by rw [he]; exact ⟨rfl, rfl, rfl⟩
  clear he
  refine mv_astore_n (i := 1) (x := x) (by rw [ca_law]; exact dc_law_0.2.2.2.1) (by rw [mf_law.2.1]; decide) ?_
  obtain ⟨y, hy⟩ : ∃ y, y = E.2.1 + h'.1 := ⟨_, rfl⟩
  refine mv_new hG (idx := 71) (by rw [ca_law]; exact dc_law_0.2.2.2.2.1) (by rw [mf_law.1]; exact mx_cn_r.2.2) (by omega) (by omega) ?_
  rw [← hy]
  have S2 : bS E (mx_nw E h' 9 67) y 1 214155 [(0, 9, 67)] [] [] (fun _ => 0) [] [] (mx_nw E h' 9 67) := ⟨⟨by show E.2.1 + (h'.1 + 1) = _; omega, by show h'.2.1 + 67 = _; omega⟩, bx_f.rf _ _ _, bq_0 hy.symm⟩
  have e2 : ∀ c, c ≠ y → (mx_nw E h' 9 67).2.2.1 c = hJ.2.2.1 c ∧ (mx_nw E h' 9 67).2.2.2.1 c = (mz_uh (en E hJ) H).2.2.2.1 c ∧ (mx_nw E h' 9 67).2.2.2.2.1 c = hJ.2.2.2.2.1 c := fun c hc => by
    rw [← f2.1, ← f2.2.1, ← f2.2.2]
    exact nw_o hy hc
  generalize mx_nw E h' 9 67 = h2 at S2 e2 ⊢
  refine mv_dup rfl (by rw [ca_law]; exact dc_law_0.2.2.2.2.2.1) ?_
  refine bv_call (d := D + 99) (pc := 12) (idx := 73) (b := y) (argsL := []) (rest := [.ref y]) (Q := fun h'' => ∃ hM H2, bS E h2 y 43 (214155 + 159831) bk_M (br_M y) bm_M bf_M [] [] hM ∧ mz_fr (eh hM) H2 [y + 1, y + 2, y + 3, y + 4] ∧ mz_hk H2 ∧ rm_S H2 y 7 2 0 a g00 t00 [] 0 ([], []) (0, 0, []) ∧ h'' = mz_uh (en E hM) H2) hG (by rw [ca_law]; exact dc_law_0.2.2.2.2.2.2.1) (by rw [mf_law.1]; exact sl_W.2.2.2.2.2.1.2.2.2.2.1) mr_M_init sg_M_init (by simp [mx_sz]) (by simp [mx_sz]) (cl_M (d := D + 95) hG S2 (by omega) (by omega) qa (fun hM H2 q1 q2 q3 q4 => ⟨rfl, hM, H2, q1, q2, q3, q4, rfl⟩)) (fun h'' hQ => ?_)
  obtain ⟨hM, H2, rS, rf, rk, rI, he⟩ := hQ
  have cM := rS.1.1
  have sM := rS.1.2
  have H02 : H2.1 = 0 := rf.1
  have c3 : h''.1 = hM.1 := by rw [he]; show hM.1 + H2.1 = _; omega
  have s3 : h''.2.1 = hM.2.1 := by rw [he]; show hM.2.1 + 6 * H2.1 = _; omega
  have f3 : h''.2.2.1 = hM.2.2.1 ∧ h''.2.2.2.1 = (mz_uh (en E hM) H2).2.2.2.1 ∧ h''.2.2.2.2.1 = hM.2.2.2.2.1 := by rw [he]; exact ⟨rfl, rfl, rfl⟩
  clear he
  refine mv_astore_n (i := 2) (x := y) (by rw [ca_law]; exact dc_law_0.2.2.2.2.2.2.2) (by rw [mf_law.2.1]; decide) ?_
  refine mv_iconst (by rw [ca_law]; exact dc_law_1.1) ?_
  obtain ⟨w, hw⟩ : ∃ w, w = E.2.1 + h''.1 := ⟨_, rfl⟩
  refine mv_newarray_long hG (N := 1) (by rw [ca_law]; exact dc_law_1.2.1) (by decide) (by decide) (by omega) (by omega) (by omega) ?_
  rw [← hw]
  have e3 : ∀ c, c ≠ w → (mx_nw E h'' 24 1).2.2.1 c = hM.2.2.1 c ∧ (mx_nw E h'' 24 1).2.2.2.1 c = (mz_uh (en E hM) H2).2.2.2.1 c ∧ (mx_nw E h'' 24 1).2.2.2.2.1 c = hM.2.2.2.2.1 c := fun c hc => by
    rw [← f3.1, ← f3.2.1, ← f3.2.2]
    exact nw_o hw hc
  have e3w : (mx_nw E h'' 24 1).2.2.1 w = some (24, 1) := nw_s hw
  have e3c : (mx_nw E h'' 24 1).1 ≤ 600000 := by show h''.1 + 1 ≤ _; omega
  have e3s : (mx_nw E h'' 24 1).2.1 ≤ 7000000 := by show h''.2.1 + 1 ≤ _; omega
  generalize mx_nw E h'' 24 1 = h3 at e3 e3w e3c e3s ⊢
  refine mv_astore_n (i := 3) (x := w) (by rw [ca_law]; exact dc_law_1.2.2.1) (by rw [mf_law.2.1]; decide) ?_
  refine mv_iconst (by rw [ca_law]; exact dc_law_1.2.2.2.1) ?_
  refine mv_istore (i := 4) (by rw [ca_law]; exact dc_law_1.2.2.2.2.1) (by rw [mf_law.2.1]; decide) ?_
  exact ent_3 D hG (by omega) (by omega) (by omega) (by omega) (by omega) hL t3 t1 t2 qS qf qk qI e2 rS rf rk rI e3 e3w e3c e3s rfl rfl rfl rfl rfl
