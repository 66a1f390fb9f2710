section BVIRT
variable {E : mx_E} {d : Nat} {M : mx_M} {pc : Nat} {l : mx_L} {h : mx_H} {P : mx_O → mx_H → Prop}
/- a method without an answer, by its contract in the second layer -/
theorem bv_virt {j idx b ci nn g3 : Nat} {as : List mz_W} {rest : List Value} {Q : mz_H → Prop} (hG : mx_G E) (hd : decode (mx_ca M.1) pc = .ok (.invokevirtual idx, 3)) (hj : mx_sl M.2.1 idx = some j) (hsg : mx_sg j = (as.length, 1, ci, g3)) (hci : ci < 10) (hk : h.2.2.1 b = some (ci, nn)) (hsz : mx_sz (.ref b :: as.map mz_up) ≤ g3) (hst : mx_sz rest ≤ 8) (hok : ∀ w ∈ as, mz_ok w)
    (hCA : mz_CA (en E h) d j (.inr (.inl b) :: as) (eh h) (fun O H => O = .inl none ∧ Q H)) (K : ∀ H, mz_hk H → Q H → mx_V E (d + 1) M (pc + 3) l rest (mz_uh (en E h) H) P) : mx_V E (d + 1) M pc l ((as.map mz_up).reverse ++ .ref b :: rest) h P := by
  obtain ⟨e, he, g1, g2, g3', g4⟩ := mi_sg hsg (show 1 < 9 by omega)
  have hca := hCA (List.forall_mem_cons.mpr ⟨trivial, hok⟩) (eh_hk h)
  rw [en_uh] at hca
  obtain ⟨e2, he2, hv⟩ := hca
  cases he.symm.trans he2
  refine mv_invokevirtual hG hd hj he (by omega) (by rw [List.length_map]; omega) (by rw [← mx_sz_l, g3']; exact hsz) hk hci (g4 hci) (by rw [← mx_sz_c]; exact hst) hv (fun v h' hh => ?_) (fun x h' hh => ?_)
  · obtain ⟨O, H, q1, q2, q3, q4, q5, q6⟩ := hh
    subst q5
    injection q1 with q1
    subst q1
    rw [q2]
    exact K H q4 q6
  · obtain ⟨O, H, q1, q2, q3, q4, q5, q6⟩ := hh
    subst q5
    cases q1
end BVIRT
/- the class, made -/
def g00 : Nat → iG := fun _ => (0, (fun _ _ => 0), none)
def t00 : iT := ((fun _ => 0), (fun _ => 0), 0, 0, -1)
theorem pr_7 : al_pr 7 := by
  refine ⟨by omega, fun k h1 h2 h3 => ?_⟩
  obtain rfl | rfl | rfl | rfl | rfl : k = 2 ∨ k = 3 ∨ k = 4 ∨ k = 5 ∨ k = 6 := by omega
  all_goals
    revert h3
    decide
set_option maxRecDepth 100000 in
theorem cl_I {E : mx_E} {d : Nat} {h1 h : mx_H} {x s : Nat} {P : mx_O → mx_H → Prop} (hG : mx_G E) (hS : bS E h1 x 1 s [(0, 8, 12)] [] [] (fun _ => 0) [] [] h) (hcell : x + 1987 ≤ E.2.1 + 601024) (hslot : s + 214076 ≤ 7293034) (hx : E.2.2.2.2 < x) (hk : h1.2.2.1 E.2.2.2.2 = some (21, 5)) (hi : ∀ n, 1 ≤ n → n ≤ 4 → (h1.2.2.2.1 E.2.2.2.2 n).toInt = tb_h n)
    (K : ∀ hJ H a, bS E h1 x 1987 (s + 214076) bk_J (br_J x) bm_J bf_I bw_J [314, 12, 1] hJ → mz_fr (eh hJ) H (iw_ba x) → mz_hk H → (∀ k, k < 16 → ∀ j, j < 126 → a k j = 0) → iw_S H x 7 2 0 a g00 t00 [] 0 ([], []) (0, 0, []) → P (.inl none) (mz_uh (en E hJ) H)) : mx_V E (d + 7) mm_I_init 0 (mx_en [.ref x]) [] h P := by
  refine cx_J (d := d + 5) hG hS hcell hslot (fun h l hl hS => ?_)
  obtain ⟨⟨hc, hs⟩, hf, hb⟩ := id hS
  have hst : (en E h).2.1 E.2.2.2.2 = some (21, 5) := by
    show h.2.2.1 E.2.2.2.2 = _
    rw [(hf _ (Or.inl hx)).1]
    exact hk
  have hE := eE_iw (E := E) hb (fun c _ => ⟨rfl, rfl⟩) hst hx
  have hok : tb_ok 2 0 := ⟨by omega, by omega, by omega⟩
  refine mv_aload_n (i := 0) (x := x) (by rw [ca_I_init]; exact dc_I_init_9.2.2.2.2.1) hl ?_
  refine mv_bipush (by rw [ca_I_init]; exact dc_I_init_9.2.2.2.2.2.1) ?_
  refine mv_iconst (by rw [ca_I_init]; exact dc_I_init_9.2.2.2.2.2.2.1) ?_
  refine mv_iconst (by rw [ca_I_init]; exact dc_I_init_9.2.2.2.2.2.2.2) ?_
  have zz : ∀ c, 1 ≤ c → c < 1987 → c ≠ 314 → c ≠ 12 → c ≠ 1 → (eh h).2.1 (x + c) = fun _ => 0 := fun c c1 c2 c3 c4 c5 => by
    have := hb.2.2.2.2.2 c c1 c2 (by simp; omega)
    show (fun k => (h.2.2.2.1 (x + c) k).toInt) = _
    rw [this]
    rfl
  have z0 : (eh h).2.1 x 11 = 0 := by
    show (h.2.2.2.1 x 11).toInt = 0
    rw [hb.2.2.2.1.2]
    rfl
  have zt : ∀ k, (eh h).2.1 (x + 314) k = if k = 1 then -1 else 0 := fun k => by
    have := (hb.2.2.2.2.1 (314, bf_TextReader) (List.mem_of_getElem? (i := 12) rfl)).2.2
    show (h.2.2.2.1 (x + 314) k).toInt = _
    rw [this]
    show (bf_TextReader k).toInt = _
    unfold bf_TextReader
    by_cases hk1 : k = 1
    · subst hk1; rfl
    · rw [if_neg hk1]
      simp [hk1]
  refine bv_virt (d := d + 6) (as := [.inl 7, .inl 2, .inl 0]) (rest := []) (Q := fun H => mz_fr (eh h) H (iw_ba x) ∧ ∃ a, (∀ k, k < 16 → ∀ j, j < 126 → a k j = 0) ∧ iw_S H x 7 2 0 a g00 t00 [] 0 ([], []) (0, 0, [])) hG (by rw [ca_I_init]; exact dc_I_init_10.1) (by rw [mf_I_init.1]; exact sl_I.1.2.2.2.2.2.2.2) sg_I_beginAnew (by decide) (hS.k0 (m := 12) (List.mem_of_getElem? (i := 121) rfl)) (by simp [mx_sz, mz_up]) (by simp [mx_sz]) (by intro w hw; simp at hw; rcases hw with rfl | rfl | rfl <;> (constructor <;> decide)) ?_ (fun H hH hQ => ?_)
  · refine ct_beginAnew (N := 2) (O := 0) (q := 7) d hG hE hok (fun n h1' h2' => ?_) (fun H f1 hF hA hI hO => ⟨rfl, f1, H.2.1 |> fun G => fun k => G (x + 24 + k), hA, ?_⟩)
    · show (h.2.2.2.1 E.2.2.2.2 n).toInt = _
      rw [(hf _ (Or.inl hx)).2.1]
      exact hi n h1' h2'
    · have hm : ∀ c, x + c ∈ iw_ba x ↔ (1 ≤ c ∧ c ≤ 39) ∨ c = 385 ∨ c = 895 ∨ c = 1168 ∨ c = 1441 ∨ c = 1714 := fun c => by
        unfold iw_ba
        simp [bl_m]
        omega
      have e1 : ∀ c, ¬ ((1 ≤ c ∧ c ≤ 39) ∨ c = 385 ∨ c = 895 ∨ c = 1168 ∨ c = 1441 ∨ c = 1714) → H.2.1 (x + c) = (eh h).2.1 (x + c) := fun c hc => f1.2.2 _ (fun q => hc ((hm c).mp q))
      refine ⟨⟨hok, by omega, by omega, pr_7⟩, hF, fun k hk => ⟨rfl, fun m hm => ⟨fun _ => ?_, fun _ => hA k hk m hm⟩⟩, fun i hi => ⟨⟨(hI i hi).1, by show (0 : Nat) ≤ 8; omega, fun k hk => absurd hk (Nat.not_lt_zero _)⟩, fun _ => (hI i hi).2, fun dd hd => by cases hd⟩, ⟨⟨?_, ?_, ?_, ?_, ?_⟩, by show (0 : Nat) ≤ 400; omega, fun j _ => by show mz_in 0; unfold mz_in; omega, fun j => by show mz_in 0; unfold mz_in; omega⟩, ⟨⟨hO, fun i hi => absurd hi (Nat.not_lt_zero _)⟩, by show (0 : Nat) ≤ 2160; omega⟩, ?_, ⟨0, ⟨?_, ?_, ?_⟩, by show (0 : Nat) ≤ 161; omega, by show (0 : Nat) ≤ 40; omega, fun k hk => absurd hk (Nat.not_lt_zero _), fun k hk => absurd hk (Nat.not_lt_zero _)⟩, ⟨?_, fun k hk => absurd hk (Nat.not_lt_zero _)⟩, ?_, by show (0 : Nat) ≤ 4; omega⟩
      · have := hA k hk m hm
        show 0 ≤ H.2.1 (x + 24 + k) m ∧ H.2.1 (x + 24 + k) m < 7
        omega
      · rw [e1 315 (by omega)]; exact zz 315 (by omega) (by omega) (by omega) (by omega) (by omega)
      · rw [e1 316 (by omega)]; exact zz 316 (by omega) (by omega) (by omega) (by omega) (by omega)
      · rw [e1 314 (by omega), zt]; rfl
      · rw [e1 314 (by omega), zt]; rfl
      · rw [e1 314 (by omega), zt]; rfl
      · have := e1 0 (by omega)
        rw [Nat.add_zero] at this
        rw [this]; exact z0
      · rw [e1 554 (by omega), zz 554 (by omega) (by omega) (by omega) (by omega) (by omega)]; rfl
      · rw [e1 554 (by omega), zz 554 (by omega) (by omega) (by omega) (by omega) (by omega)]; rfl
      · rw [e1 554 (by omega), zz 554 (by omega) (by omega) (by omega) (by omega) (by omega)]; rfl
      · rw [e1 848 (by omega), zz 848 (by omega) (by omega) (by omega) (by omega) (by omega)]; rfl
      · rw [e1 848 (by omega), zz 848 (by omega) (by omega) (by omega) (by omega) (by omega)]; rfl
  · obtain ⟨f1, a, ha, hQ⟩ := hQ
    exact mv_return (by rw [ca_I_init]; exact dc_I_init_10.2) mf_I_init.2.2.1 (K h H a hS f1 hH ha hQ)
