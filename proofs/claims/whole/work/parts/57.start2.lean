/- the reference, made -/
set_option maxRecDepth 100000 in
theorem cl_M {E : mx_E} {d : Nat} {h1 h : mx_H} {y s : Nat} {P : mx_O → mx_H → Prop} {a : Nat → Nat → Int} (hG : mx_G E) (hS : bS E h1 y 1 s [(0, 9, 67)] [] [] (fun _ => 0) [] [] h) (hcell : y + 43 ≤ E.2.1 + 601024) (hslot : s + 159831 ≤ 7293034) (ha : ∀ k, k < 16 → ∀ j, j < 126 → a k j = 0)
    (K : ∀ hM H, bS E h1 y 43 (s + 159831) bk_M (br_M y) bm_M bf_M [] [] hM → mz_fr (eh hM) H [y + 1, y + 2, y + 3, y + 4] → mz_hk H → rm_S H y 7 2 0 a g00 t00 [] 0 ([], []) (0, 0, []) → P (.inl none) (mz_uh (en E hM) H)) : mx_V E (d + 4) mm_M_init 0 (mx_en [.ref y]) [] h P := by
  refine cx_M hG hS hcell hslot (fun h hS => ?_)
  obtain ⟨⟨hc, hs⟩, hf, hb⟩ := id hS
  have hE := eE_rm (E := E) hb (fun c _ => ⟨rfl, rfl⟩)
  have hok : tb_ok 2 0 := ⟨by omega, by omega, by omega⟩
  refine mv_aload_n (i := 0) (x := y) (by rw [ca_M_init]; exact dc_M_init_22.2.2.2.1) rfl ?_
  have zz : ∀ c, 1 ≤ c → c < 43 → (eh h).2.1 (y + c) = fun _ => 0 := fun c c1 c2 => by
    have := hb.2.2.2.2.2 c c1 c2 (by simp)
    show (fun k => (h.2.2.2.1 (y + c) k).toInt) = _
    rw [this]
    rfl
  have zf : ∀ k, (eh h).2.1 y k = if k = 1 then 7 else if k = 2 then 2 else if k = 26 then -1 else 0 := fun k => by
    show (h.2.2.2.1 y k).toInt = _
    rw [hb.2.2.2.1.2]
    show (bf_M k).toInt = _
    unfold bf_M
    by_cases h26 : k = 26
    · subst h26; rfl
    · by_cases h2 : k = 2
      · subst h2; rfl
      · by_cases h1 : k = 1
        · subst h1; rfl
        · rw [if_neg h26, if_neg h2, if_neg h1, if_neg h1, if_neg h2, if_neg h26]; rfl
  refine bv_virt (d := d + 3) (as := []) (rest := []) (Q := fun H => mz_fr (eh h) H [y + 1, y + 2, y + 3, y + 4] ∧ rm_S H y 7 2 0 a g00 t00 [] 0 ([], []) (0, 0, [])) hG (by rw [ca_M_init]; exact dc_M_init_22.2.2.2.2.1) (by rw [mf_M_init.1]; exact sl_M.1.1) sg_M_make (by decide) (hS.k0 (m := 67) (List.mem_of_getElem? (i := 42) rfl)) (by simp [mx_sz]) (by simp [mx_sz]) (by intro w hw; cases hw) ?_ (fun H hH hQ => ?_)
  · refine cm_make (n := 2) (o := 0) (d + 1) hG hE hok (by rw [zf]; rfl) (by rw [zf]; rfl) (fun H f1 m1 m2 => ⟨rfl, f1, ?_⟩)
    have e0 : ∀ k, H.2.1 y k = if k = 1 then 7 else if k = 2 then 2 else if k = 26 then -1 else 0 := fun k => by rw [f1.2.2 y (by simp)]; exact zf k
    have e1 : ∀ c, 5 ≤ c → c < 43 → H.2.1 (y + c) = fun _ => 0 := fun c c1 c2 => by rw [f1.2.2 _ (by simp; omega)]; exact zz c (by omega) c2
    refine ⟨⟨hok, by omega, by omega, pr_7⟩, ⟨⟨by rw [e0]; rfl, by rw [e0]; rfl, by rw [e0]; rfl⟩, m1, m2⟩, fun k hk => ⟨fun j hj => by rw [e1 5 (by omega) (by omega), ha k hk j hj], fun m hm => ⟨fun _ => by rw [ha k hk m hm]; omega, fun _ => ha k hk m hm⟩⟩, fun i hi => ⟨⟨by rw [e1 7 (by omega) (by omega)]; rfl, by show (0 : Nat) ≤ 8; omega⟩, fun k hk => absurd hk (Nat.not_lt_zero _), fun _ => by rw [e1 11 (by omega) (by omega)], fun dd hd => by cases hd⟩, ⟨⟨fun j _ => by rw [e1 12 (by omega) (by omega)]; rfl, fun j _ => by rw [e1 13 (by omega) (by omega)]; rfl⟩, ⟨by rw [e0]; rfl, by rw [e0]; rfl, by rw [e0]; rfl⟩, by show (0 : Nat) ≤ 400; omega, fun j _ => by show mz_in 0; unfold mz_in; omega, fun j => by show mz_in 0; unfold mz_in; omega⟩, ⟨by rw [e0]; rfl, fun i hi => absurd hi (Nat.not_lt_zero _), by show (0 : Nat) ≤ 2160; omega⟩, by rw [e0]; rfl, ⟨⟨by rw [e0]; rfl, by rw [e0]; rfl⟩, by show (0 : Nat) ≤ 160; omega, by show (0 : Nat) ≤ 40; omega, fun k hk => absurd hk (Nat.not_lt_zero _), fun k hk => absurd hk (Nat.not_lt_zero _)⟩, by rw [e0]; rfl, by rw [e0]; rfl, by show (0 : Nat) ≤ 4; omega, fun k hk => absurd hk (Nat.not_lt_zero _)⟩
  · exact mv_return (by rw [ca_M_init]; exact dc_M_init_22.2.2.2.2.2) mf_M_init.2.2.1 (K h H hS hQ.1 hH hQ.2)
