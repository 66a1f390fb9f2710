/- both sides at once, the rest -/
theorem gpl {H : mz_H} {x : Nat} {p : Int} {n o : Nat} {a : Nat → Nat → Int} {g : Nat → iG} {t : iT} {l : List Int} {v : Nat} {X : fg_S} {z : iZ} (iS : iw_S H x p n o a g t l v X z) {I : Nat} (hI : I < 4) : ∀ k, k < (g I).1 → pl p n ((g I).2.1 k) := fun k hk => ((iS.2.2.2.1 I hI).1.2.2 k hk).2
section JOINT
variable {e : mz_E} {H : mz_H} {x y w b L N : Nat} {B : Nat → Int}
set_option maxRecDepth 100000 in
theorem jn_both (D : Nat) {i j q k : Int} (hG : mx_G e.1) (hE : lE e x y w b L) (hI : lI e x y b B N H) (hN : N ≤ 600) (hb : q = 0 ∨ q = 1) : mz_CA e (D + 99) j_W_both [.inr (.inl x), .inl i, .inl j, .inl q, .inl k] H (jA e (D + 99) y b B j_M_both [.inr (.inl y), .inl i, .inl j, .inl q, .inl k] (lI e x y b B (N + 1))) := by
  obtain ⟨p, n, o, a, g, t, l, v, X, z, iS, rS, hv, hT, hJ⟩ := hI
  have hE' := hE
  obtain ⟨iE, rE, kw, kb, d1, d2, d3, r1, r2⟩ := hE
  have hr : iw_rm e H := by have := hJ.1; exact ⟨by omega, by omega⟩
  have f0 := lf2 H (bl x 1987)
  have iS0 := iS.c (H.1 + 1) H.2.2
  have rS0 := rS.c (H.1 + 1) H.2.2
  refine ww_both (D + 98) hG iE.1.1 ?_
  refine ct_Iboth (D + 94) hG iE iS hr hb (fun q0 => wA_x (k := 1) rfl (by decide) (jA_i hE' hJ f0 ?_)) (fun h I J e1 I1 e2 J1 hk hq fr iS' => wA_x (k := 2) rfl (by decide) (jA_i hE' hJ (lf1 fr) ?_)) (fun h I J K m G e1 I1 e2 J1 e3 K1 hm hq fr iS' => wA_n (jA_i hE' hJ (lf0 fr) ?_))
  · refine cm_both (D + 96) hG rE rS0 hb (fun _ => ⟨rfl, lw1 _ _ _, lX1 hE' hJ rS hv hT f0 iS0 1⟩) (fun I J e1 I1 e2 J1 hk _ => absurd (by omega) q0) (fun h I J K m e1 I1 e2 J1 e3 K1 _ _ _ _ _ => absurd (by omega) q0)
  · refine cm_both (D + 96) hG rE (lr rS (lf1 fr) d1) hb (fun q0 => absurd (by omega) q0) (fun I' J' e1' _ e2' _ _ _ => ⟨rfl, lw1 _ _ _, lX2 hE' hJ rS hv hT (lf1 fr) (iS'.c _ _) 2⟩) (fun h2 I' J' K' m e1' _ e2' _ _ _ hm hq' _ _ _ => ?_)
    obtain rfl : I' = I := by omega
    obtain rfl : J' = J := by omega
    exfalso
    rcases hq with ⟨c1, c2⟩ | ⟨c1, c2 | c2⟩ <;> rcases hq' with ⟨c3, c4⟩ | ⟨c3, c4, c5⟩
    · omega
    · omega
    · omega
    · omega
    · omega
    · exact c2 c5
  · refine cm_both (D + 96) hG rE (lr rS (lf0 fr) d1) hb (fun q0 => absurd (by omega) q0) (fun I' J' e1' _ e2' _ _ hq' => ?_) (fun h2 I' J' K' m' e1' _ e2' _ e3' _ hm' hq' fr2 t0 hS => ?_)
    · obtain rfl : I' = I := by omega
      obtain rfl : J' = J := by omega
      exfalso
      rcases hq' with ⟨c1, c2⟩ | ⟨c1, c2 | c2⟩ <;> rcases hq with ⟨c3, c4, c5⟩ | ⟨c3, c4, c5, c6⟩
      · omega
      · omega
      · omega
      · omega
      · omega
      · exact c2 c5
    · obtain rfl : I' = I := by omega
      obtain rfl : J' = J := by omega
      obtain rfl : K' = K := by omega
      obtain rfl : m' = m := by rcases hq with ⟨c3, c4, c5⟩ | ⟨c3, c4, c5, c6⟩ <;> rcases hq' with ⟨c1, c2⟩ | ⟨c1, c2, c7⟩ <;> omega
      refine ⟨rfl, t0, lI_mk hE' hJ (lf0 fr) fr2 iS' (hS G (fun k hk c hc => ?_)) (by omega) hT⟩
      unfold bo_R
      rcases hq with ⟨c3, c4, c5⟩ | ⟨c3, c4, c5, c6⟩
      · rw [if_pos c3, c5 k hk c hc]
      · rw [if_neg (by omega)]
        have g0 : 0 < (g J').1 := by
          rcases Nat.eq_zero_or_pos (g J').1 with q0 | q0
          · rw [q0, Nat.mul_zero] at c4; omega
          · exact q0
        have k1 : k / (g J').1 < (g I').1 := (Nat.div_lt_iff_lt_mul g0).mpr (by omega)
        have k2 : k % (g J').1 < (g J').1 := Nat.mod_lt _ g0
        have := c6 _ _ k1 k2 c hc
        rw [Nat.mul_comm, Nat.div_add_mod] at this
        exact this
set_option maxRecDepth 100000 in
theorem jn_basis (D : Nat) {i j : Int} (hG : mx_G e.1) (hE : lE e x y w b L) (hI : lI e x y b B N H) (hN : N ≤ 600) : mz_CA e (D + 99) j_W_basis [.inr (.inl x), .inl i, .inl j, .inr (.inl w)] H (jB e (D + 99) y b B w j_M_basis [.inr (.inl y), .inl i, .inl j] (lI e x y b B (N + 1))) := by
  obtain ⟨p, n, o, a, g, t, l, v, X, z, iS, rS, hv, hT, hJ⟩ := hI
  have hE' := hE
  obtain ⟨iE, rE, kw, kb, d1, d2, d3, r1, r2⟩ := hE
  have hr : iw_rm e H := by have := hJ.1; exact ⟨by omega, by omega⟩
  have f0 := lf2 H (bl x 1987)
  have iS0 := iS.c (H.1 + 1) H.2.2
  have rS0 := rS.c (H.1 + 1) H.2.2
  refine ww_basis (D + 98) hG iE.1.1 kw ?_
  refine ct_Ibasis (D + 91) hG iE iS hr (fun q => wB_x (k := 1) rfl (by decide) (jB_i hE' hJ f0 ?_)) (fun hi hj => wB_x (k := 2) rfl (by decide) (jB_i hE' hJ f0 ?_)) (fun h I M K e1 I1 e2 M1 hK fr iS' => wB_n (jB_i hE' hJ (lfj fr) ?_))
  · refine cm_basis (D + 95) hG rE rS0 (fun _ => ⟨0, rfl, lw1 _ _ _, lX1 hE' hJ rS hv hT f0 iS0 1, fun q => absurd q (by decide)⟩) (fun hi _ => absurd hi q) (fun h I M K e1 I1 e2 M1 _ _ _ _ => absurd (by omega) q)
  · refine cm_basis (D + 95) hG rE rS0 (fun q => absurd hi q) (fun _ _ => ⟨0, rfl, lw1 _ _ _, lX1 hE' hJ rS hv hT f0 iS0 2, fun q => absurd q (by decide)⟩) (fun h I M K e1 I1 e2 M1 _ _ _ _ => by exfalso; omega)
  · refine cm_basis (D + 95) hG rE (lr rS (lfj fr) d1) (fun q => absurd (by omega) q) (fun _ hj => by exfalso; omega) (fun h2 I' M' K' e1' _ e2' _ hK' fr2 t0 hS => ?_)
    obtain rfl : I' = I := by omega
    obtain rfl : M' = M := by omega
    have hF := tb_F_N iS.1.1 (show M' + 1 ≤ tb_h n + 1 by omega)
    have hz := iv_N_z hK (tb_N n - tb_F n (M' + 1)) (fun m m1 _ hq => by have := iv_L_b iS.1.1 M1 (gpl iS I1) hq.1; omega)
    rw [show tb_F n (M' + 1) + (tb_N n - tb_F n (M' + 1)) = tb_N n by omega] at hz
    obtain rfl := iv_N_u _ _ _ hz hK'
    exact ⟨_, rfl, t0, lI_mk hE' hJ (lfj fr) fr2 (iS'.c _ _) hS (by omega) hT, fun _ => by rw [fr2.2.1, wj1]⟩
set_option maxRecDepth 100000 in
theorem jn_element (D : Nat) {i k j : Int} (hG : mx_G e.1) (hE : lE e x y w b L) (hI : lI e x y b B N H) (hN : N ≤ 600) : mz_CA e (D + 99) j_W_element [.inr (.inl x), .inl i, .inl k, .inl j] H (jA e (D + 99) y b B j_M_element [.inr (.inl y), .inl i, .inl k, .inl j] (lI e x y b B (N + 1))) := by
  obtain ⟨p, n, o, a, g, t, l, v, X, z, iS, rS, hv, hT, hJ⟩ := hI
  have hE' := hE
  obtain ⟨iE, rE, kw, kb, d1, d2, d3, r1, r2⟩ := hE
  have hr : iw_rm e H := by have := hJ.1; exact ⟨by omega, by omega⟩
  have f0 := lf2 H (bl x 1987)
  have iS0 := iS.c (H.1 + 1) H.2.2
  have rS0 := rS.c (H.1 + 1) H.2.2
  refine ww_element (D + 98) hG iE.1.1 ?_
  refine ct_Ielement (D + 94) hG iE iS hr (fun q => wA_x (k := 1) rfl (by decide) (jA_i hE' hJ f0 ?_)) (fun I e1 I1 hj hg => wA_x (k := 2) rfl (by decide) (jA_i hE' hJ f0 ?_)) (fun I dd K e1 I1 hj hg hd hK hk => wA_x (k := 1) rfl (by decide) (jA_i hE' hJ f0 ?_)) (fun h I dd K k' T r e1 I1 e2 T1 hg hd hK e3 k1 hel fr iS' => wA_n (jA_i hE' hJ (lf0 fr) ?_))
  · refine cm_element (D + 96) hG rE rS0 (fun _ => ⟨rfl, lw1 _ _ _, lX1 hE' hJ rS hv hT f0 iS0 1⟩) (fun I e1 I1 hj _ => absurd (by omega) q) (fun I dd K e1 I1 hj _ _ _ _ => absurd (by omega) q) (fun h I dd K k' T r0 e1 I1 e2 T1 _ _ _ _ _ _ _ _ _ => absurd (by omega) q)
  · refine cm_element (D + 96) hG rE rS0 (fun q => absurd (by omega) q) (fun I e1 I1 hj _ => ⟨rfl, lw1 _ _ _, lX1 hE' hJ rS hv hT f0 iS0 2⟩) (fun I' dd K e1' _ hj hg' _ _ _ => ?_) (fun h I' dd K k' T r0 e1' _ e2 T1 hg' _ _ _ _ _ _ _ _ => ?_)
    · obtain rfl : I' = I := by omega
      rw [hg] at hg'
      cases hg'
    · obtain rfl : I' = I := by omega
      rw [hg] at hg'
      cases hg'
  · refine cm_element (D + 96) hG rE rS0 (fun q => absurd (by omega) q) (fun I' e1' _ hj hg' => ?_) (fun I' dd' K' e1' _ hj hg' _ _ _ => ⟨rfl, lw1 _ _ _, lX1 hE' hJ rS hv hT f0 iS0 1⟩) (fun h I' dd' K' k' T r0 e1' _ e2 T1 hg' hd' hK' e3 k1 _ _ _ _ => ?_)
    · obtain rfl : I' = I := by omega
      rw [hg] at hg'
      cases hg'
    · obtain rfl : I' = I := by omega
      rw [hg] at hg'
      injection hg' with hg'
      subst hg'
      obtain rfl := iv_N_u _ _ _ hK hK'
      exfalso
      omega
  · refine cm_element (D + 96) hG rE (lr rS (lf0 fr) d1) (fun q => absurd (by omega) q) (fun I' e1' _ hj hg' => ?_) (fun I' dd' K' e1' _ hj hg' hd' hK' hk => ?_) (fun h2 I' dd' K' k2 T' r0 e1' _ e2' _ hg' hd' hK' e3' _ hel' fr2 t0 hS => ?_)
    · obtain rfl : I' = I := by omega
      rw [hg] at hg'
      cases hg'
    · obtain rfl : I' = I := by omega
      rw [hg] at hg'
      injection hg' with hg'
      subst hg'
      obtain rfl := iv_N_u _ _ _ hK hK'
      exfalso
      omega
    · obtain rfl : I' = I := by omega
      obtain rfl : T' = T := by omega
      obtain rfl : k2 = k' := by omega
      rw [hg] at hg'
      injection hg' with hg'
      subst hg'
      exact ⟨rfl, t0, lI_mk hE' hJ (lf0 fr) fr2 iS' (hS r (iv_el_u (by have := iS.1.2.1; omega) hel hel' (tb_F_126 iS.1.1 hd))) (by omega) hT⟩
set_option maxRecDepth 100000 in
theorem jn_ideal (D : Nat) {i u : Int} (hG : mx_G e.1) (hE : lE e x y w b L) (hI : lI e x y b B N H) (hN : N ≤ 600) : mz_CA e (D + 99) j_I_ideal [.inr (.inl x), .inl i, .inl u] H (jD e (D + 99) b B j_M_ideal [.inr (.inl y), .inl i, .inl u] (lI e x y b B (N + 1))) := by
  obtain ⟨p, n, o, a, g, t, l, v, X, z, iS, rS, hv, hT, hJ⟩ := hI
  have hE' := hE
  obtain ⟨iE, rE, kw, kb, d1, d2, d3, r1, r2⟩ := hE
  have hr : iw_rm e H := by have := hJ.1; exact ⟨by omega, by omega⟩
  have f0 := lf2 H (bl x 1987)
  have iS0 := iS.c (H.1 + 1) H.2.2
  have rS0 := rS.c (H.1 + 1) H.2.2
  refine ct_Iideal (D + 96) hG iE iS (fun q => jD_i hE' hJ (lf0 (mz_fr.refl H _)) ?_) (fun I dd r e1 I1 hg hd hid => jD_i hE' hJ (lf0 (mz_fr.refl H _)) ?_)
  · refine cm_ideal (D + 96) hG rE rS (fun _ => ⟨rfl, lX1 hE' hJ rS hv hT (lf0 (mz_fr.refl H _)) iS 0⟩) (fun I dd r e1 I1 hg hd hid => ?_)
    subst e1
    rw [Int.toNat_natCast, hg] at q
    rcases q with q | q
    · omega
    · cases q
  · refine cm_ideal (D + 96) hG rE rS (fun q => ?_) (fun I' dd' r' e1' _ hg' _ hid' => ?_)
    · subst e1
      rw [Int.toNat_natCast, hg] at q
      rcases q with q | q
      · omega
      · cases q
    · obtain rfl : I' = I := by omega
      rw [hg] at hg'
      injection hg' with hg'
      subst hg'
      obtain rfl := iv_id_u hid hid'
      exact ⟨rfl, lX1 hE' hJ rS hv hT (lf0 (mz_fr.refl H _)) iS 0⟩
set_option maxRecDepth 100000 in
theorem jn_standard (D : Nat) {i j : Int} (hG : mx_G e.1) (hE : lE e x y w b L) (hI : lI e x y b B N H) (hN : N ≤ 600) : mz_CA e (D + 99) j_I_standard [.inr (.inl x), .inl i, .inl j] H (jD e (D + 99) b B j_M_standard [.inr (.inl y), .inl i, .inl j] (lI e x y b B (N + 1))) := by
  obtain ⟨p, n, o, a, g, t, l, v, X, z, iS, rS, hv, hT, hJ⟩ := hI
  have hE' := hE
  obtain ⟨iE, rE, kw, kb, d1, d2, d3, r1, r2⟩ := hE
  have hr : iw_rm e H := by have := hJ.1; exact ⟨by omega, by omega⟩
  have f0 := lf2 H (bl x 1987)
  have iS0 := iS.c (H.1 + 1) H.2.2
  have rS0 := rS.c (H.1 + 1) H.2.2
  refine ct_Istandard (D + 97) hG iE iS (fun q => jD_i hE' hJ (lf0 (mz_fr.refl H _)) ?_) (fun I dd k K e1 I1 hg hd e2 k1 hK => jD_i hE' hJ (lf0 (mz_fr.refl H _)) ?_)
  · refine cm_standard (D + 97) hG rE rS (fun _ => ⟨rfl, lX1 hE' hJ rS hv hT (lf0 (mz_fr.refl H _)) iS 0⟩) (fun I dd k K e1 I1 hg hd e2 k1 hK => ?_)
    subst e1
    rw [Int.toNat_natCast, hg] at q
    rcases q with q | q | ⟨dd', q, q'⟩
    · omega
    · cases q
    · injection q with q
      omega
  · refine cm_standard (D + 97) hG rE rS (fun q => ?_) (fun I' dd' k' K' e1' _ hg' _ e2' _ hK' => ?_)
    · subst e1
      rw [Int.toNat_natCast, hg] at q
      rcases q with q | q | ⟨dd', q, q'⟩
      · omega
      · cases q
      · injection q with q
        omega
    · obtain rfl : I' = I := by omega
      obtain rfl : k' = k := by omega
      rw [hg] at hg'
      injection hg' with hg'
      subst hg'
      obtain rfl := iv_N_u _ _ _ hK hK'
      exact ⟨rfl, lX1 hE' hJ rS hv hT (lf0 (mz_fr.refl H _)) iS 0⟩
set_option maxRecDepth 100000 in
theorem jn_remainder (D : Nat) {i k j : Int} (hG : mx_G e.1) (hE : lE e x y w b L) (hI : lI e x y b B N H) (hN : N ≤ 600) : mz_CA e (D + 99) j_W_remainder [.inr (.inl x), .inl i, .inl k, .inl j, .inr (.inl w)] H (jC e (D + 99) y b B w j_M_remainder [.inr (.inl y), .inl i, .inl k, .inl j] (lI e x y b B (N + 1))) := by
  obtain ⟨p, n, o, a, g, t, l, v, X, z, iS, rS, hv, hT, hJ⟩ := hI
  have hE' := hE
  obtain ⟨iE, rE, kw, kb, d1, d2, d3, r1, r2⟩ := hE
  have hr : iw_rm e H := by have := hJ.1; exact ⟨by omega, by omega⟩
  have f0 := lf2 H (bl x 1987)
  have iS0 := iS.c (H.1 + 1) H.2.2
  have rS0 := rS.c (H.1 + 1) H.2.2
  refine ww_remainder (D + 98) hG iE.1.1 kw ?_
  have hv2 : v < 2147483647 := by omega
  refine ct_Iremainder (D + 92) hG iE iS hr hv2 (fun q => wC_x (k := 1) rfl (by decide) (jC_i hE' hJ f0 ?_)) (fun I C e1 I1 e2 C1 hj hq => wC_x (k := 2) rfl (by decide) (jC_i hE' hJ f0 ?_)) (fun h I dd C T v' r b' e1 I1 e2 C1 e3 T1 hg hd hdeg hrm hb fr iS' => wC_n (jC_i hE' hJ (lfj fr) ?_))
  · refine cm_remainder (D + 97) hG rE rS0 hv2 (fun _ => ⟨0, rfl, Or.inl rfl, lw1 _ _ _, lX1 hE' hJ rS hv hT f0 iS0 1, fun q => absurd q (by decide)⟩) (fun I C e1 I1 e2 C1 hj _ => absurd (by omega) q) (fun h I dd C T v' r b' e1 I1 e2 C1 e3 T1 _ _ _ _ _ _ _ _ => absurd (by omega) q)
  · refine cm_remainder (D + 97) hG rE rS0 hv2 (fun q => absurd (by omega) q) (fun _ _ _ _ _ _ _ _ => ⟨0, rfl, Or.inl rfl, lw1 _ _ _, lX1 hE' hJ rS hv hT f0 iS0 2, fun q => absurd q (by decide)⟩) (fun h I' dd C' T v' r b' e1' _ e2' _ e3 T1 hg _ hdeg _ _ _ _ _ => ?_)
    obtain rfl : I' = I := by omega
    obtain rfl : C' = C := by omega
    rcases hq with hq | ⟨d', hq, hq'⟩
    · rw [hg] at hq; cases hq
    · rw [hg] at hq
      injection hq with hq
      subst hq
      exfalso
      omega
  · refine cm_remainder (D + 97) hG rE (lr rS (lfj fr) d1) hv2 (fun q => absurd (by omega) q) (fun I' C' e1' _ e2' _ _ hq => ?_) (fun h2 I' dd' C' T' v2 r' b2 e1' _ e2' _ e3' _ hg' _ _ hrm' hb' fr2 t0 hS => ?_)
    · obtain rfl : I' = I := by omega
      obtain rfl : C' = C := by omega
      rcases hq with hq | ⟨d', hq, hq'⟩
      · rw [hg] at hq; cases hq
      · rw [hg] at hq
        injection hq with hq
        subst hq
        exfalso
        omega
    · obtain rfl : I' = I := by omega
      obtain rfl : C' = C := by omega
      obtain rfl : T' = T := by omega
      rw [hg] at hg'
      injection hg' with hg'
      subst hg'
      have hu := iv_rm_u (by have := iS.1.2.1; omega) (fun _ _ => rfl) hrm hrm'
      have hbb : b2 = b' ∧ v2 = v' ∧ (b' = 0 ∨ b' = 1) ∧ v' ≤ v + 1 := by
        rcases hb with ⟨c1, c2, c3⟩ | ⟨c1, c2, m, m1, m2⟩ <;> rcases hb' with ⟨c4, c5, c6⟩ | ⟨c4, c5, m', m1', m2'⟩
        · exact ⟨by omega, by omega, by omega, by omega⟩
        · exact absurd ((hu m' m1').symm.trans (c3 m' m1')) m2'
        · exact absurd ((hu m m1).trans (c6 m m1)) m2
        · exact ⟨by omega, by omega, by omega, by omega⟩
      obtain ⟨rfl, rfl, hb0, hv3⟩ := hbb
      refine ⟨_, rfl, hb0, t0, lI_mk hE' hJ (lfj fr) fr2 (iS'.c _ _) (hS r hu) (by omega) hT, fun _ => ?_⟩
      rw [fr2.2.1, wj1]
      rcases hb0 with rfl | rfl <;> rfl
set_option maxRecDepth 100000 in
theorem jn_radical (D : Nat) {i k j : Int} (hG : mx_G e.1) (hE : lE e x y w b L) (hI : lI e x y b B N H) (hN : N ≤ 600) : mz_CA e (D + 99) j_W_radical [.inr (.inl x), .inl i, .inl k, .inl j, .inr (.inl w)] H (jC e (D + 99) y b B w j_M_radical [.inr (.inl y), .inl i, .inl k, .inl j] (lI e x y b B (N + 1))) := by
  obtain ⟨p, n, o, a, g, t, l, v, X, z, iS, rS, hv, hT, hJ⟩ := hI
  have hE' := hE
  obtain ⟨iE, rE, kw, kb, d1, d2, d3, r1, r2⟩ := hE
  have hr : iw_rm e H := by have := hJ.1; exact ⟨by omega, by omega⟩
  have f0 := lf2 H (bl x 1987)
  have iS0 := iS.c (H.1 + 1) H.2.2
  have rS0 := rS.c (H.1 + 1) H.2.2
  refine ww_radical (D + 98) hG iE.1.1 kw ?_
  refine ct_Iradical (D + 92) hG iE iS hr (fun q => wC_x (k := 1) rfl (by decide) (jC_i hE' hJ f0 ?_)) (fun I C e1 I1 e2 C1 hq => wC_x (k := 2) rfl (by decide) (jC_i hE' hJ f0 ?_)) (fun h I C M b' e1 I1 e2 C1 hn e3 M1 hgd hdg hb fr iS' => wC_n (jC_i hE' hJ (lfj fr) ?_))
  · refine cm_radical (D + 95) hG rE rS0 (fun _ => ⟨0, rfl, Or.inl rfl, lw1 _ _ _, lX1 hE' hJ rS hv hT f0 iS0 1, fun q => absurd q (by decide)⟩) (fun I C e1 I1 e2 C1 _ => absurd (by omega) q) (fun h I C M b' e1 I1 e2 C1 _ _ _ _ _ _ _ _ _ => absurd (by omega) q)
  · refine cm_radical (D + 95) hG rE rS0 (fun q => absurd (by omega) q) (fun _ _ _ _ _ _ _ => ⟨0, rfl, Or.inl rfl, lw1 _ _ _, lX2 hE' hJ rS hv hT f0 iS0 2, fun q => absurd q (by decide)⟩) (fun h I' C' M b' e1' _ e2' _ hn e3 M1 hgd hdg _ _ _ _ => ?_)
    obtain rfl : I' = I := by omega
    obtain rfl : C' = C := by omega
    exact absurd ⟨hn, by omega, by omega, hgd, hdg⟩ hq
  · refine cm_radical (D + 95) hG rE (lr rS (lfj fr) d1) (fun q => absurd (by omega) q) (fun I' C' e1' _ e2' _ hq => ?_) (fun h2 I' C' M' b2 e1' _ e2' _ _ e3' _ _ _ hb' fr2 t0 hS => ?_)
    · obtain rfl : I' = I := by omega
      obtain rfl : C' = C := by omega
      exact absurd ⟨hn, by omega, by omega, hgd, hdg⟩ hq
    · obtain rfl : I' = I := by omega
      obtain rfl : C' = C := by omega
      obtain rfl : M' = M := by omega
      have hbb : b2 = b' ∧ (b' = 0 ∨ b' = 1) := by
        rcases hb with ⟨c1, c2⟩ | ⟨c1, c2⟩ <;> rcases hb' with ⟨c3, c4⟩ | ⟨c3, c4⟩
        · omega
        · exact absurd c2 c4
        · exact absurd c4 c2
        · omega
      obtain ⟨rfl, hb0⟩ := hbb
      refine ⟨_, rfl, hb0, t0, lI_mk hE' hJ (lfj fr) fr2 (iS'.c _ _) hS (by omega) hT, fun _ => ?_⟩
      rw [fr2.2.1, wj1]
      rcases hb0 with rfl | rfl <;> rfl
set_option maxRecDepth 100000 in
theorem jn_dictionary (D : Nat) {i : Int} (hG : mx_G e.1) (hE : lE e x y w b L) (hI : lI e x y b B N H) (hN : N ≤ 600) : mz_CA e (D + 99) j_W_dictionary [.inr (.inl x), .inl i, .inr (.inl w)] H (jB e (D + 99) y b B w j_M_dictionary [.inr (.inl y), .inl i] (lI e x y b B (N + 1))) := by
  obtain ⟨p, n, o, a, g, t, l, v, X, z, iS, rS, hv, hT, hJ⟩ := hI
  have hE' := hE
  obtain ⟨iE, rE, kw, kb, d1, d2, d3, r1, r2⟩ := hE
  have hr : iw_rm e H := by have := hJ.1; exact ⟨by omega, by omega⟩
  have f0 := lf2 H (bl x 1987)
  have iS0 := iS.c (H.1 + 1) H.2.2
  have rS0 := rS.c (H.1 + 1) H.2.2
  refine ww_dictionary (D + 98) hG iE.1.1 kw ?_
  refine ct_Idictionary (D + 91) hG iE iS hr (fun q => wB_x (k := 1) rfl (by decide) (jB_i hE' hJ f0 ?_)) (fun h I e1 I1 hq fr iS' => wB_x (k := 2) rfl (by decide) (jB_i hE' hJ (lf1 fr) ?_)) (fun h I dd X' e1 I1 hg hd hok hX fr iS' => wB_n (jB_i hE' hJ (lfj fr) ?_))
  · refine cm_dictionary (D + 94) hG rE rS0 (fun _ => ⟨0, rfl, lw1 _ _ _, lX1 hE' hJ rS hv hT f0 iS0 1, fun q => absurd q (by decide)⟩) (fun h I e1 I1 _ _ _ _ => absurd (by omega) q) (fun h I dd X' e1 I1 _ _ _ _ _ _ _ => absurd (by omega) q)
  · refine cm_dictionary (D + 94) hG rE (lr rS (lf1 fr) d1) (fun q => absurd (by omega) q) (fun h2 I' e1' _ _ fr2 t0 hS => ⟨0, rfl, t0, lI_mk hE' hJ (lf1 fr) fr2 (iS'.c _ _) hS (by omega) hT, fun q => absurd q (by decide)⟩) (fun h2 I' dd X' e1' _ hg hd hok _ _ _ _ => ?_)
    obtain rfl : I' = I := by omega
    exfalso
    rcases hq with hq | ⟨d', hq, hq1, hq2⟩
    · rw [hg] at hq; cases hq
    · rw [hg] at hq
      injection hq with hq
      subst hq
      exact hq2 hok
  · refine cm_dictionary (D + 94) hG rE (lr rS (lfj fr) d1) (fun q => absurd (by omega) q) (fun h2 I' e1' _ hq _ _ _ => ?_) (fun h2 I' dd' X2 e1' _ hg' hd' hok' hX' fr2 t0 hS => ?_)
    · obtain rfl : I' = I := by omega
      exfalso
      rcases hq with hq | ⟨d', hq, hq1, hq2⟩
      · rw [hg] at hq; cases hq
      · rw [hg] at hq
        injection hq with hq
        subst hq
        exact hq2 hok
    · obtain rfl : I' = I := by omega
      rw [hg] at hg'
      injection hg' with hg'
      subst hg'
      obtain rfl := iv_X_u (by have := iS.1.2.1; omega) iS.1.2.2.2 iS.1.1 hd hok.2.1 hX hX'
      exact ⟨_, rfl, t0, lI_mk hE' hJ (lfj fr) fr2 (iS'.c _ _) hS (by omega) hT, fun _ => by rw [fr2.2.1, wj1]⟩
set_option maxRecDepth 100000 in
theorem jn_zeros (D : Nat) {i : Int} (hG : mx_G e.1) (hE : lE e x y w b L) (hI : lI e x y b B N H) (hN : N ≤ 600) : mz_CA e (D + 99) j_W_zeros [.inr (.inl x), .inl i, .inr (.inl w)] H (jB e (D + 99) y b B w j_M_zeros [.inr (.inl y), .inl i] (lI e x y b B (N + 1))) := by
  obtain ⟨p, n, o, a, g, t, l, v, X, z, iS, rS, hv, hT, hJ⟩ := hI
  have hE' := hE
  obtain ⟨iE, rE, kw, kb, d1, d2, d3, r1, r2⟩ := hE
  have hr : iw_rm e H := by have := hJ.1; exact ⟨by omega, by omega⟩
  have f0 := lf2 H (bl x 1987)
  have iS0 := iS.c (H.1 + 1) H.2.2
  have rS0 := rS.c (H.1 + 1) H.2.2
  refine ww_zeros (D + 98) hG iE.1.1 kw ?_
  refine ct_Izeros (D + 90) hG iE iS hr (fun q => wB_x (k := 1) rfl (by decide) (jB_i hE' hJ f0 ?_)) (fun hi hq => wB_x (k := 2) rfl (by decide) (jB_i hE' hJ f0 ?_)) (fun h I e1 I1 hq fr iS' => wB_n (jB_i hE' hJ (lfj fr) ?_))
  · refine cm_zeros (D + 97) hG rE rS0 (fun _ => ⟨0, rfl, lw1 _ _ _, lX1 hE' hJ rS hv hT f0 iS0 1, fun q => absurd q (by decide)⟩) (fun hi _ => absurd hi q) (fun h I e1 I1 _ _ _ _ => absurd (by omega) q)
  · refine cm_zeros (D + 97) hG rE rS0 (fun q => absurd hi q) (fun _ _ => ⟨0, rfl, lw1 _ _ _, lX2 hE' hJ rS hv hT f0 iS0 2, fun q => absurd q (by decide)⟩) (fun h I e1 I1 hq' _ _ _ => absurd hq' hq)
  · refine cm_zeros (D + 97) hG rE (lr rS (lfj fr) d1) (fun q => absurd (by omega) q) (fun _ hq' => absurd hq hq') (fun h2 I' e1' _ _ fr2 t0 hS => ?_)
    obtain rfl : I' = I := by omega
    exact ⟨_, rfl, t0, lI_mk hE' hJ (lfj fr) fr2 (iS'.c _ _) hS (by omega) hT, fun _ => by rw [fr2.2.1, wj1]⟩
end JOINT
