/- both sides at once -/
def lE (e : mz_E) (x y w b L : Nat) : Prop := iw_E e x ∧ rm_E e y ∧ e.2.1 w = some (24, 1) ∧ e.2.1 b = some (21, L) ∧ x + 1987 ≤ y ∧ b < x ∧ e.1.2.2.2.2 < x ∧ e.2.2.2.1 ≤ 600000 ∧ e.2.2.2.2 ≤ 7000000
def lJ (e : mz_E) (b : Nat) (B : Nat → Int) (N : Nat) (H : mz_H) : Prop := H.1 ≤ N ∧ st_S e H ∧ H.2.1 b = B
def lT (t : iT) : Prop := (∀ j, j < 20 → t.1 j ≠ -1) ∧ ∀ j, t.2.1 j ≠ -1
def lI (e : mz_E) (x y b : Nat) (B : Nat → Int) (N : Nat) (H : mz_H) : Prop := ∃ p n o a g t l v X z, iw_S H x p n o a g t l v X z ∧ rm_S H y p n o a g t l v X z ∧ v ≤ N ∧ lT t ∧ lJ e b B N H
def lf (H h : mz_H) (A : List Nat) : Prop := h.1 ≤ H.1 + 1 ∧ ∀ c, c ∉ A → h.2.1 c = H.2.1 c
theorem lf0 {H h : mz_H} {A : List Nat} (f : mz_fr H h A) : lf H h A := ⟨by rw [f.1]; omega, f.2.2⟩
theorem lf1 {H h : mz_H} {A : List Nat} (f : mz_fr H h A) : lf H (h.1 + 1, h.2) A := ⟨by show h.1 + 1 ≤ _; rw [f.1]; omega, f.2.2⟩
theorem lf2 (H : mz_H) (A : List Nat) : lf H (H.1 + 1, H.2) A := lf1 (mz_fr.refl H A)
theorem lfj {H h : mz_H} {A : List Nat} {w : Nat} {r : Int} (f : mz_fr H h A) : lf H (mz_wj h w 0 r) A := ⟨(lf0 f).1, (lf0 f).2⟩
section JN
variable {e : mz_E} {H h1 h2 : mz_H} {x y w b L N : Nat} {B : Nat → Int} {p : Int} {n o : Nat} {a : Nat → Nat → Int} {g : Nat → iG} {t : iT} {l : List Int} {v : Nat} {X : fg_S} {z : iZ}
theorem iw_S.c (hS : iw_S H x p n o a g t l v X z) (c : Nat) (j : Nat → Nat → Int) : iw_S (c, H.2.1, j) x p n o a g t l v X z := hS
theorem rm_S.c (hS : rm_S H y p n o a g t l v X z) (c : Nat) (j : Nat → Nat → Int) : rm_S (c, H.2.1, j) y p n o a g t l v X z := hS
theorem lr (hS : rm_S H y p n o a g t l v X z) (f : lf H h1 (bl x 1987)) (d : x + 1987 ≤ y) : rm_S h1 y p n o a g t l v X z :=
  (hS.fr (h := (H.1, h1.2.1, H.2.2)) ⟨rfl, rfl, f.2⟩ (fun k _ => by show h1.2.1 y k = _; rw [f.2 y (by rw [bl_m]; omega)]) (fun c hc => by rw [bl_m]; omega)).c h1.1 h1.2.2
theorem lx (hS : iw_S h1 x p n o a g t l v X z) (f : mz_fr h1 h2 (bl y 43)) (d : x + 1987 ≤ y) : iw_S h2 x p n o a g t l v X z :=
  hS.fr f (fun c hc => by rw [bl_m] at hc; unfold iw_sc; omega)
theorem lw_ (h : mz_H) (y : Nat) (k : Int) : mz_fr h (mz_w h y 0 k) (bl y 43) := mz_fr.w _ _ _ _ (by rw [bl_m]; omega)
theorem lw1 (h : mz_H) (y : Nat) (k : Int) : (mz_w h y 0 k).2.1 y 0 = k := by rw [mz_w_g, if_pos ⟨rfl, rfl⟩]
theorem nk0 : ¬ rm_k 0 := by unfold rm_k; omega
theorem lI_mk (hE : lE e x y w b L) (hJ : lJ e b B N H) (f1 : lf H h1 (bl x 1987)) (f2 : mz_fr h1 h2 (bl y 43)) (iS : iw_S h1 x p n o a g t l v X z) (rS : rm_S h2 y p n o a g t l v X z) (hv : v ≤ N + 1) (hT : lT t) : lI e x y b B (N + 1) h2 := by
  obtain ⟨iE, rE, kw, kb, d1, d2, d3, r1, r2⟩ := hE
  obtain ⟨j1, j2, j3⟩ := hJ
  have e1 : ∀ c, c < x → h2.2.1 c = H.2.1 c := fun c hc => by
    rw [f2.2.2 c (by rw [bl_m]; omega), f1.2 c (by rw [bl_m]; omega)]
  refine ⟨p, n, o, a, g, t, l, v, X, z, lx iS f2 d1, rS, hv, hT, ?_, fun n h1' h2' => ?_, ?_⟩
  · rw [f2.1]
    have := f1.1
    omega
  · rw [e1 _ d3]
    exact j2 n h1' h2'
  · rw [e1 _ d2]
    exact j3
theorem lX1 (hE : lE e x y w b L) (hJ : lJ e b B N H) (rS : rm_S H y p n o a g t l v X z) (hv : v ≤ N) (hT : lT t) (f1 : lf H h1 (bl x 1987)) (iS : iw_S h1 x p n o a g t l v X z) (k : Int) : lI e x y b B (N + 1) (mz_w h1 y 0 k) :=
  lI_mk hE hJ f1 (lw_ h1 y k) iS ((lr rS f1 hE.2.2.2.2.1).w nk0) (by omega) hT
theorem lX2 (hE : lE e x y w b L) (hJ : lJ e b B N H) (rS : rm_S H y p n o a g t l v X z) (hv : v ≤ N) (hT : lT t) (f1 : lf H h1 (bl x 1987)) (iS : iw_S h1 x p n o a g t l v X z) (k : Int) : lI e x y b B (N + 1) (mz_w (mz_w h1 y 0 0) y 0 k) :=
  lI_mk hE hJ f1 ((lw_ h1 y 0).tr (lw_ _ y k)) iS (((lr rS f1 hE.2.2.2.2.1).w nk0).w nk0) (by omega) hT
end JN
def jA (e : mz_E) (D y b : Nat) (B : Nat → Int) (j : Nat) (as : List mz_W) (I : mz_H → Prop) : mz_O → mz_H → Prop := fun O h1 => ∃ k, O = .inl (some (.inl k)) ∧ h1.2.1 b = B ∧ mz_CA e D j as h1 (fun O2 h2 => O2 = .inl none ∧ h2.2.1 y 0 = k ∧ I h2)
def jB (e : mz_E) (D y b : Nat) (B : Nat → Int) (w j : Nat) (as : List mz_W) (I : mz_H → Prop) : mz_O → mz_H → Prop := fun O h1 => ∃ k, O = .inl (some (.inl k)) ∧ h1.2.1 b = B ∧ mz_CA e D j as h1 (fun O2 h2 => ∃ r, O2 = .inl (some (.inl r)) ∧ h2.2.1 y 0 = k ∧ I h2 ∧ (k = 0 → h2.2.2 w 0 = r))
def jC (e : mz_E) (D y b : Nat) (B : Nat → Int) (w j : Nat) (as : List mz_W) (I : mz_H → Prop) : mz_O → mz_H → Prop := fun O h1 => ∃ k, O = .inl (some (.inl k)) ∧ h1.2.1 b = B ∧ mz_CA e D j as h1 (fun O2 h2 => ∃ r, O2 = .inl (some (.inl r)) ∧ (r = 0 ∨ r = 1) ∧ h2.2.1 y 0 = k ∧ I h2 ∧ (k = 0 → h2.2.2 w 0 = r))
def jD (e : mz_E) (D b : Nat) (B : Nat → Int) (j : Nat) (as : List mz_W) (I : mz_H → Prop) : mz_O → mz_H → Prop := fun O h1 => ∃ r, O = .inl (some (.inl r)) ∧ h1.2.1 b = B ∧ mz_CA e D j as h1 (fun O2 h2 => O2 = .inl (some (.inl r)) ∧ I h2)
def jE (e : mz_E) (D b : Nat) (B : Nat → Int) (j : Nat) (as : List mz_W) (I : mz_H → Prop) : mz_O → mz_H → Prop := fun O h1 => O = .inl none ∧ h1.2.1 b = B ∧ mz_CA e D j as h1 (fun O2 h2 => O2 = .inl none ∧ I h2)
theorem jA_i {e : mz_E} {H h1 : mz_H} {x y w b L N : Nat} {B : Nat → Int} {D j : Nat} {as : List mz_W} {I : mz_H → Prop} {k : Int} (hE : lE e x y w b L) (hJ : lJ e b B N H) (f : lf H h1 (bl x 1987)) (h : mz_CA e D j as h1 (fun O2 h2 => O2 = .inl none ∧ h2.2.1 y 0 = k ∧ I h2)) : jA e D y b B j as I (.inl (some (.inl k))) h1 := ⟨k, rfl, (f.2 b (by have := hE.2.2.2.2.2.1; rw [bl_m]; omega)).trans hJ.2.2, h⟩
theorem jB_i {e : mz_E} {H h1 : mz_H} {x y w b L N : Nat} {B : Nat → Int} {D j : Nat} {as : List mz_W} {I : mz_H → Prop} {k : Int} (hE : lE e x y w b L) (hJ : lJ e b B N H) (f : lf H h1 (bl x 1987)) (h : mz_CA e D j as h1 (fun O2 h2 => ∃ r, O2 = .inl (some (.inl r)) ∧ h2.2.1 y 0 = k ∧ I h2 ∧ (k = 0 → h2.2.2 w 0 = r))) : jB e D y b B w j as I (.inl (some (.inl k))) h1 := ⟨k, rfl, (f.2 b (by have := hE.2.2.2.2.2.1; rw [bl_m]; omega)).trans hJ.2.2, h⟩
theorem jC_i {e : mz_E} {H h1 : mz_H} {x y w b L N : Nat} {B : Nat → Int} {D j : Nat} {as : List mz_W} {I : mz_H → Prop} {k : Int} (hE : lE e x y w b L) (hJ : lJ e b B N H) (f : lf H h1 (bl x 1987)) (h : mz_CA e D j as h1 (fun O2 h2 => ∃ r, O2 = .inl (some (.inl r)) ∧ (r = 0 ∨ r = 1) ∧ h2.2.1 y 0 = k ∧ I h2 ∧ (k = 0 → h2.2.2 w 0 = r))) : jC e D y b B w j as I (.inl (some (.inl k))) h1 := ⟨k, rfl, (f.2 b (by have := hE.2.2.2.2.2.1; rw [bl_m]; omega)).trans hJ.2.2, h⟩
theorem jD_i {e : mz_E} {H h1 : mz_H} {x y w b L N : Nat} {B : Nat → Int} {D j : Nat} {as : List mz_W} {I : mz_H → Prop} {r : Int} (hE : lE e x y w b L) (hJ : lJ e b B N H) (f : lf H h1 (bl x 1987)) (h : mz_CA e D j as h1 (fun O2 h2 => O2 = .inl (some (.inl r)) ∧ I h2)) : jD e D b B j as I (.inl (some (.inl r))) h1 := ⟨r, rfl, (f.2 b (by have := hE.2.2.2.2.2.1; rw [bl_m]; omega)).trans hJ.2.2, h⟩
theorem jE_i {e : mz_E} {H h1 : mz_H} {x y w b L N : Nat} {B : Nat → Int} {D j : Nat} {as : List mz_W} {I : mz_H → Prop} (hE : lE e x y w b L) (hJ : lJ e b B N H) (f : lf H h1 (bl x 1987)) (h : mz_CA e D j as h1 (fun O2 h2 => O2 = .inl none ∧ I h2)) : jE e D b B j as I (.inl none) h1 := ⟨rfl, (f.2 b (by have := hE.2.2.2.2.2.1; rw [bl_m]; omega)).trans hJ.2.2, h⟩
theorem wj1 (h : mz_H) (w : Nat) (r : Int) : (mz_wj h w 0 r).2.2 w 0 = r := mx_up2_s _ _ _ _
section JOINT
variable {e : mz_E} {H : mz_H} {x y w b L N : Nat} {B : Nat → Int}
set_option maxRecDepth 100000 in
theorem jn_field (D : Nat) {q N1 O1 : Int} (hG : mx_G e.1) (hE : lE e x y w b L) (hI : lI e x y b B N H) (hN : N ≤ 600) : mz_CA e (D + 99) j_W_field [.inr (.inl x), .inl q, .inl N1, .inl O1] H (jA e (D + 99) y b B j_M_field [.inr (.inl y), .inl q, .inl N1, .inl O1] (lI e x y b B (N + 1))) := by
  obtain ⟨p, n, o, a, g, t, l, v, X, z, iS, rS, hv, hT, hJ⟩ := hI
  have hE' := hE
  obtain ⟨iE, rE, kw, kb, d1, d2, d3, r1, r2⟩ := hE
  have hr : iw_rm e H := by have := hJ.1; exact ⟨by omega, by omega⟩
  have f0 := lf2 H (bl x 1987)
  have iS0 := iS.c (H.1 + 1) H.2.2
  have rS0 := rS.c (H.1 + 1) H.2.2
  refine ww_field (D + 98) hG iE.1.1 ?_
  refine ct_Ifield (D + 91) hG iE iS hr hJ.2.1 (fun q => wA_x (k := 1) rfl (by decide) (jA_i hE' hJ f0 ?_)) (fun h n' o' a' e1 e2 hf ha fr iS' => wA_n (jA_i hE' hJ (lf0 fr) ?_))
  · refine cm_field (D + 96) hG rE rS0 (fun _ => ⟨rfl, lw1 _ _ _, lX1 hE' hJ rS hv hT f0 iS0 1⟩) (fun h n' o' e1 e2 hf _ _ _ => absurd ?_ q)
    obtain ⟨⟨q1, q2, q3⟩, ⟨q4, q5⟩, q6, q7⟩ := hf
    exact ⟨by omega, by omega, q4, q6, q7⟩
  · refine cm_field (D + 96) hG rE (lr rS (lf0 fr) d1) (fun q => absurd ?_ q) (fun h2 n2 o2 e1' e2' hf' fr2 t0 hS => ?_)
    · obtain ⟨⟨q1, q2, q3⟩, ⟨q4, q5⟩, q6, q7⟩ := hf
      exact ⟨by omega, by omega, q4, q6, q7⟩
    · obtain rfl : n2 = n' := by omega
      obtain rfl : o2 = o' := by omega
      exact ⟨rfl, t0, lI_mk hE' hJ (lf0 fr) fr2 iS' (hS a' ha) (by omega) hT⟩
set_option maxRecDepth 100000 in
theorem jn_feed (D : Nat) {q : Nat → Int} (hG : mx_G e.1) (hE : lE e x y w b L) (hI : lI e x y b B N H) (hN : N ≤ 600) : mz_CA e (D + 99) j_I_feed [.inr (.inl x), .inl (q 0), .inl (q 1), .inl (q 2), .inl (q 3), .inl (q 4)] H (jE e (D + 99) b B j_M_feed [.inr (.inl y), .inl (q 0), .inl (q 1), .inl (q 2), .inl (q 3), .inl (q 4)] (lI e x y b B (N + 1))) := by
  obtain ⟨p, n, o, a, g, t, l, v, X, z, iS, rS, hv, hT, hJ⟩ := hI
  have hE' := hE
  obtain ⟨iE, rE, kw, kb, d1, d2, d3, r1, r2⟩ := hE
  have hr : iw_rm e H := by have := hJ.1; exact ⟨by omega, by omega⟩
  have f0 := lf2 H (bl x 1987)
  have iS0 := iS.c (H.1 + 1) H.2.2
  have rS0 := rS.c (H.1 + 1) H.2.2
  refine ct_Ifeed (D + 98) hG iE iS (fun h rd fr hrd iS' => jE_i hE' hJ (lf0 fr) ?_)
  refine cm_feed (D + 99) (rd := rd) hG rE (lr rS (lf0 fr) d1) hrd (fun h2 fr2 _ hS => ⟨rfl, lI_mk hE' hJ (lf0 fr) fr2 iS' hS (by omega) ⟨fun j hj => ?_, hT.2⟩⟩)
  show rd j ≠ -1
  rw [hrd j hj]
  have := mz_and_r (x := mz_shr (q (j / 4)) (24 - 8 * ((j % 4 : Nat) : Int))) (y := 255) (by omega) (by omega)
  unfold by_k
  omega
set_option maxRecDepth 100000 in
theorem jn_end (D : Nat) {i : Int} (hG : mx_G e.1) (hE : lE e x y w b L) (hI : lI e x y b B N H) (hN : N ≤ 600) (hi : mz_in i) : mz_CA e (D + 99) j_I_end [.inr (.inl x), .inl i] H (jD e (D + 99) b B j_M_end [.inr (.inl y), .inl i] (lI e x y b B (N + 1))) := by
  obtain ⟨p, n, o, a, g, t, l, v, X, z, iS, rS, hv, hT, hJ⟩ := hI
  have hE' := hE
  obtain ⟨iE, rE, kw, kb, d1, d2, d3, r1, r2⟩ := hE
  have hr : iw_rm e H := by have := hJ.1; exact ⟨by omega, by omega⟩
  have f0 := lf2 H (bl x 1987)
  have iS0 := iS.c (H.1 + 1) H.2.2
  have rS0 := rS.c (H.1 + 1) H.2.2
  refine ct_Iend (D + 97) hG iE iS hi (fun q => jD_i hE' hJ (lf0 (mz_fr.refl H _)) ?_) (fun h k rd tx e1 k1 k2 fr hrd htx iS' => jD_i hE' hJ (lf0 fr) ?_)
  · refine cm_end (D + 99) hG rE rS hi (fun _ => ⟨rfl, lX1 hE' hJ rS hv hT (lf0 (mz_fr.refl H _)) iS 0⟩) (fun h k e1 k1 k2 _ _ _ => absurd q (by omega))
  · refine cm_end (D + 99) hG rE (lr rS (lf0 fr) d1) hi (fun q => absurd q (by omega)) (fun h2 k' e1' _ _ fr2 _ hS => ?_)
    obtain rfl : k' = k := by omega
    refine ⟨rfl, lI_mk hE' hJ (lf0 fr) fr2 iS' (hS rd tx hrd htx) (by omega) ⟨fun j hj => ?_, fun j => ?_⟩⟩
    · show rd j ≠ -1
      rw [hrd j hj]
      decide
    · show tx j ≠ -1
      rw [htx j]
      split
      · exact hT.1 _ (by omega)
      · exact hT.2 j
set_option maxRecDepth 100000 in
theorem jn_read (D : Nat) {i : Int} (hG : mx_G e.1) (hE : lE e x y w b L) (hI : lI e x y b B N H) (hN : N ≤ 600) : mz_CA e (D + 99) j_W_read [.inr (.inl x), .inl i, .inr (.inl w)] H (jB e (D + 99) y b B w j_M_read [.inr (.inl y), .inl i] (lI e x y b B (N + 1))) := by
  obtain ⟨p, n, o, a, g, t, l, v, X, z, iS, rS, hv, hT, hJ⟩ := hI
  have hE' := hE
  obtain ⟨iE, rE, kw, kb, d1, d2, d3, r1, r2⟩ := hE
  have hr : iw_rm e H := by have := hJ.1; exact ⟨by omega, by omega⟩
  have f0 := lf2 H (bl x 1987)
  have iS0 := iS.c (H.1 + 1) H.2.2
  have rS0 := rS.c (H.1 + 1) H.2.2
  refine ww_read (D + 98) hG iE.1.1 kw ?_
  refine ct_Iread (D + 10) hG iE iS hr (fun q => wB_x (k := 1) rfl (by decide) (jB_i hE' hJ f0 ?_)) (fun h c y' hi fr hps iS' => wB_x (k := 2) rfl (by decide) (jB_i hE' hJ (lf1 fr) ?_)) (fun h k f r e1 k1 fr hps hrf iS' => wB_n (jB_i hE' hJ (lfj fr) ?_))
  · refine cm_read (D + 93) hG rE rS0 hT.2 (fun _ => ⟨0, rfl, lw1 _ _ _, lX1 hE' hJ rS hv hT f0 iS0 1, fun q => absurd q (by decide)⟩) (fun h c w' hi _ _ _ _ => absurd hi q) (fun h k f e1 k1 _ _ _ _ => absurd (by omega) q)
  · refine cm_read (D + 93) hG rE (lr rS (lf1 fr) d1) hT.2 (fun q => absurd hi q) (fun h2 c2 w2 _ fr2 t0 hps2 hS => ?_) (fun h2 k f e1 k1 _ _ hps2 _ => absurd (hps.symm.trans hps2) (by simp))
    have hq := hps.symm.trans hps2
    simp only [Sum.inl.injEq, Prod.mk.injEq] at hq
    obtain ⟨rfl, rfl⟩ := hq
    exact ⟨0, rfl, t0, lI_mk hE' hJ (lf1 fr) fr2 (iS'.c _ _) hS (by omega) hT, fun q => absurd q (by decide)⟩
  · refine cm_read (D + 93) hG rE (lr rS (lfj fr) d1) hT.2 (fun q => absurd (by omega) q) (fun h2 c2 w2 _ _ _ hps2 _ => absurd (hps.symm.trans hps2) (by simp)) (fun h2 k' f' e1' _ fr2 t0 hps2 hS => ?_)
    have hq := hps.symm.trans hps2
    simp only [Sum.inr.injEq] at hq
    subst hq
    obtain rfl : k' = k := by omega
    refine ⟨_, rfl, t0, lI_mk hE' hJ (lfj fr) fr2 (iS'.c _ _) (hS r hrf) (by omega) hT, fun _ => ?_⟩
    rw [fr2.2.1, wj1]
    rw [sp_cnt_c (fun j hj => hrf j (by have := tb_N_b n; omega))]
set_option maxRecDepth 100000 in
theorem jn_fault (D : Nat) {i : Int} (hG : mx_G e.1) (hE : lE e x y w b L) (hI : lI e x y b B N H) (hN : N ≤ 600) : mz_CA e (D + 99) j_I_fault [.inr (.inl x), .inl i] H (jD e (D + 99) b B j_M_fault [.inr (.inl y), .inl i] (lI e x y b B (N + 1))) := by
  obtain ⟨p, n, o, a, g, t, l, v, X, z, iS, rS, hv, hT, hJ⟩ := hI
  have hE' := hE
  obtain ⟨iE, rE, kw, kb, d1, d2, d3, r1, r2⟩ := hE
  have hr : iw_rm e H := by have := hJ.1; exact ⟨by omega, by omega⟩
  have f0 := lf2 H (bl x 1987)
  have iS0 := iS.c (H.1 + 1) H.2.2
  have rS0 := rS.c (H.1 + 1) H.2.2
  refine ct_Ifault (D + 99) hG iE iS (jD_i hE' hJ (lf0 (mz_fr.refl H _)) ?_)
  exact cm_fault (D + 99) hG rE rS ⟨rfl, lX1 hE' hJ rS hv hT (lf0 (mz_fr.refl H _)) iS 0⟩
set_option maxRecDepth 100000 in
theorem jn_add (D : Nat) {i f j k : Int} (hG : mx_G e.1) (hE : lE e x y w b L) (hI : lI e x y b B N H) (hN : N ≤ 600) (hf : mz_in f) : mz_CA e (D + 99) j_W_add [.inr (.inl x), .inl i, .inl f, .inl j, .inl k] H (jA e (D + 99) y b B j_M_add [.inr (.inl y), .inl i, .inl f, .inl j, .inl k] (lI e x y b B (N + 1))) := by
  obtain ⟨p, n, o, a, g, t, l, v, X, z, iS, rS, hv, hT, hJ⟩ := hI
  have hE' := hE
  obtain ⟨iE, rE, kw, kb, d1, d2, d3, r1, r2⟩ := hE
  have hr : iw_rm e H := by have := hJ.1; exact ⟨by omega, by omega⟩
  have f0 := lf2 H (bl x 1987)
  have iS0 := iS.c (H.1 + 1) H.2.2
  have rS0 := rS.c (H.1 + 1) H.2.2
  refine ww_add (D + 98) hG iE.1.1 ?_
  refine ct_Iadd (D + 96) hG iE iS hr hf (fun q => wA_x (k := 1) rfl (by decide) (jA_i hE' hJ f0 ?_)) (fun h I J K r e1 I1 e2 J1 e3 K1 fr hr' iS' => wA_n (jA_i hE' hJ (lf0 fr) ?_))
  · refine cm_add (D + 97) hG rE rS0 hf (fun _ => ⟨rfl, lw1 _ _ _, lX1 hE' hJ rS hv hT f0 iS0 1⟩) (fun h I J K e1 I1 e2 J1 e3 K1 _ _ _ => absurd (by omega) q)
  · refine cm_add (D + 97) hG rE (lr rS (lf0 fr) d1) hf (fun q => absurd (by omega) q) (fun h2 I' J' K' e1' _ e2' _ e3' _ fr2 t0 hS => ?_)
    obtain rfl : I' = I := by omega
    obtain rfl : J' = J := by omega
    obtain rfl : K' = K := by omega
    exact ⟨rfl, t0, lI_mk hE' hJ (lf0 fr) fr2 iS' (hS r hr') (by omega) hT⟩
set_option maxRecDepth 100000 in
theorem jn_multiply (D : Nat) {i j k : Int} (hG : mx_G e.1) (hE : lE e x y w b L) (hI : lI e x y b B N H) (hN : N ≤ 600) : mz_CA e (D + 99) j_W_multiply [.inr (.inl x), .inl i, .inl j, .inl k] H (jA e (D + 99) y b B j_M_multiply [.inr (.inl y), .inl i, .inl j, .inl k] (lI e x y b B (N + 1))) := by
  obtain ⟨p, n, o, a, g, t, l, v, X, z, iS, rS, hv, hT, hJ⟩ := hI
  have hE' := hE
  obtain ⟨iE, rE, kw, kb, d1, d2, d3, r1, r2⟩ := hE
  have hr : iw_rm e H := by have := hJ.1; exact ⟨by omega, by omega⟩
  have f0 := lf2 H (bl x 1987)
  have iS0 := iS.c (H.1 + 1) H.2.2
  have rS0 := rS.c (H.1 + 1) H.2.2
  refine ww_multiply (D + 98) hG iE.1.1 ?_
  refine ct_Imultiply (D + 95) hG iE iS hr (fun q => wA_x (k := 1) rfl (by decide) (jA_i hE' hJ f0 ?_)) (fun I J e1 I1 e2 J1 hk q => wA_x (k := 2) rfl (by decide) (jA_i hE' hJ f0 ?_)) (fun h I J K r e1 I1 e2 J1 e3 K1 hq fr hr' iS' => wA_n (jA_i hE' hJ (lf0 fr) ?_))
  · refine cm_multiply (D + 96) hG rE rS0 (fun _ => ⟨rfl, lw1 _ _ _, lX1 hE' hJ rS hv hT f0 iS0 1⟩) (fun I J e1 I1 e2 J1 hk _ => absurd (by omega) q) (fun h I J K e1 I1 e2 J1 e3 K1 _ _ _ _ => absurd (by omega) q)
  · refine cm_multiply (D + 96) hG rE rS0 (fun q => absurd (by omega) q) (fun I J e1 I1 e2 J1 hk _ => ⟨rfl, lw1 _ _ _, lX1 hE' hJ rS hv hT f0 iS0 2⟩) (fun h I' J' K e1' I1 e2' J1 e3 K1 hq _ _ _ => ?_)
    obtain rfl : I' = I := by omega
    obtain rfl : J' = J := by omega
    exact absurd hq q
  · refine cm_multiply (D + 96) hG rE (lr rS (lf0 fr) d1) (fun q => absurd (by omega) q) (fun I' J' e1' _ e2' _ hk q => ?_) (fun h2 I' J' K' e1' _ e2' _ e3' _ hq' fr2 t0 hS => ?_)
    · obtain rfl : I' = I := by omega
      obtain rfl : J' = J := by omega
      exact absurd hq q
    · obtain rfl : I' = I := by omega
      obtain rfl : J' = J := by omega
      obtain rfl : K' = K := by omega
      exact ⟨rfl, t0, lI_mk hE' hJ (lf0 fr) fr2 iS' (hS r hr') (by omega) hT⟩
set_option maxRecDepth 100000 in
theorem jn_derive (D : Nat) {i j k : Int} (hG : mx_G e.1) (hE : lE e x y w b L) (hI : lI e x y b B N H) (hN : N ≤ 600) : mz_CA e (D + 99) j_W_derive [.inr (.inl x), .inl i, .inl j, .inl k] H (jA e (D + 99) y b B j_M_derive [.inr (.inl y), .inl i, .inl j, .inl k] (lI e x y b B (N + 1))) := by
  obtain ⟨p, n, o, a, g, t, l, v, X, z, iS, rS, hv, hT, hJ⟩ := hI
  have hE' := hE
  obtain ⟨iE, rE, kw, kb, d1, d2, d3, r1, r2⟩ := hE
  have hr : iw_rm e H := by have := hJ.1; exact ⟨by omega, by omega⟩
  have f0 := lf2 H (bl x 1987)
  have iS0 := iS.c (H.1 + 1) H.2.2
  have rS0 := rS.c (H.1 + 1) H.2.2
  refine ww_derive (D + 98) hG iE.1.1 ?_
  refine ct_Iderive (D + 95) hG iE iS hr (fun q => wA_x (k := 1) rfl (by decide) (jA_i hE' hJ f0 ?_)) (fun h I J K r e1 I1 e2 J1 e3 K1 fr hr' hz' iS' => wA_n (jA_i hE' hJ (lf0 fr) ?_))
  · refine cm_derive (D + 97) hG rE rS0 (fun _ => ⟨rfl, lw1 _ _ _, lX1 hE' hJ rS hv hT f0 iS0 1⟩) (fun h I J K e1 I1 e2 J1 e3 K1 _ _ _ => absurd (by omega) q)
  · refine cm_derive (D + 97) hG rE (lr rS (lf0 fr) d1) (fun q => absurd (by omega) q) (fun h2 I' J' K' e1' _ e2' _ e3' _ fr2 t0 hS => ?_)
    obtain rfl : I' = I := by omega
    obtain rfl : J' = J := by omega
    obtain rfl : K' = K := by omega
    exact ⟨rfl, t0, lI_mk hE' hJ (lf0 fr) fr2 iS' (hS r hr' hz') (by omega) hT⟩
set_option maxRecDepth 100000 in
theorem jn_put (D : Nat) {i j f k : Int} (hG : mx_G e.1) (hE : lE e x y w b L) (hI : lI e x y b B N H) (hN : N ≤ 600) (hf : mz_in f) : mz_CA e (D + 99) j_W_put [.inr (.inl x), .inl i, .inl j, .inl f, .inl k] H (jA e (D + 99) y b B j_M_put [.inr (.inl y), .inl i, .inl j, .inl f, .inl k] (lI e x y b B (N + 1))) := by
  obtain ⟨p, n, o, a, g, t, l, v, X, z, iS, rS, hv, hT, hJ⟩ := hI
  have hE' := hE
  obtain ⟨iE, rE, kw, kb, d1, d2, d3, r1, r2⟩ := hE
  have hr : iw_rm e H := by have := hJ.1; exact ⟨by omega, by omega⟩
  have f0 := lf2 H (bl x 1987)
  have iS0 := iS.c (H.1 + 1) H.2.2
  have rS0 := rS.c (H.1 + 1) H.2.2
  refine ww_put (D + 98) hG iE.1.1 ?_
  refine ct_Iput (D + 95) hG iE iS hr hf (fun q => wA_x (k := 1) rfl (by decide) (jA_i hE' hJ f0 ?_)) (fun h I J K r e1 I1 e2 J1 e3 K1 fr hr' iS' => wA_n (jA_i hE' hJ (lf0 fr) ?_))
  · refine cm_put (D + 97) hG rE rS0 hf (fun _ => ⟨rfl, lw1 _ _ _, lX1 hE' hJ rS hv hT f0 iS0 1⟩) (fun h I J K e1 I1 e2 J1 e3 K1 _ _ _ => absurd (by omega) q)
  · refine cm_put (D + 97) hG rE (lr rS (lf0 fr) d1) hf (fun q => absurd (by omega) q) (fun h2 I' J' K' e1' _ e2' _ e3' _ fr2 t0 hS => ?_)
    obtain rfl : I' = I := by omega
    obtain rfl : J' = J := by omega
    obtain rfl : K' = K := by omega
    exact ⟨rfl, t0, lI_mk hE' hJ (lf0 fr) fr2 iS' (hS r hr') (by omega) hT⟩
set_option maxRecDepth 100000 in
theorem jn_about (D : Nat) {k i : Int} (hG : mx_G e.1) (hE : lE e x y w b L) (hI : lI e x y b B N H) (hN : N ≤ 600) : mz_CA e (D + 99) j_I_about [.inr (.inl x), .inl k, .inl i] H (jD e (D + 99) b B j_M_about [.inr (.inl y), .inl k, .inl i] (lI e x y b B (N + 1))) := by
  obtain ⟨p, n, o, a, g, t, l, v, X, z, iS, rS, hv, hT, hJ⟩ := hI
  have hE' := hE
  obtain ⟨iE, rE, kw, kb, d1, d2, d3, r1, r2⟩ := hE
  have hr : iw_rm e H := by have := hJ.1; exact ⟨by omega, by omega⟩
  have f0 := lf2 H (bl x 1987)
  have iS0 := iS.c (H.1 + 1) H.2.2
  have rS0 := rS.c (H.1 + 1) H.2.2
  refine ct_Iabout (D + 97) hG iE iS (jD_i hE' hJ (lf0 (mz_fr.refl H _)) ?_)
  exact cm_about (D + 97) hG rE rS ⟨rfl, lX1 hE' hJ rS hv hT (lf0 (mz_fr.refl H _)) iS 0⟩
set_option maxRecDepth 100000 in
theorem jn_term (D : Nat) {k i u : Int} (hG : mx_G e.1) (hE : lE e x y w b L) (hI : lI e x y b B N H) (hN : N ≤ 600) (hi : mz_in i) : mz_CA e (D + 99) j_I_term [.inr (.inl x), .inl k, .inl i, .inl u] H (jD e (D + 99) b B j_M_term [.inr (.inl y), .inl k, .inl i, .inl u] (lI e x y b B (N + 1))) := by
  obtain ⟨p, n, o, a, g, t, l, v, X, z, iS, rS, hv, hT, hJ⟩ := hI
  have hE' := hE
  obtain ⟨iE, rE, kw, kb, d1, d2, d3, r1, r2⟩ := hE
  have hr : iw_rm e H := by have := hJ.1; exact ⟨by omega, by omega⟩
  have f0 := lf2 H (bl x 1987)
  have iS0 := iS.c (H.1 + 1) H.2.2
  have rS0 := rS.c (H.1 + 1) H.2.2
  refine ct_Iterm (D + 97) hG iE iS hi (jD_i hE' hJ (lf0 (mz_fr.refl H _)) ?_)
  exact cm_term (D + 98) hG rE rS hi ⟨rfl, lX1 hE' hJ rS hv hT (lf0 (mz_fr.refl H _)) iS 0⟩
set_option maxRecDepth 100000 in
theorem jn_output (D : Nat) {i : Int} (hG : mx_G e.1) (hE : lE e x y w b L) (hI : lI e x y b B N H) (hN : N ≤ 600) : mz_CA e (D + 99) j_I_output [.inr (.inl x), .inl i] H (jD e (D + 99) b B j_M_output [.inr (.inl y), .inl i] (lI e x y b B (N + 1))) := by
  obtain ⟨p, n, o, a, g, t, l, v, X, z, iS, rS, hv, hT, hJ⟩ := hI
  have hE' := hE
  obtain ⟨iE, rE, kw, kb, d1, d2, d3, r1, r2⟩ := hE
  have hr : iw_rm e H := by have := hJ.1; exact ⟨by omega, by omega⟩
  have f0 := lf2 H (bl x 1987)
  have iS0 := iS.c (H.1 + 1) H.2.2
  have rS0 := rS.c (H.1 + 1) H.2.2
  refine ct_Ioutput (D + 98) hG iE iS (jD_i hE' hJ (lf0 (mz_fr.refl H _)) ?_)
  exact cm_output (D + 98) hG rE rS ⟨rfl, lX1 hE' hJ rS hv hT (lf0 (mz_fr.refl H _)) iS 0⟩
set_option maxRecDepth 100000 in
theorem jn_entry (D : Nat) {i j k : Int} (hG : mx_G e.1) (hE : lE e x y w b L) (hI : lI e x y b B N H) (hN : N ≤ 600) (hj : mz_in j) : mz_CA e (D + 99) j_I_entry [.inr (.inl x), .inl i, .inl j, .inl k] H (jD e (D + 99) b B j_M_entry [.inr (.inl y), .inl i, .inl j, .inl k] (lI e x y b B (N + 1))) := by
  obtain ⟨p, n, o, a, g, t, l, v, X, z, iS, rS, hv, hT, hJ⟩ := hI
  have hE' := hE
  obtain ⟨iE, rE, kw, kb, d1, d2, d3, r1, r2⟩ := hE
  have hr : iw_rm e H := by have := hJ.1; exact ⟨by omega, by omega⟩
  have f0 := lf2 H (bl x 1987)
  have iS0 := iS.c (H.1 + 1) H.2.2
  have rS0 := rS.c (H.1 + 1) H.2.2
  refine ct_Ientry (D + 97) hG iE iS hj (jD_i hE' hJ (lf0 (mz_fr.refl H _)) ?_)
  exact cm_entry (D + 98) hG rE rS hj ⟨rfl, lX1 hE' hJ rS hv hT (lf0 (mz_fr.refl H _)) iS 0⟩
set_option maxRecDepth 100000 in
theorem jn_zero (D : Nat) {k u : Int} (hG : mx_G e.1) (hE : lE e x y w b L) (hI : lI e x y b B N H) (hN : N ≤ 600) : mz_CA e (D + 99) j_I_zero [.inr (.inl x), .inl k, .inl u] H (jD e (D + 99) b B j_M_zero [.inr (.inl y), .inl k, .inl u] (lI e x y b B (N + 1))) := by
  obtain ⟨p, n, o, a, g, t, l, v, X, z, iS, rS, hv, hT, hJ⟩ := hI
  have hE' := hE
  obtain ⟨iE, rE, kw, kb, d1, d2, d3, r1, r2⟩ := hE
  have hr : iw_rm e H := by have := hJ.1; exact ⟨by omega, by omega⟩
  have f0 := lf2 H (bl x 1987)
  have iS0 := iS.c (H.1 + 1) H.2.2
  have rS0 := rS.c (H.1 + 1) H.2.2
  refine ct_Izero (D + 98) hG iE iS (jD_i hE' hJ (lf0 (mz_fr.refl H _)) ?_)
  exact cm_zero (D + 98) hG rE rS ⟨rfl, lX1 hE' hJ rS hv hT (lf0 (mz_fr.refl H _)) iS 0⟩
set_option maxRecDepth 100000 in
theorem jn_proved (D : Nat) (hG : mx_G e.1) (hE : lE e x y w b L) (hI : lI e x y b B N H) (hN : N ≤ 600) : mz_CA e (D + 99) j_I_proved [.inr (.inl x)] H (jD e (D + 99) b B j_M_proved [.inr (.inl y)] (lI e x y b B (N + 1))) := by
  obtain ⟨p, n, o, a, g, t, l, v, X, z, iS, rS, hv, hT, hJ⟩ := hI
  have hE' := hE
  obtain ⟨iE, rE, kw, kb, d1, d2, d3, r1, r2⟩ := hE
  have hr : iw_rm e H := by have := hJ.1; exact ⟨by omega, by omega⟩
  have f0 := lf2 H (bl x 1987)
  have iS0 := iS.c (H.1 + 1) H.2.2
  have rS0 := rS.c (H.1 + 1) H.2.2
  refine ct_Iproved (D + 99) hG iE iS (jD_i hE' hJ (lf0 (mz_fr.refl H _)) ?_)
  exact cm_proved (D + 99) hG rE rS ⟨rfl, lX1 hE' hJ rS hv hT (lf0 (mz_fr.refl H _)) iS 0⟩
set_option maxRecDepth 100000 in
theorem jn_print (D : Nat) {i : Int} (hG : mx_G e.1) (hE : lE e x y w b L) (hI : lI e x y b B N H) (hN : N ≤ 600) : mz_CA e (D + 99) j_W_print [.inr (.inl x), .inl i, .inr (.inl w)] H (jB e (D + 99) y b B w j_M_print [.inr (.inl y), .inl i] (lI e x y b B (N + 1))) := by
  obtain ⟨p, n, o, a, g, t, l, v, X, z, iS, rS, hv, hT, hJ⟩ := hI
  have hE' := hE
  obtain ⟨iE, rE, kw, kb, d1, d2, d3, r1, r2⟩ := hE
  have hr : iw_rm e H := by have := hJ.1; exact ⟨by omega, by omega⟩
  have f0 := lf2 H (bl x 1987)
  have iS0 := iS.c (H.1 + 1) H.2.2
  have rS0 := rS.c (H.1 + 1) H.2.2
  refine ww_print (D + 98) hG iE.1.1 kw ?_
  refine ct_Iprint (D + 94) hG iE iS hr (fun q => wB_x (k := 1) rfl (by decide) (jB_i hE' hJ f0 ?_)) (fun h k e1 k1 fr iS' => wB_n (jB_i hE' hJ (lfj fr) ?_))
  · refine cm_print (D + 97) hG rE rS0 (fun _ => ⟨0, rfl, lw1 _ _ _, lX1 hE' hJ rS hv hT f0 iS0 1, fun q => absurd q (by decide)⟩) (fun h k e1 k1 _ _ _ => absurd (by omega) q)
  · refine cm_print (D + 97) hG rE (lr rS (lfj fr) d1) (fun q => absurd (by omega) q) (fun h2 k' e1' _ fr2 t0 hS => ?_)
    obtain rfl : k' = k := by omega
    exact ⟨_, rfl, t0, lI_mk hE' hJ (lfj fr) fr2 (iS'.c _ _) hS (by omega) hT, fun _ => by rw [fr2.2.1, wj1]⟩
set_option maxRecDepth 100000 in
theorem jn_clear (D : Nat) {i : Int} (hG : mx_G e.1) (hE : lE e x y w b L) (hI : lI e x y b B N H) (hN : N ≤ 600) : mz_CA e (D + 99) j_W_clear [.inr (.inl x), .inl i] H (jA e (D + 99) y b B j_M_clear [.inr (.inl y), .inl i] (lI e x y b B (N + 1))) := by
  obtain ⟨p, n, o, a, g, t, l, v, X, z, iS, rS, hv, hT, hJ⟩ := hI
  have hE' := hE
  obtain ⟨iE, rE, kw, kb, d1, d2, d3, r1, r2⟩ := hE
  have hr : iw_rm e H := by have := hJ.1; exact ⟨by omega, by omega⟩
  have f0 := lf2 H (bl x 1987)
  have iS0 := iS.c (H.1 + 1) H.2.2
  have rS0 := rS.c (H.1 + 1) H.2.2
  refine ww_clear (D + 98) hG iE.1.1 ?_
  refine ct_Iclear (D + 96) hG iE iS hr (fun q => wA_x (k := 1) rfl (by decide) (jA_i hE' hJ f0 ?_)) (fun h I e1 I1 fr iS' => wA_n (jA_i hE' hJ (lf0 fr) ?_))
  · refine cm_clear (D + 97) hG rE rS0 (fun _ => ⟨rfl, lw1 _ _ _, lX1 hE' hJ rS hv hT f0 iS0 1⟩) (fun h I e1 I1 _ _ _ => absurd (by omega) q)
  · refine cm_clear (D + 97) hG rE (lr rS (lf0 fr) d1) (fun q => absurd (by omega) q) (fun h2 I' e1' _ fr2 t0 hS => ?_)
    obtain rfl : I' = I := by omega
    exact ⟨rfl, t0, lI_mk hE' hJ (lf0 fr) fr2 iS' hS (by omega) hT⟩
set_option maxRecDepth 100000 in
theorem jn_join (D : Nat) {i k : Int} (hG : mx_G e.1) (hE : lE e x y w b L) (hI : lI e x y b B N H) (hN : N ≤ 600) : mz_CA e (D + 99) j_W_join [.inr (.inl x), .inl i, .inl k, .inr (.inl w)] H (jB e (D + 99) y b B w j_M_join [.inr (.inl y), .inl i, .inl k] (lI e x y b B (N + 1))) := by
  obtain ⟨p, n, o, a, g, t, l, v, X, z, iS, rS, hv, hT, hJ⟩ := hI
  have hE' := hE
  obtain ⟨iE, rE, kw, kb, d1, d2, d3, r1, r2⟩ := hE
  have hr : iw_rm e H := by have := hJ.1; exact ⟨by omega, by omega⟩
  have f0 := lf2 H (bl x 1987)
  have iS0 := iS.c (H.1 + 1) H.2.2
  have rS0 := rS.c (H.1 + 1) H.2.2
  refine ww_join (D + 98) hG iE.1.1 kw ?_
  refine ct_Ijoin (D + 96) hG iE iS hr (fun q => wB_x (k := 1) rfl (by decide) (jB_i hE' hJ f0 ?_)) (fun K hi e2 K1 ht => wB_x (k := 2) rfl (by decide) (jB_i hE' hJ f0 ?_)) (fun I K e1 I1 e2 K1 ht hg => wB_x (k := 3) rfl (by decide) (jB_i hE' hJ f0 ?_)) (fun h I K r e1 I1 e2 K1 ht hg fr hr' iS' => wB_n (jB_i hE' hJ (lfj fr) ?_))
  · refine cm_join (D + 97) hG rE rS0 (fun _ => ⟨0, rfl, lw1 _ _ _, lX1 hE' hJ rS hv hT f0 iS0 1, fun q => absurd q (by decide)⟩) (fun K hi e2 K1 ht => absurd (by omega) q) (fun I K e1 I1 e2 K1 ht hg => absurd (by omega) q) (fun h I K e1 I1 e2 K1 _ _ _ _ _ => absurd (by omega) q)
  · refine cm_join (D + 97) hG rE rS0 (fun q => absurd (by omega) q) (fun K hi e2 K1 ht => ⟨0, rfl, lw1 _ _ _, lX1 hE' hJ rS hv hT f0 iS0 2, fun q => absurd q (by decide)⟩) (fun I K' e1 I1 e2' _ ht' hg => ?_) (fun h I K' e1 I1 e2' _ ht' _ _ _ _ => ?_)
    · obtain rfl : K' = K := by omega
      exact absurd ht ht'
    · obtain rfl : K' = K := by omega
      exact absurd ht ht'
  · refine cm_join (D + 97) hG rE rS0 (fun q => absurd (by omega) q) (fun K' hi e2' _ ht' => ?_) (fun I K e1 I1 e2 K1 ht hg => ⟨0, rfl, lw1 _ _ _, lX1 hE' hJ rS hv hT f0 iS0 3, fun q => absurd q (by decide)⟩) (fun h I' K' e1' _ e2' _ _ hg' _ _ _ => ?_)
    · obtain rfl : K' = K := by omega
      exact absurd ht' ht
    · obtain rfl : I' = I := by omega
      omega
  · refine cm_join (D + 97) hG rE (lr rS (lfj fr) d1) (fun q => absurd (by omega) q) (fun K' hi e2' _ ht' => ?_) (fun I' K' e1' _ e2' _ ht' hg' => ?_) (fun h2 I' K' e1' _ e2' _ _ hg' fr2 t0 hS => ?_)
    · obtain rfl : K' = K := by omega
      exact absurd ht' ht
    · obtain rfl : I' = I := by omega
      omega
    · obtain rfl : I' = I := by omega
      obtain rfl : K' = K := by omega
      exact ⟨_, rfl, t0, lI_mk hE' hJ (lfj fr) fr2 (iS'.c _ _) (hS r hr') (by omega) hT, fun _ => by rw [fr2.2.1, wj1]⟩
end JOINT
