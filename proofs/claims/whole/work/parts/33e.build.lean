def se_1 (H : mz_H) (s : Nat) (p : Int) (n o d : Nat) (ld : Nat → Nat) (gm : Nat) (gen : Nat → Nat → Int) (k : Nat) : Prop :=
  ((∃ g, g < gm ∧ H.2.1 (s + 130) k = -1 - (g : Int) ∧ sp_deg n o (gen g) ≤ d ∧ ∀ j, j < 126 → al_e p (H.2.1 (s + 2 + k) j) (H.2.1 (s + 258) k * (gen g j - al_S k (fun t => H.2.1 (s + 132 + k) t * H.2.1 (s + 2 + t) j)))) ∨
   (∃ k' v, k' < k ∧ v < n ∧ H.2.1 (s + 130) k = ((k' * 4 + v : Nat) : Int) ∧ al_dg (tb_T n o (ld k')) < d ∧ ∀ j, j < 126 → al_e p (H.2.1 (s + 2 + k) j) (H.2.1 (s + 258) k * (al_up (tb_N n) (tb_T n o) (tb_x v) (H.2.1 (s + 2 + k')) j - al_S k (fun t => H.2.1 (s + 132 + k) t * H.2.1 (s + 2 + t) j))))) ∧
  (0 ≤ H.2.1 (s + 258) k ∧ H.2.1 (s + 258) k < p) ∧ ∀ t, t < 126 → 0 ≤ H.2.1 (s + 132 + k) t ∧ H.2.1 (s + 132 + k) t < p
def se_B (H : mz_H) (s : Nat) (p : Int) (n o d M : Nat) (ld : Nat → Nat) (gm : Nat) (gen : Nat → Nat → Int) : Prop :=
  se_R H s p n d M ld ∧ (∀ k, k < M → se_1 H s p n o d ld gm gen k) ∧ (∀ k, k < M → sV p n o d (sG n o d gm gen) (cu (H.2.1 (s + 2 + k))))
theorem al_up_c {N : Nat} {T : Nat → al_M} {x : al_M} {f g : Nat → Int} (hN : N ≤ 126) (h : ∀ j, j < 126 → f j = g j) (j : Nat) : al_up N T x f j = al_up N T x g j := by
  unfold al_up
  by_cases hj : j < N
  · rw [if_pos hj, if_pos hj]
    refine al_S_c (fun i hi => ?_)
    split
    · exact h i (by omega)
    · rfl
  · rw [if_neg hj, if_neg hj]
theorem se_1.k {H h : mz_H} {s : Nat} {p : Int} {n o d : Nat} {ld ld' : Nat → Nat} {gm : Nat} {gen : Nat → Nat → Int} {k : Nat} (hs : se_1 H s p n o d ld gm gen k) (hr : ∀ t, t ≤ k → ∀ j, h.2.1 (s + 2 + t) j = H.2.1 (s + 2 + t) j) (hc : ∀ t, h.2.1 (s + 132 + k) t = H.2.1 (s + 132 + k) t) (h8 : h.2.1 (s + 258) k = H.2.1 (s + 258) k) (h3 : h.2.1 (s + 130) k = H.2.1 (s + 130) k) (hl : ∀ t, t < k → ld' t = ld t) : se_1 h s p n o d ld' gm gen k := by
  have hS : ∀ j, al_S k (fun t => h.2.1 (s + 132 + k) t * h.2.1 (s + 2 + t) j) = al_S k (fun t => H.2.1 (s + 132 + k) t * H.2.1 (s + 2 + t) j) := fun j => al_S_c (fun t ht => by rw [hc, hr t (by omega)])
  obtain ⟨h1, h2, h4⟩ := hs
  refine ⟨?_, by rw [h8]; exact h2, fun t ht => by rw [hc]; exact h4 t ht⟩
  rcases h1 with ⟨g, a, b, c, dd⟩ | ⟨k', v, a, b, c, dd, ee⟩
  · exact Or.inl ⟨g, a, by rw [h3]; exact b, c, fun j hj => by rw [hr k (Nat.le_refl _), h8, hS]; exact dd j hj⟩
  · refine Or.inr ⟨k', v, a, b, by rw [h3]; exact c, by rw [hl k' a]; exact dd, fun j hj => ?_⟩
    have : h.2.1 (s + 2 + k') = H.2.1 (s + 2 + k') := funext (hr k' (by omega))
    rw [hr k (Nat.le_refl _), h8, hS, this]
    exact ee j hj
/- one more source taken in -/
set_option maxRecDepth 100000 in
theorem ct_take {e : mz_E} (d0 : Nat) {s r : Nat} {p src : Int} {n o d M gm : Nat} {ld : Nat → Nat} {gen : Nat → Nat → Int} {H : mz_H} {P : mz_O → mz_H → Prop} (hG : mx_G e.1) (hR : rg_E e r) (hE : sa_E e s) (hok : tb_ok n o) (hd : d ≤ tb_h n) (hp2 : 2 ≤ p ∧ p < 32768) (hpr : al_pr p.toNat)
    (hS : rg_S H r p n o) (hB : se_B H s p n o d M ld gm gen) (hrs : ∀ i j, i ≤ 10 → j ≤ 260 → r + i ≠ s + j) (hw : ∀ j, j < 126 → 0 ≤ H.2.1 (s + 259) j ∧ H.2.1 (s + 259) j < p ∧ (tb_F n (d + 1) ≤ j → H.2.1 (s + 259) j = 0))
    (hv : sV p n o d (sG n o d gm gen) (cu (H.2.1 (s + 259))))
    (hsrc : (∃ g, g < gm ∧ src = -1 - (g : Int) ∧ sp_deg n o (gen g) ≤ d ∧ ∀ j, j < 126 → H.2.1 (s + 259) j = gen g j) ∨ (∃ k' v, k' < M ∧ v < n ∧ src = ((k' * 4 + v : Nat) : Int) ∧ al_dg (tb_T n o (ld k')) < d ∧ ∀ j, j < 126 → H.2.1 (s + 259) j = al_up (tb_N n) (tb_T n o) (tb_x v) (H.2.1 (s + 2 + k')) j))
    (hP : ∀ h M' ld', mz_fr H h (bl s 261) → M ≤ M' → (∀ k, k < M → ld' k = ld k) → (∀ k, k < M → ∀ j, h.2.1 (s + 2 + k) j = H.2.1 (s + 2 + k) j) → h.2.1 s 2 = H.2.1 s 2 → se_B h s p n o d M' ld' gm gen → rs_R p M' (fun k => h.2.1 (s + 2 + k)) (cu (H.2.1 (s + 259))) → P (.inl none) h) :
    mz_CA e (d0 + 4) j_Space_takeIn [.inr (.inl s), .inr (.inl r), .inl src] H P := by
  have hEN := Nat.le_trans (tb_F_N hok (d := d + 1) (by omega)) (tb_N_b n)
  have hM126 := Nat.le_trans hB.1.2.1 hEN
  refine ct_takeIn d0 hG hR hE hok hd hp2 hS hB.1 hrs hw (fun h f1 hz => ?_) (fun h m w iv f1 hM hm hnl hW hwm hz hiv hsR hrow h8 h3 hN => ?_) hpr
  · have e1 : ∀ c, c ≠ s + 259 → c ≠ s + 260 → h.2.1 c = H.2.1 c := fun c a b => f1.2.2 c (by simp; exact ⟨a, b⟩)
    have er : ∀ k, k < M → ∀ j, h.2.1 (s + 2 + k) j = H.2.1 (s + 2 + k) j := fun k hk j => by rw [e1 _ (by omega) (by omega)]
    refine hP h M ld (f1.mono (fun c hc => by rw [bl_m]; simp at hc; omega)) (Nat.le_refl _) (fun _ _ => rfl) er (by rw [e1 _ (by omega) (by omega)]) ⟨?_, fun k hk => ?_, fun k hk => ?_⟩ ?_
    · exact hB.1.fr f1 (fun i hi => by simp; omega) hM126
    · exact (hB.2.1 k hk).k (fun t ht j => er t (by omega) j) (fun t => by rw [e1 _ (by omega) (by omega)]) (by rw [e1 _ (by omega) (by omega)]) (by rw [e1 _ (by omega) (by omega)]) (fun _ _ => rfl)
    · rw [show h.2.1 (s + 2 + k) = H.2.1 (s + 2 + k) from funext (er k hk)]
      exact hB.2.2 k hk
    · refine rs_S (sh := h.2.1 (s + 260)) (fun j hj => al_e_t (hz j hj) (al_e_of (al_S_c (fun k hk => ?_))))
      rw [er k hk]
  · have e1 : ∀ c, c ≠ s → c ≠ s + 128 → c ≠ s + 129 → c ≠ s + 130 → c ≠ s + 258 → c ≠ s + 259 → c ≠ s + 260 → c ≠ s + 2 + M → c ≠ s + 132 + M → h.2.1 c = H.2.1 c := fun c a1 a2 a3 a4 a5 a6 a7 a8 a9 => f1.2.2 c (by simp; exact ⟨a1, a2, a3, a4, a5, a6, a7, a8, a9⟩)
    have er : ∀ k, k < M → ∀ j, h.2.1 (s + 2 + k) j = H.2.1 (s + 2 + k) j := fun k hk j => by rw [e1 _ (by omega) (by omega) (by omega) (by omega) (by omega) (by omega) (by omega) (by omega) (by omega)]
    have hvn : sV p n o d (sG n o d gm gen) (cu (h.2.1 (s + 2 + M))) := sv_N hW hv (fun k hk => hB.2.2 k hk) iv hrow
    have hsum : ∀ j, j < 126 → al_e p (h.2.1 (s + 2 + M) j) (iv * (H.2.1 (s + 259) j - al_S M (fun t => h.2.1 (s + 132 + M) t * h.2.1 (s + 2 + t) j))) := by
      intro j hj
      rw [hrow j hj, al_S_c (g := fun t => h.2.1 (s + 132 + M) t * H.2.1 (s + 2 + t) j) (fun t ht => by rw [er t ht])]
      refine al_e_t (al_e_q p _) (al_e_m (al_e_r p _) ?_)
      have h6 : al_e p (H.2.1 (s + 259) j) (w j + al_S M (fun t => h.2.1 (s + 132 + M) t * H.2.1 (s + 2 + t) j)) := hW.2.1 j hj
      have h5 := al_e_d h6 (al_e_r p (al_S M (fun t => h.2.1 (s + 132 + M) t * H.2.1 (s + 2 + t) j)))
      exact al_e_s (al_e_t h5 (al_e_of (by omega)))
    refine hP h (M + 1) (fun k => if k = M then m else ld k) (f1.mono (fun c hc => by rw [bl_m]; simp at hc; omega)) (by omega) (fun k hk => if_neg (by omega)) er hN.2.2 ⟨hsR, fun k hk => ?_, fun k hk => ?_⟩ ?_
    · by_cases hkM : k = M
      · subst hkM
        refine ⟨?_, ?_, fun t ht => ⟨(hW.2.2 t ht).1, (hW.2.2 t ht).2.1⟩⟩
        · rcases hsrc with ⟨g, a, b, c, dd⟩ | ⟨k', v, a, b, c, dd, ee⟩
          · refine Or.inl ⟨g, a, by rw [h3, b], c, fun j hj => ?_⟩
            have := hsum j hj
            rw [dd j hj] at this
            rw [h8]
            exact this
          · refine Or.inr ⟨k', v, a, b, by rw [h3, c], by show al_dg (tb_T n o (if k' = k then m else ld k')) < d; rw [if_neg (by omega)]; exact dd, fun j hj => ?_⟩
            have := hsum j hj
            rw [ee j hj] at this
            rw [h8, show h.2.1 (s + 2 + k') = H.2.1 (s + 2 + k') from funext (er k' a)]
            exact this
        · rw [h8, hiv]
          exact ⟨Int.emod_nonneg _ (by omega), Int.emod_lt_of_pos _ (by omega)⟩
      · refine (hB.2.1 k (by omega)).k (fun t ht j => er t (by omega) j) (fun t => ?_) (hN.1 k hkM) (hN.2.1 k hkM) (fun t ht => if_neg (by omega))
        rw [e1 _ (by omega) (by omega) (by omega) (by omega) (by omega) (by omega) (by omega) (by omega) (by omega)]
    · by_cases hkM : k = M
      · rw [hkM]; exact hvn
      · rw [show h.2.1 (s + 2 + k) = H.2.1 (s + 2 + k) from funext (er k (by omega))]
        exact hB.2.2 k (by omega)
    · exact rs_N hp2.1 hpr (by omega) hW hwm hiv (fun k hk j _ => er k hk j) hrow
