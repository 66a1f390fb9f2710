def cu (f : Nat → Int) (j : Nat) : Int := if j < 126 then f j else 0
theorem cu_1 {f : Nat → Int} {j : Nat} (h : j < 126) : cu f j = f j := if_pos h
theorem cu_c {f g : Nat → Int} (h : ∀ j, j < 126 → f j = g j) : cu f = cu g := by
  funext j
  unfold cu
  by_cases hj : j < 126
  · rw [if_pos hj, if_pos hj, h j hj]
  · rw [if_neg hj, if_neg hj]
def rs_R (p : Int) (M : Nat) (rw' : Nat → Nat → Int) (f : Nat → Int) : Prop := al_R p (fun k => k < M) (fun k => cu (rw' k)) f
theorem rs_m {p : Int} {M M' : Nat} {rw' rw'' : Nat → Nat → Int} (hM : M ≤ M') (h : ∀ k, k < M → ∀ j, j < 126 → rw'' k j = rw' k j) {f : Nat → Int} (hf : rs_R p M rw' f) : rs_R p M' rw'' f := by
  refine al_R_mono (fun k hk => ⟨by omega, fun i => al_e_of ?_⟩) hf
  exact (congrFun (cu_c (h k hk)) i).symm
def sG (n o d gm : Nat) (gen : Nat → Nat → Int) (g : Nat → Int) : Prop := ∃ i, i < gm ∧ sp_deg n o (gen i) ≤ d ∧ g = cu (gen i)
theorem sp_deg_z {n o d : Nat} (hok : tb_ok n o) (hd : d ≤ tb_h n) {p : Int} {f : Nat → Int} (hf : pl p n f) (h : sp_deg n o f ≤ d) {j : Nat} (hj : tb_F n (d + 1) ≤ j) (hj2 : j < 126) : f j = 0 := by
  by_cases hjN : j < tb_N n
  · refine Classical.byContradiction (fun hz => ?_)
    have h1 := sp_deg_b hok hjN hz
    have h2 := (tb_F_i hok (d := d + 1) (by omega) hjN).mpr (by omega)
    omega
  · exact (hf j hj2).2 (by omega)
theorem sG_z {n o d gm : Nat} (hok : tb_ok n o) (hd : d ≤ tb_h n) {p : Int} {gen : Nat → Nat → Int} (hg : ∀ i, i < gm → pl p n (gen i)) : ∀ g j, sG n o d gm gen g → tb_F n (d + 1) ≤ j → al_e p (g j) 0 := by
  rintro g j ⟨i, h1, h2, rfl⟩ hj
  unfold cu
  by_cases hj2 : j < 126
  · rw [if_pos hj2, sp_deg_z hok hd (hg i h1) h2 hj hj2]; exact al_e_r _ _
  · rw [if_neg hj2]; exact al_e_r _ _
theorem rs_S {p : Int} {M : Nat} {rw' : Nat → Nat → Int} {w0 sh : Nat → Int} (h : ∀ j, j < 126 → al_e p (w0 j) (al_S M (fun k => sh k * rw' k j))) : rs_R p M rw' (cu w0) := by
  have hL := al_R_L p (fun k => k < M) (fun k => cu (rw' k))
  refine hL.2.1 _ _ (al_L_S hL M sh (fun k => cu (rw' k)) (fun l hl => Or.inr (al_R_r hl))) (fun j => ?_)
  by_cases hj : j < 126
  · rw [cu_1 hj]
    refine al_e_t (h j hj) (al_e_of (al_S_c (fun k _ => ?_)))
    rw [cu_1 hj]
  · unfold cu
    rw [if_neg hj]
    refine al_e_s (al_e_of (al_S_z (fun k _ => ?_)))
    rw [if_neg hj, Int.mul_zero]
theorem al_iv {p : Int} (hp2 : 2 ≤ p) (hpr : al_pr p.toNat) {x iv : Int} (h0 : 0 ≤ x) (h1 : x < p) (hx : x ≠ 0) (hiv : iv = x ^ (p - 2).toNat % p) : al_e p (iv * x) 1 := by
  have hp0 : ((p.toNat : Nat) : Int) = p := by omega
  have hinv := al_inv_e (p := p.toNat) (a := x) hpr (by omega) (by omega)
  rw [hp0] at hinv
  refine al_e_t (al_e_m ?_ (al_e_r p _)) hinv
  rw [hiv, show (p - 2).toNat = p.toNat - 2 by omega]
  exact al_e_q p _
theorem rs_N {p : Int} (hp2 : 2 ≤ p) (hpr : al_pr p.toNat) {n d M m : Nat} (hm : m < 126) {rw' rw'' : Nat → Nat → Int} {w0 w sh : Nat → Int} (hW : se_W p n d M rw' w0 w sh) (hwm : w m ≠ 0) {iv : Int} (hiv : iv = w m ^ (p - 2).toNat % p)
    (hr : ∀ k, k < M → ∀ j, j < 126 → rw'' k j = rw' k j) (hn : ∀ j, j < 126 → rw'' M j = iv * w j % p) : rs_R p (M + 1) rw'' (cu w0) := by
  have hi := al_iv hp2 hpr (hW.1 m hm).1 (hW.1 m hm).2.1 hwm hiv
  refine rs_S (sh := fun k => if k = M then w m else sh k) (fun j hj => ?_)
  refine al_e_t (hW.2.1 j hj) ?_
  rw [al_S_s, if_pos rfl, Int.add_comm]
  refine al_e_a (al_e_of (al_S_c (fun k hk => ?_))) ?_
  · rw [if_neg (by omega), hr k hk j hj]
  · rw [hn j hj]
    refine al_e_s (al_e_t (al_e_m (al_e_r p _) (al_e_q p _)) ?_)
    refine al_e_t (al_e_of ?_) (al_e_t (al_e_m hi (al_e_r p (w j))) (al_e_of ?_)) <;> grind
theorem sv_N {p : Int} {n o d M : Nat} {G : (Nat → Int) → Prop} {rw' : Nat → Nat → Int} {w0 w sh : Nat → Int} (hW : se_W p n d M rw' w0 w sh) (h0 : sV p n o d G (cu w0)) (hr : ∀ k, k < M → sV p n o d G (cu (rw' k))) (iv : Int) {nr : Nat → Int}
    (hn : ∀ j, j < 126 → nr j = iv * w j % p) : sV p n o d G (cu nr) := by
  have hL := al_V_L p G (fun v => al_up (tb_N n) (tb_T n o) (tb_x v)) n (tb_F n d)
  have h1 := al_L_S hL M sh (fun k => cu (rw' k)) (fun l hl => Or.inr (hr l hl))
  have h2 := al_L_m hL iv (al_L_d hL h0 h1)
  refine hL.2.1 _ _ h2 (fun j => ?_)
  by_cases hj : j < 126
  · simp only [cu_1 hj]
    rw [hn j hj]
    refine al_e_t (al_e_q p _) (al_e_m (al_e_r p _) ?_)
    have h3 := al_e_d (hW.2.1 j hj) (al_e_r p (al_S M (fun k => sh k * rw' k j)))
    exact al_e_s (al_e_t h3 (al_e_of (by omega)))
  · unfold cu
    simp only [if_neg hj]
    rw [al_S_z (fun k _ => Int.mul_zero _)]
    exact al_e_of (by omega)
def se_L (M : Nat) (ld : Nat → Nat) (l : Nat) : Prop := ∃ k, k < M ∧ ld k = l
def se_r (H : mz_H) (s l : Nat) : Nat → Int := cu (H.2.1 (s + 2 + (H.2.1 (s + 129) l).toNat))
theorem se_r_k {H : mz_H} {s : Nat} {p : Int} {n d M : Nat} {ld : Nat → Nat} (hs : se_R H s p n d M ld) {k : Nat} (hk : k < M) : se_r H s (ld k) = cu (H.2.1 (s + 2 + k)) := by
  unfold se_r
  rw [(hs.2.2.1 k hk).2.2.1, Int.toNat_natCast]
theorem se_ec {H : mz_H} {s : Nat} {p : Int} {n d M : Nat} {ld : Nat → Nat} (hs : se_R H s p n d M ld) (hE : tb_F n (d + 1) ≤ 126) : al_ec p (tb_F n (d + 1)) (se_L M ld) (se_r H s) := by
  rintro l ⟨k, hk, rfl⟩
  obtain ⟨l1, l2, l3, l4, l5, l6⟩ := hs.2.2.1 k hk
  rw [se_r_k hs hk]
  refine ⟨l1, ?_, fun j hj => ?_⟩
  · rw [cu_1 (by omega), l5]; exact al_e_r _ _
  · unfold cu
    by_cases hj2 : j < 126
    · rw [if_pos hj2, l6 j hj hj2]; exact al_e_r _ _
    · rw [if_neg hj2]; exact al_e_r _ _
theorem se_R_i {H : mz_H} {s : Nat} {p : Int} {n d M : Nat} {ld : Nat → Nat} (hs : se_R H s p n d M ld) (f : Nat → Int) : al_R p (se_L M ld) (se_r H s) f ↔ rs_R p M (fun k => H.2.1 (s + 2 + k)) f := by
  constructor
  · intro hf S hS hr
    refine hf S hS ?_
    rintro l ⟨k, hk, rfl⟩
    rw [se_r_k hs hk]
    exact hr k hk
  · intro hf S hS hr
    refine hf S hS (fun k hk => ?_)
    show S (cu (H.2.1 (s + 2 + k)))
    rw [← se_r_k hs hk]
    exact hr (ld k) ⟨k, hk, rfl⟩
theorem se_inj {H : mz_H} {s : Nat} {p : Int} {n d M : Nat} {ld : Nat → Nat} (hs : se_R H s p n d M ld) : ∀ i j, i < M → j < M → ld i = ld j → i = j := by
  intro i j hi hj hij
  have a1 := (hs.2.2.1 i hi).2.2.1
  have a2 := (hs.2.2.1 j hj).2.2.1
  rw [hij, a2] at a1
  omega
theorem se_V {H : mz_H} {s : Nat} {p : Int} {n o d M : Nat} {ld : Nat → Nat} (hok : tb_ok n o) (hd : d ≤ tb_h n) (hs : se_R H s p n d M ld) {G : (Nat → Int) → Prop} (hV : ∀ k, k < M → sV p n o d G (cu (H.2.1 (s + 2 + k)))) (hz : ∀ g j, G g → tb_F n (d + 1) ≤ j → al_e p (g j) 0)
    (hG : ∀ g, G g → rs_R p M (fun k => H.2.1 (s + 2 + k)) g)
    (hU : M = tb_F n (d + 1) ∨ ∀ k v, k < M → v < n → al_dg (tb_T n o (ld k)) < d → rs_R p M (fun k => H.2.1 (s + 2 + k)) (al_up (tb_N n) (tb_T n o) (tb_x v) (cu (H.2.1 (s + 2 + k))))) {f : Nat → Int} (hf : sV p n o d G f) : rs_R p M (fun k => H.2.1 (s + 2 + k)) f := by
  have hEN := tb_F_N hok (d := d + 1) (by omega)
  have hN := tb_N_b n
  have hec := se_ec hs (by omega)
  refine (se_R_i hs f).mp (al_V_R hec (al_up_Ul p (tb_N n) (tb_T n o) tb_x) (fun g hg => (se_R_i hs g).mpr (hG g hg)) ?_ hf)
  rintro l v ⟨k, hk, rfl⟩ hl hv
  rcases hU with hM | hU
  · refine al_R_all hec (fun l hl => ?_) (tb_F n (d + 1)) _ (Nat.le_refl _) (fun j hj => ?_)
    · obtain ⟨k', h1, h2⟩ := ph_su (M := M) (f := ld) (fun k hk => by have := (hs.2.2.1 k hk).1; omega) (se_inj hs) l (by omega)
      exact ⟨k', h1, h2⟩
    · rw [se_r_k hs hk]
      have hVk : sV p n o d G (al_up (tb_N n) (tb_T n o) (tb_x v) (cu (H.2.1 (s + 2 + k)))) := by
        refine al_V_u (U := fun v => al_up (tb_N n) (tb_T n o) (tb_x v)) hv (hV k hk) (fun j hj => ?_)
        have := (hec (ld k) ⟨k, hk, rfl⟩).2.2 j (by omega)
        rw [se_r_k hs hk] at this
        exact this
      exact sV_N hok hd hz hVk j hj
  · refine (se_R_i hs _).mpr ?_
    show rs_R p M _ (al_up (tb_N n) (tb_T n o) (tb_x v) (se_r H s (ld k)))
    rw [se_r_k hs hk]
    refine hU k v hk hv ?_
    have h1 := (hs.2.2.1 k hk).1
    exact (tb_F_i hok (by omega) (show ld k < tb_N n by omega)).mp hl
