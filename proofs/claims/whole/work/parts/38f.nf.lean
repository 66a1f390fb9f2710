/- what is used of normal forms: standard monomials stand for themselves; products; support; rows of the space vanish -/
def nf_A (p : Int) (n o : Nat) (l : List al_M) (St : al_M → Prop) (N : Nat) (V : (Nat → Int) → Prop) (nf : al_M → al_M → Int) : Prop :=
  (∀ m s, St m → nf m s = if s = m then 1 else 0) ∧
  (∀ m y s, tb_v n m → al_e p (nf (al_p m y) s) (al_S l.length (fun k => nf m (fg_B l k) * nf (al_p (fg_B l k) y) s))) ∧
  (∀ m s, ¬ al_e p (nf m s) 0 → s = m ∨ al_lt o s m) ∧
  (∀ g s, V g → al_e p (al_S N (fun j => g j * nf (tb_T n o j) s)) 0)
theorem al_e_Sx {p : Int} {n : Nat} {f : Nat → Int} (h : ¬ al_e p (al_S n f) 0) : ∃ j, j < n ∧ ¬ al_e p (f j) 0 := by
  refine Classical.byContradiction (fun hn => h (al_e_S0 (fun j hj => ?_)))
  refine Classical.byContradiction (fun hq => hn ⟨j, hj, hq⟩)
theorem al_nm_sp {p : Int} {N : Nat} {T : Nat → al_M} {lt : al_M → al_M → Prop} (hw : WellFounded lt) {C : Nat → Prop} {r : Nat → Nat → Int}
    (hd : ∀ a b c, lt a b → lt (al_p a c) (al_p b c)) (htr : ∀ a b c, lt a b → lt b c → lt a c) (hT : ∀ i j, i < j → j < N → lt (T i) (T j))
    (hC : ∀ c, C c → c < N ∧ al_e p (r c c) 1 ∧ ∀ j, c < j → al_e p (r c j) 0) (m s : al_M) (h : ¬ al_e p (al_nm lt hw T C r m s) 0) : s = m ∨ lt s m := by
  refine hw.induction (C := fun m => ¬ al_e p (al_nm lt hw T C r m s) 0 → s = m ∨ lt s m) m ?_ h
  intro m ih h
  by_cases hc : ∃ c, C c ∧ al_le (T c) m
  · obtain ⟨c, u, h3, h4, h6, _⟩ := al_nm_c (p := p) (N := N) hw hd hT hC hc
    rw [h6 s] at h
    have h7 : ¬ al_e p (al_S c (fun j => r c j * al_nm lt hw T C r (al_p (T j) u) s)) 0 := fun q => h (al_e_t (al_e_n q) (al_e_of (by omega)))
    obtain ⟨j, hj, h8⟩ := al_e_Sx h7
    have h9 : ¬ al_e p (al_nm lt hw T C r (al_p (T j) u) s) 0 := fun q => h8 (al_e_m0 q)
    have hlt : lt (al_p (T j) u) m := by rw [h4]; exact hd _ _ u (hT j c hj (hC c h3).1)
    rcases ih _ hlt h9 with q | q
    · right; rw [q]; exact hlt
    · right; exact htr _ _ _ q hlt
  · rw [al_nm_s hw T C r hc s] at h
    by_cases hs : s = m
    · exact Or.inl hs
    · rw [if_neg hs] at h
      exact absurd (al_e_r p 0) h
theorem al_B_V {p : Int} {N : Nat} {T : Nat → al_M} {lt : al_M → al_M → Prop} (hw : WellFounded lt) {V : (Nat → Int) → Prop} {L C : Nat → Prop} {r : Nat → Nat → Int}
    (hB : al_B p N T lt V L C r) (s w : al_M) (hN : ∃ m, ∀ j, j < N → lt (al_p (T j) w) m) (f : Nat → Int) (hf : V f) : al_e p (al_F N T (al_nm lt hw T C r) w f s) 0 := by
  obtain ⟨m, hm⟩ := hN
  exact al_B_Q hB (al_nm lt hw T C r) s m w (fun k _ c u hc hk => al_B_P hw hB s k c u hc hk) N f hf (fun j hj => hB.2.2.2.2.2.1.2.2 f j hf hj) (fun j hj _ => hm j hj)
theorem nf_ok {p : Int} {n o d : Nat} (hok : tb_ok n o) (hd : d ≤ tb_h n) {V : (Nat → Int) → Prop} {L : Nat → Prop} {r : Nat → Nat → Int} {C : Nat → Prop}
    (hB : al_B p (tb_F n (d + 1)) (tb_T n o) (al_lt o) V L C r) {l : List al_M} (hnd : ∀ i j, i < l.length → j < l.length → fg_B l i = fg_B l j → i = j)
    (hall : ∀ m, tb_v n m → (¬ ∃ c, C c ∧ al_le (tb_T n o c) m) → ∃ k, k < l.length ∧ m = fg_B l k) :
    nf_A p n o l (fun m => ¬ ∃ c, C c ∧ al_le (tb_T n o c) m) (tb_F n (d + 1)) V (al_nm (al_lt o) (al_lt_w o) (tb_T n o) C r) := by
  have hEN := tb_F_N hok (d := d + 1) (by omega)
  have hC := hB.2.2.2.2.2.2.2.1
  refine ⟨fun m s hm => al_nm_s _ _ _ _ hm s, fun m y s hm => ?_, fun m s h => al_nm_sp (p := p) _ hB.1 hB.2.1 hB.2.2.1 hC m s h, fun g s hg => ?_⟩
  · refine al_B_m (al_lt_w o) hB (K := l.length) (st := fg_B l) hnd (W := tb_v n) (fun c u j hc hj hv => ?_) hall y s m hm
    have h1 := (tb_T_b hok (show j < tb_N n by have := (hC c hc).1; omega)).2
    unfold tb_v at *
    simp only [al_p] at *
    omega
  · have h2 := al_B_V (al_lt_w o) hB s (0, 0, 0, 0) ⟨(31, 31, 31, 31), fun j hj => ?_⟩ g hg
    · exact h2
    · have h3 := (tb_T_b hok (show j < tb_N n by omega)).1
      have h4 := tb_h_b n
      show al_lt o (tb_T n o j) _
      unfold al_lt
      left
      show al_dg (tb_T n o j) < 124
      omega
/- normal forms by two sets of rows are the same ones -/
theorem al_nm_u {p : Int} {N : Nat} {T : Nat → al_M} {lt : al_M → al_M → Prop} (hw : WellFounded lt) {V : (Nat → Int) → Prop} {L C : Nat → Prop} {r r' : Nat → Nat → Int}
    (hB : al_B p N T lt V L C r) (hB' : al_B p N T lt V L C r') (hN : ∀ w, ∃ m, ∀ j, j < N → lt (al_p (T j) w) m) (m s : al_M) : al_e p (al_nm lt hw T C r m s) (al_nm lt hw T C r' m s) := by
  have hC := hB.2.2.2.2.2.2.2.1
  refine hw.induction (C := fun m => al_e p (al_nm lt hw T C r m s) (al_nm lt hw T C r' m s)) m ?_
  intro m ih
  by_cases hc : ∃ c, C c ∧ al_le (T c) m
  · obtain ⟨c, u, h3, h4, h6, _⟩ := al_nm_c (p := p) (N := N) hw hB.1 hB.2.2.1 hC hc
    obtain ⟨c1, c2, c3⟩ := hC c h3
    rw [h6 s]
    have h7 := al_B_V hw hB' s u (hN u) (r c) (hB.2.2.2.2.2.2.2.2.1 c h3)
    unfold al_F at h7
    have h8 : al_e p (al_S N (fun j => r c j * al_nm lt hw T C r' (al_p (T j) u) s)) (al_S c (fun j => r c j * al_nm lt hw T C r' (al_p (T j) u) s) + al_nm lt hw T C r' m s) := by
      have z : al_e p (al_S N (fun j => r c j * al_nm lt hw T C r' (al_p (T j) u) s)) (al_S N (fun j => if j < c + 1 then r c j * al_nm lt hw T C r' (al_p (T j) u) s else 0)) := by
        refine al_e_S (fun j _ => ?_)
        by_cases hj : j < c + 1
        · rw [if_pos hj]; exact al_e_r _ _
        · rw [if_neg hj]; exact al_e_0m (c3 j (by omega))
      refine al_e_t z ?_
      rw [al_S_x (n := c + 1) (by omega) (fun i h8 _ => if_neg (by omega)), al_S_s, if_pos (by omega)]
      refine al_e_a (al_e_of (al_S_c (fun i hi => by rw [if_pos (by omega)]))) ?_
      rw [← h4]
      exact al_e_t (al_e_m c2 (al_e_r p _)) (al_e_of (by omega))
    have h9 : al_e p (al_S c (fun j => r c j * al_nm lt hw T C r (al_p (T j) u) s)) (al_S c (fun j => r c j * al_nm lt hw T C r' (al_p (T j) u) s)) := by
      refine al_e_S (fun j hj => al_e_m (al_e_r p _) (ih _ ?_))
      rw [h4]
      exact hB.1 _ _ u (hB.2.2.1 j c hj c1)
    have h10 := al_e_t (al_e_s h8) h7
    have h11 := al_e_d (al_e_r p (al_nm lt hw T C r' m s)) h10
    have h12 := al_e_n h9
    refine al_e_t h12 (al_e_t (al_e_of ?_) (al_e_t h11 (al_e_of (by omega))))
    omega
  · rw [al_nm_s hw T C r hc s, al_nm_s hw T C r' hc s]
    exact al_e_r _ _
/- a border monomial that is no corner has a border monomial just below it -/
theorem bo_ex {n o K B : Nat} {cor : Nat → al_M} {l : List al_M} {f : Nat → al_M} (hn4 : n ≤ 4) (hls : ∀ i, i < l.length → tb_v n (fg_B l i) ∧ sd_b K cor (fg_B l i) = true) (hall : ∀ m, tb_v n m → sd_b K cor m = true → ∃ k, k < l.length ∧ m = fg_B l k)
    (hO : bo_O o B f) (hf : ∀ y, (∃ j, j < B ∧ f j = y) ↔ bo_P l K cor n l.length 0 y) {b : Nat} (hb : b < B) (hnc : ∀ k, k < K → cor k ≠ f b) : ∃ v j, v < n ∧ j < b ∧ al_p (f j) (tb_x v) = f b := by
  obtain ⟨s, w, h1, h2, h3, h4⟩ := (hf (f b)).mp ⟨b, hb, rfl⟩
  have hs : s < l.length := by omega
  obtain ⟨s1, s2⟩ := hls s hs
  have h5 : ∃ k, k < K ∧ al_le (cor k) (f b) := by
    refine Classical.byContradiction (fun hq => h4 ((sd_i K cor _).mpr (fun k hk hle => hq ⟨k, hk, hle⟩)))
  obtain ⟨k, hk, hle⟩ := h5
  have hne := hnc k hk
  have hfv : tb_v n (f b) := by rw [h3]; exact tb_v_p s1 (tb_x_v h1 hn4)
  have h6 : ∃ v, v < 4 ∧ tb_g (cor k) v < tb_g (f b) v := by
    refine Classical.byContradiction (fun hq => hne ?_)
    have q : ∀ v, v < 4 → tb_g (f b) v ≤ tb_g (cor k) v := fun v hv => Nat.le_of_not_lt (fun h => hq ⟨v, hv, h⟩)
    have q0 := q 0 (by omega)
    have q1 := q 1 (by omega)
    have q2 := q 2 (by omega)
    have q3 := q 3 (by omega)
    simp only [tb_g] at q0 q1 q2 q3
    unfold al_le at hle
    exact al_M_x (by omega) (by omega) (by omega) (by omega)
  obtain ⟨v, hv4, h7⟩ := h6
  have hvn : v < n := by
    refine Classical.byContradiction (fun hq => ?_)
    unfold tb_v at hfv
    obtain rfl | rfl | rfl | rfl : v = 0 ∨ v = 1 ∨ v = 2 ∨ v = 3 := by omega
    all_goals
      simp only [tb_g] at h7
      omega
  have hlow := tb_g_s (f b) v hv4 (by omega)
  generalize hlo : tb_s (f b) v (tb_g (f b) v - 1) = lo at hlow
  have hcl : al_le (cor k) lo := by
    have e1 := congrArg (fun x => x.1) hlow
    have e2 := congrArg (fun x => x.2.1) hlow
    have e3 := congrArg (fun x => x.2.2.1) hlow
    have e4 := congrArg (fun x => x.2.2.2) hlow
    simp only [al_p] at e1 e2 e3 e4
    unfold al_le at hle ⊢
    obtain rfl | rfl | rfl | rfl : v = 0 ∨ v = 1 ∨ v = 2 ∨ v = 3 := by omega
    all_goals
      simp only [tb_g] at h7
      simp only [tb_x, tb_s] at e1 e2 e3 e4
      omega
  have hlns : ¬ sd_b K cor lo = true := fun q => (sd_i K cor lo).mp q k hk hcl
  have hvw : v ≠ w := by
    rintro rfl
    have : lo = fg_B l s := al_p_r (hlow.trans h3)
    rw [this] at hlns
    exact hlns s2
  have hg : 0 < tb_g (fg_B l s) v := by
    have e : tb_g (f b) v = tb_g (al_p (fg_B l s) (tb_x w)) v := congrArg (fun x => tb_g x v) h3
    obtain rfl | rfl | rfl | rfl : v = 0 ∨ v = 1 ∨ v = 2 ∨ v = 3 := by omega
    all_goals
      obtain rfl | rfl | rfl | rfl : w = 0 ∨ w = 1 ∨ w = 2 ∨ w = 3 := by omega
      all_goals
        simp only [tb_g, al_p, tb_x, tb_s] at e h7 ⊢
        omega
  have ht := tb_g_s (fg_B l s) v hv4 (by omega)
  generalize hte : tb_s (fg_B l s) v (tb_g (fg_B l s) v - 1) = t at ht
  have htl : lo = al_p t (tb_x w) := by
    refine al_p_r (c := tb_x v) ?_
    rw [hlow, h3, ← ht, al_p_a, al_p_c (tb_x v) (tb_x w), ← al_p_a]
  have htv : tb_v n t := by
    rw [← ht] at s1
    unfold tb_v at *
    simp only [al_p] at s1
    omega
  have hts : sd_b K cor t = true := by
    rw [sd_i] at s2 ⊢
    intro j hj hq
    exact s2 j hj (al_le_t hq (al_le_i.mpr ⟨tb_x v, ht.symm⟩))
  obtain ⟨s', hs', hse⟩ := hall t htv hts
  obtain ⟨j, hj, hje⟩ := (hf lo).mpr ⟨s', w, h1, Or.inl hs', by rw [htl, hse], hlns⟩
  refine ⟨v, j, hvn, ?_, by rw [hje, hlow]⟩
  rcases Nat.lt_trichotomy j b with q | q | q
  · exact q
  · exfalso
    rw [q] at hje
    have e := congrArg al_dg hlow
    rw [← hje, al_dg_p, tb_x_d] at e
    omega
  · exfalso
    have hl2 := hO b j q hj
    rw [hje] at hl2
    have e := al_lt_d hl2
    rw [← hlow, al_dg_p, tb_x_d] at e
    omega
