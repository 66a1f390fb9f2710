/- the rows of the reference's dictionary: forms, rows with a pivot each, what they are made of -/
def rw_S (fr ap md : Nat → Nat → Int) (pv : Nat → Nat) (p : Int) (l : List al_M) (nf : al_M → al_M → Int) (B : List al_M) : Prop :=
  (∀ k, k < B.length → fo_1 p (fr k) l nf (fg_B B k)) ∧
  (∀ k, k < B.length → pv k < l.length) ∧
  (∀ k, k < B.length → (∀ c, c < 40 → 0 ≤ ap k c ∧ ap k c < p ∧ (l.length ≤ c → ap k c = 0)) ∧ ap k (pv k) = 1 ∧ ∀ i, i < k → ap k (pv i) = 0) ∧
  (∀ k, k < B.length → (∀ i, i < 40 → 0 ≤ md k i ∧ md k i < p ∧ (B.length ≤ i → md k i = 0)) ∧ ∀ c, c < l.length → al_e p (ap k c) (al_S B.length (fun i => md k i * nf (fg_B B i) (fg_B l c)))) ∧
  (∀ i, i < B.length → ∃ t : Nat → Int, ∀ c, c < l.length → al_e p (nf (fg_B B i) (fg_B l c)) (al_S B.length (fun k => t k * ap k c)))
section RELIM
variable {fr ap md fr' ap' md' : Nat → Nat → Int} {pv pv' : Nat → Nat} {p : Int} {l : List al_M} {nf : al_M → al_M → Int} {B : List al_M} {m : al_M}
theorem rw_c (hw : rw_S fr ap md pv p l nf B) (hB : B.length ≤ 40) (hl : l.length ≤ 40) (h1 : ∀ k c, k < B.length → c < 40 → fr' k c = fr k c) (h2 : ∀ k c, k < B.length → c < 40 → ap' k c = ap k c) (h3 : ∀ k c, k < B.length → c < 40 → md' k c = md k c) : rw_S fr' ap' md' pv p l nf B := by
  obtain ⟨a1, a2, a3, a4, a5⟩ := hw
  refine ⟨fun k hk => (a1 k hk).c (fun q hq => h1 k q hk hq), a2, fun k hk => ?_, fun k hk => ?_, fun i hi => ?_⟩
  · obtain ⟨b1, b2, b3⟩ := a3 k hk
    have := a2 k hk
    refine ⟨fun c hc => by rw [h2 k c hk hc]; exact b1 c hc, by rw [h2 k _ hk (by omega)]; exact b2, fun i hi => ?_⟩
    have := a2 i (by omega)
    rw [h2 k _ hk (by omega)]; exact b3 i hi
  · obtain ⟨b1, b2⟩ := a4 k hk
    refine ⟨fun i hi => by rw [h3 k i hk hi]; exact b1 i hi, fun c hc => ?_⟩
    rw [h2 k c hk (by omega), al_S_c (g := fun i => md k i * nf (fg_B B i) (fg_B l c)) (fun i hi => by rw [h3 k i hk (by omega)])]
    exact b2 c hc
  · obtain ⟨t, ht⟩ := a5 i hi
    refine ⟨t, fun c hc => ?_⟩
    rw [al_S_c (g := fun k => t k * ap k c) (fun k hk => by rw [h2 k c hk (by omega)])]
    exact ht c hc
theorem rw_el {row sum row' sum' : Nat → Int} (hp2 : 2 ≤ p) {k : Nat} (hB : B.length ≤ 40) (hl : l.length ≤ 40) (hw : rw_S fr ap md pv p l nf B) (hk : k < B.length) (h : el_S row sum p l nf B pv m k)
    (h1 : ∀ c, c < 40 → row' c = (row c - row (pv k) * ap k c) % p) (h2 : ∀ i, i < 40 → sum' i = (sum i - row (pv k) * md k i) % p) : el_S row' sum' p l nf B pv m (k + 1) := by
  obtain ⟨a1, a2, a3, a4⟩ := h
  obtain ⟨b1, b2, b3, b4, b5⟩ := hw
  have hpk := b2 k hk
  refine ⟨fun c hc => ?_, fun j hj => ?_, fun i hi => ?_, fun c hc => ?_⟩
  · rw [h1 c hc]
    refine ⟨Int.emod_nonneg _ (by omega), Int.emod_lt_of_pos _ (by omega), fun hcl => ?_⟩
    rw [((b3 k hk).1 c hc).2.2 hcl, (a1 c hc).2.2 hcl, Int.mul_zero, Int.sub_zero, Int.zero_emod]
  · have hpj := b2 j (by omega)
    rw [h1 _ (by omega)]
    by_cases hjk : j = k
    · rw [hjk, (b3 k hk).2.1, Int.mul_one, Int.sub_self, Int.zero_emod]
    · rw [(b3 k hk).2.2 j (by omega), a2 j (by omega), Int.mul_zero, Int.sub_zero, Int.zero_emod]
  · rw [h2 i hi]
    refine ⟨Int.emod_nonneg _ (by omega), Int.emod_lt_of_pos _ (by omega), fun hil => ?_⟩
    rw [((b4 k hk).1 i hi).2.2 hil, (a3 i hi).2.2 hil, Int.mul_zero, Int.sub_zero, Int.zero_emod]
  · rw [h1 c (by omega)]
    generalize row (pv k) = q at *
    refine al_e_t (al_e_q _ _) ?_
    have z1 := al_e_m (al_e_r p q) ((b4 k hk).2 c hc)
    have z2 := al_e_d (a4 c hc) z1
    refine al_e_t z2 ?_
    have z3 : al_e p (al_S B.length (fun i => sum' i * nf (fg_B B i) (fg_B l c))) (al_S B.length (fun i => sum i * nf (fg_B B i) (fg_B l c)) - q * al_S B.length (fun i => md k i * nf (fg_B B i) (fg_B l c))) := by
      rw [← al_S_m, ← al_S_d]
      refine al_e_S (fun i hi => ?_)
      rw [h2 i (by omega)]
      refine al_e_t (al_e_m (al_e_q _ _) (al_e_r p _)) (al_e_of ?_)
      grind
    have z4 := al_e_a (al_e_r p (nf m (fg_B l c))) z3
    exact al_e_t (al_e_of (by omega)) (al_e_s z4)
theorem rw_n {row sum : Nat → Int} {iv : Int} {s : Nat} (hp2 : 2 ≤ p) (hB : B.length < 40) (hl : l.length ≤ 40) (hw : rw_S fr ap md pv p l nf B) (he : el_S row sum p l nf B pv m B.length) (hs : s < 40) (hsz : row s ≠ 0) (hiv : al_e p (iv * row s) 1)
    (h1 : ∀ k c, k < B.length → c < 40 → fr' k c = fr k c ∧ ap' k c = ap k c ∧ md' k c = md k c) (hpv : ∀ k, k < B.length → pv' k = pv k)
    (h2 : fo_1 p (fr' B.length) l nf m) (h3 : ∀ c, c < 40 → ap' B.length c = (iv * row c) % p) (h4 : ∀ i, i < 40 → md' B.length i = (iv * (if i = B.length then 1 else sum i)) % p) (h5 : pv' B.length = s) :
    rw_S fr' ap' md' pv' p l nf (B ++ [m]) := by
  obtain ⟨a1, a2, a3, a4, a5⟩ := hw
  obtain ⟨e1, e2, e3, e4⟩ := he
  have hsl : s < l.length := by
    refine Classical.byContradiction (fun hq => hsz ((e1 s hs).2.2 (by omega)))
  have hlen : (B ++ [m]).length = B.length + 1 := by rw [List.length_append, List.length_singleton]
  have hnew : ∀ c, c < l.length → al_e p (ap' B.length c) (iv * (nf m (fg_B l c) + al_S B.length (fun i => sum i * nf (fg_B B i) (fg_B l c)))) := by
    intro c hc
    rw [h3 c (by omega)]
    exact al_e_t (al_e_q _ _) (al_e_m (al_e_r p iv) (e4 c hc))
  refine ⟨fun k hk => ?_, fun k hk => ?_, fun k hk => ?_, fun k hk => ?_, fun i hi => ?_⟩
  · rw [hlen] at hk
    by_cases hkc : k = B.length
    · rw [hkc, fg_B_r]; exact h2
    · rw [fg_B_l _ _ _ (by omega)]; exact (a1 k (by omega)).c (fun q hq => (h1 k q (by omega) hq).1)
  · rw [hlen] at hk
    by_cases hkc : k = B.length
    · rw [hkc, h5]; exact hsl
    · rw [hpv k (by omega)]; exact a2 k (by omega)
  · rw [hlen] at hk
    by_cases hkc : k = B.length
    · rw [hkc]
      refine ⟨fun c hc => ?_, ?_, fun i hi => ?_⟩
      · rw [h3 c hc]
        refine ⟨Int.emod_nonneg _ (by omega), Int.emod_lt_of_pos _ (by omega), fun hcl => ?_⟩
        rw [(e1 c hc).2.2 hcl, Int.mul_zero, Int.zero_emod]
      · rw [h5, h3 s hs]
        exact al_e_u (al_e_t (al_e_q _ _) hiv) (Int.emod_nonneg _ (by omega)) (Int.emod_lt_of_pos _ (by omega)) (by omega) (by omega)
      · have := a2 i (by omega)
        rw [hpv i (by omega), h3 _ (by omega), e2 i (by omega), Int.mul_zero, Int.zero_emod]
    · obtain ⟨b1, b2, b3⟩ := a3 k (by omega)
      have hk' := a2 k (by omega)
      refine ⟨fun c hc => by rw [(h1 k c (by omega) hc).2.1]; exact b1 c hc, by rw [hpv k (by omega), (h1 k _ (by omega) (by omega)).2.1]; exact b2, fun i hi => ?_⟩
      have := a2 i (by omega)
      rw [hpv i (by omega), (h1 k _ (by omega) (by omega)).2.1]; exact b3 i hi
  · rw [hlen] at hk
    by_cases hkc : k = B.length
    · rw [hkc]
      refine ⟨fun i hi => ?_, fun c hc => ?_⟩
      · rw [h4 i hi]
        refine ⟨Int.emod_nonneg _ (by omega), Int.emod_lt_of_pos _ (by omega), fun hki => ?_⟩
        rw [hlen] at hki
        rw [if_neg (by omega), (e3 i hi).2.2 (by omega), Int.mul_zero, Int.zero_emod]
      · refine al_e_t (hnew c hc) ?_
        rw [hlen, al_S_s, fg_B_r, h4 _ (by omega), if_pos rfl, Int.mul_add, Int.add_comm]
        refine al_e_a ?_ ?_
        · rw [← al_S_m]
          refine al_e_S (fun i hi => ?_)
          rw [fg_B_l _ _ _ hi, h4 i (by omega), if_neg (by omega), ← Int.mul_assoc]
          exact al_e_m (al_e_s (al_e_q _ _)) (al_e_r _ _)
        · rw [Int.mul_one]
          exact al_e_m (al_e_s (al_e_q _ _)) (al_e_r _ _)
    · obtain ⟨b1, b2⟩ := a4 k (by omega)
      refine ⟨fun i hi => ?_, fun c hc => ?_⟩
      · rw [(h1 k i (by omega) hi).2.2, hlen]
        exact ⟨(b1 i hi).1, (b1 i hi).2.1, fun q => (b1 i hi).2.2 (by omega)⟩
      · rw [hlen, al_S_s, (h1 k B.length (by omega) (by omega)).2.2, (b1 B.length (by omega)).2.2 (Nat.le_refl _), Int.zero_mul, Int.add_zero, (h1 k c (by omega) (by omega)).2.1, al_S_c (g := fun i => md k i * nf (fg_B B i) (fg_B l c)) (fun i hi => by rw [fg_B_l _ _ _ hi, (h1 k i (by omega) (by omega)).2.2])]
        exact b2 c hc
  · rw [hlen] at hi
    have hT : ∃ t : Nat → Nat → Int, ∀ i, i < B.length → ∀ c, c < l.length → al_e p (nf (fg_B B i) (fg_B l c)) (al_S B.length (fun k => t i k * ap k c)) := by
      refine ⟨fun i => @dite (Nat → Int) (i < B.length) _ (fun h => (a5 i h).choose) (fun _ _ => 0), fun i hi c hc => ?_⟩
      have := (a5 i hi).choose_spec c hc
      simp only [dif_pos hi]
      exact this
    obtain ⟨t, ht⟩ := hT
    by_cases hic : i = B.length
    · refine ⟨fun k => if k = B.length then row s else - al_S B.length (fun i => sum i * t i k), fun c hc => ?_⟩
      rw [hic, fg_B_r, hlen, al_S_s]
      simp only [if_true]
      have z1 := al_e_m (al_e_r p (row s)) (hnew c hc)
      have z2 : al_e p (row s * (iv * (nf m (fg_B l c) + al_S B.length (fun i => sum i * nf (fg_B B i) (fg_B l c))))) (nf m (fg_B l c) + al_S B.length (fun i => sum i * nf (fg_B B i) (fg_B l c))) := by
        rw [← Int.mul_assoc, Int.mul_comm (row s) iv]
        exact al_e_t (al_e_m hiv (al_e_r _ _)) (al_e_of (Int.one_mul _))
      have z3 := al_e_t z1 z2
      have z4 : al_e p (al_S B.length (fun i => sum i * nf (fg_B B i) (fg_B l c))) (- al_S B.length (fun k => (if k = B.length then row s else - al_S B.length (fun i => sum i * t i k)) * ap' k c)) := by
        rw [← al_S_n]
        have y1 : al_e p (al_S B.length (fun i => sum i * nf (fg_B B i) (fg_B l c))) (al_S B.length (fun i => al_S B.length (fun k => sum i * t i k * ap k c))) := by
          refine al_e_S (fun i hi => ?_)
          refine al_e_t (al_e_m (al_e_r p _) (ht i hi c hc)) (al_e_of ?_)
          rw [← al_S_m]
          exact al_S_c (fun k _ => by rw [Int.mul_assoc])
        refine al_e_t y1 (al_e_of ?_)
        rw [al_S_w]
        refine al_S_c (fun k hk => ?_)
        rw [if_neg (by omega), (h1 k c hk (by omega)).2.1, al_S_r, Int.neg_mul, Int.neg_neg]
      have z5 := al_e_a z3 (al_e_s (al_e_n z4))
      refine al_e_s (al_e_t (al_e_of ?_) (al_e_t z5 (al_e_of ?_)))
      · omega
      · omega
    · obtain ⟨t', ht'⟩ := a5 i (by omega)
      refine ⟨fun k => if k = B.length then 0 else t' k, fun c hc => ?_⟩
      rw [hlen, al_S_s]
      simp only [if_true]
      rw [Int.zero_mul, Int.add_zero, fg_B_l _ _ _ (by omega), al_S_c (g := fun k => t' k * ap k c) (fun k hk => by rw [if_neg (by omega), (h1 k c hk (by omega)).2.1])]
      exact ht' c hc
/- one row less a multiple of the last -/
theorem rw_b (hp2 : 2 ≤ p) (hB : B.length ≤ 40) (hl : l.length ≤ 40) (hw : rw_S fr ap md pv p l nf B) {K j : Nat} (hK : B.length = K + 1) (hj : j < K) {q : Int}
    (h1 : ∀ k c, k < B.length → k ≠ j → c < 40 → ap' k c = ap k c ∧ md' k c = md k c) (h2 : ∀ c, c < 40 → ap' j c = (ap j c - q * ap K c) % p) (h3 : ∀ c, c < 40 → md' j c = (md j c - q * md K c) % p) : rw_S fr ap' md' pv p l nf B := by
  obtain ⟨a1, a2, a3, a4, a5⟩ := hw
  have one : (1 : Int) % p = 1 := Int.emod_eq_of_lt (by omega) (by omega)
  refine ⟨a1, a2, fun k hk => ?_, fun k hk => ?_, fun i hi => ?_⟩
  · by_cases hkj : k = j
    · rw [hkj]
      obtain ⟨b1, b2, b3⟩ := a3 j (by omega)
      obtain ⟨c1, c2, c3⟩ := a3 K (by omega)
      have hpj := a2 j (by omega)
      refine ⟨fun c hc => ?_, ?_, fun i hi => ?_⟩
      · rw [h2 c hc]
        refine ⟨Int.emod_nonneg _ (by omega), Int.emod_lt_of_pos _ (by omega), fun hcl => ?_⟩
        rw [(b1 c hc).2.2 hcl, (c1 c hc).2.2 hcl, Int.mul_zero, Int.sub_zero, Int.zero_emod]
      · rw [h2 _ (by omega), b2, c3 j hj, Int.mul_zero, Int.sub_zero, one]
      · have := a2 i (by omega)
        rw [h2 _ (by omega), b3 i hi, c3 i (by omega), Int.mul_zero, Int.sub_zero, Int.zero_emod]
    · obtain ⟨b1, b2, b3⟩ := a3 k hk
      have hpk := a2 k hk
      refine ⟨fun c hc => by rw [(h1 k c hk hkj hc).1]; exact b1 c hc, by rw [(h1 k _ hk hkj (by omega)).1]; exact b2, fun i hi => ?_⟩
      have := a2 i (by omega)
      rw [(h1 k _ hk hkj (by omega)).1]; exact b3 i hi
  · by_cases hkj : k = j
    · rw [hkj]
      obtain ⟨b1, b2⟩ := a4 j (by omega)
      obtain ⟨c1, c2⟩ := a4 K (by omega)
      refine ⟨fun i hi => ?_, fun c hc => ?_⟩
      · rw [h3 i hi]
        refine ⟨Int.emod_nonneg _ (by omega), Int.emod_lt_of_pos _ (by omega), fun hcl => ?_⟩
        rw [(b1 i hi).2.2 hcl, (c1 i hi).2.2 hcl, Int.mul_zero, Int.sub_zero, Int.zero_emod]
      · rw [h2 c (by omega)]
        refine al_e_t (al_e_q _ _) ?_
        refine al_e_t (al_e_d (b2 c hc) (al_e_m (al_e_r p q) (c2 c hc))) ?_
        refine al_e_s ?_
        rw [← al_S_m, ← al_S_d]
        refine al_e_S (fun i hi => ?_)
        rw [h3 i (by omega)]
        refine al_e_t (al_e_m (al_e_q _ _) (al_e_r p _)) (al_e_of ?_)
        grind
    · obtain ⟨b1, b2⟩ := a4 k hk
      refine ⟨fun i hi => by rw [(h1 k i hk hkj hi).2]; exact b1 i hi, fun c hc => ?_⟩
      rw [(h1 k c hk hkj (by omega)).1, al_S_c (g := fun i => md k i * nf (fg_B B i) (fg_B l c)) (fun i hi => by rw [(h1 k i hk hkj (by omega)).2])]
      exact b2 c hc
  · obtain ⟨t, ht⟩ := a5 i hi
    refine ⟨fun k => if k = K then t K + t j * q else t k, fun c hc => ?_⟩
    refine al_e_t (ht c hc) ?_
    rw [hK, al_S_s, al_S_s]
    simp only [if_true]
    have e1 : al_e p (al_S K (fun k => (if k = K then t K + t j * q else t k) * ap' k c)) (al_S K (fun k => t k * ap k c - (if k = j then t j * q * ap K c else 0))) := by
      refine al_e_S (fun k hk => ?_)
      rw [if_neg (by omega)]
      by_cases hkj : k = j
      · rw [if_pos hkj, hkj, h2 c (by omega)]
        refine al_e_t (al_e_m (al_e_r p (t j)) (al_e_q _ _)) (al_e_of ?_)
        grind
      · rw [if_neg hkj, (h1 k c (by omega) hkj (by omega)).1, Int.sub_zero]
        exact al_e_r _ _
    rw [al_S_d] at e1
    have e2 : al_e p (al_S K (fun k => if k = j then t j * q * ap K c else 0)) (t j * q * ap K c) := by
      refine al_e_t (al_e_S1 (g := fun k => if k = j then t j * q * ap K c else 0) hj (fun k hk hne => ?_)) ?_
      · show al_e p (if k = j then t j * q * ap K c else 0) 0
        rw [if_neg hne]
        exact al_e_r _ _
      · show al_e p (if j = j then t j * q * ap K c else 0) (t j * q * ap K c)
        rw [if_pos rfl]
        exact al_e_r _ _
    have e3 : ap' K c = ap K c := (h1 K c (by omega) (by omega) (by omega)).1
    rw [e3]
    have e4 := al_e_t e1 (al_e_d (al_e_r p _) e2)
    have e5 := al_e_a e4 (al_e_r p ((t K + t j * q) * ap K c))
    refine al_e_s (al_e_t e5 (al_e_of ?_))
    grind
theorem rw_len {row sum : Nat → Int} {s : Nat} (hw : rw_S fr ap md pv p l nf B) (he : el_S row sum p l nf B pv m B.length) (hs : s < 40) (hsz : row s ≠ 0) : B.length < l.length := by
  obtain ⟨a1, a2, a3, a4, a5⟩ := hw
  have hsl : s < l.length := Classical.byContradiction (fun hq => hsz ((he.1 s hs).2.2 (by omega)))
  have hne : ∀ i, i < B.length → pv i ≠ s := fun i hi hq => hsz (hq ▸ he.2.1 i hi)
  have hii : ∀ i k, i < k → k < B.length → pv i ≠ pv k := fun i k hik hk hq => by
    have h1 := (a3 k hk).2.2 i hik
    have h2 := (a3 k hk).2.1
    rw [hq, h2] at h1
    omega
  refine ph_le l.length (B.length + 1) (fun k => if k = B.length then s else pv k) (fun k hk => ?_) (fun i j hi hj hij => ?_)
  · show (if k = B.length then s else pv k) < _
    by_cases hkc : k = B.length
    · rw [if_pos hkc]; exact hsl
    · rw [if_neg hkc]; exact a2 k (by omega)
  · replace hij : (if i = B.length then s else pv i) = (if j = B.length then s else pv j) := hij
    by_cases hic : i = B.length
    · by_cases hjc : j = B.length
      · omega
      · rw [if_pos hic, if_neg hjc] at hij
        exact absurd hij.symm (hne j (by omega))
    · by_cases hjc : j = B.length
      · rw [if_neg hic, if_pos hjc] at hij
        exact absurd hij (hne i (by omega))
      · rw [if_neg hic, if_neg hjc] at hij
        rcases Nat.lt_trichotomy i j with h | h | h
        · exact absurd hij (hii i j h (by omega))
        · exact h
        · exact absurd hij.symm (hii j i h (by omega))
theorem rw_no {row sum : Nat → Int} {s : Nat} (hp2 : 2 ≤ p) (hw : rw_S fr ap md pv p l nf B) (he : el_S row sum p l nf B pv m B.length) (hs : s < 40) (hsz : row s ≠ 0) : ¬ ∃ a, fg_d p nf (sl_S l) B m a := by
  intro hd
  obtain ⟨a1, a2, a3, a4, a5⟩ := hw
  have hsl : s < l.length := Classical.byContradiction (fun hq => hsz ((he.1 s hs).2.2 (by omega)))
  have h := fg_el2 (p := p) (nf := nf) (S := sl_S l) (st := fg_B l) (B := B) (K := l.length) (fun c hc => ⟨c, hc, rfl⟩) (w := fun k c => ap k c) (pv := pv) (fun k hk => ⟨a2 k hk, al_e_of (a3 k hk).2.1⟩) (fun i k hik hk => al_e_of ((a3 k hk).2.2 i hik)) a5 (m := m) (q := sum) (rho := row) he.2.2.2 (fun k hk => al_e_of (he.2.1 k hk)) hd s hsl
  exact hsz (al_e_z h (he.1 s hs).1 (he.1 s hs).2.1)
end RELIM
