/-! what the rows of methods share -/
/-- from H to H' only the rows of A have changed -/
def mz_fr (H H' : mz_H) (A : List Nat) : Prop := H'.1 = H.1 ∧ H'.2.2 = H.2.2 ∧ ∀ c, c ∉ A → H'.2.1 c = H.2.1 c
theorem mz_fr.refl (H : mz_H) (A : List Nat) : mz_fr H H A := ⟨rfl, rfl, fun _ _ => rfl⟩
theorem mz_fr.trans {H H1 H2 : mz_H} {A B C : List Nat} (h1 : mz_fr H H1 A) (h2 : mz_fr H1 H2 B) (hA : ∀ c, c ∈ A → c ∈ C) (hB : ∀ c, c ∈ B → c ∈ C) : mz_fr H H2 C :=
  ⟨h2.1.trans h1.1, h2.2.1.trans h1.2.1, fun c hc => (h2.2.2 c (fun q => hc (hB c q))).trans (h1.2.2 c (fun q => hc (hA c q)))⟩
theorem mz_fr.tr {H H1 H2 : mz_H} {A : List Nat} (h1 : mz_fr H H1 A) (h2 : mz_fr H1 H2 A) : mz_fr H H2 A := h1.trans h2 (fun _ h => h) (fun _ h => h)
theorem mz_fr.mono {H H1 : mz_H} {A C : List Nat} (h1 : mz_fr H H1 A) (hA : ∀ c, c ∈ A → c ∈ C) : mz_fr H H1 C := ⟨h1.1, h1.2.1, fun c hc => h1.2.2 c (fun q => hc (hA c q))⟩
theorem mz_fr.w (H : mz_H) (a i : Nat) (x : Int) {A : List Nat} (ha : a ∈ A) : mz_fr H (mz_w H a i x) A := by
  refine ⟨rfl, rfl, fun c hc => ?_⟩
  funext j
  show mx_up2 H.2.1 a i x c j = H.2.1 c j
  unfold mx_up2
  rw [if_neg]
  intro q
  exact hc (q.1 ▸ ha)
theorem mz_fr.cy (H : mz_H) (a sp b dp n : Nat) {A : List Nat} (ha : b ∈ A) : mz_fr H (mz_cy H a sp b dp n) A := by
  refine ⟨rfl, rfl, fun c hc => ?_⟩
  show mx_up1 H.2.1 b _ c = H.2.1 c
  unfold mx_up1
  rw [if_neg]
  intro q
  exact hc (q ▸ ha)
theorem mz_w_g (H : mz_H) (a i : Nat) (x : Int) (b j : Nat) : (mz_w H a i x).2.1 b j = if b = a ∧ j = i then x else H.2.1 b j := rfl
theorem mz_w_1 (H : mz_H) (a i : Nat) (x : Int) : (mz_w H a i x).1 = H.1 := rfl
theorem mz_w_2 (H : mz_H) (a i : Nat) (x : Int) : (mz_w H a i x).2.2 = H.2.2 := rfl
theorem mz_cy_g (H : mz_H) (a sp b dp n c j : Nat) : (mz_cy H a sp b dp n).2.1 c j = if c = b then (if dp ≤ j ∧ j < dp + n then H.2.1 a (sp + (j - dp)) else H.2.1 b j) else H.2.1 c j := by
  show mx_up1 H.2.1 b _ c j = _
  unfold mx_up1 va_cpy
  split <;> rfl
theorem mz_tm {x y : Int} (h : 0 ≤ x) : x.tmod y = x % y := Int.tmod_eq_emod_of_nonneg h
theorem mz_td {x y : Int} (h : 0 ≤ x) : x.tdiv y = x / y := Int.tdiv_eq_ediv_of_nonneg h
