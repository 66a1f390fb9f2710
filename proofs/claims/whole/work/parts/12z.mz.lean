/-! THE MACHINE OF WHOLE NUMBERS: ints and longs are Int, kinds and references are fixed (no new cells but exceptions): printed by wip/whole/mz.py -/
abbrev mz_W : Type := Int ⊕ Nat ⊕ Int
abbrev mz_L : Type := List (Option mz_W)
/-- exceptions so far, ints, longs -/
abbrev mz_H : Type := Nat × (Nat → Nat → Int) × (Nat → Nat → Int)
abbrev mz_O : Type := Option mz_W ⊕ Nat
/-- kinds, references, cells and slots made -/
abbrev mz_E : Type := mx_E × (Nat → Option (Nat × Nat)) × (Nat → Nat → Option Nat) × Nat × Nat
def mz_in (x : Int) : Prop := -2147483648 ≤ x ∧ x < 2147483648
def mz_jn (x : Int) : Prop := -9223372036854775808 ≤ x ∧ x < 9223372036854775808
def mz_up : mz_W → Value
  | .inl x => .int (Int32.ofInt x)
  | .inr (.inl a) => .ref a
  | .inr (.inr x) => .long (Int64.ofInt x)
def mz_ok : mz_W → Prop
  | .inl x => mz_in x
  | .inr (.inl _) => True
  | .inr (.inr x) => mz_jn x
def mz_g : mz_L → Nat → Option mz_W
  | [], _ => none
  | o :: _, 0 => o
  | _ :: t, k + 1 => mz_g t k
def mz_k : Option mz_W → Option mz_W
  | none => none
  | some (.inl x) => some (.inl x)
  | some (.inr (.inl a)) => some (.inr (.inl a))
  | some (.inr (.inr _)) => none
def mz_st : mz_L → Nat → mz_W → mz_L
  | [], _, _ => []
  | _ :: t, 0, w => some w :: t
  | o :: t, 1, w => mz_k o :: mz_st t 0 w
  | o :: t, k + 2, w => o :: mz_st t (k + 1) w
def mz_nx : mz_L → mz_L
  | [] => []
  | _ :: t => none :: t
def mz_s2 : mz_L → Nat → mz_W → mz_L
  | [], _, _ => []
  | _ :: t, 0, w => some w :: mz_nx t
  | o :: t, 1, w => mz_k o :: mz_s2 t 0 w
  | o :: t, k + 2, w => o :: mz_s2 t (k + 1) w
def mz_l (l : mx_L) (L : mz_L) : Prop := ∀ j w, mz_g L j = some w → l j = some (mz_up w) ∧ mz_ok w
theorem mz_k_some {o : Option mz_W} {w : mz_W} (h : mz_k o = some w) : o = some w ∧ mx_1 (some (mz_up w)) = some (mz_up w) := by
  cases o with
  | none => cases h
  | some u => rcases u with x | a | x <;> cases h <;> exact ⟨rfl, rfl⟩
theorem mz_st_g : ∀ (L : mz_L) (k : Nat) (w : mz_W) (j : Nat) (u : mz_W), mz_g (mz_st L k w) j = some u → (j = k ∧ u = w) ∨ (j ≠ k ∧ mz_g L j = some u ∧ (j + 1 = k → mx_1 (some (mz_up u)) = some (mz_up u))) := by
  intro L
  induction L with
  | nil => intro k w j u h; simp [mz_st, mz_g] at h
  | cons o t ih =>
    intro k w j u h
    match k, j with
    | 0, 0 => simp [mz_st, mz_g] at h; exact Or.inl ⟨rfl, h.symm⟩
    | 0, j + 1 => simp [mz_st, mz_g] at h; exact Or.inr ⟨by omega, by simpa [mz_g] using h, fun q => by omega⟩
    | 1, 0 =>
      simp [mz_st, mz_g] at h
      exact Or.inr ⟨by omega, by simpa [mz_g] using (mz_k_some h).1, fun _ => (mz_k_some h).2⟩
    | 1, j + 1 =>
      simp only [mz_st, mz_g] at h
      rcases ih 0 w j u h with ⟨a, b⟩ | ⟨a, b, c⟩
      · exact Or.inl ⟨by omega, b⟩
      · exact Or.inr ⟨by omega, by simpa [mz_g] using b, fun q => by omega⟩
    | k + 2, 0 => simp [mz_st, mz_g] at h; exact Or.inr ⟨by omega, by simpa [mz_g] using h, fun q => by omega⟩
    | k + 2, j + 1 =>
      simp only [mz_st, mz_g] at h
      rcases ih (k + 1) w j u h with ⟨a, b⟩ | ⟨a, b, c⟩
      · exact Or.inl ⟨by omega, b⟩
      · exact Or.inr ⟨by omega, by simpa [mz_g] using b, fun q => c (by omega)⟩
theorem mz_nx_g {t : mz_L} {j : Nat} {u : mz_W} (h : mz_g (mz_nx t) j = some u) : j ≠ 0 ∧ mz_g t j = some u := by
  cases t with
  | nil => simp [mz_nx, mz_g] at h
  | cons o t =>
    cases j with
    | zero => simp [mz_nx, mz_g] at h
    | succ j => exact ⟨by omega, by simpa [mz_nx, mz_g] using h⟩
theorem mz_s2_g : ∀ (L : mz_L) (k : Nat) (w : mz_W) (j : Nat) (u : mz_W), mz_g (mz_s2 L k w) j = some u → (j = k ∧ u = w) ∨ (j ≠ k ∧ j ≠ k + 1 ∧ mz_g L j = some u ∧ (j + 1 = k → mx_1 (some (mz_up u)) = some (mz_up u))) := by
  intro L
  induction L with
  | nil => intro k w j u h; simp [mz_s2, mz_g] at h
  | cons o t ih =>
    intro k w j u h
    match k, j with
    | 0, 0 => simp [mz_s2, mz_g] at h; exact Or.inl ⟨rfl, h.symm⟩
    | 0, j + 1 =>
      simp only [mz_s2, mz_g] at h
      have h2 := mz_nx_g h
      exact Or.inr ⟨by omega, by omega, by simpa [mz_g] using h2.2, fun q => by omega⟩
    | 1, 0 =>
      simp [mz_s2, mz_g] at h
      exact Or.inr ⟨by omega, by omega, by simpa [mz_g] using (mz_k_some h).1, fun _ => (mz_k_some h).2⟩
    | 1, j + 1 =>
      simp only [mz_s2, mz_g] at h
      rcases ih 0 w j u h with ⟨a, b⟩ | ⟨a, a2, b, c⟩
      · exact Or.inl ⟨by omega, b⟩
      · exact Or.inr ⟨by omega, by omega, by simpa [mz_g] using b, fun q => by omega⟩
    | k + 2, 0 => simp [mz_s2, mz_g] at h; exact Or.inr ⟨by omega, by omega, by simpa [mz_g] using h, fun q => by omega⟩
    | k + 2, j + 1 =>
      simp only [mz_s2, mz_g] at h
      rcases ih (k + 1) w j u h with ⟨a, b⟩ | ⟨a, a2, b, c⟩
      · exact Or.inl ⟨by omega, b⟩
      · exact Or.inr ⟨by omega, by omega, by simpa [mz_g] using b, fun q => c (by omega)⟩
theorem mz_l.st {l : mx_L} {L : mz_L} (h : mz_l l L) (k : Nat) {w : mz_W} (hw : mz_ok w) : mz_l (mx_st1 l k (mz_up w)) (mz_st L k w) := by
  intro j u hj
  rcases mz_st_g L k w j u hj with ⟨a, b⟩ | ⟨a, b, c⟩
  · subst b; exact ⟨by simp [mx_st1, a], hw⟩
  · obtain ⟨d1, d2⟩ := h j u b
    refine ⟨?_, d2⟩
    unfold mx_st1
    rw [if_neg a]
    by_cases q : j + 1 = k
    · rw [if_pos q, d1, c q]
    · rw [if_neg q, d1]
theorem mz_l.s2 {l : mx_L} {L : mz_L} (h : mz_l l L) (k : Nat) {w : mz_W} (hw : mz_ok w) : mz_l (mx_st2 l k (mz_up w)) (mz_s2 L k w) := by
  intro j u hj
  rcases mz_s2_g L k w j u hj with ⟨a, b⟩ | ⟨a, a2, b, c⟩
  · subst b; exact ⟨by simp [mx_st2, a], hw⟩
  · obtain ⟨d1, d2⟩ := h j u b
    refine ⟨?_, d2⟩
    unfold mx_st2
    rw [if_neg a, if_neg a2]
    by_cases q : j + 1 = k
    · rw [if_pos q, d1, c q]
    · rw [if_neg q, d1]
def mz_hk (H : mz_H) : Prop := (∀ a k, mz_in (H.2.1 a k)) ∧ ∀ a k, mz_jn (H.2.2 a k)
def mz_uh (e : mz_E) (H : mz_H) : mx_H := (e.2.2.2.1 + H.1, e.2.2.2.2 + 6 * H.1, e.2.1, (fun a k => Int32.ofInt (H.2.1 a k)), e.2.2.1, fun a k => Int64.ofInt (H.2.2 a k))
def mz_uo : mz_O → mx_O
  | .inl v => .inl (v.map mz_up)
  | .inr x => .inr x
def mz_p (e : mz_E) (P : mz_O → mz_H → Prop) (o : mx_O) (h : mx_H) : Prop := ∃ O H, o = mz_uo O ∧ h = mz_uh e H ∧ (∀ w, O = .inl (some w) → mz_ok w) ∧ mz_hk H ∧ P O H
/-- the judgement, in whole numbers -/
def mz_V (e : mz_E) (d : Nat) (M : mx_M) (pc : Nat) (L : mz_L) (st : List mz_W) (H : mz_H) (P : mz_O → mz_H → Prop) : Prop :=
  (∀ w ∈ st, mz_ok w) → mz_hk H → ∀ l, mz_l l L → mx_V e.1 d M pc l (st.map mz_up) (mz_uh e H) (mz_p e P)
/-- method j, called with these, comes to P -/
def mz_CA (e : mz_E) (d j : Nat) (args : List mz_W) (H : mz_H) (P : mz_O → mz_H → Prop) : Prop := (∀ w ∈ args, mz_ok w) → mz_hk H → mx_CA e.1 d j (args.map mz_up) (mz_uh e H) (mz_p e P)
theorem mz_p.mono {e : mz_E} {P P' : mz_O → mz_H → Prop} (hP : ∀ o h, P o h → P' o h) {o : mx_O} {h : mx_H} (q : mz_p e P o h) : mz_p e P' o h := by
  obtain ⟨O, H, a, b, c, d, f⟩ := q
  exact ⟨O, H, a, b, c, d, hP _ _ f⟩
theorem mz_V.mono {e : mz_E} {d : Nat} {M : mx_M} {pc : Nat} {L : mz_L} {st : List mz_W} {H : mz_H} {P P' : mz_O → mz_H → Prop} (k : mz_V e d M pc L st H P) (hP : ∀ o h, P o h → P' o h) : mz_V e d M pc L st H P' :=
  fun a b l c => (k a b l c).mono fun _ _ => mz_p.mono hP
theorem mz_CA.mono {e : mz_E} {d j : Nat} {args : List mz_W} {H : mz_H} {P P' : mz_O → mz_H → Prop} (k : mz_CA e d j args H P) (hP : ∀ o h, P o h → P' o h) : mz_CA e d j args H P' :=
  fun a b => (k a b).mono fun _ _ => mz_p.mono hP
/-- the locals at a method's entry -/
def mz_en : List mz_W → Nat → mz_L
  | [], n => List.replicate n none
  | .inl x :: t, n => some (.inl x) :: mz_en t (n - 1)
  | .inr (.inl x) :: t, n => some (.inr (.inl x)) :: mz_en t (n - 1)
  | .inr (.inr x) :: t, n => some (.inr (.inr x)) :: none :: mz_en t (n - 2)
theorem mz_rep_g (n j : Nat) : mz_g (List.replicate n none) j = none := by
  induction n generalizing j with
  | zero => rfl
  | succ n ih => cases j with
    | zero => rfl
    | succ j => exact ih j
theorem mz_en_g : ∀ (vs : List mz_W) (n i j : Nat) (w : mz_W), mz_g (mz_en vs n) j = some w → mx_lk (lv_args i (vs.map mz_up)) (i + j) = some (mz_up w) ∧ w ∈ vs := by
  intro vs
  induction vs with
  | nil => intro n i j w h; rw [mz_en, mz_rep_g] at h; cases h
  | cons v t ih =>
    intro n i j w h
    have go : ∀ (m k : Nat), (mz_up v).category = k → (k = 1 ∨ k = 2) → mz_g (some v :: (if k = 2 then none :: mz_en t m else mz_en t m)) j = some w → mx_lk (lv_args i ((v :: t).map mz_up)) (i + j) = some (mz_up w) ∧ w ∈ v :: t := by
      intro m k hk hk2 hg
      have e9 : lv_args i ((v :: t).map mz_up) = (i, mz_up v) :: lv_args (if k = 2 then i + 2 else i + 1) (t.map mz_up) := by
        rw [List.map_cons, lv_args, hk]
      rw [e9]
      unfold mx_lk
      cases j with
      | zero =>
        simp only [mz_g, Option.some.injEq] at hg
        subst hg
        exact ⟨by simp, List.mem_cons_self⟩
      | succ j =>
        rw [if_neg (by omega)]
        simp only [mz_g] at hg
        rcases hk2 with rfl | rfl
        · rw [if_neg (by decide)] at hg ⊢
          have := ih m (i + 1) j w hg
          rw [show i + (j + 1) = i + 1 + j by omega]
          exact ⟨this.1, List.mem_cons_of_mem _ this.2⟩
        · rw [if_pos rfl] at hg ⊢
          cases j with
          | zero => simp [mz_g] at hg
          | succ j =>
            simp only [mz_g] at hg
            have := ih m (i + 2) j w hg
            rw [show i + (j + 1 + 1) = i + 2 + j by omega]
            exact ⟨this.1, List.mem_cons_of_mem _ this.2⟩
    rcases v with x | a | x
    · exact go (n - 1) 1 rfl (Or.inl rfl) h
    · exact go (n - 1) 1 rfl (Or.inl rfl) h
    · exact go (n - 2) 2 rfl (Or.inr rfl) h
theorem mz_en_l {vs : List mz_W} (n : Nat) (h : ∀ w ∈ vs, mz_ok w) : mz_l (mx_en (vs.map mz_up)) (mz_en vs n) := by
  intro j w hj
  have := mz_en_g vs n 0 j w hj
  rw [Nat.zero_add] at this
  exact ⟨this.1, h w this.2⟩
theorem mz_CA_of {e : mz_E} {d j : Nat} {args : List mz_W} {H : mz_H} {P : mz_O → mz_H → Prop} {M : mx_M} (hj : (mx_mtT[j]?).map (fun e => e.1) = some M) (k : mz_V e d M 0 (mz_en args M.2.2.1) [] H P) : mz_CA e d j args H P := by
  intro ha hH
  obtain ⟨r, hr, rfl⟩ := Option.map_eq_some_iff.mp hj
  exact ⟨r, hr, k (fun w hw => by cases hw) hH _ (mz_en_l _ ha)⟩
theorem mz_in_t {x : Int} (h : mz_in x) : (Int32.ofInt x).toInt = x := Int32.toInt_ofInt_of_le (by unfold mz_in at h; omega) (by unfold mz_in at h; omega)
theorem mz_jn_t {x : Int} (h : mz_jn x) : (Int64.ofInt x).toInt = x := Int64.toInt_ofInt_of_le (by unfold mz_jn at h; omega) (by unfold mz_jn at h; omega)
theorem mz_in_i (x : Int32) : mz_in x.toInt := ⟨by have := Int32.le_toInt x; omega, by have := Int32.toInt_lt x; omega⟩
theorem mz_jn_i (x : Int64) : mz_jn x.toInt := ⟨by have := Int64.le_toInt x; omega, by have := Int64.toInt_lt x; omega⟩
theorem mz_eq {x y : Int} (hx : mz_in x) (hy : mz_in y) : Int32.ofInt x = Int32.ofInt y ↔ x = y := by rw [← Int32.toInt_inj, mz_in_t hx, mz_in_t hy]
theorem mz_lt {x y : Int} (hx : mz_in x) (hy : mz_in y) : Int32.ofInt x < Int32.ofInt y ↔ x < y := by rw [Int32.lt_iff_toInt_lt, mz_in_t hx, mz_in_t hy]
theorem mz_le {x y : Int} (hx : mz_in x) (hy : mz_in y) : Int32.ofInt x ≤ Int32.ofInt y ↔ x ≤ y := by rw [Int32.le_iff_toInt_le, mz_in_t hx, mz_in_t hy]
theorem mz_0 : (0 : Int32) = Int32.ofInt 0 := by decide
theorem mz_in0 : mz_in 0 := by unfold mz_in; omega
theorem mz_nat {x : Int} (hx : mz_in x) (h0 : 0 ≤ x) : (Int32.ofInt x).toNatClampNeg = x.toNat := by
  show ((Int32.ofInt x).toInt).toNat = x.toNat
  rw [mz_in_t hx]
theorem mz_vin {x : Int} {n : Nat} (hx : mz_in x) (h0 : 0 ≤ x) (h1 : x < n) : vp_in (Int32.ofInt x) n := by
  unfold vp_in
  rw [mz_nat hx h0, mz_0, mz_lt hx mz_in0]
  omega
theorem mz_div {x y : Int} (hx : mz_in x) (hy : mz_in y) (h : 0 < y) : Int32.ofInt x / Int32.ofInt y = Int32.ofInt (x.tdiv y) ∧ mz_in (x.tdiv y) := by
  have hb : mz_in (x.tdiv y) := by
    unfold mz_in at *
    rcases Int.le_total 0 x with q | q
    · have := Int.tdiv_nonneg q (Int.le_of_lt h)
      have := Int.tdiv_le_self y q
      omega
    · obtain ⟨z, rfl⟩ : ∃ z : Int, x = -z := ⟨-x, by omega⟩
      have h3 : 0 ≤ z := by omega
      rw [Int.neg_tdiv]
      have := Int.tdiv_nonneg h3 (Int.le_of_lt h)
      have := Int.tdiv_le_self y h3
      omega
  refine ⟨?_, hb⟩
  rw [← Int32.toInt_inj, Int32.toInt_div, mz_in_t hx, mz_in_t hy, mz_in_t hb]
  exact Int.bmod_eq_of_le (by unfold mz_in at hb; omega) (by unfold mz_in at hb; omega)
theorem mz_rem {x y : Int} (hx : mz_in x) (hy : mz_in y) (h : 0 < y) : Int32.ofInt x - Int32.ofInt x / Int32.ofInt y * Int32.ofInt y = Int32.ofInt (x.tmod y) ∧ mz_in (x.tmod y) := by
  obtain ⟨a, b⟩ := mz_div hx hy h
  have e9 : x.tmod y = x - x.tdiv y * y := by have := Int.mul_tdiv_add_tmod x y; rw [Int.mul_comm] at this; omega
  refine ⟨by rw [a, e9, Int32.ofInt_sub, Int32.ofInt_mul], ?_⟩
  unfold mz_in at *
  have h1 := Int.tmod_lt_of_pos x h
  have h2 : -y < x.tmod y := by
    rcases Int.le_total 0 x with q | q
    · have := Int.tmod_nonneg y q
      omega
    · obtain ⟨z, rfl⟩ : ∃ z : Int, x = -z := ⟨-x, by omega⟩
      rw [Int.neg_tmod]
      have := Int.tmod_lt_of_pos z h
      omega
  omega
theorem mz_jdiv {x y : Int} (hx : mz_jn x) (hy : mz_jn y) (h : 0 < y) : Int64.ofInt x / Int64.ofInt y = Int64.ofInt (x.tdiv y) ∧ mz_jn (x.tdiv y) := by
  have hb : mz_jn (x.tdiv y) := by
    unfold mz_jn at *
    rcases Int.le_total 0 x with q | q
    · have := Int.tdiv_nonneg q (Int.le_of_lt h)
      have := Int.tdiv_le_self y q
      omega
    · obtain ⟨z, rfl⟩ : ∃ z : Int, x = -z := ⟨-x, by omega⟩
      have h3 : 0 ≤ z := by omega
      rw [Int.neg_tdiv]
      have := Int.tdiv_nonneg h3 (Int.le_of_lt h)
      have := Int.tdiv_le_self y h3
      omega
  refine ⟨?_, hb⟩
  rw [← Int64.toInt_inj, Int64.toInt_div, mz_jn_t hx, mz_jn_t hy, mz_jn_t hb]
  exact Int.bmod_eq_of_le (by unfold mz_jn at hb; omega) (by unfold mz_jn at hb; omega)
theorem mz_jrem {x y : Int} (hx : mz_jn x) (hy : mz_jn y) (h : 0 < y) : Int64.ofInt x - Int64.ofInt x / Int64.ofInt y * Int64.ofInt y = Int64.ofInt (x.tmod y) ∧ mz_jn (x.tmod y) := by
  obtain ⟨a, b⟩ := mz_jdiv hx hy h
  have e9 : x.tmod y = x - x.tdiv y * y := by have := Int.mul_tdiv_add_tmod x y; rw [Int.mul_comm] at this; omega
  refine ⟨by rw [a, e9, Int64.ofInt_sub, Int64.ofInt_mul], ?_⟩
  unfold mz_jn at *
  have h1 := Int.tmod_lt_of_pos x h
  have h2 : -y < x.tmod y := by
    rcases Int.le_total 0 x with q | q
    · have := Int.tmod_nonneg y q
      omega
    · obtain ⟨z, rfl⟩ : ∃ z : Int, x = -z := ⟨-x, by omega⟩
      rw [Int.neg_tmod]
      have := Int.tmod_lt_of_pos z h
      omega
  omega
theorem mz_b8 {n : Int} (h : -128 ≤ n ∧ n < 128) : (Int8.ofInt n).toInt32 = Int32.ofInt n := by
  rw [← Int32.toInt_inj, Int8.toInt_toInt32, Int8.toInt_ofInt_of_le (by omega) (by omega), mz_in_t (by unfold mz_in; omega)]
theorem mz_b16 {n : Int} (h : -32768 ≤ n ∧ n < 32768) : (Int16.ofInt n).toInt32 = Int32.ofInt n := by
  rw [← Int32.toInt_inj, Int16.toInt_toInt32, Int16.toInt_ofInt_of_le (by omega) (by omega), mz_in_t (by unfold mz_in; omega)]
def mz_and (x y : Int) : Int := (Int32.ofInt x &&& Int32.ofInt y).toInt
def mz_or (x y : Int) : Int := (Int32.ofInt x ||| Int32.ofInt y).toInt
def mz_xor (x y : Int) : Int := (Int32.ofInt x ^^^ Int32.ofInt y).toInt
def mz_shl (x y : Int) : Int := (Int32.ofInt x <<< (Int32.ofInt y &&& 31)).toInt
def mz_shr (x y : Int) : Int := (Int32.ofInt x >>> (Int32.ofInt y &&& 31)).toInt
def mz_ushr (x y : Int) : Int := ((Int32.ofInt x).toUInt32 >>> ((Int32.ofInt y).toUInt32 &&& Int32.toUInt32 31)).toInt32.toInt
def mz_cmp (x y : Int) : Int := if y < x then 1 else if x = y then 0 else -1
theorem mz_cmp_ok {x y : Int} (hx : mz_jn x) (hy : mz_jn y) : lg_cmp (Int64.ofInt x) (Int64.ofInt y) = Int32.ofInt (mz_cmp x y) ∧ mz_in (mz_cmp x y) := by
  unfold lg_cmp mz_cmp
  simp only [gt_iff_lt, Int64.lt_iff_toInt_lt, ← Int64.toInt_inj, mz_jn_t hx, mz_jn_t hy]
  by_cases a : y < x
  · simp only [a, if_true]
    exact ⟨by decide, by unfold mz_in; omega⟩
  · by_cases b : x = y
    · simp only [a, b, if_true, if_false]
      simp only [Int.lt_irrefl, if_false]
      exact ⟨by decide, by unfold mz_in; omega⟩
    · simp only [a, b, if_false]
      exact ⟨by decide, by unfold mz_in; omega⟩
def mz_w (H : mz_H) (a i : Nat) (x : Int) : mz_H := (H.1, mx_up2 H.2.1 a i x, H.2.2)
def mz_wj (H : mz_H) (a i : Nat) (x : Int) : mz_H := (H.1, H.2.1, mx_up2 H.2.2 a i x)
def mz_cy (H : mz_H) (a sp b dp n : Nat) : mz_H := (H.1, mx_up1 H.2.1 b (va_cpy (H.2.1 a) (H.2.1 b) sp dp n), H.2.2)
theorem mz_uh_w (e : mz_E) (H : mz_H) (a i : Nat) (x : Int) : mx_si (mz_uh e H) a i (Int32.ofInt x) = mz_uh e (mz_w H a i x) := by
  unfold mx_si mz_uh mz_w
  simp only [Prod.mk.injEq, true_and, and_true]
  funext b j
  unfold mx_up2
  split <;> rfl
theorem mz_uh_wj (e : mz_E) (H : mz_H) (a i : Nat) (x : Int) : mx_sj (mz_uh e H) a i (Int64.ofInt x) = mz_uh e (mz_wj H a i x) := by
  unfold mx_sj mz_uh mz_wj
  simp only [Prod.mk.injEq, true_and]
  funext b j
  unfold mx_up2
  split <;> rfl
theorem mz_uh_cy (e : mz_E) (H : mz_H) (a sp b dp n : Nat) : mx_cpy (mz_uh e H) a sp b dp n = mz_uh e (mz_cy H a sp b dp n) := by
  unfold mx_cpy mz_uh mz_cy
  simp only [Prod.mk.injEq, true_and, and_true]
  funext c j
  unfold mx_up1 va_cpy
  by_cases q : c = b
  · simp only [q, if_true]
    split <;> rfl
  · simp only [q, if_false]
theorem mz_hk.w {H : mz_H} (h : mz_hk H) (a i : Nat) {x : Int} (hx : mz_in x) : mz_hk (mz_w H a i x) := by
  refine ⟨fun b j => ?_, h.2⟩
  unfold mz_w mx_up2
  dsimp only
  split
  · exact hx
  · exact h.1 b j
theorem mz_hk.wj {H : mz_H} (h : mz_hk H) (a i : Nat) {x : Int} (hx : mz_jn x) : mz_hk (mz_wj H a i x) := by
  refine ⟨h.1, fun b j => ?_⟩
  unfold mz_wj mx_up2
  dsimp only
  split
  · exact hx
  · exact h.2 b j
theorem mz_hk.cy {H : mz_H} (h : mz_hk H) (a sp b dp n : Nat) : mz_hk (mz_cy H a sp b dp n) := by
  refine ⟨fun c j => ?_, h.2⟩
  unfold mz_cy mx_up1 va_cpy
  dsimp only
  split
  · dsimp only
    split
    · exact h.1 _ _
    · exact h.1 _ _
  · exact h.1 c j

def mz_i (st : List mz_W) (k : Int → List mz_W → Prop) : Prop := match st with
  | .inl x :: t => k x t
  | _ => False
theorem mz_i_i {st : List mz_W} {k : Int → List mz_W → Prop} (h : mz_i st k) : ∃ x t, st = .inl x :: t ∧ k x t := by
  unfold mz_i at h
  split at h
  · exact ⟨_, _, rfl, h⟩
  · exact h.elim
def mz_ii (st : List mz_W) (k : Int → Int → List mz_W → Prop) : Prop := match st with
  | .inl y :: .inl x :: t => k x y t
  | _ => False
theorem mz_ii_i {st : List mz_W} {k : Int → Int → List mz_W → Prop} (h : mz_ii st k) : ∃ x y t, st = .inl y :: .inl x :: t ∧ k x y t := by
  unfold mz_ii at h
  split at h
  · exact ⟨_, _, _, rfl, h⟩
  · exact h.elim
def mz_r (st : List mz_W) (k : Nat → List mz_W → Prop) : Prop := match st with
  | .inr (.inl a) :: t => k a t
  | _ => False
theorem mz_r_i {st : List mz_W} {k : Nat → List mz_W → Prop} (h : mz_r st k) : ∃ a t, st = .inr (.inl a) :: t ∧ k a t := by
  unfold mz_r at h
  split at h
  · exact ⟨_, _, rfl, h⟩
  · exact h.elim
def mz_ir (st : List mz_W) (k : Int → Nat → List mz_W → Prop) : Prop := match st with
  | .inl i :: .inr (.inl a) :: t => k i a t
  | _ => False
theorem mz_ir_i {st : List mz_W} {k : Int → Nat → List mz_W → Prop} (h : mz_ir st k) : ∃ i a t, st = .inl i :: .inr (.inl a) :: t ∧ k i a t := by
  unfold mz_ir at h
  split at h
  · exact ⟨_, _, _, rfl, h⟩
  · exact h.elim
def mz_xir (st : List mz_W) (k : Int → Int → Nat → List mz_W → Prop) : Prop := match st with
  | .inl x :: .inl i :: .inr (.inl a) :: t => k x i a t
  | _ => False
theorem mz_xir_i {st : List mz_W} {k : Int → Int → Nat → List mz_W → Prop} (h : mz_xir st k) : ∃ x i a t, st = .inl x :: .inl i :: .inr (.inl a) :: t ∧ k x i a t := by
  unfold mz_xir at h
  split at h
  · exact ⟨_, _, _, _, rfl, h⟩
  · exact h.elim
def mz_jir (st : List mz_W) (k : Int → Int → Nat → List mz_W → Prop) : Prop := match st with
  | .inr (.inr x) :: .inl i :: .inr (.inl a) :: t => k x i a t
  | _ => False
theorem mz_jir_i {st : List mz_W} {k : Int → Int → Nat → List mz_W → Prop} (h : mz_jir st k) : ∃ x i a t, st = .inr (.inr x) :: .inl i :: .inr (.inl a) :: t ∧ k x i a t := by
  unfold mz_jir at h
  split at h
  · exact ⟨_, _, _, _, rfl, h⟩
  · exact h.elim
def mz_xr (st : List mz_W) (k : Int → Nat → List mz_W → Prop) : Prop := match st with
  | .inl x :: .inr (.inl a) :: t => k x a t
  | _ => False
theorem mz_xr_i {st : List mz_W} {k : Int → Nat → List mz_W → Prop} (h : mz_xr st k) : ∃ x a t, st = .inl x :: .inr (.inl a) :: t ∧ k x a t := by
  unfold mz_xr at h
  split at h
  · exact ⟨_, _, _, rfl, h⟩
  · exact h.elim
def mz_j (st : List mz_W) (k : Int → List mz_W → Prop) : Prop := match st with
  | .inr (.inr x) :: t => k x t
  | _ => False
theorem mz_j_i {st : List mz_W} {k : Int → List mz_W → Prop} (h : mz_j st k) : ∃ x t, st = .inr (.inr x) :: t ∧ k x t := by
  unfold mz_j at h
  split at h
  · exact ⟨_, _, rfl, h⟩
  · exact h.elim
def mz_jj (st : List mz_W) (k : Int → Int → List mz_W → Prop) : Prop := match st with
  | .inr (.inr y) :: .inr (.inr x) :: t => k x y t
  | _ => False
theorem mz_jj_i {st : List mz_W} {k : Int → Int → List mz_W → Prop} (h : mz_jj st k) : ∃ x y t, st = .inr (.inr y) :: .inr (.inr x) :: t ∧ k x y t := by
  unfold mz_jj at h
  split at h
  · exact ⟨_, _, _, rfl, h⟩
  · exact h.elim
def mz_cp5 (st : List mz_W) (k : Nat → Int → Nat → Int → Int → List mz_W → Prop) : Prop := match st with
  | .inl n :: .inl dp :: .inr (.inl b) :: .inl sp :: .inr (.inl a) :: t => k a sp b dp n t
  | _ => False
theorem mz_cp5_i {st : List mz_W} {k : Nat → Int → Nat → Int → Int → List mz_W → Prop} (h : mz_cp5 st k) : ∃ a sp b dp n t, st = .inl n :: .inl dp :: .inr (.inl b) :: .inl sp :: .inr (.inl a) :: t ∧ k a sp b dp n t := by
  unfold mz_cp5 at h
  split at h
  · exact ⟨_, _, _, _, _, _, rfl, h⟩
  · exact h.elim
def mz_c1 : mz_W → Prop
  | .inl _ => True
  | .inr (.inl _) => True
  | .inr (.inr _) => False
theorem mz_c1_c {w : mz_W} (h : mz_c1 w) : (mz_up w).category = 1 := by rcases w with x | a | x <;> first | rfl | exact h.elim
def mz_v (st : List mz_W) (k : mz_W → List mz_W → Prop) : Prop := match st with
  | v :: t => mz_c1 v ∧ k v t
  | _ => False
theorem mz_v_i {st : List mz_W} {k : mz_W → List mz_W → Prop} (h : mz_v st k) : ∃ v t, st = v :: t ∧ mz_c1 v ∧ k v t := by
  unfold mz_v at h
  split at h
  · exact ⟨_, _, rfl, h⟩
  · exact h.elim
def mz_vv (st : List mz_W) (k : mz_W → mz_W → List mz_W → Prop) : Prop := match st with
  | v :: w :: t => mz_c1 v ∧ mz_c1 w ∧ k v w t
  | _ => False
theorem mz_vv_i {st : List mz_W} {k : mz_W → mz_W → List mz_W → Prop} (h : mz_vv st k) : ∃ v w t, st = v :: w :: t ∧ mz_c1 v ∧ mz_c1 w ∧ k v w t := by
  unfold mz_vv at h
  split at h
  · exact ⟨_, _, _, rfl, h⟩
  · exact h.elim
def mz_li (o : Option mz_W) (k : Int → Prop) : Prop := match o with
  | some (.inl x) => k x
  | _ => False
theorem mz_li_i {o : Option mz_W} {k : Int → Prop} (h : mz_li o k) : ∃ x, o = some (.inl x) ∧ k x := by
  unfold mz_li at h
  split at h
  · exact ⟨_, rfl, h⟩
  · exact h.elim
def mz_lr (o : Option mz_W) (k : Nat → Prop) : Prop := match o with
  | some (.inr (.inl x)) => k x
  | _ => False
theorem mz_lr_i {o : Option mz_W} {k : Nat → Prop} (h : mz_lr o k) : ∃ x, o = some (.inr (.inl x)) ∧ k x := by
  unfold mz_lr at h
  split at h
  · exact ⟨_, rfl, h⟩
  · exact h.elim
def mz_lj (o : Option mz_W) (k : Int → Prop) : Prop := match o with
  | some (.inr (.inr x)) => k x
  | _ => False
theorem mz_lj_i {o : Option mz_W} {k : Int → Prop} (h : mz_lj o k) : ∃ x, o = some (.inr (.inr x)) ∧ k x := by
  unfold mz_lj at h
  split at h
  · exact ⟨_, rfl, h⟩
  · exact h.elim
def mz_rv (o : Option Nat) (k : Nat → Prop) : Prop := match o with
  | some a => k a
  | none => False
theorem mz_rv_i {o : Option Nat} {k : Nat → Prop} (h : mz_rv o k) : ∃ a, o = some a ∧ k a := by
  unfold mz_rv at h
  split at h
  · exact ⟨_, rfl, h⟩
  · exact h.elim
def mz_kd (o : Option (Nat × Nat)) (k : Nat → Nat → Prop) : Prop := match o with
  | some (c, n) => k c n
  | none => False
theorem mz_kd_i {o : Option (Nat × Nat)} {k : Nat → Nat → Prop} (h : mz_kd o k) : ∃ c n, o = some (c, n) ∧ k c n := by
  unfold mz_kd at h
  split at h
  · exact ⟨_, _, rfl, h⟩
  · exact h.elim
def mz_fd (o : Option (Nat × Nat × Nat)) (k : Nat → Nat → Nat → Prop) : Prop := match o with
  | some (c, n, t) => k c n t
  | none => False
theorem mz_fd_i {o : Option (Nat × Nat × Nat)} {k : Nat → Nat → Nat → Prop} (h : mz_fd o k) : ∃ c n t, o = some (c, n, t) ∧ k c n t := by
  unfold mz_fd at h
  split at h
  · exact ⟨_, _, _, rfl, h⟩
  · exact h.elim
def mz_c4 (o : Option Int32) (k : Int32 → Prop) : Prop := match o with
  | some a => k a
  | none => False
theorem mz_c4_i {o : Option Int32} {k : Int32 → Prop} (h : mz_c4 o k) : ∃ a, o = some a ∧ k a := by
  unfold mz_c4 at h
  split at h
  · exact ⟨_, rfl, h⟩
  · exact h.elim
def mz_c8 (o : Option Int64) (k : Int64 → Prop) : Prop := match o with
  | some a => k a
  | none => False
theorem mz_c8_i {o : Option Int64} {k : Int64 → Prop} (h : mz_c8 o k) : ∃ a, o = some a ∧ k a := by
  unfold mz_c8 at h
  split at h
  · exact ⟨_, rfl, h⟩
  · exact h.elim
/-- how many slots values take -/
def mz_sz : List mz_W → Nat
  | [] => 0
  | .inl _ :: t => mz_sz t + 1
  | .inr (.inl _) :: t => mz_sz t + 1
  | .inr (.inr _) :: t => mz_sz t + 2
theorem mz_sz_ok (st : List mz_W) : mx_sz (st.map mz_up) = mz_sz st := by
  induction st with
  | nil => rfl
  | cons v t ih => rcases v with x | a | x <;> simp [mz_up, mx_sz, mz_sz, ih]
/-- the handler that takes exception x thrown at pc -/
def mz_hd : List (Nat × Nat × Nat × Nat) → Nat → Nat → Option Nat
  | [], _, _ => none
  | (a, b, hp, ct) :: t, pc, x => match mx_ct ct with
    | some y => if y = x then (if a ≤ pc ∧ pc < b then some hp else none) else mz_hd t pc x
    | none => none
/-- behind a call -/
def mz_af (M : mx_M) (pc : Nat) (L : mz_L) (rest : List mz_W) (P : mz_O → mz_H → Prop) (K : Nat → mz_L → List mz_W → mz_H → Prop) (o : mz_O) (H : mz_H) : Prop := match o with
  | .inl none => K (pc + 3) L rest H
  | .inl (some v) => K (pc + 3) L (v :: rest) H
  | .inr x => if M.2.2.2.2.1 = [] then P (.inr x) H else M.2.1 = "IdealWorksLaw" ∧ x < 3 ∧ ∃ hp, mz_hd M.2.2.2.2.1 pc x = some hp ∧ ∀ q, K hp L [.inr (.inl q)] H
/-- a call: how many values, what kind, how many locals -/
def mz_dn (d : Nat) (k : Nat → Prop) : Prop := match d with
  | 0 => False
  | d + 1 => k d
theorem mz_dn_i {d : Nat} {k : Nat → Prop} (h : mz_dn d k) : ∃ d2, d = d2 + 1 ∧ k d2 := by
  cases d with
  | zero => exact h.elim
  | succ d => exact ⟨d, rfl, h⟩
def mz_mt (o : Option Nat) (k : Nat → Nat → Nat → Nat → Nat → Prop) : Prop := match o with
  | some j => k j (mx_sg j).1 (mx_sg j).2.1 (mx_sg j).2.2.1 (mx_sg j).2.2.2
  | none => False
theorem mz_mt_i {o : Option Nat} {k : Nat → Nat → Nat → Nat → Nat → Prop} (h : mz_mt o k) : ∃ j, o = some j ∧ k j (mx_sg j).1 (mx_sg j).2.1 (mx_sg j).2.2.1 (mx_sg j).2.2.2 := by
  unfold mz_mt at h
  split at h
  · exact ⟨_, rfl, h⟩
  · exact h.elim
/-- what is owed at an instruction; K: what is owed at the next -/
def mz_I (e : mz_E) (d : Nat) (M : mx_M) (P : mz_O → mz_H → Prop) (K : Nat → mz_L → List mz_W → mz_H → Prop) (pc : Nat) (L : mz_L) (st : List mz_W) (H : mz_H) (i : Instr) (len : Nat) : Prop := match i with
  | .iconst n => len = 1 ∧ (mz_in n ∧ K (pc + 1) L (.inl n :: st) H)
  | .bipush n => len = 2 ∧ ((-128 ≤ n ∧ n < 128) ∧ K (pc + 2) L (.inl n :: st) H)
  | .sipush n => len = 3 ∧ ((-32768 ≤ n ∧ n < 32768) ∧ K (pc + 3) L (.inl n :: st) H)
  | .lconst n => len = 1 ∧ (mz_jn ((n : Nat) : Int) ∧ K (pc + 1) L (.inr (.inr ((n : Nat) : Int)) :: st) H)
  | .iload i => len = 2 ∧ (mz_li (mz_g L i) fun x => K (pc + 2) L (.inl x :: st) H)
  | .iload_n i => len = 1 ∧ (mz_li (mz_g L i) fun x => K (pc + 1) L (.inl x :: st) H)
  | .aload i => len = 2 ∧ (mz_lr (mz_g L i) fun x => K (pc + 2) L (.inr (.inl x) :: st) H)
  | .aload_n i => len = 1 ∧ (mz_lr (mz_g L i) fun x => K (pc + 1) L (.inr (.inl x) :: st) H)
  | .lload i => len = 2 ∧ (mz_lj (mz_g L i) fun x => K (pc + 2) L (.inr (.inr x) :: st) H)
  | .lload_n i => len = 1 ∧ (mz_lj (mz_g L i) fun x => K (pc + 1) L (.inr (.inr x) :: st) H)
  | .istore i => len = 2 ∧ ((i : Nat) < M.2.2.1 ∧ mz_i st fun x t => K (pc + 2) (mz_st L i (.inl x)) t H)
  | .istore_n i => len = 1 ∧ ((i : Nat) < M.2.2.1 ∧ mz_i st fun x t => K (pc + 1) (mz_st L i (.inl x)) t H)
  | .astore i => len = 2 ∧ ((i : Nat) < M.2.2.1 ∧ mz_r st fun x t => K (pc + 2) (mz_st L i (.inr (.inl x))) t H)
  | .astore_n i => len = 1 ∧ ((i : Nat) < M.2.2.1 ∧ mz_r st fun x t => K (pc + 1) (mz_st L i (.inr (.inl x))) t H)
  | .lstore i => len = 2 ∧ ((i : Nat) + 1 < M.2.2.1 ∧ mz_j st fun x t => K (pc + 2) (mz_s2 L i (.inr (.inr x))) t H)
  | .lstore_n i => len = 1 ∧ ((i : Nat) + 1 < M.2.2.1 ∧ mz_j st fun x t => K (pc + 1) (mz_s2 L i (.inr (.inr x))) t H)
  | .iinc i n => len = 3 ∧ (i < M.2.2.1 ∧ mz_li (mz_g L i) fun x => mz_in (x + n) ∧ K (pc + 3) (mz_st L i (.inl (x + n))) st H)
  | .iadd => len = 1 ∧ (mz_ii st fun x y t => mz_in (x + y) ∧ K (pc + 1) L (.inl (x + y) :: t) H)
  | .isub => len = 1 ∧ (mz_ii st fun x y t => mz_in (x - y) ∧ K (pc + 1) L (.inl (x - y) :: t) H)
  | .imul => len = 1 ∧ (mz_ii st fun x y t => mz_in (x * y) ∧ K (pc + 1) L (.inl (x * y) :: t) H)
  | .iand => len = 1 ∧ (mz_ii st fun x y t => K (pc + 1) L (.inl (mz_and x y) :: t) H)
  | .ior => len = 1 ∧ (mz_ii st fun x y t => K (pc + 1) L (.inl (mz_or x y) :: t) H)
  | .ixor => len = 1 ∧ (mz_ii st fun x y t => K (pc + 1) L (.inl (mz_xor x y) :: t) H)
  | .ishl => len = 1 ∧ (mz_ii st fun x y t => K (pc + 1) L (.inl (mz_shl x y) :: t) H)
  | .ishr => len = 1 ∧ (mz_ii st fun x y t => K (pc + 1) L (.inl (mz_shr x y) :: t) H)
  | .iushr => len = 1 ∧ (mz_ii st fun x y t => K (pc + 1) L (.inl (mz_ushr x y) :: t) H)
  | .idiv => len = 1 ∧ (mz_ii st fun x y t => 0 < y ∧ K (pc + 1) L (.inl (x.tdiv y) :: t) H)
  | .irem => len = 1 ∧ (mz_ii st fun x y t => 0 < y ∧ K (pc + 1) L (.inl (x.tmod y) :: t) H)
  | .ineg => len = 1 ∧ (mz_i st fun x t => mz_in (-x) ∧ K (pc + 1) L (.inl (-x) :: t) H)
  | .ladd => len = 1 ∧ (mz_jj st fun x y t => mz_jn (x + y) ∧ K (pc + 1) L (.inr (.inr (x + y)) :: t) H)
  | .lsub => len = 1 ∧ (mz_jj st fun x y t => mz_jn (x - y) ∧ K (pc + 1) L (.inr (.inr (x - y)) :: t) H)
  | .lmul => len = 1 ∧ (mz_jj st fun x y t => mz_jn (x * y) ∧ K (pc + 1) L (.inr (.inr (x * y)) :: t) H)
  | .lrem => len = 1 ∧ (mz_jj st fun x y t => 0 < y ∧ K (pc + 1) L (.inr (.inr (x.tmod y)) :: t) H)
  | .lcmp => len = 1 ∧ (mz_jj st fun x y t => K (pc + 1) L (.inl (mz_cmp x y) :: t) H)
  | .i2l => len = 1 ∧ (mz_i st fun x t => K (pc + 1) L (.inr (.inr x) :: t) H)
  | .l2i => len = 1 ∧ (mz_j st fun x t => mz_in x ∧ K (pc + 1) L (.inl x :: t) H)
  | .i2b => len = 1 ∧ (mz_i st fun x t => (-128 ≤ x ∧ x < 128) ∧ K (pc + 1) L (.inl x :: t) H)
  | .dup => len = 1 ∧ (mz_v st fun v t => K (pc + 1) L (v :: v :: t) H)
  | .pop => len = 1 ∧ (mz_v st fun _ t => K (pc + 1) L t H)
  | .dup2 => len = 1 ∧ (mz_vv st fun v w t => K (pc + 1) L (v :: w :: v :: w :: t) H)
  | .ifCond .eq off => len = 3 ∧ (0 ≤ (pc : Int) + off ∧ mz_i st fun x t => (x = 0 → K (mx_to pc off) L t H) ∧ (¬ x = 0 → K (pc + 3) L t H))
  | .if_icmp .eq off => len = 3 ∧ (0 ≤ (pc : Int) + off ∧ mz_ii st fun x y t => (x = y → K (mx_to pc off) L t H) ∧ (¬ x = y → K (pc + 3) L t H))
  | .ifCond .ne off => len = 3 ∧ (0 ≤ (pc : Int) + off ∧ mz_i st fun x t => (¬ x = 0 → K (mx_to pc off) L t H) ∧ (x = 0 → K (pc + 3) L t H))
  | .if_icmp .ne off => len = 3 ∧ (0 ≤ (pc : Int) + off ∧ mz_ii st fun x y t => (¬ x = y → K (mx_to pc off) L t H) ∧ (x = y → K (pc + 3) L t H))
  | .ifCond .lt off => len = 3 ∧ (0 ≤ (pc : Int) + off ∧ mz_i st fun x t => (x < 0 → K (mx_to pc off) L t H) ∧ (¬ x < 0 → K (pc + 3) L t H))
  | .if_icmp .lt off => len = 3 ∧ (0 ≤ (pc : Int) + off ∧ mz_ii st fun x y t => (x < y → K (mx_to pc off) L t H) ∧ (¬ x < y → K (pc + 3) L t H))
  | .ifCond .ge off => len = 3 ∧ (0 ≤ (pc : Int) + off ∧ mz_i st fun x t => (0 ≤ x → K (mx_to pc off) L t H) ∧ (¬ 0 ≤ x → K (pc + 3) L t H))
  | .if_icmp .ge off => len = 3 ∧ (0 ≤ (pc : Int) + off ∧ mz_ii st fun x y t => (y ≤ x → K (mx_to pc off) L t H) ∧ (¬ y ≤ x → K (pc + 3) L t H))
  | .ifCond .gt off => len = 3 ∧ (0 ≤ (pc : Int) + off ∧ mz_i st fun x t => (0 < x → K (mx_to pc off) L t H) ∧ (¬ 0 < x → K (pc + 3) L t H))
  | .if_icmp .gt off => len = 3 ∧ (0 ≤ (pc : Int) + off ∧ mz_ii st fun x y t => (y < x → K (mx_to pc off) L t H) ∧ (¬ y < x → K (pc + 3) L t H))
  | .ifCond .le off => len = 3 ∧ (0 ≤ (pc : Int) + off ∧ mz_i st fun x t => (x ≤ 0 → K (mx_to pc off) L t H) ∧ (¬ x ≤ 0 → K (pc + 3) L t H))
  | .if_icmp .le off => len = 3 ∧ (0 ≤ (pc : Int) + off ∧ mz_ii st fun x y t => (x ≤ y → K (mx_to pc off) L t H) ∧ (¬ x ≤ y → K (pc + 3) L t H))
  | .goto off => len = 3 ∧ (0 ≤ (pc : Int) + off ∧ K (mx_to pc off) L st H)
  | .iaload => len = 1 ∧ (mz_ir st fun i a t => mz_kd (e.2.1 a) fun k n => (k = 20 ∨ k = 21) ∧ (0 ≤ i ∧ i < (n : Int)) ∧ K (pc + 1) L (.inl (H.2.1 a i.toNat) :: t) H)
  | .baload => len = 1 ∧ (mz_ir st fun i a t => mz_kd (e.2.1 a) fun k n => (k = 22 ∨ k = 23) ∧ (0 ≤ i ∧ i < (n : Int)) ∧ K (pc + 1) L (.inl (H.2.1 a i.toNat) :: t) H)
  | .laload => len = 1 ∧ (mz_ir st fun i a t => mz_kd (e.2.1 a) fun k n => k = 24 ∧ (0 ≤ i ∧ i < (n : Int)) ∧ K (pc + 1) L (.inr (.inr (H.2.2 a i.toNat)) :: t) H)
  | .aaload => len = 1 ∧ (mz_ir st fun i a t => mz_kd (e.2.1 a) fun k n => (k = 25 ∨ k = 26) ∧ (0 ≤ i ∧ i < (n : Int)) ∧ mz_rv (e.2.2.1 a i.toNat) fun b => K (pc + 1) L (.inr (.inl b) :: t) H)
  | .iastore => len = 1 ∧ (mz_xir st fun x i a t => mz_kd (e.2.1 a) fun k n => k = 20 ∧ (0 ≤ i ∧ i < (n : Int)) ∧ K (pc + 1) L t (mz_w H a i.toNat x))
  | .bastore => len = 1 ∧ (mz_xir st fun x i a t => mz_kd (e.2.1 a) fun k n => ((k = 22 ∧ -128 ≤ x ∧ x < 128) ∨ (k = 23 ∧ (x = 0 ∨ x = 1))) ∧ (0 ≤ i ∧ i < (n : Int)) ∧ K (pc + 1) L t (mz_w H a i.toNat x))
  | .lastore => len = 1 ∧ (mz_jir st fun x i a t => mz_kd (e.2.1 a) fun k n => k = 24 ∧ (0 ≤ i ∧ i < (n : Int)) ∧ K (pc + 1) L t (mz_wj H a i.toNat x))
  | .arraylength => len = 1 ∧ (mz_r st fun a t => mz_kd (e.2.1 a) fun k n => 20 ≤ k ∧ k < 27 ∧ mz_in (n : Int) ∧ K (pc + 1) L (.inl (n : Int) :: t) H)
  | .getfield idx => len = 3 ∧ (mz_r st fun a t => mz_fd (mx_fl M.2.1 idx) fun c k tag => mz_kd (e.2.1 a) fun c2 _ => c2 = c ∧ (if tag % 10 = 2 then mz_rv (e.2.2.1 a k) fun b => K (pc + 3) L (.inr (.inl b) :: t) H else K (pc + 3) L (.inl (H.2.1 a k) :: t) H))
  | .putfield idx => len = 3 ∧ (mz_xr st fun x a t => mz_fd (mx_fl M.2.1 idx) fun c k tag => mz_kd (e.2.1 a) fun c2 _ => c2 = c ∧ (tag = 0 ∨ (tag = 1 ∧ (x = 0 ∨ x = 1))) ∧ K (pc + 3) L t (mz_w H a k x))
  | .new idx => len = 3 ∧ (∃ x, mx_xi M.2.1 idx = some x ∧ x < 3 ∧ M.2.2.2.2.1 = [] ∧ decode (mx_ca M.1) (pc + 3) = .ok (.dup, 1) ∧ decode (mx_ca M.1) (pc + 4) = .ok (.invokespecial (mx_ic x), 3) ∧ decode (mx_ca M.1) (pc + 7) = .ok (.athrow, 1) ∧ mz_sz st ≤ 8 ∧ e.2.2.2.1 + H.1 + 1 ≤ 601024 ∧ e.2.2.2.2 + 6 * H.1 + 6 ≤ 7293034 ∧ P (.inr x) (H.1 + 1, H.2))
  | .getstatic idx => len = 3 ∧ (idx = 58 ∧ M.2.1 = "IdealWorks$Ring" ∧ K (pc + 3) L (.inr (.inl e.1.2.2.2.2) :: st) H)
  | .ldc idx => len = 2 ∧ (mz_c4 (mx_kc M.2.1 idx) fun x => K (pc + 2) L (.inl x.toInt :: st) H)
  | .ldc_w idx => len = 3 ∧ (mz_c4 (mx_kc M.2.1 idx) fun x => K (pc + 3) L (.inl x.toInt :: st) H)
  | .ldc2_w idx => len = 3 ∧ (mz_c8 (mx_kl M.2.1 idx) fun x => K (pc + 3) L (.inr (.inr x.toInt) :: st) H)
  | .ireturn => len = 1 ∧ (mz_i st fun v t => t = [] ∧ (M.2.2.2.1 = some .int ∨ (M.2.2.2.1 = some .boolean ∧ (v = 0 ∨ v = 1))) ∧ P (.inl (some (.inl v))) H)
  | .return_ => len = 1 ∧ (M.2.2.2.1 = none ∧ st = [] ∧ P (.inl none) H)
  | .invokestatic idx => len = 3 ∧ (if mx_cp M.2.1 idx = true then mz_cp5 st fun a sp b dp n t => mz_kd (e.2.1 a) fun ka na => mz_kd (e.2.1 b) fun kb nb => ka = 20 ∧ kb = 20 ∧ mz_sz t ≤ 8 ∧ (0 ≤ sp ∧ 0 ≤ dp ∧ 0 ≤ n ∧ sp + n ≤ (na : Int) ∧ dp + n ≤ (nb : Int)) ∧ K (pc + 3) L t (mz_cy H a sp.toNat b dp.toNat n.toNat) else mz_mt (mx_sl M.2.1 idx) fun j na kind _ ml => kind = 0 ∧ na ≤ st.length ∧ mz_sz ((st.take na).reverse) ≤ ml ∧ mz_sz (st.drop na) ≤ 8 ∧ mz_dn d fun d2 => mz_CA e d2 j ((st.take na).reverse) H (mz_af M pc L (st.drop na) P K))
  | .invokevirtual idx => len = 3 ∧ (mz_mt (mx_sl M.2.1 idx) fun j na kind cl ml => kind = 1 ∧ na ≤ st.length ∧ cl < 10 ∧ mz_r (st.drop na) fun b rest => mz_kd (e.2.1 b) fun c2 _ => c2 = cl ∧ mz_sz (.inr (.inl b) :: (st.take na).reverse) ≤ ml ∧ mz_sz rest ≤ 8 ∧ mz_dn d fun d2 => mz_CA e d2 j (.inr (.inl b) :: (st.take na).reverse) H (mz_af M pc L rest P K))
  | .tableswitch dflt lo hi offs => mz_i st fun x t => (x < lo ∨ hi < x → 0 ≤ (pc : Int) + dflt ∧ K (mx_to pc dflt) L t H) ∧ (¬ (x < lo ∨ hi < x) → ∃ off, offs[(x - lo).toNat]? = some off ∧ 0 ≤ (pc : Int) + off ∧ K (mx_to pc off) L t H)
  | .lookupswitch dflt ps => (ps.toList.zip (ps.toList.drop 1)).all (fun (a, next) => a.1 < next.1) = true ∧ mz_i st fun x t => 0 ≤ (pc : Int) + Op.lookupswitch.offset ps.toList dflt x ∧ K (mx_to pc (Op.lookupswitch.offset ps.toList dflt x)) L t H
  | _ => False
section MZ
variable {e : mz_E} {d : Nat} {M : mx_M} {pc : Nat} {l : mx_L} {L : mz_L} {st : List mz_W} {H : mz_H} {P : mz_O → mz_H → Prop} {K : Nat → mz_L → List mz_W → mz_H → Prop} {len : Nat}
def mz_K (e : mz_E) (K : Nat → mz_L → List mz_W → mz_H → Prop) (pc : Nat) (l : mx_L) (s : List Value) (h : mx_H) : Prop := ∃ L ST H, mz_l l L ∧ s = List.map mz_up ST ∧ h = mz_uh e H ∧ (∀ w ∈ ST, mz_ok w) ∧ mz_hk H ∧ K pc L ST H
theorem mz_K.mk (hl : mz_l l L) {ST : List mz_W} (hs : ∀ w ∈ ST, mz_ok w) (hH : mz_hk H) (hK : K pc L ST H) {s : List Value} {h : mx_H} (e1 : s = ST.map mz_up) (e2 : h = mz_uh e H) : mz_K e K pc l s h := ⟨L, ST, H, hl, e1, e2, hs, hH, hK⟩
theorem mz_c {w : mz_W} {t : List mz_W} (a : mz_ok w) (b : ∀ u ∈ t, mz_ok u) : ∀ u ∈ w :: t, mz_ok u := List.forall_mem_cons.mpr ⟨a, b⟩
theorem mz__iconst (hl : mz_l l L) (hs : ∀ w ∈ st, mz_ok w) (hH : mz_hk H) {n : Int} (hI : mz_I e d M P K pc L st H (.iconst n) len) : mx_I e.1 d M (mz_p e P) (mz_K e K) pc l (st.map mz_up) (mz_uh e H) (.iconst n) len := by
  obtain ⟨rfl, h1, hI⟩ := hI
  exact ⟨rfl, mz_K.mk hl (mz_c (w := .inl n) h1 hs) hH hI rfl rfl⟩
theorem mz__bipush (hl : mz_l l L) (hs : ∀ w ∈ st, mz_ok w) (hH : mz_hk H) {n : Int} (hI : mz_I e d M P K pc L st H (.bipush n) len) : mx_I e.1 d M (mz_p e P) (mz_K e K) pc l (st.map mz_up) (mz_uh e H) (.bipush n) len := by
  obtain ⟨rfl, h1, hI⟩ := hI
  exact ⟨rfl, mz_K.mk hl (mz_c (w := .inl n) (by unfold mz_ok mz_in; omega) hs) hH hI (by rw [mz_b8 h1]; rfl) rfl⟩
theorem mz__sipush (hl : mz_l l L) (hs : ∀ w ∈ st, mz_ok w) (hH : mz_hk H) {n : Int} (hI : mz_I e d M P K pc L st H (.sipush n) len) : mx_I e.1 d M (mz_p e P) (mz_K e K) pc l (st.map mz_up) (mz_uh e H) (.sipush n) len := by
  obtain ⟨rfl, h1, hI⟩ := hI
  exact ⟨rfl, mz_K.mk hl (mz_c (w := .inl n) (by unfold mz_ok mz_in; omega) hs) hH hI (by rw [mz_b16 h1]; rfl) rfl⟩
theorem mz__lconst (hl : mz_l l L) (hs : ∀ w ∈ st, mz_ok w) (hH : mz_hk H) {n : Fin 2} (hI : mz_I e d M P K pc L st H (.lconst n) len) : mx_I e.1 d M (mz_p e P) (mz_K e K) pc l (st.map mz_up) (mz_uh e H) (.lconst n) len := by
  obtain ⟨rfl, h1, hI⟩ := hI
  exact ⟨rfl, mz_K.mk hl (mz_c (w := .inr (.inr ((n : Nat) : Int))) h1 hs) hH hI rfl rfl⟩
theorem mz__iload (hl : mz_l l L) (hs : ∀ w ∈ st, mz_ok w) (hH : mz_hk H) {i : Nat} (hI : mz_I e d M P K pc L st H (.iload i) len) : mx_I e.1 d M (mz_p e P) (mz_K e K) pc l (st.map mz_up) (mz_uh e H) (.iload i) len := by
  obtain ⟨rfl, hI⟩ := hI
  obtain ⟨x, e9, hI⟩ := mz_li_i hI
  obtain ⟨f1, f2⟩ := hl _ _ e9
  refine ⟨rfl, ?_⟩
  rw [f1]
  exact mz_K.mk hl (mz_c f2 hs) hH hI rfl rfl
theorem mz__iload_n (hl : mz_l l L) (hs : ∀ w ∈ st, mz_ok w) (hH : mz_hk H) {i : Fin 4} (hI : mz_I e d M P K pc L st H (.iload_n i) len) : mx_I e.1 d M (mz_p e P) (mz_K e K) pc l (st.map mz_up) (mz_uh e H) (.iload_n i) len := by
  obtain ⟨rfl, hI⟩ := hI
  obtain ⟨x, e9, hI⟩ := mz_li_i hI
  obtain ⟨f1, f2⟩ := hl _ _ e9
  refine ⟨rfl, ?_⟩
  rw [f1]
  exact mz_K.mk hl (mz_c f2 hs) hH hI rfl rfl
theorem mz__aload (hl : mz_l l L) (hs : ∀ w ∈ st, mz_ok w) (hH : mz_hk H) {i : Nat} (hI : mz_I e d M P K pc L st H (.aload i) len) : mx_I e.1 d M (mz_p e P) (mz_K e K) pc l (st.map mz_up) (mz_uh e H) (.aload i) len := by
  obtain ⟨rfl, hI⟩ := hI
  obtain ⟨x, e9, hI⟩ := mz_lr_i hI
  obtain ⟨f1, f2⟩ := hl _ _ e9
  refine ⟨rfl, ?_⟩
  rw [f1]
  exact mz_K.mk hl (mz_c f2 hs) hH hI rfl rfl
theorem mz__aload_n (hl : mz_l l L) (hs : ∀ w ∈ st, mz_ok w) (hH : mz_hk H) {i : Fin 4} (hI : mz_I e d M P K pc L st H (.aload_n i) len) : mx_I e.1 d M (mz_p e P) (mz_K e K) pc l (st.map mz_up) (mz_uh e H) (.aload_n i) len := by
  obtain ⟨rfl, hI⟩ := hI
  obtain ⟨x, e9, hI⟩ := mz_lr_i hI
  obtain ⟨f1, f2⟩ := hl _ _ e9
  refine ⟨rfl, ?_⟩
  rw [f1]
  exact mz_K.mk hl (mz_c f2 hs) hH hI rfl rfl
theorem mz__lload (hl : mz_l l L) (hs : ∀ w ∈ st, mz_ok w) (hH : mz_hk H) {i : Nat} (hI : mz_I e d M P K pc L st H (.lload i) len) : mx_I e.1 d M (mz_p e P) (mz_K e K) pc l (st.map mz_up) (mz_uh e H) (.lload i) len := by
  obtain ⟨rfl, hI⟩ := hI
  obtain ⟨x, e9, hI⟩ := mz_lj_i hI
  obtain ⟨f1, f2⟩ := hl _ _ e9
  refine ⟨rfl, ?_⟩
  rw [f1]
  exact mz_K.mk hl (mz_c f2 hs) hH hI rfl rfl
theorem mz__lload_n (hl : mz_l l L) (hs : ∀ w ∈ st, mz_ok w) (hH : mz_hk H) {i : Fin 4} (hI : mz_I e d M P K pc L st H (.lload_n i) len) : mx_I e.1 d M (mz_p e P) (mz_K e K) pc l (st.map mz_up) (mz_uh e H) (.lload_n i) len := by
  obtain ⟨rfl, hI⟩ := hI
  obtain ⟨x, e9, hI⟩ := mz_lj_i hI
  obtain ⟨f1, f2⟩ := hl _ _ e9
  refine ⟨rfl, ?_⟩
  rw [f1]
  exact mz_K.mk hl (mz_c f2 hs) hH hI rfl rfl
theorem mz__istore (hl : mz_l l L) (hs : ∀ w ∈ st, mz_ok w) (hH : mz_hk H) {i : Nat} (hI : mz_I e d M P K pc L st H (.istore i) len) : mx_I e.1 d M (mz_p e P) (mz_K e K) pc l (st.map mz_up) (mz_uh e H) (.istore i) len := by
  obtain ⟨rfl, h1, hI⟩ := hI
  obtain ⟨x, t, rfl, hI⟩ := mz_i_i hI
  have q := List.forall_mem_cons.mp hs
  exact ⟨rfl, h1, mz_K.mk (hl.st _ q.1) q.2 hH hI rfl rfl⟩
theorem mz__istore_n (hl : mz_l l L) (hs : ∀ w ∈ st, mz_ok w) (hH : mz_hk H) {i : Fin 4} (hI : mz_I e d M P K pc L st H (.istore_n i) len) : mx_I e.1 d M (mz_p e P) (mz_K e K) pc l (st.map mz_up) (mz_uh e H) (.istore_n i) len := by
  obtain ⟨rfl, h1, hI⟩ := hI
  obtain ⟨x, t, rfl, hI⟩ := mz_i_i hI
  have q := List.forall_mem_cons.mp hs
  exact ⟨rfl, h1, mz_K.mk (hl.st _ q.1) q.2 hH hI rfl rfl⟩
theorem mz__astore (hl : mz_l l L) (hs : ∀ w ∈ st, mz_ok w) (hH : mz_hk H) {i : Nat} (hI : mz_I e d M P K pc L st H (.astore i) len) : mx_I e.1 d M (mz_p e P) (mz_K e K) pc l (st.map mz_up) (mz_uh e H) (.astore i) len := by
  obtain ⟨rfl, h1, hI⟩ := hI
  obtain ⟨x, t, rfl, hI⟩ := mz_r_i hI
  have q := List.forall_mem_cons.mp hs
  exact ⟨rfl, h1, mz_K.mk (hl.st _ q.1) q.2 hH hI rfl rfl⟩
theorem mz__astore_n (hl : mz_l l L) (hs : ∀ w ∈ st, mz_ok w) (hH : mz_hk H) {i : Fin 4} (hI : mz_I e d M P K pc L st H (.astore_n i) len) : mx_I e.1 d M (mz_p e P) (mz_K e K) pc l (st.map mz_up) (mz_uh e H) (.astore_n i) len := by
  obtain ⟨rfl, h1, hI⟩ := hI
  obtain ⟨x, t, rfl, hI⟩ := mz_r_i hI
  have q := List.forall_mem_cons.mp hs
  exact ⟨rfl, h1, mz_K.mk (hl.st _ q.1) q.2 hH hI rfl rfl⟩
theorem mz__lstore (hl : mz_l l L) (hs : ∀ w ∈ st, mz_ok w) (hH : mz_hk H) {i : Nat} (hI : mz_I e d M P K pc L st H (.lstore i) len) : mx_I e.1 d M (mz_p e P) (mz_K e K) pc l (st.map mz_up) (mz_uh e H) (.lstore i) len := by
  obtain ⟨rfl, h1, hI⟩ := hI
  obtain ⟨x, t, rfl, hI⟩ := mz_j_i hI
  have q := List.forall_mem_cons.mp hs
  exact ⟨rfl, h1, mz_K.mk (hl.s2 _ q.1) q.2 hH hI rfl rfl⟩
theorem mz__lstore_n (hl : mz_l l L) (hs : ∀ w ∈ st, mz_ok w) (hH : mz_hk H) {i : Fin 4} (hI : mz_I e d M P K pc L st H (.lstore_n i) len) : mx_I e.1 d M (mz_p e P) (mz_K e K) pc l (st.map mz_up) (mz_uh e H) (.lstore_n i) len := by
  obtain ⟨rfl, h1, hI⟩ := hI
  obtain ⟨x, t, rfl, hI⟩ := mz_j_i hI
  have q := List.forall_mem_cons.mp hs
  exact ⟨rfl, h1, mz_K.mk (hl.s2 _ q.1) q.2 hH hI rfl rfl⟩
theorem mz__iinc (hl : mz_l l L) (hs : ∀ w ∈ st, mz_ok w) (hH : mz_hk H) {i : Nat} {n : Int} (hI : mz_I e d M P K pc L st H (.iinc i n) len) : mx_I e.1 d M (mz_p e P) (mz_K e K) pc l (st.map mz_up) (mz_uh e H) (.iinc i n) len := by
  obtain ⟨rfl, h1, hI⟩ := hI
  obtain ⟨x, e9, h2, hI⟩ := mz_li_i hI
  obtain ⟨f1, f2⟩ := hl _ _ e9
  refine ⟨rfl, h1, ?_⟩
  rw [f1]
  have f3 := hl.st i (w := .inl (x + n)) h2
  have f4 : mz_up (.inl (x + n)) = .int (Int32.ofInt x + Int32.ofInt n) := by rw [← Int32.ofInt_add]; rfl
  rw [f4] at f3
  exact mz_K.mk f3 hs hH hI rfl rfl
theorem mz__iadd (hl : mz_l l L) (hs : ∀ w ∈ st, mz_ok w) (hH : mz_hk H) (hI : mz_I e d M P K pc L st H (.iadd) len) : mx_I e.1 d M (mz_p e P) (mz_K e K) pc l (st.map mz_up) (mz_uh e H) (.iadd) len := by
  obtain ⟨rfl, hI⟩ := hI
  obtain ⟨x, y, t, rfl, h1, hI⟩ := mz_ii_i hI
  have q := (List.forall_mem_cons.mp (List.forall_mem_cons.mp hs).2).2
  exact ⟨rfl, mz_K.mk hl (mz_c (w := .inl _) h1 q) hH hI (by simp only [List.map_cons, mz_up, Int32.ofInt_add]) rfl⟩
theorem mz__isub (hl : mz_l l L) (hs : ∀ w ∈ st, mz_ok w) (hH : mz_hk H) (hI : mz_I e d M P K pc L st H (.isub) len) : mx_I e.1 d M (mz_p e P) (mz_K e K) pc l (st.map mz_up) (mz_uh e H) (.isub) len := by
  obtain ⟨rfl, hI⟩ := hI
  obtain ⟨x, y, t, rfl, h1, hI⟩ := mz_ii_i hI
  have q := (List.forall_mem_cons.mp (List.forall_mem_cons.mp hs).2).2
  exact ⟨rfl, mz_K.mk hl (mz_c (w := .inl _) h1 q) hH hI (by simp only [List.map_cons, mz_up, Int32.ofInt_sub]) rfl⟩
theorem mz__imul (hl : mz_l l L) (hs : ∀ w ∈ st, mz_ok w) (hH : mz_hk H) (hI : mz_I e d M P K pc L st H (.imul) len) : mx_I e.1 d M (mz_p e P) (mz_K e K) pc l (st.map mz_up) (mz_uh e H) (.imul) len := by
  obtain ⟨rfl, hI⟩ := hI
  obtain ⟨x, y, t, rfl, h1, hI⟩ := mz_ii_i hI
  have q := (List.forall_mem_cons.mp (List.forall_mem_cons.mp hs).2).2
  exact ⟨rfl, mz_K.mk hl (mz_c (w := .inl _) h1 q) hH hI (by simp only [List.map_cons, mz_up, Int32.ofInt_mul]) rfl⟩
theorem mz__iand (hl : mz_l l L) (hs : ∀ w ∈ st, mz_ok w) (hH : mz_hk H) (hI : mz_I e d M P K pc L st H (.iand) len) : mx_I e.1 d M (mz_p e P) (mz_K e K) pc l (st.map mz_up) (mz_uh e H) (.iand) len := by
  obtain ⟨rfl, hI⟩ := hI
  obtain ⟨x, y, t, rfl, hI⟩ := mz_ii_i hI
  have q := (List.forall_mem_cons.mp (List.forall_mem_cons.mp hs).2).2
  exact ⟨rfl, mz_K.mk hl (mz_c (w := .inl (mz_and x y)) (mz_in_i _) q) hH hI (by simp only [List.map_cons, mz_up, mz_and, Int32.ofInt_toInt]) rfl⟩
theorem mz__ior (hl : mz_l l L) (hs : ∀ w ∈ st, mz_ok w) (hH : mz_hk H) (hI : mz_I e d M P K pc L st H (.ior) len) : mx_I e.1 d M (mz_p e P) (mz_K e K) pc l (st.map mz_up) (mz_uh e H) (.ior) len := by
  obtain ⟨rfl, hI⟩ := hI
  obtain ⟨x, y, t, rfl, hI⟩ := mz_ii_i hI
  have q := (List.forall_mem_cons.mp (List.forall_mem_cons.mp hs).2).2
  exact ⟨rfl, mz_K.mk hl (mz_c (w := .inl (mz_or x y)) (mz_in_i _) q) hH hI (by simp only [List.map_cons, mz_up, mz_or, Int32.ofInt_toInt]) rfl⟩
theorem mz__ixor (hl : mz_l l L) (hs : ∀ w ∈ st, mz_ok w) (hH : mz_hk H) (hI : mz_I e d M P K pc L st H (.ixor) len) : mx_I e.1 d M (mz_p e P) (mz_K e K) pc l (st.map mz_up) (mz_uh e H) (.ixor) len := by
  obtain ⟨rfl, hI⟩ := hI
  obtain ⟨x, y, t, rfl, hI⟩ := mz_ii_i hI
  have q := (List.forall_mem_cons.mp (List.forall_mem_cons.mp hs).2).2
  exact ⟨rfl, mz_K.mk hl (mz_c (w := .inl (mz_xor x y)) (mz_in_i _) q) hH hI (by simp only [List.map_cons, mz_up, mz_xor, Int32.ofInt_toInt]) rfl⟩
theorem mz__ishl (hl : mz_l l L) (hs : ∀ w ∈ st, mz_ok w) (hH : mz_hk H) (hI : mz_I e d M P K pc L st H (.ishl) len) : mx_I e.1 d M (mz_p e P) (mz_K e K) pc l (st.map mz_up) (mz_uh e H) (.ishl) len := by
  obtain ⟨rfl, hI⟩ := hI
  obtain ⟨x, y, t, rfl, hI⟩ := mz_ii_i hI
  have q := (List.forall_mem_cons.mp (List.forall_mem_cons.mp hs).2).2
  exact ⟨rfl, mz_K.mk hl (mz_c (w := .inl (mz_shl x y)) (mz_in_i _) q) hH hI (by simp only [List.map_cons, mz_up, mz_shl, Int32.ofInt_toInt]) rfl⟩
theorem mz__ishr (hl : mz_l l L) (hs : ∀ w ∈ st, mz_ok w) (hH : mz_hk H) (hI : mz_I e d M P K pc L st H (.ishr) len) : mx_I e.1 d M (mz_p e P) (mz_K e K) pc l (st.map mz_up) (mz_uh e H) (.ishr) len := by
  obtain ⟨rfl, hI⟩ := hI
  obtain ⟨x, y, t, rfl, hI⟩ := mz_ii_i hI
  have q := (List.forall_mem_cons.mp (List.forall_mem_cons.mp hs).2).2
  exact ⟨rfl, mz_K.mk hl (mz_c (w := .inl (mz_shr x y)) (mz_in_i _) q) hH hI (by simp only [List.map_cons, mz_up, mz_shr, Int32.ofInt_toInt]) rfl⟩
theorem mz__iushr (hl : mz_l l L) (hs : ∀ w ∈ st, mz_ok w) (hH : mz_hk H) (hI : mz_I e d M P K pc L st H (.iushr) len) : mx_I e.1 d M (mz_p e P) (mz_K e K) pc l (st.map mz_up) (mz_uh e H) (.iushr) len := by
  obtain ⟨rfl, hI⟩ := hI
  obtain ⟨x, y, t, rfl, hI⟩ := mz_ii_i hI
  have q := (List.forall_mem_cons.mp (List.forall_mem_cons.mp hs).2).2
  exact ⟨rfl, mz_K.mk hl (mz_c (w := .inl (mz_ushr x y)) (mz_in_i _) q) hH hI (by simp only [List.map_cons, mz_up, mz_ushr, Int32.ofInt_toInt]) rfl⟩
theorem mz__idiv (hl : mz_l l L) (hs : ∀ w ∈ st, mz_ok w) (hH : mz_hk H) (hI : mz_I e d M P K pc L st H (.idiv) len) : mx_I e.1 d M (mz_p e P) (mz_K e K) pc l (st.map mz_up) (mz_uh e H) (.idiv) len := by
  obtain ⟨rfl, hI⟩ := hI
  obtain ⟨x, y, t, rfl, h1, hI⟩ := mz_ii_i hI
  have q0 := List.forall_mem_cons.mp hs
  have q1 := List.forall_mem_cons.mp q0.2
  have q := q1.2
  have hm := mz_div q1.1 q0.1 h1
  refine ⟨rfl, ?_, mz_K.mk hl (mz_c (w := .inl _) hm.2 q) hH hI (by simp only [List.map_cons, mz_up, ← hm.1]) rfl⟩
  rw [mz_0, mz_eq q0.1 mz_in0]
  omega
theorem mz__irem (hl : mz_l l L) (hs : ∀ w ∈ st, mz_ok w) (hH : mz_hk H) (hI : mz_I e d M P K pc L st H (.irem) len) : mx_I e.1 d M (mz_p e P) (mz_K e K) pc l (st.map mz_up) (mz_uh e H) (.irem) len := by
  obtain ⟨rfl, hI⟩ := hI
  obtain ⟨x, y, t, rfl, h1, hI⟩ := mz_ii_i hI
  have q0 := List.forall_mem_cons.mp hs
  have q1 := List.forall_mem_cons.mp q0.2
  have q := q1.2
  have hm := mz_rem q1.1 q0.1 h1
  refine ⟨rfl, ?_, mz_K.mk hl (mz_c (w := .inl _) hm.2 q) hH hI (by simp only [List.map_cons, mz_up, ← hm.1]) rfl⟩
  rw [mz_0, mz_eq q0.1 mz_in0]
  omega
theorem mz__ineg (hl : mz_l l L) (hs : ∀ w ∈ st, mz_ok w) (hH : mz_hk H) (hI : mz_I e d M P K pc L st H (.ineg) len) : mx_I e.1 d M (mz_p e P) (mz_K e K) pc l (st.map mz_up) (mz_uh e H) (.ineg) len := by
  obtain ⟨rfl, hI⟩ := hI
  obtain ⟨x, t, rfl, h1, hI⟩ := mz_i_i hI
  have q := (List.forall_mem_cons.mp hs).2
  exact ⟨rfl, mz_K.mk hl (mz_c (w := .inl _) h1 q) hH hI (by simp only [List.map_cons, mz_up, Int32.ofInt_neg]) rfl⟩
theorem mz__ladd (hl : mz_l l L) (hs : ∀ w ∈ st, mz_ok w) (hH : mz_hk H) (hI : mz_I e d M P K pc L st H (.ladd) len) : mx_I e.1 d M (mz_p e P) (mz_K e K) pc l (st.map mz_up) (mz_uh e H) (.ladd) len := by
  obtain ⟨rfl, hI⟩ := hI
  obtain ⟨x, y, t, rfl, h1, hI⟩ := mz_jj_i hI
  have q := (List.forall_mem_cons.mp (List.forall_mem_cons.mp hs).2).2
  exact ⟨rfl, mz_K.mk hl (mz_c (w := .inr (.inr _)) h1 q) hH hI (by simp only [List.map_cons, mz_up, Int64.ofInt_add]) rfl⟩
theorem mz__lsub (hl : mz_l l L) (hs : ∀ w ∈ st, mz_ok w) (hH : mz_hk H) (hI : mz_I e d M P K pc L st H (.lsub) len) : mx_I e.1 d M (mz_p e P) (mz_K e K) pc l (st.map mz_up) (mz_uh e H) (.lsub) len := by
  obtain ⟨rfl, hI⟩ := hI
  obtain ⟨x, y, t, rfl, h1, hI⟩ := mz_jj_i hI
  have q := (List.forall_mem_cons.mp (List.forall_mem_cons.mp hs).2).2
  exact ⟨rfl, mz_K.mk hl (mz_c (w := .inr (.inr _)) h1 q) hH hI (by simp only [List.map_cons, mz_up, Int64.ofInt_sub]) rfl⟩
theorem mz__lmul (hl : mz_l l L) (hs : ∀ w ∈ st, mz_ok w) (hH : mz_hk H) (hI : mz_I e d M P K pc L st H (.lmul) len) : mx_I e.1 d M (mz_p e P) (mz_K e K) pc l (st.map mz_up) (mz_uh e H) (.lmul) len := by
  obtain ⟨rfl, hI⟩ := hI
  obtain ⟨x, y, t, rfl, h1, hI⟩ := mz_jj_i hI
  have q := (List.forall_mem_cons.mp (List.forall_mem_cons.mp hs).2).2
  exact ⟨rfl, mz_K.mk hl (mz_c (w := .inr (.inr _)) h1 q) hH hI (by simp only [List.map_cons, mz_up, Int64.ofInt_mul]) rfl⟩
theorem mz__lrem (hl : mz_l l L) (hs : ∀ w ∈ st, mz_ok w) (hH : mz_hk H) (hI : mz_I e d M P K pc L st H (.lrem) len) : mx_I e.1 d M (mz_p e P) (mz_K e K) pc l (st.map mz_up) (mz_uh e H) (.lrem) len := by
  obtain ⟨rfl, hI⟩ := hI
  obtain ⟨x, y, t, rfl, h1, hI⟩ := mz_jj_i hI
  have q0 := List.forall_mem_cons.mp hs
  have q1 := List.forall_mem_cons.mp q0.2
  have q := q1.2
  have hm := mz_jrem q1.1 q0.1 h1
  refine ⟨rfl, ?_, mz_K.mk hl (mz_c (w := .inr (.inr _)) hm.2 q) hH hI (by simp only [List.map_cons, mz_up, ← hm.1]) rfl⟩
  intro e9
  have := congrArg Int64.toInt e9
  rw [mz_jn_t q0.1] at this
  have h0 : (0 : Int64).toInt = 0 := by decide
  omega
theorem mz__lcmp (hl : mz_l l L) (hs : ∀ w ∈ st, mz_ok w) (hH : mz_hk H) (hI : mz_I e d M P K pc L st H (.lcmp) len) : mx_I e.1 d M (mz_p e P) (mz_K e K) pc l (st.map mz_up) (mz_uh e H) (.lcmp) len := by
  obtain ⟨rfl, hI⟩ := hI
  obtain ⟨x, y, t, rfl, hI⟩ := mz_jj_i hI
  have q0 := List.forall_mem_cons.mp hs
  have q1 := List.forall_mem_cons.mp q0.2
  have hm := mz_cmp_ok q1.1 q0.1
  exact ⟨rfl, mz_K.mk hl (mz_c (w := .inl _) hm.2 q1.2) hH hI (by simp only [List.map_cons, mz_up, ← hm.1]) rfl⟩
theorem mz__i2l (hl : mz_l l L) (hs : ∀ w ∈ st, mz_ok w) (hH : mz_hk H) (hI : mz_I e d M P K pc L st H (.i2l) len) : mx_I e.1 d M (mz_p e P) (mz_K e K) pc l (st.map mz_up) (mz_uh e H) (.i2l) len := by
  obtain ⟨rfl, hI⟩ := hI
  obtain ⟨x, t, rfl, hI⟩ := mz_i_i hI
  have q := List.forall_mem_cons.mp hs
  have hx : mz_in x := q.1
  have hj : mz_jn x := by unfold mz_in at hx; unfold mz_jn; omega
  have e9 : (Int32.ofInt x).toInt64 = Int64.ofInt x := by rw [← Int64.toInt_inj, Int32.toInt_toInt64, mz_in_t hx, mz_jn_t hj]
  exact ⟨rfl, mz_K.mk hl (mz_c (w := .inr (.inr x)) hj q.2) hH hI (by simp only [List.map_cons, mz_up, e9]) rfl⟩
theorem mz__l2i (hl : mz_l l L) (hs : ∀ w ∈ st, mz_ok w) (hH : mz_hk H) (hI : mz_I e d M P K pc L st H (.l2i) len) : mx_I e.1 d M (mz_p e P) (mz_K e K) pc l (st.map mz_up) (mz_uh e H) (.l2i) len := by
  obtain ⟨rfl, hI⟩ := hI
  obtain ⟨x, t, rfl, hx, hI⟩ := mz_j_i hI
  have q := List.forall_mem_cons.mp hs
  have hj : mz_jn x := q.1
  have e9 : (Int64.ofInt x).toInt32 = Int32.ofInt x := by
    rw [← Int32.toInt_inj, Int64.toInt_toInt32, mz_in_t hx, mz_jn_t hj]
    exact Int.bmod_eq_of_le (by unfold mz_in at hx; omega) (by unfold mz_in at hx; omega)
  exact ⟨rfl, mz_K.mk hl (mz_c (w := .inl x) hx q.2) hH hI (by simp only [List.map_cons, mz_up, e9]) rfl⟩
theorem mz__i2b (hl : mz_l l L) (hs : ∀ w ∈ st, mz_ok w) (hH : mz_hk H) (hI : mz_I e d M P K pc L st H (.i2b) len) : mx_I e.1 d M (mz_p e P) (mz_K e K) pc l (st.map mz_up) (mz_uh e H) (.i2b) len := by
  obtain ⟨rfl, hI⟩ := hI
  obtain ⟨x, t, rfl, hx, hI⟩ := mz_i_i hI
  have q := List.forall_mem_cons.mp hs
  have hj : mz_in x := q.1
  have e9 : (Int32.ofInt x).toInt8.toInt32 = Int32.ofInt x := by
    rw [← Int32.toInt_inj, Int8.toInt_toInt32, Int32.toInt_toInt8, mz_in_t hj]
    exact Int.bmod_eq_of_le (by omega) (by omega)
  exact ⟨rfl, mz_K.mk hl (mz_c (w := .inl x) hj q.2) hH hI (by simp only [List.map_cons, mz_up, e9]) rfl⟩
theorem mz__dup (hl : mz_l l L) (hs : ∀ w ∈ st, mz_ok w) (hH : mz_hk H) (hI : mz_I e d M P K pc L st H (.dup) len) : mx_I e.1 d M (mz_p e P) (mz_K e K) pc l (st.map mz_up) (mz_uh e H) (.dup) len := by
  obtain ⟨rfl, hI⟩ := hI
  obtain ⟨v, t, rfl, h1, hI⟩ := mz_v_i hI
  have q := List.forall_mem_cons.mp hs
  exact ⟨rfl, mz_c1_c h1, mz_K.mk hl (mz_c q.1 hs) hH hI rfl rfl⟩
theorem mz__pop (hl : mz_l l L) (hs : ∀ w ∈ st, mz_ok w) (hH : mz_hk H) (hI : mz_I e d M P K pc L st H (.pop) len) : mx_I e.1 d M (mz_p e P) (mz_K e K) pc l (st.map mz_up) (mz_uh e H) (.pop) len := by
  obtain ⟨rfl, hI⟩ := hI
  obtain ⟨v, t, rfl, h1, hI⟩ := mz_v_i hI
  have q := List.forall_mem_cons.mp hs
  exact ⟨rfl, mz_c1_c h1, mz_K.mk hl q.2 hH hI rfl rfl⟩
theorem mz__dup2 (hl : mz_l l L) (hs : ∀ w ∈ st, mz_ok w) (hH : mz_hk H) (hI : mz_I e d M P K pc L st H (.dup2) len) : mx_I e.1 d M (mz_p e P) (mz_K e K) pc l (st.map mz_up) (mz_uh e H) (.dup2) len := by
  obtain ⟨rfl, hI⟩ := hI
  obtain ⟨v, w, t, rfl, h1, h2, hI⟩ := mz_vv_i hI
  have q := List.forall_mem_cons.mp hs
  have q2 := List.forall_mem_cons.mp q.2
  exact ⟨rfl, mz_c1_c h1, mz_c1_c h2, mz_K.mk hl (mz_c q.1 (mz_c q2.1 hs)) hH hI rfl rfl⟩
theorem mz__if_eq (hl : mz_l l L) (hs : ∀ w ∈ st, mz_ok w) (hH : mz_hk H) {off : Int} (hI : mz_I e d M P K pc L st H (.ifCond .eq off) len) : mx_I e.1 d M (mz_p e P) (mz_K e K) pc l (st.map mz_up) (mz_uh e H) (.ifCond .eq off) len := by
  obtain ⟨rfl, h1, hI⟩ := hI
  obtain ⟨x, t, rfl, h2, h3⟩ := mz_i_i hI
  have q := List.forall_mem_cons.mp hs
  have hx : mz_in x := q.1
  refine ⟨rfl, h1, ?_, ?_⟩
  all_goals
    intro c9
    rw [mz_0, mz_eq hx mz_in0] at c9
  · exact mz_K.mk hl q.2 hH (h2 c9) rfl rfl
  · exact mz_K.mk hl q.2 hH (h3 c9) rfl rfl
theorem mz__ifi_eq (hl : mz_l l L) (hs : ∀ w ∈ st, mz_ok w) (hH : mz_hk H) {off : Int} (hI : mz_I e d M P K pc L st H (.if_icmp .eq off) len) : mx_I e.1 d M (mz_p e P) (mz_K e K) pc l (st.map mz_up) (mz_uh e H) (.if_icmp .eq off) len := by
  obtain ⟨rfl, h1, hI⟩ := hI
  obtain ⟨x, y, t, rfl, h2, h3⟩ := mz_ii_i hI
  have q0 := List.forall_mem_cons.mp hs
  have q := List.forall_mem_cons.mp q0.2
  have hx : mz_in x := q.1
  have hy : mz_in y := q0.1
  refine ⟨rfl, h1, ?_, ?_⟩
  all_goals
    intro c9
    rw [mz_eq hx hy] at c9
  · exact mz_K.mk hl q.2 hH (h2 c9) rfl rfl
  · exact mz_K.mk hl q.2 hH (h3 c9) rfl rfl
theorem mz__if_ne (hl : mz_l l L) (hs : ∀ w ∈ st, mz_ok w) (hH : mz_hk H) {off : Int} (hI : mz_I e d M P K pc L st H (.ifCond .ne off) len) : mx_I e.1 d M (mz_p e P) (mz_K e K) pc l (st.map mz_up) (mz_uh e H) (.ifCond .ne off) len := by
  obtain ⟨rfl, h1, hI⟩ := hI
  obtain ⟨x, t, rfl, h2, h3⟩ := mz_i_i hI
  have q := List.forall_mem_cons.mp hs
  have hx : mz_in x := q.1
  refine ⟨rfl, h1, ?_, ?_⟩
  all_goals
    intro c9
    rw [mz_0, mz_eq hx mz_in0] at c9
  · exact mz_K.mk hl q.2 hH (h2 c9) rfl rfl
  · exact mz_K.mk hl q.2 hH (h3 c9) rfl rfl
theorem mz__ifi_ne (hl : mz_l l L) (hs : ∀ w ∈ st, mz_ok w) (hH : mz_hk H) {off : Int} (hI : mz_I e d M P K pc L st H (.if_icmp .ne off) len) : mx_I e.1 d M (mz_p e P) (mz_K e K) pc l (st.map mz_up) (mz_uh e H) (.if_icmp .ne off) len := by
  obtain ⟨rfl, h1, hI⟩ := hI
  obtain ⟨x, y, t, rfl, h2, h3⟩ := mz_ii_i hI
  have q0 := List.forall_mem_cons.mp hs
  have q := List.forall_mem_cons.mp q0.2
  have hx : mz_in x := q.1
  have hy : mz_in y := q0.1
  refine ⟨rfl, h1, ?_, ?_⟩
  all_goals
    intro c9
    rw [mz_eq hx hy] at c9
  · exact mz_K.mk hl q.2 hH (h2 c9) rfl rfl
  · exact mz_K.mk hl q.2 hH (h3 c9) rfl rfl
theorem mz__if_lt (hl : mz_l l L) (hs : ∀ w ∈ st, mz_ok w) (hH : mz_hk H) {off : Int} (hI : mz_I e d M P K pc L st H (.ifCond .lt off) len) : mx_I e.1 d M (mz_p e P) (mz_K e K) pc l (st.map mz_up) (mz_uh e H) (.ifCond .lt off) len := by
  obtain ⟨rfl, h1, hI⟩ := hI
  obtain ⟨x, t, rfl, h2, h3⟩ := mz_i_i hI
  have q := List.forall_mem_cons.mp hs
  have hx : mz_in x := q.1
  refine ⟨rfl, h1, ?_, ?_⟩
  all_goals
    intro c9
    rw [mz_0, mz_lt hx mz_in0] at c9
  · exact mz_K.mk hl q.2 hH (h2 c9) rfl rfl
  · exact mz_K.mk hl q.2 hH (h3 c9) rfl rfl
theorem mz__ifi_lt (hl : mz_l l L) (hs : ∀ w ∈ st, mz_ok w) (hH : mz_hk H) {off : Int} (hI : mz_I e d M P K pc L st H (.if_icmp .lt off) len) : mx_I e.1 d M (mz_p e P) (mz_K e K) pc l (st.map mz_up) (mz_uh e H) (.if_icmp .lt off) len := by
  obtain ⟨rfl, h1, hI⟩ := hI
  obtain ⟨x, y, t, rfl, h2, h3⟩ := mz_ii_i hI
  have q0 := List.forall_mem_cons.mp hs
  have q := List.forall_mem_cons.mp q0.2
  have hx : mz_in x := q.1
  have hy : mz_in y := q0.1
  refine ⟨rfl, h1, ?_, ?_⟩
  all_goals
    intro c9
    rw [mz_lt hx hy] at c9
  · exact mz_K.mk hl q.2 hH (h2 c9) rfl rfl
  · exact mz_K.mk hl q.2 hH (h3 c9) rfl rfl
theorem mz__if_ge (hl : mz_l l L) (hs : ∀ w ∈ st, mz_ok w) (hH : mz_hk H) {off : Int} (hI : mz_I e d M P K pc L st H (.ifCond .ge off) len) : mx_I e.1 d M (mz_p e P) (mz_K e K) pc l (st.map mz_up) (mz_uh e H) (.ifCond .ge off) len := by
  obtain ⟨rfl, h1, hI⟩ := hI
  obtain ⟨x, t, rfl, h2, h3⟩ := mz_i_i hI
  have q := List.forall_mem_cons.mp hs
  have hx : mz_in x := q.1
  refine ⟨rfl, h1, ?_, ?_⟩
  all_goals
    intro c9
    rw [mz_0, mz_le mz_in0 hx] at c9
  · exact mz_K.mk hl q.2 hH (h2 c9) rfl rfl
  · exact mz_K.mk hl q.2 hH (h3 c9) rfl rfl
theorem mz__ifi_ge (hl : mz_l l L) (hs : ∀ w ∈ st, mz_ok w) (hH : mz_hk H) {off : Int} (hI : mz_I e d M P K pc L st H (.if_icmp .ge off) len) : mx_I e.1 d M (mz_p e P) (mz_K e K) pc l (st.map mz_up) (mz_uh e H) (.if_icmp .ge off) len := by
  obtain ⟨rfl, h1, hI⟩ := hI
  obtain ⟨x, y, t, rfl, h2, h3⟩ := mz_ii_i hI
  have q0 := List.forall_mem_cons.mp hs
  have q := List.forall_mem_cons.mp q0.2
  have hx : mz_in x := q.1
  have hy : mz_in y := q0.1
  refine ⟨rfl, h1, ?_, ?_⟩
  all_goals
    intro c9
    rw [mz_le hy hx] at c9
  · exact mz_K.mk hl q.2 hH (h2 c9) rfl rfl
  · exact mz_K.mk hl q.2 hH (h3 c9) rfl rfl
theorem mz__if_gt (hl : mz_l l L) (hs : ∀ w ∈ st, mz_ok w) (hH : mz_hk H) {off : Int} (hI : mz_I e d M P K pc L st H (.ifCond .gt off) len) : mx_I e.1 d M (mz_p e P) (mz_K e K) pc l (st.map mz_up) (mz_uh e H) (.ifCond .gt off) len := by
  obtain ⟨rfl, h1, hI⟩ := hI
  obtain ⟨x, t, rfl, h2, h3⟩ := mz_i_i hI
  have q := List.forall_mem_cons.mp hs
  have hx : mz_in x := q.1
  refine ⟨rfl, h1, ?_, ?_⟩
  all_goals
    intro c9
    rw [mz_0, mz_lt mz_in0 hx] at c9
  · exact mz_K.mk hl q.2 hH (h2 c9) rfl rfl
  · exact mz_K.mk hl q.2 hH (h3 c9) rfl rfl
theorem mz__ifi_gt (hl : mz_l l L) (hs : ∀ w ∈ st, mz_ok w) (hH : mz_hk H) {off : Int} (hI : mz_I e d M P K pc L st H (.if_icmp .gt off) len) : mx_I e.1 d M (mz_p e P) (mz_K e K) pc l (st.map mz_up) (mz_uh e H) (.if_icmp .gt off) len := by
  obtain ⟨rfl, h1, hI⟩ := hI
  obtain ⟨x, y, t, rfl, h2, h3⟩ := mz_ii_i hI
  have q0 := List.forall_mem_cons.mp hs
  have q := List.forall_mem_cons.mp q0.2
  have hx : mz_in x := q.1
  have hy : mz_in y := q0.1
  refine ⟨rfl, h1, ?_, ?_⟩
  all_goals
    intro c9
    rw [mz_lt hy hx] at c9
  · exact mz_K.mk hl q.2 hH (h2 c9) rfl rfl
  · exact mz_K.mk hl q.2 hH (h3 c9) rfl rfl
theorem mz__if_le (hl : mz_l l L) (hs : ∀ w ∈ st, mz_ok w) (hH : mz_hk H) {off : Int} (hI : mz_I e d M P K pc L st H (.ifCond .le off) len) : mx_I e.1 d M (mz_p e P) (mz_K e K) pc l (st.map mz_up) (mz_uh e H) (.ifCond .le off) len := by
  obtain ⟨rfl, h1, hI⟩ := hI
  obtain ⟨x, t, rfl, h2, h3⟩ := mz_i_i hI
  have q := List.forall_mem_cons.mp hs
  have hx : mz_in x := q.1
  refine ⟨rfl, h1, ?_, ?_⟩
  all_goals
    intro c9
    rw [mz_0, mz_le hx mz_in0] at c9
  · exact mz_K.mk hl q.2 hH (h2 c9) rfl rfl
  · exact mz_K.mk hl q.2 hH (h3 c9) rfl rfl
theorem mz__ifi_le (hl : mz_l l L) (hs : ∀ w ∈ st, mz_ok w) (hH : mz_hk H) {off : Int} (hI : mz_I e d M P K pc L st H (.if_icmp .le off) len) : mx_I e.1 d M (mz_p e P) (mz_K e K) pc l (st.map mz_up) (mz_uh e H) (.if_icmp .le off) len := by
  obtain ⟨rfl, h1, hI⟩ := hI
  obtain ⟨x, y, t, rfl, h2, h3⟩ := mz_ii_i hI
  have q0 := List.forall_mem_cons.mp hs
  have q := List.forall_mem_cons.mp q0.2
  have hx : mz_in x := q.1
  have hy : mz_in y := q0.1
  refine ⟨rfl, h1, ?_, ?_⟩
  all_goals
    intro c9
    rw [mz_le hx hy] at c9
  · exact mz_K.mk hl q.2 hH (h2 c9) rfl rfl
  · exact mz_K.mk hl q.2 hH (h3 c9) rfl rfl
theorem mz__goto (hl : mz_l l L) (hs : ∀ w ∈ st, mz_ok w) (hH : mz_hk H) {off : Int} (hI : mz_I e d M P K pc L st H (.goto off) len) : mx_I e.1 d M (mz_p e P) (mz_K e K) pc l (st.map mz_up) (mz_uh e H) (.goto off) len := by
  obtain ⟨rfl, h1, hI⟩ := hI
  exact ⟨rfl, h1, mz_K.mk hl hs hH hI rfl rfl⟩
theorem mz__iaload (hl : mz_l l L) (hs : ∀ w ∈ st, mz_ok w) (hH : mz_hk H) (hI : mz_I e d M P K pc L st H (.iaload) len) : mx_I e.1 d M (mz_p e P) (mz_K e K) pc l (st.map mz_up) (mz_uh e H) (.iaload) len := by
  obtain ⟨rfl, hI⟩ := hI
  obtain ⟨i, a, t, rfl, hI⟩ := mz_ir_i hI
  obtain ⟨k, n, hk, h1, h2, hI⟩ := mz_kd_i hI
  have q := List.forall_mem_cons.mp hs
  have q2 := List.forall_mem_cons.mp q.2
  have hi : mz_in i := q.1
  have h1' : (mz_uh e H).2.2.1 a = some (20, n) ∨ (mz_uh e H).2.2.1 a = some (21, n) := by
    rcases h1 with rfl | rfl
    · exact Or.inl hk
    · exact Or.inr hk
  exact ⟨rfl, n, h1', mz_vin hi h2.1 h2.2, mz_K.mk hl (mz_c (w := .inl _) (hH.1 _ _) q2.2) hH hI (by rw [mz_nat hi h2.1]; rfl) rfl⟩
theorem mz__baload (hl : mz_l l L) (hs : ∀ w ∈ st, mz_ok w) (hH : mz_hk H) (hI : mz_I e d M P K pc L st H (.baload) len) : mx_I e.1 d M (mz_p e P) (mz_K e K) pc l (st.map mz_up) (mz_uh e H) (.baload) len := by
  obtain ⟨rfl, hI⟩ := hI
  obtain ⟨i, a, t, rfl, hI⟩ := mz_ir_i hI
  obtain ⟨k, n, hk, h1, h2, hI⟩ := mz_kd_i hI
  have q := List.forall_mem_cons.mp hs
  have q2 := List.forall_mem_cons.mp q.2
  have hi : mz_in i := q.1
  have h1' : (mz_uh e H).2.2.1 a = some (22, n) ∨ (mz_uh e H).2.2.1 a = some (23, n) := by
    rcases h1 with rfl | rfl
    · exact Or.inl hk
    · exact Or.inr hk
  exact ⟨rfl, n, h1', mz_vin hi h2.1 h2.2, mz_K.mk hl (mz_c (w := .inl _) (hH.1 _ _) q2.2) hH hI (by rw [mz_nat hi h2.1]; rfl) rfl⟩
theorem mz__laload (hl : mz_l l L) (hs : ∀ w ∈ st, mz_ok w) (hH : mz_hk H) (hI : mz_I e d M P K pc L st H (.laload) len) : mx_I e.1 d M (mz_p e P) (mz_K e K) pc l (st.map mz_up) (mz_uh e H) (.laload) len := by
  obtain ⟨rfl, hI⟩ := hI
  obtain ⟨i, a, t, rfl, hI⟩ := mz_ir_i hI
  obtain ⟨k, n, hk, rfl, h2, hI⟩ := mz_kd_i hI
  have q := List.forall_mem_cons.mp hs
  have q2 := List.forall_mem_cons.mp q.2
  have hi : mz_in i := q.1
  exact ⟨rfl, n, hk, mz_vin hi h2.1 h2.2, mz_K.mk hl (mz_c (w := .inr (.inr _)) (hH.2 _ _) q2.2) hH hI (by rw [mz_nat hi h2.1]; rfl) rfl⟩
theorem mz__aaload (hl : mz_l l L) (hs : ∀ w ∈ st, mz_ok w) (hH : mz_hk H) (hI : mz_I e d M P K pc L st H (.aaload) len) : mx_I e.1 d M (mz_p e P) (mz_K e K) pc l (st.map mz_up) (mz_uh e H) (.aaload) len := by
  obtain ⟨rfl, hI⟩ := hI
  obtain ⟨i, a, t, rfl, hI⟩ := mz_ir_i hI
  obtain ⟨k, n, hk, h1, h2, hI⟩ := mz_kd_i hI
  obtain ⟨b, hb, hI⟩ := mz_rv_i hI
  have q := List.forall_mem_cons.mp hs
  have q2 := List.forall_mem_cons.mp q.2
  have hi : mz_in i := q.1
  have h1' : (mz_uh e H).2.2.1 a = some (25, n) ∨ (mz_uh e H).2.2.1 a = some (26, n) := by
    rcases h1 with rfl | rfl
    · exact Or.inl hk
    · exact Or.inr hk
  refine ⟨rfl, n, h1', mz_vin hi h2.1 h2.2, ?_⟩
  rw [mz_nat hi h2.1]
  show mx_rv (e.2.2.1 a i.toNat) _
  rw [hb]
  exact mz_K.mk hl (mz_c (w := .inr (.inl b)) trivial q2.2) hH hI rfl rfl
theorem mz__iastore (hl : mz_l l L) (hs : ∀ w ∈ st, mz_ok w) (hH : mz_hk H) (hI : mz_I e d M P K pc L st H (.iastore) len) : mx_I e.1 d M (mz_p e P) (mz_K e K) pc l (st.map mz_up) (mz_uh e H) (.iastore) len := by
  obtain ⟨rfl, hI⟩ := hI
  obtain ⟨x, i, a, t, rfl, hI⟩ := mz_xir_i hI
  obtain ⟨k, n, hk, rfl, h2, hI⟩ := mz_kd_i hI
  have q0 := List.forall_mem_cons.mp hs
  have q := List.forall_mem_cons.mp q0.2
  have q2 := List.forall_mem_cons.mp q.2
  have hi : mz_in i := q.1
  exact ⟨rfl, n, hk, mz_vin hi h2.1 h2.2, mz_K.mk hl q2.2 (hH.w _ _ q0.1) hI rfl (by rw [mz_nat hi h2.1, mz_uh_w])⟩
theorem mz__bastore (hl : mz_l l L) (hs : ∀ w ∈ st, mz_ok w) (hH : mz_hk H) (hI : mz_I e d M P K pc L st H (.bastore) len) : mx_I e.1 d M (mz_p e P) (mz_K e K) pc l (st.map mz_up) (mz_uh e H) (.bastore) len := by
  obtain ⟨rfl, hI⟩ := hI
  obtain ⟨x, i, a, t, rfl, hI⟩ := mz_xir_i hI
  obtain ⟨k, n, hk, h1, h2, hI⟩ := mz_kd_i hI
  have q0 := List.forall_mem_cons.mp hs
  have q := List.forall_mem_cons.mp q0.2
  have q2 := List.forall_mem_cons.mp q.2
  have hi : mz_in i := q.1
  have hx : mz_in x := q0.1
  refine ⟨rfl, n, ?_, mz_vin hi h2.1 h2.2, mz_K.mk hl q2.2 (hH.w _ _ q0.1) hI rfl (by rw [mz_nat hi h2.1, mz_uh_w])⟩
  rcases h1 with ⟨rfl, h1⟩ | ⟨rfl, h1⟩
  · refine Or.inl ⟨hk, ?_⟩
    have e9 : (Int32.ofInt x).toInt8.toInt32 = Int32.ofInt x := by
      rw [← Int32.toInt_inj, Int8.toInt_toInt32, Int32.toInt_toInt8, mz_in_t hx]
      exact Int.bmod_eq_of_le (by omega) (by omega)
    show Value.int (Int32.ofInt x).toInt8.toInt32 = .int (Int32.ofInt x)
    rw [e9]
  · refine Or.inr ⟨hk, ?_⟩
    rcases h1 with rfl | rfl <;> rfl
theorem mz__lastore (hl : mz_l l L) (hs : ∀ w ∈ st, mz_ok w) (hH : mz_hk H) (hI : mz_I e d M P K pc L st H (.lastore) len) : mx_I e.1 d M (mz_p e P) (mz_K e K) pc l (st.map mz_up) (mz_uh e H) (.lastore) len := by
  obtain ⟨rfl, hI⟩ := hI
  obtain ⟨x, i, a, t, rfl, hI⟩ := mz_jir_i hI
  obtain ⟨k, n, hk, rfl, h2, hI⟩ := mz_kd_i hI
  have q0 := List.forall_mem_cons.mp hs
  have q := List.forall_mem_cons.mp q0.2
  have q2 := List.forall_mem_cons.mp q.2
  have hi : mz_in i := q.1
  exact ⟨rfl, n, hk, mz_vin hi h2.1 h2.2, mz_K.mk hl q2.2 (hH.wj _ _ q0.1) hI rfl (by rw [mz_nat hi h2.1, mz_uh_wj])⟩
theorem mz__arraylength (hl : mz_l l L) (hs : ∀ w ∈ st, mz_ok w) (hH : mz_hk H) (hI : mz_I e d M P K pc L st H (.arraylength) len) : mx_I e.1 d M (mz_p e P) (mz_K e K) pc l (st.map mz_up) (mz_uh e H) (.arraylength) len := by
  obtain ⟨rfl, hI⟩ := hI
  obtain ⟨a, t, rfl, hI⟩ := mz_r_i hI
  obtain ⟨k, n, hk, h1, h2, h3, hI⟩ := mz_kd_i hI
  have q := List.forall_mem_cons.mp hs
  exact ⟨rfl, k, n, hk, h1, h2, mz_K.mk hl (mz_c (w := .inl _) h3 q.2) hH hI rfl rfl⟩
theorem mz__getfield (hl : mz_l l L) (hs : ∀ w ∈ st, mz_ok w) (hH : mz_hk H) {idx : Nat} (hI : mz_I e d M P K pc L st H (.getfield idx) len) : mx_I e.1 d M (mz_p e P) (mz_K e K) pc l (st.map mz_up) (mz_uh e H) (.getfield idx) len := by
  obtain ⟨rfl, hI⟩ := hI
  obtain ⟨a, t, rfl, hI⟩ := mz_r_i hI
  obtain ⟨c, k, tag, hf, hI⟩ := mz_fd_i hI
  obtain ⟨c2, n, hk, hc, hJ⟩ := mz_kd_i hI
  subst hc
  clear hI
  have q := List.forall_mem_cons.mp hs
  refine ⟨rfl, (c2, k, tag), hf, ⟨n, hk⟩, ?_⟩
  dsimp only
  by_cases g : tag % 10 = 2
  · rw [if_pos g] at hJ ⊢
    obtain ⟨b, hb, hJ⟩ := mz_rv_i hJ
    show mx_rv (e.2.2.1 a k) _
    rw [hb]
    exact mz_K.mk hl (mz_c (w := .inr (.inl b)) trivial q.2) hH hJ rfl rfl
  · rw [if_neg g] at hJ ⊢
    exact mz_K.mk hl (mz_c (w := .inl _) (hH.1 _ _) q.2) hH hJ rfl rfl
theorem mz__putfield (hl : mz_l l L) (hs : ∀ w ∈ st, mz_ok w) (hH : mz_hk H) {idx : Nat} (hI : mz_I e d M P K pc L st H (.putfield idx) len) : mx_I e.1 d M (mz_p e P) (mz_K e K) pc l (st.map mz_up) (mz_uh e H) (.putfield idx) len := by
  obtain ⟨rfl, hI⟩ := hI
  obtain ⟨x, a, t, rfl, hI⟩ := mz_xr_i hI
  obtain ⟨c, k, tag, hf, hI⟩ := mz_fd_i hI
  obtain ⟨c2, n, hk, rfl, h1, hI⟩ := mz_kd_i hI
  have q := List.forall_mem_cons.mp hs
  have q2 := List.forall_mem_cons.mp q.2
  refine ⟨rfl, (c2, k, tag), hf, Or.inl (by rcases h1 with h1 | h1 <;> simp only [] <;> omega), ⟨n, hk⟩, ?_, mz_K.mk hl q2.2 (hH.w _ _ q.1) hI rfl (by rw [mz_uh_w])⟩
  rcases h1 with rfl | ⟨rfl, h1⟩
  · exact Or.inl rfl
  · refine Or.inr ⟨rfl, ?_⟩
    rcases h1 with rfl | rfl
    · exact Or.inl rfl
    · exact Or.inr rfl
theorem mz__new (hl : mz_l l L) (hs : ∀ w ∈ st, mz_ok w) (hH : mz_hk H) {idx : Nat} (hI : mz_I e d M P K pc L st H (.new idx) len) : mx_I e.1 d M (mz_p e P) (mz_K e K) pc l (st.map mz_up) (mz_uh e H) (.new idx) len := by
  obtain ⟨rfl, x, h0, h1, h2, h3, h4, h5, h6, h7, h8, hP⟩ := hI
  refine ⟨rfl, ?_⟩
  rw [h0]
  refine ⟨h1, h2, h3, h4, h5, by rw [mz_sz_ok]; exact h6, h7, h8, .inr x, (H.1 + 1, H.2), rfl, ?_, (fun w hw => by cases hw), hH, hP⟩
  show (e.2.2.2.1 + H.1 + 1, e.2.2.2.2 + 6 * H.1 + 6, _) = (e.2.2.2.1 + (H.1 + 1), e.2.2.2.2 + 6 * (H.1 + 1), _)
  rw [show e.2.2.2.1 + (H.1 + 1) = e.2.2.2.1 + H.1 + 1 by omega, show e.2.2.2.2 + 6 * (H.1 + 1) = e.2.2.2.2 + 6 * H.1 + 6 by omega]
  rfl
theorem mz__getstatic (hl : mz_l l L) (hs : ∀ w ∈ st, mz_ok w) (hH : mz_hk H) {idx : Nat} (hI : mz_I e d M P K pc L st H (.getstatic idx) len) : mx_I e.1 d M (mz_p e P) (mz_K e K) pc l (st.map mz_up) (mz_uh e H) (.getstatic idx) len := by
  obtain ⟨rfl, h1, h2, hI⟩ := hI
  exact ⟨rfl, h1, h2, mz_K.mk hl (mz_c (w := .inr (.inl _)) trivial hs) hH hI rfl rfl⟩
theorem mz__ldc (hl : mz_l l L) (hs : ∀ w ∈ st, mz_ok w) (hH : mz_hk H) {idx : Nat} (hI : mz_I e d M P K pc L st H (.ldc idx) len) : mx_I e.1 d M (mz_p e P) (mz_K e K) pc l (st.map mz_up) (mz_uh e H) (.ldc idx) len := by
  obtain ⟨rfl, hI⟩ := hI
  obtain ⟨x, h1, hI⟩ := mz_c4_i hI
  exact ⟨rfl, x, h1, mz_K.mk hl (mz_c (w := .inl _) (mz_in_i x) hs) hH hI (by simp only [List.map_cons, mz_up, Int32.ofInt_toInt]) rfl⟩
theorem mz__ldc_w (hl : mz_l l L) (hs : ∀ w ∈ st, mz_ok w) (hH : mz_hk H) {idx : Nat} (hI : mz_I e d M P K pc L st H (.ldc_w idx) len) : mx_I e.1 d M (mz_p e P) (mz_K e K) pc l (st.map mz_up) (mz_uh e H) (.ldc_w idx) len := by
  obtain ⟨rfl, hI⟩ := hI
  obtain ⟨x, h1, hI⟩ := mz_c4_i hI
  exact ⟨rfl, x, h1, mz_K.mk hl (mz_c (w := .inl _) (mz_in_i x) hs) hH hI (by simp only [List.map_cons, mz_up, Int32.ofInt_toInt]) rfl⟩
theorem mz__ldc2_w (hl : mz_l l L) (hs : ∀ w ∈ st, mz_ok w) (hH : mz_hk H) {idx : Nat} (hI : mz_I e d M P K pc L st H (.ldc2_w idx) len) : mx_I e.1 d M (mz_p e P) (mz_K e K) pc l (st.map mz_up) (mz_uh e H) (.ldc2_w idx) len := by
  obtain ⟨rfl, hI⟩ := hI
  obtain ⟨x, h1, hI⟩ := mz_c8_i hI
  exact ⟨rfl, x, h1, mz_K.mk hl (mz_c (w := .inr (.inr _)) (mz_jn_i x) hs) hH hI (by simp only [List.map_cons, mz_up, Int64.ofInt_toInt]) rfl⟩
theorem mz__ireturn (hl : mz_l l L) (hs : ∀ w ∈ st, mz_ok w) (hH : mz_hk H) (hI : mz_I e d M P K pc L st H (.ireturn) len) : mx_I e.1 d M (mz_p e P) (mz_K e K) pc l (st.map mz_up) (mz_uh e H) (.ireturn) len := by
  obtain ⟨rfl, hI⟩ := hI
  obtain ⟨v, t, rfl, rfl, h1, hI⟩ := mz_i_i hI
  have q := List.forall_mem_cons.mp hs
  have hP : mz_p e P (.inl (some (.int (Int32.ofInt v)))) (mz_uh e H) := ⟨.inl (some (.inl v)), H, rfl, rfl, (fun w hw => by cases hw; exact q.1), hH, hI⟩
  rcases h1 with h1 | ⟨h1, h2⟩
  · exact ⟨rfl, .int, Int32.ofInt v, h1, rfl, rfl, hP⟩
  · refine ⟨rfl, .boolean, Int32.ofInt v, h1, rfl, ?_, hP⟩
    rcases h2 with rfl | rfl <;> rfl
theorem mz__return_ (hl : mz_l l L) (hs : ∀ w ∈ st, mz_ok w) (hH : mz_hk H) (hI : mz_I e d M P K pc L st H (.return_) len) : mx_I e.1 d M (mz_p e P) (mz_K e K) pc l (st.map mz_up) (mz_uh e H) (.return_) len := by
  obtain ⟨rfl, h1, rfl, hI⟩ := hI
  exact ⟨rfl, h1, rfl, .inl none, H, rfl, rfl, (fun w hw => by cases hw), hH, hI⟩
theorem mz_hd_i : ∀ (hs : List (Nat × Nat × Nat × Nat)) {pc x hp : Nat}, mz_hd hs pc x = some hp → ∃ pre a b ct suf, hs = pre ++ (a, b, hp, ct) :: suf ∧ (∀ y ∈ pre, ∃ w, mx_ct y.2.2.2 = some w ∧ w ≠ x) ∧ a ≤ pc ∧ pc < b ∧ mx_ct ct = some x := by
  intro hs
  induction hs with
  | nil => intro pc x hp h; cases h
  | cons y t ih =>
    intro pc x hp h
    obtain ⟨a, b, hp', ct⟩ := y
    unfold mz_hd at h
    cases hc : mx_ct ct with
    | none => rw [hc] at h; cases h
    | some z =>
      rw [hc] at h
      dsimp only at h
      by_cases q : z = x
      · rw [if_pos q] at h
        by_cases r : a ≤ pc ∧ pc < b
        · rw [if_pos r] at h
          cases h
          subst q
          exact ⟨[], a, b, ct, t, rfl, (fun y hy => by cases hy), r.1, r.2, hc⟩
        · rw [if_neg r] at h; cases h
      · rw [if_neg q] at h
        obtain ⟨pre, a', b', ct', suf, e1, e2, e3, e4, e5⟩ := ih h
        refine ⟨(a, b, hp', ct) :: pre, a', b', ct', suf, by rw [e1]; rfl, ?_, e3, e4, e5⟩
        intro y hy
        rcases List.mem_cons.mp hy with rfl | hy
        · exact ⟨z, hc, q⟩
        · exact e2 y hy
theorem mz_af_ok (hG : mx_G e.1) (hl : mz_l l L) {rest : List mz_W} (hr : ∀ w ∈ rest, mz_ok w) (hK : ∀ pc l s h, mz_K e K pc l s h → mx_V e.1 d M pc l s h (mz_p e P)) {o : mx_O} {h : mx_H} (hp : mz_p e (mz_af M pc L rest P K) o h) : mx_af e.1 d M pc l (rest.map mz_up) (mz_p e P) (mz_K e K) o h := by
  obtain ⟨O, H', rfl, rfl, ho, hH', hA⟩ := hp
  rcases O with v | x
  · cases v with
    | none => exact mz_K.mk hl hr hH' hA rfl rfl
    | some v => exact mz_K.mk hl (mz_c (ho v rfl) hr) hH' hA rfl rfl
  · unfold mz_af at hA
    show mx_TH e.1 d M pc l (mz_uh e H') x (mz_p e P)
    by_cases q : M.2.2.2.2.1 = []
    · simp only [q, if_true] at hA
      exact mx_th_out q ⟨.inr x, H', rfl, rfl, (fun w hw => by cases hw), hH', hA⟩
    · simp only [q, if_false] at hA
      obtain ⟨hM, hx, hp, h1, h2⟩ := hA
      obtain ⟨pre, a, b, ct, suf, e1, e2, e3, e4, e5⟩ := mz_hd_i _ h1
      exact mx_th_catch hG hx hM pre a b hp ct suf e1 e2 e3 e4 e5 (fun q => hK _ _ _ _ (mz_K.mk hl (mz_c (w := .inr (.inl q)) trivial (fun w hw => by cases hw)) hH' (h2 q) rfl rfl))
theorem mz__invokestatic (hl : mz_l l L) (hs : ∀ w ∈ st, mz_ok w) (hH : mz_hk H) (hG : mx_G e.1) (hK : ∀ pc l s h, mz_K e K pc l s h → mx_V e.1 d M pc l s h (mz_p e P)) {idx : Nat} (hI : mz_I e d M P K pc L st H (.invokestatic idx) len) : mx_I e.1 d M (mz_p e P) (mz_K e K) pc l (st.map mz_up) (mz_uh e H) (.invokestatic idx) len := by
  obtain ⟨rfl, hI⟩ := hI
  refine ⟨rfl, ?_⟩
  by_cases g : mx_cp M.2.1 idx = true
  · rw [if_pos g] at hI ⊢
    obtain ⟨a, sp, b, dp, n, t, rfl, hI⟩ := mz_cp5_i hI
    obtain ⟨ka, na, hka, hI⟩ := mz_kd_i hI
    obtain ⟨kb, nb, hkb, rfl, rfl, h1, h2, hI⟩ := mz_kd_i hI
    have q0 := List.forall_mem_cons.mp hs
    have q1 := List.forall_mem_cons.mp q0.2
    have q2 := List.forall_mem_cons.mp q1.2
    have q3 := List.forall_mem_cons.mp q2.2
    have q4 := List.forall_mem_cons.mp q3.2
    have hn : mz_in n := q0.1
    have hdp : mz_in dp := q1.1
    have hsp : mz_in sp := q3.1
    refine ⟨na, nb, by rw [mz_sz_ok]; exact h1, hka, hkb, ?_, ?_, ?_, ?_, ?_, mz_K.mk hl q4.2 (hH.cy _ _ _ _ _) hI rfl ?_⟩
    · rw [mz_0, mz_lt hsp mz_in0]; omega
    · rw [mz_0, mz_lt hdp mz_in0]; omega
    · rw [mz_0, mz_lt hn mz_in0]; omega
    · rw [mz_nat hsp h2.1, mz_nat hn h2.2.2.1]; omega
    · rw [mz_nat hdp h2.2.1, mz_nat hn h2.2.2.1]; omega
    · rw [mz_nat hsp h2.1, mz_nat hn h2.2.2.1, mz_nat hdp h2.2.1, mz_uh_cy]
  · rw [if_neg g] at hI ⊢
    obtain ⟨j, hj, h1, h2, h3, h4, hI⟩ := mz_mt_i hI
    obtain ⟨d2, rfl, hI⟩ := mz_dn_i hI
    refine ⟨j, mx_sg j, hj, rfl, h1, by rw [List.length_map]; exact h2, ?_, ?_, d2, rfl, ?_⟩
    · rw [← List.map_take, ← List.map_reverse, mz_sz_ok]; exact h3
    · rw [← List.map_drop, mz_sz_ok]; exact h4
    · rw [← List.map_take, ← List.map_reverse, ← List.map_drop]
      exact (hI (fun w hw => hs w (List.mem_of_mem_take (List.mem_reverse.mp hw))) hH).mono fun o h q => mz_af_ok hG hl (fun w hw => hs w (List.mem_of_mem_drop hw)) hK q
theorem mz__invokevirtual (hl : mz_l l L) (hs : ∀ w ∈ st, mz_ok w) (hH : mz_hk H) (hG : mx_G e.1) (hK : ∀ pc l s h, mz_K e K pc l s h → mx_V e.1 d M pc l s h (mz_p e P)) {idx : Nat} (hI : mz_I e d M P K pc L st H (.invokevirtual idx) len) : mx_I e.1 d M (mz_p e P) (mz_K e K) pc l (st.map mz_up) (mz_uh e H) (.invokevirtual idx) len := by
  obtain ⟨rfl, hI⟩ := hI
  obtain ⟨j, hj, h1, h2, h3, hI⟩ := mz_mt_i hI
  obtain ⟨b, rest, hb, hI⟩ := mz_r_i hI
  obtain ⟨c2, n, hk, rfl, h4, h5, hI⟩ := mz_kd_i hI
  obtain ⟨d2, rfl, hI⟩ := mz_dn_i hI
  refine ⟨rfl, j, mx_sg j, hj, rfl, h1, by rw [List.length_map]; exact h2, h3, ?_⟩
  unfold mx_vr
  rw [← List.map_drop, hb, ← List.map_take, ← List.map_reverse]
  have hrest : ∀ w ∈ rest, mz_ok w := fun w hw => hs w (List.mem_of_mem_drop (by rw [hb]; exact List.mem_cons_of_mem _ hw))
  refine ⟨⟨n, hk⟩, ?_, by rw [mz_sz_ok]; exact h5, d2, rfl, ?_⟩
  · have e9 := mz_sz_ok (.inr (.inl b) :: (List.take (mx_sg j).1 st).reverse)
    exact Nat.le_trans (Nat.le_of_eq e9) h4
  · exact (hI (mz_c (w := .inr (.inl b)) trivial (fun w hw => hs w (List.mem_of_mem_take (List.mem_reverse.mp hw)))) hH).mono fun o h q => mz_af_ok hG hl hrest hK q
theorem mz__tableswitch (hl : mz_l l L) (hs : ∀ w ∈ st, mz_ok w) (hH : mz_hk H) {dflt lo hi : Int} {offs : Array Int} (hI : mz_I e d M P K pc L st H (.tableswitch dflt lo hi offs) len) : mx_I e.1 d M (mz_p e P) (mz_K e K) pc l (st.map mz_up) (mz_uh e H) (.tableswitch dflt lo hi offs) len := by
  obtain ⟨x, t, rfl, h1, h2⟩ := mz_i_i hI
  have q := List.forall_mem_cons.mp hs
  have hx : mz_in x := q.1
  refine ⟨?_, ?_⟩
  all_goals
    intro c9
    rw [mz_in_t hx] at c9
  · obtain ⟨a, b⟩ := h1 c9
    exact ⟨a, mz_K.mk hl q.2 hH b rfl rfl⟩
  · obtain ⟨off, a, b, c⟩ := h2 c9
    exact ⟨off, by rw [mz_in_t hx]; exact a, b, mz_K.mk hl q.2 hH c rfl rfl⟩
theorem mz__lookupswitch (hl : mz_l l L) (hs : ∀ w ∈ st, mz_ok w) (hH : mz_hk H) {dflt : Int} {ps : Array (Int × Int)} (hI : mz_I e d M P K pc L st H (.lookupswitch dflt ps) len) : mx_I e.1 d M (mz_p e P) (mz_K e K) pc l (st.map mz_up) (mz_uh e H) (.lookupswitch dflt ps) len := by
  obtain ⟨h0, hI⟩ := hI
  obtain ⟨x, t, rfl, h1, h2⟩ := mz_i_i hI
  have q := List.forall_mem_cons.mp hs
  have hx : mz_in x := q.1
  refine ⟨h0, ?_⟩
  show 0 ≤ (pc : Int) + Op.lookupswitch.offset ps.toList dflt (Int32.ofInt x).toInt ∧ mz_K e K (mx_to pc (Op.lookupswitch.offset ps.toList dflt (Int32.ofInt x).toInt)) l (t.map mz_up) (mz_uh e H)
  rw [mz_in_t hx]
  exact ⟨h1, mz_K.mk hl q.2 hH h2 rfl rfl⟩
theorem mz_I_ok (hl : mz_l l L) (hs : ∀ w ∈ st, mz_ok w) (hH : mz_hk H) (hG : mx_G e.1) (hK : ∀ pc l s h, mz_K e K pc l s h → mx_V e.1 d M pc l s h (mz_p e P)) {i : Instr} (hI : mz_I e d M P K pc L st H i len) : mx_I e.1 d M (mz_p e P) (mz_K e K) pc l (st.map mz_up) (mz_uh e H) i len := by
  cases i with
  | iconst _ => exact mz__iconst hl hs hH hI
  | bipush _ => exact mz__bipush hl hs hH hI
  | sipush _ => exact mz__sipush hl hs hH hI
  | lconst _ => exact mz__lconst hl hs hH hI
  | iload _ => exact mz__iload hl hs hH hI
  | iload_n _ => exact mz__iload_n hl hs hH hI
  | aload _ => exact mz__aload hl hs hH hI
  | aload_n _ => exact mz__aload_n hl hs hH hI
  | lload _ => exact mz__lload hl hs hH hI
  | lload_n _ => exact mz__lload_n hl hs hH hI
  | istore _ => exact mz__istore hl hs hH hI
  | istore_n _ => exact mz__istore_n hl hs hH hI
  | astore _ => exact mz__astore hl hs hH hI
  | astore_n _ => exact mz__astore_n hl hs hH hI
  | lstore _ => exact mz__lstore hl hs hH hI
  | lstore_n _ => exact mz__lstore_n hl hs hH hI
  | iinc _ _ => exact mz__iinc hl hs hH hI
  | iadd => exact mz__iadd hl hs hH hI
  | isub => exact mz__isub hl hs hH hI
  | imul => exact mz__imul hl hs hH hI
  | iand => exact mz__iand hl hs hH hI
  | ior => exact mz__ior hl hs hH hI
  | ixor => exact mz__ixor hl hs hH hI
  | ishl => exact mz__ishl hl hs hH hI
  | ishr => exact mz__ishr hl hs hH hI
  | iushr => exact mz__iushr hl hs hH hI
  | idiv => exact mz__idiv hl hs hH hI
  | irem => exact mz__irem hl hs hH hI
  | ineg => exact mz__ineg hl hs hH hI
  | ladd => exact mz__ladd hl hs hH hI
  | lsub => exact mz__lsub hl hs hH hI
  | lmul => exact mz__lmul hl hs hH hI
  | lrem => exact mz__lrem hl hs hH hI
  | lcmp => exact mz__lcmp hl hs hH hI
  | i2l => exact mz__i2l hl hs hH hI
  | l2i => exact mz__l2i hl hs hH hI
  | i2b => exact mz__i2b hl hs hH hI
  | dup => exact mz__dup hl hs hH hI
  | pop => exact mz__pop hl hs hH hI
  | dup2 => exact mz__dup2 hl hs hH hI
  | ifCond c off => cases c with
    | eq => exact mz__if_eq hl hs hH hI
    | ne => exact mz__if_ne hl hs hH hI
    | lt => exact mz__if_lt hl hs hH hI
    | ge => exact mz__if_ge hl hs hH hI
    | gt => exact mz__if_gt hl hs hH hI
    | le => exact mz__if_le hl hs hH hI
  | if_icmp c off => cases c with
    | eq => exact mz__ifi_eq hl hs hH hI
    | ne => exact mz__ifi_ne hl hs hH hI
    | lt => exact mz__ifi_lt hl hs hH hI
    | ge => exact mz__ifi_ge hl hs hH hI
    | gt => exact mz__ifi_gt hl hs hH hI
    | le => exact mz__ifi_le hl hs hH hI
  | goto _ => exact mz__goto hl hs hH hI
  | iaload => exact mz__iaload hl hs hH hI
  | baload => exact mz__baload hl hs hH hI
  | laload => exact mz__laload hl hs hH hI
  | aaload => exact mz__aaload hl hs hH hI
  | iastore => exact mz__iastore hl hs hH hI
  | bastore => exact mz__bastore hl hs hH hI
  | lastore => exact mz__lastore hl hs hH hI
  | arraylength => exact mz__arraylength hl hs hH hI
  | getfield _ => exact mz__getfield hl hs hH hI
  | putfield _ => exact mz__putfield hl hs hH hI
  | new _ => exact mz__new hl hs hH hI
  | getstatic _ => exact mz__getstatic hl hs hH hI
  | ldc _ => exact mz__ldc hl hs hH hI
  | ldc_w _ => exact mz__ldc_w hl hs hH hI
  | ldc2_w _ => exact mz__ldc2_w hl hs hH hI
  | ireturn => exact mz__ireturn hl hs hH hI
  | return_ => exact mz__return_ hl hs hH hI
  | invokestatic _ => exact mz__invokestatic hl hs hH hG hK hI
  | invokevirtual _ => exact mz__invokevirtual hl hs hH hG hK hI
  | tableswitch _ _ _ _ => exact mz__tableswitch hl hs hH hI
  | lookupswitch _ _ => exact mz__lookupswitch hl hs hH hI
  | _ => exact hI.elim
/-- what is owed from here to the next cut (the places S, where Q is owed), within n instructions -/
def mz_wp (e : mz_E) (d : Nat) (M : mx_M) (P : mz_O → mz_H → Prop) (S : List Nat) (Q : Nat → mz_L → List mz_W → mz_H → Prop) : Nat → Nat → mz_L → List mz_W → mz_H → Prop
  | 0, _, _, _, _ => False
  | n + 1, pc, L, st, H => if pc ∈ S then Q pc L st H else match decode (mx_ca M.1) pc with
    | .ok (i, len) => mz_I e d M P (mz_wp e d M P S Q n) pc L st H i len
    | .error _ => False
/-- one instruction, then on -/
def mz_w1 (e : mz_E) (d : Nat) (M : mx_M) (P : mz_O → mz_H → Prop) (S : List Nat) (Q : Nat → mz_L → List mz_W → mz_H → Prop) (n pc : Nat) (L : mz_L) (st : List mz_W) (H : mz_H) : Prop := match decode (mx_ca M.1) pc with
  | .ok (i, len) => mz_I e d M P (mz_wp e d M P S Q n) pc L st H i len
  | .error _ => False
theorem mz_V1 (hG : mx_G e.1) (hK : ∀ pc L st H, K pc L st H → mz_V e d M pc L st H P) {i : Instr} (hd : decode (mx_ca M.1) pc = .ok (i, len)) (hI : mz_I e d M P K pc L st H i len) : mz_V e d M pc L st H P := by
  intro hs hH l hl
  have hK1 : ∀ pc l s h, mz_K e K pc l s h → mx_V e.1 d M pc l s h (mz_p e P) := by
    intro pc l s h q
    obtain ⟨L, ST, H, q1, rfl, rfl, q4, q5, q6⟩ := q
    exact hK pc L ST H q6 q4 q5 l q1
  exact mx_I_ok hG hK1 hd (mz_I_ok hl hs hH hG hK1 hI)
theorem mz_wp_ok (hG : mx_G e.1) {S : List Nat} {Q : Nat → mz_L → List mz_W → mz_H → Prop} (hQ : ∀ pc L st H, pc ∈ S → Q pc L st H → mz_V e d M pc L st H P) : ∀ n pc L st H, mz_wp e d M P S Q n pc L st H → mz_V e d M pc L st H P := by
  intro n
  induction n with
  | zero => intro pc L st H hw; exact hw.elim
  | succ n ih =>
    intro pc L st H hw
    unfold mz_wp at hw
    by_cases q : pc ∈ S
    · rw [if_pos q] at hw
      exact hQ pc L st H q hw
    · rw [if_neg q] at hw
      cases hd : decode (mx_ca M.1) pc with
      | error e9 => rw [hd] at hw; exact hw.elim
      | ok il =>
        obtain ⟨i, len⟩ := il
        rw [hd] at hw
        exact mz_V1 hG ih hd hw
/-- from a place on, to the cuts S or to the end -/
theorem mz_go (hG : mx_G e.1) (n : Nat) (S : List Nat) (hw : mz_w1 e d M P S (fun pc L st H => mz_V e d M pc L st H P) n pc L st H) : mz_V e d M pc L st H P := by
  unfold mz_w1 at hw
  cases hd : decode (mx_ca M.1) pc with
  | error e9 => rw [hd] at hw; exact hw.elim
  | ok il =>
    obtain ⟨i, len⟩ := il
    rw [hd] at hw
    exact mz_V1 hG (mz_wp_ok hG (fun _ _ _ _ _ q => q) n) hd hw
end MZ
theorem mz_i_d (st : List mz_W) (k : Int → List mz_W → Prop) : mz_i st k = (match st with
  | .inl x :: t => k x t
  | _ => False) := rfl
theorem mz_ii_d (st : List mz_W) (k : Int → Int → List mz_W → Prop) : mz_ii st k = (match st with
  | .inl y :: .inl x :: t => k x y t
  | _ => False) := rfl
theorem mz_r_d (st : List mz_W) (k : Nat → List mz_W → Prop) : mz_r st k = (match st with
  | .inr (.inl a) :: t => k a t
  | _ => False) := rfl
theorem mz_ir_d (st : List mz_W) (k : Int → Nat → List mz_W → Prop) : mz_ir st k = (match st with
  | .inl i :: .inr (.inl a) :: t => k i a t
  | _ => False) := rfl
theorem mz_xir_d (st : List mz_W) (k : Int → Int → Nat → List mz_W → Prop) : mz_xir st k = (match st with
  | .inl x :: .inl i :: .inr (.inl a) :: t => k x i a t
  | _ => False) := rfl
theorem mz_jir_d (st : List mz_W) (k : Int → Int → Nat → List mz_W → Prop) : mz_jir st k = (match st with
  | .inr (.inr x) :: .inl i :: .inr (.inl a) :: t => k x i a t
  | _ => False) := rfl
theorem mz_xr_d (st : List mz_W) (k : Int → Nat → List mz_W → Prop) : mz_xr st k = (match st with
  | .inl x :: .inr (.inl a) :: t => k x a t
  | _ => False) := rfl
theorem mz_j_d (st : List mz_W) (k : Int → List mz_W → Prop) : mz_j st k = (match st with
  | .inr (.inr x) :: t => k x t
  | _ => False) := rfl
theorem mz_jj_d (st : List mz_W) (k : Int → Int → List mz_W → Prop) : mz_jj st k = (match st with
  | .inr (.inr y) :: .inr (.inr x) :: t => k x y t
  | _ => False) := rfl
theorem mz_cp5_d (st : List mz_W) (k : Nat → Int → Nat → Int → Int → List mz_W → Prop) : mz_cp5 st k = (match st with
  | .inl n :: .inl dp :: .inr (.inl b) :: .inl sp :: .inr (.inl a) :: t => k a sp b dp n t
  | _ => False) := rfl
theorem mz_v_d (st : List mz_W) (k : mz_W → List mz_W → Prop) : mz_v st k = (match st with
  | v :: t => mz_c1 v ∧ k v t
  | _ => False) := rfl
theorem mz_vv_d (st : List mz_W) (k : mz_W → mz_W → List mz_W → Prop) : mz_vv st k = (match st with
  | v :: w :: t => mz_c1 v ∧ mz_c1 w ∧ k v w t
  | _ => False) := rfl
theorem mz_li_d (o : Option mz_W) (k : Int → Prop) : mz_li o k = (match o with
  | some (.inl x) => k x
  | _ => False) := rfl
theorem mz_lr_d (o : Option mz_W) (k : Nat → Prop) : mz_lr o k = (match o with
  | some (.inr (.inl x)) => k x
  | _ => False) := rfl
theorem mz_lj_d (o : Option mz_W) (k : Int → Prop) : mz_lj o k = (match o with
  | some (.inr (.inr x)) => k x
  | _ => False) := rfl
theorem mz_rv_d (o : Option Nat) (k : Nat → Prop) : mz_rv o k = (match o with
  | some a => k a
  | none => False) := rfl
theorem mz_kd_d (o : Option (Nat × Nat)) (k : Nat → Nat → Prop) : mz_kd o k = (match o with
  | some (c, n) => k c n
  | none => False) := rfl
theorem mz_fd_d (o : Option (Nat × Nat × Nat)) (k : Nat → Nat → Nat → Prop) : mz_fd o k = (match o with
  | some (c, n, t) => k c n t
  | none => False) := rfl
theorem mz_c4_d (o : Option Int32) (k : Int32 → Prop) : mz_c4 o k = (match o with
  | some a => k a
  | none => False) := rfl
theorem mz_c8_d (o : Option Int64) (k : Int64 → Prop) : mz_c8 o k = (match o with
  | some a => k a
  | none => False) := rfl
theorem mz_dn_d (d : Nat) (k : Nat → Prop) : mz_dn d k = (match d with
  | 0 => False
  | d + 1 => k d) := rfl
theorem mz_mt_d (o : Option Nat) (k : Nat → Nat → Nat → Nat → Nat → Prop) : mz_mt o k = (match o with
  | some j => k j (mx_sg j).1 (mx_sg j).2.1 (mx_sg j).2.2.1 (mx_sg j).2.2.2
  | none => False) := rfl
theorem mz_wp_s (e : mz_E) (d : Nat) (M : mx_M) (P : mz_O → mz_H → Prop) (S : List Nat) (Q : Nat → mz_L → List mz_W → mz_H → Prop) (n pc : Nat) (L : mz_L) (st : List mz_W) (H : mz_H) : mz_wp e d M P S Q (n + 1) pc L st H = (if pc ∈ S then Q pc L st H else match decode (mx_ca M.1) pc with
    | .ok (i, len) => mz_I e d M P (mz_wp e d M P S Q n) pc L st H i len
    | .error _ => False) := rfl
theorem mz_tt {k : Nat} (X : Prop) : (k = k ∧ X) = X := by simp
theorem mz_itp (c a b : Prop) [Decidable c] : ((c → a) ∧ (¬ c → b)) = if c then a else b := by by_cases h : c <;> simp [h]
theorem mz_itn (c a b : Prop) [Decidable c] : ((¬ c → a) ∧ (c → b)) = if c then b else a := by by_cases h : c <;> simp [h]
theorem mz_it {c a b : Prop} [Decidable c] (h1 : c → a) (h2 : ¬ c → b) : if c then a else b := by by_cases h : c <;> simp [h, h1, h2]
theorem mzr_iconst (e : mz_E) (d : Nat) (M : mx_M) (P : mz_O → mz_H → Prop) (K : Nat → mz_L → List mz_W → mz_H → Prop) (pc : Nat) (L : mz_L) (H : mz_H) (st : List mz_W) (n : Int) : mz_I e d M P K pc L (st) H (.iconst n) 1 = (mz_in n ∧ K (pc + 1) L (.inl n :: st) H) := mz_tt _
theorem mzr_bipush (e : mz_E) (d : Nat) (M : mx_M) (P : mz_O → mz_H → Prop) (K : Nat → mz_L → List mz_W → mz_H → Prop) (pc : Nat) (L : mz_L) (H : mz_H) (st : List mz_W) (n : Int) : mz_I e d M P K pc L (st) H (.bipush n) 2 = ((-128 ≤ n ∧ n < 128) ∧ K (pc + 2) L (.inl n :: st) H) := mz_tt _
theorem mzr_sipush (e : mz_E) (d : Nat) (M : mx_M) (P : mz_O → mz_H → Prop) (K : Nat → mz_L → List mz_W → mz_H → Prop) (pc : Nat) (L : mz_L) (H : mz_H) (st : List mz_W) (n : Int) : mz_I e d M P K pc L (st) H (.sipush n) 3 = ((-32768 ≤ n ∧ n < 32768) ∧ K (pc + 3) L (.inl n :: st) H) := mz_tt _
theorem mzr_lconst (e : mz_E) (d : Nat) (M : mx_M) (P : mz_O → mz_H → Prop) (K : Nat → mz_L → List mz_W → mz_H → Prop) (pc : Nat) (L : mz_L) (H : mz_H) (st : List mz_W) (n : Fin 2) : mz_I e d M P K pc L (st) H (.lconst n) 1 = (mz_jn ((n : Nat) : Int) ∧ K (pc + 1) L (.inr (.inr ((n : Nat) : Int)) :: st) H) := mz_tt _
theorem mzr_iload (e : mz_E) (d : Nat) (M : mx_M) (P : mz_O → mz_H → Prop) (K : Nat → mz_L → List mz_W → mz_H → Prop) (pc : Nat) (L : mz_L) (H : mz_H) (st : List mz_W) (i : Nat) : mz_I e d M P K pc L (st) H (.iload i) 2 = ((match mz_g L i with | some (.inl x) => K (pc + 2) L (.inl x :: st) H | _ => False)) := mz_tt _
theorem mzr_iload_n (e : mz_E) (d : Nat) (M : mx_M) (P : mz_O → mz_H → Prop) (K : Nat → mz_L → List mz_W → mz_H → Prop) (pc : Nat) (L : mz_L) (H : mz_H) (st : List mz_W) (i : Fin 4) : mz_I e d M P K pc L (st) H (.iload_n i) 1 = ((match mz_g L i with | some (.inl x) => K (pc + 1) L (.inl x :: st) H | _ => False)) := mz_tt _
theorem mzr_aload (e : mz_E) (d : Nat) (M : mx_M) (P : mz_O → mz_H → Prop) (K : Nat → mz_L → List mz_W → mz_H → Prop) (pc : Nat) (L : mz_L) (H : mz_H) (st : List mz_W) (i : Nat) : mz_I e d M P K pc L (st) H (.aload i) 2 = ((match mz_g L i with | some (.inr (.inl x)) => K (pc + 2) L (.inr (.inl x) :: st) H | _ => False)) := mz_tt _
theorem mzr_aload_n (e : mz_E) (d : Nat) (M : mx_M) (P : mz_O → mz_H → Prop) (K : Nat → mz_L → List mz_W → mz_H → Prop) (pc : Nat) (L : mz_L) (H : mz_H) (st : List mz_W) (i : Fin 4) : mz_I e d M P K pc L (st) H (.aload_n i) 1 = ((match mz_g L i with | some (.inr (.inl x)) => K (pc + 1) L (.inr (.inl x) :: st) H | _ => False)) := mz_tt _
theorem mzr_lload (e : mz_E) (d : Nat) (M : mx_M) (P : mz_O → mz_H → Prop) (K : Nat → mz_L → List mz_W → mz_H → Prop) (pc : Nat) (L : mz_L) (H : mz_H) (st : List mz_W) (i : Nat) : mz_I e d M P K pc L (st) H (.lload i) 2 = ((match mz_g L i with | some (.inr (.inr x)) => K (pc + 2) L (.inr (.inr x) :: st) H | _ => False)) := mz_tt _
theorem mzr_lload_n (e : mz_E) (d : Nat) (M : mx_M) (P : mz_O → mz_H → Prop) (K : Nat → mz_L → List mz_W → mz_H → Prop) (pc : Nat) (L : mz_L) (H : mz_H) (st : List mz_W) (i : Fin 4) : mz_I e d M P K pc L (st) H (.lload_n i) 1 = ((match mz_g L i with | some (.inr (.inr x)) => K (pc + 1) L (.inr (.inr x) :: st) H | _ => False)) := mz_tt _
theorem mzr_istore (e : mz_E) (d : Nat) (M : mx_M) (P : mz_O → mz_H → Prop) (K : Nat → mz_L → List mz_W → mz_H → Prop) (pc : Nat) (L : mz_L) (H : mz_H) (i : Nat) (t : List mz_W) (x : Int) : mz_I e d M P K pc L (.inl x :: t) H (.istore i) 2 = ((i : Nat) < M.2.2.1 ∧ K (pc + 2) (mz_st L i (.inl x)) t H) := mz_tt _
theorem mzr_istore_n (e : mz_E) (d : Nat) (M : mx_M) (P : mz_O → mz_H → Prop) (K : Nat → mz_L → List mz_W → mz_H → Prop) (pc : Nat) (L : mz_L) (H : mz_H) (i : Fin 4) (t : List mz_W) (x : Int) : mz_I e d M P K pc L (.inl x :: t) H (.istore_n i) 1 = ((i : Nat) < M.2.2.1 ∧ K (pc + 1) (mz_st L i (.inl x)) t H) := mz_tt _
theorem mzr_astore (e : mz_E) (d : Nat) (M : mx_M) (P : mz_O → mz_H → Prop) (K : Nat → mz_L → List mz_W → mz_H → Prop) (pc : Nat) (L : mz_L) (H : mz_H) (i : Nat) (t : List mz_W) (x : Nat) : mz_I e d M P K pc L (.inr (.inl x) :: t) H (.astore i) 2 = ((i : Nat) < M.2.2.1 ∧ K (pc + 2) (mz_st L i (.inr (.inl x))) t H) := mz_tt _
theorem mzr_astore_n (e : mz_E) (d : Nat) (M : mx_M) (P : mz_O → mz_H → Prop) (K : Nat → mz_L → List mz_W → mz_H → Prop) (pc : Nat) (L : mz_L) (H : mz_H) (i : Fin 4) (t : List mz_W) (x : Nat) : mz_I e d M P K pc L (.inr (.inl x) :: t) H (.astore_n i) 1 = ((i : Nat) < M.2.2.1 ∧ K (pc + 1) (mz_st L i (.inr (.inl x))) t H) := mz_tt _
theorem mzr_lstore (e : mz_E) (d : Nat) (M : mx_M) (P : mz_O → mz_H → Prop) (K : Nat → mz_L → List mz_W → mz_H → Prop) (pc : Nat) (L : mz_L) (H : mz_H) (i : Nat) (t : List mz_W) (x : Int) : mz_I e d M P K pc L (.inr (.inr x) :: t) H (.lstore i) 2 = ((i : Nat) + 1 < M.2.2.1 ∧ K (pc + 2) (mz_s2 L i (.inr (.inr x))) t H) := mz_tt _
theorem mzr_lstore_n (e : mz_E) (d : Nat) (M : mx_M) (P : mz_O → mz_H → Prop) (K : Nat → mz_L → List mz_W → mz_H → Prop) (pc : Nat) (L : mz_L) (H : mz_H) (i : Fin 4) (t : List mz_W) (x : Int) : mz_I e d M P K pc L (.inr (.inr x) :: t) H (.lstore_n i) 1 = ((i : Nat) + 1 < M.2.2.1 ∧ K (pc + 1) (mz_s2 L i (.inr (.inr x))) t H) := mz_tt _
theorem mzr_iinc (e : mz_E) (d : Nat) (M : mx_M) (P : mz_O → mz_H → Prop) (K : Nat → mz_L → List mz_W → mz_H → Prop) (pc : Nat) (L : mz_L) (H : mz_H) (st : List mz_W) (i : Nat) (n : Int) : mz_I e d M P K pc L (st) H (.iinc i n) 3 = (i < M.2.2.1 ∧ (match mz_g L i with | some (.inl x) => mz_in (x + n) ∧ K (pc + 3) (mz_st L i (.inl (x + n))) st H | _ => False)) := mz_tt _
theorem mzr_iadd (e : mz_E) (d : Nat) (M : mx_M) (P : mz_O → mz_H → Prop) (K : Nat → mz_L → List mz_W → mz_H → Prop) (pc : Nat) (L : mz_L) (H : mz_H) (t : List mz_W) (x : Int) (y : Int) : mz_I e d M P K pc L (.inl y :: .inl x :: t) H (.iadd) 1 = (mz_in (x + y) ∧ K (pc + 1) L (.inl (x + y) :: t) H) := mz_tt _
theorem mzr_isub (e : mz_E) (d : Nat) (M : mx_M) (P : mz_O → mz_H → Prop) (K : Nat → mz_L → List mz_W → mz_H → Prop) (pc : Nat) (L : mz_L) (H : mz_H) (t : List mz_W) (x : Int) (y : Int) : mz_I e d M P K pc L (.inl y :: .inl x :: t) H (.isub) 1 = (mz_in (x - y) ∧ K (pc + 1) L (.inl (x - y) :: t) H) := mz_tt _
theorem mzr_imul (e : mz_E) (d : Nat) (M : mx_M) (P : mz_O → mz_H → Prop) (K : Nat → mz_L → List mz_W → mz_H → Prop) (pc : Nat) (L : mz_L) (H : mz_H) (t : List mz_W) (x : Int) (y : Int) : mz_I e d M P K pc L (.inl y :: .inl x :: t) H (.imul) 1 = (mz_in (x * y) ∧ K (pc + 1) L (.inl (x * y) :: t) H) := mz_tt _
theorem mzr_iand (e : mz_E) (d : Nat) (M : mx_M) (P : mz_O → mz_H → Prop) (K : Nat → mz_L → List mz_W → mz_H → Prop) (pc : Nat) (L : mz_L) (H : mz_H) (t : List mz_W) (x : Int) (y : Int) : mz_I e d M P K pc L (.inl y :: .inl x :: t) H (.iand) 1 = (K (pc + 1) L (.inl (mz_and x y) :: t) H) := mz_tt _
theorem mzr_ior (e : mz_E) (d : Nat) (M : mx_M) (P : mz_O → mz_H → Prop) (K : Nat → mz_L → List mz_W → mz_H → Prop) (pc : Nat) (L : mz_L) (H : mz_H) (t : List mz_W) (x : Int) (y : Int) : mz_I e d M P K pc L (.inl y :: .inl x :: t) H (.ior) 1 = (K (pc + 1) L (.inl (mz_or x y) :: t) H) := mz_tt _
theorem mzr_ixor (e : mz_E) (d : Nat) (M : mx_M) (P : mz_O → mz_H → Prop) (K : Nat → mz_L → List mz_W → mz_H → Prop) (pc : Nat) (L : mz_L) (H : mz_H) (t : List mz_W) (x : Int) (y : Int) : mz_I e d M P K pc L (.inl y :: .inl x :: t) H (.ixor) 1 = (K (pc + 1) L (.inl (mz_xor x y) :: t) H) := mz_tt _
theorem mzr_ishl (e : mz_E) (d : Nat) (M : mx_M) (P : mz_O → mz_H → Prop) (K : Nat → mz_L → List mz_W → mz_H → Prop) (pc : Nat) (L : mz_L) (H : mz_H) (t : List mz_W) (x : Int) (y : Int) : mz_I e d M P K pc L (.inl y :: .inl x :: t) H (.ishl) 1 = (K (pc + 1) L (.inl (mz_shl x y) :: t) H) := mz_tt _
theorem mzr_ishr (e : mz_E) (d : Nat) (M : mx_M) (P : mz_O → mz_H → Prop) (K : Nat → mz_L → List mz_W → mz_H → Prop) (pc : Nat) (L : mz_L) (H : mz_H) (t : List mz_W) (x : Int) (y : Int) : mz_I e d M P K pc L (.inl y :: .inl x :: t) H (.ishr) 1 = (K (pc + 1) L (.inl (mz_shr x y) :: t) H) := mz_tt _
theorem mzr_iushr (e : mz_E) (d : Nat) (M : mx_M) (P : mz_O → mz_H → Prop) (K : Nat → mz_L → List mz_W → mz_H → Prop) (pc : Nat) (L : mz_L) (H : mz_H) (t : List mz_W) (x : Int) (y : Int) : mz_I e d M P K pc L (.inl y :: .inl x :: t) H (.iushr) 1 = (K (pc + 1) L (.inl (mz_ushr x y) :: t) H) := mz_tt _
theorem mzr_idiv (e : mz_E) (d : Nat) (M : mx_M) (P : mz_O → mz_H → Prop) (K : Nat → mz_L → List mz_W → mz_H → Prop) (pc : Nat) (L : mz_L) (H : mz_H) (t : List mz_W) (x : Int) (y : Int) : mz_I e d M P K pc L (.inl y :: .inl x :: t) H (.idiv) 1 = (0 < y ∧ K (pc + 1) L (.inl (x.tdiv y) :: t) H) := mz_tt _
theorem mzr_irem (e : mz_E) (d : Nat) (M : mx_M) (P : mz_O → mz_H → Prop) (K : Nat → mz_L → List mz_W → mz_H → Prop) (pc : Nat) (L : mz_L) (H : mz_H) (t : List mz_W) (x : Int) (y : Int) : mz_I e d M P K pc L (.inl y :: .inl x :: t) H (.irem) 1 = (0 < y ∧ K (pc + 1) L (.inl (x.tmod y) :: t) H) := mz_tt _
theorem mzr_ineg (e : mz_E) (d : Nat) (M : mx_M) (P : mz_O → mz_H → Prop) (K : Nat → mz_L → List mz_W → mz_H → Prop) (pc : Nat) (L : mz_L) (H : mz_H) (t : List mz_W) (x : Int) : mz_I e d M P K pc L (.inl x :: t) H (.ineg) 1 = (mz_in (-x) ∧ K (pc + 1) L (.inl (-x) :: t) H) := mz_tt _
theorem mzr_ladd (e : mz_E) (d : Nat) (M : mx_M) (P : mz_O → mz_H → Prop) (K : Nat → mz_L → List mz_W → mz_H → Prop) (pc : Nat) (L : mz_L) (H : mz_H) (t : List mz_W) (x : Int) (y : Int) : mz_I e d M P K pc L (.inr (.inr y) :: .inr (.inr x) :: t) H (.ladd) 1 = (mz_jn (x + y) ∧ K (pc + 1) L (.inr (.inr (x + y)) :: t) H) := mz_tt _
theorem mzr_lsub (e : mz_E) (d : Nat) (M : mx_M) (P : mz_O → mz_H → Prop) (K : Nat → mz_L → List mz_W → mz_H → Prop) (pc : Nat) (L : mz_L) (H : mz_H) (t : List mz_W) (x : Int) (y : Int) : mz_I e d M P K pc L (.inr (.inr y) :: .inr (.inr x) :: t) H (.lsub) 1 = (mz_jn (x - y) ∧ K (pc + 1) L (.inr (.inr (x - y)) :: t) H) := mz_tt _
theorem mzr_lmul (e : mz_E) (d : Nat) (M : mx_M) (P : mz_O → mz_H → Prop) (K : Nat → mz_L → List mz_W → mz_H → Prop) (pc : Nat) (L : mz_L) (H : mz_H) (t : List mz_W) (x : Int) (y : Int) : mz_I e d M P K pc L (.inr (.inr y) :: .inr (.inr x) :: t) H (.lmul) 1 = (mz_jn (x * y) ∧ K (pc + 1) L (.inr (.inr (x * y)) :: t) H) := mz_tt _
theorem mzr_lrem (e : mz_E) (d : Nat) (M : mx_M) (P : mz_O → mz_H → Prop) (K : Nat → mz_L → List mz_W → mz_H → Prop) (pc : Nat) (L : mz_L) (H : mz_H) (t : List mz_W) (x : Int) (y : Int) : mz_I e d M P K pc L (.inr (.inr y) :: .inr (.inr x) :: t) H (.lrem) 1 = (0 < y ∧ K (pc + 1) L (.inr (.inr (x.tmod y)) :: t) H) := mz_tt _
theorem mzr_lcmp (e : mz_E) (d : Nat) (M : mx_M) (P : mz_O → mz_H → Prop) (K : Nat → mz_L → List mz_W → mz_H → Prop) (pc : Nat) (L : mz_L) (H : mz_H) (t : List mz_W) (x : Int) (y : Int) : mz_I e d M P K pc L (.inr (.inr y) :: .inr (.inr x) :: t) H (.lcmp) 1 = (K (pc + 1) L (.inl (mz_cmp x y) :: t) H) := mz_tt _
theorem mzr_i2l (e : mz_E) (d : Nat) (M : mx_M) (P : mz_O → mz_H → Prop) (K : Nat → mz_L → List mz_W → mz_H → Prop) (pc : Nat) (L : mz_L) (H : mz_H) (t : List mz_W) (x : Int) : mz_I e d M P K pc L (.inl x :: t) H (.i2l) 1 = (K (pc + 1) L (.inr (.inr x) :: t) H) := mz_tt _
theorem mzr_l2i (e : mz_E) (d : Nat) (M : mx_M) (P : mz_O → mz_H → Prop) (K : Nat → mz_L → List mz_W → mz_H → Prop) (pc : Nat) (L : mz_L) (H : mz_H) (t : List mz_W) (x : Int) : mz_I e d M P K pc L (.inr (.inr x) :: t) H (.l2i) 1 = (mz_in x ∧ K (pc + 1) L (.inl x :: t) H) := mz_tt _
theorem mzr_i2b (e : mz_E) (d : Nat) (M : mx_M) (P : mz_O → mz_H → Prop) (K : Nat → mz_L → List mz_W → mz_H → Prop) (pc : Nat) (L : mz_L) (H : mz_H) (t : List mz_W) (x : Int) : mz_I e d M P K pc L (.inl x :: t) H (.i2b) 1 = ((-128 ≤ x ∧ x < 128) ∧ K (pc + 1) L (.inl x :: t) H) := mz_tt _
theorem mzr_dup (e : mz_E) (d : Nat) (M : mx_M) (P : mz_O → mz_H → Prop) (K : Nat → mz_L → List mz_W → mz_H → Prop) (pc : Nat) (L : mz_L) (H : mz_H) (t : List mz_W) (v : mz_W) : mz_I e d M P K pc L (v :: t) H (.dup) 1 = (mz_c1 v ∧ K (pc + 1) L (v :: v :: t) H) := mz_tt _
theorem mzr_pop (e : mz_E) (d : Nat) (M : mx_M) (P : mz_O → mz_H → Prop) (K : Nat → mz_L → List mz_W → mz_H → Prop) (pc : Nat) (L : mz_L) (H : mz_H) (t : List mz_W) (v : mz_W) : mz_I e d M P K pc L (v :: t) H (.pop) 1 = (mz_c1 v ∧ K (pc + 1) L t H) := mz_tt _
theorem mzr_dup2 (e : mz_E) (d : Nat) (M : mx_M) (P : mz_O → mz_H → Prop) (K : Nat → mz_L → List mz_W → mz_H → Prop) (pc : Nat) (L : mz_L) (H : mz_H) (t : List mz_W) (v : mz_W) (w : mz_W) : mz_I e d M P K pc L (v :: w :: t) H (.dup2) 1 = (mz_c1 v ∧ mz_c1 w ∧ K (pc + 1) L (v :: w :: v :: w :: t) H) := mz_tt _
theorem mzr_ifCond_eq (e : mz_E) (d : Nat) (M : mx_M) (P : mz_O → mz_H → Prop) (K : Nat → mz_L → List mz_W → mz_H → Prop) (pc : Nat) (L : mz_L) (H : mz_H) (off : Int) (t : List mz_W) (x : Int) : mz_I e d M P K pc L (.inl x :: t) H (.ifCond .eq off) 3 = (0 ≤ (pc : Int) + off ∧ (if x = 0 then K (mx_to pc off) L t H else K (pc + 3) L t H)) := (mz_tt _).trans (congrArg _ (mz_itp _ _ _))
theorem mzr_if_icmp_eq (e : mz_E) (d : Nat) (M : mx_M) (P : mz_O → mz_H → Prop) (K : Nat → mz_L → List mz_W → mz_H → Prop) (pc : Nat) (L : mz_L) (H : mz_H) (off : Int) (t : List mz_W) (x : Int) (y : Int) : mz_I e d M P K pc L (.inl y :: .inl x :: t) H (.if_icmp .eq off) 3 = (0 ≤ (pc : Int) + off ∧ (if x = y then K (mx_to pc off) L t H else K (pc + 3) L t H)) := (mz_tt _).trans (congrArg _ (mz_itp _ _ _))
theorem mzr_ifCond_ne (e : mz_E) (d : Nat) (M : mx_M) (P : mz_O → mz_H → Prop) (K : Nat → mz_L → List mz_W → mz_H → Prop) (pc : Nat) (L : mz_L) (H : mz_H) (off : Int) (t : List mz_W) (x : Int) : mz_I e d M P K pc L (.inl x :: t) H (.ifCond .ne off) 3 = (0 ≤ (pc : Int) + off ∧ (if x = 0 then K (pc + 3) L t H else K (mx_to pc off) L t H)) := (mz_tt _).trans (congrArg _ (mz_itn _ _ _))
theorem mzr_if_icmp_ne (e : mz_E) (d : Nat) (M : mx_M) (P : mz_O → mz_H → Prop) (K : Nat → mz_L → List mz_W → mz_H → Prop) (pc : Nat) (L : mz_L) (H : mz_H) (off : Int) (t : List mz_W) (x : Int) (y : Int) : mz_I e d M P K pc L (.inl y :: .inl x :: t) H (.if_icmp .ne off) 3 = (0 ≤ (pc : Int) + off ∧ (if x = y then K (pc + 3) L t H else K (mx_to pc off) L t H)) := (mz_tt _).trans (congrArg _ (mz_itn _ _ _))
theorem mzr_ifCond_lt (e : mz_E) (d : Nat) (M : mx_M) (P : mz_O → mz_H → Prop) (K : Nat → mz_L → List mz_W → mz_H → Prop) (pc : Nat) (L : mz_L) (H : mz_H) (off : Int) (t : List mz_W) (x : Int) : mz_I e d M P K pc L (.inl x :: t) H (.ifCond .lt off) 3 = (0 ≤ (pc : Int) + off ∧ (if x < 0 then K (mx_to pc off) L t H else K (pc + 3) L t H)) := (mz_tt _).trans (congrArg _ (mz_itp _ _ _))
theorem mzr_if_icmp_lt (e : mz_E) (d : Nat) (M : mx_M) (P : mz_O → mz_H → Prop) (K : Nat → mz_L → List mz_W → mz_H → Prop) (pc : Nat) (L : mz_L) (H : mz_H) (off : Int) (t : List mz_W) (x : Int) (y : Int) : mz_I e d M P K pc L (.inl y :: .inl x :: t) H (.if_icmp .lt off) 3 = (0 ≤ (pc : Int) + off ∧ (if x < y then K (mx_to pc off) L t H else K (pc + 3) L t H)) := (mz_tt _).trans (congrArg _ (mz_itp _ _ _))
theorem mzr_ifCond_ge (e : mz_E) (d : Nat) (M : mx_M) (P : mz_O → mz_H → Prop) (K : Nat → mz_L → List mz_W → mz_H → Prop) (pc : Nat) (L : mz_L) (H : mz_H) (off : Int) (t : List mz_W) (x : Int) : mz_I e d M P K pc L (.inl x :: t) H (.ifCond .ge off) 3 = (0 ≤ (pc : Int) + off ∧ (if 0 ≤ x then K (mx_to pc off) L t H else K (pc + 3) L t H)) := (mz_tt _).trans (congrArg _ (mz_itp _ _ _))
theorem mzr_if_icmp_ge (e : mz_E) (d : Nat) (M : mx_M) (P : mz_O → mz_H → Prop) (K : Nat → mz_L → List mz_W → mz_H → Prop) (pc : Nat) (L : mz_L) (H : mz_H) (off : Int) (t : List mz_W) (x : Int) (y : Int) : mz_I e d M P K pc L (.inl y :: .inl x :: t) H (.if_icmp .ge off) 3 = (0 ≤ (pc : Int) + off ∧ (if y ≤ x then K (mx_to pc off) L t H else K (pc + 3) L t H)) := (mz_tt _).trans (congrArg _ (mz_itp _ _ _))
theorem mzr_ifCond_gt (e : mz_E) (d : Nat) (M : mx_M) (P : mz_O → mz_H → Prop) (K : Nat → mz_L → List mz_W → mz_H → Prop) (pc : Nat) (L : mz_L) (H : mz_H) (off : Int) (t : List mz_W) (x : Int) : mz_I e d M P K pc L (.inl x :: t) H (.ifCond .gt off) 3 = (0 ≤ (pc : Int) + off ∧ (if 0 < x then K (mx_to pc off) L t H else K (pc + 3) L t H)) := (mz_tt _).trans (congrArg _ (mz_itp _ _ _))
theorem mzr_if_icmp_gt (e : mz_E) (d : Nat) (M : mx_M) (P : mz_O → mz_H → Prop) (K : Nat → mz_L → List mz_W → mz_H → Prop) (pc : Nat) (L : mz_L) (H : mz_H) (off : Int) (t : List mz_W) (x : Int) (y : Int) : mz_I e d M P K pc L (.inl y :: .inl x :: t) H (.if_icmp .gt off) 3 = (0 ≤ (pc : Int) + off ∧ (if y < x then K (mx_to pc off) L t H else K (pc + 3) L t H)) := (mz_tt _).trans (congrArg _ (mz_itp _ _ _))
theorem mzr_ifCond_le (e : mz_E) (d : Nat) (M : mx_M) (P : mz_O → mz_H → Prop) (K : Nat → mz_L → List mz_W → mz_H → Prop) (pc : Nat) (L : mz_L) (H : mz_H) (off : Int) (t : List mz_W) (x : Int) : mz_I e d M P K pc L (.inl x :: t) H (.ifCond .le off) 3 = (0 ≤ (pc : Int) + off ∧ (if x ≤ 0 then K (mx_to pc off) L t H else K (pc + 3) L t H)) := (mz_tt _).trans (congrArg _ (mz_itp _ _ _))
theorem mzr_if_icmp_le (e : mz_E) (d : Nat) (M : mx_M) (P : mz_O → mz_H → Prop) (K : Nat → mz_L → List mz_W → mz_H → Prop) (pc : Nat) (L : mz_L) (H : mz_H) (off : Int) (t : List mz_W) (x : Int) (y : Int) : mz_I e d M P K pc L (.inl y :: .inl x :: t) H (.if_icmp .le off) 3 = (0 ≤ (pc : Int) + off ∧ (if x ≤ y then K (mx_to pc off) L t H else K (pc + 3) L t H)) := (mz_tt _).trans (congrArg _ (mz_itp _ _ _))
theorem mzr_goto (e : mz_E) (d : Nat) (M : mx_M) (P : mz_O → mz_H → Prop) (K : Nat → mz_L → List mz_W → mz_H → Prop) (pc : Nat) (L : mz_L) (H : mz_H) (st : List mz_W) (off : Int) : mz_I e d M P K pc L (st) H (.goto off) 3 = (0 ≤ (pc : Int) + off ∧ K (mx_to pc off) L st H) := mz_tt _
theorem mzr_iaload (e : mz_E) (d : Nat) (M : mx_M) (P : mz_O → mz_H → Prop) (K : Nat → mz_L → List mz_W → mz_H → Prop) (pc : Nat) (L : mz_L) (H : mz_H) (a : Nat) (i : Int) (t : List mz_W) : mz_I e d M P K pc L (.inl i :: .inr (.inl a) :: t) H (.iaload) 1 = ((match e.2.1 a with | some (k, n) => (k = 20 ∨ k = 21) ∧ (0 ≤ i ∧ i < (n : Int)) ∧ K (pc + 1) L (.inl (H.2.1 a i.toNat) :: t) H | none => False)) := mz_tt _
theorem mzr_baload (e : mz_E) (d : Nat) (M : mx_M) (P : mz_O → mz_H → Prop) (K : Nat → mz_L → List mz_W → mz_H → Prop) (pc : Nat) (L : mz_L) (H : mz_H) (a : Nat) (i : Int) (t : List mz_W) : mz_I e d M P K pc L (.inl i :: .inr (.inl a) :: t) H (.baload) 1 = ((match e.2.1 a with | some (k, n) => (k = 22 ∨ k = 23) ∧ (0 ≤ i ∧ i < (n : Int)) ∧ K (pc + 1) L (.inl (H.2.1 a i.toNat) :: t) H | none => False)) := mz_tt _
theorem mzr_laload (e : mz_E) (d : Nat) (M : mx_M) (P : mz_O → mz_H → Prop) (K : Nat → mz_L → List mz_W → mz_H → Prop) (pc : Nat) (L : mz_L) (H : mz_H) (a : Nat) (i : Int) (t : List mz_W) : mz_I e d M P K pc L (.inl i :: .inr (.inl a) :: t) H (.laload) 1 = ((match e.2.1 a with | some (k, n) => k = 24 ∧ (0 ≤ i ∧ i < (n : Int)) ∧ K (pc + 1) L (.inr (.inr (H.2.2 a i.toNat)) :: t) H | none => False)) := mz_tt _
theorem mzr_aaload (e : mz_E) (d : Nat) (M : mx_M) (P : mz_O → mz_H → Prop) (K : Nat → mz_L → List mz_W → mz_H → Prop) (pc : Nat) (L : mz_L) (H : mz_H) (a : Nat) (i : Int) (t : List mz_W) : mz_I e d M P K pc L (.inl i :: .inr (.inl a) :: t) H (.aaload) 1 = ((match e.2.1 a with | some (k, n) => (k = 25 ∨ k = 26) ∧ (0 ≤ i ∧ i < (n : Int)) ∧ (match e.2.2.1 a i.toNat with | some b => K (pc + 1) L (.inr (.inl b) :: t) H | none => False) | none => False)) := mz_tt _
theorem mzr_iastore (e : mz_E) (d : Nat) (M : mx_M) (P : mz_O → mz_H → Prop) (K : Nat → mz_L → List mz_W → mz_H → Prop) (pc : Nat) (L : mz_L) (H : mz_H) (a : Nat) (i : Int) (t : List mz_W) (x : Int) : mz_I e d M P K pc L (.inl x :: .inl i :: .inr (.inl a) :: t) H (.iastore) 1 = ((match e.2.1 a with | some (k, n) => k = 20 ∧ (0 ≤ i ∧ i < (n : Int)) ∧ K (pc + 1) L t (mz_w H a i.toNat x) | none => False)) := mz_tt _
theorem mzr_bastore (e : mz_E) (d : Nat) (M : mx_M) (P : mz_O → mz_H → Prop) (K : Nat → mz_L → List mz_W → mz_H → Prop) (pc : Nat) (L : mz_L) (H : mz_H) (a : Nat) (i : Int) (t : List mz_W) (x : Int) : mz_I e d M P K pc L (.inl x :: .inl i :: .inr (.inl a) :: t) H (.bastore) 1 = ((match e.2.1 a with | some (k, n) => ((k = 22 ∧ -128 ≤ x ∧ x < 128) ∨ (k = 23 ∧ (x = 0 ∨ x = 1))) ∧ (0 ≤ i ∧ i < (n : Int)) ∧ K (pc + 1) L t (mz_w H a i.toNat x) | none => False)) := mz_tt _
theorem mzr_lastore (e : mz_E) (d : Nat) (M : mx_M) (P : mz_O → mz_H → Prop) (K : Nat → mz_L → List mz_W → mz_H → Prop) (pc : Nat) (L : mz_L) (H : mz_H) (a : Nat) (i : Int) (t : List mz_W) (x : Int) : mz_I e d M P K pc L (.inr (.inr x) :: .inl i :: .inr (.inl a) :: t) H (.lastore) 1 = ((match e.2.1 a with | some (k, n) => k = 24 ∧ (0 ≤ i ∧ i < (n : Int)) ∧ K (pc + 1) L t (mz_wj H a i.toNat x) | none => False)) := mz_tt _
theorem mzr_arraylength (e : mz_E) (d : Nat) (M : mx_M) (P : mz_O → mz_H → Prop) (K : Nat → mz_L → List mz_W → mz_H → Prop) (pc : Nat) (L : mz_L) (H : mz_H) (a : Nat) (t : List mz_W) : mz_I e d M P K pc L (.inr (.inl a) :: t) H (.arraylength) 1 = ((match e.2.1 a with | some (k, n) => 20 ≤ k ∧ k < 27 ∧ mz_in (n : Int) ∧ K (pc + 1) L (.inl (n : Int) :: t) H | none => False)) := mz_tt _
theorem mzr_getfield (e : mz_E) (d : Nat) (M : mx_M) (P : mz_O → mz_H → Prop) (K : Nat → mz_L → List mz_W → mz_H → Prop) (pc : Nat) (L : mz_L) (H : mz_H) (a : Nat) (idx : Nat) (t : List mz_W) : mz_I e d M P K pc L (.inr (.inl a) :: t) H (.getfield idx) 3 = ((match mx_fl M.2.1 idx with | some (c, k, tag) => (match e.2.1 a with | some (c2, _) => c2 = c ∧ (if tag % 10 = 2 then (match e.2.2.1 a k with | some b => K (pc + 3) L (.inr (.inl b) :: t) H | none => False) else K (pc + 3) L (.inl (H.2.1 a k) :: t) H) | none => False) | none => False)) := mz_tt _
theorem mzr_putfield (e : mz_E) (d : Nat) (M : mx_M) (P : mz_O → mz_H → Prop) (K : Nat → mz_L → List mz_W → mz_H → Prop) (pc : Nat) (L : mz_L) (H : mz_H) (a : Nat) (idx : Nat) (t : List mz_W) (x : Int) : mz_I e d M P K pc L (.inl x :: .inr (.inl a) :: t) H (.putfield idx) 3 = ((match mx_fl M.2.1 idx with | some (c, k, tag) => (match e.2.1 a with | some (c2, _) => c2 = c ∧ (tag = 0 ∨ (tag = 1 ∧ (x = 0 ∨ x = 1))) ∧ K (pc + 3) L t (mz_w H a k x) | none => False) | none => False)) := mz_tt _
theorem mzr_getstatic (e : mz_E) (d : Nat) (M : mx_M) (P : mz_O → mz_H → Prop) (K : Nat → mz_L → List mz_W → mz_H → Prop) (pc : Nat) (L : mz_L) (H : mz_H) (st : List mz_W) (idx : Nat) : mz_I e d M P K pc L (st) H (.getstatic idx) 3 = (idx = 58 ∧ M.2.1 = "IdealWorks$Ring" ∧ K (pc + 3) L (.inr (.inl e.1.2.2.2.2) :: st) H) := mz_tt _
theorem mzr_ldc (e : mz_E) (d : Nat) (M : mx_M) (P : mz_O → mz_H → Prop) (K : Nat → mz_L → List mz_W → mz_H → Prop) (pc : Nat) (L : mz_L) (H : mz_H) (st : List mz_W) (idx : Nat) : mz_I e d M P K pc L (st) H (.ldc idx) 2 = ((match mx_kc M.2.1 idx with | some x => K (pc + 2) L (.inl x.toInt :: st) H | none => False)) := mz_tt _
theorem mzr_ldc_w (e : mz_E) (d : Nat) (M : mx_M) (P : mz_O → mz_H → Prop) (K : Nat → mz_L → List mz_W → mz_H → Prop) (pc : Nat) (L : mz_L) (H : mz_H) (st : List mz_W) (idx : Nat) : mz_I e d M P K pc L (st) H (.ldc_w idx) 3 = ((match mx_kc M.2.1 idx with | some x => K (pc + 3) L (.inl x.toInt :: st) H | none => False)) := mz_tt _
theorem mzr_ldc2_w (e : mz_E) (d : Nat) (M : mx_M) (P : mz_O → mz_H → Prop) (K : Nat → mz_L → List mz_W → mz_H → Prop) (pc : Nat) (L : mz_L) (H : mz_H) (st : List mz_W) (idx : Nat) : mz_I e d M P K pc L (st) H (.ldc2_w idx) 3 = ((match mx_kl M.2.1 idx with | some x => K (pc + 3) L (.inr (.inr x.toInt) :: st) H | none => False)) := mz_tt _
theorem mzr_ireturn (e : mz_E) (d : Nat) (M : mx_M) (P : mz_O → mz_H → Prop) (K : Nat → mz_L → List mz_W → mz_H → Prop) (pc : Nat) (L : mz_L) (H : mz_H) (t : List mz_W) (v : Int) : mz_I e d M P K pc L (.inl v :: t) H (.ireturn) 1 = (t = [] ∧ (M.2.2.2.1 = some .int ∨ (M.2.2.2.1 = some .boolean ∧ (v = 0 ∨ v = 1))) ∧ P (.inl (some (.inl v))) H) := mz_tt _
theorem mzr_return_ (e : mz_E) (d : Nat) (M : mx_M) (P : mz_O → mz_H → Prop) (K : Nat → mz_L → List mz_W → mz_H → Prop) (pc : Nat) (L : mz_L) (H : mz_H) (st : List mz_W)  : mz_I e d M P K pc L (st) H (.return_) 1 = (M.2.2.2.1 = none ∧ st = [] ∧ P (.inl none) H) := mz_tt _
def mz_tk : Nat → List mz_W → List mz_W → List mz_W
  | 0, _, acc => acc
  | _ + 1, [], acc => acc
  | n + 1, w :: t, acc => mz_tk n t (w :: acc)
def mz_dp : Nat → List mz_W → List mz_W
  | 0, s => s
  | _ + 1, [] => []
  | n + 1, _ :: t => mz_dp n t
theorem mz_tk_ok : ∀ (n : Nat) (s acc : List mz_W), (s.take n).reverse ++ acc = mz_tk n s acc := by
  intro n
  induction n with
  | zero => intro s acc; simp [mz_tk]
  | succ n ih =>
    intro s acc
    cases s with
    | nil => simp [mz_tk]
    | cons w t => rw [mz_tk, ← ih]; simp
theorem mz_dp_ok : ∀ (n : Nat) (s : List mz_W), s.drop n = mz_dp n s := by
  intro n
  induction n with
  | zero => intro s; simp [mz_dp]
  | succ n ih =>
    intro s
    cases s with
    | nil => simp [mz_dp]
    | cons w t => rw [mz_dp, ← ih]; simp
def mz_ln : List mz_W → Nat
  | [] => 0
  | _ :: t => mz_ln t + 1
theorem mz_ln_ok (s : List mz_W) : s.length = mz_ln s := by
  induction s with
  | nil => rfl
  | cons w t ih => rw [mz_ln, ← ih]; rfl
theorem mzr_copy (e : mz_E) (d : Nat) (M : mx_M) (P : mz_O → mz_H → Prop) (K : Nat → mz_L → List mz_W → mz_H → Prop) (pc : Nat) (L : mz_L) (H : mz_H) (a b idx : Nat) (sp dp n : Int) (t : List mz_W) (h : mx_cp M.2.1 idx = true) : mz_I e d M P K pc L (.inl n :: .inl dp :: .inr (.inl b) :: .inl sp :: .inr (.inl a) :: t) H (.invokestatic idx) 3 = (match e.2.1 a with
    | some (ka, na) => (match e.2.1 b with
      | some (kb, nb) => ka = 20 ∧ kb = 20 ∧ mz_sz t ≤ 8 ∧ (0 ≤ sp ∧ 0 ≤ dp ∧ 0 ≤ n ∧ sp + n ≤ (na : Int) ∧ dp + n ≤ (nb : Int)) ∧ K (pc + 3) L t (mz_cy H a sp.toNat b dp.toNat n.toNat)
      | none => False)
    | none => False) := by
  refine (mz_tt (k := 3) _).trans ?_
  rw [if_pos h]
  rfl
theorem mzr_static (e : mz_E) (d : Nat) (M : mx_M) (P : mz_O → mz_H → Prop) (K : Nat → mz_L → List mz_W → mz_H → Prop) (pc : Nat) (L : mz_L) (H : mz_H) (st : List mz_W) (idx : Nat) (h : mx_cp M.2.1 idx = false) : mz_I e d M P K pc L st H (.invokestatic idx) 3 = (match mx_sl M.2.1 idx with
    | some j => (mx_sg j).2.1 = 0 ∧ (mx_sg j).1 ≤ mz_ln st ∧ mz_sz (mz_tk (mx_sg j).1 st []) ≤ (mx_sg j).2.2.2 ∧ mz_sz (mz_dp (mx_sg j).1 st) ≤ 8 ∧ (match d with
      | 0 => False
      | d2 + 1 => mz_CA e d2 j (mz_tk (mx_sg j).1 st []) H (mz_af M pc L (mz_dp (mx_sg j).1 st) P K))
    | none => False) := by
  refine (mz_tt (k := 3) _).trans ?_
  rw [if_neg (by rw [h]; decide)]
  unfold mz_mt
  cases mx_sl M.2.1 idx with
  | none => rfl
  | some j =>
    dsimp only
    rw [← mz_tk_ok, ← mz_dp_ok, ← mz_ln_ok, List.append_nil]
    rfl
theorem mzr_virtual (e : mz_E) (d : Nat) (M : mx_M) (P : mz_O → mz_H → Prop) (K : Nat → mz_L → List mz_W → mz_H → Prop) (pc : Nat) (L : mz_L) (H : mz_H) (st : List mz_W) (idx : Nat) : mz_I e d M P K pc L st H (.invokevirtual idx) 3 = (match mx_sl M.2.1 idx with
    | some j => (mx_sg j).2.1 = 1 ∧ (mx_sg j).1 ≤ mz_ln st ∧ (mx_sg j).2.2.1 < 10 ∧ (match mz_dp (mx_sg j).1 st with
      | .inr (.inl b) :: rest => (match e.2.1 b with
        | some (c2, _) => c2 = (mx_sg j).2.2.1 ∧ mz_sz (.inr (.inl b) :: mz_tk (mx_sg j).1 st []) ≤ (mx_sg j).2.2.2 ∧ mz_sz rest ≤ 8 ∧ (match d with
          | 0 => False
          | d2 + 1 => mz_CA e d2 j (.inr (.inl b) :: mz_tk (mx_sg j).1 st []) H (mz_af M pc L rest P K))
        | none => False)
      | _ => False)
    | none => False) := by
  refine (mz_tt (k := 3) _).trans ?_
  unfold mz_mt
  cases mx_sl M.2.1 idx with
  | none => rfl
  | some j =>
    dsimp only
    rw [← mz_tk_ok, ← mz_dp_ok, ← mz_ln_ok, List.append_nil]
    rfl
theorem mz_af_v (M : mx_M) (pc : Nat) (L : mz_L) (rest : List mz_W) (P : mz_O → mz_H → Prop) (K : Nat → mz_L → List mz_W → mz_H → Prop) (H : mz_H) : mz_af M pc L rest P K (.inl none) H = K (pc + 3) L rest H := rfl
theorem mz_af_s (M : mx_M) (pc : Nat) (L : mz_L) (rest : List mz_W) (P : mz_O → mz_H → Prop) (K : Nat → mz_L → List mz_W → mz_H → Prop) (H : mz_H) (v : mz_W) : mz_af M pc L rest P K (.inl (some v)) H = K (pc + 3) L (v :: rest) H := rfl
theorem mzr_new (e : mz_E) (d : Nat) (M : mx_M) (P : mz_O → mz_H → Prop) (K : Nat → mz_L → List mz_W → mz_H → Prop) (pc : Nat) (L : mz_L) (H : mz_H) (st : List mz_W) (idx : Nat) : mz_I e d M P K pc L st H (.new idx) 3 = (match mx_xi M.2.1 idx with
    | some x => x < 3 ∧ M.2.2.2.2.1 = [] ∧ decode (mx_ca M.1) (pc + 3) = .ok (.dup, 1) ∧ decode (mx_ca M.1) (pc + 4) = .ok (.invokespecial (mx_ic x), 3) ∧ decode (mx_ca M.1) (pc + 7) = .ok (.athrow, 1) ∧ mz_sz st ≤ 8 ∧ e.2.2.2.1 + H.1 + 1 ≤ 601024 ∧ e.2.2.2.2 + 6 * H.1 + 6 ≤ 7293034 ∧ P (.inr x) (H.1 + 1, H.2)
    | none => False) := by
  refine (mz_tt (k := 3) _).trans ?_
  cases h : mx_xi M.2.1 idx with
  | none => simp
  | some x => simp
