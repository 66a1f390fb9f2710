/- objects in the making: what stands at base a, up to top cells behind it -/
def bx_f (h h' : mx_H) (a b : Nat) : Prop := ∀ c, c < a ∨ b ≤ c → h'.2.2.1 c = h.2.2.1 c ∧ h'.2.2.2.1 c = h.2.2.2.1 c ∧ h'.2.2.2.2.1 c = h.2.2.2.2.1 c ∧ h'.2.2.2.2.2 c = h.2.2.2.2.2 c
theorem bx_f.tr {h h1 h2 : mx_H} {a b : Nat} (q : bx_f h h1 a b) (r : bx_f h1 h2 a b) : bx_f h h2 a b := fun c hc => by
  obtain ⟨a1, a2, a3, a4⟩ := q c hc
  obtain ⟨b1, b2, b3, b4⟩ := r c hc
  exact ⟨b1.trans a1, b2.trans a2, b3.trans a3, b4.trans a4⟩
theorem bx_f.rf (h : mx_H) (a b : Nat) : bx_f h h a b := fun _ _ => ⟨rfl, rfl, rfl, rfl⟩
theorem bx_f.lo {h h' : mx_H} {a b a' b' : Nat} (q : bx_f h h' a b) (hab : a' ≤ a) (hbb : b ≤ b') : bx_f h h' a' b' := fun c hc => q c (by omega)
def bq (a : Nat) (h : mx_H) (top : Nat) (KL RL ML : List (Nat × Nat × Nat)) (F : Nat → Int32) (FL : List (Nat × (Nat → Int32))) (NZ : List Nat) : Prop :=
  (∀ q, q ∈ KL → q.1 < top ∧ h.2.2.1 (a + q.1) = some q.2) ∧ (∀ q, q ∈ RL → q.1 < top ∧ h.2.2.2.2.1 (a + q.1) q.2.1 = some q.2.2) ∧
  (∀ q, q ∈ ML → 1 ≤ q.1 ∧ q.1 + q.2.1 < top ∧ ∀ k, k < q.2.1 → h.2.2.2.2.1 (a + q.1) k = some (a + q.1 + 1 + k) ∧ h.2.2.1 (a + q.1 + 1 + k) = some (20, q.2.2)) ∧
  (0 < top ∧ h.2.2.2.1 a = F) ∧ (∀ q, q ∈ FL → 1 ≤ q.1 ∧ q.1 < top ∧ h.2.2.2.1 (a + q.1) = q.2) ∧ ∀ c, 1 ≤ c → c < top → c ∉ NZ → h.2.2.2.1 (a + c) = fun _ => 0
section BQ
variable {E : mx_E} {a top : Nat} {h : mx_H} {KL RL ML : List (Nat × Nat × Nat)} {F : Nat → Int32} {FL : List (Nat × (Nat → Int32))} {NZ : List Nat}
theorem mx_up1_s {α : Type} (f : Nat → α) (a : Nat) (x : α) : mx_up1 f a x a = x := if_pos rfl
theorem mx_up1_n {α : Type} (f : Nat → α) {a b : Nat} (x : α) (hb : b ≠ a) : mx_up1 f a x b = f b := if_neg hb
theorem bq_0 {k n : Nat} (hc : E.2.1 + h.1 = a) : bq a (mx_nw E h k n) 1 [(0, k, n)] [] [] (fun _ => 0) [] [] := by
  subst hc
  refine ⟨fun q hq => ?_, fun q hq => (by cases hq), fun q hq => (by cases hq), ⟨by omega, mx_up1_s _ _ _⟩, fun q hq => (by cases hq), fun c h1 h2 => by omega⟩
  rcases List.mem_singleton.mp hq with rfl
  exact ⟨by omega, mx_up1_s _ _ _⟩
theorem bq_nw {k N : Nat} (hc : E.2.1 + h.1 = a + top) (hb : bq a h top KL RL ML F FL NZ) : bq a (mx_nw E h k N) (top + 1) ((top, k, N) :: KL) RL ML F FL NZ := by
  obtain ⟨b1, b2, b3, b4, b5, b6⟩ := hb
  have ne : ∀ c, c < top → a + c ≠ E.2.1 + h.1 := fun c hcc => by omega
  have kk : ∀ c, c < top → (mx_nw E h k N).2.2.1 (a + c) = h.2.2.1 (a + c) := fun c hcc => mx_up1_n _ _ (ne c hcc)
  have ii : ∀ c, c < top → (mx_nw E h k N).2.2.2.1 (a + c) = h.2.2.2.1 (a + c) := fun c hcc => mx_up1_n _ _ (ne c hcc)
  have rr : ∀ c, c < top → (mx_nw E h k N).2.2.2.2.1 (a + c) = h.2.2.2.2.1 (a + c) := fun c hcc => mx_up1_n _ _ (ne c hcc)
  refine ⟨fun q hq => ?_, fun q hq => ?_, fun q hq => ?_, ⟨by omega, ?_⟩, fun q hq => ?_, fun c h1 h2 h3 => ?_⟩
  · rcases List.mem_cons.mp hq with rfl | hq
    · refine ⟨by omega, ?_⟩
      show mx_up1 _ _ _ (a + top) = _
      rw [← hc]
      exact mx_up1_s _ _ _
    · have := b1 q hq
      exact ⟨by omega, by rw [kk _ this.1]; exact this.2⟩
  · have := b2 q hq
    exact ⟨by omega, by rw [rr _ this.1]; exact this.2⟩
  · obtain ⟨c1, c2, c3⟩ := b3 q hq
    refine ⟨c1, by omega, fun j hj => ?_⟩
    obtain ⟨d1, d2⟩ := c3 j hj
    rw [rr _ (by omega)]
    have e1 : a + q.1 + 1 + j = a + (q.1 + 1 + j) := by omega
    refine ⟨d1, ?_⟩
    rw [e1, kk _ (by omega), ← e1]
    exact d2
  · have := ii 0 b4.1
    rw [Nat.add_zero] at this
    rw [this]
    exact b4.2
  · obtain ⟨c1, c2, c3⟩ := b5 q hq
    exact ⟨c1, by omega, by rw [ii _ c2]; exact c3⟩
  · by_cases hct : c = top
    · rw [hct, ← hc]
      exact mx_up1_s _ _ _
    · rw [ii c (by omega)]
      exact b6 c h1 (by omega) h3
theorem bq_sr {f t : Nat} (hb : bq a h top KL RL ML F FL NZ) (hne : ∀ q, q ∈ RL → q.1 = 0 → q.2.1 ≠ f) : bq a (mx_sr h a f (some t)) top KL ((0, f, t) :: RL) ML F FL NZ := by
  obtain ⟨b1, b2, b3, b4, b5, b6⟩ := hb
  refine ⟨b1, fun q hq => ?_, fun q hq => ?_, b4, b5, b6⟩
  · rcases List.mem_cons.mp hq with rfl | hq
    · refine ⟨b4.1, ?_⟩
      show mx_up2 _ _ _ _ (a + 0) f = _
      rw [Nat.add_zero]
      exact mx_up2_s _ _ _ _
    · have := b2 q hq
      refine ⟨this.1, ?_⟩
      show mx_up2 _ _ _ _ (a + q.1) q.2.1 = _
      rw [mx_up2_n _ _ (fun hh => hne q hq (by omega) hh.2)]
      exact this.2
  · obtain ⟨c1, c2, c3⟩ := b3 q hq
    refine ⟨c1, c2, fun j hj => ?_⟩
    obtain ⟨d1, d2⟩ := c3 j hj
    refine ⟨?_, d2⟩
    show mx_up2 _ _ _ _ (a + q.1) j = _
    rw [mx_up2_o _ _ (by omega)]
    exact d1
theorem bq_si {f : Nat} {v : Int32} (hb : bq a h top KL RL ML F FL NZ) : bq a (mx_si h a f v) top KL RL ML (fun j => if j = f then v else F j) FL NZ := by
  obtain ⟨b1, b2, b3, b4, b5, b6⟩ := hb
  refine ⟨b1, b2, b3, ⟨b4.1, ?_⟩, fun q hq => ?_, fun c h1 h2 h3 => ?_⟩
  · funext j
    show mx_up2 _ _ _ _ a j = _
    by_cases hj : j = f
    · rw [hj, mx_up2_s, if_pos rfl]
    · rw [mx_up2_n _ _ (fun hh => hj hh.2), if_neg hj, b4.2]
  · obtain ⟨c1, c2, c3⟩ := b5 q hq
    refine ⟨c1, c2, ?_⟩
    show mx_up2 _ _ _ _ (a + q.1) = _
    rw [mx_up2_o _ _ (by omega)]
    exact c3
  · show mx_up2 _ _ _ _ (a + c) = _
    rw [mx_up2_o _ _ (by omega)]
    exact b6 c h1 h2 h3
theorem bq_srx {c f t : Nat} (hc1 : 1 ≤ c) (hct : c < top) (hb : bq a h top KL RL ML F FL NZ) (hne : ∀ q, q ∈ RL → q.1 = c → q.2.1 ≠ f) (hml : ∀ q, q ∈ ML → q.1 ≠ c) : bq a (mx_sr h (a + c) f (some t)) top KL ((c, f, t) :: RL) ML F FL NZ := by
  obtain ⟨b1, b2, b3, b4, b5, b6⟩ := hb
  refine ⟨b1, fun q hq => ?_, fun q hq => ?_, b4, b5, b6⟩
  · rcases List.mem_cons.mp hq with rfl | hq
    · exact ⟨hct, mx_up2_s _ _ _ _⟩
    · have := b2 q hq
      refine ⟨this.1, ?_⟩
      show mx_up2 _ _ _ _ (a + q.1) q.2.1 = _
      rw [mx_up2_n _ _ (fun hh => hne q hq (by omega) hh.2)]
      exact this.2
  · obtain ⟨c1, c2, c3⟩ := b3 q hq
    refine ⟨c1, c2, fun j hj => ?_⟩
    obtain ⟨d1, d2⟩ := c3 j hj
    refine ⟨?_, d2⟩
    show mx_up2 _ _ _ _ (a + q.1) j = _
    rw [mx_up2_o _ _ (by have := hml q hq; omega)]
    exact d1
theorem bq_nw2 {N K : Nat} (hc : E.2.1 + h.1 = a + top) (hb : bq a h top KL RL ML F FL NZ) : bq a (mx_nw2 E h N K) (top + 1 + N) ((top, 25, N) :: KL) RL ((top, N, K) :: ML) F FL NZ := by
  obtain ⟨b1, b2, b3, b4, b5, b6⟩ := hb
  have kk : ∀ c, c < top → (mx_nw2 E h N K).2.2.1 (a + c) = h.2.2.1 (a + c) := fun c hcc => by
    show (if a + c = E.2.1 + h.1 then _ else if E.2.1 + h.1 < a + c ∧ a + c ≤ E.2.1 + h.1 + N then _ else _) = _
    rw [if_neg (by omega), if_neg (by omega)]
  have ii : ∀ c, c < top → (mx_nw2 E h N K).2.2.2.1 (a + c) = h.2.2.2.1 (a + c) := fun c hcc => by
    show (if E.2.1 + h.1 ≤ a + c ∧ a + c ≤ E.2.1 + h.1 + N then _ else _) = _
    rw [if_neg (by omega)]
  have rr : ∀ c, c < top → (mx_nw2 E h N K).2.2.2.2.1 (a + c) = h.2.2.2.2.1 (a + c) := fun c hcc => by
    show (if a + c = E.2.1 + h.1 then _ else if E.2.1 + h.1 < a + c ∧ a + c ≤ E.2.1 + h.1 + N then _ else _) = _
    rw [if_neg (by omega), if_neg (by omega)]
  refine ⟨fun q hq => ?_, fun q hq => ?_, fun q hq => ?_, ⟨by omega, ?_⟩, fun q hq => ?_, fun c h1 h2 h3 => ?_⟩
  · rcases List.mem_cons.mp hq with rfl | hq
    · refine ⟨by show top < _; omega, ?_⟩
      show (if a + top = E.2.1 + h.1 then some (25, N) else _) = _
      rw [if_pos hc.symm]
    · have := b1 q hq
      exact ⟨by omega, by rw [kk _ this.1]; exact this.2⟩
  · have := b2 q hq
    exact ⟨by omega, by rw [rr _ this.1]; exact this.2⟩
  · rcases List.mem_cons.mp hq with rfl | hq
    · refine ⟨b4.1, by show top + N < _; omega, fun j hj => ?_⟩
      replace hj : j < N := hj
      refine ⟨?_, ?_⟩
      · show (if a + top = E.2.1 + h.1 then (fun j => if j < N then some (E.2.1 + h.1 + 1 + j) else none) else _) j = some (a + top + 1 + j)
        rw [if_pos hc.symm]
        show (if j < N then some (E.2.1 + h.1 + 1 + j) else none) = _
        rw [if_pos hj, hc]
      · show (if a + top + 1 + j = E.2.1 + h.1 then _ else if E.2.1 + h.1 < a + top + 1 + j ∧ a + top + 1 + j ≤ E.2.1 + h.1 + N then some (20, K) else _) = _
        rw [if_neg (by omega), if_pos (by omega)]
    · obtain ⟨c1, c2, c3⟩ := b3 q hq
      refine ⟨c1, by omega, fun j hj => ?_⟩
      obtain ⟨d1, d2⟩ := c3 j hj
      rw [rr _ (by omega)]
      have e1 : a + q.1 + 1 + j = a + (q.1 + 1 + j) := by omega
      refine ⟨d1, ?_⟩
      rw [e1, kk _ (by omega), ← e1]
      exact d2
  · have := ii 0 b4.1
    rw [Nat.add_zero] at this
    rw [this]
    exact b4.2
  · obtain ⟨c1, c2, c3⟩ := b5 q hq
    exact ⟨c1, by omega, by rw [ii _ c2]; exact c3⟩
  · by_cases hct : c < top
    · rw [ii c hct]
      exact b6 c h1 hct h3
    · show (if E.2.1 + h.1 ≤ a + c ∧ a + c ≤ E.2.1 + h.1 + N then _ else _) = _
      rw [if_pos (by omega)]
def bs3 (s : Nat) (L : List (Nat × Nat × Nat)) : List (Nat × Nat × Nat) := L.map (fun q => (s + q.1, q.2))
def bs2 (s : Nat) (L : List (Nat × (Nat → Int32))) : List (Nat × (Nat → Int32)) := L.map (fun q => (s + q.1, q.2))
/- a whole object behind it -/
theorem bq_sub {h' : mx_H} {top2 : Nat} {K2 R2 M2 : List (Nat × Nat × Nat)} {F2 : Nat → Int32} {FL2 : List (Nat × (Nat → Int32))} {NZ2 : List Nat} (hb : bq a h top KL RL ML F FL NZ) {bb : Nat} (hf : bx_f h h' (a + top) bb) (h2 : bq (a + top) h' top2 K2 R2 M2 F2 FL2 NZ2) (b : List Nat) (hbz : (∃ c, c ∈ b ∧ c = top) ∨ F2 = fun _ => 0) (hbn : ∀ c, c ∈ NZ2 → top + c ∈ b) :
    bq a h' (top + top2) (bs3 top K2 ++ KL) (bs3 top R2 ++ RL) (bs3 top M2 ++ ML) F ((top, F2) :: bs2 top FL2 ++ FL) (b ++ NZ) := by
  obtain ⟨b1, b2, b3, b4, b5, b6⟩ := hb
  obtain ⟨c1, c2, c3, c4, c5, c6⟩ := h2
  have t2 := c4.1
  have e0 : ∀ c, c < top → h'.2.2.1 (a + c) = h.2.2.1 (a + c) ∧ h'.2.2.2.1 (a + c) = h.2.2.2.1 (a + c) ∧ h'.2.2.2.2.1 (a + c) = h.2.2.2.2.1 (a + c) := fun c hc => by
    obtain ⟨q1, q2, q3, _⟩ := hf (a + c) (by omega)
    exact ⟨q1, q2, q3⟩
  refine ⟨fun q hq => ?_, fun q hq => ?_, fun q hq => ?_, ⟨by omega, ?_⟩, fun q hq => ?_, fun c h1 h2 h3 => ?_⟩
  · rcases List.mem_append.mp hq with hq | hq
    · obtain ⟨r, hr, rfl⟩ := List.mem_map.mp hq
      have := c1 r hr
      exact ⟨by show top + r.1 < _; omega, by show h'.2.2.1 (a + (top + r.1)) = _; rw [← Nat.add_assoc]; exact this.2⟩
    · have := b1 q hq
      exact ⟨by omega, by rw [(e0 _ this.1).1]; exact this.2⟩
  · rcases List.mem_append.mp hq with hq | hq
    · obtain ⟨r, hr, rfl⟩ := List.mem_map.mp hq
      have := c2 r hr
      exact ⟨by show top + r.1 < _; omega, by show h'.2.2.2.2.1 (a + (top + r.1)) _ = _; rw [← Nat.add_assoc]; exact this.2⟩
    · have := b2 q hq
      exact ⟨by omega, by rw [(e0 _ this.1).2.2]; exact this.2⟩
  · rcases List.mem_append.mp hq with hq | hq
    · obtain ⟨r, hr, rfl⟩ := List.mem_map.mp hq
      obtain ⟨d1, d2, d3⟩ := c3 r hr
      refine ⟨by show 1 ≤ top + r.1; omega, by show top + r.1 + r.2.1 < _; omega, fun j hj => ?_⟩
      show h'.2.2.2.2.1 (a + (top + r.1)) j = some (a + (top + r.1) + 1 + j) ∧ h'.2.2.1 (a + (top + r.1) + 1 + j) = some (20, r.2.2)
      rw [← Nat.add_assoc]
      exact d3 j hj
    · obtain ⟨d1, d2, d3⟩ := b3 q hq
      refine ⟨d1, by omega, fun j hj => ?_⟩
      obtain ⟨z1, z2⟩ := d3 j hj
      rw [(e0 _ (by omega)).2.2]
      have e1 : a + q.1 + 1 + j = a + (q.1 + 1 + j) := by omega
      refine ⟨z1, ?_⟩
      rw [e1, (e0 _ (by omega)).1, ← e1]
      exact z2
  · have := (e0 0 b4.1).2.1
    rw [Nat.add_zero] at this
    rw [this]
    exact b4.2
  · rcases List.mem_cons.mp hq with rfl | hq
    · exact ⟨b4.1, by show top < _; omega, c4.2⟩
    · rcases List.mem_append.mp hq with hq | hq
      · obtain ⟨r, hr, rfl⟩ := List.mem_map.mp hq
        obtain ⟨d1, d2, d3⟩ := c5 r hr
        exact ⟨by show 1 ≤ top + r.1; omega, by show top + r.1 < _; omega, by show h'.2.2.2.1 (a + (top + r.1)) = _; rw [← Nat.add_assoc]; exact d3⟩
      · obtain ⟨d1, d2, d3⟩ := b5 q hq
        exact ⟨d1, by omega, by rw [(e0 _ d2).2.1]; exact d3⟩
  · have hn1 : c ∉ b := fun q => h3 (List.mem_append.mpr (Or.inl q))
    have hn2 : c ∉ NZ := fun q => h3 (List.mem_append.mpr (Or.inr q))
    by_cases hct : c < top
    · rw [(e0 c hct).2.1]
      exact b6 c h1 hct hn2
    · by_cases hce : c = top
      · rcases hbz with ⟨w, hw, hw2⟩ | hz
        · rw [hw2, ← hce] at hw
          exact absurd hw hn1
        · rw [hce, c4.2, hz]
      · have := c6 (c - top) (by omega) (by omega) (fun q => hn1 (by have := hbn _ q; rwa [show top + (c - top) = c by omega] at this))
        rw [show a + top + (c - top) = a + c by omega] at this
        exact this
theorem bx_nw0 {k N b : Nat} (hc : a ≤ E.2.1 + h.1) (hb : E.2.1 + h.1 < b) : bx_f h (mx_nw E h k N) a b := fun c hcc => by
  have ne : c ≠ E.2.1 + h.1 := by omega
  exact ⟨mx_up1_n _ _ ne, mx_up1_n _ _ ne, mx_up1_n _ _ ne, mx_up1_n _ _ ne⟩
theorem bx_nw2 {N K b : Nat} (hc : a ≤ E.2.1 + h.1) (hb : E.2.1 + h.1 + N < b) : bx_f h (mx_nw2 E h N K) a b := fun c hcc => by
  refine ⟨?_, ?_, ?_, ?_⟩
  · show (if c = E.2.1 + h.1 then _ else if E.2.1 + h.1 < c ∧ c ≤ E.2.1 + h.1 + N then _ else _) = _
    rw [if_neg (by omega), if_neg (by omega)]
  · show (if E.2.1 + h.1 ≤ c ∧ c ≤ E.2.1 + h.1 + N then _ else _) = _
    rw [if_neg (by omega)]
  · show (if c = E.2.1 + h.1 then _ else if E.2.1 + h.1 < c ∧ c ≤ E.2.1 + h.1 + N then _ else _) = _
    rw [if_neg (by omega), if_neg (by omega)]
  · show (if E.2.1 + h.1 ≤ c ∧ c ≤ E.2.1 + h.1 + N then _ else _) = _
    rw [if_neg (by omega)]
theorem bx_sr {f x b : Nat} {t : Option Nat} (hx : a ≤ x) (hb : x < b) : bx_f h (mx_sr h x f t) a b := fun c hc => ⟨rfl, rfl, mx_up2_o _ _ (by omega), rfl⟩
theorem bx_si {f b : Nat} {v : Int32} (hb : a < b) : bx_f h (mx_si h a f v) a b := fun c hc => ⟨rfl, mx_up2_o _ _ (by omega), rfl, rfl⟩
end BQ
/- a constant pushed -/
def bx_pu (M : mx_M) (pc : Nat) (n : Int32) (pc2 : Nat) : Prop :=
  (∃ k, decode (mx_ca M.1) pc = .ok (.iconst k, 1) ∧ n = Int32.ofInt k ∧ pc2 = pc + 1) ∨ (∃ k, decode (mx_ca M.1) pc = .ok (.bipush k, 2) ∧ n = (Int8.ofInt k).toInt32 ∧ pc2 = pc + 2) ∨
  (∃ k, decode (mx_ca M.1) pc = .ok (.sipush k, 3) ∧ n = (Int16.ofInt k).toInt32 ∧ pc2 = pc + 3) ∨ (∃ k, decode (mx_ca M.1) pc = .ok (.ldc k, 2) ∧ mx_kc M.2.1 k = some n ∧ pc2 = pc + 2)
section BV
variable {E : mx_E} {d : Nat} {M : mx_M} {pc pc2 pc3 : Nat} {l : mx_L} {st : List Value} {h : mx_H} {P : mx_O → mx_H → Prop} {a top s ci f tag nn N : Nat} {n : Int32} {KL RL ML : List (Nat × Nat × Nat)} {F : Nat → Int32} {FL : List (Nat × (Nat → Int32))} {NZ : List Nat}
theorem bv_pu (hG : mx_G E) (hp : bx_pu M pc n pc2) (k : mx_V E d M pc2 l (.int n :: st) h P) : mx_V E d M pc l st h P := by
  rcases hp with ⟨q, h1, rfl, rfl⟩ | ⟨q, h1, rfl, rfl⟩ | ⟨q, h1, rfl, rfl⟩ | ⟨q, h1, h2, rfl⟩
  · exact mv_iconst h1 k
  · exact mv_bipush h1 k
  · exact mv_sipush h1 k
  · exact mv_ldc hG h1 h2 k
/- what a constructor's step needs to know -/
def bS (E : mx_E) (h0 : mx_H) (a top s : Nat) (KL RL ML : List (Nat × Nat × Nat)) (F : Nat → Int32) (FL : List (Nat × (Nat → Int32))) (NZ : List Nat) (h : mx_H) : Prop :=
  (E.2.1 + h.1 = a + top ∧ h.2.1 = s) ∧ bx_f h0 h a (a + top) ∧ bq a h top KL RL ML F FL NZ
theorem bv_put {x idx : Nat} (hG : mx_G E) (hd : decode (mx_ca M.1) pc = .ok (.putfield idx, 3)) (hf : mx_fl M.2.1 idx = some (ci, f, tag)) (ht : tag % 10 = 2) (hi : M.2.2.2.2.2 = "<init>" ∧ (mx_T ci f).1 = M.2.1) (hk : h.2.2.1 a = some (ci, nn)) (k : mx_V E d M (pc + 3) l st (mx_sr h a f (some x)) P) : mx_V E d M pc l (.ref x :: .ref a :: st) h P :=
  mx_I_ok hG (K := fun pc l st h => mx_V E d M pc l st h P) (fun _ _ _ _ k => k) hd (show _ ∧ _ from ⟨rfl, (ci, f, tag), hf, Or.inr hi, ⟨nn, hk⟩, ht, k⟩)
theorem bv_puti {x : Int32} {idx : Nat} (hG : mx_G E) (hd : decode (mx_ca M.1) pc = .ok (.putfield idx, 3)) (hf : mx_fl M.2.1 idx = some (ci, f, tag)) (ht : tag % 10 = 0 ∨ (tag % 10 = 1 ∧ (x = 0 ∨ x = 1))) (hi : M.2.2.2.2.2 = "<init>" ∧ (mx_T ci f).1 = M.2.1) (hk : h.2.2.1 a = some (ci, nn)) (k : mx_V E d M (pc + 3) l st (mx_si h a f x) P) : mx_V E d M pc l (.int x :: .ref a :: st) h P :=
  mx_I_ok hG (K := fun pc l st h => mx_V E d M pc l st h P) (fun _ _ _ _ k => k) hd (show _ ∧ _ from ⟨rfl, (ci, f, tag), hf, Or.inr hi, ⟨nn, hk⟩, ht, k⟩)
theorem bS.k {h0 : mx_H} (hS : bS E h0 a top s KL RL ML F FL NZ h) {c k m : Nat} (hm : (c, k, m) ∈ KL) : h.2.2.1 (a + c) = some (k, m) := (hS.2.2.1 _ hm).2
theorem bS.k0 {h0 : mx_H} (hS : bS E h0 a top s KL RL ML F FL NZ h) {k m : Nat} (hm : (0, k, m) ∈ KL) : h.2.2.1 a = some (k, m) := (hS.2.2.1 _ hm).2
theorem bv_int {h0 : mx_H} {x : Int32} {idx : Nat} (hG : mx_G E) (hS : bS E h0 a top s KL RL ML F FL NZ h) (hl : l 0 = some (.ref a)) (d0 : decode (mx_ca M.1) pc = .ok (.aload_n 0, 1)) (hp : bx_pu M (pc + 1) x pc2) (d3 : decode (mx_ca M.1) pc2 = .ok (.putfield idx, 3)) (hf : mx_fl M.2.1 idx = some (ci, f, tag)) (ht : tag % 10 = 0 ∨ (tag % 10 = 1 ∧ (x = 0 ∨ x = 1))) (hi : M.2.2.2.2.2 = "<init>" ∧ (mx_T ci f).1 = M.2.1) (hk : (0, ci, nn) ∈ KL)
    (K : ∀ h', bS E h0 a top s KL RL ML (fun j => if j = f then x else F j) FL NZ h' → mx_V E d M (pc2 + 3) l st h' P) : mx_V E d M pc l st h P := by
  refine mv_aload_n d0 hl ?_
  refine bv_pu hG hp ?_
  exact bv_puti hG d3 hf ht hi (hS.k0 hk) (K _ ⟨hS.1, hS.2.1.tr (bx_si (by have := hS.2.2.2.2.2.1.1; omega)), bq_si hS.2.2⟩)
theorem bv_arr {h0 : mx_H} {k idx : Nat} (hG : mx_G E) (hS : bS E h0 a top s KL RL ML F FL NZ h) (hl : l 0 = some (.ref a)) (d0 : decode (mx_ca M.1) pc = .ok (.aload_n 0, 1)) (hp : bx_pu M (pc + 1) n pc2)
    (hrow : mx_V E d M pc3 l (.ref (E.2.1 + h.1) :: .ref a :: st) (mx_nw E h k N) P → mx_V E d M pc2 l (.int n :: .ref a :: st) h P) (d3 : decode (mx_ca M.1) pc3 = .ok (.putfield idx, 3)) (hf : mx_fl M.2.1 idx = some (ci, f, tag)) (ht : tag % 10 = 2) (hi : M.2.2.2.2.2 = "<init>" ∧ (mx_T ci f).1 = M.2.1) (hk : (0, ci, nn) ∈ KL) (hne : ∀ q, q ∈ RL → q.1 = 0 → q.2.1 ≠ f)
    (K : ∀ h', bS E h0 a (top + 1) (s + N) ((top, k, N) :: KL) ((0, f, a + top) :: RL) ML F FL NZ h' → mx_V E d M (pc3 + 3) l st h' P) : mx_V E d M pc l st h P := by
  obtain ⟨⟨hc, hs⟩, hf0, hb⟩ := id hS
  have ht0 := hb.2.2.2.1.1
  refine mv_aload_n d0 hl ?_
  refine bv_pu hG hp ?_
  refine hrow ?_
  have hb2 := bq_nw (k := k) (N := N) hc hb
  have hk2 : (mx_nw E h k N).2.2.1 a = some (ci, nn) := (hb2.1 (0, ci, nn) (List.mem_cons_of_mem _ hk)).2
  rw [hc]
  exact bv_put hG d3 hf ht hi hk2 (K _ ⟨⟨by show E.2.1 + (h.1 + 1) = _; omega, by show h.2.1 + N = _; rw [hs]⟩, ((hf0.lo (Nat.le_refl _) (by omega)).tr (bx_nw0 (by omega) (by omega))).tr (bx_sr (Nat.le_refl _) (by omega)), bq_sr hb2 hne⟩)
theorem bv_arr2 {h0 : mx_H} {x2 : Int32} {idx idc K2 : Nat} (hG : mx_G E) (hS : bS E h0 a top s KL RL ML F FL NZ h) (hl : l 0 = some (.ref a)) (d0 : decode (mx_ca M.1) pc = .ok (.aload_n 0, 1)) (hp : bx_pu M (pc + 1) n pc2) (hp2 : bx_pu M pc2 x2 pc3) (d2 : decode (mx_ca M.1) pc3 = .ok (.multianewarray idc 2, 4)) (hcn : mx_aa M.2.1 idc = true) (hn : ¬ n < 0) (hn2 : ¬ x2 < 0) (hN : n.toNatClampNeg = N) (hK : x2.toNatClampNeg = K2) (hN1 : N ≤ 100000) (hK1 : K2 ≤ 100000) (hcell : a + top + 1 + N ≤ E.2.1 + 601024) (hslot : s + N + N * K2 ≤ 7293034)
    (d3 : decode (mx_ca M.1) (pc3 + 4) = .ok (.putfield idx, 3)) (hf : mx_fl M.2.1 idx = some (ci, f, tag)) (ht : tag % 10 = 2) (hi : M.2.2.2.2.2 = "<init>" ∧ (mx_T ci f).1 = M.2.1) (hk : (0, ci, nn) ∈ KL) (hne : ∀ q, q ∈ RL → q.1 = 0 → q.2.1 ≠ f)
    (K : ∀ h', bS E h0 a (top + 1 + N) (s + N + N * K2) ((top, 25, N) :: KL) ((0, f, a + top) :: RL) ((top, N, K2) :: ML) F FL NZ h' → mx_V E d M (pc3 + 7) l st h' P) : mx_V E d M pc l st h P := by
  obtain ⟨⟨hc, hs⟩, hf0, hb⟩ := id hS
  have ht0 := hb.2.2.2.1.1
  refine mv_aload_n d0 hl ?_
  refine bv_pu hG hp ?_
  refine bv_pu hG hp2 ?_
  refine mv_multianewarray hG d2 hcn hn hn2 hN hK hN1 hK1 (by omega) (by omega) ?_
  have hb2 := bq_nw2 (N := N) (K := K2) hc hb
  have hk2 : (mx_nw2 E h N K2).2.2.1 a = some (ci, nn) := (hb2.1 (0, ci, nn) (List.mem_cons_of_mem _ hk)).2
  rw [hc]
  exact bv_put hG d3 hf ht hi hk2 (K _ ⟨⟨by show E.2.1 + (h.1 + 1 + N) = _; omega, by show h.2.1 + N + N * K2 = _; rw [hs]⟩, ((hf0.lo (Nat.le_refl _) (by omega)).tr (bx_nw2 (by omega) (by omega))).tr (bx_sr (Nat.le_refl _) (by omega)), bq_sr hb2 hne⟩)
/- another object, made by its own constructor -/
theorem bv_obj {h0 : mx_H} {idn idx ck cn top2 s2 : Nat} {K2 R2 M2 : List (Nat × Nat × Nat)} {F2 : Nat → Int32} {FL2 : List (Nat × (Nat → Int32))} {NZ2 : List Nat} (b : List Nat) (hG : mx_G E) (hS : bS E h0 a top s KL RL ML F FL NZ h) (hl : l 0 = some (.ref a)) (d0 : decode (mx_ca M.1) pc = .ok (.aload_n 0, 1)) (d1 : decode (mx_ca M.1) (pc + 1) = .ok (.new idn, 3)) (hcn : mx_cn M.2.1 idn = some (ck, cn)) (d2 : decode (mx_ca M.1) (pc + 4) = .ok (.dup, 1))
    (hin : ∀ h1, bS E h1 (a + top) 1 (s + cn) [(0, ck, cn)] [] [] (fun _ => 0) [] [] h1 → bq a h1 (top + 1) ((top, ck, cn) :: KL) RL ML F FL NZ → (∀ h2, bS E h1 (a + top) top2 s2 K2 R2 M2 F2 FL2 NZ2 h2 → mx_V E (d + 1) M (pc2 + 3) l (.ref (a + top) :: .ref a :: st) h2 P) → mx_V E (d + 1) M (pc + 5) l (.ref (a + top) :: .ref (a + top) :: .ref a :: st) h1 P)
    (hcell : a + top + 1 ≤ E.2.1 + 601024) (hslot : s + cn ≤ 7293034) (hbz : (∃ c, c ∈ b ∧ c = top) ∨ F2 = fun _ => 0) (hbn : ∀ c, c ∈ NZ2 → top + c ∈ b)
    (d3 : decode (mx_ca M.1) (pc2 + 3) = .ok (.putfield idx, 3)) (hf : mx_fl M.2.1 idx = some (ci, f, tag)) (ht : tag % 10 = 2) (hi : M.2.2.2.2.2 = "<init>" ∧ (mx_T ci f).1 = M.2.1) (hk : (0, ci, nn) ∈ KL) (hne : ∀ q, q ∈ bs3 top R2 ++ RL → q.1 = 0 → q.2.1 ≠ f)
    (K : ∀ h', bS E h0 a (top + top2) s2 (bs3 top K2 ++ KL) ((0, f, a + top) :: (bs3 top R2 ++ RL)) (bs3 top M2 ++ ML) F ((top, F2) :: bs2 top FL2 ++ FL) (b ++ NZ) h' → mx_V E (d + 1) M (pc2 + 6) l st h' P) : mx_V E (d + 1) M pc l st h P := by
  obtain ⟨⟨hc, hs⟩, hf0, hb⟩ := id hS
  have ht0 := hb.2.2.2.1.1
  refine mv_aload_n d0 hl ?_
  refine mv_new hG d1 hcn (by omega) (by omega) ?_
  rw [hc]
  refine mv_dup rfl d2 ?_
  refine hin _ ⟨⟨by show E.2.1 + (h.1 + 1) = _; omega, by show h.2.1 + cn = _; rw [hs]⟩, bx_f.rf _ _ _, bq_0 hc⟩ (bq_nw hc hb) (fun h2 hS2 => ?_)
  obtain ⟨⟨hc2, hs2⟩, hf2, hb2⟩ := hS2
  have ht2 := hb2.2.2.2.1.1
  have hff : bx_f h h2 (a + top) (a + top + top2) := (bx_nw0 (by omega) (by omega)).tr hf2
  have hb3 := bq_sub hb hff hb2 b hbz hbn
  have hk2 : h2.2.2.1 a = some (ci, nn) := (hb3.1 (0, ci, nn) (List.mem_append.mpr (Or.inr hk))).2
  exact bv_put hG d3 hf ht hi hk2 (K _ ⟨⟨by show E.2.1 + h2.1 = _; omega, hs2⟩, ((hf0.lo (Nat.le_refl _) (by omega)).tr (hff.lo (by omega) (by omega))).tr (bx_sr (Nat.le_refl _) (by omega)), bq_sr hb3 hne⟩)
theorem bS.cg {h0 : mx_H} {s' : Nat} (hS : bS E h0 a top s KL RL ML F FL NZ h) (hs : s = s') : bS E h0 a top s' KL RL ML F FL NZ h := hs ▸ hS
/- a constructor called -/
theorem bv_call {b idx j g2 g3 : Nat} {mm : mx_M} {argsL rest : List Value} {Q : mx_H → Prop} (hG : mx_G E) (hd : decode (mx_ca M.1) pc = .ok (.invokespecial idx, 3)) (hj : mx_sl M.2.1 idx = some j) (hm : (mx_mtT[j]?).map (fun e => e.1) = some mm) (hsg : mx_sg j = (argsL.length, 2, g2, g3)) (hsz : mx_sz (.ref b :: argsL) ≤ g3) (hst : mx_sz rest ≤ 8)
    (callee : mx_V E d mm 0 (mx_en (.ref b :: argsL)) [] h (fun o h' => o = .inl none ∧ Q h')) (ret : ∀ h', Q h' → mx_V E (d + 1) M (pc + 3) l rest h' P) : mx_V E (d + 1) M pc l (argsL.reverse ++ .ref b :: rest) h P := by
  obtain ⟨e, he, hee⟩ := Option.map_eq_some_iff.mp hm
  subst hee
  unfold mx_sg at hsg
  rw [he] at hsg
  simp only [Prod.mk.injEq] at hsg
  obtain ⟨q1, q2, q3, q4⟩ := hsg
  refine mv_invokeinit hG hd hj he q2 q1.symm (by rw [← mx_sz_l, q4]; exact hsz) (by rw [← mx_sz_c]; exact hst) callee (fun v h' hh => ?_) (fun x h' hh => ?_)
  · obtain ⟨r1, r2⟩ := hh
    injection r1 with r1
    subst r1
    exact ret h' r2
  · exact absurd hh.1 (by simp)
end BV
