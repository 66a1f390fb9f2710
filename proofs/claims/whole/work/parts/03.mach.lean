/-! THE SMALL MACHINE. Memory is numbers by cell and place; a judgement mx_V says of a frame (method, pc, locals, stack, memory) that the real machine, standing there, comes to an end with P. Rows below: one an instruction. -/
def mx_up2 {α : Type} (f : Nat → Nat → α) (a i : Nat) (x : α) : Nat → Nat → α := fun b j => if b = a ∧ j = i then x else f b j
theorem mx_up2_s {α : Type} (f : Nat → Nat → α) (a i : Nat) (x : α) : mx_up2 f a i x a i = x := by simp [mx_up2]
theorem mx_up2_n {α : Type} (f : Nat → Nat → α) {a i : Nat} (x : α) {b j : Nat} (h : ¬ (b = a ∧ j = i)) : mx_up2 f a i x b j = f b j := by simp [mx_up2, h]
theorem mx_up2_o {α : Type} (f : Nat → Nat → α) {a i : Nat} (x : α) {b : Nat} (h : b ≠ a) : mx_up2 f a i x b = f b := by funext j; simp [mx_up2, h]
def mx_up1 {α : Type} (f : Nat → α) (a : Nat) (x : α) : Nat → α := fun b => if b = a then x else f b
def mx_1 (o : Option Value) : Option Value := match o with
  | some (.long _) => none
  | some (.double _) => none
  | o => o
def mx_st1 (l : mx_L) (k : Nat) (v : Value) : mx_L := fun j => if j = k then some v else if j + 1 = k then mx_1 (l j) else l j
def mx_st2 (l : mx_L) (k : Nat) (v : Value) : mx_L := fun j => if j = k then some v else if j = k + 1 then none else if j + 1 = k then mx_1 (l j) else l j
def mx_lv (ls : Array Slot) (n : Nat) (l : mx_L) : Prop := ls.size = n ∧ lv_wf ls ∧ ∀ j v, l j = some v → ls[j]? = some (.val v)
theorem mx_1_some {o : Option Value} {w : Value} (h : mx_1 o = some w) : o = some w ∧ w.category = 1 := by
  unfold mx_1 at h
  split at h
  · cases h
  · cases h
  · subst h
    refine ⟨rfl, ?_⟩
    cases w <;> first | rfl | simp_all
theorem mx_lv.st1 {ls : Array Slot} {n : Nat} {l : mx_L} {k : Nat} {v : Value} (h : mx_lv ls n l) (hk : k < n) (hc : v.category = 1) : ∃ ls', storeLocals ls k v = some ls' ∧ mx_lv ls' n (mx_st1 l k v) := by
  obtain ⟨h1, h2, h3⟩ := h
  obtain ⟨ls', e', q1, q2, q3⟩ := lv_store1 (l := []) (i := k) (v := v) (ls := ls) (nL := n) ⟨h1, h2, fun q hq => by cases hq⟩ hk hc
  refine ⟨ls', e', q1, q2, fun j w hj => ?_⟩
  unfold mx_st1 at hj
  by_cases a : j = k
  · subst a
    rw [if_pos rfl] at hj
    cases hj
    exact q3 (j, v) List.mem_cons_self
  · rw [if_neg a] at hj
    have hlj : l j = some w ∧ (j + 1 = k → w.category = 1) := by
      by_cases b : j + 1 = k
      · rw [if_pos b] at hj
        exact ⟨(mx_1_some hj).1, fun _ => (mx_1_some hj).2⟩
      · rw [if_neg b] at hj
        exact ⟨hj, fun q => absurd q b⟩
    obtain ⟨ls2, e2, -, -, r3⟩ := lv_store1 (l := [(j, w)]) (i := k) (v := v) (ls := ls) (nL := n) ⟨h1, h2, fun q hq => by
      rcases List.mem_singleton.mp hq with rfl
      exact h3 _ _ hlj.1⟩ hk hc
    cases e'.symm.trans e2
    refine r3 (j, w) (List.mem_cons_of_mem _ (List.mem_filter.mpr ⟨List.mem_singleton.mpr rfl, ?_⟩))
    have c1 : (j == k) = false := by simpa using a
    by_cases b : j + 1 = k
    · have c2 : (w.category == 2) = false := by rw [hlj.2 b]; rfl
      simp [c1, c2]
    · have c2 : (j + 1 == k) = false := by simpa using b
      simp [c1, c2]
theorem mx_lv.st2 {ls : Array Slot} {n : Nat} {l : mx_L} {k : Nat} {v : Value} (h : mx_lv ls n l) (hk : k + 1 < n) (hc : v.category = 2) : ∃ ls', storeLocals ls k v = some ls' ∧ mx_lv ls' n (mx_st2 l k v) := by
  obtain ⟨h1, h2, h3⟩ := h
  obtain ⟨ls', e', q1, q2, q3⟩ := lv_store2 (l := []) (i := k) (v := v) (ls := ls) (nL := n) ⟨h1, h2, fun q hq => by cases hq⟩ hk hc
  refine ⟨ls', e', q1, q2, fun j w hj => ?_⟩
  unfold mx_st2 at hj
  by_cases a : j = k
  · subst a
    rw [if_pos rfl] at hj
    cases hj
    exact q3 (j, v) List.mem_cons_self
  · rw [if_neg a] at hj
    by_cases a2 : j = k + 1
    · rw [if_pos a2] at hj
      cases hj
    · rw [if_neg a2] at hj
      have hlj : l j = some w ∧ (j + 1 = k → w.category = 1) := by
        by_cases b : j + 1 = k
        · rw [if_pos b] at hj
          exact ⟨(mx_1_some hj).1, fun _ => (mx_1_some hj).2⟩
        · rw [if_neg b] at hj
          exact ⟨hj, fun q => absurd q b⟩
      obtain ⟨ls2, e2, -, -, r3⟩ := lv_store2 (l := [(j, w)]) (i := k) (v := v) (ls := ls) (nL := n) ⟨h1, h2, fun q hq => by
        rcases List.mem_singleton.mp hq with rfl
        exact h3 _ _ hlj.1⟩ hk hc
      cases e'.symm.trans e2
      refine r3 (j, w) (List.mem_cons_of_mem _ (List.mem_filter.mpr ⟨List.mem_singleton.mpr rfl, ?_⟩))
      have c1 : (j == k) = false := by simpa using a
      have c3 : (j == k + 1) = false := by simpa using a2
      by_cases b : j + 1 = k
      · have c2 : (w.category == 2) = false := by rw [hlj.2 b]; rfl
        simp [c1, c2, c3]
      · have c2 : (j + 1 == k) = false := by simpa using b
        simp [c1, c2, c3]
/-- the kinds of array: 20 int, 21 int that nobody writes, 22 byte, 23 boolean, 24 long, 25 int[], 26 Ideal -/
def mx_ty (k : Nat) : Option FieldType :=
  if k = 20 then some .int else if k = 21 then some .int else if k = 22 then some .byte else if k = 23 then some .boolean else if k = 24 then some .long else if k = 25 then some (.array .int) else if k = 26 then some (.object "IdealWorks$Ideal") else none
def mx_av (h : mx_H) (k a j : Nat) : Value := if k = 24 then .long (h.2.2.2.2.2 a j) else if k < 25 then .int (h.2.2.2.1 a j) else va_rf (h.2.2.2.2.1 a j)
def mx_fv (h : mx_H) (c a j : Nat) : Value := if mx_rf c j = true then va_rf (h.2.2.2.2.1 a j) else .int (h.2.2.2.1 a j)
/-- what the heap holds of cell a, of kind k and length n -/
def mx_C (E : mx_E) (h : mx_H) (H : Heap) (a k n : Nat) : Prop :=
  (k < 20 ∧ ∃ r : vw_C, mx_cl[k]? = some r ∧ n = r.2.2 ∧ E.2.1 ≤ a ∧ t_OB a (E.2.2.1 k) r.2.2 (E.2.2.2.1 k) H (mx_fv h k a)) ∨
  ∃ ty : FieldType, mx_ty k = some ty ∧ (k = 21 ∨ E.2.1 ≤ a) ∧ ∃ cell : Cell, H[a]? = some cell ∧ E.1.isArrayOf cell ty ∧ cell.vm ≠ .unknown ∧ cell.slots.size = n ∧ (∀ j, j < n → cell.slots[j]? = some (mx_av h k a j)) ∧ (k = 26 → E.1.vm.findClass "[LIdealWorks$Ideal;" = some cell.cls)
def mx_R (E : mx_E) (h : mx_H) (H : Heap) : Prop := H.size = E.2.1 + h.1 ∧ (∀ a k n, h.2.2.1 a = some (k, n) → mx_C E h H a k n) ∧ (∀ q, q < E.2.1 → H[q]? = E.1.heap[q]?) ∧ h.1 ≤ 601024 ∧ h.2.1 ≤ 7293034 ∧ ∀ q cell, E.2.1 ≤ q → H[q]? = some cell → cell.vm = .none
def mx_X (E : mx_E) (d : Nat) (M : mx_M) (p : Program) (l0 : Launch) (R : Room) (s : State) (m : MethodId) (meth : Method) (c : Code) (z : Nat) : Prop :=
  p.tables.exec = Jvm.exec ∧ c.code = mx_ca M.1 ∧ s.vm.findClass M.2.1 = some m.cls ∧ c.maxLocals = M.2.2.1 ∧ meth.sig.returnType = M.2.2.2.1 ∧ meth.locks = false ∧ c.exceptionTable.toList.map (fun q => (q.startPc, q.endPc, q.handlerPc, q.catchType)) = M.2.2.2.2.1 ∧ meth.name = M.2.2.2.2.2 ∧ E.1.WarmedH s.vm ∧ l0.stackTraces = false ∧ d + 8 ≤ R.frames ∧ 64 * (d + 2) ≤ R.locals ∧ s.heap.size + R.cells = E.2.1 + 601024 ∧ z + R.slots = 7293034 ∧ E.2.1 ≤ s.heap.size
def mx_S (E : mx_E) (s : State) (z : Nat) (H : Heap) (locs : List Loc) (cells slots : Nat) (h : mx_H) : Prop :=
  mx_R E h H ∧ s.heap.size + cells = E.2.1 + h.1 ∧ z + slots = h.2.1 ∧ ∀ q ∈ locs, E.2.1 ≤ q.base
/-- an exception of number x stands at q -/
def mx_XA (E : mx_E) (t : State) (q : Addr) (x : Nat) : Prop := ∃ ce : Cell, t.heap[q]? = some ce ∧ ce.vm = .none ∧ E.1.vm.findClass (mx_xn x) = some ce.cls
def mx_P (E : mx_E) (P : mx_O → mx_H → Prop) (h' : mx_H) (t : State) (o : Outcome) : Prop := match o with
  | .returned v => P (.inl v) h'
  | .threw q => ∃ x, mx_XA E t q x ∧ P (.inr x) h'
def mx_Q (E : mx_E) (s : State) (below : List Frame) (z : Nat) (P : mx_O → mx_H → Prop) : State → Prop := fun t =>
  ∃ (o : Outcome) (L : List Loc) (k n : Nat) (h' : mx_H), t.status = .running ∧ Ended t below o ∧ s.WarmedH t.vm ∧ s.sameButNew ({ t with vm := s.vm } : State) L k n ∧ mx_S E s z t.heap L k n h' ∧ mx_P E P h' t o
/-- the judgement -/
def mx_V (E : mx_E) (d : Nat) (M : mx_M) (pc : Nat) (l : mx_L) (st : List Value) (h : mx_H) (P : mx_O → mx_H → Prop) : Prop :=
  ∀ (p : Program) (l0 : Launch) (e : Env) (R : Room) (s : State) (m : MethodId) (args : Array Value) (below : List Frame) (meth : Method) (c : Code) (z : Nat) (H : Heap) (locs : List Loc) (cells slots : Nat) (ls : Array Slot),
    mx_X E d M p l0 R s m meth c z → mx_S E s z H locs cells slots h → mx_lv ls M.2.2.1 l → W p l0 e R s m args below meth c H locs cells slots (mx_Q E s below z P) (F0 m pc ls st)
theorem mx_V.mono {E : mx_E} {d : Nat} {M : mx_M} {pc : Nat} {l : mx_L} {st : List Value} {h : mx_H} {P P' : mx_O → mx_H → Prop} (k : mx_V E d M pc l st h P) (hP : ∀ o h', P o h' → P' o h') : mx_V E d M pc l st h P' := by
  intro p l0 e R s m args below meth c z H locs cells slots ls hX hS hl T hT X
  obtain ⟨t, a, o, L, k1, n1, h', b1, b2, b3, b4, b5, b6⟩ := k p l0 e R s m args below meth c z H locs cells slots ls hX hS hl T hT X
  refine ⟨t, a, o, L, k1, n1, h', b1, b2, b3, b4, b5, ?_⟩
  cases o with
  | returned v => exact hP _ _ b6
  | threw q =>
    obtain ⟨x, c1, c2⟩ := b6
    exact ⟨x, c1, hP _ _ c2⟩
