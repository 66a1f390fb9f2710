/-! returns and calls -/
theorem mx_weaken {tb : Tables} {e : Env} {mid below : List Frame} {a b : State} (h : Steps tb e (mid ++ below) a b) : Steps tb e below a b := by
  obtain ⟨n, hn, w⟩ := h
  exact ⟨n, hn, fun k hk => (w k hk).weaken⟩
/-- the locals at a method's entry -/
def mx_lk : List (Nat × Value) → Nat → Option Value
  | [], _ => none
  | (i, v) :: t, j => if j = i then some v else mx_lk t j
theorem mx_lk_mem {L : List (Nat × Value)} {j : Nat} {v : Value} (h : mx_lk L j = some v) : (j, v) ∈ L := by
  induction L with
  | nil => cases h
  | cons q t ih =>
    obtain ⟨i, w⟩ := q
    unfold mx_lk at h
    by_cases a : j = i
    · rw [if_pos a] at h
      cases h
      subst a
      exact List.mem_cons_self
    · rw [if_neg a] at h
      exact List.mem_cons_of_mem _ (ih h)
def mx_en (vs : List Value) : mx_L := mx_lk (lv_args 0 vs)
theorem mx_en_lv {vs : List Value} {n : Nat} (h : (lg_sl vs).length ≤ n) : mx_lv ((lg_sl vs ++ List.replicate (n - (lg_sl vs).length) Slot.unset).toArray) n (mx_en vs) := by
  obtain ⟨h1, h2, h3⟩ := lv_entry vs h
  exact ⟨h1, h2, fun j v hj => h3 (j, v) (mx_lk_mem hj)⟩
section MC
variable {E : mx_E} {d : Nat} {M : mx_M} {pc : Nat} {l : mx_L} {st : List Value} {h : mx_H} {P : mx_O → mx_H → Prop}
theorem mx_end {p : Program} {l0 : Launch} {e : Env} {R : Room} {s : State} {m : MethodId} {args : Array Value} {below : List Frame} {meth : Method} {c : Code} {z : Nat} {H : Heap} {locs : List Loc} {cells slots : Nat} {g : JFrame} {v : Option Value}
    (hS : mx_S E s z H locs cells slots h) (hP : P (.inl v) h) (k : W p l0 e R s m args below meth c H locs cells slots (MQ below (fun _ _ o t => o = .returned v ∧ t.heap = H) args s cells slots (fun q => E.2.1 ≤ q)) g) : W p l0 e R s m args below meth c H locs cells slots (mx_Q E s below z P) g := by
  intro T hT X
  obtain ⟨t, a1, o, b1, b2, ⟨rfl, b3⟩, L, ⟨-, b4, b5⟩, b6⟩ := k T hT X
  exact ⟨t, a1, _, L, cells, slots, h, b1, b2, b4, b5, ⟨by rw [b3]; exact hS.1, hS.2.1, hS.2.2.1, b6⟩, hP⟩
theorem mv_ireturn {v : Int32} {ty : FieldType} (hd : decode (mx_ca M.1) pc = .ok (.ireturn, 1)) (hr : M.2.2.2.1 = some ty) (hn : narrow ty (.int v) = .int v) (hP : P (.inl (some (.int v))) h) : mx_V E d M pc l [.int v] h P := by
  intro p l0 e R s m args below meth c z H locs cells slots ls hX hS hl
  exact mx_end hS hP (W.zret hX.1 hX.2.1 (hX.2.2.2.2.1.trans hr) hn (fun t ht hW => ⟨rfl, ht⟩) hS.2.2.2 hd hX.2.2.2.2.2.1)
theorem mv_return (hd : decode (mx_ca M.1) pc = .ok (.return_, 1)) (hr : M.2.2.2.1 = none) (hP : P (.inl none) h) : mx_V E d M pc l [] h P := by
  intro p l0 e R s m args below meth c z H locs cells slots ls hX hS hl
  exact mx_end hS hP (W.vret hX.1 hX.2.1 (hX.2.2.2.2.1.trans hr) (fun t ht hW => ⟨rfl, ht⟩) hS.2.2.2 hd hX.2.2.2.2.2.1)
/-- what is known of a method that is entered -/
def mx_K (M : mx_M) (U : State) (mk : MethodId) (methk : Method) (ck : Code) : Prop :=
  U.vm.method? mk = some methk ∧ methk.code = some ck ∧ ck.code = mx_ca M.1 ∧ ck.maxLocals = M.2.2.1 ∧ methk.sig.returnType = M.2.2.2.1 ∧ methk.locks = false ∧ ck.exceptionTable.toList.map (fun q => (q.startPc, q.endPc, q.handlerPc, q.catchType)) = M.2.2.2.2.1 ∧ methk.name = M.2.2.2.2.2 ∧ U.vm.findClass M.2.1 = some mk.cls ∧ U.plainMethod mk
theorem mx_into {p : Program} {l0 : Launch} {e : Env} {R : Room} {s : State} {m : MethodId} {args : Array Value} {below : List Frame} {meth : Method} {c : Code} {z : Nat} {T : State} {locs : List Loc} {cells slots : Nat} {ls : Array Slot}
    (X : Stand p l0 e R s m args below meth c T locs cells slots) (hX : mx_X E (d + 1) M p l0 R s m meth c z) (hS : mx_S E s z T.heap locs cells slots h) (hl : ls.size = M.2.2.1)
    {M' : mx_M} {mk : MethodId} {methk : Method} {ck : Code} (hK : mx_K M' T mk methk ck) {argsL rest : List Value} (hsl : (lg_sl argsL).length ≤ M'.2.2.1) (h30 : M'.2.2.1 ≤ 30) (hw : (rest.map fun v => v.category).sum ≤ 8)
    {ig : Instr} {len : Nat} (hdg : decode c.code pc = .ok (ig, len)) {P' : mx_O → mx_H → Prop} (callee : mx_V E d M' 0 (mx_en argsL) [] h P') :
    (∃ (v : Option Value) (h' : mx_H) (T' : State) (L : List Loc) (k n : Nat), P' (.inl v) h' ∧ Stand p l0 e R s m args below meth c T' (locs ++ L) (cells + k) (slots + n) ∧ mx_S E s z T'.heap (locs ++ L) (cells + k) (slots + n) h' ∧
      ∀ acts, Steps p.tables e below (doInvoke e (T.setTop (F0 m pc ls rest)) acts mk argsL.toArray).1 (T'.setTop (F0 m (pc + len) ls (v.toList ++ rest)))) ∨
    (∃ (x : Nat) (h' : mx_H) (q : Addr) (T' : State) (L : List Loc) (k n : Nat), P' (.inr x) h' ∧ Stand p l0 e R s m args below meth c T' (locs ++ L) (cells + k) (slots + n) ∧ mx_S E s z T'.heap (locs ++ L) (cells + k) (slots + n) h' ∧ mx_XA E T' q x ∧
      ∀ acts, Steps p.tables e below (doInvoke e (T.setTop (F0 m pc ls rest)) acts mk argsL.toArray).1 ((T'.setTop (F0 m pc ls rest)).pushFrame (.throwing q))) := by
  obtain ⟨k1, k2, k3, k4, k5, k6, k7, k8, k9, k10⟩ := hK
  obtain ⟨x1, x2, x3, x4, x5, x6, x7, x8, x9, x10, x11, x12, x13, x14, x15⟩ := hX
  obtain ⟨s1, s2, s3, s4⟩ := hS
  have hsz : T.heap.size = E.2.1 + h.1 := s1.1
  have hb1 := s1.2.2.2.1
  have hb2 := s1.2.2.2.2.1
  obtain ⟨Y, hent⟩ := X.into (g := F0 m pc ls rest) rfl (by show ls.size = _; rw [hl, x4]) hdg (mk := mk) (methk := methk) (ck := ck) argsL.toArray (R' := { frames := d + 8, locals := 64 * (d + 2), cells := R.cells - cells, slots := R.slots - slots }) k1 k2 k6 k10
    (by show d + 8 + 1 ≤ _; omega) (by show 2 * 0 + (rest.map fun v => v.category).sum + (ck.maxLocals + 11) + 64 * (d + 2) ≤ _; rw [k4]; omega) (by show cells + (R.cells - cells) ≤ _; omega) (by show slots + (R.slots - slots) ≤ _; omega)
  have hY : mx_X E d M' p l0 { frames := d + 8, locals := 64 * (d + 2), cells := R.cells - cells, slots := R.slots - slots } (T.calling (F0 m pc ls rest) mk argsL.toArray) mk methk ck h.2.1 :=
    ⟨x1, k3, k9, k4, k5, k6, k7, k8, State.WarmedH.trans x9 X.warmed, x10, Nat.le_refl _, Nat.le_refl _, by show T.heap.size + (R.cells - cells) = _; omega, by show h.2.1 + (R.slots - slots) = _; omega, by show E.2.1 ≤ T.heap.size; omega⟩
  have hent2 : entryFrame mk argsL.toArray ck.maxLocals = F0 mk 0 ((lg_sl argsL ++ List.replicate (M'.2.2.1 - (lg_sl argsL).length) Slot.unset).toArray) [] := by rw [lg_entry_eq, k4]
  have w := callee p l0 e _ _ mk argsL.toArray (.java (F0 m pc ls rest) :: below) methk ck h.2.1 T.heap [] 0 0 _ hY ⟨s1, by show T.heap.size + 0 = _; omega, rfl, fun q hq => nomatch hq⟩ (mx_en_lv hsl)
  obtain ⟨t, st1, o, L, k, n, h', b1, b2, b3, b4, b5, b6⟩ := w ((T.setTop (F0 m pc ls rest)).pushFrame (.java (entryFrame mk argsL.toArray ck.maxLocals))) rfl Y
  rw [← hent2] at st1
  have st2 := mx_weaken (mid := [.java (F0 m pc ls rest)]) st1
  cases o with
  | returned v =>
    obtain ⟨T', Z, z1, z2, z3⟩ := X.outOf (g := F0 m pc ls rest) rfl hdg b2 b3 b4
    refine Or.inl ⟨v, h', T', L, k, n, b6, Z, ?_, fun acts => ?_⟩
    · have hh : T'.heap = t.heap := by rw [z3]; rfl
      obtain ⟨c1, c2, c3, c4⟩ := b5
      have c2' : T.heap.size + k = E.2.1 + h'.1 := c2
      refine ⟨by rw [hh]; exact c1, by omega, by omega, fun q hq => ?_⟩
      rcases List.mem_append.mp hq with r | r
      · exact s4 _ r
      · exact c4 _ r
    · rw [hent acts]
      rw [z3] at st2
      exact st2
  | threw q =>
    obtain ⟨x, b7, b8⟩ := b6
    obtain ⟨T', Z, z1, z2, z3⟩ := X.outOfThrown (g := F0 m pc ls rest) rfl b2 b3 b4
    have hh : T'.heap = t.heap := by rw [z3]; rfl
    refine Or.inr ⟨x, h', q, T', L, k, n, b8, Z, ?_, ?_, fun acts => ?_⟩
    · obtain ⟨c1, c2, c3, c4⟩ := b5
      have c2' : T.heap.size + k = E.2.1 + h'.1 := c2
      refine ⟨by rw [hh]; exact c1, by omega, by omega, fun q hq => ?_⟩
      rcases List.mem_append.mp hq with r | r
      · exact s4 _ r
      · exact c4 _ r
    · obtain ⟨ce, d1, d2, d3⟩ := b7
      exact ⟨ce, by rw [hh]; exact d1, d2, d3⟩
    · rw [hent acts]
      rw [z3] at st2
      exact st2
end MC
