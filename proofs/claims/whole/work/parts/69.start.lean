/-! THE CLAIM OUT OF ONE WALK OF THE LAW'S BODY. Your part is whole_start (and what it stands on); all else here is the same for every law, but numbers. -/
def R_law : String := "IdealWorksLaw"
def lw_PP (b : Addr) (xs : List Int32) (args : Array Value) (s : State) : Prop := args = #[.ref b] ∧ s.IntsAt b xs ∧ xs.length ≤ 3072 ∧ (Jvm.Cond.and given_1 narrow_1).before args s = true
def lw_Q (_ : Array Value) (s : State) (o : Outcome) (t : State) : Prop := o = .returned (some (.int 1)) ∧ Framed s o t [] 601024 7293034
def lw_Z (below : List Frame) (a : Array Value) (s : State) : State → Prop := fun t => ∃ o, t.status = .running ∧ Ended t below o ∧ lw_Q a s o t
/-- the law's own end, with 1 on the stack, nothing written that was there before, its room as the claim has it -/
theorem lw_ret {p : Program} {l : Launch} {e : Env} {s : State} {m : MethodId} {below : List Frame} {meth : Method} {c : Code} {b : Nat} (hx : p.tables.exec = Jvm.exec) (hb : c.code = code) (hr : meth.sig.returnType = ret) (hlocks : meth.locks = false) {pc : Nat} {H : Heap} {ls : Array Slot} (hdg : decode code pc = .ok (.ireturn, 1)) : W p l e room_1 s m #[Value.ref b] below meth c H [] 601024 7293034 (lw_Z below #[Value.ref b] s) (F0 m pc ls [.int 1]) := by
  intro T hT X
  obtain ⟨fs, hret, hrun, hended, hW, hframe⟩ := X.leave (v := some (.int 1)) (hlocks := hlocks) (fun h => by rw [hr] at h; cases h)
  have hmeth' : T.vm.method? m = some meth := X.method'
  refine ⟨T.setFrames fs, ?_, .returned (some (.int 1)), hrun, hended, rfl, ⟨_, rfl⟩, hW, hframe⟩
  jvm_step X.here [X.here.top, hx, hb, hdg, hmeth', hr, ret, narrow_b1]
  (try refine ⟨rfl, ?_⟩); (try refine ⟨rfl, ?_⟩)
  first | (intro acts; rw [hret _ acts rfl rfl rfl]) | rw [hret _ _ rfl rfl rfl]
  exact Steps.refl _
/-- what holds at the law's entry: the machine, the code, the tables' words (any of lw_tbl by 'hts w (by decide +kernel)'), the script of L ints xs at the cell b, what the Statement gives of the start (any of its parts by flat_of_before) -/
def lw_At (p : Program) (s : State) (m : MethodId) (meth : Method) (c : Code) (b L : Nat) (xs : Nat → Int32) : Prop :=
  p.tables.exec = Jvm.exec ∧ c.code = code ∧ meth.sig.returnType = ret ∧ c.maxLocals = 7 ∧ s.vm.findClass R_law = some m.cls ∧ (∀ w ∈ lw_tbl, w.before #[Value.ref b] s = true) ∧ va_X b L xs s s.heap ∧ b < s.heap.size ∧ meth.locks = false ∧ (Jvm.Cond.and given_1 narrow_1).before #[Value.ref b] s = true
/- the memory at the law's entry: the script, the static array -/
def sh0 (E : mx_E) (b L : Nat) (xs : Nat → Int32) : mx_H := (0, 0, (fun a => if a = b then some (21, L) else if a = E.2.2.2.2 then some (21, 5) else none), (fun a j => if a = b then xs j else hi_v j), (fun _ _ => none), fun _ _ => 0)
set_option maxRecDepth 100000 in
theorem whole_start {p : Program} {e : Env} {s : State} {m : MethodId} {below : List Frame} {meth : Method} {c : Code} (l : Launch) {b L : Nat} {xs : Nat → Int32} (hL : L ≤ 3072) (C0 : lw_At p s m meth c b L xs) (hst : l.stackTraces = false) (hex : c.exceptionTable = #[]) (hnm : meth.name = "law") : W p l e room_1 s m #[Value.ref b] below meth c s.heap [] 0 0 (lw_Z below #[Value.ref b] s) (entryFrame m ([Value.ref b] : List Value).toArray 7) := by
  obtain ⟨hx, hc, hr, hml, hown, hts, hX, hbl, hlk, hgv⟩ := C0
  obtain ⟨E, cell, e1, e2, hG, c1, c2, c3, c4, c5⟩ := st_G hts hgv
  subst e1
  obtain ⟨scr, x1, x2, x3, x4, x5⟩ := hX
  have hsl : E.2.2.2.2 < E.2.1 := by rw [e2]; exact (Array.getElem?_eq_some_iff.mp c1).1
  have hS0 : mx_S E E.1 0 E.1.heap [] 0 0 (sh0 E b L xs) := by
    refine ⟨⟨by rw [e2]; rfl, fun a k n hk => ?_, fun q _ => rfl, Nat.zero_le _, Nat.zero_le _, fun q cl hq hc => ?_⟩, by rw [e2]; rfl, rfl, fun q hq => by cases hq⟩
    · replace hk : (if a = b then some (21, L) else if a = E.2.2.2.2 then some (21, 5) else none) = some (k, n) := hk
      by_cases ha : a = b
      · rw [if_pos ha] at hk
        injection hk with hk
        injection hk with hk1 hk2
        subst ha hk1 hk2
        refine Or.inr ⟨.int, rfl, Or.inl rfl, scr, x1, x2, x3, x4, fun j hj => ?_, fun q => by cases q⟩
        rw [x5 j hj]
        show _ = some (Value.int (if a = a then xs j else hi_v j))
        rw [if_pos rfl]
      · rw [if_neg ha] at hk
        by_cases ht : a = E.2.2.2.2
        · rw [if_pos ht] at hk
          injection hk with hk
          injection hk with hk1 hk2
          subst ht hk1 hk2
          refine Or.inr ⟨.int, rfl, Or.inl rfl, cell, c1, c2, c3, c4, fun j hj => ?_, fun q => by cases q⟩
          rw [c5 j hj]
          show _ = some (Value.int (if E.2.2.2.2 = b then xs j else hi_v j))
          rw [if_neg ha]
        · rw [if_neg ht] at hk
          cases hk
    · exfalso
      have := (Array.getElem?_eq_some_iff.mp hc).1
      omega
  have kst : (sh0 E b L xs).2.2.1 E.2.2.2.2 = some (21, 5) := by
    show (if E.2.2.2.2 = b then some (21, L) else if E.2.2.2.2 = E.2.2.2.2 then some (21, 5) else none) = _
    by_cases ht : E.2.2.2.2 = b
    · rw [if_pos ht]
      rw [ht] at c1
      cases x1.symm.trans c1
      rw [← x4, c4]
    · rw [if_neg ht, if_pos rfl]
  have vst : ∀ n, 1 ≤ n → n ≤ 4 → ((sh0 E b L xs).2.2.2.1 E.2.2.2.2 n).toInt = tb_h n := fun n n1 n2 => by
    show (if E.2.2.2.2 = b then xs n else hi_v n).toInt = _
    rw [← hi_h n n1 n2]
    by_cases ht : E.2.2.2.2 = b
    · rw [if_pos ht]
      rw [ht] at c1
      cases x1.symm.trans c1
      have h1 := x5 n (by omega)
      rw [c5 n (by omega)] at h1
      injection h1 with h1
      injection h1 with h1
      rw [h1]
    · rw [if_neg ht]
  have hXX : mx_X E 100 mm_law p l room_1 E.1 m meth c 0 := ⟨hx, hc.trans ca_law.symm, hown, hml, hr, hlk, by rw [hex]; rfl, hnm, State.WarmedH.refl _, hst, by decide, by decide, by rw [e2]; rfl, rfl, by omega⟩
  have w := ent (b := b) (L := L) 0 hG (h0 := sh0 E b L xs) rfl rfl (if_pos rfl) kst vst (by omega) hsl hL
  have w2 := w p l e room_1 E.1 m #[.ref b] below meth c 0 E.1.heap [] 0 0 _ hXX hS0 (mx_en_lv (vs := [.ref b]) (n := 7) (Nat.le_of_ble_eq_true rfl))
  rw [lg_entry_eq]
  intro T hT Y
  obtain ⟨t, st, o, L', k, n, h', b1, b2, b3, b4, b5, b6⟩ := w2 T hT Y
  obtain ⟨⟨r1, r2, r3, r4, r5, r6⟩, s1, s2, s3⟩ := b5
  have ho : o = .returned (some (.int 1)) := by
    cases o with
    | returned v =>
      have q : (Sum.inl v : mx_O) = .inl (some (.int 1)) := b6
      injection q with q
      rw [q]
    | threw q =>
      obtain ⟨x, -, q2⟩ := b6
      cases q2
  refine ⟨t, st, o, b1, b2, ho, ⟨_, ho⟩, b3, b4.weaken (fun q hq hlt => ?_) (by omega) (by omega)⟩
  have h3 := s3 q hq
  exact absurd hlt (Nat.not_lt.mpr (e2 ▸ h3))
