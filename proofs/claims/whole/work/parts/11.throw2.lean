/-! exceptions: the rows -/
theorem mx_isRefZ {C n d : String} {v : Value} {A : Nat → Prop} {s : State} {args : Array Value} (h : va_Z C n d v A s s.heap) (hv : v = .null ∨ ∃ t, v = .ref t) : (Cond.isRef (.static C n d)).before args s = true := by
  obtain ⟨cf, kf, fi, f, a, cell, h1, h2, h3, h4, h5, h6, h7, -⟩ := h
  have he : (Term.static C n d).eval args s none [] s = some v := by
    simp [Term.eval, State.fieldNamed?, h1, h2, h4, h5, h6, h7]
  simp only [Cond.before, Cond.holds, Cond.value, he]
  rcases hv with rfl | ⟨t, rfl⟩ <;> rfl
theorem mx_isRefq {C n d : String} {A : Nat → Prop} {s : State} {args : Array Value} (h : va_Zq C n d A s s.heap) : (Cond.isRef (.static C n d)).before args s = true := by
  rcases h with h | ⟨t, h⟩
  · exact mx_isRefZ h (Or.inl rfl)
  · exact mx_isRefZ h (Or.inr ⟨t, rfl⟩)
theorem mx_lst {E : mx_E} {s : State} {C n d : String} (hz : E.1.heap.size = E.2.1) (hal : E.1.vm.Alike s.vm) (ho : ∀ q, q < E.2.1 → s.heap[q]? = E.1.heap[q]?) (h : (Cond.laysStatic C n d).before #[] E.1 = true) (args : Array Value) : (Cond.laysStatic C n d).before args s = true := by
  obtain ⟨c, k, i, f, a, cell, h1, h2, h3, h4, h5, h6, h7, h8, h9⟩ := Cond.laysStatic_spec h
  obtain ⟨k', hi', he⟩ := State.fieldFound?_setVm hal h2
  have ha : a < E.2.1 := by rw [← hz]; exact (Array.getElem?_eq_some_iff.mp h5).1
  exact Cond.laysStatic_of (by rw [hal.findClass]; exact h1) hi' h3 (by rw [he]; exact h4) (by rw [ho a ha]; exact h5) h6 h7 h8 (by rw [he]; exact h9)
theorem mx_ows {E : mx_E} (hG : mx_G E) {s : State} (hW : E.1.WarmedH s.vm) (ho : ∀ q, q < E.2.1 → s.heap[q]? = E.1.heap[q]?) {x : Nat} (hx : x < 3) (args : Array Value) : ∀ w ∈ mx_ow x, w.before args s = true := by
  intro w hw
  have hc : mx_oc w = true := by
    rcases (show x = 0 ∨ x = 1 ∨ x = 2 by omega) with rfl | rfl | rfl
    · exact mx_oc0 w hw
    · exact mx_oc1 w hw
    · exact mx_oc2 w hw
  unfold mx_oc at hc
  simp only [Bool.or_eq_true, Bool.and_eq_true, decide_eq_true_eq] at hc
  have hk : ∀ a : Nat, a < E.1.heap.size → ¬ (fun q => E.2.1 ≤ q) a → s.heap[a]? = E.1.heap[a]? := fun a _ h2 => ho a (Nat.not_le.mp h2)
  rcases hc with ⟨h1, h2⟩ | rfl | rfl | rfl | rfl
  · exact mx_mvw hW h1 (hG.1 w h2 #[]) args
  · exact mx_isRefq ((va_Zq.moved hW.alike hG.2.2.2.2.1).kept hk)
  · exact mx_isRefq ((va_Zq.moved hW.alike hG.2.2.2.2.2.1).kept hk)
  · exact mx_lst hG.2.2.2.1 hW.alike ho (hG.1 _ mx_u34.1 #[]) args
  · exact mx_lst hG.2.2.2.1 hW.alike ho (hG.1 _ mx_u34.2 #[]) args
theorem mx_xl : ∀ x, x < 3 → Cond.classLink "IdealWorks" (mx_ik x) (mx_xn x) ∈ lw_tbl ∧ Cond.initialized (mx_xn x) ∈ lw_tbl ∧ Bundle.fit (mx_xn x) = true := by decide +kernel
theorem mx_xf : ∀ n ∈ mx_xc, Bundle.fit n = true := by decide +kernel
section MX
variable {E : mx_E} {d : Nat} {M : mx_M} {pc : Nat} {l : mx_L} {st : List Value} {h : mx_H} {P : mx_O → mx_H → Prop}
theorem mx_noexc {c : Code} (h : c.exceptionTable.toList.map (fun q => (q.startPc, q.endPc, q.handlerPc, q.catchType)) = []) : c.exceptionTable.toList = [] := List.map_eq_nil_iff.mp h
set_option maxHeartbeats 1000000 in
theorem mv_throw (hG : mx_G E) {x : Nat} (hx : x < 3) (hM : M.2.1 = "IdealWorks") (hexc : M.2.2.2.2.1 = []) (d0 : decode (mx_ca M.1) pc = .ok (.new (mx_ik x), 3)) (d3 : decode (mx_ca M.1) (pc + 3) = .ok (.dup, 1)) (d4 : decode (mx_ca M.1) (pc + 4) = .ok (.invokespecial (mx_ic x), 3)) (d7 : decode (mx_ca M.1) (pc + 7) = .ok (.athrow, 1))
    (hst : (st.map fun v => v.category).sum ≤ 8) (hc : h.1 + 1 ≤ 601024) (hs : h.2.1 + 6 ≤ 7293034) (hP : P (.inr x) (h.1 + 1, h.2.1 + 6, h.2.2)) : mx_V E d M pc l st h P := by
  intro p l0 e R s m args below meth c z H locs cells slots ls hX hS hl T hT X
  subst hT
  obtain ⟨x1, x2, x3, x4, x5, x6, x7, x8, x9, x10, x11, x12, x13, x14, x15⟩ := hX
  have htr : e.platform.stackTraces = false := (show e.platform.stackTraces = l0.stackTraces by rw [X.admits.platform]).trans x10
  have hsz : T.heap.size = E.2.1 + h.1 := hS.1.1
  have s2 := hS.2.1
  have s3 := hS.2.2.1
  have Y := mx_reb X (R' := { frames := R.frames, locals := R.locals, cells := 1, slots := 6 }) (Nat.le_refl _) (Nat.le_refl _) (by show cells + 1 ≤ _; omega) (by show slots + 6 ≤ _; omega)
  obtain ⟨s', hs'⟩ : ∃ w, w = (T.setVm s.vm).setFrames (.invoking m args :: below) := ⟨_, rfl⟩
  rw [← hs'] at Y
  have hvm : s'.vm = s.vm := by rw [hs']; rfl
  have hhp : s'.heap = T.heap := by rw [hs']; rfl
  have hW' : E.1.WarmedH s'.vm := by rw [hvm]; exact x9
  have how := mx_ows hG hW' (fun q hq => by rw [hhp]; exact hS.1.2.2.1 q hq) hx args
  have hts := mx_wd hG hW' args
  obtain ⟨w1, w2, w3⟩ := mx_xl x hx
  have hown' : s'.vm.findClass "IdealWorks" = some m.cls := by rw [hvm, ← hM]; exact x3
  have hins : (Cond.instantiable (mx_xn x) 6).before args s' = true := how _ (by simp [mx_ow, Bundle.ownAtoms0])
  obtain ⟨vm₁, cX, kX, hfX, hkX, -, -, X₁, st1⟩ := Y.newCold x1 (own := "IdealWorks") (C := mx_xn x) (index := mx_ik x) (n := 6) hown' (hts _ (mx_g w1 rfl)) hins (hts _ (mx_g w2 rfl))
    (g := F0 m pc ls st) rfl (by rw [x2]; exact d0) (Nat.le_refl _) (Nat.le_refl _)
  generalize hT1 : (T.setVm vm₁).pushCell { cls := cX, slots := kX.instanceTypes.map defaultValue, vm := .none } = T1 at X₁ st1
  have hcellA : T1.heap[T.heap.size]? = some (freshCell cX kX) := by rw [← hT1]; exact State.heap_pushCell_size _ _
  have hcat : (Value.ref T.heap.size).category = 1 := rfl
  obtain ⟨U, hsteps, hrun, hend, hWU, hsame, ce, hce, hO⟩ := X₁.ctorThrow0 x1 htr (own := "IdealWorks") (cls := mx_xn x) (names := mx_xc) (ic := mx_ic x) hown' w3 mx_xf how (fun y hy => nomatch hy) hfX hkX hcellA (by rw [hhp]; exact Nat.le_refl _)
    (g := F0 m (pc + 4) ls (.ref T.heap.size :: .ref T.heap.size :: st)) rfl (by show ls.size = _; rw [hl.1, x4]) rfl rfl (rest := st) rfl (by rw [x2]; exact d4) (by rw [x2]; exact d7) (fun y hy => by rw [mx_noexc (x7.trans hexc)] at hy; cases hy)
    (by show 2 + 3 < R.frames; omega) (by show 2 * 0 + _ + _ ≤ R.locals; simp only [List.map_cons, List.sum_cons, hcat]; show 2 * 0 + (1 + (st.map fun v => v.category).sum) + (13 * 3 + 41) ≤ R.locals; omega) x6
  have hUo : ∀ q, q < T.heap.size → U.heap[q]? = T.heap[q]? := by
    intro q hq
    have hq' : q < s'.heap.size := by rw [hhp]; exact hq
    obtain ⟨c', f1, f2, f3, f4⟩ := hsame.2.2.2.2.2 q s'.heap[q] (Array.getElem?_eq_getElem hq')
    have hsl : c'.slots = (s'.heap[q]).slots := Array.ext_getElem? fun i => f4 i (fun hm => nomatch hm)
    have hc9 : c' = s'.heap[q] := by rw [hsl] at f2; exact f2
    have f1' : U.heap[q]? = some c' := f1
    rw [f1', hc9, ← hhp, Array.getElem?_eq_getElem hq']
  have hUs : U.heap.size = T.heap.size + 1 := by
    have g1 : U.heap.size ≤ s'.heap.size + (0 + 1) := hsame.2.2.1
    have g2 := (Array.getElem?_eq_some_iff.mp hce).1
    rw [hhp] at g1
    omega
  have hWs : s.WarmedH U.vm := State.WarmedH.trans (show s.WarmedH s'.vm by rw [hvm]; exact State.WarmedH.refl s) hWU
  have hcl : E.1.vm.findClass (mx_xn x) = some ce.cls := by
    have h9 := hO.cls
    rw [hvm, x9.alike.findClass] at h9
    exact h9
  have hall : s.sameButNew ({ U with vm := s.vm } : State) locs (cells + 1) (slots + 6) := by
    subst hs'
    obtain ⟨e1, e2⟩ := hsame
    rw [State.setFrames_setFrames] at e1
    have h2 : (T.setVm s.vm).sameButNew ({ U with vm := s.vm } : State) [] (0 + 1) (0 + 6) := ⟨e1, e2⟩
    have h3 := X.same.trans h2
    rw [List.append_nil] at h3
    exact h3
  refine ⟨U, ?_, .threw T.heap.size, locs, cells + 1, slots + 6, (h.1 + 1, h.2.1 + 6, h.2.2), hrun, hend, hWs, hall, ⟨⟨?_, ?_, ?_, hc, hs, ?_⟩, ?_, ?_, hS.2.2.2⟩, x, ⟨ce, hce, hO.vm, hcl⟩, hP⟩
  · refine st1 _ ?_
    have d3' : decode c.code (pc + 3) = .ok (.dup, 1) := by rw [x2]; exact d3
    show Steps p.tables e below (T1.setTop { method := m, pc := pc + 3, locals := ls, stack := .ref T.heap.size :: st, locked := none }) _
    jvm_step X₁.here [X₁.here.top, x1, d3', Value.category]
    exact hsteps
  · show U.heap.size = E.2.1 + (h.1 + 1)
    omega
  · intro a k n hk
    exact (hS.1.2.1 a k n hk).kept rfl rfl rfl (hUo a (hS.1.lt hk))
  · intro q hq
    rw [hUo q (by omega)]
    exact hS.1.2.2.1 q hq
  · intro q cell hq hcell
    by_cases w : q < T.heap.size
    · rw [hUo q w] at hcell
      exact hS.1.vm hq hcell
    · have hq2 : q = T.heap.size := by
        have := (Array.getElem?_eq_some_iff.mp hcell).1
        omega
      subst hq2
      cases hce.symm.trans hcell
      exact hO.vm
  · show s.heap.size + (cells + 1) = E.2.1 + (h.1 + 1)
    omega
  · show z + (slots + 6) = h.2.1 + 6
    omega
theorem mx_th_out {x : Nat} (hexc : M.2.2.2.2.1 = []) (hP : P (.inr x) h) : mx_TH E d M pc l h x P := by
  intro p l0 e R s m args below meth c z locs cells slots ls T q rest hX hS hl X hA
  obtain ⟨st1, hrun, hend, hW, hsm⟩ := X.leaveThrown q (g := F0 m pc ls rest) rfl rfl rfl (fun y hy => by rw [mx_noexc (hX.2.2.2.2.2.2.1.trans hexc)] at hy; cases hy) hX.2.2.2.2.2.1
  exact ⟨_, st1, .threw q, locs, cells, slots, h, hrun, hend, hW, hsm, hS, x, hA, hP⟩
/-- the law's catch clauses: which exception -/
def mx_ct (ct : Nat) : Option Nat := if ct = 13 then some 0 else if ct = 28 then some 1 else if ct = 19 then some 2 else none
theorem mx_ctl : ∀ ct ∈ [13, 28, 19], ∃ y, mx_ct ct = some y ∧ y < 3 ∧ Cond.classLink "IdealWorksLaw" ct (mx_xn y) ∈ lw_tbl := by
  intro ct hct
  simp only [List.mem_cons, List.not_mem_nil, or_false] at hct
  rcases hct with rfl | rfl | rfl
  · exact ⟨0, rfl, by decide, by decide +kernel⟩
  · exact ⟨1, rfl, by decide, by decide +kernel⟩
  · exact ⟨2, rfl, by decide, by decide +kernel⟩
theorem mx_ct_some {ct y : Nat} (h : mx_ct ct = some y) : y < 3 ∧ ct ≠ 0 ∧ Cond.classLink "IdealWorksLaw" ct (mx_xn y) ∈ lw_tbl := by
  have hm : ct ∈ [13, 28, 19] := by
    unfold mx_ct at h
    simp only [List.mem_cons, List.not_mem_nil, or_false]
    by_cases a : ct = 13
    · exact Or.inl a
    · by_cases b : ct = 28
      · exact Or.inr (Or.inl b)
      · by_cases c : ct = 19
        · exact Or.inr (Or.inr c)
        · simp [a, b, c] at h
  obtain ⟨y', h1, h2, h3⟩ := mx_ctl ct hm
  cases h.symm.trans h1
  refine ⟨h2, ?_, h3⟩
  simp only [List.mem_cons, List.not_mem_nil, or_false] at hm
  omega
theorem mx_cst : ∀ x, x < 3 → Cond.castable (mx_xn x) (mx_xn x) ∈ lw_tbl := by decide +kernel
theorem mx_th_catch (hG : mx_G E) {x : Nat} (hx : x < 3) (hM : M.2.1 = "IdealWorksLaw") (pre : List (Nat × Nat × Nat × Nat)) (a b hp ct : Nat) (suf : List (Nat × Nat × Nat × Nat)) (hexc : M.2.2.2.2.1 = pre ++ (a, b, hp, ct) :: suf)
    (hpass : ∀ y ∈ pre, ∃ w, mx_ct y.2.2.2 = some w ∧ w ≠ x) (h1 : a ≤ pc) (h2 : pc < b) (hct : mx_ct ct = some x) (kk : ∀ q, mx_V E d M hp l [.ref q] h P) : mx_TH E d M pc l h x P := by
  intro p l0 e R s m args below meth c z locs cells slots ls T q rest hX hS hl X hA
  obtain ⟨ce, c1, c2, c3⟩ := hA
  have hW := hX.2.2.2.2.2.2.2.2.1
  have hts := mx_wd hG hW args
  have hown : s.vm.findClass "IdealWorksLaw" = some m.cls := by rw [← hM]; exact hX.2.2.1
  have hcls : s.vm.findClass (mx_xn x) = some ce.cls := by rw [hW.alike.findClass]; exact c3
  have hpl : e.platform.magicAccessors = ({} : Platform).magicAccessors := by rw [X.admits.platform]
  have hex := hX.2.2.2.2.2.2.1.trans hexc
  obtain ⟨pre', r1, e1, e2, e3⟩ := List.map_eq_append_iff.mp hex
  obtain ⟨y0, suf', f1, f2, f3⟩ := List.map_eq_cons_iff.mp e3
  subst f1
  simp only [Prod.mk.injEq] at f2
  obtain ⟨g1, g2, g3, g4⟩ := f2
  obtain ⟨-, hct0, hlk⟩ := mx_ct_some hct
  obtain ⟨vm', X', st1⟩ := X.thenCaughtThrough q (g := F0 m pc ls rest) rfl (Steps.refl _) c1 (by rw [c2]; rfl) (by obtain ⟨k9, h9, -⟩ := Vm.findClass_spec hcls; exact ⟨k9, h9⟩) pre' y0 suf' e1
    (fun w hw => by
      have hw2 : (w.startPc, w.endPc, w.handlerPc, w.catchType) ∈ pre := by
        rw [← e2]
        exact List.mem_map.mpr ⟨w, hw, rfl⟩
      obtain ⟨y, y1, y2⟩ := hpass _ hw2
      obtain ⟨y3, y4, y5⟩ := mx_ct_some y1
      obtain ⟨c6, hc6, hcl6⟩ := Cond.classLink_spec hown (hts _ (mx_g y5 rfl)) e.platform hpl
      obtain ⟨a8, b8, v1, v2, v3⟩ := va_Nc.moved hW.alike (hG.2.2.2.2.2.2 x y hx y3 (Ne.symm y2))
      cases Option.some.inj (v1.symm.trans hcls)
      cases Option.some.inj (v2.symm.trans hc6)
      exact Or.inr ⟨y4, _, hcl6, v3⟩)
    (by simp [covers, g1, g2, h1, h2])
    (by
      obtain ⟨c5, hc5, hcl5⟩ := Cond.classLink_spec hown (hts _ (mx_g hlk rfl)) e.platform hpl
      have hcast : (Cond.castable (mx_xn x) (mx_xn x)).before args s = true := mx_mvw hW (by rfl) (hG.1 _ (mx_cst x hx) #[]) args
      obtain ⟨c3', c4', u1, u2, u3⟩ := Cond.castable_spec hcast
      cases Option.some.inj (u1.symm.trans hcls)
      cases Option.some.inj (u2.symm.trans hc5)
      rw [← g4] at hcl5 hct0
      exact Or.inr ⟨hct0, _, hcl5, u3⟩)
  rw [g3] at st1
  obtain ⟨t, a1, a2⟩ := kk q p l0 e R s m args below meth c z T.heap locs cells slots ls hX hS hl (T.setVm vm') rfl X'
  exact ⟨t, st1.trans a1, a2⟩
end MX
