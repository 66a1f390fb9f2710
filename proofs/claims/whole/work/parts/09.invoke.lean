/-! the three kinds of call; an exception over a frame -/
/-- exception x is thrown over this frame -/
def mx_TH (E : mx_E) (d : Nat) (M : mx_M) (pc : Nat) (l : mx_L) (h : mx_H) (x : Nat) (P : mx_O → mx_H → Prop) : Prop :=
  ∀ (p : Program) (l0 : Launch) (e : Env) (R : Room) (s : State) (m : MethodId) (args : Array Value) (below : List Frame) (meth : Method) (c : Code) (z : Nat) (locs : List Loc) (cells slots : Nat) (ls : Array Slot) (T : State) (q : Addr) (rest : List Value),
    mx_X E d M p l0 R s m meth c z → mx_S E s z T.heap locs cells slots h → mx_lv ls M.2.2.1 l → Stand p l0 e R s m args below meth c T locs cells slots → mx_XA E T q x →
    ∃ t, Steps p.tables e below ((T.setTop (F0 m pc ls rest)).pushFrame (.throwing q)) t ∧ mx_Q E s below z P t
theorem mx_known {E : mx_E} (hG : mx_G E) {U : State} (hW : E.1.WarmedH U.vm) {e : mx_MR} (he : e ∈ mx_mtT) {mk : MethodId} (hn : U.methodNamed? e.2.1 = some mk) :
    ∃ (methk : Method) (ck : Code), mx_K e.1 U mk methk ck ∧ parseMethodDescriptor e.2.1.desc = some methk.sig ∧ methk.sig.parameters.length = e.2.2.1 := by
  obtain ⟨⟨k1, -, -, -⟩, j1, j2, -, j4, j5, -, j7, -⟩ := mx_mt_ok e he
  have hw := mx_ck_w k1
  have hfc : U.vm.findClass e.1.2.1 = some mk.cls := by rw [← j1]; exact findClass_of_methodNamed hn
  by_cases q : e.2.2.2.2.2.2.2.2 = 0
  · unfold mx_cw at hw
    rw [if_pos q] at hw
    obtain ⟨methk, ck, a1, a2, a3, a4, a5, a6, a7, a8⟩ := Cond.code_spec hn (mx_wd hG hW #[] _ (mx_g hw rfl))
    refine ⟨methk, ck, ⟨a1, a2, a3, a4, a5, a6, ?_, (name_of_methodNamed hn a1).1.trans j2, hfc, State.plainMethod.of_named j4 hn a1⟩, a8, ?_⟩
    · rw [j7 q, Array.isEmpty_iff.mp a7]
      rfl
    · rw [a8] at j5
      exact Option.some.inj j5
  · unfold mx_cw at hw
    rw [if_neg q] at hw
    obtain ⟨m9, methk, ck, a0, a1, a2, a3, a4, a7, a5, a6, a8⟩ := Cond.codeWith_spec (mx_wd hG hW #[] _ (mx_g hw rfl))
    cases hn.symm.trans a0
    refine ⟨methk, ck, ⟨a1, a2, a3, a4, a5, a6, a7, (name_of_methodNamed hn a1).1.trans j2, hfc, State.plainMethod.of_named j4 hn a1⟩, a8, ?_⟩
    rw [a8] at j5
    exact Option.some.inj j5
theorem mx_name {E : mx_E} (hG : mx_G E) {U : State} (hW : E.1.WarmedH U.vm) {e : mx_MR} (he : e ∈ mx_mtT) : ∃ mk, U.methodNamed? e.2.1 = some mk := by
  obtain ⟨⟨k1, -, -, -⟩, -⟩ := mx_mt_ok e he
  have hw := mx_ck_w k1
  unfold mx_cw at hw
  by_cases q : e.2.2.2.2.2.2.2.2 = 0
  · rw [if_pos q] at hw
    exact Cond.code_named (mx_wd hG hW #[] _ (mx_g hw rfl))
  · rw [if_neg q] at hw
    obtain ⟨m9, methk, ck, a0, -⟩ := Cond.codeWith_spec (mx_wd hG hW #[] _ (mx_g hw rfl))
    exact ⟨m9, a0⟩
theorem mx_sl_some {own : String} {idx j : Nat} {e : mx_MR} (h : mx_sl own idx = some j) (he : mx_mtT[j]? = some e) : Cond.methodLink own idx e.2.1 ∈ lw_tbl := by
  obtain ⟨e0, h0, rfl⟩ := Option.map_eq_some_iff.mp h
  obtain ⟨hm, hp⟩ := mx_find h0
  simp only [Bool.and_eq_true, beq_iff_eq] at hp
  have h1 := mx_slT_ok _ hm
  rw [he] at h1
  have h2 : lw_tbl[e0.2.2.2]? = some (.methodLink e0.1 e0.2.1 e.2.1) := h1
  rw [hp.1, hp.2] at h2
  exact List.mem_of_getElem? h2
section MD
variable {E : mx_E} {d : Nat} {M : mx_M} {pc : Nat} {l : mx_L} {st : List Value} {h : mx_H} {P : mx_O → mx_H → Prop}
theorem mv_invokestatic (hG : mx_G E) {idx j : Nat} {e : mx_MR} (hd : decode (mx_ca M.1) pc = .ok (.invokestatic idx, 3)) (hj : mx_sl M.2.1 idx = some j) (he : mx_mtT[j]? = some e) (hk0 : e.2.2.2.1 = 0) {argsL rest : List Value} (hlen : argsL.length = e.2.2.1) (hsl : (lg_sl argsL).length ≤ e.1.2.2.1)
    (hw : (rest.map fun v => v.category).sum ≤ 8) {P' : mx_O → mx_H → Prop} (callee : mx_V E d e.1 0 (mx_en argsL) [] h P') (ret : ∀ v h', P' (.inl v) h' → mx_V E (d + 1) M (pc + 3) l (v.toList ++ rest) h' P) (thr : ∀ x h', P' (.inr x) h' → mx_TH E (d + 1) M pc l h' x P) : mx_V E (d + 1) M pc l (argsL.reverse ++ rest) h P := by
  intro p l0 e1 R s m args below meth c z H locs cells slots ls hX hS hl T hT X
  have hm := List.mem_of_getElem? he
  obtain ⟨⟨k1, k2, -, k4⟩, j1, j2, j3, j4, j5, j6, j7, -⟩ := mx_mt_ok e hm
  have hW := hX.2.2.2.2.2.2.2.2.1
  have hts := mx_wd hG hW args
  obtain ⟨mk, hn⟩ := mx_name hG hW hm
  obtain ⟨methk, ck, hK, hsig, hpar⟩ := mx_known hG hW hm hn
  rw [hk0, if_pos rfl] at k2
  have hstatic : methk.isStatic = true := Cond.static_spec hn hK.1 (hts _ (mx_g (List.mem_of_getElem? k2) rfl))
  obtain ⟨kP, hkP, -⟩ := className_of_methodNamed hn
  have hinit : kP.init = .initialized := Cond.initialized_spec (findClass_of_methodNamed hn) hkP (hts _ (mx_g (List.mem_of_getElem? k4) rfl))
  subst hT
  obtain ⟨vm₁, X₁, step⟩ := X.invokestatic hX.1 hX.2.2.1 (hts _ (mx_g (mx_sl_some hj he) rfl)) hn hK.1 hstatic hkP hinit j3 (g := F0 m pc ls (argsL.reverse ++ rest)) rfl (argsL := argsL) (rest := rest) (hlen.trans hpar.symm) rfl (by rw [hX.2.1]; exact hd)
  have hW₁ : E.1.WarmedH vm₁ := State.WarmedH.trans hW X₁.warmed
  obtain ⟨methk', ck', hK', -, -⟩ := mx_known (U := T.setVm vm₁) hG hW₁ hm (X₁.named hn)
  rcases mx_into X₁ hX hS hl.1 hK' hsl j6 hw (pc := pc) (ls := ls) (rest := rest) (by rw [hX.2.1]; exact hd) callee with ⟨v, h', T', L, k, n, q1, q2, q3, q4⟩ | ⟨x, h', q, T', L, k, n, q1, q2, q3, q4, q5⟩
  · obtain ⟨t, a1, a2⟩ := ret v h' q1 p l0 e1 R s m args below meth c z T'.heap _ _ _ ls hX q3 hl T' rfl q2
    exact ⟨t, step t fun acts => (q4 acts).trans a1, a2⟩
  · obtain ⟨t, a1, a2⟩ := thr x h' q1 p l0 e1 R s m args below meth c z _ _ _ ls T' q rest hX q3 hl q2 q4
    exact ⟨t, step t fun acts => (q5 acts).trans a1, a2⟩
theorem mv_invokevirtual (hG : mx_G E) {idx j b ci n9 : Nat} {e : mx_MR} (hd : decode (mx_ca M.1) pc = .ok (.invokevirtual idx, 3)) (hj : mx_sl M.2.1 idx = some j) (he : mx_mtT[j]? = some e) (hk1 : e.2.2.2.1 = 1) {argsL rest : List Value} (hlen : argsL.length = e.2.2.1) (hsl : (lg_sl (.ref b :: argsL)).length ≤ e.1.2.2.1)
    (hb : h.2.2.1 b = some (ci, n9)) (hci : ci < 10) (hcn : e.1.2.1 = (mx_T ci 0).1)
    (hw : (rest.map fun v => v.category).sum ≤ 8) {P' : mx_O → mx_H → Prop} (callee : mx_V E d e.1 0 (mx_en (.ref b :: argsL)) [] h P') (ret : ∀ v h', P' (.inl v) h' → mx_V E (d + 1) M (pc + 3) l (v.toList ++ rest) h' P) (thr : ∀ x h', P' (.inr x) h' → mx_TH E (d + 1) M pc l h' x P) : mx_V E (d + 1) M pc l (argsL.reverse ++ .ref b :: rest) h P := by
  intro p l0 e1 R s m args below meth c z H locs cells slots ls hX hS hl T hT X
  have hm := List.mem_of_getElem? he
  obtain ⟨⟨k1, k2, k3, k4⟩, j1, j2, j3, j4, j5, j6, j7, -⟩ := mx_mt_ok e hm
  have hW := hX.2.2.2.2.2.2.2.2.1
  have hts := mx_wd hG hW args
  rw [hk1, if_neg (by decide)] at k2
  obtain ⟨mk, methM, hn, hmM, hstM, habM⟩ := Cond.instanceMethod_spec (hts _ (mx_g (List.mem_of_getElem? k2) rfl))
  obtain ⟨methk, ck, hK, hsig, hpar⟩ := mx_known hG hW hm hn
  cases hmM.symm.trans hK.1
  subst hT
  obtain ⟨r, hr, -, -, cellB, b1, b2, b3, -⟩ := hS.1.obj hb (by omega)
  obtain ⟨c1, r', hr', -⟩ := mx_cl_T ci hci
  cases hr.symm.trans hr'
  have hr1 : r.1 = (mx_T ci 0).1 := by rw [hr] at c1; exact Option.some.inj c1
  have hcls : s.vm.findClass e.2.1.cls = some cellB.cls := by
    rw [b2, j1, hcn, ← hr1]
    exact (u_Kn_moved hW.alike (hG.2.1 ci _ hr)).2.1
  obtain ⟨c2, r2, m2, q1, q2, q3, q4, kP, hkP, hkPi⟩ := Cond.selects_spec (hts _ (mx_g (List.mem_of_getElem? (k3 hk1)) rfl))
  cases hcls.symm.trans q1
  cases (State.methodFound?_of_named hn j3).symm.trans q2
  cases hn.symm.trans q3
  have hselP : selectMethod e1.platform s.vm cellB.cls mk = .method mk := by rw [Launch.admits_selectMethod X.admits]; exact q4
  obtain ⟨vm₁, X₁, step⟩ := X.invokevirtual hX.1 hX.2.2.1 (hts _ (mx_g (mx_sl_some hj he) rfl)) hn hmM hstM hkP hkPi j3 (a := b) (cell := cellB) b1 (fun z h => by rw [b3] at h; cases h) hselP hmM habM hkP hkPi (g := F0 m pc ls (argsL.reverse ++ .ref b :: rest)) rfl (argsL := argsL) (rest := rest) (hlen.trans hpar.symm) rfl (by rw [hX.2.1]; exact hd)
  have hW₁ : E.1.WarmedH vm₁ := State.WarmedH.trans hW X₁.warmed
  obtain ⟨methk', ck', hK', -, -⟩ := mx_known (U := T.setVm vm₁) hG hW₁ hm (X₁.named hn)
  rcases mx_into X₁ hX hS hl.1 hK' hsl j6 hw (pc := pc) (ls := ls) (rest := rest) (by rw [hX.2.1]; exact hd) callee with ⟨v, h', T', L, k, n, q1, q2, q3, q4⟩ | ⟨x, h', q, T', L, k, n, q1, q2, q3, q4, q5⟩
  · obtain ⟨t, a1, a2⟩ := ret v h' q1 p l0 e1 R s m args below meth c z T'.heap _ _ _ ls hX q3 hl T' rfl q2
    exact ⟨t, step t fun acts => (q4 acts).trans a1, a2⟩
  · obtain ⟨t, a1, a2⟩ := thr x h' q1 p l0 e1 R s m args below meth c z _ _ _ ls T' q rest hX q3 hl q2 q4
    exact ⟨t, step t fun acts => (q5 acts).trans a1, a2⟩
theorem mv_invokeinit (hG : mx_G E) {idx j b : Nat} {e : mx_MR} (hd : decode (mx_ca M.1) pc = .ok (.invokespecial idx, 3)) (hj : mx_sl M.2.1 idx = some j) (he : mx_mtT[j]? = some e) (hk2 : e.2.2.2.1 = 2) {argsL rest : List Value} (hlen : argsL.length = e.2.2.1) (hsl : (lg_sl (.ref b :: argsL)).length ≤ e.1.2.2.1)
    (hw : (rest.map fun v => v.category).sum ≤ 8) {P' : mx_O → mx_H → Prop} (callee : mx_V E d e.1 0 (mx_en (.ref b :: argsL)) [] h P') (ret : ∀ v h', P' (.inl v) h' → mx_V E (d + 1) M (pc + 3) l (v.toList ++ rest) h' P) (thr : ∀ x h', P' (.inr x) h' → mx_TH E (d + 1) M pc l h' x P) : mx_V E (d + 1) M pc l (argsL.reverse ++ .ref b :: rest) h P := by
  intro p l0 e1 R s m args below meth c z H locs cells slots ls hX hS hl T hT X
  have hm := List.mem_of_getElem? he
  obtain ⟨⟨k1, k2, k3, k4⟩, j1, j2, j3, j4, j5, j6, j7, j8⟩ := mx_mt_ok e hm
  obtain ⟨i1, i2, i3⟩ := j8 hk2
  have hW := hX.2.2.2.2.2.2.2.2.1
  have hts := mx_wd hG hW args
  rw [hk2, if_neg (by decide)] at k2
  have hcw := mx_ck_w k1
  unfold mx_cw at hcw
  rw [if_pos i3, i2] at hcw
  have hpl : e1.platform.magicAccessors = ({} : Platform).magicAccessors := by rw [X.admits.platform]
  subst hT
  obtain ⟨mk, methM, cM, kP, vm₁, hn, hmM, hcM, -, hlM, -, hkP, -, hW₁, step⟩ := Steps.initColdArgs (e := e1) X.here hX.1 X.warmed hpl hX.2.2.1 i1 j3 (hts _ (mx_g (mx_sl_some hj he) rfl)) (hts _ (mx_g (List.mem_of_getElem? k2) rfl)) (hts _ (mx_g hcw rfl)) (f := F0 m pc ls (argsL.reverse ++ .ref b :: rest)) rfl (a := b) (argsL := argsL) (rest := rest)
    (fun sig hs => by rw [hs] at j5; exact hlen.trans (Option.some.inj j5).symm) rfl (by rw [hX.2.1]; exact hd)
  have X₁ := X.noted hW₁
  have hW₂ : E.1.WarmedH vm₁ := State.WarmedH.trans hW hW₁
  obtain ⟨methk', ck', hK', -, -⟩ := mx_known (U := T.setVm vm₁) hG hW₂ hm (X₁.named hn)
  rcases mx_into X₁ hX hS hl.1 hK' hsl j6 hw (pc := pc) (ls := ls) (rest := rest) (by rw [hX.2.1]; exact hd) callee with ⟨v, h', T', L, k, n, q1, q2, q3, q4⟩ | ⟨x, h', q, T', L, k, n, q1, q2, q3, q4, q5⟩
  · obtain ⟨t, a1, a2⟩ := ret v h' q1 p l0 e1 R s m args below meth c z T'.heap _ _ _ ls hX q3 hl T' rfl q2
    exact ⟨t, step t fun acts => (q4 acts).trans a1, a2⟩
  · obtain ⟨t, a1, a2⟩ := thr x h' q1 p l0 e1 R s m args below meth c z _ _ _ ls T' q rest hX q3 hl q2 q4
    exact ⟨t, step t fun acts => (q5 acts).trans a1, a2⟩
end MD
