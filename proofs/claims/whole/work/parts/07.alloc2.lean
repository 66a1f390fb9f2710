/-! arrays of references: made, written; grids -/
section ME
variable {E : mx_E} {d : Nat} {M : mx_M} {pc : Nat} {l : mx_L} {st : List Value} {h : mx_H} {P : mx_O → mx_H → Prop}
theorem mv_anewarray (hG : mx_G E) {idx : Nat} {n : Int32} {N : Nat} (hd : decode (mx_ca M.1) pc = .ok (.anewarray idx, 3)) (hcn : mx_cn M.2.1 idx = some (0, 7)) (hn : ¬ n < 0) (hN : n.toNatClampNeg = N) (hb : N ≤ 60000000) (hcells : h.1 + 1 ≤ 601024) (hslots : h.2.1 + N ≤ 7293034)
    (kk : mx_V E d M (pc + 3) l (.ref (E.2.1 + h.1) :: st) (mx_nw E h 26 N) P) : mx_V E d M pc l (.int n :: st) h P := by
  intro p l0 e R s m args below meth c z H locs cells slots ls hX hS hl
  obtain ⟨e0, he, he2⟩ := Option.map_eq_some_iff.mp hcn
  obtain ⟨hm, hp⟩ := mx_find he
  obtain ⟨k1, -⟩ := mx_cnT_ok _ hm
  obtain ⟨e1, e2, e3, e4, e5, e6, e7⟩ := e0
  simp only [Bool.and_eq_true, beq_iff_eq] at hp
  simp only [Prod.mk.injEq] at he2
  obtain ⟨rfl, rfl⟩ := he2
  obtain ⟨rfl, rfl⟩ := hp
  have hW := hX.2.2.2.2.2.2.2.2.1
  have hts := mx_wd hG hW args
  have hover : (Cond.arrayOver (.object "IdealWorks$Ideal")).before args s = true := va_AO.use (va_AO.moved hW.alike (va_AO.of (hG.1 _ mx_ao_o #[])))
  have hsz := hS.1.1
  refine W.anew hX.1 hX.2.1 hX.2.2.1 (C := "IdealWorks$Ideal") (hts _ (mx_g (List.mem_of_getElem? k1) rfl)) hover rfl hd rfl hn (by rw [hN]; omega) (by have := hX.2.2.2.2.2.2.2.2.2.2.2.2.1; have := hS.2.1; omega) (by rw [hN]; have := hX.2.2.2.2.2.2.2.2.2.2.2.2.2.1; have := hS.2.2.1; omega) fun cA kA comp w1 w2 w3 w4 => ?_
  rw [hN, arrV_new, hsz]
  have g1 : (H.push (arrV cA N fun _ => Value.null))[E.2.1 + h.1]? = some (arrV cA N fun _ => Value.null) := by rw [← hsz]; simp
  refine kk p l0 e R s m args below meth c z _ locs (cells + 1) (slots + N) ls hX ⟨?_, by show _ = _ + (h.1 + 1); have := hS.2.1; omega, by show _ = h.2.1 + N; have := hS.2.2.1; omega, hS.2.2.2⟩ hl
  refine hS.1.push (kn := (26, N)) rfl (by simp) (fun q hq => by rw [Array.getElem?_push, if_neg (Nat.ne_of_lt hq)]) rfl rfl ⟨hcells, hslots⟩ (fun b hb => (mx_nw_ne hb).1) (fun b hb => (mx_nw_ne hb).2.1) (fun b hb => (mx_nw_ne hb).2.2) ?_ (fun c9 h9 => by cases g1.symm.trans h9; rfl)
  refine Or.inr ⟨.object "IdealWorks$Ideal", rfl, Or.inr (Nat.le_add_right _ _), _, g1, State.isArrayOf_alike hW.alike.symm ⟨(fun k h9 => by cases h9), kA, w2, comp, w3⟩, (fun h9 => by cases h9), arrV_size _ _ _, fun j hj => ?_, fun _ => ?_⟩
  · rw [arrV_read _ _ hj]
    simp only [mx_av, (mx_nw_ob (E := E) (h := h) (k := 26) (n := N) rfl).2.1]
    rfl
  · rw [hW.alike.findClass] at w1
    exact w1
theorem mv_aastore (hG : mx_G E) {a v n n7 : Nat} {i : Int32} (hd : decode (mx_ca M.1) pc = .ok (.aastore, 1)) (ha : h.2.2.1 a = some (26, n)) (hv : h.2.2.1 v = some (0, n7)) (hi : vp_in i n) (kk : mx_V E d M (pc + 1) l st (mx_sr h a i.toNatClampNeg (some v)) P) : mx_V E d M pc l (.ref v :: .int i :: .ref a :: st) h P := by
  intro p l0 e R s m args below meth c z H locs cells slots ls hX hS hl
  have hW := hX.2.2.2.2.2.2.2.2.1
  obtain ⟨hb, cell, h1, h2, h3, h4, h5, h6⟩ := hS.1.arr26 ha
  obtain ⟨r, hr, -, -, cv, b1, b2, b3, -⟩ := hS.1.obj hv (by decide)
  cases hr
  have hKn := u_Kn_moved hW.alike (hG.2.1 0 _ rfl)
  have hover : (Cond.arrayOver (.object "IdealWorks$Ideal")).before args s = true := va_AO.use (va_AO.moved hW.alike (va_AO.of (hG.1 _ mx_ao_o #[])))
  obtain ⟨comp, c0, k0, o1, o2, o3, o4, o5⟩ := Cond.arrayOver_spec hover
  have hcc : cell.cls = c0 := by
    have h9 : s.vm.findClass "[LIdealWorks$Ideal;" = some cell.cls := by rw [hW.alike.findClass]; exact h6
    exact Option.some.inj (h9.symm.trans o5)
  have hcv : cv.cls = comp := by
    rw [b2]
    exact Option.some.inj (hKn.2.1.symm.trans o1)
  obtain ⟨kc, hkc, hkk⟩ := hKn.2.2
  have ho := State.isArrayOf_alike hW.alike h2
  have hlt := mx_lt hi
  have hkv : s.vm.classes[cv.cls]? = some kc := by rw [b2]; exact hkc
  refine W.aast hX.1 hX.2.1 h1 ho.1 h3 (by rw [hcc]; exact o3) o4 rfl (by rw [← hcv]; exact hkv) ⟨fun q => hi (Or.inl q), by rw [h4]; exact hlt⟩ b1 (fun q h9 => by rw [b3] at h9; cases h9) hkv (by rw [← hcv, b2]; exact va_assign hKn.2) rfl rfl hd fun H' g1 g2 g3 => ?_
  refine kk p l0 e R s m args below meth c z H' _ cells slots ls hX ⟨?_, hS.2.1, hS.2.2.1, fun q hq => ?_⟩ hl
  · refine hS.1.set hb g2 g3 rfl rfl rfl (fun b hb => rfl) (fun b hb => mx_up2_o _ _ hb) (fun b hb => rfl) (fun k' n' hk' => ?_) (fun c9 h9 => by cases g1.symm.trans h9; show cell.vm = .none; exact hS.1.vm hb h1)
    cases ha.symm.trans hk'
    refine Or.inr ⟨.object "IdealWorks$Ideal", rfl, Or.inr hb, _, g1, h2, h3, by rw [k2_slotsz]; exact h4, fun j hj => ?_, fun _ => h6⟩
    rw [mx_slot h4 hlt (w := va_rf (h.2.2.2.2.1 a j)) (fun _ => h5 j hj)]
    simp only [mx_av, mx_sr, mx_up2]
    by_cases q : j = i.toNatClampNeg
    · simp [q, va_rf]
    · simp [q]
  · rcases List.mem_append.mp hq with q | q
    · exact hS.2.2.2 _ q
    · rcases List.mem_singleton.mp q with rfl
      exact hb
/-- a new grid: N rows of K -/
def mx_nw2 (E : mx_E) (h : mx_H) (N K : Nat) : mx_H :=
  (h.1 + 1 + N, h.2.1 + N + N * K, (fun b => if b = E.2.1 + h.1 then some (25, N) else if E.2.1 + h.1 < b ∧ b ≤ E.2.1 + h.1 + N then some (20, K) else h.2.2.1 b),
    (fun b => if E.2.1 + h.1 ≤ b ∧ b ≤ E.2.1 + h.1 + N then (fun _ => 0) else h.2.2.2.1 b),
    (fun b => if b = E.2.1 + h.1 then (fun j => if j < N then some (E.2.1 + h.1 + 1 + j) else none) else if E.2.1 + h.1 < b ∧ b ≤ E.2.1 + h.1 + N then (fun _ => none) else h.2.2.2.2.1 b),
    (fun b => if E.2.1 + h.1 ≤ b ∧ b ≤ E.2.1 + h.1 + N then (fun _ => 0) else h.2.2.2.2.2 b))
set_option maxHeartbeats 1000000 in
theorem mv_multianewarray (hG : mx_G E) {idx N K : Nat} {n k : Int32} (hd : decode (mx_ca M.1) pc = .ok (.multianewarray idx 2, 4)) (hcn : mx_aa M.2.1 idx = true) (hn : ¬ n < 0) (hk : ¬ k < 0) (hN : n.toNatClampNeg = N) (hK : k.toNatClampNeg = K) (hb1 : N ≤ 100000) (hb2 : K ≤ 100000) (hcells : h.1 + 1 + N ≤ 601024) (hslots : h.2.1 + N + N * K ≤ 7293034)
    (kk : mx_V E d M (pc + 4) l (.ref (E.2.1 + h.1) :: st) (mx_nw2 E h N K) P) : mx_V E d M pc l (.int k :: .int n :: st) h P := by
  intro p l0 e R s m args below meth c z H locs cells slots ls hX hS hl T hT X
  subst hT
  obtain ⟨e0, he⟩ := Option.isSome_iff_exists.mp hcn
  obtain ⟨hm, hp⟩ := mx_find he
  simp only [Bool.and_eq_true, beq_iff_eq] at hp
  have hW := hX.2.2.2.2.2.2.2.2.1
  have hts := mx_wd hG hW args
  have hw := hts _ (mx_g (List.mem_of_getElem? (mx_aaT_ok _ hm)) rfl)
  rw [hp.1, hp.2] at hw
  have hsz := hS.1.1
  have t1 := hX.2.2.2.2.2.2.2.2.2.2.2.2.1
  have t2 := hX.2.2.2.2.2.2.2.2.2.2.2.2.2.1
  have t3 := hS.2.1
  have t4 := hS.2.2.1
  obtain ⟨vm₁, cA, comp, hW1, fA, fC, hO, hI, X', step⟩ := X.multianewarray2F hX.1 (own := M.2.1) (index := idx) (ty := .int) hX.2.2.1 hw (over_moved hW.alike (hG.1 _ mx_ao_i #[])) (hts _ (mx_g mx_ac_int rfl)) (g := F0 m pc ls (.int k :: .int n :: st)) rfl (by rw [hX.2.1]; exact hd) rfl hn hk (by rw [hN]; omega) (by rw [hK]; show K * 4 ≤ _; omega) (by rw [hK]; omega) rfl rfl
    (by rw [hN]; omega) (by rw [hN, hK]; omega)
  rw [hN, hK] at X' step
  obtain ⟨ff1, ff2, -, -⟩ := Jvm.Free.Multi.fill_facts (T.setVm vm₁) cA comp N K (defaultValue .int) N
  have ff3 := fun a ha => Jvm.Free.Multi.fill_old (T.setVm vm₁) cA comp N K (defaultValue .int) (a := a) ha N
  have ff4 := Jvm.Free.Multi.fill_inner (T.setVm vm₁) cA comp N K (defaultValue .int) N
  obtain ⟨F, hF⟩ : ∃ w, w = Jvm.Free.Multi.fill (T.setVm vm₁) cA comp N K (defaultValue .int) N := ⟨_, rfl⟩
  rw [← hF] at X' step ff1 ff2 ff4
  have ff3' : ∀ a, a < T.heap.size → F.heap[a]? = T.heap[a]? := fun a ha => by rw [hF]; exact ff3 a ha
  have ff1 : F.heap.size = T.heap.size + 1 + N := ff1
  have ff2 : F.heap[T.heap.size]? = some (Jvm.Free.Multi.outerC cA N T.heap.size N) := ff2
  have ff4 : ∀ j, j < N → F.heap[T.heap.size + 1 + j]? = some (Jvm.Free.Multi.innerC comp K (defaultValue .int)) := fun j hj => ff4 j hj
  have hal := hW.alike.symm
  have key : mx_R E (mx_nw2 E h N K) F.heap := by
    refine ⟨by rw [ff1, hsz]; show _ = E.2.1 + (h.1 + 1 + N); omega, fun b k' n' hb => ?_, fun q hq => by rw [ff3' q (by omega)]; exact hS.1.2.2.1 q hq, hcells, hslots, fun q cell hq hc => ?_⟩
    · simp only [mx_nw2] at hb
      by_cases q1 : b = E.2.1 + h.1
      · rw [if_pos q1] at hb
        cases hb
        subst q1
        rw [hsz] at ff2
        refine Or.inr ⟨.array .int, rfl, Or.inr (by omega), _, ff2, State.isArrayOf_alike hal (hO N _ N).1, (hO N _ N).2, (Jvm.Free.Multi.outerC_facts _ _ _ _).2.2, fun j hj => ?_, fun q26 => absurd q26 (by decide)⟩
        rw [Jvm.Free.Multi.outerC_slot _ _ _ _ _ hj]
        simp [mx_av, mx_nw2, hj, va_rf]
      · rw [if_neg q1] at hb
        by_cases q2 : E.2.1 + h.1 < b ∧ b ≤ E.2.1 + h.1 + N
        · rw [if_pos q2] at hb
          cases hb
          obtain ⟨j, rfl⟩ : ∃ j, b = T.heap.size + 1 + j := ⟨b - (T.heap.size + 1), by omega⟩
          refine Or.inr ⟨.int, rfl, Or.inr (by omega), _, ff4 j (by omega), State.isArrayOf_alike hal (hI K _).1, (hI K _).2, by simp [Jvm.Free.Multi.innerC], fun j2 hj2 => ?_, fun q26 => absurd q26 (by decide)⟩
          have e9 : E.2.1 + h.1 ≤ T.heap.size + 1 + j ∧ T.heap.size + 1 + j ≤ E.2.1 + h.1 + N := by omega
          simp [Jvm.Free.Multi.innerC, hj2, mx_av, mx_nw2, e9, defaultValue]
        · rw [if_neg q2] at hb
          have hblt := hS.1.lt hb
          refine (hS.1.2.1 b k' n' hb).kept ?_ ?_ ?_ (ff3' b hblt)
          · simp only [mx_nw2]
            rw [if_neg (by omega)]
          · simp only [mx_nw2]
            rw [if_neg (by omega), if_neg (by omega)]
          · simp only [mx_nw2]
            rw [if_neg (by omega)]
    · by_cases q1 : q < T.heap.size
      · rw [ff3' q q1] at hc
        exact hS.1.vm hq hc
      · by_cases q2 : q = T.heap.size
        · subst q2
          cases ff2.symm.trans hc
          exact (Jvm.Free.Multi.outerC_facts _ _ _ _).2.1
        · have := (Array.getElem?_eq_some_iff.mp hc).1
          obtain ⟨j, rfl⟩ : ∃ j, q = T.heap.size + 1 + j := ⟨q - (T.heap.size + 1), by omega⟩
          cases (ff4 j (by omega)).symm.trans hc
          rfl
  obtain ⟨t, a1, a2⟩ := kk p l0 e R s m args below meth c z F.heap locs (cells + 1 + N) (slots + N + N * K) ls hX ⟨key, by show _ = E.2.1 + (h.1 + 1 + N); omega, by show _ = h.2.1 + N + N * K; omega, hS.2.2.2⟩ hl F rfl X'
  rw [← hsz] at a1
  exact ⟨t, step t a1, a2⟩
end ME
