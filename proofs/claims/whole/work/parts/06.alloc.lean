/-! rows for what is made, constants, statics, System.arraycopy, Object.<init> -/
theorem mx_find {α : Type} {L : List α} {f : α → Bool} {b : α} (h : L.find? f = some b) : b ∈ L ∧ f b = true := ⟨List.mem_of_find?_eq_some h, List.find?_some h⟩
section MB
variable {E : mx_E} {d : Nat} {M : mx_M} {pc : Nat} {l : mx_L} {st : List Value} {h : mx_H} {P : mx_O → mx_H → Prop}
theorem mx_nw_ob {E : mx_E} {h : mx_H} {k n a : Nat} (ha : a = E.2.1 + h.1) : (mx_nw E h k n).2.2.2.1 a = (fun _ => 0) ∧ (mx_nw E h k n).2.2.2.2.1 a = (fun _ => none) ∧ (mx_nw E h k n).2.2.2.2.2 a = (fun _ => 0) := by
  subst ha
  simp [mx_nw, mx_up1]
theorem mx_nw_ne {E : mx_E} {h : mx_H} {k n b : Nat} (hb : b ≠ E.2.1 + h.1) : (mx_nw E h k n).2.2.2.1 b = h.2.2.2.1 b ∧ (mx_nw E h k n).2.2.2.2.1 b = h.2.2.2.2.1 b ∧ (mx_nw E h k n).2.2.2.2.2 b = h.2.2.2.2.2 b := by
  simp [mx_nw, mx_up1, hb]
theorem mv_new (hG : mx_G E) {idx ci n : Nat} (hd : decode (mx_ca M.1) pc = .ok (.new idx, 3)) (hc : mx_cn M.2.1 idx = some (ci, n)) (hcells : h.1 + 1 ≤ 601024) (hslots : h.2.1 + n ≤ 7293034) (kk : mx_V E d M (pc + 3) l (.ref (E.2.1 + h.1) :: st) (mx_nw E h ci n) P) : mx_V E d M pc l st h P := by
  intro p l0 e R s m args below meth c z H locs cells slots ls hX hS hl
  obtain ⟨e0, he, he2⟩ := Option.map_eq_some_iff.mp hc
  obtain ⟨hm, hp⟩ := mx_find he
  obtain ⟨k1, k2, k3, k4, k5⟩ := mx_cnT_ok _ hm
  obtain ⟨e1, e2, e3, e4, e5, e6, e7⟩ := e0
  simp only [Bool.and_eq_true, beq_iff_eq] at hp
  simp only [Prod.mk.injEq] at he2
  obtain ⟨rfl, rfl⟩ := he2
  obtain ⟨rfl, rfl⟩ := hp
  have k4 : e3 < 10 := k4
  obtain ⟨q1, r, hr, hT⟩ := mx_cl_T _ k4
  have hr1 : r.1 = (mx_T e3 0).1 := by
    have h9 := q1
    rw [hr] at h9
    exact Option.some.inj h9
  have hr2 : r.2.2 = e4 := by
    have h9 := k5
    rw [hr] at h9
    exact Option.some.inj h9
  have hW := hX.2.2.2.2.2.2.2.2.1
  have hts := mx_wd hG hW args
  have hKn := u_Kn_moved hW.alike (hG.2.1 e3 _ hr)
  refine W.newcK hX.1 hX.2.1 hX.2.2.1 (C := (mx_T e3 0).1) (n := e4) (hts _ (mx_g (List.mem_of_getElem? k1) rfl)) (hts _ (mx_g (List.mem_of_getElem? k2) rfl)) (hts _ (mx_g (List.mem_of_getElem? k3) rfl)) rfl hd (by have := hX.2.2.2.2.2.2.2.2.2.2.2.2.1; have := hS.2.1; omega) (by have := hX.2.2.2.2.2.2.2.2.2.2.2.2.2.1; have := hS.2.2.1; omega) (by rw [← hr1]; exact hKn.2.1) hS.1.1 fun H' kC w0 w1 w2 w3 => ?_
  refine kk p l0 e R s m args below meth c z H' locs (cells + 1) (slots + e4) ls hX ⟨?_, by show _ = _ + (h.1 + 1); have := hS.2.1; omega, by show _ = h.2.1 + e4; have := hS.2.2.1; omega, hS.2.2.2⟩ hl
  refine hS.1.push (kn := (e3, e4)) rfl (by rw [w2, hS.1.1]) (fun q hq => w3 q (by rw [← hS.1.1]; exact hq)) rfl rfl ⟨hcells, hslots⟩ (fun b hb => (mx_nw_ne hb).1) (fun b hb => (mx_nw_ne hb).2.1) (fun b hb => (mx_nw_ne hb).2.2) ?_ (fun c9 h9 => by cases w1.symm.trans h9; rfl)
  refine Or.inl ⟨by omega, r, hr, hr2.symm, Nat.le_add_right _ _, (u_born (mx_Y e3) hts (mx_ing e3 _ hr) hKn w0 w1 (mx_ok e3 r hr)).to (fun j hj => ?_)⟩
  rw [mx_df e3 r hr j hj]
  simp only [mx_fv, (mx_nw_ob (E := E) (h := h) (k := e3) (n := e4) rfl).1, (mx_nw_ob (E := E) (h := h) (k := e3) (n := e4) rfl).2.1]
  rfl
/-- a new array of numbers; k: its kind -/
theorem mx_newa (hG : mx_G E) {at_ : ArrayType} {n : Int32} {N k : Nat} (hw : Cond.arrayClass (newarray.typeOf at_) ∈ lw_tbl) (ht : mx_ty k = some (newarray.typeOf at_)) (hz : ∀ j, mx_av (mx_nw E h k N) k (E.2.1 + h.1) j = defaultValue (newarray.typeOf at_)) (hcb : componentBytes (newarray.typeOf at_) ≤ 8)
    (hd : decode (mx_ca M.1) pc = .ok (.newarray at_, 2)) (hn : ¬ n < 0) (hN : n.toNatClampNeg = N) (hb : N ≤ 60000000) (hcells : h.1 + 1 ≤ 601024) (hslots : h.2.1 + N ≤ 7293034) (kk : mx_V E d M (pc + 2) l (.ref (E.2.1 + h.1) :: st) (mx_nw E h k N) P) : mx_V E d M pc l (.int n :: st) h P := by
  intro p l0 e R s m args below meth c z H locs cells slots ls hX hS hl
  have hW := hX.2.2.2.2.2.2.2.2.1
  have hts := mx_wd hG hW args
  refine W.newaK hX.1 hX.2.1 (hts _ (mx_g hw rfl)) rfl hd rfl hn hN (Nat.le_trans (Nat.mul_le_mul hb hcb) (by decide)) (by have := hX.2.2.2.2.2.2.2.2.2.2.2.2.1; have := hS.2.1; omega) (by have := hX.2.2.2.2.2.2.2.2.2.2.2.2.2.1; have := hS.2.2.1; omega) hS.1.1 fun H' cA w1 w2 w3 w4 => ?_
  refine kk p l0 e R s m args below meth c z H' locs (cells + 1) (slots + N) ls hX ⟨?_, by show _ = _ + (h.1 + 1); have := hS.2.1; omega, by show _ = h.2.1 + N; have := hS.2.2.1; omega, hS.2.2.2⟩ hl
  refine hS.1.push (kn := (k, N)) rfl (by rw [w2, hS.1.1]) (fun q hq => w3 q (by rw [← hS.1.1]; exact hq)) rfl rfl ⟨hcells, hslots⟩ (fun b hb => (mx_nw_ne hb).1) (fun b hb => (mx_nw_ne hb).2.1) (fun b hb => (mx_nw_ne hb).2.2) ?_ (fun c9 h9 => by cases w1.symm.trans h9; rfl)
  refine Or.inr ⟨_, ht, Or.inr (Nat.le_add_right _ _), _, w1, State.isArrayOf_alike hW.alike.symm (w4 _ _), (fun h9 => by cases h9), arrV_size _ _ _, fun j hj => ?_, fun q26 => by subst q26; cases at_ <;> cases ht⟩
  rw [arrV_read _ _ hj, hz j]
theorem mv_newarray_int (hG : mx_G E) {n : Int32} {N : Nat} (hd : decode (mx_ca M.1) pc = .ok (.newarray .int, 2)) (hn : ¬ n < 0) (hN : n.toNatClampNeg = N) (hb : N ≤ 60000000) (hcells : h.1 + 1 ≤ 601024) (hslots : h.2.1 + N ≤ 7293034) (kk : mx_V E d M (pc + 2) l (.ref (E.2.1 + h.1) :: st) (mx_nw E h 20 N) P) : mx_V E d M pc l (.int n :: st) h P :=
  mx_newa hG (at_ := .int) (k := 20) mx_ac_int rfl (fun j => by simp only [mx_av, (mx_nw_ob (E := E) (h := h) (k := 20) (n := N) rfl).1]; rfl) (by decide) hd hn hN hb hcells hslots kk
theorem mv_newarray_byte (hG : mx_G E) {n : Int32} {N : Nat} (hd : decode (mx_ca M.1) pc = .ok (.newarray .byte, 2)) (hn : ¬ n < 0) (hN : n.toNatClampNeg = N) (hb : N ≤ 60000000) (hcells : h.1 + 1 ≤ 601024) (hslots : h.2.1 + N ≤ 7293034) (kk : mx_V E d M (pc + 2) l (.ref (E.2.1 + h.1) :: st) (mx_nw E h 22 N) P) : mx_V E d M pc l (.int n :: st) h P :=
  mx_newa hG (at_ := .byte) (k := 22) mx_ac_byte rfl (fun j => by simp only [mx_av, (mx_nw_ob (E := E) (h := h) (k := 22) (n := N) rfl).1]; rfl) (by decide) hd hn hN hb hcells hslots kk
theorem mv_newarray_boolean (hG : mx_G E) {n : Int32} {N : Nat} (hd : decode (mx_ca M.1) pc = .ok (.newarray .boolean, 2)) (hn : ¬ n < 0) (hN : n.toNatClampNeg = N) (hb : N ≤ 60000000) (hcells : h.1 + 1 ≤ 601024) (hslots : h.2.1 + N ≤ 7293034) (kk : mx_V E d M (pc + 2) l (.ref (E.2.1 + h.1) :: st) (mx_nw E h 23 N) P) : mx_V E d M pc l (.int n :: st) h P :=
  mx_newa hG (at_ := .boolean) (k := 23) mx_ac_boolean rfl (fun j => by simp only [mx_av, (mx_nw_ob (E := E) (h := h) (k := 23) (n := N) rfl).1]; rfl) (by decide) hd hn hN hb hcells hslots kk
theorem mv_newarray_long (hG : mx_G E) {n : Int32} {N : Nat} (hd : decode (mx_ca M.1) pc = .ok (.newarray .long, 2)) (hn : ¬ n < 0) (hN : n.toNatClampNeg = N) (hb : N ≤ 60000000) (hcells : h.1 + 1 ≤ 601024) (hslots : h.2.1 + N ≤ 7293034) (kk : mx_V E d M (pc + 2) l (.ref (E.2.1 + h.1) :: st) (mx_nw E h 24 N) P) : mx_V E d M pc l (.int n :: st) h P :=
  mx_newa hG (at_ := .long) (k := 24) mx_ac_long rfl (fun j => by simp only [mx_av, (mx_nw_ob (E := E) (h := h) (k := 24) (n := N) rfl).2.2]; rfl) (by decide) hd hn hN hb hcells hslots kk
theorem mv_ldc (hG : mx_G E) {idx : Nat} {x : Int32} (hd : decode (mx_ca M.1) pc = .ok (.ldc idx, 2)) (hc : mx_kc M.2.1 idx = some x) (kk : mx_V E d M (pc + 2) l (.int x :: st) h P) : mx_V E d M pc l st h P := by
  intro p l0 e R s m args below meth c z H locs cells slots ls hX hS hl
  obtain ⟨e0, he, rfl⟩ := Option.map_eq_some_iff.mp hc
  obtain ⟨hm, hp⟩ := mx_find he
  simp only [Bool.and_eq_true, beq_iff_eq] at hp
  have hw := mx_wd hG hX.2.2.2.2.2.2.2.2.1 args _ (mx_g (List.mem_of_getElem? (mx_kcT_ok _ hm)) rfl)
  rw [hp.1, hp.2] at hw
  exact lv_ldc hX.1 hX.2.1 hX.2.2.1 hw hd (kk p l0 e R s m args below meth c z H locs cells slots ls hX hS hl)
theorem mv_ldcw (hG : mx_G E) {idx : Nat} {x : Int32} (hd : decode (mx_ca M.1) pc = .ok (.ldc_w idx, 3)) (hc : mx_kc M.2.1 idx = some x) (kk : mx_V E d M (pc + 3) l (.int x :: st) h P) : mx_V E d M pc l st h P := by
  intro p l0 e R s m args below meth c z H locs cells slots ls hX hS hl
  obtain ⟨e0, he, rfl⟩ := Option.map_eq_some_iff.mp hc
  obtain ⟨hm, hp⟩ := mx_find he
  simp only [Bool.and_eq_true, beq_iff_eq] at hp
  have hw := mx_wd hG hX.2.2.2.2.2.2.2.2.1 args _ (mx_g (List.mem_of_getElem? (mx_kcT_ok _ hm)) rfl)
  rw [hp.1, hp.2] at hw
  exact lv_ldcw hX.1 hX.2.1 hX.2.2.1 hw hd (kk p l0 e R s m args below meth c z H locs cells slots ls hX hS hl)
theorem mv_ldc2 (hG : mx_G E) {idx : Nat} {x : Int64} (hd : decode (mx_ca M.1) pc = .ok (.ldc2_w idx, 3)) (hc : mx_kl M.2.1 idx = some x) (kk : mx_V E d M (pc + 3) l (.long x :: st) h P) : mx_V E d M pc l st h P := by
  intro p l0 e R s m args below meth c z H locs cells slots ls hX hS hl
  obtain ⟨e0, he, rfl⟩ := Option.map_eq_some_iff.mp hc
  obtain ⟨hm, hp⟩ := mx_find he
  simp only [Bool.and_eq_true, beq_iff_eq] at hp
  have hw := mx_wd hG hX.2.2.2.2.2.2.2.2.1 args _ (mx_g (List.mem_of_getElem? (mx_klT_ok _ hm)) rfl)
  rw [hp.1, hp.2] at hw
  exact lv_ldc2 hX.1 hX.2.1 hX.2.2.1 hw hd (kk p l0 e R s m args below meth c z H locs cells slots ls hX hS hl)
theorem mv_getstatic (hG : mx_G E) (hd : decode (mx_ca M.1) pc = .ok (.getstatic 58, 3)) (hM : M.2.1 = "IdealWorks$Ring") (kk : mx_V E d M (pc + 3) l (.ref E.2.2.2.2 :: st) h P) : mx_V E d M pc l st h P := by
  intro p l0 e R s m args below meth c z H locs cells slots ls hX hS hl
  have hW := hX.2.2.2.2.2.2.2.2.1
  have hw : (Cond.fieldLinkNest "IdealWorks$Ring" 58 "IdealWorks" "HIGHEST" "[I" "IdealWorks").before args s = true := va_Nw.use rfl (va_Nw.warmF hW (hG.1 _ mx_nh #[]))
  obtain ⟨cf, kf, fi, f, a, cell, h1, h2, h3, h4, h5, h6, h7, h8⟩ := va_Z.moved hW.alike hG.2.2.1
  have ha : a < E.2.1 := Nat.not_le.mp h8
  exact va_WgetsN hX.1 hX.2.1 (by rw [← hM]; exact hX.2.2.1) hw h1 h2 h3 h4 (by rw [hS.1.2.2.1 a ha]; exact h5) (fun e => by rw [e] at h6; cases h6) h7 rfl hd (kk p l0 e R s m args below meth c z H locs cells slots ls hX hS hl)
theorem mv_objInit (hG : mx_G E) {idx a : Nat} (hd : decode (mx_ca M.1) pc = .ok (.invokespecial idx, 3)) (ho : mx_oi M.2.1 idx = true) (hst : (st.map fun v => v.category).sum ≤ 8) (kk : mx_V E d M (pc + 3) l st h P) : mx_V E d M pc l (.ref a :: st) h P := by
  intro p l0 e R s m args below meth c z H locs cells slots ls hX hS hl
  obtain ⟨e0, he⟩ := Option.isSome_iff_exists.mp ho
  obtain ⟨hm, hp⟩ := mx_find he
  simp only [Bool.and_eq_true, beq_iff_eq] at hp
  have hts := mx_wd hG hX.2.2.2.2.2.2.2.2.1 args
  have hw := hts _ (mx_g (List.mem_of_getElem? (mx_oiT_ok _ hm)) rfl)
  rw [hp.1, hp.2] at hw
  exact W.objInit hX.1 hX.2.1 hX.2.2.1 hw (hts _ (mx_g mx_oi_i rfl)) (hts _ (mx_g mx_oi_c rfl)) rfl (by rw [hX.2.2.2.1]; exact hl.1) rfl hd (by have := hX.2.2.2.2.2.2.2.2.2.2.1; omega) (by have := hX.2.2.2.2.2.2.2.2.2.2.2.1; show 2 * 0 + _ + 12 ≤ _; omega) (kk p l0 e R s m args below meth c z H locs cells slots ls hX hS hl)
/-- a stretch copied -/
def mx_cpy (h : mx_H) (a sp b dp n : Nat) : mx_H := (h.1, h.2.1, h.2.2.1, mx_up1 h.2.2.2.1 b (va_cpy (h.2.2.2.1 a) (h.2.2.2.1 b) sp dp n), h.2.2.2.2.1, h.2.2.2.2.2)
theorem mx_nfw : nativeFrameWords "java/lang/System" "arraycopy" 5 ≤ 40 := by decide +kernel
theorem mv_arraycopy (hG : mx_G E) {idx a b na nb : Nat} {sp dp n : Int32} (hd : decode (mx_ca M.1) pc = .ok (.invokestatic idx, 3)) (ho : mx_cp M.2.1 idx = true) (hst : (st.map fun v => v.category).sum ≤ 8) (ha : h.2.2.1 a = some (20, na)) (hb : h.2.2.1 b = some (20, nb))
    (h1 : ¬ sp < 0) (h2 : ¬ dp < 0) (h3 : ¬ n < 0) (h4 : sp.toNatClampNeg + n.toNatClampNeg ≤ na) (h5 : dp.toNatClampNeg + n.toNatClampNeg ≤ nb) (kk : mx_V E d M (pc + 3) l st (mx_cpy h a sp.toNatClampNeg b dp.toNatClampNeg n.toNatClampNeg) P) : mx_V E d M pc l (.int n :: .int dp :: .ref b :: .int sp :: .ref a :: st) h P := by
  intro p l0 e R s m args below meth c z H locs cells slots ls hX hS hl T hT X
  have nn : ∀ z : Int32, ¬ z < 0 → z.toInt = (z.toNatClampNeg : Int) := by
    intro z hz
    have hz0 : (0 : Int) ≤ z.toInt := by
      have := Int32.not_lt.mp hz
      simpa using Int32.le_iff_toInt_le.mp this
    show z.toInt = ((z.toInt.toNat : Nat) : Int)
    omega
  obtain ⟨e0, he⟩ := Option.isSome_iff_exists.mp ho
  obtain ⟨hm, hp⟩ := mx_find he
  simp only [Bool.and_eq_true, beq_iff_eq] at hp
  have hW := hX.2.2.2.2.2.2.2.2.1
  have hts := mx_wd hG hW args
  have hw := hts _ (mx_g (List.mem_of_getElem? (mx_cpT_ok _ hm)) rfl)
  rw [hp.1, hp.2] at hw
  obtain ⟨-, ca, a1, a2, a3, a4, a5⟩ := hS.1.arr ha (ty := .int) rfl
  obtain ⟨bb, cb, b1, b2, b3, b4, b5⟩ := hS.1.arr hb (ty := .int) rfl
  have bb : E.2.1 ≤ b := by
    rcases bb with q | q
    · cases q
    · exact q
  obtain ⟨ao, ka, hka, cma, hkka⟩ := State.isArrayOf_alike hW.alike a2
  obtain ⟨bo, kb, hkb, cmb, hkkb⟩ := State.isArrayOf_alike hW.alike b2
  obtain ⟨vm', X', step⟩ := X.arraycopy hX.1 hX.2.2.1 hw (hts _ (mx_g mx_cp_n rfl)) (hts _ (mx_g mx_cp_s rfl)) (hts _ (mx_g mx_cp_i rfl)) (src := a) (dst := b) (cs := ca) (cd := cb) (srcPos := sp) (destPos := dp) (n := n) (by rw [hT]; exact a1) (by rw [hT]; exact b1)
    ao bo a3 b3 hka hkb hkka hkkb rfl h1 h2 h3 (by rw [nn sp h1, nn n h3]; omega) (by rw [nn dp h2, nn n h3]; omega)
    (fun vm₁ _ i hi => by
      have e9 : ca.slots.getD (sp.toNatClampNeg + i) .null = .int (h.2.2.2.1 a (sp.toNatClampNeg + i)) := by
        rw [Array.getD_eq_getD_getElem?, a5 _ (by omega)]
        rfl
      rw [e9]
      exact ⟨rfl, trivial⟩)
    (g := F0 m pc ls (.int n :: .int dp :: .ref b :: .int sp :: .ref a :: st)) rfl (by rw [hX.2.2.2.1]; exact hl.1) (rest := st) rfl (by rw [hX.2.1]; exact hd) (by have := hX.2.2.2.2.2.2.2.2.2.2.1; omega) (by have := hX.2.2.2.2.2.2.2.2.2.2.2.1; have h9 := mx_nfw; show 2 * 0 + _ + _ ≤ _; omega)
  have hbl : b < H.size := (Array.getElem?_eq_some_iff.mp b1).1
  have hheap : ((T.setVm vm').setCell b (copied ca cb sp dp n)).heap = H.setIfInBounds b (copied ca cb sp dp n) := by rw [← hT]; rfl
  have oq : ∀ q : Nat, q ≠ b → (H.setIfInBounds b (copied ca cb sp dp n))[q]? = H[q]? := fun q hq => by simp [Array.getElem?_setIfInBounds, Ne.symm hq]
  have ob : (H.setIfInBounds b (copied ca cb sp dp n))[b]? = some (copied ca cb sp dp n) := by simp [Array.getElem?_setIfInBounds, hbl]
  obtain ⟨sf1, sf2, sf3, -, -⟩ := Cell.storeRun_facts cb dp.toNatClampNeg (ca.stretch sp.toNatClampNeg n.toNatClampNeg)
  have slen : (ca.stretch sp.toNatClampNeg n.toNatClampNeg).length = n.toNatClampNeg := by simp [Cell.stretch]
  have key : mx_R E (mx_cpy h a sp.toNatClampNeg b dp.toNatClampNeg n.toNatClampNeg) (H.setIfInBounds b (copied ca cb sp dp n)) := by
    refine hS.1.set bb (by simp) oq rfl rfl rfl (fun q hq => by simp [mx_cpy, mx_up1, hq]) (fun q hq => rfl) (fun q hq => rfl) (fun k' n' hk' => ?_) (fun c9 h9 => by cases ob.symm.trans h9; rw [sf2]; exact hS.1.vm bb b1)
    cases hb.symm.trans hk'
    refine Or.inr ⟨.int, rfl, Or.inr bb, _, ob, ?_, by rw [sf2]; exact b3, by rw [sf3]; exact b4, fun j hj => ?_, fun q26 => absurd q26 (by decide)⟩
    · exact ⟨fun x => by rw [sf2]; exact b2.1 x, by rw [sf1]; exact b2.2⟩
    · show (cb.storeRun dp.toNatClampNeg (ca.stretch sp.toNatClampNeg n.toNatClampNeg)).slots[j]? = _
      rw [Cell.storeRun_get _ _ _ _ (by rw [slen, b4]; exact h5), slen]
      simp only [mx_av, mx_cpy, mx_up1, va_cpy]
      by_cases q : dp.toNatClampNeg ≤ j ∧ j < dp.toNatClampNeg + n.toNatClampNeg
      · rw [if_pos q]
        simp only [Cell.stretch, List.getElem?_map]
        rw [List.getElem?_range (by omega)]
        simp only [Option.map_some]
        rw [Array.getD_eq_getD_getElem?, a5 _ (by omega)]
        simp [q, mx_av, va_cpy]
      · rw [if_neg q, b5 j hj]
        simp [q, mx_av, va_cpy]
  have key2 : ∀ q ∈ locs ++ ((ca.stretch sp.toNatClampNeg n.toNatClampNeg).zipIdx.map fun q => (⟨b, dp.toNatClampNeg + q.2⟩ : Loc)), E.2.1 ≤ q.base := by
    intro q hq
    rcases List.mem_append.mp hq with w | w
    · exact hS.2.2.2 _ w
    · obtain ⟨y, -, hy⟩ := List.mem_map.mp w
      rw [← hy]
      exact bb
  obtain ⟨t, t1, t2⟩ := kk p l0 e R s m args below meth c z _ _ cells slots ls hX ⟨key, hS.2.1, hS.2.2.1, key2⟩ hl _ hheap X'
  exact ⟨t, step t t1, t2⟩
end MB
