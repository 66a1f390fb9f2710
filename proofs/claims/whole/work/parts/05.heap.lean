/-! memory: what the heap holds; rows for fields and arrays -/
def lw_g : List Cond := lw_tbl.filter goodWord
/-- what is known of the start: the tables' words, the classes, the static array -/
def mx_G (E : mx_E) : Prop :=
  (∀ w ∈ lw_tbl, ∀ a : Array Value, w.before a E.1 = true) ∧ (∀ (c : Nat) (q : vw_C), mx_cl[c]? = some q → u_Kn E.1 q.1 q.2.1 q.2.2 (E.2.2.1 c) (E.2.2.2.1 c)) ∧
  va_Z "IdealWorks" "HIGHEST" "[I" (.ref E.2.2.2.2) (fun q => E.2.1 ≤ q) E.1 E.1.heap ∧ E.1.heap.size = E.2.1 ∧
  va_Zq "java/lang/Throwable" "UNASSIGNED_STACK" "[Ljava/lang/StackTraceElement;" (fun q => E.2.1 ≤ q) E.1 E.1.heap ∧ va_Zq "java/lang/Throwable" "SUPPRESSED_SENTINEL" "Ljava/util/List;" (fun q => E.2.1 ≤ q) E.1 E.1.heap ∧
  ∀ x y, x < 3 → y < 3 → x ≠ y → va_Nc (mx_xn x) (mx_xn y) E.1
theorem mx_g {w : Cond} (h : w ∈ lw_tbl) (hg : goodWord w = true) : w ∈ lw_g := List.mem_filter.mpr ⟨h, hg⟩
theorem mx_wd {E : mx_E} (hG : mx_G E) {s : State} (hW : E.1.WarmedH s.vm) (a' : Array Value) : ∀ w ∈ lw_g, w.before a' s = true := fun w hw =>
  word_at hW (good_of_word (List.mem_filter.mp hw).2) (hG.1 w (List.mem_filter.mp hw).1 #[])
theorem mx_ing (c : Nat) (r : vw_C) (h : mx_cl[c]? = some r) : ∀ w ∈ u_ws r.1 r.2.1 r.2.2, w ∈ lw_g := fun w hw => mx_g (mx_in c r h w hw) (by
  obtain ⟨k, -, rfl⟩ := List.mem_map.mp hw
  unfold u_lay
  split <;> rfl)
theorem mx_fl_some {own : String} {idx ci k tag : Nat} (h : mx_fl own idx = some (ci, k, tag)) :
    Cond.fieldLink own idx (mx_T ci k).1 (mx_T ci k).2.1 (mx_T ci k).2.2.1 ∈ lw_tbl ∧ mx_tg tag (mx_Y ci k) (mx_rf ci k) (mx_T ci k).2.2.2 = true ∧ ∃ r, mx_cl[ci]? = some r ∧ r.2.1 = mx_T ci ∧ k < r.2.2 := by
  unfold mx_fl at h
  obtain ⟨e, h1, h2⟩ := Option.map_eq_some_iff.mp h
  have hm := List.mem_of_find?_eq_some h1
  have hp := List.find?_some h1
  simp only [Bool.and_eq_true, beq_iff_eq] at hp
  obtain ⟨e1, e2, e3, e4, e5, e6⟩ := e
  simp only [Prod.mk.injEq] at h2
  obtain ⟨rfl, rfl, rfl⟩ := h2
  obtain ⟨rfl, rfl⟩ := hp
  have h3 := mx_flT_ok _ hm
  obtain ⟨h4, h5, h6⟩ := mx_flT_tg _ hm
  refine ⟨List.mem_of_getElem? h3, h4, ?_⟩
  obtain ⟨-, r, hr, hT⟩ := mx_cl_T _ h5
  refine ⟨r, hr, hT, ?_⟩
  simp only [hr, Option.map_some, Option.some.injEq, decide_eq_true_eq] at h6
  exact h6
theorem mx_ty_big {k : Nat} {ty : FieldType} (h : mx_ty k = some ty) : 20 ≤ k := by
  rcases Nat.lt_or_ge k 20 with q | q
  · unfold mx_ty at h
    rw [if_neg (by omega), if_neg (by omega), if_neg (by omega), if_neg (by omega), if_neg (by omega), if_neg (by omega), if_neg (by omega)] at h
    cases h
  · exact q
section RH
variable {E : mx_E} {h : mx_H} {H : Heap}
theorem mx_R.arr {a k n : Nat} {ty : FieldType} (hR : mx_R E h H) (hk : h.2.2.1 a = some (k, n)) (ht : mx_ty k = some ty) :
    (k = 21 ∨ E.2.1 ≤ a) ∧ ∃ cell : Cell, H[a]? = some cell ∧ E.1.isArrayOf cell ty ∧ cell.vm ≠ .unknown ∧ cell.slots.size = n ∧ ∀ j, j < n → cell.slots[j]? = some (mx_av h k a j) := by
  rcases hR.2.1 a k n hk with ⟨h1, -⟩ | ⟨ty', h1, h2, h3⟩
  · have := mx_ty_big ht
    omega
  · cases h1.symm.trans ht
    obtain ⟨cell, a1, a2, a3, a4, a5, -⟩ := h3
    exact ⟨h2, cell, a1, a2, a3, a4, a5⟩
theorem mx_R.arr26 {a n : Nat} (hR : mx_R E h H) (hk : h.2.2.1 a = some (26, n)) : E.2.1 ≤ a ∧ ∃ cell : Cell, H[a]? = some cell ∧ E.1.isArrayOf cell (.object "IdealWorks$Ideal") ∧ cell.vm ≠ .unknown ∧ cell.slots.size = n ∧ (∀ j, j < n → cell.slots[j]? = some (mx_av h 26 a j)) ∧ E.1.vm.findClass "[LIdealWorks$Ideal;" = some cell.cls := by
  rcases hR.2.1 a 26 n hk with ⟨h1, -⟩ | ⟨ty', h1, h2, cell, a1, a2, a3, a4, a5, a6⟩
  · omega
  · cases h1
    exact ⟨h2.elim (fun q => absurd q (by decide)) id, cell, a1, a2, a3, a4, a5, a6 rfl⟩
theorem mx_R.obj {a k n : Nat} (hR : mx_R E h H) (hk : h.2.2.1 a = some (k, n)) (hlt : k < 20) :
    ∃ r : vw_C, mx_cl[k]? = some r ∧ n = r.2.2 ∧ E.2.1 ≤ a ∧ t_OB a (E.2.2.1 k) r.2.2 (E.2.2.2.1 k) H (mx_fv h k a) := by
  rcases hR.2.1 a k n hk with ⟨-, h1⟩ | ⟨ty', h1, -⟩
  · exact h1
  · have := mx_ty_big h1
    omega
theorem mx_R.lt {a k n : Nat} (hR : mx_R E h H) (hk : h.2.2.1 a = some (k, n)) : a < H.size := by
  rcases hR.2.1 a k n hk with ⟨-, r, -, -, -, cell, h1, -⟩ | ⟨-, -, -, cell, h1, -⟩
  · exact (Array.getElem?_eq_some_iff.mp h1).1
  · exact (Array.getElem?_eq_some_iff.mp h1).1
theorem mx_R.vm {a : Nat} {cell : Cell} (hR : mx_R E h H) (hb : E.2.1 ≤ a) (hc : H[a]? = some cell) : cell.vm = .none := hR.2.2.2.2.2 a cell hb hc
theorem mx_C.kept {h' : mx_H} {H' : Heap} {a k n : Nat} (hC : mx_C E h H a k n) (e1 : h'.2.2.2.1 a = h.2.2.2.1 a) (e2 : h'.2.2.2.2.1 a = h.2.2.2.2.1 a) (e3 : h'.2.2.2.2.2 a = h.2.2.2.2.2 a) (e4 : H'[a]? = H[a]?) : mx_C E h' H' a k n := by
  rcases hC with ⟨h1, r, h2, h3, h4, h5⟩ | ⟨ty, h1, h2, cell, h3, h4, h5, h6, h7, h8⟩
  · refine Or.inl ⟨h1, r, h2, h3, h4, (h5.kept e4).to (fun j _ => ?_)⟩
    simp only [mx_fv, e1, e2]
  · refine Or.inr ⟨ty, h1, h2, cell, e4.trans h3, h4, h5, h6, fun j hj => ?_, h8⟩
    rw [h7 j hj]
    simp only [mx_av, e1, e2, e3]
theorem mx_R.set {h' : mx_H} {H' : Heap} {a : Nat} (hR : mx_R E h H) (hab : E.2.1 ≤ a) (hsz : H'.size = H.size) (hoff : ∀ q, q ≠ a → H'[q]? = H[q]?) (hnc : h'.1 = h.1) (hns : h'.2.1 = h.2.1) (hkd : h'.2.2.1 = h.2.2.1)
    (e1 : ∀ b, b ≠ a → h'.2.2.2.1 b = h.2.2.2.1 b) (e2 : ∀ b, b ≠ a → h'.2.2.2.2.1 b = h.2.2.2.2.1 b) (e3 : ∀ b, b ≠ a → h'.2.2.2.2.2 b = h.2.2.2.2.2 b) (ha : ∀ k n, h.2.2.1 a = some (k, n) → mx_C E h' H' a k n) (hvm : ∀ cell, H'[a]? = some cell → cell.vm = .none) : mx_R E h' H' := by
  refine ⟨by rw [hsz, hnc]; exact hR.1, fun b k n hb => ?_, fun q hq => by rw [hoff q (by omega)]; exact hR.2.2.1 q hq, by rw [hnc]; exact hR.2.2.2.1, by rw [hns]; exact hR.2.2.2.2.1, fun q cell h8 h9 => ?_⟩
  · rw [hkd] at hb
    by_cases q : b = a
    · subst q
      exact ha k n hb
    · exact (hR.2.1 b k n hb).kept (e1 b q) (e2 b q) (e3 b q) (hoff b q)
  · by_cases w : q = a
    · subst w
      exact hvm cell h9
    · rw [hoff q w] at h9
      exact hR.2.2.2.2.2 q cell h8 h9
/-- a new cell -/
theorem mx_R.push {h' : mx_H} {H' : Heap} {a : Nat} {kn : Nat × Nat} (hR : mx_R E h H) (ha : a = E.2.1 + h.1) (hsz : H'.size = H.size + 1) (hoff : ∀ q, q < H.size → H'[q]? = H[q]?) (hnc : h'.1 = h.1 + 1) (hkd : h'.2.2.1 = mx_up1 h.2.2.1 a (some kn)) (hcb : h'.1 ≤ 601024 ∧ h'.2.1 ≤ 7293034)
    (e1 : ∀ b, b ≠ a → h'.2.2.2.1 b = h.2.2.2.1 b) (e2 : ∀ b, b ≠ a → h'.2.2.2.2.1 b = h.2.2.2.2.1 b) (e3 : ∀ b, b ≠ a → h'.2.2.2.2.2 b = h.2.2.2.2.2 b) (hC : mx_C E h' H' a kn.1 kn.2) (hvm : ∀ cell, H'[a]? = some cell → cell.vm = .none) : mx_R E h' H' := by
  refine ⟨by rw [hsz, hnc, hR.1]; omega, fun b k n hb => ?_, fun q hq => by rw [hoff q (by rw [hR.1]; omega)]; exact hR.2.2.1 q hq, hcb.1, hcb.2, fun q cell h8 h9 => ?_⟩
  · rw [hkd] at hb
    unfold mx_up1 at hb
    by_cases q : b = a
    · subst q
      rw [if_pos rfl] at hb
      cases hb
      exact hC
    · rw [if_neg q] at hb
      exact (hR.2.1 b k n hb).kept (e1 b q) (e2 b q) (e3 b q) (hoff b (hR.lt hb))
  · by_cases w : q = a
    · subst w
      exact hvm cell h9
    · have hlt : q < H.size := by
        have := (Array.getElem?_eq_some_iff.mp h9).1
        rw [hsz] at this
        have := hR.1
        omega
      rw [hoff q hlt] at h9
      exact hR.2.2.2.2.2 q cell h8 h9
end RH
def mx_si (h : mx_H) (a i : Nat) (x : Int32) : mx_H := (h.1, h.2.1, h.2.2.1, mx_up2 h.2.2.2.1 a i x, h.2.2.2.2.1, h.2.2.2.2.2)
def mx_sr (h : mx_H) (a i : Nat) (x : Option Nat) : mx_H := (h.1, h.2.1, h.2.2.1, h.2.2.2.1, mx_up2 h.2.2.2.2.1 a i x, h.2.2.2.2.2)
def mx_sj (h : mx_H) (a i : Nat) (x : Int64) : mx_H := (h.1, h.2.1, h.2.2.1, h.2.2.2.1, h.2.2.2.2.1, mx_up2 h.2.2.2.2.2 a i x)
/-- a new cell of kind k, length n, all 0 -/
def mx_nw (E : mx_E) (h : mx_H) (k n : Nat) : mx_H :=
  (h.1 + 1, h.2.1 + n, mx_up1 h.2.2.1 (E.2.1 + h.1) (some (k, n)), mx_up1 h.2.2.2.1 (E.2.1 + h.1) (fun _ => 0), mx_up1 h.2.2.2.2.1 (E.2.1 + h.1) (fun _ => none), mx_up1 h.2.2.2.2.2 (E.2.1 + h.1) (fun _ => 0))
theorem mx_lt {i : Int32} {n : Nat} (h : vp_in i n) : i.toNatClampNeg < n := by
  unfold vp_in at h
  rcases Nat.lt_or_ge i.toNatClampNeg n with q | q
  · exact q
  · exact absurd (Or.inr q) h
theorem mx_slot {cell : Cell} {i j : Nat} {v w : Value} {n : Nat} (hn : cell.slots.size = n) (hi : i < n) (hw : j ≠ i → cell.slots[j]? = some w) : (cell.setSlot i v).slots[j]? = some (if j = i then v else w) := by
  by_cases q : j = i
  · subst q
    rw [if_pos rfl]
    exact Cell.slots_setSlot_self _ (by omega)
  · rw [if_neg q, slot_ne _ _ (Ne.symm q)]
    exact hw q
section MA
variable {E : mx_E} {d : Nat} {M : mx_M} {pc : Nat} {l : mx_L} {st : List Value} {h : mx_H} {P : mx_O → mx_H → Prop}
theorem mv_iaload {a k n : Nat} {i : Int32} (hd : decode (mx_ca M.1) pc = .ok (.iaload, 1)) (hk : h.2.2.1 a = some (k, n)) (h20 : k = 20 ∨ k = 21) (hi : vp_in i n) (kk : mx_V E d M (pc + 1) l (.int (h.2.2.2.1 a i.toNatClampNeg) :: st) h P) : mx_V E d M pc l (.int i :: .ref a :: st) h P := by
  intro p l0 e R s m args below meth c z H locs cells slots ls hX hS hl
  have ht : mx_ty k = some .int := by rcases h20 with rfl | rfl <;> rfl
  obtain ⟨-, cell, h1, h2, h3, h4, h5⟩ := hS.1.arr hk ht
  have hv : cell.slots[i.toNatClampNeg]? = some (.int (h.2.2.2.1 a i.toNatClampNeg)) := by
    rw [h5 _ (mx_lt hi)]
    rcases h20 with rfl | rfl <;> rfl
  exact W.iald hX.1 hX.2.1 h1 (State.isArrayOf_alike hX.2.2.2.2.2.2.2.2.1.alike h2) h3 (by rw [h4]; exact hi) hv rfl rfl hd (kk p l0 e R s m args below meth c z H locs cells slots ls hX hS hl)
theorem mv_baload {a k n : Nat} {i : Int32} (hd : decode (mx_ca M.1) pc = .ok (.baload, 1)) (hk : h.2.2.1 a = some (k, n)) (h20 : k = 22) (hi : vp_in i n) (kk : mx_V E d M (pc + 1) l (.int (h.2.2.2.1 a i.toNatClampNeg) :: st) h P) : mx_V E d M pc l (.int i :: .ref a :: st) h P := by
  intro p l0 e R s m args below meth c z H locs cells slots ls hX hS hl
  have ht : mx_ty k = some .byte := by rcases h20 with rfl <;> rfl
  obtain ⟨-, cell, h1, h2, h3, h4, h5⟩ := hS.1.arr hk ht
  have hv : cell.slots[i.toNatClampNeg]? = some (.int (h.2.2.2.1 a i.toNatClampNeg)) := by
    rw [h5 _ (mx_lt hi)]
    rcases h20 with rfl <;> rfl
  exact W.bald hX.1 hX.2.1 h1 (State.isArrayOf_alike hX.2.2.2.2.2.2.2.2.1.alike h2) h3 (by rw [h4]; exact hi) hv rfl rfl hd (kk p l0 e R s m args below meth c z H locs cells slots ls hX hS hl)
theorem mv_zaload {a k n : Nat} {i : Int32} (hd : decode (mx_ca M.1) pc = .ok (.baload, 1)) (hk : h.2.2.1 a = some (k, n)) (h20 : k = 23) (hi : vp_in i n) (kk : mx_V E d M (pc + 1) l (.int (h.2.2.2.1 a i.toNatClampNeg) :: st) h P) : mx_V E d M pc l (.int i :: .ref a :: st) h P := by
  intro p l0 e R s m args below meth c z H locs cells slots ls hX hS hl
  have ht : mx_ty k = some .boolean := by rcases h20 with rfl <;> rfl
  obtain ⟨-, cell, h1, h2, h3, h4, h5⟩ := hS.1.arr hk ht
  have hv : cell.slots[i.toNatClampNeg]? = some (.int (h.2.2.2.1 a i.toNatClampNeg)) := by
    rw [h5 _ (mx_lt hi)]
    rcases h20 with rfl <;> rfl
  exact W.zald hX.1 hX.2.1 h1 (State.isArrayOf_alike hX.2.2.2.2.2.2.2.2.1.alike h2) h3 (by rw [h4]; exact hi) hv rfl rfl hd (kk p l0 e R s m args below meth c z H locs cells slots ls hX hS hl)
theorem mv_laload {a k n : Nat} {i : Int32} (hd : decode (mx_ca M.1) pc = .ok (.laload, 1)) (hk : h.2.2.1 a = some (k, n)) (h20 : k = 24) (hi : vp_in i n) (kk : mx_V E d M (pc + 1) l (.long (h.2.2.2.2.2 a i.toNatClampNeg) :: st) h P) : mx_V E d M pc l (.int i :: .ref a :: st) h P := by
  intro p l0 e R s m args below meth c z H locs cells slots ls hX hS hl
  have ht : mx_ty k = some .long := by rcases h20 with rfl <;> rfl
  obtain ⟨-, cell, h1, h2, h3, h4, h5⟩ := hS.1.arr hk ht
  have hv : cell.slots[i.toNatClampNeg]? = some (.long (h.2.2.2.2.2 a i.toNatClampNeg)) := by
    rw [h5 _ (mx_lt hi)]
    rcases h20 with rfl <;> rfl
  exact W.lald hX.1 hX.2.1 h1 (State.isArrayOf_alike hX.2.2.2.2.2.2.2.2.1.alike h2) h3 (by rw [h4]; exact hi) hv rfl rfl hd (kk p l0 e R s m args below meth c z H locs cells slots ls hX hS hl)
theorem mv_aaload {a k n : Nat} {i : Int32} (hd : decode (mx_ca M.1) pc = .ok (.aaload, 1)) (hk : h.2.2.1 a = some (k, n)) (h20 : k = 25) (hi : vp_in i n) (kk : mx_V E d M (pc + 1) l (va_rf (h.2.2.2.2.1 a i.toNatClampNeg) :: st) h P) : mx_V E d M pc l (.int i :: .ref a :: st) h P := by
  intro p l0 e R s m args below meth c z H locs cells slots ls hX hS hl
  have ht : mx_ty k = some (.array .int) := by rcases h20 with rfl <;> rfl
  obtain ⟨-, cell, h1, h2, h3, h4, h5⟩ := hS.1.arr hk ht
  have hv : cell.slots[i.toNatClampNeg]? = some (va_rf (h.2.2.2.2.1 a i.toNatClampNeg)) := by
    rw [h5 _ (mx_lt hi)]
    rcases h20 with rfl <;> rfl
  exact W.aald hX.1 hX.2.1 h1 (State.isArrayOf_alike hX.2.2.2.2.2.2.2.2.1.alike h2) rfl h3 (by rw [h4]; exact hi) hv rfl rfl hd (kk p l0 e R s m args below meth c z H locs cells slots ls hX hS hl)
theorem mv_oaload {a k n : Nat} {i : Int32} (hd : decode (mx_ca M.1) pc = .ok (.aaload, 1)) (hk : h.2.2.1 a = some (k, n)) (h20 : k = 26) (hi : vp_in i n) (kk : mx_V E d M (pc + 1) l (va_rf (h.2.2.2.2.1 a i.toNatClampNeg) :: st) h P) : mx_V E d M pc l (.int i :: .ref a :: st) h P := by
  intro p l0 e R s m args below meth c z H locs cells slots ls hX hS hl
  have ht : mx_ty k = some (.object "IdealWorks$Ideal") := by rcases h20 with rfl <;> rfl
  obtain ⟨-, cell, h1, h2, h3, h4, h5⟩ := hS.1.arr hk ht
  have hv : cell.slots[i.toNatClampNeg]? = some (va_rf (h.2.2.2.2.1 a i.toNatClampNeg)) := by
    rw [h5 _ (mx_lt hi)]
    rcases h20 with rfl <;> rfl
  exact W.aald hX.1 hX.2.1 h1 (State.isArrayOf_alike hX.2.2.2.2.2.2.2.2.1.alike h2) rfl h3 (by rw [h4]; exact hi) hv rfl rfl hd (kk p l0 e R s m args below meth c z H locs cells slots ls hX hS hl)
theorem mv_iastore {a n : Nat} {i : Int32} {x : Int32} (hd : decode (mx_ca M.1) pc = .ok (.iastore, 1)) (hk : h.2.2.1 a = some (20, n)) (hi : vp_in i n) (kk : mx_V E d M (pc + 1) l st (mx_si h a i.toNatClampNeg x) P) : mx_V E d M pc l (.int x :: .int i :: .ref a :: st) h P := by
  intro p l0 e R s m args below meth c z H locs cells slots ls hX hS hl
  obtain ⟨hb, cell, h1, h2, h3, h4, h5⟩ := hS.1.arr hk (ty := .int) rfl
  have hb : E.2.1 ≤ a := by
    rcases hb with hb | hb
    · cases hb
    · exact hb
  refine W.iast hX.1 hX.2.1 h1 (State.isArrayOf_alike hX.2.2.2.2.2.2.2.2.1.alike h2) h3 (by rw [h4]; exact hi) rfl rfl hd fun H' g1 g2 g3 => ?_
  refine kk p l0 e R s m args below meth c z H' _ cells slots ls hX ⟨?_, hS.2.1, hS.2.2.1, fun q hq => ?_⟩ hl
  · refine hS.1.set hb g2 g3 rfl rfl rfl (fun b hb => mx_up2_o _ _ hb) (fun b hb => rfl) (fun b hb => rfl) (fun k' n' hk' => ?_) (fun c9 h9 => by cases g1.symm.trans h9; show cell.vm = .none; exact hS.1.vm hb h1)
    cases hk.symm.trans hk'
    refine Or.inr ⟨.int, rfl, Or.inr hb, _, g1, h2, h3, by rw [k2_slotsz]; exact h4, fun j hj => ?_, fun q26 => absurd q26 (by decide)⟩
    rw [mx_slot h4 (mx_lt hi) (w := .int (h.2.2.2.1 a j)) (fun _ => h5 j hj)]
    simp only [mx_av, mx_si, mx_up2]
    by_cases q : j = i.toNatClampNeg
    · simp [q]
    · simp [q]
  · rcases List.mem_append.mp hq with q | q
    · exact hS.2.2.2 _ q
    · rcases List.mem_singleton.mp q with rfl
      exact hb
theorem mv_bastore {a n : Nat} {i : Int32} {x : Int32} (hx : narrow .byte (.int x) = .int x) (hd : decode (mx_ca M.1) pc = .ok (.bastore, 1)) (hk : h.2.2.1 a = some (22, n)) (hi : vp_in i n) (kk : mx_V E d M (pc + 1) l st (mx_si h a i.toNatClampNeg x) P) : mx_V E d M pc l (.int x :: .int i :: .ref a :: st) h P := by
  intro p l0 e R s m args below meth c z H locs cells slots ls hX hS hl
  obtain ⟨hb, cell, h1, h2, h3, h4, h5⟩ := hS.1.arr hk (ty := .byte) rfl
  have hb : E.2.1 ≤ a := by
    rcases hb with hb | hb
    · cases hb
    · exact hb
  refine W.bast hX.1 hX.2.1 h1 (State.isArrayOf_alike hX.2.2.2.2.2.2.2.2.1.alike h2) h3 (by rw [h4]; exact hi) rfl rfl hd fun H' g1 g2 g3 => ?_
  rw [hx] at g1
  refine kk p l0 e R s m args below meth c z H' _ cells slots ls hX ⟨?_, hS.2.1, hS.2.2.1, fun q hq => ?_⟩ hl
  · refine hS.1.set hb g2 g3 rfl rfl rfl (fun b hb => mx_up2_o _ _ hb) (fun b hb => rfl) (fun b hb => rfl) (fun k' n' hk' => ?_) (fun c9 h9 => by cases g1.symm.trans h9; show cell.vm = .none; exact hS.1.vm hb h1)
    cases hk.symm.trans hk'
    refine Or.inr ⟨.byte, rfl, Or.inr hb, _, g1, h2, h3, by rw [k2_slotsz]; exact h4, fun j hj => ?_, fun q26 => absurd q26 (by decide)⟩
    rw [mx_slot h4 (mx_lt hi) (w := .int (h.2.2.2.1 a j)) (fun _ => h5 j hj)]
    simp only [mx_av, mx_si, mx_up2]
    by_cases q : j = i.toNatClampNeg
    · simp [q]
    · simp [q]
  · rcases List.mem_append.mp hq with q | q
    · exact hS.2.2.2 _ q
    · rcases List.mem_singleton.mp q with rfl
      exact hb
theorem mv_zastore {a n : Nat} {i : Int32} {x : Int32} (hx : narrow .boolean (.int x) = .int x) (hd : decode (mx_ca M.1) pc = .ok (.bastore, 1)) (hk : h.2.2.1 a = some (23, n)) (hi : vp_in i n) (kk : mx_V E d M (pc + 1) l st (mx_si h a i.toNatClampNeg x) P) : mx_V E d M pc l (.int x :: .int i :: .ref a :: st) h P := by
  intro p l0 e R s m args below meth c z H locs cells slots ls hX hS hl
  obtain ⟨hb, cell, h1, h2, h3, h4, h5⟩ := hS.1.arr hk (ty := .boolean) rfl
  have hb : E.2.1 ≤ a := by
    rcases hb with hb | hb
    · cases hb
    · exact hb
  refine W.zast hX.1 hX.2.1 h1 (State.isArrayOf_alike hX.2.2.2.2.2.2.2.2.1.alike h2) h3 (by rw [h4]; exact hi) rfl rfl hd fun H' g1 g2 g3 => ?_
  rw [hx] at g1
  refine kk p l0 e R s m args below meth c z H' _ cells slots ls hX ⟨?_, hS.2.1, hS.2.2.1, fun q hq => ?_⟩ hl
  · refine hS.1.set hb g2 g3 rfl rfl rfl (fun b hb => mx_up2_o _ _ hb) (fun b hb => rfl) (fun b hb => rfl) (fun k' n' hk' => ?_) (fun c9 h9 => by cases g1.symm.trans h9; show cell.vm = .none; exact hS.1.vm hb h1)
    cases hk.symm.trans hk'
    refine Or.inr ⟨.boolean, rfl, Or.inr hb, _, g1, h2, h3, by rw [k2_slotsz]; exact h4, fun j hj => ?_, fun q26 => absurd q26 (by decide)⟩
    rw [mx_slot h4 (mx_lt hi) (w := .int (h.2.2.2.1 a j)) (fun _ => h5 j hj)]
    simp only [mx_av, mx_si, mx_up2]
    by_cases q : j = i.toNatClampNeg
    · simp [q]
    · simp [q]
  · rcases List.mem_append.mp hq with q | q
    · exact hS.2.2.2 _ q
    · rcases List.mem_singleton.mp q with rfl
      exact hb
theorem mv_lastore {a n : Nat} {i : Int32} {x : Int64} (hd : decode (mx_ca M.1) pc = .ok (.lastore, 1)) (hk : h.2.2.1 a = some (24, n)) (hi : vp_in i n) (kk : mx_V E d M (pc + 1) l st (mx_sj h a i.toNatClampNeg x) P) : mx_V E d M pc l (.long x :: .int i :: .ref a :: st) h P := by
  intro p l0 e R s m args below meth c z H locs cells slots ls hX hS hl
  obtain ⟨hb, cell, h1, h2, h3, h4, h5⟩ := hS.1.arr hk (ty := .long) rfl
  have hb : E.2.1 ≤ a := by
    rcases hb with hb | hb
    · cases hb
    · exact hb
  refine W.last hX.1 hX.2.1 h1 (State.isArrayOf_alike hX.2.2.2.2.2.2.2.2.1.alike h2) h3 (by rw [h4]; exact hi) rfl rfl hd fun H' g1 g2 g3 => ?_
  refine kk p l0 e R s m args below meth c z H' _ cells slots ls hX ⟨?_, hS.2.1, hS.2.2.1, fun q hq => ?_⟩ hl
  · refine hS.1.set hb g2 g3 rfl rfl rfl (fun b hb => rfl) (fun b hb => rfl) (fun b hb => mx_up2_o _ _ hb) (fun k' n' hk' => ?_) (fun c9 h9 => by cases g1.symm.trans h9; show cell.vm = .none; exact hS.1.vm hb h1)
    cases hk.symm.trans hk'
    refine Or.inr ⟨.long, rfl, Or.inr hb, _, g1, h2, h3, by rw [k2_slotsz]; exact h4, fun j hj => ?_, fun q26 => absurd q26 (by decide)⟩
    rw [mx_slot h4 (mx_lt hi) (w := .long (h.2.2.2.2.2 a j)) (fun _ => h5 j hj)]
    simp only [mx_av, mx_sj, mx_up2]
    by_cases q : j = i.toNatClampNeg
    · simp [q]
    · simp [q]
  · rcases List.mem_append.mp hq with q | q
    · exact hS.2.2.2 _ q
    · rcases List.mem_singleton.mp q with rfl
      exact hb
theorem mv_arraylength {a k n : Nat} {ty : FieldType} (hd : decode (mx_ca M.1) pc = .ok (.arraylength, 1)) (hk : h.2.2.1 a = some (k, n)) (ht : mx_ty k = some ty) (kk : mx_V E d M (pc + 1) l (.int (nI n) :: st) h P) : mx_V E d M pc l (.ref a :: st) h P := by
  intro p l0 e R s m args below meth c z H locs cells slots ls hX hS hl
  obtain ⟨-, cell, h1, h2, h3, h4, h5⟩ := hS.1.arr hk ht
  exact W.alen hX.1 hX.2.1 h1 (State.isArrayOf_alike hX.2.2.2.2.2.2.2.2.1.alike h2) (n := nI n) (by rw [h4]; rfl) rfl rfl hd (kk p l0 e R s m args below meth c z H locs cells slots ls hX hS hl)
theorem mv_getfield (hG : mx_G E) {a ci k tag n idx : Nat} (hd : decode (mx_ca M.1) pc = .ok (.getfield idx, 3)) (hf : mx_fl M.2.1 idx = some (ci, k, tag)) (hk : h.2.2.1 a = some (ci, n)) (kk : mx_V E d M (pc + 3) l (mx_fv h ci a k :: st) h P) : mx_V E d M pc l (.ref a :: st) h P := by
  intro p l0 e R s m args below meth c z H locs cells slots ls hX hS hl
  obtain ⟨f1, -, r, f2, f3, f4⟩ := mx_fl_some hf
  have hlt : ci < 20 := by have := (List.getElem?_eq_some_iff.mp f2).1; simp at this; omega
  obtain ⟨r', g1, -, -, cell, q1, q2, q3, q4⟩ := hS.1.obj hk hlt
  cases f2.symm.trans g1
  have hW := hX.2.2.2.2.2.2.2.2.1
  have hts := mx_wd hG hW args
  obtain ⟨hSl, hfc, kC, hkC, hkind⟩ := u_Kn_moved hW.alike (hG.2.1 ci _ f2)
  obtain ⟨cf, kf, fi, f, hi, hsl⟩ := hSl k f4
  have hlink := hts _ (mx_g f1 rfl)
  rw [← f3] at hlink
  refine W.getf hX.1 hX.2.1 hX.2.2.1 hlink hi (u_facts hfc hkC (u_lays hts (mx_ing ci _ f2) f4) hi).1 q1 (by rw [q3]; exact fun h => by cases h) (v := mx_fv h ci a k) ?_ rfl rfl hd (kk p l0 e R s m args below meth c z H locs cells slots ls hX hS hl)
  rw [hsl]
  exact q4 k f4
theorem mx_apart (hG : mx_G E) {ci : Nat} {r : vw_C} (hr : mx_cl[ci]? = some r) : ∀ x y, x < r.2.2 → y < r.2.2 → x ≠ y → E.2.2.2.1 ci x ≠ E.2.2.2.1 ci y := by
  intro x y hx hy hne
  have hts := mx_wd hG (State.WarmedH.refl E.1) #[]
  obtain ⟨hS, -⟩ := hG.2.1 ci _ hr
  obtain ⟨_, _, _, fa, hia, ea⟩ := hS x hx
  obtain ⟨_, _, _, fb, hib, eb⟩ := hS y hy
  rw [← ea, ← eb]
  refine u_apart (u_lays hts (mx_ing ci _ hr) hx) (u_lays hts (mx_ing ci _ hr) hy) hia hib ?_
  rw [(State.fieldFound?_type hia (mx_ok ci r hr x hx)).1, (State.fieldFound?_type hib (mx_ok ci r hr y hy)).1]
  exact mx_nm ci r hr x hx y hy hne
/-- a field that isn't final, or is and this is a constructor of its class -/
theorem mv_putfield (hG : mx_G E) {a ci k tag n idx : Nat} {v : Value} {h' : mx_H} (hd : decode (mx_ca M.1) pc = .ok (.putfield idx, 3)) (hf : mx_fl M.2.1 idx = some (ci, k, tag)) (hk : h.2.2.1 a = some (ci, n)) (hfin : tag < 10 ∨ (M.2.2.2.2.2 = "<init>" ∧ (mx_T ci k).1 = M.2.1))
    (hn : narrow (mx_Y ci k) v = v) (hfit : fits (mx_Y ci k) v = true) (hnc : h'.1 = h.1) (hns : h'.2.1 = h.2.1) (hkd : h'.2.2.1 = h.2.2.1) (e1 : ∀ b, b ≠ a → h'.2.2.2.1 b = h.2.2.2.1 b) (e2 : ∀ b, b ≠ a → h'.2.2.2.2.1 b = h.2.2.2.2.1 b) (e3 : ∀ b, b ≠ a → h'.2.2.2.2.2 b = h.2.2.2.2.2 b)
    (hv : ∀ j, mx_fv h' ci a j = updV (mx_fv h ci a) k v j) (kk : mx_V E d M (pc + 3) l st h' P) : mx_V E d M pc l (v :: .ref a :: st) h P := by
  intro p l0 e R s m args below meth c z H locs cells slots ls hX hS hl
  obtain ⟨f1, ftg, r, f2, f3, f4⟩ := mx_fl_some hf
  have hlt : ci < 20 := by have := (List.getElem?_eq_some_iff.mp f2).1; simp at this; omega
  obtain ⟨r', g1, gn, gb, cell, q1, q2, q3, q4⟩ := hS.1.obj hk hlt
  cases f2.symm.trans g1
  have hW := hX.2.2.2.2.2.2.2.2.1
  have hts := mx_wd hG hW args
  obtain ⟨hSl, hfc, kC, hkC, hkind⟩ := u_Kn_moved hW.alike (hG.2.1 ci _ f2)
  obtain ⟨cf, kf, fi, f, hi, hsl⟩ := hSl k f4
  have hlink := hts _ (mx_g f1 rfl)
  rw [← f3] at hlink
  have hlay := hts _ (mx_ing ci _ f2 _ (u_in_lay f4))
  have hst := (u_facts hfc hkC (u_lays hts (mx_ing ci _ f2) f4) hi).1
  have hok := mx_ok ci r f2 k f4
  have fin : ∀ H' : Heap, H'[a]? = some (cell.setSlot f.slot v) → H'.size = H.size → (∀ q, q ≠ a → H'[q]? = H[q]?) → W p l0 e R s m args below meth c H' (locs ++ [⟨a, f.slot⟩]) cells slots (mx_Q E s below z P) (F0 m (pc + 3) ls st) := by
    intro H' w1 w2 w3
    refine kk p l0 e R s m args below meth c z H' _ cells slots ls hX ⟨?_, by rw [hnc]; exact hS.2.1, by rw [hns]; exact hS.2.2.1, fun q hq => ?_⟩ hl
    · refine hS.1.set gb w2 w3 hnc hns hkd e1 e2 e3 (fun k' n' hk' => ?_) (fun c9 h9 => by cases w1.symm.trans h9; show cell.vm = .none; exact q3)
      cases hk.symm.trans hk'
      refine Or.inl ⟨hlt, r, f2, gn, gb, t_OB.to (V := updV (mx_fv h ci a) k v) ⟨_, w1, q2, q3, ?_⟩ (fun j _ => (hv j).symm)⟩
      rw [hsl]
      exact t_set q4 (mx_apart hG f2) f4 v
    · rcases List.mem_append.mp hq with q | q
      · exact hS.2.2.2 _ q
      · rcases List.mem_singleton.mp q with rfl
        exact gb
  unfold u_lay at hlay
  cases hfl : (r.2.1 k).2.2.2 with
  | false =>
    rw [if_neg (by rw [hfl]; decide)] at hlay
    have h6 := u_store hfc hkC hkind hlay hi hok hn hfit
    exact W.putK hX.1 hX.2.1 (f := f) ⟨hX.2.2.1, hlink, ⟨_, _, _, hi⟩, hst⟩ (by rw [q2]; exact h6) q1 q3 (by rw [hsl]; exact k2_hasslot (q4 k f4)) rfl rfl hd fin
  | true =>
    rw [if_pos hfl] at hlay
    have hfin2 : M.2.2.2.2.2 = "<init>" ∧ (mx_T ci k).1 = M.2.1 := by
      rcases hfin with q | q
      · exfalso
        rw [f3] at hfl
        rw [hfl] at ftg
        have hz : tag / 10 = 0 := by omega
        unfold mx_tg at ftg
        split at ftg <;> simp [hz] at ftg
      · exact q
    have hcf : m.cls = cf := by
      obtain ⟨_, _, c', _, _, _, -, -, hf', -, -, -, hown2, -⟩ := Cond.laysFinal_spec hlay
      have e1 : c' = cf := by have := hi.symm.trans hf'; simp at this; exact this.1.symm
      rw [f3, hfin2.2] at hown2
      rw [← e1]; exact Option.some.inj (hX.2.2.1.symm.trans hown2)
    have h6 := u_fits hfc hkC hkind (Or.inr hlay) hi hok hn hfit
    exact W.putFinK hX.1 hX.2.1 hX.2.2.1 hlink hi hst hcf (by rw [hX.2.2.2.2.2.2.2.1]; exact hfin2.1) (by rw [q2]; exact h6) q1 q3 (by rw [hsl]; exact k2_hasslot (q4 k f4)) rfl rfl hd fin
end MA
