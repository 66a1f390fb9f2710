/-! the methods' words -/
/-- a method's code, by its word's place; the law's own: 9999 -/
def mx_ca (n : Nat) : ByteArray := if n = 9999 then code else match lw_tbl[n]? with
  | some (.code _ c _ _) => c
  | some (.codeWith _ c _ _ _) => c
  | _ => code
abbrev mx_MR : Type := mx_M × MethodName × Nat × Nat × Nat × Nat × Nat × Nat × Nat
def mx_cw (e : mx_MR) : Cond := if e.2.2.2.2.2.2.2.2 = 0 then .code e.2.1 (mx_ca e.1.1) e.1.2.2.1 e.1.2.2.2.1 else .codeWith e.2.1 (mx_ca e.1.1) e.1.2.2.1 e.1.2.2.2.1 e.1.2.2.2.2.1
def mx_ck (e : mx_MR) : Bool := !(e.1.1 == 9999) && match lw_tbl[e.1.1]? with
  | some (.code y _ m r) => e.2.2.2.2.2.2.2.2 == 0 && decide (y = e.2.1) && m == e.1.2.2.1 && decide (r = e.1.2.2.2.1)
  | some (.codeWith y _ m r hh) => e.2.2.2.2.2.2.2.2 == 1 && decide (y = e.2.1) && m == e.1.2.2.1 && decide (r = e.1.2.2.2.1) && hh == e.1.2.2.2.2.1
  | _ => false
theorem mx_ck_w {e : mx_MR} (h : mx_ck e = true) : mx_cw e ∈ lw_tbl := by
  unfold mx_ck at h
  simp only [Bool.and_eq_true, Bool.not_eq_true', beq_eq_false_iff_ne] at h
  obtain ⟨h0, h⟩ := h
  have hm : ∀ w, lw_tbl[e.1.1]? = some w → w ∈ lw_tbl := fun w hw => List.mem_of_getElem? hw
  revert h hm
  cases hw : lw_tbl[e.1.1]? with
  | none => intro h; cases h
  | some w =>
    intro h hm
    have hca : mx_ca e.1.1 = match (some w : Option Cond) with
      | some (.code _ c _ _) => c
      | some (.codeWith _ c _ _ _) => c
      | _ => code := by
      unfold mx_ca
      rw [if_neg h0, hw]
      all_goals rfl
    cases w with
    | code y c m r =>
      simp only [Bool.and_eq_true, beq_iff_eq, decide_eq_true_eq] at h
      obtain ⟨⟨⟨h1, h2⟩, h3⟩, h4⟩ := h
      have := hm _ rfl
      unfold mx_cw
      rw [if_pos h1, hca, ← h2, ← h3, ← h4]
      exact this
    | codeWith y c m r hh =>
      simp only [Bool.and_eq_true, beq_iff_eq, decide_eq_true_eq] at h
      obtain ⟨⟨⟨⟨h1, h2⟩, h3⟩, h4⟩, h5⟩ := h
      have := hm _ rfl
      unfold mx_cw
      rw [if_neg (by omega), hca, ← h2, ← h3, ← h4, ← h5]
      exact this
    | _ => cases h
def mx_mk (e : mx_MR) : Prop :=
  mx_ck e = true ∧ lw_tbl[e.2.2.2.2.2.1]? = some (if e.2.2.2.1 = 0 then .static e.2.1 else .instanceMethod e.2.1) ∧
  (e.2.2.2.1 = 1 → lw_tbl[e.2.2.2.2.2.2.1]? = some (.selects e.2.1.cls e.2.1 e.2.1)) ∧ lw_tbl[e.2.2.2.2.2.2.2.1]? = some (.initialized e.2.1.cls)
def mx_mk2 (e : mx_MR) : Prop :=
  e.2.1.cls = e.1.2.1 ∧ e.2.1.name = e.1.2.2.2.2.2 ∧ (e.2.1.cls ≠ "java/lang/invoke/MethodHandle" ∧ e.2.1.cls ≠ "java/lang/invoke/VarHandle") ∧ plainFor e.2.1 = true ∧
  (parseMethodDescriptor e.2.1.desc).map (fun q => q.parameters.length) = some e.2.2.1 ∧ e.1.2.2.1 ≤ 30 ∧ (e.2.2.2.2.2.2.2.2 = 0 → e.1.2.2.2.2.1 = []) ∧ (e.2.2.2.1 = 2 → e.2.1.name = "<init>" ∧ e.1.2.2.2.1 = none ∧ e.2.2.2.2.2.2.2.2 = 0)
theorem mx_mt0_ok : ∀ e ∈ mx_mt0, mx_mk e := by unfold mx_mk; decide +kernel
theorem mx_mt0_ok2 : ∀ e ∈ mx_mt0, mx_mk2 e := by unfold mx_mk2; decide +kernel
theorem mx_mt1_ok : ∀ e ∈ mx_mt1, mx_mk e := by unfold mx_mk; decide +kernel
theorem mx_mt1_ok2 : ∀ e ∈ mx_mt1, mx_mk2 e := by unfold mx_mk2; decide +kernel
theorem mx_mt2_ok : ∀ e ∈ mx_mt2, mx_mk e := by unfold mx_mk; decide +kernel
theorem mx_mt2_ok2 : ∀ e ∈ mx_mt2, mx_mk2 e := by unfold mx_mk2; decide +kernel
theorem mx_mt3_ok : ∀ e ∈ mx_mt3, mx_mk e := by unfold mx_mk; decide +kernel
theorem mx_mt3_ok2 : ∀ e ∈ mx_mt3, mx_mk2 e := by unfold mx_mk2; decide +kernel
theorem mx_mt4_ok : ∀ e ∈ mx_mt4, mx_mk e := by unfold mx_mk; decide +kernel
theorem mx_mt4_ok2 : ∀ e ∈ mx_mt4, mx_mk2 e := by unfold mx_mk2; decide +kernel
theorem mx_mt5_ok : ∀ e ∈ mx_mt5, mx_mk e := by unfold mx_mk; decide +kernel
theorem mx_mt5_ok2 : ∀ e ∈ mx_mt5, mx_mk2 e := by unfold mx_mk2; decide +kernel
theorem mx_mt6_ok : ∀ e ∈ mx_mt6, mx_mk e := by unfold mx_mk; decide +kernel
theorem mx_mt6_ok2 : ∀ e ∈ mx_mt6, mx_mk2 e := by unfold mx_mk2; decide +kernel
theorem mx_mt_ok : ∀ e ∈ mx_mtT, mx_mk e ∧ mx_mk2 e := by
  intro e he
  unfold mx_mtT at he
  simp only [List.mem_append] at he
  rcases he with h | h | h | h | h | h | h
  · exact ⟨mx_mt0_ok e h, mx_mt0_ok2 e h⟩
  · exact ⟨mx_mt1_ok e h, mx_mt1_ok2 e h⟩
  · exact ⟨mx_mt2_ok e h, mx_mt2_ok2 e h⟩
  · exact ⟨mx_mt3_ok e h, mx_mt3_ok2 e h⟩
  · exact ⟨mx_mt4_ok e h, mx_mt4_ok2 e h⟩
  · exact ⟨mx_mt5_ok e h, mx_mt5_ok2 e h⟩
  · exact ⟨mx_mt6_ok e h, mx_mt6_ok2 e h⟩
theorem mx_slT_ok : ∀ e ∈ mx_slT, ((mx_mtT[e.2.2.1]?).map (fun r => lw_tbl[e.2.2.2]? = some (.methodLink e.1 e.2.1 r.2.1))).getD False := by
  have h : ∀ e ∈ mx_slT, ((mx_mtT[e.2.2.1]?).map (fun r => decide (lw_tbl[e.2.2.2]? = some (.methodLink e.1 e.2.1 r.2.1)))) = some true := by decide +kernel
  intro e he
  have h1 := h e he
  obtain ⟨r, h2, h3⟩ := Option.map_eq_some_iff.mp h1
  rw [h2]
  show lw_tbl[e.2.2.2]? = some (.methodLink e.1 e.2.1 r.2.1)
  exact of_decide_eq_true h3
