/- what the start gives -/
def aw : Cond → Bool
  | .methodLink .. => true
  | .code .. => true
  | .instanceMethod .. => true
  | .fieldLink .. => true
  | .soleField .. => true
  | .selects .. => true
  | .laysFinal .. => true
  | .privateMethod .. => true
  | .lays .. => true
  | .static .. => true
  | .classLink .. => true
  | .initialized .. => true
  | .codeWith .. => true
  | .instantiable .. => true
  | .superclass .. => true
  | .declares .. => true
  | .constant .. => true
  | .arrayClass .. => true
  | .laysStatic .. => true
  | .castable .. => true
  | .constantLong .. => true
  | .arrayOver .. => true
  | .native .. => true
  | .sameMethod .. => true
  | .fieldLinkNest .. => true
  | .codeSync .. => true
  | _ => false
theorem aw_b {w : Cond} (h : aw w = true) {a a' : Array Value} {s : State} (q : w.before a s = true) : w.before a' s = true := by
  cases w <;> first | exact q | (simpa only [Cond.before, Cond.holds, Cond.value] using q) | cases h
theorem aw_tbl : lw_tbl.all aw = true := by decide +kernel
theorem ins_tbl : mx_cl.all (fun q => decide (Cond.instantiable q.1 q.2.2 ∈ lw_tbl)) = true := by decide +kernel
def hi_v : Nat → Int32 := fun j => if j = 1 then 30 else if j = 2 then 12 else if j = 3 then 7 else if j = 4 then 5 else 0
theorem hi_h (n : Nat) (h1 : 1 ≤ n) (h2 : n ≤ 4) : (hi_v n).toInt = tb_h n := by
  obtain rfl | rfl | rfl | rfl : n = 1 ∨ n = 2 ∨ n = 3 ∨ n = 4 := by omega
  all_goals rfl
theorem len_5 {args : Array Value} {s : State} {tm : Term} {t : Nat} {cell : Cell} (ht : tm.eval args s none [] s = some (.ref t)) (hc : s.heap[t]? = some cell) (hlen : (Term.length tm).eval args s none [] s = some (.int 5)) : cell.slots.size = 5 := by
  obtain ⟨b, cell', ht', harr, -⟩ := Term.length_spec hlen
  cases ht.symm.trans ht'
  obtain ⟨hcell, -, -, -⟩ := State.arrayAt?_spec harr
  cases hc.symm.trans hcell
  simp only [Term.eval, ht, harr, Option.bind_eq_bind, Option.bind_some] at hlen
  by_cases hlt : cell.slots.size < 2147483648
  · simp [hlt] at hlen
    have h2 : (Int32.ofNat cell.slots.size).toNatClampNeg = cell.slots.size := Int32.toNatClampNeg_ofNat_of_lt hlt
    have h3 : Int32.ofNat cell.slots.size = 5 := hlen
    rw [h3] at h2
    exact h2.symm
  · simp [hlt] at hlen
theorem st_G {s : State} {b : Nat} (hts : ∀ w ∈ lw_tbl, w.before #[Value.ref b] s = true) (hgv : (Jvm.Cond.and given_1 narrow_1).before #[Value.ref b] s = true) : ∃ (E : mx_E) (cell : Cell), E.1 = s ∧ E.2.1 = s.heap.size ∧ mx_G E ∧ s.heap[E.2.2.2.2]? = some cell ∧ s.isArrayOf cell .int ∧ cell.vm ≠ .unknown ∧ cell.slots.size = 5 ∧ ∀ j, j < 5 → cell.slots[j]? = some (.int (hi_v j)) := by
  have hs := flat_of_before _ hgv
  have hA : ∀ a : Nat, a < s.heap.size → ¬ (fun q => s.heap.size ≤ q) a := fun a h q => Nat.lt_irrefl _ (Nat.lt_of_lt_of_le h q)
  have l5 : (Term.length (.static "IdealWorks" "HIGHEST" "[I")).eval #[Value.ref b] s none [] s = some (.int 5) := va_eqt (hs _ (by decide +kernel))
  have v0 : (Term.elem (.static "IdealWorks" "HIGHEST" "[I") (.int 0)).eval #[Value.ref b] s none [] s = some (.int 0) := va_eqt (hs _ (by decide +kernel))
  have v1 : (Term.elem (.static "IdealWorks" "HIGHEST" "[I") (.int 1)).eval #[Value.ref b] s none [] s = some (.int 30) := va_eqt (hs _ (by decide +kernel))
  have v2 : (Term.elem (.static "IdealWorks" "HIGHEST" "[I") (.int 2)).eval #[Value.ref b] s none [] s = some (.int 12) := va_eqt (hs _ (by decide +kernel))
  have v3 : (Term.elem (.static "IdealWorks" "HIGHEST" "[I") (.int 3)).eval #[Value.ref b] s none [] s = some (.int 7) := va_eqt (hs _ (by decide +kernel))
  have v4 : (Term.elem (.static "IdealWorks" "HIGHEST" "[I") (.int 4)).eval #[Value.ref b] s none [] s = some (.int 5) := va_eqt (hs _ (by decide +kernel))
  have hel : ∀ j : Nat, j < 5 → (Term.elem (.static "IdealWorks" "HIGHEST" "[I") (.int (Int32.ofNat j))).eval #[Value.ref b] s none [] s = some (.int (hi_v j)) := fun j hj => by
    obtain rfl | rfl | rfl | rfl | rfl : j = 0 ∨ j = 1 ∨ j = 2 ∨ j = 3 ∨ j = 4 := by omega
    · exact v0
    · exact v1
    · exact v2
    · exact v3
    · exact v4
  obtain ⟨t, ht, cell, c1, c2, c3, c4, c5, c6, c7⟩ := va_Tof (N := 5) (f := fun j => .int (hi_v j)) (tm := .static "IdealWorks" "HIGHEST" "[I") (ty := .int) (by decide) (hs _ (by decide +kernel)) l5 hel hA
  have hcl : ∀ c : Nat, ∃ p : ClassId × (Nat → Nat), ∀ q, mx_cl[c]? = some q → u_Kn s q.1 q.2.1 q.2.2 p.1 p.2 := fun c => by
    cases hq : mx_cl[c]? with
    | none => exact ⟨(default, id), fun q h => by cases h⟩
    | some q =>
      have hin := of_decide_eq_true (List.all_eq_true.mp ins_tbl q (List.mem_of_getElem? hq))
      obtain ⟨cC, iS, hk⟩ := u_known hts (mx_in c q hq) (hts _ hin)
      exact ⟨(cC, iS), fun q' h => by cases h; exact hk⟩
  refine ⟨(s, s.heap.size, (fun c => (Classical.choose (hcl c)).1), (fun c => (Classical.choose (hcl c)).2), t), cell, rfl, rfl, ⟨fun w hw a => aw_b (List.all_eq_true.mp aw_tbl w hw) (hts w hw), fun c q hq => Classical.choose_spec (hcl c) q hq, va_Zref (hts _ (by decide +kernel)) (hts _ (by decide +kernel)) ht hA, rfl, va_Zqof (hts _ (by decide +kernel)) (hts _ (by decide +kernel)) (hs _ (by decide +kernel)) hA, va_Zqof (hts _ (by decide +kernel)) (hts _ (by decide +kernel)) (hs _ (by decide +kernel)) hA, fun x y hx hy hxy => ?_⟩, c1, c2, c3, len_5 ht c1 l5, c6⟩
  have n01 : va_Nc "java/lang/IllegalArgumentException" "java/lang/IllegalStateException" s := va_Nc.of (hs _ (by decide +kernel))
  have n02 : va_Nc "java/lang/IllegalArgumentException" "java/lang/IndexOutOfBoundsException" s := va_Nc.of (hs _ (by decide +kernel))
  have n10 : va_Nc "java/lang/IllegalStateException" "java/lang/IllegalArgumentException" s := va_Nc.of (hs _ (by decide +kernel))
  have n12 : va_Nc "java/lang/IllegalStateException" "java/lang/IndexOutOfBoundsException" s := va_Nc.of (hs _ (by decide +kernel))
  have n20 : va_Nc "java/lang/IndexOutOfBoundsException" "java/lang/IllegalArgumentException" s := va_Nc.of (hs _ (by decide +kernel))
  have n21 : va_Nc "java/lang/IndexOutOfBoundsException" "java/lang/IllegalStateException" s := va_Nc.of (hs _ (by decide +kernel))
  obtain ⟨rfl, rfl⟩ | ⟨rfl, rfl⟩ | ⟨rfl, rfl⟩ | ⟨rfl, rfl⟩ | ⟨rfl, rfl⟩ | ⟨rfl, rfl⟩ : (x = 0 ∧ y = 1) ∨ (x = 0 ∧ y = 2) ∨ (x = 1 ∧ y = 0) ∨ (x = 1 ∧ y = 2) ∨ (x = 2 ∧ y = 0) ∨ (x = 2 ∧ y = 1) := by omega
  · exact n01
  · exact n02
  · exact n10
  · exact n12
  · exact n20
  · exact n21
