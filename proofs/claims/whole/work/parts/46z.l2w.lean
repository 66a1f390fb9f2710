theorem mz_l2w {e : mz_E} {d : Nat} {M : mx_M} {pc : Nat} {L : mz_L} {t : List mz_W} {H : mz_H} {P : mz_O → mz_H → Prop} {x : Int} (hd : decode (mx_ca M.1) pc = .ok (.l2i, 1)) (k : ∀ v, mz_in v → mz_V e d M (pc + 1) L (.inl v :: t) H P) : mz_V e d M pc L (.inr (.inr x) :: t) H P := by
  intro hs hH l hl
  have q0 := List.forall_mem_cons.mp hs
  refine mv_l2i hd ?_
  have hv : mz_in (Int64.ofInt x).toInt32.toInt := ⟨Int32.le_toInt _, Int32.toInt_lt _⟩
  have q := k (Int64.ofInt x).toInt32.toInt hv (List.forall_mem_cons.mpr ⟨hv, q0.2⟩) hH l hl
  have h3 : mz_up (.inl (Int64.ofInt x).toInt32.toInt) = .int (Int64.ofInt x).toInt32 := by
    show Value.int (Int32.ofInt (Int64.ofInt x).toInt32.toInt) = _
    rw [Int32.ofInt_toInt]
  rw [List.map_cons, h3] at q
  exact q
