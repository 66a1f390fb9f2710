theorem mz_iw {e : mz_E} {d : Nat} {M : mx_M} {pc : Nat} {L : mz_L} {st : List mz_W} {H : mz_H} {P : mz_O → mz_H → Prop} {i : Nat} {n x : Int} (hd : decode (mx_ca M.1) pc = .ok (.iinc i n, 3)) (hi : i < M.2.2.1) (hx : mz_g L i = some (.inl x))
    (k : mz_V e d M (pc + 3) (mz_st L i (.inl (Int32.ofInt x + Int32.ofInt n).toInt)) st H P) : mz_V e d M pc L st H P := by
  intro hs hH l hl
  have h1 := hl i (.inl x) hx
  refine mv_iinc hd hi (x := Int32.ofInt x) h1.1 ?_
  refine k hs hH _ ?_
  have h2 := hl.st i (w := .inl (Int32.ofInt x + Int32.ofInt n).toInt) (show mz_in _ from ⟨Int32.le_toInt _, Int32.toInt_lt _⟩)
  have h3 : mz_up (.inl (Int32.ofInt x + Int32.ofInt n).toInt) = .int (Int32.ofInt x + Int32.ofInt n) := by
    show Value.int (Int32.ofInt (Int32.ofInt x + Int32.ofInt n).toInt) = _
    rw [Int32.ofInt_toInt]
  rw [h3] at h2
  exact h2
theorem mz_iw_1 {x : Int} (hx : mz_in x) : (Int32.ofInt x + Int32.ofInt (-1)).toInt = if x = -2147483648 then 2147483647 else x - 1 := by
  rw [Int32.toInt_add, mz_in_t hx, mz_in_t (show mz_in (-1) by unfold mz_in; omega)]
  unfold mz_in at hx
  by_cases h : x = -2147483648
  · rw [if_pos h, h]; decide
  · rw [if_neg h, Int.bmod_eq_of_le (by omega) (by omega)]; omega
