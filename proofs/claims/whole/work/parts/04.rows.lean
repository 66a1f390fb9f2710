/-! one row an instruction that touches locals and stack alone (printed by wip/whole/rows.py) -/
section MV
variable {E : mx_E} {d : Nat} {M : mx_M} {pc : Nat} {l : mx_L} {st : List Value} {h : mx_H} {P : mx_O → mx_H → Prop}
theorem mv_iconst {n : Int} (hd : decode (mx_ca M.1) pc = .ok (.iconst n, 1)) (k : mx_V E d M (pc + 1) l (.int (Int32.ofInt n) :: st) h P) : mx_V E d M pc l (st) h P :=
  fun p l0 e R s m args below meth c z H locs cells slots ls hX hS hl => lv_iconst hX.1 hX.2.1 hd rfl (k p l0 e R s m args below meth c z H locs cells slots ls hX hS hl)
theorem mv_bipush {n : Int} (hd : decode (mx_ca M.1) pc = .ok (.bipush n, 2)) (k : mx_V E d M (pc + 2) l (.int (Int8.ofInt n).toInt32 :: st) h P) : mx_V E d M pc l (st) h P :=
  fun p l0 e R s m args below meth c z H locs cells slots ls hX hS hl => lv_bipush hX.1 hX.2.1 hd rfl (k p l0 e R s m args below meth c z H locs cells slots ls hX hS hl)
theorem mv_sipush {n : Int} (hd : decode (mx_ca M.1) pc = .ok (.sipush n, 3)) (k : mx_V E d M (pc + 3) l (.int (Int16.ofInt n).toInt32 :: st) h P) : mx_V E d M pc l (st) h P :=
  fun p l0 e R s m args below meth c z H locs cells slots ls hX hS hl => lv_sipush hX.1 hX.2.1 hd rfl (k p l0 e R s m args below meth c z H locs cells slots ls hX hS hl)
theorem mv_lconst {n : Fin 2} (hd : decode (mx_ca M.1) pc = .ok (.lconst n, 1)) (k : mx_V E d M (pc + 1) l (.long (Int64.ofNat (n : Nat)) :: st) h P) : mx_V E d M pc l (st) h P :=
  fun p l0 e R s m args below meth c z H locs cells slots ls hX hS hl => lv_lconst hX.1 hX.2.1 hd rfl (k p l0 e R s m args below meth c z H locs cells slots ls hX hS hl)
theorem mv_iload {i : Nat} {x : Int32} (hd : decode (mx_ca M.1) pc = .ok (.iload i, 2)) (hi : l i = some (.int x)) (k : mx_V E d M (pc + 2) l (.int x :: st) h P) : mx_V E d M pc l st h P :=
  fun p l0 e R s m args below meth c z H locs cells slots ls hX hS hl => lv_iload hX.1 hX.2.1 hd (hl.2.2 _ _ hi) (k p l0 e R s m args below meth c z H locs cells slots ls hX hS hl)
theorem mv_iload_n {i : Fin 4} {x : Int32} (hd : decode (mx_ca M.1) pc = .ok (.iload_n i, 1)) (hi : l i = some (.int x)) (k : mx_V E d M (pc + 1) l (.int x :: st) h P) : mx_V E d M pc l st h P :=
  fun p l0 e R s m args below meth c z H locs cells slots ls hX hS hl => lv_iload_n hX.1 hX.2.1 hd rfl (hl.2.2 _ _ hi) (k p l0 e R s m args below meth c z H locs cells slots ls hX hS hl)
theorem mv_lload {i : Nat} {x : Int64} (hd : decode (mx_ca M.1) pc = .ok (.lload i, 2)) (hi : l i = some (.long x)) (k : mx_V E d M (pc + 2) l (.long x :: st) h P) : mx_V E d M pc l st h P :=
  fun p l0 e R s m args below meth c z H locs cells slots ls hX hS hl => lv_lload hX.1 hX.2.1 hd (hl.2.2 _ _ hi) (k p l0 e R s m args below meth c z H locs cells slots ls hX hS hl)
theorem mv_lload_n {i : Fin 4} {x : Int64} (hd : decode (mx_ca M.1) pc = .ok (.lload_n i, 1)) (hi : l i = some (.long x)) (k : mx_V E d M (pc + 1) l (.long x :: st) h P) : mx_V E d M pc l st h P :=
  fun p l0 e R s m args below meth c z H locs cells slots ls hX hS hl => lv_lload_n hX.1 hX.2.1 hd rfl (hl.2.2 _ _ hi) (k p l0 e R s m args below meth c z H locs cells slots ls hX hS hl)
theorem mv_aload {i : Nat} {x : Nat} (hd : decode (mx_ca M.1) pc = .ok (.aload i, 2)) (hi : l i = some (.ref x)) (k : mx_V E d M (pc + 2) l (.ref x :: st) h P) : mx_V E d M pc l st h P :=
  fun p l0 e R s m args below meth c z H locs cells slots ls hX hS hl => lv_aload hX.1 hX.2.1 hd (hl.2.2 _ _ hi) (k p l0 e R s m args below meth c z H locs cells slots ls hX hS hl)
theorem mv_aload_n {i : Fin 4} {x : Nat} (hd : decode (mx_ca M.1) pc = .ok (.aload_n i, 1)) (hi : l i = some (.ref x)) (k : mx_V E d M (pc + 1) l (.ref x :: st) h P) : mx_V E d M pc l st h P :=
  fun p l0 e R s m args below meth c z H locs cells slots ls hX hS hl => lv_aload_n hX.1 hX.2.1 hd rfl (hl.2.2 _ _ hi) (k p l0 e R s m args below meth c z H locs cells slots ls hX hS hl)
theorem mv_istore {i : Nat} {x : Int32} (hd : decode (mx_ca M.1) pc = .ok (.istore i, 2)) (hi : (i : Nat) < M.2.2.1) (k : mx_V E d M (pc + 2) (mx_st1 l i (.int x)) st h P) : mx_V E d M pc l (.int x :: st) h P := by
  intro p l0 e R s m args below meth c z H locs cells slots ls hX hS hl T hT X
  obtain ⟨ls', e', h'⟩ := hl.st1 (v := .int x) hi rfl
  obtain ⟨t, a, b⟩ := k p l0 e R s m args below meth c z H locs cells slots ls' hX hS h' T hT X
  refine ⟨t, ?_, b⟩
  jvm_step X.here [X.here.top, ↓top_set X.here.top, hX.1, hX.2.1, hd, e', Value.isRef]
  exact a
theorem mv_istore_n {i : Fin 4} {x : Int32} (hd : decode (mx_ca M.1) pc = .ok (.istore_n i, 1)) (hi : (i : Nat) < M.2.2.1) (k : mx_V E d M (pc + 1) (mx_st1 l i (.int x)) st h P) : mx_V E d M pc l (.int x :: st) h P := by
  intro p l0 e R s m args below meth c z H locs cells slots ls hX hS hl T hT X
  obtain ⟨ls', e', h'⟩ := hl.st1 (v := .int x) hi rfl
  obtain ⟨t, a, b⟩ := k p l0 e R s m args below meth c z H locs cells slots ls' hX hS h' T hT X
  refine ⟨t, ?_, b⟩
  jvm_step X.here [X.here.top, ↓top_set X.here.top, hX.1, hX.2.1, hd, e', Value.isRef]
  exact a
theorem mv_astore {i : Nat} {x : Nat} (hd : decode (mx_ca M.1) pc = .ok (.astore i, 2)) (hi : (i : Nat) < M.2.2.1) (k : mx_V E d M (pc + 2) (mx_st1 l i (.ref x)) st h P) : mx_V E d M pc l (.ref x :: st) h P := by
  intro p l0 e R s m args below meth c z H locs cells slots ls hX hS hl T hT X
  obtain ⟨ls', e', h'⟩ := hl.st1 (v := .ref x) hi rfl
  obtain ⟨t, a, b⟩ := k p l0 e R s m args below meth c z H locs cells slots ls' hX hS h' T hT X
  refine ⟨t, ?_, b⟩
  jvm_step X.here [X.here.top, ↓top_set X.here.top, hX.1, hX.2.1, hd, e', Value.isRef]
  exact a
theorem mv_astore_n {i : Fin 4} {x : Nat} (hd : decode (mx_ca M.1) pc = .ok (.astore_n i, 1)) (hi : (i : Nat) < M.2.2.1) (k : mx_V E d M (pc + 1) (mx_st1 l i (.ref x)) st h P) : mx_V E d M pc l (.ref x :: st) h P := by
  intro p l0 e R s m args below meth c z H locs cells slots ls hX hS hl T hT X
  obtain ⟨ls', e', h'⟩ := hl.st1 (v := .ref x) hi rfl
  obtain ⟨t, a, b⟩ := k p l0 e R s m args below meth c z H locs cells slots ls' hX hS h' T hT X
  refine ⟨t, ?_, b⟩
  jvm_step X.here [X.here.top, ↓top_set X.here.top, hX.1, hX.2.1, hd, e', Value.isRef]
  exact a
theorem mv_lstore {i : Nat} {x : Int64} (hd : decode (mx_ca M.1) pc = .ok (.lstore i, 2)) (hi : (i : Nat) + 1 < M.2.2.1) (k : mx_V E d M (pc + 2) (mx_st2 l i (.long x)) st h P) : mx_V E d M pc l (.long x :: st) h P := by
  intro p l0 e R s m args below meth c z H locs cells slots ls hX hS hl T hT X
  obtain ⟨ls', e', h'⟩ := hl.st2 (v := .long x) hi rfl
  obtain ⟨t, a, b⟩ := k p l0 e R s m args below meth c z H locs cells slots ls' hX hS h' T hT X
  refine ⟨t, ?_, b⟩
  jvm_step X.here [X.here.top, ↓top_set X.here.top, hX.1, hX.2.1, hd, e']
  exact a
theorem mv_lstore_n {i : Fin 4} {x : Int64} (hd : decode (mx_ca M.1) pc = .ok (.lstore_n i, 1)) (hi : (i : Nat) + 1 < M.2.2.1) (k : mx_V E d M (pc + 1) (mx_st2 l i (.long x)) st h P) : mx_V E d M pc l (.long x :: st) h P := by
  intro p l0 e R s m args below meth c z H locs cells slots ls hX hS hl T hT X
  obtain ⟨ls', e', h'⟩ := hl.st2 (v := .long x) hi rfl
  obtain ⟨t, a, b⟩ := k p l0 e R s m args below meth c z H locs cells slots ls' hX hS h' T hT X
  refine ⟨t, ?_, b⟩
  jvm_step X.here [X.here.top, ↓top_set X.here.top, hX.1, hX.2.1, hd, e']
  exact a
theorem mv_iinc {i : Nat} {n : Int} {x : Int32} (hd : decode (mx_ca M.1) pc = .ok (.iinc i n, 3)) (hi : i < M.2.2.1) (hx : l i = some (.int x)) (k : mx_V E d M (pc + 3) (mx_st1 l i (.int (x + Int32.ofInt n))) st h P) : mx_V E d M pc l st h P := by
  intro p l0 e R s m args below meth c z H locs cells slots ls hX hS hl T hT X
  have hg := hl.2.2 _ _ hx
  obtain ⟨ls', e', h'⟩ := hl.st1 (v := .int (x + Int32.ofInt n)) hi rfl
  obtain ⟨t, a, b⟩ := k p l0 e R s m args below meth c z H locs cells slots ls' hX hS h' T hT X
  refine ⟨t, ?_, b⟩
  jvm_step X.here [X.here.top, ↓top_set X.here.top, hX.1, hX.2.1, hd, hg, e']
  exact a
theorem mv_iadd {x y : Int32} (hd : decode (mx_ca M.1) pc = .ok (.iadd, 1)) (k : mx_V E d M (pc + 1) l (.int (x + y) :: st) h P) : mx_V E d M pc l (.int y :: .int x :: st) h P :=
  fun p l0 e R s m args below meth c z H locs cells slots ls hX hS hl => lv_iadd hX.1 hX.2.1 hd (k p l0 e R s m args below meth c z H locs cells slots ls hX hS hl)
theorem mv_isub {x y : Int32} (hd : decode (mx_ca M.1) pc = .ok (.isub, 1)) (k : mx_V E d M (pc + 1) l (.int (x - y) :: st) h P) : mx_V E d M pc l (.int y :: .int x :: st) h P :=
  fun p l0 e R s m args below meth c z H locs cells slots ls hX hS hl => lv_isub hX.1 hX.2.1 hd (k p l0 e R s m args below meth c z H locs cells slots ls hX hS hl)
theorem mv_imul {x y : Int32} (hd : decode (mx_ca M.1) pc = .ok (.imul, 1)) (k : mx_V E d M (pc + 1) l (.int (x * y) :: st) h P) : mx_V E d M pc l (.int y :: .int x :: st) h P :=
  fun p l0 e R s m args below meth c z H locs cells slots ls hX hS hl => lv_imul hX.1 hX.2.1 hd (k p l0 e R s m args below meth c z H locs cells slots ls hX hS hl)
theorem mv_iand {x y : Int32} (hd : decode (mx_ca M.1) pc = .ok (.iand, 1)) (k : mx_V E d M (pc + 1) l (.int (x &&& y) :: st) h P) : mx_V E d M pc l (.int y :: .int x :: st) h P :=
  fun p l0 e R s m args below meth c z H locs cells slots ls hX hS hl => lv_iand hX.1 hX.2.1 hd (k p l0 e R s m args below meth c z H locs cells slots ls hX hS hl)
theorem mv_ior {x y : Int32} (hd : decode (mx_ca M.1) pc = .ok (.ior, 1)) (k : mx_V E d M (pc + 1) l (.int (x ||| y) :: st) h P) : mx_V E d M pc l (.int y :: .int x :: st) h P :=
  fun p l0 e R s m args below meth c z H locs cells slots ls hX hS hl => lv_ior hX.1 hX.2.1 hd (k p l0 e R s m args below meth c z H locs cells slots ls hX hS hl)
theorem mv_ixor {x y : Int32} (hd : decode (mx_ca M.1) pc = .ok (.ixor, 1)) (k : mx_V E d M (pc + 1) l (.int (x ^^^ y) :: st) h P) : mx_V E d M pc l (.int y :: .int x :: st) h P :=
  fun p l0 e R s m args below meth c z H locs cells slots ls hX hS hl => lv_ixor hX.1 hX.2.1 hd (k p l0 e R s m args below meth c z H locs cells slots ls hX hS hl)
theorem mv_ishl {x y : Int32} (hd : decode (mx_ca M.1) pc = .ok (.ishl, 1)) (k : mx_V E d M (pc + 1) l (.int (x <<< (y &&& 31)) :: st) h P) : mx_V E d M pc l (.int y :: .int x :: st) h P :=
  fun p l0 e R s m args below meth c z H locs cells slots ls hX hS hl => lv_ishl hX.1 hX.2.1 hd (k p l0 e R s m args below meth c z H locs cells slots ls hX hS hl)
theorem mv_ishr {x y : Int32} (hd : decode (mx_ca M.1) pc = .ok (.ishr, 1)) (k : mx_V E d M (pc + 1) l (.int (x >>> (y &&& 31)) :: st) h P) : mx_V E d M pc l (.int y :: .int x :: st) h P :=
  fun p l0 e R s m args below meth c z H locs cells slots ls hX hS hl => lv_ishr hX.1 hX.2.1 hd (k p l0 e R s m args below meth c z H locs cells slots ls hX hS hl)
theorem mv_iushr {x y : Int32} (hd : decode (mx_ca M.1) pc = .ok (.iushr, 1)) (k : mx_V E d M (pc + 1) l (.int (x.toUInt32 >>> (y.toUInt32 &&& Int32.toUInt32 31)).toInt32 :: st) h P) : mx_V E d M pc l (.int y :: .int x :: st) h P :=
  fun p l0 e R s m args below meth c z H locs cells slots ls hX hS hl => lv_iushr hX.1 hX.2.1 hd rfl (k p l0 e R s m args below meth c z H locs cells slots ls hX hS hl)
theorem mv_idiv {x y : Int32} (hy : ¬ y = 0) (hd : decode (mx_ca M.1) pc = .ok (.idiv, 1)) (k : mx_V E d M (pc + 1) l (.int (x / y) :: st) h P) : mx_V E d M pc l (.int y :: .int x :: st) h P :=
  fun p l0 e R s m args below meth c z H locs cells slots ls hX hS hl => lv_idiv hX.1 hX.2.1 hd hy (k p l0 e R s m args below meth c z H locs cells slots ls hX hS hl)
theorem mv_irem {x y : Int32} (hy : ¬ y = 0) (hd : decode (mx_ca M.1) pc = .ok (.irem, 1)) (k : mx_V E d M (pc + 1) l (.int (x - x / y * y) :: st) h P) : mx_V E d M pc l (.int y :: .int x :: st) h P :=
  fun p l0 e R s m args below meth c z H locs cells slots ls hX hS hl => lv_irem hX.1 hX.2.1 hd hy (k p l0 e R s m args below meth c z H locs cells slots ls hX hS hl)
theorem mv_ineg {x : Int32} (hd : decode (mx_ca M.1) pc = .ok (.ineg, 1)) (k : mx_V E d M (pc + 1) l (.int (-x) :: st) h P) : mx_V E d M pc l (.int x :: st) h P :=
  fun p l0 e R s m args below meth c z H locs cells slots ls hX hS hl => lv_ineg hX.1 hX.2.1 hd (k p l0 e R s m args below meth c z H locs cells slots ls hX hS hl)
theorem mv_ladd {x y : Int64} (hd : decode (mx_ca M.1) pc = .ok (.ladd, 1)) (k : mx_V E d M (pc + 1) l (.long (x + y) :: st) h P) : mx_V E d M pc l (.long y :: .long x :: st) h P :=
  fun p l0 e R s m args below meth c z H locs cells slots ls hX hS hl => lv_ladd hX.1 hX.2.1 hd (k p l0 e R s m args below meth c z H locs cells slots ls hX hS hl)
theorem mv_lsub {x y : Int64} (hd : decode (mx_ca M.1) pc = .ok (.lsub, 1)) (k : mx_V E d M (pc + 1) l (.long (x - y) :: st) h P) : mx_V E d M pc l (.long y :: .long x :: st) h P :=
  fun p l0 e R s m args below meth c z H locs cells slots ls hX hS hl => lv_lsub hX.1 hX.2.1 hd (k p l0 e R s m args below meth c z H locs cells slots ls hX hS hl)
theorem mv_lmul {x y : Int64} (hd : decode (mx_ca M.1) pc = .ok (.lmul, 1)) (k : mx_V E d M (pc + 1) l (.long (x * y) :: st) h P) : mx_V E d M pc l (.long y :: .long x :: st) h P :=
  fun p l0 e R s m args below meth c z H locs cells slots ls hX hS hl => lv_lmul hX.1 hX.2.1 hd (k p l0 e R s m args below meth c z H locs cells slots ls hX hS hl)
theorem mv_lrem {x y : Int64} (hy : ¬ y = 0) (hd : decode (mx_ca M.1) pc = .ok (.lrem, 1)) (k : mx_V E d M (pc + 1) l (.long (x - x / y * y) :: st) h P) : mx_V E d M pc l (.long y :: .long x :: st) h P :=
  fun p l0 e R s m args below meth c z H locs cells slots ls hX hS hl => lv_lrem hX.1 hX.2.1 hd hy (k p l0 e R s m args below meth c z H locs cells slots ls hX hS hl)
theorem mv_lcmp {x y : Int64} (hd : decode (mx_ca M.1) pc = .ok (.lcmp, 1)) (k : mx_V E d M (pc + 1) l (.int (lg_cmp x y) :: st) h P) : mx_V E d M pc l (.long y :: .long x :: st) h P :=
  fun p l0 e R s m args below meth c z H locs cells slots ls hX hS hl => W.lcmp hX.1 hX.2.1 hd (k p l0 e R s m args below meth c z H locs cells slots ls hX hS hl)
theorem mv_i2l {x : Int32} (hd : decode (mx_ca M.1) pc = .ok (.i2l, 1)) (k : mx_V E d M (pc + 1) l (.long x.toInt64 :: st) h P) : mx_V E d M pc l (.int x :: st) h P :=
  fun p l0 e R s m args below meth c z H locs cells slots ls hX hS hl => lv_i2l hX.1 hX.2.1 hd rfl (k p l0 e R s m args below meth c z H locs cells slots ls hX hS hl)
theorem mv_l2i {x : Int64} (hd : decode (mx_ca M.1) pc = .ok (.l2i, 1)) (k : mx_V E d M (pc + 1) l (.int x.toInt32 :: st) h P) : mx_V E d M pc l (.long x :: st) h P :=
  fun p l0 e R s m args below meth c z H locs cells slots ls hX hS hl => lv_l2i hX.1 hX.2.1 hd rfl (k p l0 e R s m args below meth c z H locs cells slots ls hX hS hl)
theorem mv_i2b {x : Int32} (hd : decode (mx_ca M.1) pc = .ok (.i2b, 1)) (k : mx_V E d M (pc + 1) l (.int x.toInt8.toInt32 :: st) h P) : mx_V E d M pc l (.int x :: st) h P :=
  fun p l0 e R s m args below meth c z H locs cells slots ls hX hS hl => lv_i2b hX.1 hX.2.1 hd rfl (k p l0 e R s m args below meth c z H locs cells slots ls hX hS hl)
theorem mv_dup {v : Value} (hv : v.category = 1) (hd : decode (mx_ca M.1) pc = .ok (.dup, 1)) (k : mx_V E d M (pc + 1) l (v :: v :: st) h P) : mx_V E d M pc l (v :: st) h P :=
  fun p l0 e R s m args below meth c z H locs cells slots ls hX hS hl => lv_dup hX.1 hX.2.1 hd hv (k p l0 e R s m args below meth c z H locs cells slots ls hX hS hl)
theorem mv_pop {v : Value} (hv : v.category = 1) (hd : decode (mx_ca M.1) pc = .ok (.pop, 1)) (k : mx_V E d M (pc + 1) l (st) h P) : mx_V E d M pc l (v :: st) h P :=
  fun p l0 e R s m args below meth c z H locs cells slots ls hX hS hl => lv_pop hX.1 hX.2.1 hd hv (k p l0 e R s m args below meth c z H locs cells slots ls hX hS hl)
theorem mv_dup2 {v w : Value} (hv : v.category = 1) (hw : w.category = 1) (hd : decode (mx_ca M.1) pc = .ok (.dup2, 1)) (k : mx_V E d M (pc + 1) l (v :: w :: v :: w :: st) h P) : mx_V E d M pc l (v :: w :: st) h P :=
  fun p l0 e R s m args below meth c z H locs cells slots ls hX hS hl => lv_dup2_11 hX.1 hX.2.1 hd hv hw (k p l0 e R s m args below meth c z H locs cells slots ls hX hS hl)
theorem mv_if_eq {x : Int32} {off : Int} {tgt : Nat} (hd : decode (mx_ca M.1) pc = .ok (.ifCond .eq off, 3)) (ht : (pc : Int) + off = (tgt : Int)) (kt : x = 0 → mx_V E d M tgt l st h P) (kf : ¬ x = 0 → mx_V E d M (pc + 3) l st h P) : mx_V E d M pc l (.int x :: st) h P :=
  fun p l0 e R s m args below meth c z H locs cells slots ls hX hS hl => lv_if_eq hX.1 hX.2.1 hd ht (fun q => kt q p l0 e R s m args below meth c z H locs cells slots ls hX hS hl) (fun q => kf q p l0 e R s m args below meth c z H locs cells slots ls hX hS hl)
theorem mv_icmp_eq {x y : Int32} {off : Int} {tgt : Nat} (hd : decode (mx_ca M.1) pc = .ok (.if_icmp .eq off, 3)) (ht : (pc : Int) + off = (tgt : Int)) (kt : x = y → mx_V E d M tgt l st h P) (kf : ¬ x = y → mx_V E d M (pc + 3) l st h P) : mx_V E d M pc l (.int y :: .int x :: st) h P :=
  fun p l0 e R s m args below meth c z H locs cells slots ls hX hS hl => lv_icmp_eq hX.1 hX.2.1 hd ht (fun q => kt q p l0 e R s m args below meth c z H locs cells slots ls hX hS hl) (fun q => kf q p l0 e R s m args below meth c z H locs cells slots ls hX hS hl)
theorem mv_if_ne {x : Int32} {off : Int} {tgt : Nat} (hd : decode (mx_ca M.1) pc = .ok (.ifCond .ne off, 3)) (ht : (pc : Int) + off = (tgt : Int)) (kt : ¬ x = 0 → mx_V E d M tgt l st h P) (kf : x = 0 → mx_V E d M (pc + 3) l st h P) : mx_V E d M pc l (.int x :: st) h P :=
  fun p l0 e R s m args below meth c z H locs cells slots ls hX hS hl => lv_if_ne hX.1 hX.2.1 hd ht (fun q => kt q p l0 e R s m args below meth c z H locs cells slots ls hX hS hl) (fun q => kf q p l0 e R s m args below meth c z H locs cells slots ls hX hS hl)
theorem mv_icmp_ne {x y : Int32} {off : Int} {tgt : Nat} (hd : decode (mx_ca M.1) pc = .ok (.if_icmp .ne off, 3)) (ht : (pc : Int) + off = (tgt : Int)) (kt : ¬ x = y → mx_V E d M tgt l st h P) (kf : x = y → mx_V E d M (pc + 3) l st h P) : mx_V E d M pc l (.int y :: .int x :: st) h P :=
  fun p l0 e R s m args below meth c z H locs cells slots ls hX hS hl => lv_icmp_ne hX.1 hX.2.1 hd ht (fun q => kt q p l0 e R s m args below meth c z H locs cells slots ls hX hS hl) (fun q => kf q p l0 e R s m args below meth c z H locs cells slots ls hX hS hl)
theorem mv_if_lt {x : Int32} {off : Int} {tgt : Nat} (hd : decode (mx_ca M.1) pc = .ok (.ifCond .lt off, 3)) (ht : (pc : Int) + off = (tgt : Int)) (kt : x < 0 → mx_V E d M tgt l st h P) (kf : ¬ x < 0 → mx_V E d M (pc + 3) l st h P) : mx_V E d M pc l (.int x :: st) h P :=
  fun p l0 e R s m args below meth c z H locs cells slots ls hX hS hl => lv_if_lt hX.1 hX.2.1 hd ht (fun q => kt q p l0 e R s m args below meth c z H locs cells slots ls hX hS hl) (fun q => kf q p l0 e R s m args below meth c z H locs cells slots ls hX hS hl)
theorem mv_icmp_lt {x y : Int32} {off : Int} {tgt : Nat} (hd : decode (mx_ca M.1) pc = .ok (.if_icmp .lt off, 3)) (ht : (pc : Int) + off = (tgt : Int)) (kt : x < y → mx_V E d M tgt l st h P) (kf : ¬ x < y → mx_V E d M (pc + 3) l st h P) : mx_V E d M pc l (.int y :: .int x :: st) h P :=
  fun p l0 e R s m args below meth c z H locs cells slots ls hX hS hl => lv_icmp_lt hX.1 hX.2.1 hd ht (fun q => kt q p l0 e R s m args below meth c z H locs cells slots ls hX hS hl) (fun q => kf q p l0 e R s m args below meth c z H locs cells slots ls hX hS hl)
theorem mv_if_ge {x : Int32} {off : Int} {tgt : Nat} (hd : decode (mx_ca M.1) pc = .ok (.ifCond .ge off, 3)) (ht : (pc : Int) + off = (tgt : Int)) (kt : 0 ≤ x → mx_V E d M tgt l st h P) (kf : ¬ 0 ≤ x → mx_V E d M (pc + 3) l st h P) : mx_V E d M pc l (.int x :: st) h P :=
  fun p l0 e R s m args below meth c z H locs cells slots ls hX hS hl => lv_if_ge hX.1 hX.2.1 hd ht (fun q => kt q p l0 e R s m args below meth c z H locs cells slots ls hX hS hl) (fun q => kf q p l0 e R s m args below meth c z H locs cells slots ls hX hS hl)
theorem mv_icmp_ge {x y : Int32} {off : Int} {tgt : Nat} (hd : decode (mx_ca M.1) pc = .ok (.if_icmp .ge off, 3)) (ht : (pc : Int) + off = (tgt : Int)) (kt : y ≤ x → mx_V E d M tgt l st h P) (kf : ¬ y ≤ x → mx_V E d M (pc + 3) l st h P) : mx_V E d M pc l (.int y :: .int x :: st) h P :=
  fun p l0 e R s m args below meth c z H locs cells slots ls hX hS hl => lv_icmp_ge hX.1 hX.2.1 hd ht (fun q => kt q p l0 e R s m args below meth c z H locs cells slots ls hX hS hl) (fun q => kf q p l0 e R s m args below meth c z H locs cells slots ls hX hS hl)
theorem mv_if_gt {x : Int32} {off : Int} {tgt : Nat} (hd : decode (mx_ca M.1) pc = .ok (.ifCond .gt off, 3)) (ht : (pc : Int) + off = (tgt : Int)) (kt : 0 < x → mx_V E d M tgt l st h P) (kf : ¬ 0 < x → mx_V E d M (pc + 3) l st h P) : mx_V E d M pc l (.int x :: st) h P :=
  fun p l0 e R s m args below meth c z H locs cells slots ls hX hS hl => lv_if_gt hX.1 hX.2.1 hd ht (fun q => kt q p l0 e R s m args below meth c z H locs cells slots ls hX hS hl) (fun q => kf q p l0 e R s m args below meth c z H locs cells slots ls hX hS hl)
theorem mv_icmp_gt {x y : Int32} {off : Int} {tgt : Nat} (hd : decode (mx_ca M.1) pc = .ok (.if_icmp .gt off, 3)) (ht : (pc : Int) + off = (tgt : Int)) (kt : y < x → mx_V E d M tgt l st h P) (kf : ¬ y < x → mx_V E d M (pc + 3) l st h P) : mx_V E d M pc l (.int y :: .int x :: st) h P :=
  fun p l0 e R s m args below meth c z H locs cells slots ls hX hS hl => lv_icmp_gt hX.1 hX.2.1 hd ht (fun q => kt q p l0 e R s m args below meth c z H locs cells slots ls hX hS hl) (fun q => kf q p l0 e R s m args below meth c z H locs cells slots ls hX hS hl)
theorem mv_if_le {x : Int32} {off : Int} {tgt : Nat} (hd : decode (mx_ca M.1) pc = .ok (.ifCond .le off, 3)) (ht : (pc : Int) + off = (tgt : Int)) (kt : x ≤ 0 → mx_V E d M tgt l st h P) (kf : ¬ x ≤ 0 → mx_V E d M (pc + 3) l st h P) : mx_V E d M pc l (.int x :: st) h P :=
  fun p l0 e R s m args below meth c z H locs cells slots ls hX hS hl => lv_if_le hX.1 hX.2.1 hd ht (fun q => kt q p l0 e R s m args below meth c z H locs cells slots ls hX hS hl) (fun q => kf q p l0 e R s m args below meth c z H locs cells slots ls hX hS hl)
theorem mv_icmp_le {x y : Int32} {off : Int} {tgt : Nat} (hd : decode (mx_ca M.1) pc = .ok (.if_icmp .le off, 3)) (ht : (pc : Int) + off = (tgt : Int)) (kt : x ≤ y → mx_V E d M tgt l st h P) (kf : ¬ x ≤ y → mx_V E d M (pc + 3) l st h P) : mx_V E d M pc l (.int y :: .int x :: st) h P :=
  fun p l0 e R s m args below meth c z H locs cells slots ls hX hS hl => lv_icmp_le hX.1 hX.2.1 hd ht (fun q => kt q p l0 e R s m args below meth c z H locs cells slots ls hX hS hl) (fun q => kf q p l0 e R s m args below meth c z H locs cells slots ls hX hS hl)
theorem mv_goto {off : Int} {tgt : Nat} (hd : decode (mx_ca M.1) pc = .ok (.goto off, 3)) (ht : (pc : Int) + off = (tgt : Int)) (k : mx_V E d M tgt l st h P) : mx_V E d M pc l st h P :=
  fun p l0 e R s m args below meth c z H locs cells slots ls hX hS hl => lv_goto hX.1 hX.2.1 hd ht (k p l0 e R s m args below meth c z H locs cells slots ls hX hS hl)
theorem mv_tableOut {dflt lo hi : Int} {offs : Array Int} {len : Nat} {x : Int32} {tgt : Nat} (hd : decode (mx_ca M.1) pc = .ok (.tableswitch dflt lo hi offs, len)) (hx : x.toInt < lo ∨ hi < x.toInt) (ht : (pc : Int) + dflt = (tgt : Int)) (k : mx_V E d M tgt l st h P) : mx_V E d M pc l (.int x :: st) h P :=
  fun p l0 e R s m args below meth c z H locs cells slots ls hX hS hl => lv_tableOut hX.1 hX.2.1 hd hx ht (k p l0 e R s m args below meth c z H locs cells slots ls hX hS hl)
theorem mv_tableIn {dflt lo hi : Int} {offs : Array Int} {len : Nat} {x : Int32} {off : Int} {tgt : Nat} (hd : decode (mx_ca M.1) pc = .ok (.tableswitch dflt lo hi offs, len)) (h1 : ¬ x.toInt < lo) (h2 : ¬ hi < x.toInt) (ho : offs[(x.toInt - lo).toNat]? = some off) (ht : (pc : Int) + off = (tgt : Int)) (k : mx_V E d M tgt l st h P) : mx_V E d M pc l (.int x :: st) h P :=
  fun p l0 e R s m args below meth c z H locs cells slots ls hX hS hl => lv_tableIn hX.1 hX.2.1 hd h1 h2 ho ht (k p l0 e R s m args below meth c z H locs cells slots ls hX hS hl)
theorem mv_lookup {dflt : Int} {ps : Array (Int × Int)} {len : Nat} {x : Int32} {off : Int} {tgt : Nat} (hd : decode (mx_ca M.1) pc = .ok (.lookupswitch dflt ps, len)) (hp : (ps.toList.zip (ps.toList.drop 1)).all (fun (a, next) => a.1 < next.1) = true) (ho : Op.lookupswitch.offset ps.toList dflt x.toInt = off) (ht : (pc : Int) + off = (tgt : Int)) (k : mx_V E d M tgt l st h P) : mx_V E d M pc l (.int x :: st) h P :=
  fun p l0 e R s m args below meth c z H locs cells slots ls hX hS hl => lv_lookup hX.1 hX.2.1 hd hp ho ht (k p l0 e R s m args below meth c z H locs cells slots ls hX hS hl)
end MV
