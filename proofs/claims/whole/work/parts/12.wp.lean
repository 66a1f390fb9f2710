/-! WHAT A FRAME OWES up to the next cut, computed: printed by wip/whole/wp.py -/
def mx_i (st : List Value) (k : Int32 → List Value → Prop) : Prop := match st with
  | .int x :: t => k x t
  | _ => False
def mx_ii (st : List Value) (k : Int32 → Int32 → List Value → Prop) : Prop := match st with
  | .int y :: .int x :: t => k x y t
  | _ => False
def mx_ir (st : List Value) (k : Int32 → Nat → List Value → Prop) : Prop := match st with
  | .int i :: .ref a :: t => k i a t
  | _ => False
def mx_xir (st : List Value) (k : Int32 → Int32 → Nat → List Value → Prop) : Prop := match st with
  | .int x :: .int i :: .ref a :: t => k x i a t
  | _ => False
def mx_jir (st : List Value) (k : Int64 → Int32 → Nat → List Value → Prop) : Prop := match st with
  | .long x :: .int i :: .ref a :: t => k x i a t
  | _ => False
def mx_rir (st : List Value) (k : Nat → Int32 → Nat → List Value → Prop) : Prop := match st with
  | .ref x :: .int i :: .ref a :: t => k x i a t
  | _ => False
def mx_r (st : List Value) (k : Nat → List Value → Prop) : Prop := match st with
  | .ref a :: t => k a t
  | _ => False
def mx_xr (st : List Value) (ki : Int32 → Nat → List Value → Prop) (kr : Nat → Nat → List Value → Prop) : Prop := match st with
  | .int x :: .ref a :: t => ki x a t
  | .ref x :: .ref a :: t => kr x a t
  | _ => False
def mx_j1 (st : List Value) (k : Int64 → List Value → Prop) : Prop := match st with
  | .long x :: t => k x t
  | _ => False
def mx_jj (st : List Value) (k : Int64 → Int64 → List Value → Prop) : Prop := match st with
  | .long y :: .long x :: t => k x y t
  | _ => False
def mx_v (st : List Value) (k : Value → List Value → Prop) : Prop := match st with
  | v :: t => v.category = 1 ∧ k v t
  | _ => False
def mx_vv (st : List Value) (k : Value → Value → List Value → Prop) : Prop := match st with
  | v :: w :: t => v.category = 1 ∧ w.category = 1 ∧ k v w t
  | _ => False
def mx_cp5 (st : List Value) (k : Nat → Int32 → Nat → Int32 → Int32 → List Value → Prop) : Prop := match st with
  | .int n :: .int dp :: .ref b :: .int sp :: .ref a :: t => k a sp b dp n t
  | _ => False
def mx_li (o : Option Value) (k : Int32 → Prop) : Prop := match o with
  | some (.int x) => k x
  | _ => False
def mx_lr (o : Option Value) (k : Nat → Prop) : Prop := match o with
  | some (.ref x) => k x
  | _ => False
def mx_lj (o : Option Value) (k : Int64 → Prop) : Prop := match o with
  | some (.long x) => k x
  | _ => False
def mx_rv (o : Option Nat) (k : Nat → Prop) : Prop := match o with
  | some a => k a
  | none => False
/-- how many slots values take -/
def mx_sz : List Value → Nat
  | [] => 0
  | .long _ :: t => mx_sz t + 2
  | .double _ :: t => mx_sz t + 2
  | _ :: t => mx_sz t + 1
theorem mx_sz_c (vs : List Value) : mx_sz vs = (vs.map fun v => v.category).sum := by
  induction vs with
  | nil => rfl
  | cons v t ih => cases v <;> simp [mx_sz, Value.category, ih, Nat.add_comm]
theorem mx_sz_l (vs : List Value) : mx_sz vs = (lg_sl vs).length := by
  induction vs with
  | nil => rfl
  | cons v t ih =>
    have e : lg_sl (v :: t) = (if v.category = 2 then [.val v, .second] else [.val v]) ++ lg_sl t := by simp [lg_sl]
    rw [e, List.length_append, ← ih]
    cases v <;> simp [mx_sz, Value.category, Nat.add_comm]
/-- a method's signature: parameters, kind, class, locals -/
def mx_sg (j : Nat) : Nat × Nat × Nat × Nat := match mx_mtT[j]? with
  | some e => (e.2.2.1, e.2.2.2.1, ((List.range 10).find? (fun c => (mx_T c 0).1 == e.1.2.1)).getD 99, e.1.2.2.1)
  | none => (0, 9, 0, 0)
/-- method j, called with these, comes to P -/
def mx_CA (E : mx_E) (d j : Nat) (args : List Value) (h : mx_H) (P : mx_O → mx_H → Prop) : Prop := ∃ e : mx_MR, mx_mtT[j]? = some e ∧ mx_V E d e.1 0 (mx_en args) [] h P
theorem mx_CA.mono {E : mx_E} {d j : Nat} {args : List Value} {h : mx_H} {P P' : mx_O → mx_H → Prop} (k : mx_CA E d j args h P) (hP : ∀ o h', P o h' → P' o h') : mx_CA E d j args h P' := by
  obtain ⟨e, he, hv⟩ := k
  exact ⟨e, he, hv.mono hP⟩
/-- behind a call -/
def mx_af (E : mx_E) (d : Nat) (M : mx_M) (pc : Nat) (l : mx_L) (rest : List Value) (P : mx_O → mx_H → Prop) (K : Nat → mx_L → List Value → mx_H → Prop) (o : mx_O) (h' : mx_H) : Prop := match o with
  | .inl v => K (pc + 3) l (v.toList ++ rest) h'
  | .inr x => mx_TH E d M pc l h' x P
def mx_vr (st : List Value) (na : Nat) (k : Nat → List Value → List Value → Prop) : Prop := match st.drop na with
  | .ref b :: rest => k b ((st.take na).reverse) rest
  | _ => False
/-- the exceptions that are thrown: by the class link -/
def mx_xi (own : String) (idx : Nat) : Option Nat := if own = "IdealWorks" then (if idx = 88 then some 0 else if idx = 140 then some 1 else if idx = 216 then some 2 else none) else none
/-- the sum of a jump -/
def mx_to (pc : Nat) (off : Int) : Nat := ((pc : Int) + off).toNat
/-- what is owed at an instruction; K: what is owed at the next -/
def mx_I (E : mx_E) (d : Nat) (M : mx_M) (P : mx_O → mx_H → Prop) (K : Nat → mx_L → List Value → mx_H → Prop) (pc : Nat) (l : mx_L) (st : List Value) (h : mx_H) (i : Instr) (len : Nat) : Prop := match i with
  | .iconst n => len = 1 ∧ (K (pc + 1) l (.int (Int32.ofInt n) :: st) h)
  | .bipush n => len = 2 ∧ (K (pc + 2) l (.int (Int8.ofInt n).toInt32 :: st) h)
  | .sipush n => len = 3 ∧ (K (pc + 3) l (.int (Int16.ofInt n).toInt32 :: st) h)
  | .lconst n => len = 1 ∧ (K (pc + 1) l (.long (Int64.ofNat (n : Nat)) :: st) h)
  | .iload i => len = 2 ∧ (mx_li (l i) fun x => K (pc + 2) l (.int x :: st) h)
  | .iload_n i => len = 1 ∧ (mx_li (l i) fun x => K (pc + 1) l (.int x :: st) h)
  | .aload i => len = 2 ∧ (mx_lr (l i) fun x => K (pc + 2) l (.ref x :: st) h)
  | .aload_n i => len = 1 ∧ (mx_lr (l i) fun x => K (pc + 1) l (.ref x :: st) h)
  | .lload i => len = 2 ∧ (mx_lj (l i) fun x => K (pc + 2) l (.long x :: st) h)
  | .lload_n i => len = 1 ∧ (mx_lj (l i) fun x => K (pc + 1) l (.long x :: st) h)
  | .istore i => len = 2 ∧ ((i : Nat) < M.2.2.1 ∧ mx_i st fun x t => K (pc + 2) (mx_st1 l i (.int x)) t h)
  | .istore_n i => len = 1 ∧ ((i : Nat) < M.2.2.1 ∧ mx_i st fun x t => K (pc + 1) (mx_st1 l i (.int x)) t h)
  | .astore i => len = 2 ∧ ((i : Nat) < M.2.2.1 ∧ mx_r st fun x t => K (pc + 2) (mx_st1 l i (.ref x)) t h)
  | .astore_n i => len = 1 ∧ ((i : Nat) < M.2.2.1 ∧ mx_r st fun x t => K (pc + 1) (mx_st1 l i (.ref x)) t h)
  | .lstore i => len = 2 ∧ ((i : Nat) + 1 < M.2.2.1 ∧ mx_j1 st fun x t => K (pc + 2) (mx_st2 l i (.long x)) t h)
  | .lstore_n i => len = 1 ∧ ((i : Nat) + 1 < M.2.2.1 ∧ mx_j1 st fun x t => K (pc + 1) (mx_st2 l i (.long x)) t h)
  | .iinc i n => len = 3 ∧ (i < M.2.2.1 ∧ mx_li (l i) fun x => K (pc + 3) (mx_st1 l i (.int (x + Int32.ofInt n))) st h)
  | .iadd => len = 1 ∧ (mx_ii st fun x y t => K (pc + 1) l (.int (x + y) :: t) h)
  | .isub => len = 1 ∧ (mx_ii st fun x y t => K (pc + 1) l (.int (x - y) :: t) h)
  | .imul => len = 1 ∧ (mx_ii st fun x y t => K (pc + 1) l (.int (x * y) :: t) h)
  | .iand => len = 1 ∧ (mx_ii st fun x y t => K (pc + 1) l (.int (x &&& y) :: t) h)
  | .ior => len = 1 ∧ (mx_ii st fun x y t => K (pc + 1) l (.int (x ||| y) :: t) h)
  | .ixor => len = 1 ∧ (mx_ii st fun x y t => K (pc + 1) l (.int (x ^^^ y) :: t) h)
  | .ishl => len = 1 ∧ (mx_ii st fun x y t => K (pc + 1) l (.int (x <<< (y &&& 31)) :: t) h)
  | .ishr => len = 1 ∧ (mx_ii st fun x y t => K (pc + 1) l (.int (x >>> (y &&& 31)) :: t) h)
  | .iushr => len = 1 ∧ (mx_ii st fun x y t => K (pc + 1) l (.int ((x.toUInt32 >>> (y.toUInt32 &&& Int32.toUInt32 31)).toInt32) :: t) h)
  | .idiv => len = 1 ∧ (mx_ii st fun x y t => ¬ y = 0 ∧ K (pc + 1) l (.int (x / y) :: t) h)
  | .irem => len = 1 ∧ (mx_ii st fun x y t => ¬ y = 0 ∧ K (pc + 1) l (.int (x - x / y * y) :: t) h)
  | .ineg => len = 1 ∧ (mx_i st fun x t => K (pc + 1) l (.int (-x) :: t) h)
  | .ladd => len = 1 ∧ (mx_jj st fun x y t => K (pc + 1) l (.long (x + y) :: t) h)
  | .lsub => len = 1 ∧ (mx_jj st fun x y t => K (pc + 1) l (.long (x - y) :: t) h)
  | .lmul => len = 1 ∧ (mx_jj st fun x y t => K (pc + 1) l (.long (x * y) :: t) h)
  | .lrem => len = 1 ∧ (mx_jj st fun x y t => ¬ y = 0 ∧ K (pc + 1) l (.long (x - x / y * y) :: t) h)
  | .lcmp => len = 1 ∧ (mx_jj st fun x y t => K (pc + 1) l (.int (lg_cmp x y) :: t) h)
  | .i2l => len = 1 ∧ (mx_i st fun x t => K (pc + 1) l (.long x.toInt64 :: t) h)
  | .l2i => len = 1 ∧ (mx_j1 st fun x t => K (pc + 1) l (.int x.toInt32 :: t) h)
  | .i2b => len = 1 ∧ (mx_i st fun x t => K (pc + 1) l (.int x.toInt8.toInt32 :: t) h)
  | .dup => len = 1 ∧ (mx_v st fun v t => K (pc + 1) l (v :: v :: t) h)
  | .pop => len = 1 ∧ (mx_v st fun _ t => K (pc + 1) l t h)
  | .dup2 => len = 1 ∧ (mx_vv st fun v w t => K (pc + 1) l (v :: w :: v :: w :: t) h)
  | .ifCond .eq off => len = 3 ∧ (0 ≤ (pc : Int) + off ∧ mx_i st fun x t => (x = 0 → K (mx_to pc off) l t h) ∧ (¬ x = 0 → K (pc + 3) l t h))
  | .if_icmp .eq off => len = 3 ∧ (0 ≤ (pc : Int) + off ∧ mx_ii st fun x y t => (x = y → K (mx_to pc off) l t h) ∧ (¬ x = y → K (pc + 3) l t h))
  | .ifCond .ne off => len = 3 ∧ (0 ≤ (pc : Int) + off ∧ mx_i st fun x t => (¬ x = 0 → K (mx_to pc off) l t h) ∧ (x = 0 → K (pc + 3) l t h))
  | .if_icmp .ne off => len = 3 ∧ (0 ≤ (pc : Int) + off ∧ mx_ii st fun x y t => (¬ x = y → K (mx_to pc off) l t h) ∧ (x = y → K (pc + 3) l t h))
  | .ifCond .lt off => len = 3 ∧ (0 ≤ (pc : Int) + off ∧ mx_i st fun x t => (x < 0 → K (mx_to pc off) l t h) ∧ (¬ x < 0 → K (pc + 3) l t h))
  | .if_icmp .lt off => len = 3 ∧ (0 ≤ (pc : Int) + off ∧ mx_ii st fun x y t => (x < y → K (mx_to pc off) l t h) ∧ (¬ x < y → K (pc + 3) l t h))
  | .ifCond .ge off => len = 3 ∧ (0 ≤ (pc : Int) + off ∧ mx_i st fun x t => (0 ≤ x → K (mx_to pc off) l t h) ∧ (¬ 0 ≤ x → K (pc + 3) l t h))
  | .if_icmp .ge off => len = 3 ∧ (0 ≤ (pc : Int) + off ∧ mx_ii st fun x y t => (y ≤ x → K (mx_to pc off) l t h) ∧ (¬ y ≤ x → K (pc + 3) l t h))
  | .ifCond .gt off => len = 3 ∧ (0 ≤ (pc : Int) + off ∧ mx_i st fun x t => (0 < x → K (mx_to pc off) l t h) ∧ (¬ 0 < x → K (pc + 3) l t h))
  | .if_icmp .gt off => len = 3 ∧ (0 ≤ (pc : Int) + off ∧ mx_ii st fun x y t => (y < x → K (mx_to pc off) l t h) ∧ (¬ y < x → K (pc + 3) l t h))
  | .ifCond .le off => len = 3 ∧ (0 ≤ (pc : Int) + off ∧ mx_i st fun x t => (x ≤ 0 → K (mx_to pc off) l t h) ∧ (¬ x ≤ 0 → K (pc + 3) l t h))
  | .if_icmp .le off => len = 3 ∧ (0 ≤ (pc : Int) + off ∧ mx_ii st fun x y t => (x ≤ y → K (mx_to pc off) l t h) ∧ (¬ x ≤ y → K (pc + 3) l t h))
  | .goto off => len = 3 ∧ (0 ≤ (pc : Int) + off ∧ K (mx_to pc off) l st h)
  | .iaload => len = 1 ∧ (mx_ir st fun i a t => ∃ n, (h.2.2.1 a = some (20, n) ∨ h.2.2.1 a = some (21, n)) ∧ vp_in i n ∧ K (pc + 1) l (.int (h.2.2.2.1 a i.toNatClampNeg) :: t) h)
  | .baload => len = 1 ∧ (mx_ir st fun i a t => ∃ n, (h.2.2.1 a = some (22, n) ∨ h.2.2.1 a = some (23, n)) ∧ vp_in i n ∧ K (pc + 1) l (.int (h.2.2.2.1 a i.toNatClampNeg) :: t) h)
  | .laload => len = 1 ∧ (mx_ir st fun i a t => ∃ n, h.2.2.1 a = some (24, n) ∧ vp_in i n ∧ K (pc + 1) l (.long (h.2.2.2.2.2 a i.toNatClampNeg) :: t) h)
  | .aaload => len = 1 ∧ (mx_ir st fun i a t => ∃ n, (h.2.2.1 a = some (25, n) ∨ h.2.2.1 a = some (26, n)) ∧ vp_in i n ∧ mx_rv (h.2.2.2.2.1 a i.toNatClampNeg) fun b => K (pc + 1) l (.ref b :: t) h)
  | .iastore => len = 1 ∧ (mx_xir st fun x i a t => ∃ n, h.2.2.1 a = some (20, n) ∧ vp_in i n ∧ K (pc + 1) l t (mx_si h a i.toNatClampNeg x))
  | .bastore => len = 1 ∧ (mx_xir st fun x i a t => ∃ n, ((h.2.2.1 a = some (22, n) ∧ narrow .byte (.int x) = .int x) ∨ (h.2.2.1 a = some (23, n) ∧ narrow .boolean (.int x) = .int x)) ∧ vp_in i n ∧ K (pc + 1) l t (mx_si h a i.toNatClampNeg x))
  | .lastore => len = 1 ∧ (mx_jir st fun x i a t => ∃ n, h.2.2.1 a = some (24, n) ∧ vp_in i n ∧ K (pc + 1) l t (mx_sj h a i.toNatClampNeg x))
  | .aastore => len = 1 ∧ (mx_rir st fun x i a t => ∃ n n7, h.2.2.1 a = some (26, n) ∧ h.2.2.1 x = some (0, n7) ∧ vp_in i n ∧ K (pc + 1) l t (mx_sr h a i.toNatClampNeg (some x)))
  | .arraylength => len = 1 ∧ (mx_r st fun a t => ∃ k n, h.2.2.1 a = some (k, n) ∧ 20 ≤ k ∧ k < 27 ∧ K (pc + 1) l (.int (nI n) :: t) h)
  | .getfield idx => len = 3 ∧ (mx_r st fun a t => ∃ f : Nat × Nat × Nat, mx_fl M.2.1 idx = some f ∧ (∃ n, h.2.2.1 a = some (f.1, n)) ∧ (if f.2.2 % 10 = 2 then mx_rv (h.2.2.2.2.1 a f.2.1) fun b => K (pc + 3) l (.ref b :: t) h else K (pc + 3) l (.int (h.2.2.2.1 a f.2.1) :: t) h))
  | .putfield idx => len = 3 ∧ (∃ f : Nat × Nat × Nat, mx_fl M.2.1 idx = some f ∧ (f.2.2 < 10 ∨ (M.2.2.2.2.2 = "<init>" ∧ (mx_T f.1 f.2.1).1 = M.2.1)) ∧ mx_xr st (fun x a t => (∃ n, h.2.2.1 a = some (f.1, n)) ∧ (f.2.2 % 10 = 0 ∨ (f.2.2 % 10 = 1 ∧ (x = 0 ∨ x = 1))) ∧ K (pc + 3) l t (mx_si h a f.2.1 x)) (fun x a t => (∃ n, h.2.2.1 a = some (f.1, n)) ∧ f.2.2 % 10 = 2 ∧ K (pc + 3) l t (mx_sr h a f.2.1 (some x))))
  | .new idx => len = 3 ∧ (match mx_xi M.2.1 idx with
    | some x => x < 3 ∧ M.2.2.2.2.1 = [] ∧ decode (mx_ca M.1) (pc + 3) = .ok (.dup, 1) ∧ decode (mx_ca M.1) (pc + 4) = .ok (.invokespecial (mx_ic x), 3) ∧ decode (mx_ca M.1) (pc + 7) = .ok (.athrow, 1) ∧ mx_sz st ≤ 8 ∧ h.1 + 1 ≤ 601024 ∧ h.2.1 + 6 ≤ 7293034 ∧ P (.inr x) (h.1 + 1, h.2.1 + 6, h.2.2)
    | none => ∃ c : Nat × Nat, mx_cn M.2.1 idx = some c ∧ h.1 + 1 ≤ 601024 ∧ h.2.1 + c.2 ≤ 7293034 ∧ K (pc + 3) l (.ref (E.2.1 + h.1) :: st) (mx_nw E h c.1 c.2))
  | .newarray .int => len = 2 ∧ (mx_i st fun n t => ¬ n < 0 ∧ n.toNatClampNeg ≤ 60000000 ∧ h.1 + 1 ≤ 601024 ∧ h.2.1 + n.toNatClampNeg ≤ 7293034 ∧ K (pc + 2) l (.ref (E.2.1 + h.1) :: t) (mx_nw E h 20 n.toNatClampNeg))
  | .newarray .byte => len = 2 ∧ (mx_i st fun n t => ¬ n < 0 ∧ n.toNatClampNeg ≤ 60000000 ∧ h.1 + 1 ≤ 601024 ∧ h.2.1 + n.toNatClampNeg ≤ 7293034 ∧ K (pc + 2) l (.ref (E.2.1 + h.1) :: t) (mx_nw E h 22 n.toNatClampNeg))
  | .newarray .boolean => len = 2 ∧ (mx_i st fun n t => ¬ n < 0 ∧ n.toNatClampNeg ≤ 60000000 ∧ h.1 + 1 ≤ 601024 ∧ h.2.1 + n.toNatClampNeg ≤ 7293034 ∧ K (pc + 2) l (.ref (E.2.1 + h.1) :: t) (mx_nw E h 23 n.toNatClampNeg))
  | .newarray .long => len = 2 ∧ (mx_i st fun n t => ¬ n < 0 ∧ n.toNatClampNeg ≤ 60000000 ∧ h.1 + 1 ≤ 601024 ∧ h.2.1 + n.toNatClampNeg ≤ 7293034 ∧ K (pc + 2) l (.ref (E.2.1 + h.1) :: t) (mx_nw E h 24 n.toNatClampNeg))
  | .anewarray idx => len = 3 ∧ (mx_cn M.2.1 idx = some (0, 7) ∧ mx_i st fun n t => ¬ n < 0 ∧ n.toNatClampNeg ≤ 60000000 ∧ h.1 + 1 ≤ 601024 ∧ h.2.1 + n.toNatClampNeg ≤ 7293034 ∧ K (pc + 3) l (.ref (E.2.1 + h.1) :: t) (mx_nw E h 26 n.toNatClampNeg))
  | .multianewarray idx dims => len = 4 ∧ (dims = 2 ∧ mx_aa M.2.1 idx = true ∧ mx_ii st fun n k t => ¬ n < 0 ∧ ¬ k < 0 ∧ n.toNatClampNeg ≤ 100000 ∧ k.toNatClampNeg ≤ 100000 ∧ h.1 + 1 + n.toNatClampNeg ≤ 601024 ∧ h.2.1 + n.toNatClampNeg + n.toNatClampNeg * k.toNatClampNeg ≤ 7293034 ∧ K (pc + 4) l (.ref (E.2.1 + h.1) :: t) (mx_nw2 E h n.toNatClampNeg k.toNatClampNeg))
  | .getstatic idx => len = 3 ∧ (idx = 58 ∧ M.2.1 = "IdealWorks$Ring" ∧ K (pc + 3) l (.ref E.2.2.2.2 :: st) h)
  | .ldc idx => len = 2 ∧ (∃ x, mx_kc M.2.1 idx = some x ∧ K (pc + 2) l (.int x :: st) h)
  | .ldc_w idx => len = 3 ∧ (∃ x, mx_kc M.2.1 idx = some x ∧ K (pc + 3) l (.int x :: st) h)
  | .ldc2_w idx => len = 3 ∧ (∃ x, mx_kl M.2.1 idx = some x ∧ K (pc + 3) l (.long x :: st) h)
  | .ireturn => len = 1 ∧ (∃ ty v, M.2.2.2.1 = some ty ∧ st = [.int v] ∧ narrow ty (.int v) = .int v ∧ P (.inl (some (.int v))) h)
  | .return_ => len = 1 ∧ (M.2.2.2.1 = none ∧ st = [] ∧ P (.inl none) h)
  | .invokestatic idx => len = 3 ∧ (if mx_cp M.2.1 idx = true then mx_cp5 st fun a sp b dp n t => ∃ na nb, mx_sz t ≤ 8 ∧ h.2.2.1 a = some (20, na) ∧ h.2.2.1 b = some (20, nb) ∧ ¬ sp < 0 ∧ ¬ dp < 0 ∧ ¬ n < 0 ∧ sp.toNatClampNeg + n.toNatClampNeg ≤ na ∧ dp.toNatClampNeg + n.toNatClampNeg ≤ nb ∧ K (pc + 3) l t (mx_cpy h a sp.toNatClampNeg b dp.toNatClampNeg n.toNatClampNeg) else ∃ j g, mx_sl M.2.1 idx = some j ∧ mx_sg j = g ∧ g.2.1 = 0 ∧ g.1 ≤ st.length ∧ mx_sz ((st.take g.1).reverse) ≤ g.2.2.2 ∧ mx_sz (st.drop g.1) ≤ 8 ∧ ∃ d2, d = d2 + 1 ∧ mx_CA E d2 j ((st.take g.1).reverse) h (mx_af E d M pc l (st.drop g.1) P K))
  | .invokevirtual idx => len = 3 ∧ (∃ j g, mx_sl M.2.1 idx = some j ∧ mx_sg j = g ∧ g.2.1 = 1 ∧ g.1 ≤ st.length ∧ g.2.2.1 < 10 ∧ mx_vr st g.1 fun b as rest => (∃ n, h.2.2.1 b = some (g.2.2.1, n)) ∧ mx_sz (.ref b :: as) ≤ g.2.2.2 ∧ mx_sz rest ≤ 8 ∧ ∃ d2, d = d2 + 1 ∧ mx_CA E d2 j (.ref b :: as) h (mx_af E d M pc l rest P K))
  | .invokespecial idx => len = 3 ∧ (if mx_oi M.2.1 idx = true then mx_r st fun _ t => mx_sz t ≤ 8 ∧ K (pc + 3) l t h else ∃ j g, mx_sl M.2.1 idx = some j ∧ mx_sg j = g ∧ g.2.1 = 2 ∧ g.1 ≤ st.length ∧ mx_vr st g.1 fun b as rest => mx_sz (.ref b :: as) ≤ g.2.2.2 ∧ mx_sz rest ≤ 8 ∧ ∃ d2, d = d2 + 1 ∧ mx_CA E d2 j (.ref b :: as) h (mx_af E d M pc l rest P K))
  | .tableswitch dflt lo hi offs => mx_i st fun x t => (x.toInt < lo ∨ hi < x.toInt → 0 ≤ (pc : Int) + dflt ∧ K (mx_to pc dflt) l t h) ∧ (¬ (x.toInt < lo ∨ hi < x.toInt) → ∃ off, offs[(x.toInt - lo).toNat]? = some off ∧ 0 ≤ (pc : Int) + off ∧ K (mx_to pc off) l t h)
  | .lookupswitch dflt ps => (ps.toList.zip (ps.toList.drop 1)).all (fun (a, next) => a.1 < next.1) = true ∧ mx_i st fun x t => 0 ≤ (pc : Int) + Op.lookupswitch.offset ps.toList dflt x.toInt ∧ K (mx_to pc (Op.lookupswitch.offset ps.toList dflt x.toInt)) l t h
  | _ => False
theorem mx_to_ok {pc : Nat} {off : Int} (h : 0 ≤ (pc : Int) + off) : (pc : Int) + off = ((mx_to pc off : Nat) : Int) := by
  unfold mx_to
  omega
theorem mx_xi_some {own : String} {idx x : Nat} (h : mx_xi own idx = some x) : own = "IdealWorks" ∧ idx = mx_ik x := by
  unfold mx_xi at h
  by_cases a : own = "IdealWorks"
  · rw [if_pos a] at h
    refine ⟨a, ?_⟩
    by_cases b : idx = 88
    · rw [if_pos b] at h
      cases h
      exact b
    · rw [if_neg b] at h
      by_cases c : idx = 140
      · rw [if_pos c] at h
        cases h
        exact c
      · rw [if_neg c] at h
        by_cases e : idx = 216
        · rw [if_pos e] at h
          cases h
          exact e
        · rw [if_neg e] at h
          cases h
  · rw [if_neg a] at h
    cases h
section MI
variable {E : mx_E} {d : Nat} {M : mx_M} {pc : Nat} {l : mx_L} {st : List Value} {h : mx_H} {P : mx_O → mx_H → Prop} {K : Nat → mx_L → List Value → mx_H → Prop} {len : Nat}
theorem mi_i {k : Int32 → List Value → Prop} (h : mx_i st k) : ∃ x t, st = .int x :: t ∧ k x t := by
  unfold mx_i at h
  split at h
  · exact ⟨_, _, rfl, h⟩
  · exact h.elim
theorem mi_ii {k : Int32 → Int32 → List Value → Prop} (h : mx_ii st k) : ∃ x y t, st = .int y :: .int x :: t ∧ k x y t := by
  unfold mx_ii at h
  split at h
  · exact ⟨_, _, _, rfl, h⟩
  · exact h.elim
theorem mi_ir {k : Int32 → Nat → List Value → Prop} (h : mx_ir st k) : ∃ i a t, st = .int i :: .ref a :: t ∧ k i a t := by
  unfold mx_ir at h
  split at h
  · exact ⟨_, _, _, rfl, h⟩
  · exact h.elim
theorem mi_xir {k : Int32 → Int32 → Nat → List Value → Prop} (h : mx_xir st k) : ∃ x i a t, st = .int x :: .int i :: .ref a :: t ∧ k x i a t := by
  unfold mx_xir at h
  split at h
  · exact ⟨_, _, _, _, rfl, h⟩
  · exact h.elim
theorem mi_jir {k : Int64 → Int32 → Nat → List Value → Prop} (h : mx_jir st k) : ∃ x i a t, st = .long x :: .int i :: .ref a :: t ∧ k x i a t := by
  unfold mx_jir at h
  split at h
  · exact ⟨_, _, _, _, rfl, h⟩
  · exact h.elim
theorem mi_rir {k : Nat → Int32 → Nat → List Value → Prop} (h : mx_rir st k) : ∃ x i a t, st = .ref x :: .int i :: .ref a :: t ∧ k x i a t := by
  unfold mx_rir at h
  split at h
  · exact ⟨_, _, _, _, rfl, h⟩
  · exact h.elim
theorem mi_r {k : Nat → List Value → Prop} (h : mx_r st k) : ∃ a t, st = .ref a :: t ∧ k a t := by
  unfold mx_r at h
  split at h
  · exact ⟨_, _, rfl, h⟩
  · exact h.elim
theorem mi_xr {ki : Int32 → Nat → List Value → Prop} {kr : Nat → Nat → List Value → Prop} (h : mx_xr st ki kr) : (∃ x a t, st = .int x :: .ref a :: t ∧ ki x a t) ∨ (∃ x a t, st = .ref x :: .ref a :: t ∧ kr x a t) := by
  unfold mx_xr at h
  split at h
  · exact Or.inl ⟨_, _, _, rfl, h⟩
  · exact Or.inr ⟨_, _, _, rfl, h⟩
  · exact h.elim
theorem mi_j1 {k : Int64 → List Value → Prop} (h : mx_j1 st k) : ∃ x t, st = .long x :: t ∧ k x t := by
  unfold mx_j1 at h
  split at h
  · exact ⟨_, _, rfl, h⟩
  · exact h.elim
theorem mi_jj {k : Int64 → Int64 → List Value → Prop} (h : mx_jj st k) : ∃ x y t, st = .long y :: .long x :: t ∧ k x y t := by
  unfold mx_jj at h
  split at h
  · exact ⟨_, _, _, rfl, h⟩
  · exact h.elim
theorem mi_v {k : Value → List Value → Prop} (h : mx_v st k) : ∃ v t, st = v :: t ∧ v.category = 1 ∧ k v t := by
  unfold mx_v at h
  split at h
  · exact ⟨_, _, rfl, h⟩
  · exact h.elim
theorem mi_vv {k : Value → Value → List Value → Prop} (h : mx_vv st k) : ∃ v w t, st = v :: w :: t ∧ v.category = 1 ∧ w.category = 1 ∧ k v w t := by
  unfold mx_vv at h
  split at h
  · exact ⟨_, _, _, rfl, h⟩
  · exact h.elim
theorem mi_cp5 {k : Nat → Int32 → Nat → Int32 → Int32 → List Value → Prop} (h : mx_cp5 st k) : ∃ a sp b dp n t, st = .int n :: .int dp :: .ref b :: .int sp :: .ref a :: t ∧ k a sp b dp n t := by
  unfold mx_cp5 at h
  split at h
  · exact ⟨_, _, _, _, _, _, rfl, h⟩
  · exact h.elim
theorem mi_li {o : Option Value} {k : Int32 → Prop} (h : mx_li o k) : ∃ x, o = some (.int x) ∧ k x := by
  unfold mx_li at h
  split at h
  · exact ⟨_, rfl, h⟩
  · exact h.elim
theorem mi_lr {o : Option Value} {k : Nat → Prop} (h : mx_lr o k) : ∃ x, o = some (.ref x) ∧ k x := by
  unfold mx_lr at h
  split at h
  · exact ⟨_, rfl, h⟩
  · exact h.elim
theorem mi_lj {o : Option Value} {k : Int64 → Prop} (h : mx_lj o k) : ∃ x, o = some (.long x) ∧ k x := by
  unfold mx_lj at h
  split at h
  · exact ⟨_, rfl, h⟩
  · exact h.elim
theorem mi_rv {o : Option Nat} {k : Nat → Prop} (h : mx_rv o k) : ∃ x, o = some x ∧ k x := by
  unfold mx_rv at h
  split at h
  · exact ⟨_, rfl, h⟩
  · exact h.elim
theorem mi_vr {na : Nat} {k : Nat → List Value → List Value → Prop} (h : mx_vr st na k) : ∃ b rest, st = st.take na ++ .ref b :: rest ∧ k b ((st.take na).reverse) rest := by
  unfold mx_vr at h
  split at h
  · rename_i b rest e
    exact ⟨_, _, by rw [← e, List.take_append_drop], h⟩
  · exact h.elim
theorem mi_sg {j : Nat} {g : Nat × Nat × Nat × Nat} (h : mx_sg j = g) (hk : g.2.1 < 9) : ∃ e, mx_mtT[j]? = some e ∧ e.2.2.1 = g.1 ∧ e.2.2.2.1 = g.2.1 ∧ e.1.2.2.1 = g.2.2.2 ∧ (g.2.2.1 < 10 → e.1.2.1 = (mx_T g.2.2.1 0).1) := by
  unfold mx_sg at h
  cases he : mx_mtT[j]? with
  | none =>
    rw [he] at h
    subst h
    exact absurd hk (by decide)
  | some e =>
    rw [he] at h
    subst h
    refine ⟨e, rfl, rfl, rfl, rfl, fun q => ?_⟩
    cases hf : (List.range 10).find? (fun c => (mx_T c 0).1 == e.1.2.1) with
    | none =>
      simp only [hf, Option.getD_none] at q
      omega
    | some c =>
      have h9 := List.find?_some hf
      simp only [hf, Option.getD_some]
      exact (beq_iff_eq.mp h9).symm
theorem mi__iconst (hG : mx_G E) (hK : ∀ pc l st h, K pc l st h → mx_V E d M pc l st h P) {n : Int} (hd : decode (mx_ca M.1) pc = .ok (.iconst n, len)) (hI : mx_I E d M P K pc l st h (.iconst n) len) : mx_V E d M pc l st h P := by
  obtain ⟨rfl, hI⟩ := hI
  exact mv_iconst hd (hK _ _ _ _ hI)
theorem mi__bipush (hG : mx_G E) (hK : ∀ pc l st h, K pc l st h → mx_V E d M pc l st h P) {n : Int} (hd : decode (mx_ca M.1) pc = .ok (.bipush n, len)) (hI : mx_I E d M P K pc l st h (.bipush n) len) : mx_V E d M pc l st h P := by
  obtain ⟨rfl, hI⟩ := hI
  exact mv_bipush hd (hK _ _ _ _ hI)
theorem mi__sipush (hG : mx_G E) (hK : ∀ pc l st h, K pc l st h → mx_V E d M pc l st h P) {n : Int} (hd : decode (mx_ca M.1) pc = .ok (.sipush n, len)) (hI : mx_I E d M P K pc l st h (.sipush n) len) : mx_V E d M pc l st h P := by
  obtain ⟨rfl, hI⟩ := hI
  exact mv_sipush hd (hK _ _ _ _ hI)
theorem mi__lconst (hG : mx_G E) (hK : ∀ pc l st h, K pc l st h → mx_V E d M pc l st h P) {n : Fin 2} (hd : decode (mx_ca M.1) pc = .ok (.lconst n, len)) (hI : mx_I E d M P K pc l st h (.lconst n) len) : mx_V E d M pc l st h P := by
  obtain ⟨rfl, hI⟩ := hI
  exact mv_lconst hd (hK _ _ _ _ hI)
theorem mi__iload (hG : mx_G E) (hK : ∀ pc l st h, K pc l st h → mx_V E d M pc l st h P) {i : Nat} (hd : decode (mx_ca M.1) pc = .ok (.iload i, len)) (hI : mx_I E d M P K pc l st h (.iload i) len) : mx_V E d M pc l st h P := by
  obtain ⟨rfl, hI⟩ := hI
  obtain ⟨x, e, hI⟩ := mi_li hI
  exact mv_iload hd e (hK _ _ _ _ hI)
theorem mi__iload_n (hG : mx_G E) (hK : ∀ pc l st h, K pc l st h → mx_V E d M pc l st h P) {i : Fin 4} (hd : decode (mx_ca M.1) pc = .ok (.iload_n i, len)) (hI : mx_I E d M P K pc l st h (.iload_n i) len) : mx_V E d M pc l st h P := by
  obtain ⟨rfl, hI⟩ := hI
  obtain ⟨x, e, hI⟩ := mi_li hI
  exact mv_iload_n hd e (hK _ _ _ _ hI)
theorem mi__aload (hG : mx_G E) (hK : ∀ pc l st h, K pc l st h → mx_V E d M pc l st h P) {i : Nat} (hd : decode (mx_ca M.1) pc = .ok (.aload i, len)) (hI : mx_I E d M P K pc l st h (.aload i) len) : mx_V E d M pc l st h P := by
  obtain ⟨rfl, hI⟩ := hI
  obtain ⟨x, e, hI⟩ := mi_lr hI
  exact mv_aload hd e (hK _ _ _ _ hI)
theorem mi__aload_n (hG : mx_G E) (hK : ∀ pc l st h, K pc l st h → mx_V E d M pc l st h P) {i : Fin 4} (hd : decode (mx_ca M.1) pc = .ok (.aload_n i, len)) (hI : mx_I E d M P K pc l st h (.aload_n i) len) : mx_V E d M pc l st h P := by
  obtain ⟨rfl, hI⟩ := hI
  obtain ⟨x, e, hI⟩ := mi_lr hI
  exact mv_aload_n hd e (hK _ _ _ _ hI)
theorem mi__lload (hG : mx_G E) (hK : ∀ pc l st h, K pc l st h → mx_V E d M pc l st h P) {i : Nat} (hd : decode (mx_ca M.1) pc = .ok (.lload i, len)) (hI : mx_I E d M P K pc l st h (.lload i) len) : mx_V E d M pc l st h P := by
  obtain ⟨rfl, hI⟩ := hI
  obtain ⟨x, e, hI⟩ := mi_lj hI
  exact mv_lload hd e (hK _ _ _ _ hI)
theorem mi__lload_n (hG : mx_G E) (hK : ∀ pc l st h, K pc l st h → mx_V E d M pc l st h P) {i : Fin 4} (hd : decode (mx_ca M.1) pc = .ok (.lload_n i, len)) (hI : mx_I E d M P K pc l st h (.lload_n i) len) : mx_V E d M pc l st h P := by
  obtain ⟨rfl, hI⟩ := hI
  obtain ⟨x, e, hI⟩ := mi_lj hI
  exact mv_lload_n hd e (hK _ _ _ _ hI)
theorem mi__istore (hG : mx_G E) (hK : ∀ pc l st h, K pc l st h → mx_V E d M pc l st h P) {i : Nat} (hd : decode (mx_ca M.1) pc = .ok (.istore i, len)) (hI : mx_I E d M P K pc l st h (.istore i) len) : mx_V E d M pc l st h P := by
  obtain ⟨rfl, hI⟩ := hI
  obtain ⟨hi, hI⟩ := hI
  obtain ⟨x, t, rfl, hI⟩ := mi_i hI
  exact mv_istore hd hi (hK _ _ _ _ hI)
theorem mi__istore_n (hG : mx_G E) (hK : ∀ pc l st h, K pc l st h → mx_V E d M pc l st h P) {i : Fin 4} (hd : decode (mx_ca M.1) pc = .ok (.istore_n i, len)) (hI : mx_I E d M P K pc l st h (.istore_n i) len) : mx_V E d M pc l st h P := by
  obtain ⟨rfl, hI⟩ := hI
  obtain ⟨hi, hI⟩ := hI
  obtain ⟨x, t, rfl, hI⟩ := mi_i hI
  exact mv_istore_n hd hi (hK _ _ _ _ hI)
theorem mi__astore (hG : mx_G E) (hK : ∀ pc l st h, K pc l st h → mx_V E d M pc l st h P) {i : Nat} (hd : decode (mx_ca M.1) pc = .ok (.astore i, len)) (hI : mx_I E d M P K pc l st h (.astore i) len) : mx_V E d M pc l st h P := by
  obtain ⟨rfl, hI⟩ := hI
  obtain ⟨hi, hI⟩ := hI
  obtain ⟨x, t, rfl, hI⟩ := mi_r hI
  exact mv_astore hd hi (hK _ _ _ _ hI)
theorem mi__astore_n (hG : mx_G E) (hK : ∀ pc l st h, K pc l st h → mx_V E d M pc l st h P) {i : Fin 4} (hd : decode (mx_ca M.1) pc = .ok (.astore_n i, len)) (hI : mx_I E d M P K pc l st h (.astore_n i) len) : mx_V E d M pc l st h P := by
  obtain ⟨rfl, hI⟩ := hI
  obtain ⟨hi, hI⟩ := hI
  obtain ⟨x, t, rfl, hI⟩ := mi_r hI
  exact mv_astore_n hd hi (hK _ _ _ _ hI)
theorem mi__lstore (hG : mx_G E) (hK : ∀ pc l st h, K pc l st h → mx_V E d M pc l st h P) {i : Nat} (hd : decode (mx_ca M.1) pc = .ok (.lstore i, len)) (hI : mx_I E d M P K pc l st h (.lstore i) len) : mx_V E d M pc l st h P := by
  obtain ⟨rfl, hI⟩ := hI
  obtain ⟨hi, hI⟩ := hI
  obtain ⟨x, t, rfl, hI⟩ := mi_j1 hI
  exact mv_lstore hd hi (hK _ _ _ _ hI)
theorem mi__lstore_n (hG : mx_G E) (hK : ∀ pc l st h, K pc l st h → mx_V E d M pc l st h P) {i : Fin 4} (hd : decode (mx_ca M.1) pc = .ok (.lstore_n i, len)) (hI : mx_I E d M P K pc l st h (.lstore_n i) len) : mx_V E d M pc l st h P := by
  obtain ⟨rfl, hI⟩ := hI
  obtain ⟨hi, hI⟩ := hI
  obtain ⟨x, t, rfl, hI⟩ := mi_j1 hI
  exact mv_lstore_n hd hi (hK _ _ _ _ hI)
theorem mi__iinc (hG : mx_G E) (hK : ∀ pc l st h, K pc l st h → mx_V E d M pc l st h P) {i : Nat} {n : Int} (hd : decode (mx_ca M.1) pc = .ok (.iinc i n, len)) (hI : mx_I E d M P K pc l st h (.iinc i n) len) : mx_V E d M pc l st h P := by
  obtain ⟨rfl, hI⟩ := hI
  obtain ⟨hi, hI⟩ := hI
  obtain ⟨x, e, hI⟩ := mi_li hI
  exact mv_iinc hd hi e (hK _ _ _ _ hI)
theorem mi__iadd (hG : mx_G E) (hK : ∀ pc l st h, K pc l st h → mx_V E d M pc l st h P) (hd : decode (mx_ca M.1) pc = .ok (.iadd, len)) (hI : mx_I E d M P K pc l st h (.iadd) len) : mx_V E d M pc l st h P := by
  obtain ⟨rfl, hI⟩ := hI
  obtain ⟨x, y, t, rfl, hI⟩ := mi_ii hI
  exact mv_iadd hd (hK _ _ _ _ hI)
theorem mi__isub (hG : mx_G E) (hK : ∀ pc l st h, K pc l st h → mx_V E d M pc l st h P) (hd : decode (mx_ca M.1) pc = .ok (.isub, len)) (hI : mx_I E d M P K pc l st h (.isub) len) : mx_V E d M pc l st h P := by
  obtain ⟨rfl, hI⟩ := hI
  obtain ⟨x, y, t, rfl, hI⟩ := mi_ii hI
  exact mv_isub hd (hK _ _ _ _ hI)
theorem mi__imul (hG : mx_G E) (hK : ∀ pc l st h, K pc l st h → mx_V E d M pc l st h P) (hd : decode (mx_ca M.1) pc = .ok (.imul, len)) (hI : mx_I E d M P K pc l st h (.imul) len) : mx_V E d M pc l st h P := by
  obtain ⟨rfl, hI⟩ := hI
  obtain ⟨x, y, t, rfl, hI⟩ := mi_ii hI
  exact mv_imul hd (hK _ _ _ _ hI)
theorem mi__iand (hG : mx_G E) (hK : ∀ pc l st h, K pc l st h → mx_V E d M pc l st h P) (hd : decode (mx_ca M.1) pc = .ok (.iand, len)) (hI : mx_I E d M P K pc l st h (.iand) len) : mx_V E d M pc l st h P := by
  obtain ⟨rfl, hI⟩ := hI
  obtain ⟨x, y, t, rfl, hI⟩ := mi_ii hI
  exact mv_iand hd (hK _ _ _ _ hI)
theorem mi__ior (hG : mx_G E) (hK : ∀ pc l st h, K pc l st h → mx_V E d M pc l st h P) (hd : decode (mx_ca M.1) pc = .ok (.ior, len)) (hI : mx_I E d M P K pc l st h (.ior) len) : mx_V E d M pc l st h P := by
  obtain ⟨rfl, hI⟩ := hI
  obtain ⟨x, y, t, rfl, hI⟩ := mi_ii hI
  exact mv_ior hd (hK _ _ _ _ hI)
theorem mi__ixor (hG : mx_G E) (hK : ∀ pc l st h, K pc l st h → mx_V E d M pc l st h P) (hd : decode (mx_ca M.1) pc = .ok (.ixor, len)) (hI : mx_I E d M P K pc l st h (.ixor) len) : mx_V E d M pc l st h P := by
  obtain ⟨rfl, hI⟩ := hI
  obtain ⟨x, y, t, rfl, hI⟩ := mi_ii hI
  exact mv_ixor hd (hK _ _ _ _ hI)
theorem mi__ishl (hG : mx_G E) (hK : ∀ pc l st h, K pc l st h → mx_V E d M pc l st h P) (hd : decode (mx_ca M.1) pc = .ok (.ishl, len)) (hI : mx_I E d M P K pc l st h (.ishl) len) : mx_V E d M pc l st h P := by
  obtain ⟨rfl, hI⟩ := hI
  obtain ⟨x, y, t, rfl, hI⟩ := mi_ii hI
  exact mv_ishl hd (hK _ _ _ _ hI)
theorem mi__ishr (hG : mx_G E) (hK : ∀ pc l st h, K pc l st h → mx_V E d M pc l st h P) (hd : decode (mx_ca M.1) pc = .ok (.ishr, len)) (hI : mx_I E d M P K pc l st h (.ishr) len) : mx_V E d M pc l st h P := by
  obtain ⟨rfl, hI⟩ := hI
  obtain ⟨x, y, t, rfl, hI⟩ := mi_ii hI
  exact mv_ishr hd (hK _ _ _ _ hI)
theorem mi__iushr (hG : mx_G E) (hK : ∀ pc l st h, K pc l st h → mx_V E d M pc l st h P) (hd : decode (mx_ca M.1) pc = .ok (.iushr, len)) (hI : mx_I E d M P K pc l st h (.iushr) len) : mx_V E d M pc l st h P := by
  obtain ⟨rfl, hI⟩ := hI
  obtain ⟨x, y, t, rfl, hI⟩ := mi_ii hI
  exact mv_iushr hd (hK _ _ _ _ hI)
theorem mi__idiv (hG : mx_G E) (hK : ∀ pc l st h, K pc l st h → mx_V E d M pc l st h P) (hd : decode (mx_ca M.1) pc = .ok (.idiv, len)) (hI : mx_I E d M P K pc l st h (.idiv) len) : mx_V E d M pc l st h P := by
  obtain ⟨rfl, hI⟩ := hI
  obtain ⟨x, y, t, rfl, hy, hI⟩ := mi_ii hI
  exact mv_idiv hy hd (hK _ _ _ _ hI)
theorem mi__irem (hG : mx_G E) (hK : ∀ pc l st h, K pc l st h → mx_V E d M pc l st h P) (hd : decode (mx_ca M.1) pc = .ok (.irem, len)) (hI : mx_I E d M P K pc l st h (.irem) len) : mx_V E d M pc l st h P := by
  obtain ⟨rfl, hI⟩ := hI
  obtain ⟨x, y, t, rfl, hy, hI⟩ := mi_ii hI
  exact mv_irem hy hd (hK _ _ _ _ hI)
theorem mi__ineg (hG : mx_G E) (hK : ∀ pc l st h, K pc l st h → mx_V E d M pc l st h P) (hd : decode (mx_ca M.1) pc = .ok (.ineg, len)) (hI : mx_I E d M P K pc l st h (.ineg) len) : mx_V E d M pc l st h P := by
  obtain ⟨rfl, hI⟩ := hI
  obtain ⟨x, t, rfl, hI⟩ := mi_i hI
  exact mv_ineg hd (hK _ _ _ _ hI)
theorem mi__i2l (hG : mx_G E) (hK : ∀ pc l st h, K pc l st h → mx_V E d M pc l st h P) (hd : decode (mx_ca M.1) pc = .ok (.i2l, len)) (hI : mx_I E d M P K pc l st h (.i2l) len) : mx_V E d M pc l st h P := by
  obtain ⟨rfl, hI⟩ := hI
  obtain ⟨x, t, rfl, hI⟩ := mi_i hI
  exact mv_i2l hd (hK _ _ _ _ hI)
theorem mi__i2b (hG : mx_G E) (hK : ∀ pc l st h, K pc l st h → mx_V E d M pc l st h P) (hd : decode (mx_ca M.1) pc = .ok (.i2b, len)) (hI : mx_I E d M P K pc l st h (.i2b) len) : mx_V E d M pc l st h P := by
  obtain ⟨rfl, hI⟩ := hI
  obtain ⟨x, t, rfl, hI⟩ := mi_i hI
  exact mv_i2b hd (hK _ _ _ _ hI)
theorem mi__ladd (hG : mx_G E) (hK : ∀ pc l st h, K pc l st h → mx_V E d M pc l st h P) (hd : decode (mx_ca M.1) pc = .ok (.ladd, len)) (hI : mx_I E d M P K pc l st h (.ladd) len) : mx_V E d M pc l st h P := by
  obtain ⟨rfl, hI⟩ := hI
  obtain ⟨x, y, t, rfl, hI⟩ := mi_jj hI
  exact mv_ladd hd (hK _ _ _ _ hI)
theorem mi__lsub (hG : mx_G E) (hK : ∀ pc l st h, K pc l st h → mx_V E d M pc l st h P) (hd : decode (mx_ca M.1) pc = .ok (.lsub, len)) (hI : mx_I E d M P K pc l st h (.lsub) len) : mx_V E d M pc l st h P := by
  obtain ⟨rfl, hI⟩ := hI
  obtain ⟨x, y, t, rfl, hI⟩ := mi_jj hI
  exact mv_lsub hd (hK _ _ _ _ hI)
theorem mi__lmul (hG : mx_G E) (hK : ∀ pc l st h, K pc l st h → mx_V E d M pc l st h P) (hd : decode (mx_ca M.1) pc = .ok (.lmul, len)) (hI : mx_I E d M P K pc l st h (.lmul) len) : mx_V E d M pc l st h P := by
  obtain ⟨rfl, hI⟩ := hI
  obtain ⟨x, y, t, rfl, hI⟩ := mi_jj hI
  exact mv_lmul hd (hK _ _ _ _ hI)
theorem mi__lcmp (hG : mx_G E) (hK : ∀ pc l st h, K pc l st h → mx_V E d M pc l st h P) (hd : decode (mx_ca M.1) pc = .ok (.lcmp, len)) (hI : mx_I E d M P K pc l st h (.lcmp) len) : mx_V E d M pc l st h P := by
  obtain ⟨rfl, hI⟩ := hI
  obtain ⟨x, y, t, rfl, hI⟩ := mi_jj hI
  exact mv_lcmp hd (hK _ _ _ _ hI)
theorem mi__lrem (hG : mx_G E) (hK : ∀ pc l st h, K pc l st h → mx_V E d M pc l st h P) (hd : decode (mx_ca M.1) pc = .ok (.lrem, len)) (hI : mx_I E d M P K pc l st h (.lrem) len) : mx_V E d M pc l st h P := by
  obtain ⟨rfl, hI⟩ := hI
  obtain ⟨x, y, t, rfl, hy, hI⟩ := mi_jj hI
  exact mv_lrem hy hd (hK _ _ _ _ hI)
theorem mi__l2i (hG : mx_G E) (hK : ∀ pc l st h, K pc l st h → mx_V E d M pc l st h P) (hd : decode (mx_ca M.1) pc = .ok (.l2i, len)) (hI : mx_I E d M P K pc l st h (.l2i) len) : mx_V E d M pc l st h P := by
  obtain ⟨rfl, hI⟩ := hI
  obtain ⟨x, t, rfl, hI⟩ := mi_j1 hI
  exact mv_l2i hd (hK _ _ _ _ hI)
theorem mi__dup (hG : mx_G E) (hK : ∀ pc l st h, K pc l st h → mx_V E d M pc l st h P) (hd : decode (mx_ca M.1) pc = .ok (.dup, len)) (hI : mx_I E d M P K pc l st h (.dup) len) : mx_V E d M pc l st h P := by
  obtain ⟨rfl, hI⟩ := hI
  obtain ⟨v, t, rfl, hv, hI⟩ := mi_v hI
  exact mv_dup hv hd (hK _ _ _ _ hI)
theorem mi__pop (hG : mx_G E) (hK : ∀ pc l st h, K pc l st h → mx_V E d M pc l st h P) (hd : decode (mx_ca M.1) pc = .ok (.pop, len)) (hI : mx_I E d M P K pc l st h (.pop) len) : mx_V E d M pc l st h P := by
  obtain ⟨rfl, hI⟩ := hI
  obtain ⟨v, t, rfl, hv, hI⟩ := mi_v hI
  exact mv_pop hv hd (hK _ _ _ _ hI)
theorem mi__dup2 (hG : mx_G E) (hK : ∀ pc l st h, K pc l st h → mx_V E d M pc l st h P) (hd : decode (mx_ca M.1) pc = .ok (.dup2, len)) (hI : mx_I E d M P K pc l st h (.dup2) len) : mx_V E d M pc l st h P := by
  obtain ⟨rfl, hI⟩ := hI
  obtain ⟨v, w, t, rfl, hv, hw, hI⟩ := mi_vv hI
  exact mv_dup2 hv hw hd (hK _ _ _ _ hI)
theorem mi__if_eq (hG : mx_G E) (hK : ∀ pc l st h, K pc l st h → mx_V E d M pc l st h P) {off : Int} (hd : decode (mx_ca M.1) pc = .ok (.ifCond .eq off, len)) (hI : mx_I E d M P K pc l st h (.ifCond .eq off) len) : mx_V E d M pc l st h P := by
  obtain ⟨rfl, hI⟩ := hI
  obtain ⟨h0, hI⟩ := hI
  obtain ⟨x, t, rfl, hI1, hI2⟩ := mi_i hI
  exact mv_if_eq hd (mx_to_ok h0) (fun q => hK _ _ _ _ (hI1 q)) (fun q => hK _ _ _ _ (hI2 q))
theorem mi__icmp_eq (hG : mx_G E) (hK : ∀ pc l st h, K pc l st h → mx_V E d M pc l st h P) {off : Int} (hd : decode (mx_ca M.1) pc = .ok (.if_icmp .eq off, len)) (hI : mx_I E d M P K pc l st h (.if_icmp .eq off) len) : mx_V E d M pc l st h P := by
  obtain ⟨rfl, hI⟩ := hI
  obtain ⟨h0, hI⟩ := hI
  obtain ⟨x, y, t, rfl, hI1, hI2⟩ := mi_ii hI
  exact mv_icmp_eq hd (mx_to_ok h0) (fun q => hK _ _ _ _ (hI1 q)) (fun q => hK _ _ _ _ (hI2 q))
theorem mi__if_ne (hG : mx_G E) (hK : ∀ pc l st h, K pc l st h → mx_V E d M pc l st h P) {off : Int} (hd : decode (mx_ca M.1) pc = .ok (.ifCond .ne off, len)) (hI : mx_I E d M P K pc l st h (.ifCond .ne off) len) : mx_V E d M pc l st h P := by
  obtain ⟨rfl, hI⟩ := hI
  obtain ⟨h0, hI⟩ := hI
  obtain ⟨x, t, rfl, hI1, hI2⟩ := mi_i hI
  exact mv_if_ne hd (mx_to_ok h0) (fun q => hK _ _ _ _ (hI1 q)) (fun q => hK _ _ _ _ (hI2 q))
theorem mi__icmp_ne (hG : mx_G E) (hK : ∀ pc l st h, K pc l st h → mx_V E d M pc l st h P) {off : Int} (hd : decode (mx_ca M.1) pc = .ok (.if_icmp .ne off, len)) (hI : mx_I E d M P K pc l st h (.if_icmp .ne off) len) : mx_V E d M pc l st h P := by
  obtain ⟨rfl, hI⟩ := hI
  obtain ⟨h0, hI⟩ := hI
  obtain ⟨x, y, t, rfl, hI1, hI2⟩ := mi_ii hI
  exact mv_icmp_ne hd (mx_to_ok h0) (fun q => hK _ _ _ _ (hI1 q)) (fun q => hK _ _ _ _ (hI2 q))
theorem mi__if_lt (hG : mx_G E) (hK : ∀ pc l st h, K pc l st h → mx_V E d M pc l st h P) {off : Int} (hd : decode (mx_ca M.1) pc = .ok (.ifCond .lt off, len)) (hI : mx_I E d M P K pc l st h (.ifCond .lt off) len) : mx_V E d M pc l st h P := by
  obtain ⟨rfl, hI⟩ := hI
  obtain ⟨h0, hI⟩ := hI
  obtain ⟨x, t, rfl, hI1, hI2⟩ := mi_i hI
  exact mv_if_lt hd (mx_to_ok h0) (fun q => hK _ _ _ _ (hI1 q)) (fun q => hK _ _ _ _ (hI2 q))
theorem mi__icmp_lt (hG : mx_G E) (hK : ∀ pc l st h, K pc l st h → mx_V E d M pc l st h P) {off : Int} (hd : decode (mx_ca M.1) pc = .ok (.if_icmp .lt off, len)) (hI : mx_I E d M P K pc l st h (.if_icmp .lt off) len) : mx_V E d M pc l st h P := by
  obtain ⟨rfl, hI⟩ := hI
  obtain ⟨h0, hI⟩ := hI
  obtain ⟨x, y, t, rfl, hI1, hI2⟩ := mi_ii hI
  exact mv_icmp_lt hd (mx_to_ok h0) (fun q => hK _ _ _ _ (hI1 q)) (fun q => hK _ _ _ _ (hI2 q))
theorem mi__if_ge (hG : mx_G E) (hK : ∀ pc l st h, K pc l st h → mx_V E d M pc l st h P) {off : Int} (hd : decode (mx_ca M.1) pc = .ok (.ifCond .ge off, len)) (hI : mx_I E d M P K pc l st h (.ifCond .ge off) len) : mx_V E d M pc l st h P := by
  obtain ⟨rfl, hI⟩ := hI
  obtain ⟨h0, hI⟩ := hI
  obtain ⟨x, t, rfl, hI1, hI2⟩ := mi_i hI
  exact mv_if_ge hd (mx_to_ok h0) (fun q => hK _ _ _ _ (hI1 q)) (fun q => hK _ _ _ _ (hI2 q))
theorem mi__icmp_ge (hG : mx_G E) (hK : ∀ pc l st h, K pc l st h → mx_V E d M pc l st h P) {off : Int} (hd : decode (mx_ca M.1) pc = .ok (.if_icmp .ge off, len)) (hI : mx_I E d M P K pc l st h (.if_icmp .ge off) len) : mx_V E d M pc l st h P := by
  obtain ⟨rfl, hI⟩ := hI
  obtain ⟨h0, hI⟩ := hI
  obtain ⟨x, y, t, rfl, hI1, hI2⟩ := mi_ii hI
  exact mv_icmp_ge hd (mx_to_ok h0) (fun q => hK _ _ _ _ (hI1 q)) (fun q => hK _ _ _ _ (hI2 q))
theorem mi__if_gt (hG : mx_G E) (hK : ∀ pc l st h, K pc l st h → mx_V E d M pc l st h P) {off : Int} (hd : decode (mx_ca M.1) pc = .ok (.ifCond .gt off, len)) (hI : mx_I E d M P K pc l st h (.ifCond .gt off) len) : mx_V E d M pc l st h P := by
  obtain ⟨rfl, hI⟩ := hI
  obtain ⟨h0, hI⟩ := hI
  obtain ⟨x, t, rfl, hI1, hI2⟩ := mi_i hI
  exact mv_if_gt hd (mx_to_ok h0) (fun q => hK _ _ _ _ (hI1 q)) (fun q => hK _ _ _ _ (hI2 q))
theorem mi__icmp_gt (hG : mx_G E) (hK : ∀ pc l st h, K pc l st h → mx_V E d M pc l st h P) {off : Int} (hd : decode (mx_ca M.1) pc = .ok (.if_icmp .gt off, len)) (hI : mx_I E d M P K pc l st h (.if_icmp .gt off) len) : mx_V E d M pc l st h P := by
  obtain ⟨rfl, hI⟩ := hI
  obtain ⟨h0, hI⟩ := hI
  obtain ⟨x, y, t, rfl, hI1, hI2⟩ := mi_ii hI
  exact mv_icmp_gt hd (mx_to_ok h0) (fun q => hK _ _ _ _ (hI1 q)) (fun q => hK _ _ _ _ (hI2 q))
theorem mi__if_le (hG : mx_G E) (hK : ∀ pc l st h, K pc l st h → mx_V E d M pc l st h P) {off : Int} (hd : decode (mx_ca M.1) pc = .ok (.ifCond .le off, len)) (hI : mx_I E d M P K pc l st h (.ifCond .le off) len) : mx_V E d M pc l st h P := by
  obtain ⟨rfl, hI⟩ := hI
  obtain ⟨h0, hI⟩ := hI
  obtain ⟨x, t, rfl, hI1, hI2⟩ := mi_i hI
  exact mv_if_le hd (mx_to_ok h0) (fun q => hK _ _ _ _ (hI1 q)) (fun q => hK _ _ _ _ (hI2 q))
theorem mi__icmp_le (hG : mx_G E) (hK : ∀ pc l st h, K pc l st h → mx_V E d M pc l st h P) {off : Int} (hd : decode (mx_ca M.1) pc = .ok (.if_icmp .le off, len)) (hI : mx_I E d M P K pc l st h (.if_icmp .le off) len) : mx_V E d M pc l st h P := by
  obtain ⟨rfl, hI⟩ := hI
  obtain ⟨h0, hI⟩ := hI
  obtain ⟨x, y, t, rfl, hI1, hI2⟩ := mi_ii hI
  exact mv_icmp_le hd (mx_to_ok h0) (fun q => hK _ _ _ _ (hI1 q)) (fun q => hK _ _ _ _ (hI2 q))
theorem mi__goto (hG : mx_G E) (hK : ∀ pc l st h, K pc l st h → mx_V E d M pc l st h P) {off : Int} (hd : decode (mx_ca M.1) pc = .ok (.goto off, len)) (hI : mx_I E d M P K pc l st h (.goto off) len) : mx_V E d M pc l st h P := by
  obtain ⟨rfl, hI⟩ := hI
  obtain ⟨h0, hI⟩ := hI
  exact mv_goto hd (mx_to_ok h0) (hK _ _ _ _ hI)
theorem mi__iaload (hG : mx_G E) (hK : ∀ pc l st h, K pc l st h → mx_V E d M pc l st h P) (hd : decode (mx_ca M.1) pc = .ok (.iaload, len)) (hI : mx_I E d M P K pc l st h (.iaload) len) : mx_V E d M pc l st h P := by
  obtain ⟨rfl, hI⟩ := hI
  obtain ⟨i, a, t, rfl, n, hk, hi, hI⟩ := mi_ir hI
  rcases hk with hk | hk
  · exact mv_iaload hd hk (Or.inl rfl) hi (hK _ _ _ _ hI)
  · exact mv_iaload hd hk (Or.inr rfl) hi (hK _ _ _ _ hI)
theorem mi__baload (hG : mx_G E) (hK : ∀ pc l st h, K pc l st h → mx_V E d M pc l st h P) (hd : decode (mx_ca M.1) pc = .ok (.baload, len)) (hI : mx_I E d M P K pc l st h (.baload) len) : mx_V E d M pc l st h P := by
  obtain ⟨rfl, hI⟩ := hI
  obtain ⟨i, a, t, rfl, n, hk, hi, hI⟩ := mi_ir hI
  rcases hk with hk | hk
  · exact mv_baload hd hk rfl hi (hK _ _ _ _ hI)
  · exact mv_zaload hd hk rfl hi (hK _ _ _ _ hI)
theorem mi__laload (hG : mx_G E) (hK : ∀ pc l st h, K pc l st h → mx_V E d M pc l st h P) (hd : decode (mx_ca M.1) pc = .ok (.laload, len)) (hI : mx_I E d M P K pc l st h (.laload) len) : mx_V E d M pc l st h P := by
  obtain ⟨rfl, hI⟩ := hI
  obtain ⟨i, a, t, rfl, n, hk, hi, hI⟩ := mi_ir hI
  exact mv_laload hd hk rfl hi (hK _ _ _ _ hI)
theorem mi__aaload (hG : mx_G E) (hK : ∀ pc l st h, K pc l st h → mx_V E d M pc l st h P) (hd : decode (mx_ca M.1) pc = .ok (.aaload, len)) (hI : mx_I E d M P K pc l st h (.aaload) len) : mx_V E d M pc l st h P := by
  obtain ⟨rfl, hI⟩ := hI
  obtain ⟨i, a, t, rfl, n, hk, hi, hI⟩ := mi_ir hI
  obtain ⟨b, e, hI⟩ := mi_rv hI
  have k9 := hK _ _ _ _ hI
  rcases hk with hk | hk
  · exact mv_aaload hd hk rfl hi (by rw [e]; exact k9)
  · exact mv_oaload hd hk rfl hi (by rw [e]; exact k9)
theorem mi__iastore (hG : mx_G E) (hK : ∀ pc l st h, K pc l st h → mx_V E d M pc l st h P) (hd : decode (mx_ca M.1) pc = .ok (.iastore, len)) (hI : mx_I E d M P K pc l st h (.iastore) len) : mx_V E d M pc l st h P := by
  obtain ⟨rfl, hI⟩ := hI
  obtain ⟨x, i, a, t, rfl, n, hk, hi, hI⟩ := mi_xir hI
  exact mv_iastore hd hk hi (hK _ _ _ _ hI)
theorem mi__bastore (hG : mx_G E) (hK : ∀ pc l st h, K pc l st h → mx_V E d M pc l st h P) (hd : decode (mx_ca M.1) pc = .ok (.bastore, len)) (hI : mx_I E d M P K pc l st h (.bastore) len) : mx_V E d M pc l st h P := by
  obtain ⟨rfl, hI⟩ := hI
  obtain ⟨x, i, a, t, rfl, n, hk, hi, hI⟩ := mi_xir hI
  rcases hk with ⟨hk, hx⟩ | ⟨hk, hx⟩
  · exact mv_bastore hx hd hk hi (hK _ _ _ _ hI)
  · exact mv_zastore hx hd hk hi (hK _ _ _ _ hI)
theorem mi__lastore (hG : mx_G E) (hK : ∀ pc l st h, K pc l st h → mx_V E d M pc l st h P) (hd : decode (mx_ca M.1) pc = .ok (.lastore, len)) (hI : mx_I E d M P K pc l st h (.lastore) len) : mx_V E d M pc l st h P := by
  obtain ⟨rfl, hI⟩ := hI
  obtain ⟨x, i, a, t, rfl, n, hk, hi, hI⟩ := mi_jir hI
  exact mv_lastore hd hk hi (hK _ _ _ _ hI)
theorem mi__aastore (hG : mx_G E) (hK : ∀ pc l st h, K pc l st h → mx_V E d M pc l st h P) (hd : decode (mx_ca M.1) pc = .ok (.aastore, len)) (hI : mx_I E d M P K pc l st h (.aastore) len) : mx_V E d M pc l st h P := by
  obtain ⟨rfl, hI⟩ := hI
  obtain ⟨x, i, a, t, rfl, n, n7, hk, hv, hi, hI⟩ := mi_rir hI
  exact mv_aastore hG hd hk hv hi (hK _ _ _ _ hI)
theorem mi__arraylength (hG : mx_G E) (hK : ∀ pc l st h, K pc l st h → mx_V E d M pc l st h P) (hd : decode (mx_ca M.1) pc = .ok (.arraylength, len)) (hI : mx_I E d M P K pc l st h (.arraylength) len) : mx_V E d M pc l st h P := by
  obtain ⟨rfl, hI⟩ := hI
  obtain ⟨a, t, rfl, k, n, hk, h20, h27, hI⟩ := mi_r hI
  have ht : ∃ ty, mx_ty k = some ty := by
    rcases (show k = 20 ∨ k = 21 ∨ k = 22 ∨ k = 23 ∨ k = 24 ∨ k = 25 ∨ k = 26 by omega) with rfl | rfl | rfl | rfl | rfl | rfl | rfl <;> exact ⟨_, rfl⟩
  obtain ⟨ty, ht⟩ := ht
  exact mv_arraylength hd hk ht (hK _ _ _ _ hI)
theorem mi__getfield (hG : mx_G E) (hK : ∀ pc l st h, K pc l st h → mx_V E d M pc l st h P) {idx : Nat} (hd : decode (mx_ca M.1) pc = .ok (.getfield idx, len)) (hI : mx_I E d M P K pc l st h (.getfield idx) len) : mx_V E d M pc l st h P := by
  obtain ⟨rfl, hI⟩ := hI
  obtain ⟨a, t, rfl, ⟨ci, k, tag⟩, hf, ⟨n, hk⟩, hI⟩ := mi_r hI
  obtain ⟨-, htg, -⟩ := mx_fl_some hf
  dsimp only at hf hk hI
  refine mv_getfield hG hd hf hk ?_
  by_cases q : tag % 10 = 2
  · rw [if_pos q] at hI
    obtain ⟨b, e, hI⟩ := mi_rv hI
    have hrf : mx_rf ci k = true := by
      unfold mx_tg at htg
      split at htg <;> simp [q] at htg <;> exact htg.1
    have e9 : mx_fv h ci a k = .ref b := by simp [mx_fv, hrf, e, va_rf]
    rw [e9]
    exact hK _ _ _ _ hI
  · rw [if_neg q] at hI
    have hrf : mx_rf ci k = false := by
      unfold mx_tg at htg
      split at htg <;> simp [q] at htg <;> simp [htg]
    have e9 : mx_fv h ci a k = .int (h.2.2.2.1 a k) := by simp [mx_fv, hrf]
    rw [e9]
    exact hK _ _ _ _ hI
theorem mi__putfield (hG : mx_G E) (hK : ∀ pc l st h, K pc l st h → mx_V E d M pc l st h P) {idx : Nat} (hd : decode (mx_ca M.1) pc = .ok (.putfield idx, len)) (hI : mx_I E d M P K pc l st h (.putfield idx) len) : mx_V E d M pc l st h P := by
  obtain ⟨rfl, hI⟩ := hI
  obtain ⟨⟨ci, k, tag⟩, hf, hfin, hI⟩ := hI
  obtain ⟨-, htg, -⟩ := mx_fl_some hf
  dsimp only at hf hfin hI
  rcases mi_xr hI with ⟨x, a, t, rfl, ⟨n, hk⟩, hs, hI⟩ | ⟨x, a, t, rfl, ⟨n, hk⟩, hs, hI⟩
  · have hrf : mx_rf ci k = false ∧ narrow (mx_Y ci k) (.int x) = .int x ∧ fits (mx_Y ci k) (.int x) = true := by
      unfold mx_tg at htg
      split at htg
      · rename_i e9
        rw [e9]
        simp at htg
        exact ⟨htg.1.2, rfl, rfl⟩
      · rename_i e9
        rw [e9]
        simp at htg
        rcases hs with hs | ⟨hs, hn⟩
        · omega
        · rcases hn with hn | hn <;> (subst hn; exact ⟨htg.1.2, rfl, rfl⟩)
      · simp at htg
        omega
      · simp at htg
        omega
      · cases htg
    refine mv_putfield (h' := mx_si h a k x) hG hd hf hk hfin hrf.2.1 hrf.2.2 rfl rfl rfl (fun b hb => mx_up2_o _ _ hb) (fun b hb => rfl) (fun b hb => rfl) (fun j => ?_) (hK _ _ _ _ hI)
    unfold updV mx_fv mx_si
    by_cases q : j = k
    · subst q
      simp [hrf.1, mx_up2]
    · simp [q, mx_up2]
  · have hrf : mx_rf ci k = true ∧ narrow (mx_Y ci k) (.ref x) = .ref x ∧ fits (mx_Y ci k) (.ref x) = true := by
      unfold mx_tg at htg
      split at htg
      · simp at htg
        omega
      · simp at htg
        omega
      · rename_i e9
        rw [e9]
        simp at htg
        exact ⟨htg.1.2, rfl, rfl⟩
      · rename_i e9
        rw [e9]
        simp at htg
        exact ⟨htg.1.2, rfl, rfl⟩
      · cases htg
    refine mv_putfield (h' := mx_sr h a k (some x)) hG hd hf hk hfin hrf.2.1 hrf.2.2 rfl rfl rfl (fun b hb => rfl) (fun b hb => mx_up2_o _ _ hb) (fun b hb => rfl) (fun j => ?_) (hK _ _ _ _ hI)
    unfold updV mx_fv mx_sr
    by_cases q : j = k
    · subst q
      simp [hrf.1, mx_up2, va_rf]
    · simp [q, mx_up2]
theorem mi__new (hG : mx_G E) (hK : ∀ pc l st h, K pc l st h → mx_V E d M pc l st h P) {idx : Nat} (hd : decode (mx_ca M.1) pc = .ok (.new idx, len)) (hI : mx_I E d M P K pc l st h (.new idx) len) : mx_V E d M pc l st h P := by
  obtain ⟨rfl, hI⟩ := hI
  cases hx : mx_xi M.2.1 idx with
  | some x =>
    rw [hx] at hI
    obtain ⟨h1, h2, h3, h4, h5, h6, h7, h8, h9⟩ := hI
    obtain ⟨e1, rfl⟩ := mx_xi_some hx
    exact mv_throw hG h1 e1 h2 hd h3 h4 h5 (by rw [← mx_sz_c]; exact h6) h7 h8 h9
  | none =>
    rw [hx] at hI
    obtain ⟨⟨ci, n⟩, h1, h2, h3, hI⟩ := hI
    exact mv_new hG hd h1 h2 h3 (hK _ _ _ _ hI)
theorem mi__newarray_int (hG : mx_G E) (hK : ∀ pc l st h, K pc l st h → mx_V E d M pc l st h P) (hd : decode (mx_ca M.1) pc = .ok (.newarray .int, len)) (hI : mx_I E d M P K pc l st h (.newarray .int) len) : mx_V E d M pc l st h P := by
  obtain ⟨rfl, hI⟩ := hI
  obtain ⟨n, t, rfl, h1, h2, h3, h4, hI⟩ := mi_i hI
  exact mv_newarray_int hG hd h1 rfl h2 h3 h4 (hK _ _ _ _ hI)
theorem mi__newarray_byte (hG : mx_G E) (hK : ∀ pc l st h, K pc l st h → mx_V E d M pc l st h P) (hd : decode (mx_ca M.1) pc = .ok (.newarray .byte, len)) (hI : mx_I E d M P K pc l st h (.newarray .byte) len) : mx_V E d M pc l st h P := by
  obtain ⟨rfl, hI⟩ := hI
  obtain ⟨n, t, rfl, h1, h2, h3, h4, hI⟩ := mi_i hI
  exact mv_newarray_byte hG hd h1 rfl h2 h3 h4 (hK _ _ _ _ hI)
theorem mi__newarray_boolean (hG : mx_G E) (hK : ∀ pc l st h, K pc l st h → mx_V E d M pc l st h P) (hd : decode (mx_ca M.1) pc = .ok (.newarray .boolean, len)) (hI : mx_I E d M P K pc l st h (.newarray .boolean) len) : mx_V E d M pc l st h P := by
  obtain ⟨rfl, hI⟩ := hI
  obtain ⟨n, t, rfl, h1, h2, h3, h4, hI⟩ := mi_i hI
  exact mv_newarray_boolean hG hd h1 rfl h2 h3 h4 (hK _ _ _ _ hI)
theorem mi__newarray_long (hG : mx_G E) (hK : ∀ pc l st h, K pc l st h → mx_V E d M pc l st h P) (hd : decode (mx_ca M.1) pc = .ok (.newarray .long, len)) (hI : mx_I E d M P K pc l st h (.newarray .long) len) : mx_V E d M pc l st h P := by
  obtain ⟨rfl, hI⟩ := hI
  obtain ⟨n, t, rfl, h1, h2, h3, h4, hI⟩ := mi_i hI
  exact mv_newarray_long hG hd h1 rfl h2 h3 h4 (hK _ _ _ _ hI)
theorem mi__anewarray (hG : mx_G E) (hK : ∀ pc l st h, K pc l st h → mx_V E d M pc l st h P) {idx : Nat} (hd : decode (mx_ca M.1) pc = .ok (.anewarray idx, len)) (hI : mx_I E d M P K pc l st h (.anewarray idx) len) : mx_V E d M pc l st h P := by
  obtain ⟨rfl, hI⟩ := hI
  obtain ⟨h0, hI⟩ := hI
  obtain ⟨n, t, rfl, h1, h2, h3, h4, hI⟩ := mi_i hI
  exact mv_anewarray hG hd h0 h1 rfl h2 h3 h4 (hK _ _ _ _ hI)
theorem mi__multianewarray (hG : mx_G E) (hK : ∀ pc l st h, K pc l st h → mx_V E d M pc l st h P) {idx dims : Nat} (hd : decode (mx_ca M.1) pc = .ok (.multianewarray idx dims, len)) (hI : mx_I E d M P K pc l st h (.multianewarray idx dims) len) : mx_V E d M pc l st h P := by
  obtain ⟨rfl, hI⟩ := hI
  obtain ⟨rfl, h0, hI⟩ := hI
  obtain ⟨n, k, t, rfl, h1, h2, h3, h4, h5, h6, hI⟩ := mi_ii hI
  exact mv_multianewarray hG hd h0 h1 h2 rfl rfl h3 h4 h5 h6 (hK _ _ _ _ hI)
theorem mi__getstatic (hG : mx_G E) (hK : ∀ pc l st h, K pc l st h → mx_V E d M pc l st h P) {idx : Nat} (hd : decode (mx_ca M.1) pc = .ok (.getstatic idx, len)) (hI : mx_I E d M P K pc l st h (.getstatic idx) len) : mx_V E d M pc l st h P := by
  obtain ⟨rfl, hI⟩ := hI
  obtain ⟨rfl, h0, hI⟩ := hI
  exact mv_getstatic hG hd h0 (hK _ _ _ _ hI)
theorem mi__ldc (hG : mx_G E) (hK : ∀ pc l st h, K pc l st h → mx_V E d M pc l st h P) {idx : Nat} (hd : decode (mx_ca M.1) pc = .ok (.ldc idx, len)) (hI : mx_I E d M P K pc l st h (.ldc idx) len) : mx_V E d M pc l st h P := by
  obtain ⟨rfl, hI⟩ := hI
  obtain ⟨x, h0, hI⟩ := hI
  exact mv_ldc hG hd h0 (hK _ _ _ _ hI)
theorem mi__ldc_w (hG : mx_G E) (hK : ∀ pc l st h, K pc l st h → mx_V E d M pc l st h P) {idx : Nat} (hd : decode (mx_ca M.1) pc = .ok (.ldc_w idx, len)) (hI : mx_I E d M P K pc l st h (.ldc_w idx) len) : mx_V E d M pc l st h P := by
  obtain ⟨rfl, hI⟩ := hI
  obtain ⟨x, h0, hI⟩ := hI
  exact mv_ldcw hG hd h0 (hK _ _ _ _ hI)
theorem mi__ldc2_w (hG : mx_G E) (hK : ∀ pc l st h, K pc l st h → mx_V E d M pc l st h P) {idx : Nat} (hd : decode (mx_ca M.1) pc = .ok (.ldc2_w idx, len)) (hI : mx_I E d M P K pc l st h (.ldc2_w idx) len) : mx_V E d M pc l st h P := by
  obtain ⟨rfl, hI⟩ := hI
  obtain ⟨x, h0, hI⟩ := hI
  exact mv_ldc2 hG hd h0 (hK _ _ _ _ hI)
theorem mi__ireturn (hG : mx_G E) (hK : ∀ pc l st h, K pc l st h → mx_V E d M pc l st h P) (hd : decode (mx_ca M.1) pc = .ok (.ireturn, len)) (hI : mx_I E d M P K pc l st h (.ireturn) len) : mx_V E d M pc l st h P := by
  obtain ⟨rfl, hI⟩ := hI
  obtain ⟨ty, v, h1, rfl, h2, hI⟩ := hI
  exact mv_ireturn hd h1 h2 hI
theorem mi__return_ (hG : mx_G E) (hK : ∀ pc l st h, K pc l st h → mx_V E d M pc l st h P) (hd : decode (mx_ca M.1) pc = .ok (.return_, len)) (hI : mx_I E d M P K pc l st h (.return_) len) : mx_V E d M pc l st h P := by
  obtain ⟨rfl, hI⟩ := hI
  obtain ⟨h1, rfl, hI⟩ := hI
  exact mv_return hd h1 hI
theorem mi__invokestatic (hG : mx_G E) (hK : ∀ pc l st h, K pc l st h → mx_V E d M pc l st h P) {idx : Nat} (hd : decode (mx_ca M.1) pc = .ok (.invokestatic idx, len)) (hI : mx_I E d M P K pc l st h (.invokestatic idx) len) : mx_V E d M pc l st h P := by
  obtain ⟨rfl, hI⟩ := hI
  by_cases q : mx_cp M.2.1 idx = true
  · rw [if_pos q] at hI
    obtain ⟨a, sp, b, dp, n, t, rfl, na, nb, h1, h2, h3, h4, h5, h6, h7, h8, hI⟩ := mi_cp5 hI
    exact mv_arraycopy hG hd q (by rw [← mx_sz_c]; exact h1) h2 h3 h4 h5 h6 h7 h8 (hK _ _ _ _ hI)
  · rw [if_neg q] at hI
    obtain ⟨j, g, h1, h2, h3, h4, h5, h6, d2, rfl, ⟨e, he, hI⟩⟩ := hI
    obtain ⟨e', he', g1, g2, g3, -⟩ := mi_sg h2 (by omega)
    cases he.symm.trans he'
    have hst : st = ((st.take g.1).reverse).reverse ++ st.drop g.1 := by rw [List.reverse_reverse, List.take_append_drop]
    rw [hst]
    refine mv_invokestatic hG hd h1 he (by omega) (by rw [List.length_reverse, List.length_take, g1]; omega) (by rw [← mx_sz_l, g3]; exact h5) (by rw [← mx_sz_c]; exact h6) hI (fun v h9 q9 => hK _ _ _ _ q9) (fun x h9 q9 => q9)
theorem mi__invokevirtual (hG : mx_G E) (hK : ∀ pc l st h, K pc l st h → mx_V E d M pc l st h P) {idx : Nat} (hd : decode (mx_ca M.1) pc = .ok (.invokevirtual idx, len)) (hI : mx_I E d M P K pc l st h (.invokevirtual idx) len) : mx_V E d M pc l st h P := by
  obtain ⟨rfl, hI⟩ := hI
  obtain ⟨j, g, h1, h2, h3, h4, h5, hI⟩ := hI
  obtain ⟨b, rest, hst, ⟨n, hb⟩, h6, h7, d2, rfl, ⟨e, he, hI⟩⟩ := mi_vr hI
  obtain ⟨e', he', g1, g2, g3, g4⟩ := mi_sg h2 (by omega)
  cases he.symm.trans he'
  rw [hst]
  have hrr : st.take g.1 = ((st.take g.1).reverse).reverse := by rw [List.reverse_reverse]
  rw [hrr]
  refine mv_invokevirtual hG hd h1 he (by omega) (by rw [List.length_reverse, List.length_take, g1]; omega) (by rw [← mx_sz_l, g3]; exact h6) hb h5 (g4 h5) (by rw [← mx_sz_c]; exact h7) hI (fun v h9 q9 => hK _ _ _ _ q9) (fun x h9 q9 => q9)
theorem mi__invokespecial (hG : mx_G E) (hK : ∀ pc l st h, K pc l st h → mx_V E d M pc l st h P) {idx : Nat} (hd : decode (mx_ca M.1) pc = .ok (.invokespecial idx, len)) (hI : mx_I E d M P K pc l st h (.invokespecial idx) len) : mx_V E d M pc l st h P := by
  obtain ⟨rfl, hI⟩ := hI
  by_cases q : mx_oi M.2.1 idx = true
  · rw [if_pos q] at hI
    obtain ⟨a, t, rfl, h1, hI⟩ := mi_r hI
    exact mv_objInit hG hd q (by rw [← mx_sz_c]; exact h1) (hK _ _ _ _ hI)
  · rw [if_neg q] at hI
    obtain ⟨j, g, h1, h2, h3, h4, hI⟩ := hI
    obtain ⟨b, rest, hst, h6, h7, d2, rfl, ⟨e, he, hI⟩⟩ := mi_vr hI
    obtain ⟨e', he', g1, g2, g3, g4⟩ := mi_sg h2 (by omega)
    cases he.symm.trans he'
    rw [hst]
    have hrr : st.take g.1 = ((st.take g.1).reverse).reverse := by rw [List.reverse_reverse]
    rw [hrr]
    refine mv_invokeinit hG hd h1 he (by omega) (by rw [List.length_reverse, List.length_take, g1]; omega) (by rw [← mx_sz_l, g3]; exact h6) (by rw [← mx_sz_c]; exact h7) hI (fun v h9 q9 => hK _ _ _ _ q9) (fun x h9 q9 => q9)
theorem mi__tableswitch (hG : mx_G E) (hK : ∀ pc l st h, K pc l st h → mx_V E d M pc l st h P) {dflt lo hi : Int} {offs : Array Int} (hd : decode (mx_ca M.1) pc = .ok (.tableswitch dflt lo hi offs, len)) (hI : mx_I E d M P K pc l st h (.tableswitch dflt lo hi offs) len) : mx_V E d M pc l st h P := by
  obtain ⟨x, t, rfl, h1, h2⟩ := mi_i hI
  by_cases q : x.toInt < lo ∨ hi < x.toInt
  · exact mv_tableOut hd q (mx_to_ok (h1 q).1) (hK _ _ _ _ (h1 q).2)
  · obtain ⟨off, h3, h4, h5⟩ := h2 q
    exact mv_tableIn hd (fun w => q (Or.inl w)) (fun w => q (Or.inr w)) h3 (mx_to_ok h4) (hK _ _ _ _ h5)
theorem mi__lookupswitch (hG : mx_G E) (hK : ∀ pc l st h, K pc l st h → mx_V E d M pc l st h P) {dflt : Int} {ps : Array (Int × Int)} (hd : decode (mx_ca M.1) pc = .ok (.lookupswitch dflt ps, len)) (hI : mx_I E d M P K pc l st h (.lookupswitch dflt ps) len) : mx_V E d M pc l st h P := by
  obtain ⟨h0, hI⟩ := hI
  obtain ⟨x, t, rfl, h1, h2⟩ := mi_i hI
  exact mv_lookup hd h0 rfl (mx_to_ok h1) (hK _ _ _ _ h2)
theorem mx_I_ok (hG : mx_G E) (hK : ∀ pc l st h, K pc l st h → mx_V E d M pc l st h P) {i : Instr} (hd : decode (mx_ca M.1) pc = .ok (i, len)) (hI : mx_I E d M P K pc l st h i len) : mx_V E d M pc l st h P := by
  cases i with
  | ifCond c off => cases c with
    | eq => exact mi__if_eq hG hK hd hI
    | ne => exact mi__if_ne hG hK hd hI
    | lt => exact mi__if_lt hG hK hd hI
    | ge => exact mi__if_ge hG hK hd hI
    | gt => exact mi__if_gt hG hK hd hI
    | le => exact mi__if_le hG hK hd hI
  | if_icmp c off => cases c with
    | eq => exact mi__icmp_eq hG hK hd hI
    | ne => exact mi__icmp_ne hG hK hd hI
    | lt => exact mi__icmp_lt hG hK hd hI
    | ge => exact mi__icmp_ge hG hK hd hI
    | gt => exact mi__icmp_gt hG hK hd hI
    | le => exact mi__icmp_le hG hK hd hI
  | newarray t => cases t with
    | int => exact mi__newarray_int hG hK hd hI
    | byte => exact mi__newarray_byte hG hK hd hI
    | boolean => exact mi__newarray_boolean hG hK hd hI
    | long => exact mi__newarray_long hG hK hd hI
    | _ => exact hI.elim
  | iconst _ => exact mi__iconst hG hK hd hI
  | bipush _ => exact mi__bipush hG hK hd hI
  | sipush _ => exact mi__sipush hG hK hd hI
  | lconst _ => exact mi__lconst hG hK hd hI
  | iload _ => exact mi__iload hG hK hd hI
  | iload_n _ => exact mi__iload_n hG hK hd hI
  | aload _ => exact mi__aload hG hK hd hI
  | aload_n _ => exact mi__aload_n hG hK hd hI
  | lload _ => exact mi__lload hG hK hd hI
  | lload_n _ => exact mi__lload_n hG hK hd hI
  | istore _ => exact mi__istore hG hK hd hI
  | istore_n _ => exact mi__istore_n hG hK hd hI
  | astore _ => exact mi__astore hG hK hd hI
  | astore_n _ => exact mi__astore_n hG hK hd hI
  | lstore _ => exact mi__lstore hG hK hd hI
  | lstore_n _ => exact mi__lstore_n hG hK hd hI
  | iinc _ _ => exact mi__iinc hG hK hd hI
  | iadd => exact mi__iadd hG hK hd hI
  | isub => exact mi__isub hG hK hd hI
  | imul => exact mi__imul hG hK hd hI
  | iand => exact mi__iand hG hK hd hI
  | ior => exact mi__ior hG hK hd hI
  | ixor => exact mi__ixor hG hK hd hI
  | ishl => exact mi__ishl hG hK hd hI
  | ishr => exact mi__ishr hG hK hd hI
  | iushr => exact mi__iushr hG hK hd hI
  | idiv => exact mi__idiv hG hK hd hI
  | irem => exact mi__irem hG hK hd hI
  | ineg => exact mi__ineg hG hK hd hI
  | ladd => exact mi__ladd hG hK hd hI
  | lsub => exact mi__lsub hG hK hd hI
  | lmul => exact mi__lmul hG hK hd hI
  | lrem => exact mi__lrem hG hK hd hI
  | lcmp => exact mi__lcmp hG hK hd hI
  | i2l => exact mi__i2l hG hK hd hI
  | l2i => exact mi__l2i hG hK hd hI
  | i2b => exact mi__i2b hG hK hd hI
  | dup => exact mi__dup hG hK hd hI
  | pop => exact mi__pop hG hK hd hI
  | dup2 => exact mi__dup2 hG hK hd hI
  | goto _ => exact mi__goto hG hK hd hI
  | iaload => exact mi__iaload hG hK hd hI
  | baload => exact mi__baload hG hK hd hI
  | laload => exact mi__laload hG hK hd hI
  | aaload => exact mi__aaload hG hK hd hI
  | iastore => exact mi__iastore hG hK hd hI
  | bastore => exact mi__bastore hG hK hd hI
  | lastore => exact mi__lastore hG hK hd hI
  | aastore => exact mi__aastore hG hK hd hI
  | arraylength => exact mi__arraylength hG hK hd hI
  | getfield _ => exact mi__getfield hG hK hd hI
  | putfield _ => exact mi__putfield hG hK hd hI
  | new _ => exact mi__new hG hK hd hI
  | anewarray _ => exact mi__anewarray hG hK hd hI
  | multianewarray _ _ => exact mi__multianewarray hG hK hd hI
  | getstatic _ => exact mi__getstatic hG hK hd hI
  | ldc _ => exact mi__ldc hG hK hd hI
  | ldc_w _ => exact mi__ldc_w hG hK hd hI
  | ldc2_w _ => exact mi__ldc2_w hG hK hd hI
  | ireturn => exact mi__ireturn hG hK hd hI
  | return_ => exact mi__return_ hG hK hd hI
  | invokestatic _ => exact mi__invokestatic hG hK hd hI
  | invokevirtual _ => exact mi__invokevirtual hG hK hd hI
  | invokespecial _ => exact mi__invokespecial hG hK hd hI
  | tableswitch _ _ _ _ => exact mi__tableswitch hG hK hd hI
  | lookupswitch _ _ => exact mi__lookupswitch hG hK hd hI
  | _ => exact hI.elim
/-- what is owed from here to the next cut (the places S, where Q is owed), within n instructions -/
def mx_wp (E : mx_E) (d : Nat) (M : mx_M) (P : mx_O → mx_H → Prop) (S : List Nat) (Q : Nat → mx_L → List Value → mx_H → Prop) : Nat → Nat → mx_L → List Value → mx_H → Prop
  | 0, _, _, _, _ => False
  | n + 1, pc, l, st, h => if pc ∈ S then Q pc l st h else match decode (mx_ca M.1) pc with
    | .ok (i, len) => mx_I E d M P (mx_wp E d M P S Q n) pc l st h i len
    | .error _ => False
theorem mx_wp_ok (hG : mx_G E) {S : List Nat} {Q : Nat → mx_L → List Value → mx_H → Prop} (hQ : ∀ pc l st h, pc ∈ S → Q pc l st h → mx_V E d M pc l st h P) : ∀ n pc l st h, mx_wp E d M P S Q n pc l st h → mx_V E d M pc l st h P := by
  intro n
  induction n with
  | zero => intro pc l st h hw; exact hw.elim
  | succ n ih =>
    intro pc l st h hw
    unfold mx_wp at hw
    by_cases q : pc ∈ S
    · rw [if_pos q] at hw
      exact hQ pc l st h q hw
    · rw [if_neg q] at hw
      cases hd : decode (mx_ca M.1) pc with
      | error e9 => rw [hd] at hw; exact hw.elim
      | ok il =>
        obtain ⟨i, len⟩ := il
        rw [hd] at hw
        exact mx_I_ok hG ih hd hw
/-- one instruction, then on: from a cut -/
def mx_w1 (E : mx_E) (d : Nat) (M : mx_M) (P : mx_O → mx_H → Prop) (S : List Nat) (Q : Nat → mx_L → List Value → mx_H → Prop) (n pc : Nat) (l : mx_L) (st : List Value) (h : mx_H) : Prop := match decode (mx_ca M.1) pc with
  | .ok (i, len) => mx_I E d M P (mx_wp E d M P S Q n) pc l st h i len
  | .error _ => False
theorem mx_w1_ok (hG : mx_G E) {S : List Nat} {Q : Nat → mx_L → List Value → mx_H → Prop} (hQ : ∀ pc l st h, pc ∈ S → Q pc l st h → mx_V E d M pc l st h P) {n : Nat} (hw : mx_w1 E d M P S Q n pc l st h) : mx_V E d M pc l st h P := by
  unfold mx_w1 at hw
  cases hd : decode (mx_ca M.1) pc with
  | error e9 => rw [hd] at hw; exact hw.elim
  | ok il =>
    obtain ⟨i, len⟩ := il
    rw [hd] at hw
    exact mx_I_ok hG (mx_wp_ok hG hQ n) hd hw
end MI
