/-! exceptions: thrown by 'throw new E()', going out, caught -/
/-- the same frame, the method begun anew in this heap -/
theorem mx_reb {p : Program} {l : Launch} {e : Env} {R R' : Room} {s : State} {m : MethodId} {args : Array Value} {below : List Frame} {meth : Method} {c : Code} {T : State} {locs : List Loc} {cells slots : Nat}
    (X : Stand p l e R s m args below meth c T locs cells slots) (hf : R'.frames ≤ R.frames) (hl : R'.locals ≤ R.locals) (hc : cells + R'.cells ≤ R.cells) (hs : slots + R'.slots ≤ R.slots) :
    Stand p l e R' ((T.setVm s.vm).setFrames (.invoking m args :: below)) m args below meth c T [] 0 0 := by
  obtain ⟨g₀, hr⟩ := X.frames_eq
  have hr' : (T.setVm s.vm).frames = .java g₀ :: below := hr
  have hcur := State.cur_lt_of_frames hr'
  have hF : ((T.setVm s.vm).setFrames (.invoking m args :: below)).frames = .invoking m args :: below := State.frames_setFrames _ hcur
  have e1 : e.platform.stackLimits (T.setVm s.vm).me = e.platform.stackLimits s.me := X.limits
  have e2 : (T.setVm s.vm).me.stackBytes = s.me.stackBytes := X.bytes
  obtain ⟨th, hth, -⟩ := State.frames_cons hr'
  refine ⟨X.admits, X.cas, X.clock, hF, ?_, X.hears, X.method, X.code, X.here, X.tail, X.warmed, (State.stackLimits_setFrames ..).symm ▸ rfl, (State.stackBytes_setFrames ..).symm ▸ rfl, ?_⟩
  · have hroom := X.room
    have hU : ((T.setVm s.vm).setFrames (.invoking m args :: below)).localsInUse = s.localsInUse :=
      (State.localsInUse_invoking hF (meth := meth) (c := c) X.method X.code).trans (State.localsInUse_invoking X.frames X.method X.code).symm
    have hsz := X.heapSize
    have hus := X.used
    have hbk := X.book
    unfold State.hasRoom at hroom ⊢
    simp only [Bool.and_eq_true, decide_eq_true_eq] at hroom ⊢
    rw [hF, hU, State.stackLimits_setFrames, State.stackBytes_setFrames, e1, e2]
    rw [X.frames] at hroom
    obtain ⟨⟨⟨⟨r1, r2, r3, r4, r5, r6⟩, r7⟩, r8⟩, -⟩ := hroom
    refine ⟨⟨⟨⟨by omega, by omega, by omega, by omega, by omega, r6⟩, ?_⟩, ?_⟩, hbk⟩
    · show T.heap.size + _ ≤ _
      omega
    · show T.slotsUsed + _ ≤ _
      omega
  · have h9 := (State.sameButNew.refl (T.setVm s.vm) hth)
    have h8 : ((T.setVm s.vm).setFrames (.invoking m args :: below)).sameButNew (((T.setVm s.vm).setFrames (.invoking m args :: below)).setFrames (T.setVm s.vm).frames) [] 0 0 := by
      have hth2 : ∃ th2, ((T.setVm s.vm).setFrames (.invoking m args :: below)).threads[((T.setVm s.vm).setFrames (.invoking m args :: below)).cur]? = some th2 := by
        obtain ⟨th2, h2, -⟩ := State.frames_cons hF
        exact ⟨th2, h2⟩
      obtain ⟨th2, h2⟩ := hth2
      exact (State.sameButNew.refl _ h2).setFrames _ (State.cur_lt_of_frames hF)
    rw [State.setFrames_setFrames, State.setFrames_self hth] at h8
    exact h8
/-- what was there before the law is as it was, also at this method's start -/
theorem mx_old {E : mx_E} {p : Program} {l : Launch} {e : Env} {R : Room} {s : State} {m : MethodId} {args : Array Value} {below : List Frame} {meth : Method} {c : Code} {T : State} {locs : List Loc} {cells slots : Nat}
    (X : Stand p l e R s m args below meth c T locs cells slots) (hT : ∀ q, q < E.2.1 → T.heap[q]? = E.1.heap[q]?) (hl : ∀ q ∈ locs, E.2.1 ≤ q.base) (hb : E.2.1 ≤ s.heap.size) : ∀ q, q < E.2.1 → s.heap[q]? = E.1.heap[q]? := by
  intro q hq
  have hlt : q < s.heap.size := by omega
  obtain ⟨c', f1, f2, f3, f4⟩ := X.same.2.2.2.2.2 q s.heap[q] (Array.getElem?_eq_getElem hlt)
  have hs : c'.slots = (s.heap[q]).slots := Array.ext_getElem? fun i => f4 i fun hm => by have h9 : E.2.1 ≤ q := hl _ hm; omega
  have hc : c' = s.heap[q] := by rw [hs] at f2; exact f2
  have f1' : T.heap[q]? = some c' := f1
  rw [← hT q hq, f1', hc, Array.getElem?_eq_getElem hlt]
def mx_ik (x : Nat) : Nat := if x = 0 then 88 else if x = 1 then 140 else 216
def mx_ic (x : Nat) : Nat := if x = 0 then 90 else if x = 1 then 142 else 218
abbrev mx_xc : List String := ["java/lang/RuntimeException", "java/lang/Exception"]
def mx_ow (x : Nat) : List Cond := Bundle.ownAtoms0 "IdealWorks" (mx_ic x) (mx_xn x) mx_xc
/-- a word that goes over to warmer tables -/
def mx_mv (w : Cond) : Bool := goodWord w || match w with
  | .declares _ => true
  | .castable _ _ => true
  | _ => false
theorem mx_mvw {s U : State} (hW : s.WarmedH U.vm) {w : Cond} (hm : mx_mv w = true) (h : w.before #[] s = true) (a' : Array Value) : w.before a' U = true := by
  unfold mx_mv at hm
  rcases Bool.or_eq_true_iff.mp hm with q | q
  · exact word_at hW (good_of_word q) h
  · cases w with
    | declares y => exact va_Nw.use rfl (va_Nw.warmD hW h)
    | castable a b => exact va_Nw.use rfl (va_Nw.warmC hW h)
    | _ => cases q
def mx_u1 : Cond := .isRef (.static "java/lang/Throwable" "UNASSIGNED_STACK" "[Ljava/lang/StackTraceElement;")
def mx_u2 : Cond := .isRef (.static "java/lang/Throwable" "SUPPRESSED_SENTINEL" "Ljava/util/List;")
def mx_u3 : Cond := .laysStatic "java/lang/Throwable" "UNASSIGNED_STACK" "[Ljava/lang/StackTraceElement;"
def mx_u4 : Cond := .laysStatic "java/lang/Throwable" "SUPPRESSED_SENTINEL" "Ljava/util/List;"
def mx_oc (w : Cond) : Bool := (mx_mv w && decide (w ∈ lw_tbl)) || (decide (w = mx_u1) || (decide (w = mx_u2) || (decide (w = mx_u3) || decide (w = mx_u4))))
theorem mx_oc0 : ∀ w ∈ mx_ow 0, mx_oc w = true := by decide +kernel
theorem mx_oc1 : ∀ w ∈ mx_ow 1, mx_oc w = true := by decide +kernel
theorem mx_oc2 : ∀ w ∈ mx_ow 2, mx_oc w = true := by decide +kernel
theorem mx_u34 : mx_u3 ∈ lw_tbl ∧ mx_u4 ∈ lw_tbl := by decide +kernel
