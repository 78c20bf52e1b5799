/-! Exceptions: a walk seen from where it stands now; the five instructions that make and throw one; the way to a handler. -/
section MXB
variable {p : Program} {l : Launch} {e : Env} {R : Room} {s : State} {m : MethodId} {args : Array Value} {below : List Frame} {meth : Method} {c : Code} {T : State} {locs : List Loc} {cells slots : Nat}
/-- the walk, as if the method had been invoked just now -/
theorem mx_rebase (X : Stand p l e R s m args below meth c T locs cells slots) (hc : cells ≤ R.cells) (hs : slots ≤ R.slots) : Stand p l e { R with cells := R.cells - cells, slots := R.slots - slots } (T.setFrames (.invoking m args :: below)) m args below meth c T [] 0 0 := by
  obtain ⟨g₀, hfr⟩ := X.frames_eq
  have hcur : T.cur < T.threads.size := State.cur_lt_of_frames hfr
  have hF : (T.setFrames (.invoking m args :: below)).frames = .invoking m args :: below := State.frames_setFrames _ hcur
  obtain ⟨r1, r2, r3, r4⟩ := State.hasRoom_stack X.room
  have r5 := State.hasRoom_real X.room
  have r6 := State.hasRoom_plain X.room
  have hh := X.room
  simp only [State.hasRoom, Bool.and_eq_true, decide_eq_true_eq] at hh
  rw [State.localsInUse_invoking X.frames X.method X.code] at r3 r4 r5
  rw [X.frames, List.length_cons] at r1 r2
  have hm' : (T.setFrames (.invoking m args :: below)).vm.method? m = some meth := X.method'
  have hU := State.localsInUse_invoking hF hm' X.code
  have hz := X.heapSize
  have hu := X.used
  obtain ⟨th, ht, -⟩ := State.frames_cons hfr
  refine ⟨X.admits, X.cas, X.clock, hF, ?_, ?_, X.method', X.code, X.here, X.tail, State.WarmedH.refl (T.setFrames (.invoking m args :: below)), ?_, ?_, ?_⟩
  · simp only [State.hasRoom, Bool.and_eq_true, decide_eq_true_eq, hF, hU, List.length_cons, State.stackLimits_setFrames, State.stackBytes_setFrames, X.limits, X.bytes]
    refine ⟨⟨⟨⟨by omega, by omega, by omega, by omega, by omega, r6⟩, ?_⟩, ?_⟩, X.book⟩
    · have := hh.1.1.2
      show T.heap.size + (R.cells - cells) ≤ _
      omega
    · have := hh.1.2
      show T.slotsUsed + (R.slots - slots) ≤ _
      omega
  · have hH := X.hears
    have hcode : ∀ q, (T.setFrames (.invoking m args :: below)).code? q = s.code? q := fun q => by
      rw [State.code?_eq, State.code?_eq]
      show (T.vm.method? q).bind _ = _
      rw [X.warmed.alike.method?]
    have hmm : (T.setFrames (.invoking m args :: below)).vm.method? m = s.vm.method? m := by rw [hm', X.method]
    unfold State.hears at hH ⊢
    split
    · simp only at hH
      rw [hcode]
      exact hH
    · rfl
    · rfl
    · rename_i h1 h2 h3
      rw [hmm]
      split at hH
      · exact absurd rfl (h1 _ _)
      · exact absurd rfl (h2 _ _)
      · exact absurd rfl (h3 _ _)
      · exact hH
  · rw [State.stackLimits_setFrames]
  · rw [State.stackBytes_setFrames]
  · have ht2 : (T.setFrames (.invoking m args :: below)).threads[(T.setFrames (.invoking m args :: below)).cur]? = some { th with frames := .invoking m args :: below } := by
      simp [State.setFrames, Array.getElem?_modify, ht]
    have h := (State.sameButNew.refl (T.setFrames (.invoking m args :: below)) ht2).setFrames T.frames (State.cur_lt_of_frames hF)
    rw [State.setFrames_setFrames, State.setFrames_self ht] at h
    exact h
end MXB
section FH
variable {E : CtlPost} {e : Env} {d : Bool} {acts : List Action} {s : State} {f : JFrame} {a : Addr} {Q : Handler → Pre}
/-- a catch type, resolved at need -/
theorem fh_go {x : ExceptionTableEntry} {t : List ExceptionTableEntry} {c : ClassId} {vm' : Vm} {cell : Cell} (hx : covers x f.pc = true) (h0 : x.catchType ≠ 0) (hg : (Jvm.resolveClass f.method.cls x.catchType).Gives e.toSetting s.vm (.ok c) vm') (hsz : vm'.classes.size ≤ s.vm.classes.size)
    (hcell : s.heap[a]? = some cell) (hobj : ∀ k, cell.vm ≠ .statics k) (hk : ∃ k, vm'.classes[cell.cls]? = some k) (hc : ∃ k, vm'.classes[c]? = some k) :
    wp (findHandler.go f a (x :: t)) Q E e d acts s ↔ if vm'.assignable cell.cls c = true then Q (.found x.handlerPc) d acts (s.setVm vm') else wp (findHandler.go f a t) Q E e d acts (s.setVm vm') := by
  simp only [covers] at hx
  obtain ⟨ha, ht⟩ := hg.op (op := VmOp.resolveClass f.method.cls x.catchType) rfl
  have hcell' : (s.setVm vm').heap[a]? = some cell := hcell
  have hk' : ∃ k, (s.setVm vm').vm.classes[cell.cls]? = some k := hk
  have hc' : ∃ k, (s.setVm vm').vm.classes[c]? = some k := hc
  cases hfit : vm'.assignable cell.cls c <;>
    simp [findHandler.go, hx, h0, ha, ht, hsz, hcell, hobj, hk, hc, hfit, VmOp.dirties, VmOp.acts]
end FH
/-! words on static fields, which stand in the heap: kept where the statics' cells are kept -/
theorem od_ff_vm {A A' : State} (hvm : A'.vm = A.vm) (C n d : String) : A'.fieldFound? C n d = A.fieldFound? C n d := by
  unfold State.fieldFound?
  rw [hvm]
theorem od_ride_ls {A A' : State} {args args' : Array Value} {C n d : String} (h : (Cond.laysStatic C n d).before args A = true) (hvm : A'.vm = A.vm) (hk : ∀ (x : ClassId × Class × Nat × Field) (a : Nat), A.fieldFound? C n d = some x → x.2.1.statics = some a → A'.heap[a]? = A.heap[a]?) : (Cond.laysStatic C n d).before args' A' = true := by
  simp only [Cond.before, Cond.holds, Cond.value] at h ⊢
  rw [hvm, od_ff_vm hvm]
  cases h1 : A.vm.findClass C with
  | none => rw [h1] at h; simp at h
  | some c =>
    rw [h1] at h
    cases h2 : A.fieldFound? C n d with
    | none => rw [h2] at h; simp at h
    | some x =>
      rw [h2] at h
      obtain ⟨c', k, i, f⟩ := x
      dsimp only at h ⊢
      cases h3 : k.statics with
      | none => rw [h3] at h; simp at h
      | some a =>
        rw [h3] at h
        have h4 := hk _ a h2 h3
        simp only [Option.bind_some] at h ⊢
        rw [h4]
        exact h
theorem od_ride_ir {A A' : State} {args args' : Array Value} {C n d : String} (h : (Cond.isRef (.static C n d)).before args A = true) (hvm : A'.vm = A.vm) (hk : ∀ (x : ClassId × Class × Nat × Field) (a : Nat), A.fieldFound? C n d = some x → x.2.1.statics = some a → A'.heap[a]? = A.heap[a]?) : (Cond.isRef (.static C n d)).before args' A' = true := by
  have e : (Term.static C n d).eval args' A' none [] A' = (Term.static C n d).eval args A none [] A := by
    simp only [Term.eval]
    have e1 : A'.fieldNamed? C n d true = A.fieldNamed? C n d true := by
      unfold State.fieldNamed?
      rw [od_ff_vm hvm]
    rw [e1]
    cases h2 : A.fieldFound? C n d with
    | none =>
      have : A.fieldNamed? C n d true = none := by unfold State.fieldNamed?; rw [h2]; rfl
      rw [this]; rfl
    | some x =>
      obtain ⟨c', k, i, f⟩ := x
      cases h3 : A.fieldNamed? C n d true with
      | none => rfl
      | some y =>
        obtain ⟨c2, k2, sl⟩ := y
        have hkk : k2 = k := by
          unfold State.fieldNamed? at h3
          rw [h2] at h3
          simp at h3
          exact h3.2.2.1.symm
        subst hkk
        simp only [Option.bind_eq_bind, Option.bind_some]
        cases h4 : k2.statics with
        | none => rfl
        | some a =>
          simp only [Option.bind_some]
          rw [hk _ a h2 h4]
  simp only [Cond.before, Cond.holds, Cond.value] at h ⊢
  rw [e]
  exact h
section CAT
variable {p : Program} {l : Launch} {e : Env} {R : Room} {s : State} {m : MethodId} {args : Array Value} {below : List Frame} {meth : Method} {c : Code} {T : State} {locs : List Loc} {cells slots : Nat}
theorem st_catch {S : State} {a : Addr} {f : JFrame} {r : List Frame} {pc : Nat} {vm' : Vm} (hfind : ∀ (Q : Handler → Pre) (E : CtlPost) (d : Bool) (acts : List Action), wp (findHandler f a) Q E e d acts S ↔ Q (.found pc) d acts (S.setVm vm')) :
    (stepThrowing e S a (.java f :: r)).Is ((S.setVm vm').setFrames (.java { f with pc := pc, stack := [.ref a] } :: r)) [] := by
  simp only [stepThrowing, searchFrame, vmDo]
  generalize hr : Sem.go _ e false [] S = res
  obtain ⟨as, rfl, ha⟩ := Sem.eq_ok_of hr (a := Handler.found pc) (s' := S.setVm vm') (acts' := []) (by simp [hfind _ _ _ _])
  exact ⟨rfl, ha⟩
theorem st_caught (X : Stand p l e R s m args below meth c T locs cells slots) {a : Addr} {g : JFrame} (hg : g.method = m) {pc : Nat} {vm' : Vm}
    (hfind : ∀ (Q : Handler → Pre) (E : CtlPost) (d : Bool) (acts : List Action), wp (findHandler g a) Q E e d acts ((T.setTop g).pushFrame (.throwing a)) ↔ Q (.found pc) d acts (((T.setTop g).pushFrame (.throwing a)).setVm vm')) {target : State}
    (hrest : Steps p.tables e below ((T.setVm vm').setTop { g with pc := pc, stack := [.ref a] }) target) : Steps p.tables e below ((T.setTop g).pushFrame (.throwing a)) target := by
  have h : At T g.method c below := by rw [hg]; exact X.here
  obtain ⟨hgo, hw⟩ := h.throwing a
  refine Steps.head hgo hw ?_
  rw [stepThread_throwing (frames_entered h.top _), (st_catch hfind).1]
  obtain ⟨g₀, hg0⟩ := Option.isSome_iff_exists.mp h.top
  obtain ⟨r, hr⟩ := State.topJava?_eq_some.mp hg0
  have hr' : (T.setVm vm').frames = .java g₀ :: r := hr
  rw [State.setTop_of_frames _ hr'] at hrest
  rw [State.pushFrame, State.setTop_of_frames _ hr]
  have e1 : ∀ (A : State) (f1 f2 f3 : List Frame), (((A.setFrames f1).setFrames f2).setVm vm').setFrames f3 = (A.setVm vm').setFrames f3 := fun A f1 f2 f3 => by
    show (((A.setVm vm').setFrames f1).setFrames f2).setFrames f3 = _
    rw [State.setFrames_setFrames, State.setFrames_setFrames]
  rw [e1, hr]
  exact hrest
end CAT
