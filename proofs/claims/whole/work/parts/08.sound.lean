/-! A run of the small machine is a run of the real one. -/
def od_is (U : State) (k : Nat) : Prop := ∃ (mk : MethodId) (methY : Method) (cY : Code), U.methodNamed? (od_y k) = some mk ∧ U.vm.method? mk = some methY ∧ methY.code = some cY ∧ cY.code = od_by k ∧ cY.maxLocals = od_nl k ∧ methY.sig.returnType = od_rf k ∧ methY.locks = false ∧ cY.exceptionTable.toList.map (fun h => (h.startPc, h.endPc, h.handlerPc, h.catchType)) = od_ht k ∧ parseMethodDescriptor (od_y k).desc = some methY.sig
/-- the words of a call from the class own by the pool's entry ix to the method j, of kind kd with n arguments -/
def od_lk (WS : List Cond) (own ix j kd n : Nat) : Prop := (kd = 0 ∨ kd = 1 ∨ kd = 2) ∧ ((od_y j).cls ≠ "java/lang/invoke/MethodHandle" ∧ (od_y j).cls ≠ "java/lang/invoke/VarHandle") ∧
  (kd = 0 → Cond.methodLink (od_cn own) ix (od_y j) ∈ WS ∧ Cond.instanceMethod (od_y j) ∈ WS ∧ (∃ (C : String) (T : u_T) (N : Nat), od_cls[od_oc j]? = some (C, T, N) ∧ Cond.selects C (od_y j) (od_y j) ∈ WS) ∧ (parseMethodDescriptor (od_y j).desc).map (fun g => g.parameters.length + 1) = some n) ∧
  (kd = 1 → Cond.methodLink (od_cn own) ix (od_y j) ∈ WS ∧ Cond.static (od_y j) ∈ WS ∧ (parseMethodDescriptor (od_y j).desc).map (fun g => g.parameters.length) = some n) ∧
  (kd = 2 → (Cond.methodLink (od_cn own) ix (od_y j) ∈ WS ∨ ∃ host, Cond.methodLinkNest (od_cn own) ix (od_y j) host ∈ WS) ∧ Cond.instanceMethod (od_y j) ∈ WS ∧ (od_y j).name = "<init>" ∧ Cond.code (od_y j) (od_by j) (od_nl j) none ∈ WS ∧ (parseMethodDescriptor (od_y j).desc).map (fun g => g.parameters.length + 1) = some n)
def od_MT (WS : List Cond) : Prop :=
  (∀ own ix j kd n, od_md own ix = some (j, kd, n) → kd ≠ 7 → kd ≠ 8 → od_lk WS own ix j kd n ∧ (∀ (args : Array Value) (U : State), (∀ w ∈ WS, w.before args U = true) → od_is U j) ∧ Cond.initialized (od_y j).cls ∈ WS ∧ plainFor (od_y j) = true ∧ (od_y j).cls = od_cn (od_ow j) ∧ (od_in j = true → (od_y j).name = "<init>") ∧ od_nl j ≤ 50) ∧
  (∀ w ∈ WS, ∀ (args a' : Array Value) (s U : State), s.WarmedH U.vm → w.before args s = true → w.before a' U = true)
def od_oR (o : od_O) (o' : Outcome) : Prop := match o with
  | .inl v => o' = .returned v
  | .inr xa => o' = .threw xa.2
def od_Z (D : va_G) (K : Nat × Nat × Nat) (B : Nat) (s : State) (below : List Frame) (o : od_O) (M' : od_M) (C S : Nat) : State → Prop := fun t => ∃ o', t.status = .running ∧ Ended t below o' ∧ od_oR o o' ∧ od_Rp D K B s M' t.heap ∧ s.WarmedH t.vm ∧ ∃ L : List Loc, s.sameButNew ({ t with vm := s.vm } : State) L C S ∧ ∀ q ∈ L, B ≤ q.base
def od_room (R : Room) (d : Nat) : Prop := 8 + d ≤ R.frames ∧ 200 + 100 * d ≤ R.locals
def od_rm (d C S : Nat) : Room := { frames := 8 + d, cells := C, slots := S, locals := 200 + 100 * d }
def od_tb (c : Code) (k : Nat) : Prop := c.exceptionTable.toList.map (fun h => (h.startPc, h.endPc, h.handlerPc, h.catchType)) = od_ht k
theorem od_Wm {p : Program} {l : Launch} {e : Env} {R : Room} {s : State} {m : MethodId} {args : Array Value} {below : List Frame} {meth : Method} {c : Code} {H : Heap} {locs : List Loc} {cells slots : Nat} {Q Q' : State → Prop} {g : JFrame} (h : W p l e R s m args below meth c H locs cells slots Q g) (hq : ∀ t, Q t → Q' t) : W p l e R s m args below meth c H locs cells slots Q' g := fun T hT X => by
  obtain ⟨t, a, b⟩ := h T hT X
  exact ⟨t, a, hq t b⟩
theorem od_MQ {D : va_G} {K : Nat × Nat × Nat} {B : Nat} {s : State} {args : Array Value} {below : List Frame} {o : od_O} {M' : od_M} {C S : Nat} {t : State} (h : MQ below (fun _ st o' t => od_oR o o' ∧ od_Rp D K B st M' t.heap) args s C S (fun q => B ≤ q) t) : od_Z D K B s below o M' C S t := by
  obtain ⟨o', h1, h2, ⟨h3, h4⟩, L, ⟨-, h5, h6⟩, h7⟩ := h
  exact ⟨o', h1, h2, h3, h4, h5, L, h6, h7⟩
/-- sizes only grow -/
theorem od_grow1 {k pc : Nat} {ls : od_L} {st : List Value} {M : od_M} {q : Nat × od_L × List Value × od_M} (h : od_step k pc ls st M = some (.inl q)) : M.1 ≤ q.2.2.2.1 ∧ M.2.1 ≤ q.2.2.2.2.1 := by
  unfold od_step at h
  split at h
  · rename_i i n hcd
    clear hcd
    cases i <;> simp only [od_ins, od_ild, od_lld, od_ald, od_ist, od_lst, od_ast, od_iinc, od_i2, od_l2, od_if1, od_if2, od_sw, od_dup, od_dup2, od_pop, od_i2l, od_l2i, od_lcmp, od_iald, od_lald, od_aald, od_alen, od_iast, od_last, od_aast, od_get, od_put, od_new, od_newa, od_anew, od_cpy, od_inv, od_rv, od_ri, od_rl, od_rr, od_go, od_br, od_fin] at h <;> (repeat' split at h) <;> cases h <;> first | exact ⟨Nat.le_refl _, Nat.le_refl _⟩ | exact ⟨Nat.le_succ _, Nat.le_add_right _ _⟩
  · cases h
theorem od_grow2 {k pc : Nat} {ls : od_L} {st : List Value} {M : od_M} {q : od_O × od_M} (h : od_step k pc ls st M = some (.inr (.inr q))) : M.1 ≤ q.2.1 ∧ M.2.1 ≤ q.2.2.1 := by
  unfold od_step at h
  split at h
  · rename_i i n hcd
    clear hcd
    cases i <;> simp only [od_ins, od_ild, od_lld, od_ald, od_ist, od_lst, od_ast, od_iinc, od_i2, od_l2, od_if1, od_if2, od_sw, od_dup, od_dup2, od_pop, od_i2l, od_l2i, od_lcmp, od_iald, od_lald, od_aald, od_alen, od_iast, od_last, od_aast, od_get, od_put, od_new, od_newa, od_anew, od_cpy, od_inv, od_rv, od_ri, od_rl, od_rr, od_go, od_br, od_fin] at h <;> (repeat' split at h) <;> cases h <;> first | exact ⟨Nat.le_refl _, Nat.le_refl _⟩ | exact ⟨Nat.le_succ _, Nat.le_add_right _ _⟩
  · cases h
theorem od_grow : ∀ (n d k pc : Nat) (ls : od_L) (st : List Value) (M : od_M) (o : od_O) (M' : od_M), od_ev n d k pc ls st M = some (o, M') → M.1 ≤ M'.1 ∧ M.2.1 ≤ M'.2.1 := by
  intro n
  induction n with
  | zero => intro d k pc ls st M o M' h; rw [od_ev] at h; cases h
  | succ n ih =>
    intro d k pc ls st M o M' h
    rw [od_ev_s] at h
    rcases hs : od_step k pc ls st M with _ | q | q | q
    · rw [hs] at h; cases h
    · rw [hs] at h
      have h1 := od_grow1 hs
      have h2 := ih _ _ _ _ _ _ _ _ h
      omega
    · rw [hs] at h
      cases d with
      | zero => cases h
      | succ d' =>
        dsimp only at h
        rcases hc : od_ev n d' q.1 0 (od_ent q.1 q.2.1) [] M with _ | ⟨v | xa, M1⟩
        · rw [hc] at h; cases h
        · rw [hc] at h
          have h1 := ih _ _ _ _ _ _ _ _ hc
          have h2 := ih _ _ _ _ _ _ _ _ h
          omega
        · rw [hc] at h
          have h1 := ih _ _ _ _ _ _ _ _ hc
          dsimp only at h
          rcases hh : od_hn k pc xa.1 with _ | _ | p
          · rw [hh] at h; cases h
          · rw [hh] at h; cases h; exact h1
          · rw [hh] at h
            have h2 := ih _ _ _ _ _ _ _ _ h
            omega
    · rw [hs] at h
      cases h
      exact od_grow2 hs
theorem od_fl_args : ∀ (as : List Value) (off i : Nat) (v : Value), (od_fl as)[i]? = some (some v) → (off + i, v) ∈ lv_args off as := by
  intro as
  induction as with
  | nil => intro off i v h; cases h
  | cons a r ih =>
    intro off i v h
    rw [od_fl] at h
    rw [lv_args]
    by_cases hc : a.category = 2
    · rw [if_pos hc] at h ⊢
      match i, h with
      | 0, h => cases h; exact List.mem_cons_self
      | 1, h => cases h
      | i + 2, h =>
        have h2 := ih (off + 2) i v h
        rw [show off + 2 + i = off + (i + 2) by omega] at h2
        exact List.mem_cons_of_mem _ h2
    · rw [if_neg hc] at h ⊢
      match i, h with
      | 0, h => cases h; exact List.mem_cons_self
      | i + 1, h =>
        have h2 := ih (off + 1) i v h
        rw [show off + 1 + i = off + (i + 1) by omega] at h2
        exact List.mem_cons_of_mem _ h2
theorem od_ent_args {j : Nat} {as : List Value} {q : Nat × Value} (h : q ∈ od_prs (od_ent j as)) : q ∈ lv_args 0 as := by
  have h1 := od_prs_to h
  unfold od_lo od_ent at h1
  by_cases hl : q.1 < (od_fl as).length
  · rw [List.getElem?_append_left hl] at h1
    cases h2 : (od_fl as)[q.1]? with
    | none => rw [h2] at h1; cases h1
    | some u =>
      rw [h2] at h1
      have h3 : u = some q.2 := h1
      subst h3
      have h4 := od_fl_args as 0 q.1 q.2 h2
      rw [Nat.zero_add] at h4
      exact h4
  · rw [List.getElem?_append_right (by omega)] at h1
    rw [List.getElem?_replicate] at h1
    split at h1 <;> cases h1
theorem od_ent_len {j : Nat} {as : List Value} (h : (od_fl as).length ≤ od_nl j) : (od_ent j as).length = od_nl j := by
  unfold od_ent
  rw [List.length_append, List.length_replicate]
  omega
theorem od_fl_len : ∀ as : List Value, (lg_sl as).length = (od_fl as).length := by
  intro as
  induction as with
  | nil => rfl
  | cons a r ih =>
    rw [od_fl]
    have e : lg_sl (a :: r) = (if a.category = 2 then [.val a, .second] else [.val a]) ++ lg_sl r := by simp [lg_sl]
    rw [e, List.length_append, ih]
    by_cases hc : a.category = 2
    · rw [if_pos hc, if_pos hc]; simp only [List.length_cons, List.length_nil]; omega
    · rw [if_neg hc, if_neg hc]; simp only [List.length_cons, List.length_nil]; omega
/-- beside the tables: static fields of Throwable, classes that are not castable, String constants; no statics from B on -/
def od_St (B : Nat) (n d : String) (s : State) : Prop := (Cond.laysStatic "java/lang/Throwable" n d).before #[] s = true ∧ (Cond.isRef (.static "java/lang/Throwable" n d)).before #[] s = true ∧ ∀ (x : ClassId × Class × Nat × Field) (a : Nat), s.fieldFound? "java/lang/Throwable" n d = some x → x.2.1.statics = some a → a < B
def od_Ky (B : Nat) (s : State) : Prop := od_St B "UNASSIGNED_STACK" "[Ljava/lang/StackTraceElement;" s ∧ od_St B "SUPPRESSED_SENTINEL" "Ljava/util/List;" s ∧ (∀ q ∈ od_ncs, va_Nc q.1 q.2 s) ∧ (∀ q ∈ od_sts, ∃ a, vk_R q.1 q.2.1 q.2.2 a s) ∧ ∀ (q : Nat) (cell : Cell), B ≤ q → s.heap[q]? = some cell → cell.vm.isStatics = false
/-- an exception is made and leaves the method -/
def od_Thr (l : Launch) (WS : List Cond) (D : va_G) (K : Nat × Nat × Nat) (B : Nat) : Prop := ∀ {p : Program} {e : Env} {R : Room} {s : State} {m : MethodId} {args : Array Value} {below : List Frame} {meth : Method} {c : Code} {H : Heap} {locs : List Loc} {cells slots k pc x ix : Nat} {lsM : Array Slot} {M : od_M},
  od_Cx WS p s m args meth c k → od_tb c k → lsM.size = od_nl k → od_Kx D K s → od_Ky B s → od_Rp D K B s M H → (∀ q ∈ locs, B ≤ q.base) → od_room R 0 → od_cd k pc = some (.new ix, 3) → od_xn k pc = some x → cells + 1 ≤ R.cells → slots + 6 ≤ R.slots →
  W p l e R s m args below meth c H locs cells slots (od_Z D K B s below (.inr (x, M.1)) (od_add M 6 (od_ob (od_xc x) [])) (cells + 1) (slots + 6)) (F0 m pc lsM [])
/-- an exception of the kind x at a comes to its handler -/
def od_Cat (l : Launch) (WS : List Cond) (D : va_G) (K : Nat × Nat × Nat) (B : Nat) : Prop := ∀ {p : Program} {e : Env} {R : Room} {s : State} {m : MethodId} {args : Array Value} {below : List Frame} {meth : Method} {c : Code} {T : State} {locs : List Loc} {cells slots k pc x a h : Nat} {lsM : Array Slot} {st : List Value},
  od_Cx WS p s m args meth c k → od_tb c k → od_Kx D K s → od_Ky B s → od_at D K s a (od_ob (od_xc x) []) T.heap → od_hn k pc x = some (some h) → Stand p l e R s m args below meth c T locs cells slots →
  ∃ vm' : Vm, Stand p l e R s m args below meth c (T.setVm vm') locs cells slots ∧ ∀ tg, Steps p.tables e below ((T.setVm vm').setTop (F0 m h lsM [.ref a])) tg → Steps p.tables e below ((T.setTop (F0 m pc lsM st)).pushFrame (.throwing a)) tg
/-- an exception that leaves has its cell -/
theorem od_cell : ∀ (n d k pc : Nat) (ls : od_L) (st : List Value) (M : od_M) (xa : Nat × Nat) (M' : od_M), od_ev n d k pc ls st M = some (.inr xa, M') → M'.2.2 xa.2 = some (od_ob (od_xc xa.1) []) := by
  intro n
  induction n with
  | zero => intro d k pc ls st M xa M' h; rw [od_ev] at h; cases h
  | succ n ih =>
    intro d k pc ls st M xa M' h
    rw [od_ev_s] at h
    rcases hs : od_step k pc ls st M with _ | q | q | q
    · rw [hs] at h; cases h
    · rw [hs] at h
      exact ih _ _ _ _ _ _ _ _ h
    · rw [hs] at h
      cases d with
      | zero => cases h
      | succ d' =>
        dsimp only at h
        rcases hc : od_ev n d' q.1 0 (od_ent q.1 q.2.1) [] M with _ | ⟨v | ya, M1⟩
        · rw [hc] at h; cases h
        · rw [hc] at h
          exact ih _ _ _ _ _ _ _ _ h
        · rw [hc] at h
          have h1 := ih _ _ _ _ _ _ _ _ hc
          dsimp only at h
          rcases hh : od_hn k pc ya.1 with _ | _ | p
          · rw [hh] at h; cases h
          · rw [hh] at h; cases h; exact h1
          · rw [hh] at h
            exact ih _ _ _ _ _ _ _ _ h
    · rw [hs] at h
      cases h
      unfold od_step at hs
      split at hs
      · rename_i i n' hcd
        clear hcd ih
        cases i <;> simp only [od_ins, od_ild, od_lld, od_ald, od_ist, od_lst, od_ast, od_iinc, od_i2, od_l2, od_if1, od_if2, od_sw, od_dup, od_dup2, od_pop, od_i2l, od_l2i, od_lcmp, od_iald, od_lald, od_aald, od_alen, od_iast, od_last, od_aast, od_get, od_put, od_new, od_newa, od_anew, od_cpy, od_inv, od_rv, od_ri, od_rl, od_rr, od_go, od_br, od_fin] at hs <;> (repeat' split at hs) <;> cases hs <;> exact va_up_self _ _ _
      · cases hs
