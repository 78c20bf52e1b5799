/-! An exception comes to its handler. -/
/-- the handlers' classes -/
def od_hok (WS : List Cond) : Prop := ∀ k, ∀ q ∈ od_ht k, q.2.2.2 ≠ 0 ∧ ∃ X, Cond.classLink (od_cn (od_ow k)) q.2.2.2 X ∈ WS ∧ od_cls[od_xc (od_hx (od_ow k) q.2.2.2)]? = some (X, od_FX, 0)
theorem od_ncs_in : ∀ x, x < 3 → ∀ y, y < 3 → x ≠ y → ∀ X Y, od_cls[od_xc x]? = some (X, od_FX, 0) → od_cls[od_xc y]? = some (Y, od_FX, 0) → (X, Y) ∈ od_ncs := by
  intro x hx y hy hne X Y h1 h2
  have hx' : x = 0 ∨ x = 1 ∨ x = 2 := by omega
  have hy' : y = 0 ∨ y = 1 ∨ y = 2 := by omega
  rcases hx' with rfl | rfl | rfl <;> rcases hy' with rfl | rfl | rfl <;> first | exact absurd rfl hne | (cases h1; cases h2; decide +kernel)
theorem od_xc_lt {x : Nat} {q : vw_C} (h : od_cls[od_xc x]? = some q) : x < 3 := by
  have h1 := (List.getElem?_eq_some_iff.mp h).1
  have h2 : od_cls.length = 12 := rfl
  unfold od_xc at h1
  omega
set_option maxHeartbeats 4000000 in
theorem od_cat {l : Launch} {WS : List Cond} {D : va_G} {K : Nat × Nat × Nat} {B : Nat} (hH : od_hok WS) : od_Cat l WS D K B := by
  intro p e R s m args below meth c T locs cells slots k pc x a h lsM st hC htb hK hY hat hhn X
  obtain ⟨hx, hb, hr, hml, hown, hts, hlk, hin⟩ := hC
  obtain ⟨rX, hrX, cell, q1, q2, q3, -⟩ := hat
  have hx3 := od_xc_lt hrX
  have hrX2 : ∃ XX, rX = (XX, od_FX, 0) := by
    have hx' : x = 0 ∨ x = 1 ∨ x = 2 := by omega
    rcases hx' with rfl | rfl | rfl <;> exact ⟨_, (Option.some.inj hrX).symm⟩
  obtain ⟨XX, rfl⟩ := hrX2
  have hAtX := (hK.1 (od_xc x) _ hrX).2
  have hpl : e.platform.magicAccessors = ({} : Platform).magicAccessors := by rw [X.admits.platform]
  generalize hg0 : F0 m pc lsM st = g
  have hgm : g.method = m := by rw [← hg0]
  have hgpc : g.pc = pc := by rw [← hg0]
  generalize hS : (T.setTop g).pushFrame (.throwing a) = S
  have hSvm : S.vm = T.vm := by rw [← hS]; exact Stand.throwing_vm T g a
  have hSheap : S.heap = T.heap := by rw [← hS]; exact Stand.throwing_heap T g a
  have key : ∀ (es : List ExceptionTableEntry) (vm : Vm) (hq : Nat × Nat × Nat × Nat), s.WarmedH vm → (∀ y ∈ es, (y.startPc, y.endPc, y.handlerPc, y.catchType) ∈ od_ht k) →
      ((es.map (fun y => (y.startPc, y.endPc, y.handlerPc, y.catchType))).map (fun y => (y.1, y.2.1, y.2.2.1, od_hx (od_ow k) y.2.2.2))).find? (fun y => decide (y.1 ≤ pc) && decide (pc < y.2.1) && decide (y.2.2.2 = x)) = some hq →
      ∃ vm', s.WarmedH vm' ∧ ∀ (Q : Handler → Pre) (E : CtlPost) (d : Bool) (acts : List Action), wp (findHandler.go g a es) Q E e d acts (S.setVm vm) ↔ Q (.found hq.2.2.1) d acts (S.setVm vm') := by
    intro es
    induction es with
    | nil => intro vm hq hW hes hfi; cases hfi
    | cons y t ih =>
      intro vm hq hW hes hfi
      have hy := hes y List.mem_cons_self
      have hest : ∀ z ∈ t, (z.startPc, z.endPc, z.handlerPc, z.catchType) ∈ od_ht k := fun z hz => hes z (List.mem_cons_of_mem _ hz)
      rw [List.map_cons, List.map_cons, List.find?_cons] at hfi
      cases hcv : covers y g.pc with
      | false =>
        have hcv2 : (decide (y.startPc ≤ pc) && decide (pc < y.endPc)) = false := by rw [← hgpc]; exact hcv
        dsimp only at hfi
        rw [hcv2] at hfi
        simp only [Bool.false_and] at hfi
        obtain ⟨vm', h1, h2⟩ := ih vm hq hW hest hfi
        exact ⟨vm', h1, fun Q E d acts => (W.findHandler_go_skip hcv).trans (h2 Q E d acts)⟩
      | true =>
        have hcv2 : (decide (y.startPc ≤ pc) && decide (pc < y.endPc)) = true := by rw [← hgpc]; exact hcv
        dsimp only at hfi
        rw [hcv2] at hfi
        simp only [Bool.true_and] at hfi
        obtain ⟨hne0, Y, hlink, hclY⟩ := hH k _ hy
        dsimp only at hne0 hlink hclY
        have hAtY := (hK.1 _ _ hclY).2
        obtain ⟨cY, hcY, hcl⟩ := Cond.classLink_spec hown (hts _ hlink) e.platform hpl
        have hcYe : cY = D.1 (od_xc (od_hx (od_ow k) y.catchType)) := Option.some.inj (hcY.symm.trans hAtY.1)
        obtain ⟨hg₁, hwarm₁, hready₁⟩ := State.classEntry (e := e) hW hcl
        have hsz : (vm.noted m.cls y.catchType (.cls cY)).classes.size ≤ vm.classes.size := by rw [Vm.size_noted]; exact Nat.le_refl _
        generalize vm.noted m.cls y.catchType (.cls cY) = vm₁ at hg₁ hwarm₁ hready₁ hsz
        obtain ⟨kX, hkX, -⟩ := hAtX.2
        obtain ⟨kY, hkY, -⟩ := hAtY.2
        obtain ⟨kX', hkX', -⟩ := hwarm₁.alike.2.2 _ _ hkX
        obtain ⟨kY', hkY', -⟩ := hwarm₁.alike.2.2 _ _ hkY
        have go := fun (Q : Handler → Pre) (E : CtlPost) (d : Bool) (acts : List Action) => fh_go (Q := Q) (E := E) (e := e) (d := d) (acts := acts) (s := S.setVm vm) (f := g) (a := a) (x := y) (t := t) (c := cY) (vm' := vm₁) (cell := cell) hcv hne0 (by rw [hgm]; exact hg₁) hsz (by show S.heap[a]? = _; rw [hSheap]; exact q1) (fun z hz => by rw [q3] at hz; cases hz) ⟨kX', by rw [q2]; exact hkX'⟩ ⟨kY', by rw [hcYe]; exact hkY'⟩
        have hasg : vm₁.assignable cell.cls cY = s.vm.assignable (D.1 (od_xc x)) cY := by rw [hwarm₁.alike.assignable, q2]
        by_cases hkind : od_hx (od_ow k) y.catchType = x
        · rw [decide_eq_true hkind] at hfi
          cases hfi
          have h1 : vm₁.assignable cell.cls cY = true := by
            rw [hasg, hcYe, hkind]
            exact va_assign hAtX
          exact ⟨vm₁, hwarm₁, fun Q E d acts => by rw [go Q E d acts, if_pos h1]; rfl⟩
        · rw [decide_eq_false hkind] at hfi
          obtain ⟨vm', h2, h3⟩ := ih vm₁ hq hwarm₁ hest hfi
          have h1 : vm₁.assignable cell.cls cY = false := by
            obtain ⟨c1, t1, n1, n2, n3⟩ := hY.2.2.1 _ (od_ncs_in x hx3 _ (od_xc_lt hclY) (fun z => hkind z.symm) XX Y hrX hclY)
            have e1 : c1 = D.1 (od_xc x) := Option.some.inj (n1.symm.trans hAtX.1)
            have e2 : t1 = cY := Option.some.inj (n2.symm.trans hcY)
            rw [hasg, ← e1, ← e2]
            exact n3
          refine ⟨vm', h2, fun Q E d acts => ?_⟩
          rw [go Q E d acts, if_neg (by rw [h1]; decide)]
          exact h3 Q E d acts
  unfold od_hn at hhn
  split at hhn
  · cases hhn
  · split at hhn
    · rename_i hq hfi
      cases hhn
      unfold od_hd at hfi
      have htb' : c.exceptionTable.toList.map (fun y => (y.startPc, y.endPc, y.handlerPc, y.catchType)) = od_ht k := htb
      rw [← htb'] at hfi
      obtain ⟨vm', h1, h2⟩ := key c.exceptionTable.toList T.vm hq X.warmed (fun y hy => by rw [← htb']; exact List.mem_map.mpr ⟨y, hy, rfl⟩) hfi
      refine ⟨vm', X.noted h1, fun tg hsteps => ?_⟩
      rw [← hS]
      refine st_caught X hgm (pc := hq.2.2.1) (vm' := vm') (fun Q E d acts => ?_) ?_
      · rw [hS]
        have h3 := h2 Q E d acts
        have e0 : S.setVm T.vm = S := by rw [← hSvm]; rfl
        rw [e0] at h3
        refine Iff.trans (W.findHandler_eq (meth := meth) (code := c) ?_ X.code) h3
        rw [hSvm, hgm]
        exact X.method'
      · rw [← hg0]
        exact hsteps
    · cases hhn
