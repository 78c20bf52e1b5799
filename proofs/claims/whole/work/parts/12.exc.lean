/-! The two ways of an exception, proved: it is made and leaves; it comes to its handler. -/
def od_hw : List Cond := [.laysStatic "java/lang/Throwable" "UNASSIGNED_STACK" "[Ljava/lang/StackTraceElement;", .isRef (.static "java/lang/Throwable" "UNASSIGNED_STACK" "[Ljava/lang/StackTraceElement;"), .laysStatic "java/lang/Throwable" "SUPPRESSED_SENTINEL" "Ljava/util/List;", .isRef (.static "java/lang/Throwable" "SUPPRESSED_SENTINEL" "Ljava/util/List;")]
def od_xok (WS : List Cond) (k pc x : Nat) : Prop := ∃ (ix is ic : Nat) (X tx : String) (names : List String), od_cls[od_xc x]? = some (X, od_FX, 0) ∧ od_cd k pc = some (.new ix, 3) ∧ od_cd k (pc + 3) = some (.dup, 1) ∧ od_cd k (pc + 4) = some (.ldc is, 2) ∧ od_cd k (pc + 6) = some (.invokespecial ic, 3) ∧ od_cd k (pc + 9) = some (.athrow, 1) ∧
  Cond.classLink (od_cn (od_ow k)) ix X ∈ WS ∧ Cond.instantiable X 6 ∈ WS ∧ Cond.initialized X ∈ WS ∧ (∀ w ∈ Bundle.ownAtoms (od_cn (od_ow k)) ic X names, w ∈ WS ∨ w ∈ od_hw) ∧ (od_cn (od_ow k), is, tx) ∈ od_sts ∧ Bundle.fit X = true ∧ (∀ n ∈ names, Bundle.fit n = true) ∧ names.length ≤ 3 ∧ od_ht k = []
theorem od_hw_at {B : Nat} {s : State} {args : Array Value} (h1 : od_St B "UNASSIGNED_STACK" "[Ljava/lang/StackTraceElement;" s) (h2 : od_St B "SUPPRESSED_SENTINEL" "Ljava/util/List;" s) : ∀ w ∈ od_hw, w.before args s = true := by
  intro w hw
  simp only [od_hw, List.mem_cons, List.not_mem_nil, or_false] at hw
  rcases hw with rfl | rfl | rfl | rfl
  · exact od_ride_ls h1.1 rfl (fun _ _ _ _ => rfl)
  · exact od_ride_ir h1.2.1 rfl (fun _ _ _ _ => rfl)
  · exact od_ride_ls h2.1 rfl (fun _ _ _ _ => rfl)
  · exact od_ride_ir h2.2.1 rfl (fun _ _ _ _ => rfl)
set_option maxHeartbeats 4000000 in
theorem od_thr {l : Launch} {WS : List Cond} {D : va_G} {K : Nat × Nat × Nat} {B : Nat} (hl : ∀ e : Env, l.admits e → e.platform.stackTraces = false) (hT : od_T WS) (hMT : od_MT WS) (hX : ∀ k pc x, od_xn k pc = some x → od_xok WS k pc x) : od_Thr l WS D K B := by
  intro p e R s m args below meth c H locs cells slots k pc x ix lsM M hC htb hsz hK hY hR hf hrm hcd hxn hcl hsl T hTh Xs
  obtain ⟨ix', is, ic, X, tx, names, hcls, hc0, hc3, hc4, hc6, hc9, wl, wi, wn, wa, hst, hfX, hfn, hln, hht⟩ := hX k pc x hxn
  cases hcd.symm.trans hc0
  obtain ⟨hx, hb, hr, hml, hown, hts, hlk, hin⟩ := hC
  have X0 := mx_rebase Xs (by omega) (by omega)
  have hR' : od_Rp D K B s M T.heap := by rw [hTh]; exact hR
  generalize hs0 : T.setFrames (.invoking m args :: below) = s0 at X0
  have hvm0 : s0.vm = T.vm := by rw [← hs0]; rfl
  have hheap0 : s0.heap = T.heap := by rw [← hs0]; rfl
  have hWs : s.WarmedH s0.vm := by rw [hvm0]; exact Xs.warmed
  have hts0 : ∀ w ∈ WS, w.before args s0 = true := fun w hw => hMT.2 w hw args args s s0 hWs (hts w hw)
  have hK0 : od_Kx D K s0 := va_K.moved hWs.alike hK
  have hown0 : s0.vm.findClass (od_cn (od_ow k)) = some m.cls := by rw [hWs.alike.findClass]; exact hown
  have hY1 : od_St B "UNASSIGNED_STACK" "[Ljava/lang/StackTraceElement;" s0 := od_St.call Xs hf hWs rfl hheap0 hY.1
  have hY2 : od_St B "SUPPRESSED_SENTINEL" "Ljava/util/List;" s0 := od_St.call Xs hf hWs rfl hheap0 hY.2.1
  obtain ⟨qa, hZ⟩ := hY.2.2.2.1 _ hst
  have hZ0 : vk_R (od_cn (od_ow k)) is tx qa s0 := vk_R.warm (s := s) hWs hZ
  have hat : ∀ w ∈ Bundle.ownAtoms (od_cn (od_ow k)) ic X names, w.before args s0 = true := fun w hw => (wa w hw).elim (fun h => hts0 w h) (fun h => od_hw_at hY1 hY2 w h)
  have hfc : s0.vm.findClass X = some (D.1 (od_xc x)) := (hK0.1 (od_xc x) _ hcls).2.1
  have htr : e.platform.stackTraces = false := hl e Xs.admits
  have hnoh : c.exceptionTable.toList = [] := by
    have h1 := htb
    unfold od_tb at h1
    rw [hht] at h1
    exact List.map_eq_nil_iff.mp h1
  have w : W p l e { R with cells := R.cells - cells, slots := R.slots - slots } s0 m args below meth c T.heap [] 0 0 (fun U => U.status = .running ∧ Ended U below (.threw T.heap.size) ∧ s0.WarmedH U.vm ∧ s0.sameButNew ({ U with vm := s0.vm } : State) [] 1 6 ∧ ∃ ce, U.heap[T.heap.size]? = some ce ∧ Bundle.OwnCell args s0 X T.heap.size (.ref qa) ce) (F0 m pc lsM []) := by
    refine W.newcK hx hb hown0 (hts0 _ wl) (hts0 _ wi) (hts0 _ wn) rfl (hT.1 _ _ _ _ hc0) (by show 0 + 1 ≤ R.cells - cells; omega) (by show 0 + 6 ≤ R.slots - slots; omega) hfc rfl (fun H1 kC hkC e1 z1 o1 => ?_)
    refine lv_dup hx hb (hT.1 _ _ _ _ hc3) rfl ?_
    refine va_ldcS hx hb hown0 hZ0 (hT.1 _ _ _ _ hc4) ?_
    intro T2 hT2 X2
    obtain ⟨U, q1, q2, q3, q4, q5, ce, q6, q7⟩ := X2.ctorThrowS hx htr (own := od_cn (od_ow k)) (cls := X) (names := names) (ic := ic) hown0 hfX hfn hat (fun y hy => by cases hy) hfc hkC (a := T.heap.size) (by rw [hT2]; exact e1) (by rw [hheap0]; exact Nat.le_refl _) (msg := .ref qa) rfl
      (g := F0 m (pc + 3 + 1 + 2) lsM (.ref qa :: .ref T.heap.size :: .ref T.heap.size :: [])) rfl (hsz.trans hml.symm) rfl rfl (rest := []) rfl (by rw [hb]; exact hT.1 _ _ _ _ hc6) (by rw [hb]; exact hT.1 _ _ _ _ hc9) (fun y hy => by rw [hnoh] at hy; cases hy)
      (by show names.length + 3 < R.frames; have := hrm.1; omega) (by show 2 * 0 + (1 + 0) + (13 * (names.length + 1) + 42) ≤ R.locals; have := hrm.2; omega) (hlocks := hlk)
    exact ⟨U, q1, q2, q3, q4, q5, ce, q6, q7⟩
  obtain ⟨U, st1, u1, u2, u3, u4, ce, u5, u6⟩ := w T rfl X0
  have hsz0 : T.heap.size = M.1 := hR'.1
  have hold : ∀ q, q < M.1 → U.heap[q]? = T.heap[q]? := fun q hq => by
    cases hc : T.heap[q]? with
    | none =>
      rw [← hsz0] at hq
      have := Array.getElem?_eq_none_iff.mp hc
      omega
    | some cq => exact State.sameButNew.old_cell u4 (by rw [hheap0]; exact hc)
  have hzU : U.heap.size = M.1 + 1 := by
    have h1 : U.heap.size ≤ s0.heap.size + 1 := u4.2.2.1
    have h2 := (Array.getElem?_eq_some_iff.mp u5).1
    rw [hheap0] at h1
    omega
  have hRU : od_Rp D K B s (od_add M 6 (od_ob (od_xc x) [])) U.heap := by
    refine hR'.add hzU hold ⟨_, hcls, ce, by rw [← hsz0]; exact u5, ?_, u6.vm, fun j hj => absurd hj (Nat.not_lt_zero j)⟩
    exact Option.some.inj (u6.cls.symm.trans hfc)
  have hs2 : T.sameButNew (U.setVm T.vm) [] 1 6 := by
    subst hs0
    refine ⟨?_, u4.2⟩
    have h1 := u4.1
    rw [State.setFrames_setFrames] at h1
    exact h1
  refine ⟨U, st1, .threw T.heap.size, u1, u2, by show Outcome.threw T.heap.size = .threw M.1; rw [hsz0], hRU, ?_, locs, ?_, hf⟩
  · subst hs0
    exact State.WarmedH.trans Xs.warmed u3
  · have h3 := Xs.same.trans (hs2.setVm s.vm)
    rw [List.append_nil] at h3
    exact h3
