/-! The small machine and the real one: locals, memory. -/
def od_prs (ls : od_L) : List (Nat × Value) := (List.range ls.length).filterMap (fun j => (od_lo ls j).map (fun v => (j, v)))
theorem od_lo_lt {ls : od_L} {j : Nat} {v : Value} (h : od_lo ls j = some v) : j < ls.length := by
  apply Nat.lt_of_not_le
  intro hle
  unfold od_lo at h
  rw [List.getElem?_eq_none hle] at h
  cases h
theorem od_prs_of {ls : od_L} {j : Nat} {v : Value} (h : od_lo ls j = some v) : (j, v) ∈ od_prs ls :=
  List.mem_filterMap.mpr ⟨j, List.mem_range.mpr (od_lo_lt h), by rw [h]; rfl⟩
theorem od_prs_to {ls : od_L} {q : Nat × Value} (h : q ∈ od_prs ls) : od_lo ls q.1 = some q.2 := by
  obtain ⟨j, -, h1⟩ := List.mem_filterMap.mp h
  cases hl : od_lo ls j with
  | none => rw [hl] at h1; cases h1
  | some v => rw [hl] at h1; cases h1; exact hl
theorem od_has_sub {ls : Array Slot} {nL : Nat} {l l' : List (Nat × Value)} (h : lv_has ls nL l) (hs : ∀ q ∈ l', q ∈ l) : lv_has ls nL l' := ⟨h.1, h.2.1, fun q hq => h.2.2 q (hs q hq)⟩
theorem od_has_at {lsM : Array Slot} {nL : Nat} {ls : od_L} {j : Nat} {v : Value} (h : lv_has lsM nL (od_prs ls)) (hl : od_lo ls j = some v) : lsM[j]? = some (.val v) := h.2.2 (j, v) (od_prs_of hl)
theorem od_lo_set (ls : od_L) (i j : Nat) (v : Option Value) : od_lo (ls.set i v) j = if j = i then (if i < ls.length then v else none) else od_lo ls j := by
  unfold od_lo
  rw [List.getElem?_set]
  by_cases h : i = j
  · subst h
    by_cases h2 : i < ls.length <;> simp [h2]
  · rw [if_neg h, if_neg (fun q => h q.symm)]
theorem od_c2_len (ls : od_L) (i : Nat) : (od_c2 ls i).length = ls.length := by
  unfold od_c2
  cases i with
  | zero => rfl
  | succ j =>
    dsimp only
    split
    · split
      · rw [List.length_set]
      · rfl
    · rfl
theorem od_c2_lo {ls : od_L} {i j : Nat} {w : Value} (h : od_lo (od_c2 ls i) j = some w) : od_lo ls j = some w ∧ ¬ (j + 1 = i ∧ w.category = 2) := by
  unfold od_c2 at h
  cases i with
  | zero => exact ⟨h, fun q => by omega⟩
  | succ i' =>
    dsimp only at h
    split at h
    · rename_i u hu
      split at h
      · rename_i hc
        rw [od_lo_set] at h
        by_cases hj : j = i'
        · rw [if_pos hj] at h
          split at h <;> cases h
        · rw [if_neg hj] at h
          exact ⟨h, fun q => hj (by omega)⟩
      · rename_i hc
        refine ⟨h, fun q => ?_⟩
        have hj : j = i' := by omega
        subst hj
        rw [h] at hu
        cases hu
        exact hc q.2
    · rename_i hu
      refine ⟨h, fun q => ?_⟩
      have hj : j = i' := by omega
      subst hj
      rw [hu] at h
      cases h
theorem od_s1_len (ls : od_L) (i : Nat) (v : Value) : (od_s1 ls i v).length = ls.length := by
  unfold od_s1
  rw [List.length_set, od_c2_len]
theorem od_s2_len (ls : od_L) (i : Nat) (v : Value) : (od_s2 ls i v).length = ls.length := by
  unfold od_s2
  rw [List.length_set, List.length_set, od_c2_len]
theorem od_has_s1 {ls' : Array Slot} {nL i : Nat} {v : Value} {ls : od_L} (h : lv_has ls' nL ((i, v) :: (od_prs ls).filter (fun q => !(q.1 == i) && !(q.1 + 1 == i && q.2.category == 2)))) : lv_has ls' nL (od_prs (od_s1 ls i v)) := by
  refine od_has_sub h fun q hq => ?_
  have h1 := od_prs_to hq
  unfold od_s1 at h1
  rw [od_lo_set] at h1
  by_cases hj : q.1 = i
  · rw [if_pos hj] at h1
    split at h1
    · cases h1
      rw [show q = (i, q.2) from by rw [← hj]]
      exact List.mem_cons_self
    · cases h1
  · rw [if_neg hj] at h1
    obtain ⟨h2, h3⟩ := od_c2_lo h1
    refine List.mem_cons_of_mem _ (List.mem_filter.mpr ⟨od_prs_of h2, ?_⟩)
    simp only [Bool.and_eq_true, Bool.not_eq_true', Bool.and_eq_false_iff, beq_eq_false_iff_ne, ne_eq]
    refine ⟨hj, ?_⟩
    by_cases h4 : q.1 + 1 = i
    · exact Or.inr (fun h5 => h3 ⟨h4, h5⟩)
    · exact Or.inl h4
theorem od_has_s2 {ls' : Array Slot} {nL i : Nat} {v : Value} {ls : od_L} (h : lv_has ls' nL ((i, v) :: (od_prs ls).filter (fun q => !(q.1 == i) && (!(q.1 == i + 1) && !(q.1 + 1 == i && q.2.category == 2))))) : lv_has ls' nL (od_prs (od_s2 ls i v)) := by
  refine od_has_sub h fun q hq => ?_
  have h1 := od_prs_to hq
  unfold od_s2 at h1
  rw [od_lo_set] at h1
  by_cases hj : q.1 = i
  · rw [if_pos hj] at h1
    split at h1
    · cases h1
      rw [show q = (i, q.2) from by rw [← hj]]
      exact List.mem_cons_self
    · cases h1
  · rw [if_neg hj, od_lo_set] at h1
    by_cases hj2 : q.1 = i + 1
    · rw [if_pos hj2] at h1
      split at h1 <;> cases h1
    · rw [if_neg hj2] at h1
      obtain ⟨h2, h3⟩ := od_c2_lo h1
      refine List.mem_cons_of_mem _ (List.mem_filter.mpr ⟨od_prs_of h2, ?_⟩)
      simp only [Bool.and_eq_true, Bool.not_eq_true', Bool.and_eq_false_iff, beq_eq_false_iff_ne, ne_eq]
      refine ⟨hj, hj2, ?_⟩
      by_cases h4 : q.1 + 1 = i
      · exact Or.inr (fun h5 => h3 ⟨h4, h5⟩)
      · exact Or.inl h4
/-- a cell of the small memory in the real heap; K: the classes of int[], long[], Row[] -/
def od_at (D : va_G) (K : Nat × Nat × Nat) (s : State) (a : Nat) (e : od_E) (H : Heap) : Prop := match e with
  | .inl x => H[a]? = some (vp_cell K.1 (x.1, .inl x.2))
  | .inr (.inl x) => H[a]? = some (vp_cell K.2.1 (x.1, .inr (.inl x.2)))
  | .inr (.inr (.inl x)) => H[a]? = some (vp_cell K.2.2 (x.1, .inr (.inr (.inr (.inr x.2)))))
  | .inr (.inr (.inr (.inl x))) => va_at D od_cls (a, .inr x) H
  | .inr (.inr (.inr (.inr x))) => va_X a x.1 x.2 s H
theorem od_at.kept {D : va_G} {K : Nat × Nat × Nat} {s : State} {a : Nat} {e : od_E} {H H1 : Heap} (h : od_at D K s a e H) (hq : H1[a]? = H[a]?) : od_at D K s a e H1 := by
  rcases e with x | x | x | x | x
  · exact hq.trans h
  · exact hq.trans h
  · exact hq.trans h
  · exact va_at.kept (q := (a, .inr x)) h hq
  · exact va_X.kept h hq
theorem od_at.lt {D : va_G} {K : Nat × Nat × Nat} {s : State} {a : Nat} {e : od_E} {H : Heap} (h : od_at D K s a e H) : a < H.size := by
  rcases e with x | x | x | x | x
  · exact (Array.getElem?_eq_some_iff.mp h).1
  · exact (Array.getElem?_eq_some_iff.mp h).1
  · exact (Array.getElem?_eq_some_iff.mp h).1
  · exact va_at.lt (q := (a, .inr x)) h
  · obtain ⟨scr, h1, -⟩ := h
    exact (Array.getElem?_eq_some_iff.mp h1).1
theorem od_at.moved {D : va_G} {K : Nat × Nat × Nat} {u U : State} {a : Nat} {e : od_E} {H : Heap} (hvm : u.vm.Alike U.vm) (h : od_at D K u a e H) : od_at D K U a e H := by
  rcases e with x | x | x | x | x
  · exact h
  · exact h
  · exact h
  · exact h
  · exact va_X.moved hvm h
theorem od_at.ns {D : va_G} {K : Nat × Nat × Nat} {s : State} {a : Nat} {e : od_E} {H : Heap} {cell : Cell} (h : od_at D K s a e H) (hc : H[a]? = some cell) : cell.vm.isStatics = false := by
  rcases e with x | x | x | x | x
  · have h1 : H[a]? = some (vp_cell K.1 (x.1, .inl x.2)) := h
    cases hc.symm.trans h1; rfl
  · have h1 : H[a]? = some (vp_cell K.2.1 (x.1, .inr (.inl x.2))) := h
    cases hc.symm.trans h1; rfl
  · have h1 : H[a]? = some (vp_cell K.2.2 (x.1, .inr (.inr (.inr (.inr x.2))))) := h
    cases hc.symm.trans h1; rfl
  · obtain ⟨r, -, cell2, q1, -, q3, -⟩ := h
    cases hc.symm.trans q1
    rw [q3]; rfl
  · obtain ⟨scr, h1, h2, -⟩ := h
    cases hc.symm.trans h1
    obtain ⟨hobj, -⟩ := h2
    cases hv : cell.vm <;> first | rfl | exact absurd hv (hobj _)
/-- the small memory lies in the real heap; all of it but the script from B on -/
def od_Rp (D : va_G) (K : Nat × Nat × Nat) (B : Nat) (s : State) (M : od_M) (H : Heap) : Prop := H.size = M.1 ∧ B ≤ M.1 ∧ (∀ (a : Nat) (e : od_E), M.2.2 a = some e → od_at D K s a e H ∧ (B ≤ a ∨ ∃ x : Nat × (Nat → Int32), e = .inr (.inr (.inr (.inr x))))) ∧ ∀ (q : Nat) (cell : Cell), B ≤ q → H[q]? = some cell → cell.vm.isStatics = false
theorem od_Rp.at {D : va_G} {K : Nat × Nat × Nat} {B : Nat} {s : State} {M : od_M} {H : Heap} (h : od_Rp D K B s M H) {a : Nat} {e : od_E} (ha : M.2.2 a = some e) : od_at D K s a e H := (h.2.2.1 a e ha).1
theorem od_Rp.moved {D : va_G} {K : Nat × Nat × Nat} {B : Nat} {u U : State} {M : od_M} {H : Heap} (hvm : u.vm.Alike U.vm) (h : od_Rp D K B u M H) : od_Rp D K B U M H := ⟨h.1, h.2.1, fun a e ha => ⟨(h.2.2.1 a e ha).1.moved hvm, (h.2.2.1 a e ha).2⟩, h.2.2.2⟩
theorem od_Rp.set {D : va_G} {K : Nat × Nat × Nat} {B : Nat} {s : State} {M : od_M} {H H1 : Heap} {a : Nat} {e : od_E} (h : od_Rp D K B s M H) (hz : H1.size = H.size) (ho : ∀ q, q ≠ a → H1[q]? = H[q]?) (ha : od_at D K s a e H1) (hb : B ≤ a) : od_Rp D K B s (od_set M a e) H1 := by
  refine ⟨hz.trans h.1, h.2.1, fun b x hx => ?_, fun q cell hq hc => ?_⟩
  · have hx' : va_up M.2.2 a (some e) b = some x := hx
    by_cases hq : b = a
    · subst hq
      rw [va_up_self] at hx'
      cases hx'
      exact ⟨ha, Or.inl hb⟩
    · rw [va_up_ne _ _ hq] at hx'
      exact ⟨(h.2.2.1 b x hx').1.kept (ho b hq), (h.2.2.1 b x hx').2⟩
  · by_cases hqa : q = a
    · subst hqa
      exact ha.ns hc
    · rw [ho q hqa] at hc
      exact h.2.2.2 q cell hq hc
theorem od_Rp.add {D : va_G} {K : Nat × Nat × Nat} {B n : Nat} {s : State} {M : od_M} {H H1 : Heap} {e : od_E} (h : od_Rp D K B s M H) (hz : H1.size = M.1 + 1) (ho : ∀ q, q < M.1 → H1[q]? = H[q]?) (ha : od_at D K s M.1 e H1) : od_Rp D K B s (od_add M n e) H1 := by
  refine ⟨hz, Nat.le_succ_of_le h.2.1, fun b x hx => ?_, fun q cell hq hc => ?_⟩
  · have hx' : va_up M.2.2 M.1 (some e) b = some x := hx
    by_cases hq : b = M.1
    · subst hq
      rw [va_up_self] at hx'
      cases hx'
      exact ⟨ha, Or.inl h.2.1⟩
    · rw [va_up_ne _ _ hq] at hx'
      have hk := (h.2.2.1 b x hx').1
      have hlt := hk.lt
      rw [h.1] at hlt
      exact ⟨hk.kept (ho b hlt), (h.2.2.1 b x hx').2⟩
  · by_cases hqa : q = M.1
    · subst hqa
      exact ha.ns hc
    · have hlt : q < H1.size := (Array.getElem?_eq_some_iff.mp hc).1
      rw [ho q (by omega)] at hc
      exact h.2.2.2 q cell hq hc
theorem od_locs {B a i : Nat} {locs : List Loc} (h : ∀ q ∈ locs, B ≤ q.base) (ha : B ≤ a) : ∀ q ∈ locs ++ [(⟨a, i⟩ : Loc)], B ≤ q.base := fun q hq => by
  rcases List.mem_append.mp hq with h1 | h1
  · exact h q h1
  · rw [List.mem_singleton.mp h1]
    exact ha
theorem od_ix_in {i : Int32} {n : Nat} (h : od_ix i n = true) : vp_in i n := by
  unfold od_ix at h
  simp only [Bool.and_eq_true, decide_eq_true_eq] at h
  intro q
  rcases q with q | q
  · exact absurd h.1 (Int32.not_le.mpr q)
  · omega
theorem od_cell_i (cA : ClassId) (n j : Nat) (f : Nat → Int32) (x : Int32) : (vp_cell cA (n, .inl f)).setSlot j (.int x) = vp_cell cA (n, .inl (upd f j x)) := by
  rw [vp_cell_i, vp_cell_i, arrV_store]
  congr 1
  funext q
  by_cases hq : q = j
  · subst hq; simp [updV, upd]
  · simp [updV, upd, hq]
theorem od_cell_l (cA : ClassId) (n j : Nat) (f : Nat → Int64) (x : Int64) : (vp_cell cA (n, .inr (.inl f))).setSlot j (.long x) = vp_cell cA (n, .inr (.inl (vp_updL f j x))) := by
  rw [vp_cell_l, vp_cell_l, arrV_store]
  congr 1
  funext q
  by_cases hq : q = j
  · subst hq; simp [updV, vp_updL]
  · simp [updV, vp_updL, hq]
theorem od_cell_q (cA : ClassId) (n j : Nat) (f : Nat → Option Nat) (v : Nat) : (vp_cell cA (n, .inr (.inr (.inr (.inr f))))).setSlot j (.ref v) = vp_cell cA (n, .inr (.inr (.inr (.inr (va_up f j (some v)))))) := by
  rw [vp_cell_q, vp_cell_q, arrV_store]
  congr 1
  funext q
  by_cases hq : q = j
  · subst hq; simp [updV, va_up, va_rf]
  · simp [updV, va_up, hq]
/-- a world of one cell -/
theorem od_one {D : va_G} {cl : List vw_C} {q : Nat × va_E} {H : Heap} (h : va_at D cl q H) : va_P D cl [q] H := fun k x hx => by
  have hz : k < 1 := (List.getElem?_eq_some_iff.mp hx).1
  rw [show k = 0 by omega] at hx
  cases hx
  exact h
