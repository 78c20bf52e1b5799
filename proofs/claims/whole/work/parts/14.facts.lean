/-! The tables of the small machine against the Statement's words: checks by program. -/
def od_gw (w : Cond) : Bool := match w with
  | .methodLinkNest .. => true
  | .declares _ => true
  | .castable .. => true
  | .arrayOver (.object _) => true
  | w => goodWord w
def od_WS : List Cond := lw_tbl.filter od_gw
def od_has (w : Cond) : Bool := od_gw w && (decide (w ∈ tables_1) || decide (w ∈ k2_sels lw_privs))
theorem od_hasI {w : Cond} (h : od_has w = true) : w ∈ od_WS := by
  unfold od_has at h
  simp only [Bool.and_eq_true, Bool.or_eq_true, decide_eq_true_eq] at h
  refine List.mem_filter.mpr ⟨?_, h.1⟩
  unfold lw_tbl
  rcases h.2 with h | h
  · exact List.mem_append_right _ h
  · exact List.mem_append_left _ h
theorem od_ride : ∀ w ∈ od_WS, ∀ (args a' : Array Value) (s U : State), s.WarmedH U.vm → w.before args s = true → w.before a' U = true := by
  intro w hw args a' s U hW hb
  have hg := (List.mem_filter.mp hw).2
  unfold od_gw at hg
  split at hg
  · exact va_Nw.use rfl (va_Nw.warmM hW (va_Nw.of rfl hb))
  · exact va_Nw.use rfl (va_Nw.warmD hW (va_Nw.of rfl hb))
  · rename_i a b
    have hal := hW.alike
    simp only [Cond.before, Cond.holds, Cond.value] at hb ⊢
    rw [hal.findClass, hal.findClass]
    cases h1 : s.vm.findClass a with
    | none => rw [h1] at hb; exact hb
    | some x =>
      rw [h1] at hb
      cases h2 : s.vm.findClass b with
      | none => rw [h2] at hb; exact hb
      | some y =>
        rw [h2] at hb
        dsimp only at hb ⊢
        rw [hal.assignable]
        exact hb
  · exact va_AO.use (va_AO.moved hW.alike (va_AO.of hb))
  · exact word_at hW (good_of_word hg) hb
theorem od_look {α : Type} {l : List (Nat × α)} {k : Nat} {v : α} (h : l.lookup k = some v) : (k, v) ∈ l := by
  induction l with
  | nil => cases h
  | cons q r ih =>
    obtain ⟨k', v'⟩ := q
    rw [List.lookup_cons] at h
    split at h
    · rename_i hk
      cases h
      have : k = k' := by simpa using hk
      subst this
      exact List.mem_cons_self
    · exact List.mem_cons_of_mem _ (ih h)
/-- a check of every row of a table by classes -/
theorem od_rows {α : Type} {L : List (List (Nat × α))} {f : Nat → Nat × α → Bool} (h : (List.range 12).all (fun own => ((L[own]?).getD []).all (f own)) = true) (hl : L.length = 12) {own ix : Nat} {v : α} (hv : ((L[own]?).getD []).lookup ix = some v) : f own (ix, v) = true := by
  have hm := od_look hv
  have ho : own < 12 := by
    apply Nat.lt_of_not_le
    intro hle
    rw [List.getElem?_eq_none (by omega)] at hm
    cases hm
  exact List.all_eq_true.mp (List.all_eq_true.mp h own (List.mem_range.mpr ho)) _ hm
def od_ty (T : u_T) (j : Nat) : FieldType := (parseFieldDescriptor (T j).2.2.1).getD .int
def od_tyc (t : Nat) (ty : FieldType) (fin : Bool) : Bool := match ty with
  | .int => t == 0 && !fin
  | .boolean => t == 1 && !fin
  | .object _ => (t == 2 && !fin) || ((t == 3 && fin) || (t == 5 && fin))
  | .array _ => (t == 2 && !fin) || ((t == 3 && fin) || (t == 5 && fin))
  | _ => false
theorem od_tycI {t : Nat} {ty : FieldType} {fin : Bool} (h : od_tyc t ty fin = true) : od_tyok t ty fin := by
  unfold od_tyc at h
  split at h
  · simp at h; exact Or.inl ⟨h.1, rfl, h.2⟩
  · simp at h; exact Or.inr (Or.inl ⟨h.1, rfl, h.2⟩)
  · rename_i n
    simp at h
    refine Or.inr (Or.inr ⟨?_, Or.inl ⟨n, rfl⟩⟩)
    rcases h with h | h | h
    · exact Or.inl h
    · exact Or.inr (Or.inl h)
    · exact Or.inr (Or.inr h)
  · rename_i n
    simp at h
    refine Or.inr (Or.inr ⟨?_, Or.inr ⟨n, rfl⟩⟩)
    rcases h with h | h | h
    · exact Or.inl h
    · exact Or.inr (Or.inl h)
    · exact Or.inr (Or.inr h)
  · cases h
def od_clc (C : String) (T : u_T) (N : Nat) : Bool := (u_ws C T N).all od_has && (List.range N).all (fun j => (parseFieldDescriptor (T j).2.2.1).isSome) && (List.range N).all (fun a => (List.range N).all (fun b => a == b || (T a).2.1 != (T b).2.1))
theorem od_clcI {C : String} {T : u_T} {N : Nat} (h : od_clc C T N = true) : (∀ w ∈ u_ws C T N, w ∈ od_WS) ∧ (∀ j, j < N → parseFieldDescriptor (T j).2.2.1 = some (od_ty T j)) ∧ (∀ a, a < N → ∀ b, b < N → a ≠ b → (T a).2.1 ≠ (T b).2.1) := by
  unfold od_clc at h
  simp only [Bool.and_eq_true] at h
  obtain ⟨⟨h1, h2⟩, h3⟩ := h
  refine ⟨fun w hw => od_hasI (List.all_eq_true.mp h1 w hw), fun j hj => ?_, fun a ha b hb hab => ?_⟩
  · have h4 := List.all_eq_true.mp h2 j (List.mem_range.mpr hj)
    obtain ⟨y, hy⟩ := Option.isSome_iff_exists.mp h4
    unfold od_ty
    rw [hy]
    rfl
  · have h4 := List.all_eq_true.mp (List.all_eq_true.mp h3 a (List.mem_range.mpr ha)) b (List.mem_range.mpr hb)
    simp only [Bool.or_eq_true, beq_iff_eq, bne_iff_ne] at h4
    exact h4.resolve_left hab
theorem od_cl_ok : od_cls.all (fun q => od_clc q.1 q.2.1 q.2.2) = true := by decide +kernel
theorem od_clI {c : Nat} {C : String} {T : u_T} {N : Nat} (h : od_cls[c]? = some (C, T, N)) : (∀ w ∈ u_ws C T N, w ∈ od_WS) ∧ (∀ j, j < N → parseFieldDescriptor (T j).2.2.1 = some (od_ty T j)) ∧ (∀ a, a < N → ∀ b, b < N → a ≠ b → (T a).2.1 ≠ (T b).2.1) :=
  od_clcI (List.all_eq_true.mp od_cl_ok _ (List.mem_of_getElem? h))
def od_fck (own : Nat) (q : Nat × Nat × Nat × Nat) : Bool := match od_cls[q.2.1]? with
  | some r => decide (q.2.2.1 < r.2.2) && od_has (.fieldLink (od_cn own) q.1 (r.2.1 q.2.2.1).1 (r.2.1 q.2.2.1).2.1 (r.2.1 q.2.2.1).2.2.1) && od_tyc q.2.2.2 (od_ty r.2.1 q.2.2.1) (r.2.1 q.2.2.1).2.2.2 && (q.2.2.2 != 3 || (r.2.1 q.2.2.1).1 == od_cn own)
  | none => false
theorem od_f_ok : (List.range 12).all (fun own => ((od_fdl[own]?).getD []).all (od_fck own)) = true := by decide +kernel
theorem od_fd_ok {own ix c k t : Nat} (h : od_fd own ix = some (c, k, t)) : od_fok od_WS own ix c k t := by
  have h1 := od_rows od_f_ok rfl h
  unfold od_fck at h1
  cases hc : od_cls[c]? with
  | none => simp only [hc] at h1; cases h1
  | some r =>
    simp only [hc, Bool.and_eq_true, decide_eq_true_eq] at h1
    obtain ⟨⟨⟨h2, h3⟩, h4⟩, h5⟩ := h1
    obtain ⟨C, T, N⟩ := r
    obtain ⟨g1, g2, g3⟩ := od_clI hc
    refine ⟨C, T, N, od_ty T, hc, g1, g2, g3, h2, od_hasI h3, od_tycI h4, fun ht => ?_⟩
    simpa [ht] using h5
def od_nck (own : Nat) (q : Nat × Nat × List Value) : Bool := match od_cls[q.2.1]? with
  | some r => od_has (.classLink (od_cn own) q.1 r.1) && od_has (.instantiable r.1 r.2.2) && od_has (.initialized r.1) && q.2.2.length == r.2.2 && (List.range r.2.2).all (fun j => decide (defaultValue (od_ty r.2.1 j) = vp_V q.2.2 j))
  | none => false
theorem od_n_ok : (List.range 12).all (fun own => ((od_nwl[own]?).getD []).all (od_nck own)) = true := by decide +kernel
theorem od_nw_ok {own ix c : Nat} {fs : List Value} (h : od_nw own ix = some (c, fs)) : od_nok od_WS own ix c fs := by
  have h1 := od_rows od_n_ok rfl h
  unfold od_nck at h1
  cases hc : od_cls[c]? with
  | none => simp only [hc] at h1; cases h1
  | some r =>
    simp only [hc, Bool.and_eq_true, beq_iff_eq] at h1
    obtain ⟨⟨⟨⟨h2, h3⟩, h4⟩, h5⟩, h6⟩ := h1
    obtain ⟨C, T, N⟩ := r
    obtain ⟨g1, g2, g3⟩ := od_clI hc
    exact ⟨C, T, N, od_ty T, hc, g1, g2, od_hasI h2, od_hasI h3, od_hasI h4, h5, fun j hj => of_decide_eq_true (List.all_eq_true.mp h6 j (List.mem_range.mpr hj))⟩
theorem od_cd_ok {k pc n : Nat} {i : ClassFile.Instr} (h : od_cd k pc = some (i, n)) : decode (od_by k) pc = .ok (i, n) := by
  unfold od_cd at h
  unfold od_by
  cases hk : od_tab[k]? with
  | none => rw [hk] at h; cases h
  | some q =>
    rw [hk] at h
    have h1 := od_tab_ok q (List.mem_of_getElem? hk)
    simp only [Option.map_some, Option.getD_some] at h ⊢
    have hl : pc < q.2.length := by
      apply Nat.lt_of_not_le
      intro hle
      rw [List.getElem?_eq_none hle] at h
      cases h
    have h2 := h1 pc hl
    unfold od_chq at h2
    rw [h] at h2
    exact of_decide_eq_true h2
