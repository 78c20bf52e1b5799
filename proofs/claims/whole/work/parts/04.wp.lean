/-! Runs of the small machine: more fuel and more depth change nothing; rules that lead a run on. -/
theorem od_ev_s (n d k pc : Nat) (ls : od_L) (st : List Value) (M : od_M) : od_ev (n + 1) d k pc ls st M = match od_step k pc ls st M with
    | none => none
    | some (.inl q) => od_ev n d k q.1 q.2.1 q.2.2.1 q.2.2.2
    | some (.inr (.inr q)) => some q
    | some (.inr (.inl q)) => match d with
      | 0 => none
      | d' + 1 => match od_ev n d' q.1 0 (od_ent q.1 q.2.1) [] M with
        | none => none
        | some (.inl r, M1) => od_ev n (d' + 1) k (pc + 3) ls (r.toList ++ q.2.2) M1
        | some (.inr xa, M1) => match od_hn k pc xa.1 with
          | some (some h) => od_ev n (d' + 1) k h ls [.ref xa.2] M1
          | some none => some (.inr xa, M1)
          | none => none := by rw [od_ev]; rfl
theorem od_fuel1 : ∀ (n d k pc : Nat) (ls : od_L) (st : List Value) (M : od_M) (r : od_O × od_M), od_ev n d k pc ls st M = some r → od_ev (n + 1) d k pc ls st M = some r := by
  intro n
  induction n with
  | zero => intro d k pc ls st M r h; rw [od_ev] at h; cases h
  | succ n ih =>
    intro d k pc ls st M r h
    rw [od_ev_s] at h ⊢
    rcases hs : od_step k pc ls st M with _ | q | q | q
    · rw [hs] at h; cases h
    · rw [hs] at h
      exact ih _ _ _ _ _ _ _ h
    · rw [hs] at h
      cases d with
      | zero => cases h
      | succ d' =>
        dsimp only at h ⊢
        rcases hc : od_ev n d' q.1 0 (od_ent q.1 q.2.1) [] M with _ | ⟨v | xa, M1⟩
        · rw [hc] at h; cases h
        · rw [hc] at h; rw [ih _ _ _ _ _ _ _ hc]
          exact ih _ _ _ _ _ _ _ h
        · rw [hc] at h; rw [ih _ _ _ _ _ _ _ hc]
          dsimp only at h ⊢
          rcases hh : od_hn k pc xa.1 with _ | _ | p
          · rw [hh] at h; cases h
          · rw [hh] at h; exact h
          · rw [hh] at h
            exact ih _ _ _ _ _ _ _ h
    · rw [hs] at h
      exact h
theorem od_fuel {n n' d k pc : Nat} {ls : od_L} {st : List Value} {M : od_M} {r : od_O × od_M} (hn : n ≤ n') (h : od_ev n d k pc ls st M = some r) : od_ev n' d k pc ls st M = some r := by
  obtain ⟨j, rfl⟩ := Nat.le.dest hn
  clear hn
  induction j with
  | zero => exact h
  | succ j ih => exact od_fuel1 _ _ _ _ _ _ _ _ ih
theorem od_deep1 : ∀ (n d k pc : Nat) (ls : od_L) (st : List Value) (M : od_M) (r : od_O × od_M), od_ev n d k pc ls st M = some r → od_ev n (d + 1) k pc ls st M = some r := by
  intro n
  induction n with
  | zero => intro d k pc ls st M r h; rw [od_ev] at h; cases h
  | succ n ih =>
    intro d k pc ls st M r h
    rw [od_ev_s] at h ⊢
    rcases hs : od_step k pc ls st M with _ | q | q | q
    · rw [hs] at h; cases h
    · rw [hs] at h
      exact ih _ _ _ _ _ _ _ h
    · rw [hs] at h
      cases d with
      | zero => cases h
      | succ d' =>
        dsimp only at h ⊢
        rcases hc : od_ev n d' q.1 0 (od_ent q.1 q.2.1) [] M with _ | ⟨v | xa, M1⟩
        · rw [hc] at h; cases h
        · rw [hc] at h; rw [ih _ _ _ _ _ _ _ hc]
          exact ih _ _ _ _ _ _ _ h
        · rw [hc] at h; rw [ih _ _ _ _ _ _ _ hc]
          dsimp only at h ⊢
          rcases hh : od_hn k pc xa.1 with _ | _ | p
          · rw [hh] at h; cases h
          · rw [hh] at h; exact h
          · rw [hh] at h
            exact ih _ _ _ _ _ _ _ h
    · rw [hs] at h
      exact h
theorem od_deep {n d d' k pc : Nat} {ls : od_L} {st : List Value} {M : od_M} {r : od_O × od_M} (hd : d ≤ d') (h : od_ev n d k pc ls st M = some r) : od_ev n d' k pc ls st M = some r := by
  obtain ⟨j, rfl⟩ := Nat.le.dest hd
  clear hd
  induction j with
  | zero => exact h
  | succ j ih => exact od_deep1 _ _ _ _ _ _ _ _ ih
/-- from here the run ends, with Q -/
def od_W (d k pc : Nat) (ls : od_L) (st : List Value) (M : od_M) (Q : od_O → od_M → Prop) : Prop := ∃ (n : Nat) (o : od_O) (M' : od_M), od_ev n d k pc ls st M = some (o, M') ∧ Q o M'
theorem od_W.mono {d k pc : Nat} {ls : od_L} {st : List Value} {M : od_M} {Q Q' : od_O → od_M → Prop} (h : od_W d k pc ls st M Q) (hq : ∀ o M', Q o M' → Q' o M') : od_W d k pc ls st M Q' := by
  obtain ⟨n, o, M', h1, h2⟩ := h
  exact ⟨n, o, M', h1, hq o M' h2⟩
theorem od_W.deep {d d' k pc : Nat} {ls : od_L} {st : List Value} {M : od_M} {Q : od_O → od_M → Prop} (h : od_W d k pc ls st M Q) (hd : d ≤ d') : od_W d' k pc ls st M Q := by
  obtain ⟨n, o, M', h1, h2⟩ := h
  exact ⟨n, o, M', od_deep hd h1, h2⟩
theorem od_W.go {d k pc : Nat} {ls : od_L} {st : List Value} {M : od_M} {Q : od_O → od_M → Prop} {pc' : Nat} {ls' : od_L} {st' : List Value} {M' : od_M} (hs : od_step k pc ls st M = some (.inl (pc', ls', st', M'))) (h : od_W d k pc' ls' st' M' Q) : od_W d k pc ls st M Q := by
  obtain ⟨n, o, M2, h1, h2⟩ := h
  refine ⟨n + 1, o, M2, ?_, h2⟩
  rw [od_ev_s, hs]
  exact h1
theorem od_W.fin {d k pc : Nat} {ls : od_L} {st : List Value} {M : od_M} {Q : od_O → od_M → Prop} {o : od_O} {M' : od_M} (hs : od_step k pc ls st M = some (.inr (.inr (o, M')))) (h : Q o M') : od_W d k pc ls st M Q := by
  refine ⟨1, o, M', ?_, h⟩
  rw [od_ev_s, hs]
/-- what follows a call: the value onto the stack; or an exception: to its handler, or out -/
def od_K (d k pc : Nat) (ls : od_L) (rest : List Value) (Q : od_O → od_M → Prop) (o : od_O) (M : od_M) : Prop := match o with
  | .inl v => od_W d k (pc + 3) ls (v.toList ++ rest) M Q
  | .inr xa => match od_hn k pc xa.1 with
    | some (some h) => od_W d k h ls [.ref xa.2] M Q
    | some none => Q (.inr xa) M
    | none => False
theorem od_W.call {d d' k pc : Nat} {ls : od_L} {st : List Value} {M : od_M} {Q Q1 : od_O → od_M → Prop} {j : Nat} {as rest : List Value} (hs : od_step k pc ls st M = some (.inr (.inl (j, as, rest)))) (hc : od_W d' j 0 (od_ent j as) [] M Q1) (hd : d' ≤ d) (h : ∀ o M1, Q1 o M1 → od_K (d + 1) k pc ls rest Q o M1) : od_W (d + 1) k pc ls st M Q := by
  obtain ⟨n, o, M1, h1, h2⟩ := hc.deep hd
  have h3 := h o M1 h2
  cases o with
  | inl v =>
    obtain ⟨n2, o2, M2, h4, h5⟩ := h3
    refine ⟨max n n2 + 1, o2, M2, ?_, h5⟩
    rw [od_ev_s, hs]
    dsimp only
    rw [od_fuel (Nat.le_max_left n n2) h1]
    exact od_fuel (Nat.le_max_right n n2) h4
  | inr xa =>
    unfold od_K at h3
    dsimp only at h3
    rcases hh : od_hn k pc xa.1 with _ | _ | hp
    · rw [hh] at h3
      exact h3.elim
    · rw [hh] at h3
      refine ⟨n + 1, .inr xa, M1, ?_, h3⟩
      rw [od_ev_s, hs]
      dsimp only
      rw [h1]
      dsimp only
      rw [hh]
    · rw [hh] at h3
      obtain ⟨n2, o2, M2, h4, h5⟩ := h3
      refine ⟨max n n2 + 1, o2, M2, ?_, h5⟩
      rw [od_ev_s, hs]
      dsimp only
      rw [od_fuel (Nat.le_max_left n n2) h1]
      dsimp only
      rw [hh]
      exact od_fuel (Nat.le_max_right n n2) h4
/-- several steps within the method -/
def od_run : Nat → Nat → Nat × od_L × List Value × od_M → Option (Nat × od_L × List Value × od_M)
  | 0, _, q => some q
  | n + 1, k, q => match od_step k q.1 q.2.1 q.2.2.1 q.2.2.2 with
    | some (.inl q') => od_run n k q'
    | _ => none
theorem od_W.run {d k : Nat} {Q : od_O → od_M → Prop} : ∀ (n : Nat) {pc : Nat} {ls : od_L} {st : List Value} {M : od_M} {pc' : Nat} {ls' : od_L} {st' : List Value} {M' : od_M}, od_run n k (pc, ls, st, M) = some (pc', ls', st', M') → od_W d k pc' ls' st' M' Q → od_W d k pc ls st M Q := by
  intro n
  induction n with
  | zero =>
    intro pc ls st M pc' ls' st' M' h hk
    rw [od_run] at h
    cases h
    exact hk
  | succ n ih =>
    intro pc ls st M pc' ls' st' M' h hk
    rw [od_run] at h
    dsimp only at h
    rcases hs : od_step k pc ls st M with _ | ⟨a, b, c, e⟩ | q | q
    · rw [hs] at h; cases h
    · rw [hs] at h
      exact od_W.go hs (ih h hk)
    · rw [hs] at h; cases h
    · rw [hs] at h; cases h
