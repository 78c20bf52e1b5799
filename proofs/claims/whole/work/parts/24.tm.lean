/-! The grammar of a row, as lists of numbers: a scan by depth. -/
def tm_sc : Nat → List Nat → Bool
  | d, [] => d == 0
  | _, [_] => false
  | d, t :: c :: ys => if t = 1 then tm_sc (d + 1) (c :: ys) else (decide (0 < d) && decide (t = 0) && decide (1 ≤ c) && decide (c ≤ 1000000) && tm_sc (d - 1) ys)
def tm_W (xs : List Nat) : Prop := tm_sc 0 xs = true
/-- a coefficient -/
def tm_c (c : Nat) : Prop := 1 ≤ c ∧ c ≤ 1000000
theorem tm_sc_1 (d : Nat) (xs : List Nat) : tm_sc d (1 :: xs) = tm_sc (d + 1) xs := by
  rcases xs with _ | ⟨c, ys⟩
  · rw [tm_sc, tm_sc]
    rfl
  · rw [tm_sc, if_pos rfl]
theorem tm_sc_0 {d c : Nat} {xs : List Nat} (hc : tm_c c) : tm_sc (d + 1) (0 :: c :: xs) = tm_sc d xs := by
  rw [tm_sc, if_neg (by decide)]
  simp [hc.1, hc.2]
theorem tm_sc_inv {d t : Nat} {xs : List Nat} (h : tm_sc d (t :: xs) = true) : (t = 1 ∧ tm_sc (d + 1) xs = true) ∨ (t = 0 ∧ ∃ d' c ys, d = d' + 1 ∧ xs = c :: ys ∧ tm_c c ∧ tm_sc d' ys = true) := by
  rcases xs with _ | ⟨c, ys⟩
  · rw [tm_sc] at h
    cases h
  · by_cases ht : t = 1
    · rw [tm_sc, if_pos ht] at h
      exact Or.inl ⟨ht, h⟩
    · rw [tm_sc, if_neg ht] at h
      simp only [Bool.and_eq_true, decide_eq_true_eq] at h
      obtain ⟨⟨⟨⟨h1, h2⟩, h3⟩, h4⟩, h5⟩ := h
      exact Or.inr ⟨h2, d - 1, c, ys, by omega, rfl, ⟨h3, h4⟩, h5⟩
theorem tm_sc_app : ∀ (n : Nat) (e : List Nat), e.length ≤ n → ∀ (k d : Nat) (r : List Nat), tm_sc k e = true → tm_sc (k + d) (e ++ r) = tm_sc d r := by
  intro n
  induction n with
  | zero =>
    intro e he k d r h
    have : e = [] := List.length_eq_zero_iff.mp (by omega)
    subst this
    simp only [tm_sc, beq_iff_eq] at h
    subst h
    simp
  | succ n ih =>
    intro e he k d r h
    rcases e with _ | ⟨t, xs⟩
    · simp only [tm_sc, beq_iff_eq] at h
      subst h
      simp
    · rcases tm_sc_inv h with ⟨rfl, h1⟩ | ⟨rfl, d', c, ys, rfl, rfl, hc, h1⟩
      · rw [List.cons_append, tm_sc_1, show k + d + 1 = k + 1 + d by omega]
        exact ih xs (by simpa using he) _ _ _ h1
      · rw [show d' + 1 + d = d' + d + 1 by omega, List.cons_append, List.cons_append, tm_sc_0 hc]
        refine ih ys ?_ _ _ _ h1
        simp only [List.length_cons] at he
        omega
theorem tm_app {e r : List Nat} {d : Nat} (h : tm_W e) : tm_sc d (e ++ r) = tm_sc d r := by
  have := tm_sc_app e.length e (Nat.le_refl _) 0 d r h
  rwa [Nat.zero_add] at this
theorem tm_dec : ∀ (n : Nat) (xs : List Nat), xs.length ≤ n → ∀ d, tm_sc (d + 1) xs = true → ∃ e c r, xs = e ++ 0 :: c :: r ∧ tm_W e ∧ tm_c c ∧ tm_sc d r = true := by
  intro n
  induction n with
  | zero =>
    intro xs hx d h
    have : xs = [] := List.length_eq_zero_iff.mp (by omega)
    subst this
    simp [tm_sc] at h
  | succ n ih =>
    intro xs hx d h
    rcases xs with _ | ⟨t, ys⟩
    · simp [tm_sc] at h
    · rcases tm_sc_inv h with ⟨rfl, h1⟩ | ⟨rfl, d', c, zs, hd, rfl, hc, h1⟩
      · obtain ⟨e1, c1, r1, rfl, he1, hc1, hr1⟩ := ih ys (by simpa using hx) _ h1
        obtain ⟨e2, c2, r2, rfl, he2, hc2, hr2⟩ := ih r1 (by simp only [List.length_cons, List.length_append] at hx; omega) _ hr1
        refine ⟨1 :: (e1 ++ 0 :: c1 :: e2), c2, r2, by simp, ?_, hc2, hr2⟩
        unfold tm_W
        rw [tm_sc_1, tm_app he1, tm_sc_0 hc1]
        exact he2
      · have : d' = d := by omega
        subst this
        exact ⟨[], c, zs, rfl, rfl, hc, h1⟩
theorem tm_cases {xs : List Nat} (h : tm_W xs) : xs = [] ∨ ∃ e c r, xs = 1 :: (e ++ 0 :: c :: r) ∧ tm_W e ∧ tm_c c ∧ tm_W r := by
  rcases xs with _ | ⟨t, ys⟩
  · exact Or.inl rfl
  · rcases tm_sc_inv h with ⟨rfl, h1⟩ | ⟨rfl, d', c, zs, hd, _⟩
    · obtain ⟨e, c, r, rfl, h2, h3, h4⟩ := tm_dec _ _ (Nat.le_refl _) _ h1
      exact Or.inr ⟨e, c, r, rfl, h2, h3, h4⟩
    · cases hd
theorem tm_nil : tm_W [] := rfl
theorem tm_cons {e r : List Nat} {c : Nat} (he : tm_W e) (hc : tm_c c) (hr : tm_W r) : tm_W (1 :: (e ++ 0 :: c :: r)) := by
  unfold tm_W
  rw [tm_sc_1, tm_app he, tm_sc_0 hc]
  exact hr
theorem tm_append {e r : List Nat} (he : tm_W e) (hr : tm_W r) : tm_W (e ++ r) := by
  unfold tm_W
  rw [tm_app he]
  exact hr
/-- what follows a whole row within a whole row is whole -/
theorem tm_tail {e r : List Nat} (he : tm_W e) (h : tm_W (e ++ r)) : tm_W r := by
  unfold tm_W at h
  rw [tm_app he] at h
  exact h
/-- terms: an exponent and a coefficient -/
abbrev tm_T : Type := List Nat × Nat
def tm_t (t : tm_T) : List Nat := 1 :: (t.1 ++ [0, t.2])
def tm_fl : List tm_T → List Nat
  | [] => []
  | t :: ts => tm_t t ++ tm_fl ts
def tm_ok (t : tm_T) : Prop := tm_W t.1 ∧ tm_c t.2
def tm_al : List tm_T → Prop
  | [] => True
  | t :: ts => tm_ok t ∧ tm_al ts
theorem tm_t_len (t : tm_T) : (tm_t t).length = t.1.length + 3 := by unfold tm_t; simp
theorem tm_fl_app (a b : List tm_T) : tm_fl (a ++ b) = tm_fl a ++ tm_fl b := by
  induction a with
  | nil => rfl
  | cons t ts ih => rw [List.cons_append, tm_fl, tm_fl, ih, List.append_assoc]
theorem tm_al_app {a b : List tm_T} : tm_al (a ++ b) ↔ tm_al a ∧ tm_al b := by
  induction a with
  | nil => simp [tm_al]
  | cons t ts ih => rw [List.cons_append, tm_al, tm_al, ih, and_assoc]
theorem tm_t_W {t : tm_T} (h : tm_ok t) : tm_W (tm_t t) := tm_cons (r := []) h.1 h.2 tm_nil
theorem tm_fl_W {ts : List tm_T} (h : tm_al ts) : tm_W (tm_fl ts) := by
  induction ts with
  | nil => exact tm_nil
  | cons t ts ih => exact tm_append (tm_t_W h.1) (ih h.2)
theorem tm_fl_len (ts : List tm_T) : 3 * ts.length ≤ (tm_fl ts).length := by
  induction ts with
  | nil => simp
  | cons t ts ih =>
    rw [tm_fl, List.length_append, tm_t_len, List.length_cons]
    omega
theorem tm_ts : ∀ (n : Nat) (xs : List Nat), xs.length ≤ n → tm_W xs → ∃ ts, xs = tm_fl ts ∧ tm_al ts := by
  intro n
  induction n with
  | zero =>
    intro xs hx h
    have : xs = [] := List.length_eq_zero_iff.mp (by omega)
    exact ⟨[], this, trivial⟩
  | succ n ih =>
    intro xs hx h
    rcases tm_cases h with rfl | ⟨e, c, r, rfl, h1, h2, h3⟩
    · exact ⟨[], rfl, trivial⟩
    · obtain ⟨ts, rfl, hts⟩ := ih r (by simp only [List.length_cons, List.length_append] at hx; omega) h3
      refine ⟨(e, c) :: ts, ?_, ⟨h1, h2⟩, hts⟩
      rw [tm_fl, tm_t]
      simp
theorem tm_terms {xs : List Nat} (h : tm_W xs) : ∃ ts, xs = tm_fl ts ∧ tm_al ts := tm_ts _ xs (Nat.le_refl _) h
/-- cells that stand in an array from the place i on -/
def tm_at (f : Nat → Int32) (i : Nat) (xs : List Nat) : Prop := ∀ j, j < xs.length → f (i + j) = nI (xs.getD j 0)
theorem tm_at_nil (f : Nat → Int32) (i : Nat) : tm_at f i [] := fun j h => absurd h (by simp)
theorem tm_at_cons {f : Nat → Int32} {i t : Nat} {xs : List Nat} : tm_at f i (t :: xs) ↔ f i = nI t ∧ tm_at f (i + 1) xs := by
  constructor
  · intro h
    refine ⟨by simpa using h 0 (by simp), fun j hj => ?_⟩
    have := h (j + 1) (by simpa using hj)
    rw [show i + 1 + j = i + (j + 1) by omega, this]
    simp
  · rintro ⟨h1, h2⟩ j hj
    rcases j with _ | j
    · simpa using h1
    · have := h2 j (by simpa using hj)
      rw [show i + (j + 1) = i + 1 + j by omega, this]
      simp
theorem tm_at_app {f : Nat → Int32} {i : Nat} {xs ys : List Nat} : tm_at f i (xs ++ ys) ↔ tm_at f i xs ∧ tm_at f (i + xs.length) ys := by
  induction xs generalizing i with
  | nil => simp [tm_at_nil]
  | cons t xs ih => rw [List.cons_append, tm_at_cons, tm_at_cons, ih, and_assoc, List.length_cons, show i + 1 + xs.length = i + (xs.length + 1) by omega]
