/-! What the operations make, as lists of terms. -/
theorem tm_cmp_is : ∀ (a b : List Nat), tm_cmp a b = -1 ∨ tm_cmp a b = 0 ∨ tm_cmp a b = 1 := by
  intro a
  induction a with
  | nil => intro b; cases b with
    | nil => exact Or.inr (Or.inl rfl)
    | cons y b => exact Or.inl rfl
  | cons x a ih => intro b; cases b with
    | nil => exact Or.inr (Or.inr rfl)
    | cons y b =>
      unfold tm_cmp
      by_cases h1 : x < y
      · exact Or.inl (if_pos h1)
      · rw [if_neg h1]
        by_cases h2 : y < x
        · exact Or.inr (Or.inr (if_pos h2))
        · rw [if_neg h2]; exact ih b
theorem tm_cmp_eq : ∀ {a b : List Nat}, tm_cmp a b = 0 → a = b := by
  intro a
  induction a with
  | nil => intro b h; cases b with
    | nil => rfl
    | cons y b => exact absurd (show (-1 : Int32) = 0 from h) (by decide)
  | cons x a ih => intro b h; cases b with
    | nil => exact absurd (show (1 : Int32) = 0 from h) (by decide)
    | cons y b =>
      unfold tm_cmp at h
      by_cases h1 : x < y
      · rw [if_pos h1] at h; exact absurd h (by decide)
      · rw [if_neg h1] at h
        by_cases h2 : y < x
        · rw [if_pos h2] at h; exact absurd h (by decide)
        · rw [if_neg h2] at h
          rw [ih h, show x = y by omega]
theorem tm_cmp_self : ∀ (a : List Nat), tm_cmp a a = 0 := by
  intro a
  induction a with
  | nil => rfl
  | cons x a ih => unfold tm_cmp; rw [if_neg (by omega), if_neg (by omega)]; exact ih
/-- a row cut behind the part in which depth d closes -/
def tm_cut : Nat → List Nat → List Nat × List Nat
  | d, 1 :: r => (1 :: (tm_cut (d + 1) r).1, (tm_cut (d + 1) r).2)
  | d + 1, 0 :: c :: r => (0 :: c :: (tm_cut d r).1, (tm_cut d r).2)
  | _, r => ([], r)
theorem tm_cut_1 (d : Nat) (r : List Nat) : tm_cut d (1 :: r) = (1 :: (tm_cut (d + 1) r).1, (tm_cut (d + 1) r).2) := by
  cases d <;> rfl
theorem tm_cut_W : ∀ (n : Nat) (e : List Nat), e.length ≤ n → tm_W e → ∀ (d : Nat) (r : List Nat), tm_cut d (e ++ r) = (e ++ (tm_cut d r).1, (tm_cut d r).2) := by
  intro n
  induction n with
  | zero => intro e he _ d r; rw [List.length_eq_zero_iff.mp (by omega : e.length = 0)]; rfl
  | succ n ih =>
    intro e he hW d r
    rcases tm_cases hW with rfl | ⟨e1, c, r1, rfl, h1, h2, h3⟩
    · rfl
    · simp only [List.length_cons, List.length_append] at he
      have ea : 1 :: (e1 ++ 0 :: c :: r1) ++ r = 1 :: (e1 ++ (0 :: c :: (r1 ++ r))) := by simp
      have eb : tm_cut (d + 1) (0 :: c :: (r1 ++ r)) = (0 :: c :: (tm_cut d (r1 ++ r)).1, (tm_cut d (r1 ++ r)).2) := rfl
      rw [ea, tm_cut_1, ih e1 (by omega) h1, eb, ih r1 (by omega) h3]
      simp
def tm_ps : Nat → List Nat → List tm_T
  | n + 1, 1 :: r => match (tm_cut 0 r).2 with
    | 0 :: c :: s => ((tm_cut 0 r).1, c) :: tm_ps n s
    | _ => []
  | _, _ => []
theorem tm_ps_1 (n : Nat) (r : List Nat) : tm_ps (n + 1) (1 :: r) = match (tm_cut 0 r).2 with
    | 0 :: c :: s => ((tm_cut 0 r).1, c) :: tm_ps n s
    | _ => [] := rfl
theorem tm_ps_fl : ∀ (ts : List tm_T) (n : Nat), tm_al ts → ts.length ≤ n → tm_ps n (tm_fl ts) = ts := by
  intro ts
  induction ts with
  | nil => intro n _ _; cases n <;> rfl
  | cons t ts ih =>
    intro n hal hn
    cases n with
    | zero => simp at hn
    | succ n =>
      have e : tm_fl (t :: ts) = 1 :: (t.1 ++ (0 :: t.2 :: tm_fl ts)) := by simp [tm_fl, tm_t]
      have e2 : tm_cut 0 (t.1 ++ (0 :: t.2 :: tm_fl ts)) = (t.1, 0 :: t.2 :: tm_fl ts) := by
        rw [tm_cut_W _ t.1 (Nat.le_refl _) hal.1.1, show tm_cut 0 (0 :: t.2 :: tm_fl ts) = ([], 0 :: t.2 :: tm_fl ts) from rfl, List.append_nil]
      rw [e, tm_ps_1, e2]
      show (t.1, t.2) :: tm_ps n (tm_fl ts) = t :: ts
      rw [ih n hal.2 (by simp at hn; omega)]
/-- the terms of a row -/
def tm_tp (xs : List Nat) : List tm_T := tm_ps xs.length xs
theorem tm_tp_fl {ts : List tm_T} (h : tm_al ts) : tm_tp (tm_fl ts) = ts := tm_ps_fl ts _ h (by have := tm_fl_len ts; omega)
theorem tm_fl_tp {xs : List Nat} (h : tm_W xs) : tm_fl (tm_tp xs) = xs := by
  obtain ⟨ts, rfl, h2⟩ := tm_terms h
  rw [tm_tp_fl h2]
theorem tm_al_tp {xs : List Nat} (h : tm_W xs) : tm_al (tm_tp xs) := by
  obtain ⟨ts, rfl, h2⟩ := tm_terms h
  rw [tm_tp_fl h2]
  exact h2
/-- a sum: the terms that stay before u, and the coefficient with which u follows -/
def sp_kp (u : tm_T) : List tm_T → List tm_T × Nat
  | [] => ([], u.2)
  | t :: ts => if tm_cmp t.1 u.1 = 1 then (t :: (sp_kp u ts).1, (sp_kp u ts).2) else if tm_cmp t.1 u.1 = 0 then ([], u.2 + t.2) else ([], u.2)
def sp_sum (ts : List tm_T) : List tm_T → List tm_T
  | [] => ts
  | u :: us => (sp_kp u ts).1 ++ (u.1, (sp_kp u ts).2) :: us
theorem sp_kp_pre (u : tm_T) : ∀ ts : List tm_T, ∃ r, ts = (sp_kp u ts).1 ++ r := by
  intro ts
  induction ts with
  | nil => exact ⟨[], rfl⟩
  | cons t ts ih =>
    unfold sp_kp
    by_cases h1 : tm_cmp t.1 u.1 = 1
    · obtain ⟨r, hr⟩ := ih
      rw [if_pos h1]
      exact ⟨r, by dsimp only; rw [List.cons_append, ← hr]⟩
    · rw [if_neg h1]
      by_cases h2 : tm_cmp t.1 u.1 = 0
      · rw [if_pos h2]; exact ⟨t :: ts, rfl⟩
      · rw [if_neg h2]; exact ⟨t :: ts, rfl⟩
theorem sp_kp_c {u : tm_T} (hu : tm_ok u) : ∀ {ts : List tm_T}, tm_al ts → 1 ≤ (sp_kp u ts).2 ∧ (sp_kp u ts).2 ≤ 2000000 := by
  intro ts
  have := hu.2
  unfold tm_c at this
  induction ts with
  | nil => intro _; unfold sp_kp; dsimp only; omega
  | cons t ts ih =>
    intro h
    have ht := h.1.2
    unfold tm_c at ht
    unfold sp_kp
    by_cases h1 : tm_cmp t.1 u.1 = 1
    · rw [if_pos h1]; exact ih h.2
    · rw [if_neg h1]
      by_cases h2 : tm_cmp t.1 u.1 = 0
      · rw [if_pos h2]; dsimp only; omega
      · rw [if_neg h2]; dsimp only; omega
theorem tm_al_kp {u : tm_T} {ts : List tm_T} (h : tm_al ts) : tm_al (sp_kp u ts).1 := by
  obtain ⟨r, hr⟩ := sp_kp_pre u ts
  rw [hr] at h
  exact (tm_al_app.mp h).1
theorem tm_sm_t {t : tm_T} : tm_sm (tm_t t) ↔ tm_sm t.1 ∧ t.2 ≤ 1000000 := by
  unfold tm_t
  rw [tm_sm_cons, tm_sm_app, tm_sm_cons]
  unfold tm_sm
  simp
theorem sp_sum_al {ts us : List tm_T} (h1 : tm_al ts) (h2 : tm_al us) (hf : tm_sm (tm_fl (sp_sum ts us))) : tm_al (sp_sum ts us) := by
  cases us with
  | nil => exact h1
  | cons u us =>
    unfold sp_sum at hf ⊢
    rw [tm_fl_app, tm_sm_app, tm_fl, tm_sm_app, tm_sm_t] at hf
    have hc := sp_kp_c (u := u) h2.1 h1
    exact tm_al_app.mpr ⟨tm_al_kp h1, ⟨h2.1.1, hc.1, hf.2.1.2⟩, h2.2⟩
