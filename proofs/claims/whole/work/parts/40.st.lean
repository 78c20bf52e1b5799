/-! Steps: members until a successor; how the rows grow on the way. -/
def sp_dct (t : tm_T) : List tm_T := if 1 < t.2 then [(t.1, t.2 - 1)] else []
theorem sp_dct_fl (t : tm_T) : tm_fl (sp_dct t) = sp_dec t := by
  unfold sp_dct sp_dec
  split
  · exact tm_fl_one _
  · rfl
theorem sp_dct_al {t : tm_T} (h : tm_ok t) : tm_al (sp_dct t) := by
  have := h.2
  unfold tm_c at this
  unfold sp_dct
  split
  · exact ⟨⟨h.1, by unfold tm_c; dsimp only; omega⟩, trivial⟩
  · exact trivial
def sp_lt (n k : Nat) (t : tm_T) : tm_T := if tm_k (tm_tp t.1) = 1 then (sp_pr (tm_tp t.1), n) else (sp_mb n k (tm_tp t.1), 1)
theorem sp_lt_ok {n k : Nat} {t : tm_T} (h1 : 1 ≤ n) (hn : n ≤ 1000000) (h : tm_ok t) : tm_ok (sp_lt n k t) := by
  unfold sp_lt
  split
  · exact ⟨sp_pr_W (tm_al_tp h.1), h1, hn⟩
  · exact ⟨sp_mb_W hn k (tm_al_tp h.1), by unfold tm_c; dsimp only; omega⟩
theorem sp_mb_fl {n k : Nat} (h1 : 1 ≤ n) (us : List tm_T) (t : tm_T) : sp_mb n (k + 1) (us ++ [t]) = tm_fl ((us ++ sp_dct t) ++ [sp_lt n k t]) := by
  rw [sp_mb_snoc, tm_fl_snoc, tm_fl_app, sp_dct_fl, List.append_assoc]
  congr 2
  unfold sp_lt sp_bt
  split
  · rw [if_neg (by omega)]
  · rfl
theorem sp_mb_tp {n k : Nat} (h1 : 1 ≤ n) (hn : n ≤ 1000000) {us : List tm_T} {t : tm_T} (h : tm_al (us ++ [t])) : tm_tp (sp_mb n (k + 1) (us ++ [t])) = (us ++ sp_dct t) ++ [sp_lt n k t] := by
  have h2 := tm_al_app.mp h
  have h3 : tm_al [sp_lt n k t] := ⟨sp_lt_ok h1 hn h2.2.1, trivial⟩
  rw [sp_mb_fl h1]
  exact tm_tp_fl (tm_al_app.mpr ⟨tm_al_app.mpr ⟨h2.1, sp_dct_al h2.2.1⟩, h3⟩)
def st_G : Nat → List tm_T → Prop
  | 0, _ => False
  | k + 1, ts => (tm_la ts).1 ≠ [] ∧ (2 ≤ (tm_la ts).2 ∨ ((tm_la ts).2 = 1 ∧ tm_k (tm_tp (tm_la ts).1) = 2 ∧ st_G k (tm_tp (tm_la ts).1)))
def st_H : Nat → List tm_T → Prop
  | 0, _ => False
  | k + 1, ts => (tm_la ts).1 ≠ [] ∧ (tm_la ts).2 = 1 ∧ ((tm_k (tm_tp (tm_la ts).1) = 1 ∧ 2 ≤ tm_n (tm_tp (tm_la ts).1)) ∨ (tm_k (tm_tp (tm_la ts).1) = 2 ∧ st_H k (tm_tp (tm_la ts).1)))
theorem tm_la_k {ts : List tm_T} (h : (tm_la ts).1 ≠ []) : tm_k ts = 2 := by
  rcases tm_snoc ts with rfl | ⟨us, t, rfl⟩
  · exact absurd rfl h
  · rw [tm_la_snoc] at h
    rw [tm_k_snoc, if_neg h]
theorem st_G_k {k : Nat} {ts : List tm_T} (h : st_G k ts) : tm_k ts = 2 := by
  cases k with
  | zero => exact h.elim
  | succ k => exact tm_la_k h.1
theorem st_H_k {k : Nat} {ts : List tm_T} (h : st_H k ts) : tm_k ts = 2 := by
  cases k with
  | zero => exact h.elim
  | succ k => exact tm_la_k h.1
theorem tm_k_ne {e : List Nat} (h : tm_k (tm_tp e) ≠ 0) : e ≠ [] := by
  rintro rfl
  exact h rfl
theorem tm_k_le (ts : List tm_T) : tm_k ts = 0 ∨ tm_k ts = 1 ∨ tm_k ts = 2 := by
  rcases tm_snoc ts with rfl | ⟨us, t, rfl⟩
  · exact Or.inl rfl
  · rw [tm_k_snoc]
    split
    · exact Or.inr (Or.inl rfl)
    · exact Or.inr (Or.inr rfl)
theorem tm_k_0 {ts : List tm_T} (h : tm_k ts = 0) : ts = [] := by
  rcases tm_snoc ts with rfl | ⟨us, t, rfl⟩
  · rfl
  · rw [tm_k_snoc] at h
    split at h <;> omega
theorem tm_k_snoc1 {ts : List tm_T} (h : tm_k ts = 1) : ∃ es s, ts = es ++ [s] ∧ s.1 = [] := by
  rcases tm_snoc ts with rfl | ⟨us, t, rfl⟩
  · exact absurd h (by decide)
  · refine ⟨us, t, rfl, ?_⟩
    rw [tm_k_snoc] at h
    split at h
    · assumption
    · omega
theorem tm_k_snoc2 {ts : List tm_T} (h : tm_k ts = 2) : ∃ es s, ts = es ++ [s] ∧ s.1 ≠ [] := by
  rcases tm_snoc ts with rfl | ⟨us, t, rfl⟩
  · exact absurd h (by decide)
  · refine ⟨us, t, rfl, ?_⟩
    rw [tm_k_snoc] at h
    split at h
    · omega
    · assumption
theorem st_1 {n : Nat} (h2 : 2 ≤ n) (hn : n ≤ 1000000) : ∀ (k : Nat) (ts : List tm_T), tm_al ts → tm_k ts = 2 → (tm_fl ts).length ≤ k → (tm_k (tm_tp (sp_mb n k ts)) = 1 ∧ tm_n (tm_tp (sp_mb n k ts)) = n) ∨ (∃ j, st_G j (tm_tp (sp_mb n k ts))) ∨ (∃ j, st_H j (tm_tp (sp_mb n k ts))) := by
  intro k
  induction k with
  | zero =>
    intro ts _ hk hl
    obtain ⟨us, t, rfl, _⟩ := tm_k_snoc2 hk
    rw [tm_fl_snoc, List.length_append, tm_t_len] at hl
    omega
  | succ k ih =>
    intro ts hal hk hl
    obtain ⟨us, t, rfl, ht0⟩ := tm_k_snoc2 hk
    have ha2 := tm_al_app.mp hal
    rw [tm_fl_snoc, List.length_append, tm_t_len] at hl
    rw [sp_mb_tp (by omega) hn hal, tm_k_snoc, tm_n_snoc]
    have hW := ha2.2.1.1
    have hne : tm_tp t.1 ≠ [] := by
      intro z
      have := tm_fl_tp hW
      rw [z] at this
      exact ht0 this.symm
    by_cases h1 : tm_k (tm_tp t.1) = 1
    · have e1 : sp_lt n k t = (sp_pr (tm_tp t.1), n) := if_pos h1
      rw [e1]
      by_cases hp : sp_pr (tm_tp t.1) = []
      · rw [if_pos hp, if_pos hp]; exact Or.inl ⟨rfl, rfl⟩
      · refine Or.inr (Or.inl ⟨1, ?_⟩)
        unfold st_G
        rw [tm_la_snoc]
        exact ⟨hp, Or.inl h2⟩
    · have e1 : sp_lt n k t = (sp_mb n k (tm_tp t.1), 1) := if_neg h1
      have hk2 : tm_k (tm_tp t.1) = 2 := by
        rcases tm_k_le (tm_tp t.1) with z | z | z
        · exact absurd (tm_k_0 z) hne
        · exact absurd z h1
        · exact z
      rw [e1]
      refine Or.inr ?_
      rcases ih (tm_tp t.1) (tm_al_tp hW) hk2 (by rw [tm_fl_tp hW]; omega) with ⟨z1, z2⟩ | ⟨j, z⟩ | ⟨j, z⟩
      · refine Or.inr ⟨1, ?_⟩
        unfold st_H
        rw [tm_la_snoc]
        exact ⟨tm_k_ne (by rw [z1]; decide), rfl, Or.inl ⟨z1, by rw [z2]; exact h2⟩⟩
      · refine Or.inl ⟨j + 1, ?_⟩
        unfold st_G
        rw [tm_la_snoc]
        exact ⟨tm_k_ne (by rw [st_G_k z]; decide), Or.inr ⟨rfl, st_G_k z, z⟩⟩
      · refine Or.inr ⟨j + 1, ?_⟩
        unfold st_H
        rw [tm_la_snoc]
        exact ⟨tm_k_ne (by rw [st_H_k z]; decide), rfl, Or.inr ⟨st_H_k z, z⟩⟩
theorem st_2 {n : Nat} (h1 : 1 ≤ n) : ∀ (j k : Nat) (ts : List tm_T), tm_al ts → st_G j ts → (tm_fl ts).length ≤ k → (tm_fl ts).length + 3 ≤ (sp_mb n k ts).length := by
  intro j
  induction j with
  | zero => intro k ts _ h; exact h.elim
  | succ j ih =>
    intro k ts hal hG hl
    obtain ⟨us, t, rfl, ht0⟩ := tm_k_snoc2 (st_G_k hG)
    have ha2 := tm_al_app.mp hal
    unfold st_G at hG
    rw [tm_la_snoc] at hG
    rw [tm_fl_snoc, List.length_append, tm_t_len] at hl ⊢
    obtain ⟨k, rfl⟩ : ∃ k', k = k' + 1 := ⟨k - 1, by omega⟩
    rw [sp_mb_fl h1, tm_fl_snoc, List.length_append, tm_t_len, tm_fl_app, List.length_append, sp_dct_fl]
    rcases hG.2 with h2 | ⟨h2, h3, h4⟩
    · unfold sp_dec
      rw [if_pos (by omega), tm_t_len]
      dsimp only
      omega
    · have hW := ha2.2.1.1
      have e1 : sp_lt n k t = (sp_mb n k (tm_tp t.1), 1) := if_neg (by omega)
      have := ih k (tm_tp t.1) (tm_al_tp hW) h4 (by rw [tm_fl_tp hW]; omega)
      rw [tm_fl_tp hW] at this
      rw [e1]
      dsimp only
      omega
theorem st_3 {n : Nat} (h2 : 2 ≤ n) (hn : n ≤ 1000000) : ∀ (j k : Nat) (ts : List tm_T), tm_al ts → st_H j ts → (tm_fl ts).length ≤ k → (sp_mb n k ts).length = (tm_fl ts).length ∧ ∃ i, st_G i (tm_tp (sp_mb n k ts)) := by
  intro j
  induction j with
  | zero => intro k ts _ h; exact h.elim
  | succ j ih =>
    intro k ts hal hH hl
    obtain ⟨us, t, rfl, ht0⟩ := tm_k_snoc2 (st_H_k hH)
    have ha2 := tm_al_app.mp hal
    unfold st_H at hH
    rw [tm_la_snoc] at hH
    rw [tm_fl_snoc, List.length_append, tm_t_len] at hl
    obtain ⟨k, rfl⟩ : ∃ k', k = k' + 1 := ⟨k - 1, by omega⟩
    rw [sp_mb_tp (by omega) hn hal, sp_mb_fl (by omega), tm_fl_snoc, List.length_append, tm_t_len, tm_fl_app, List.length_append, sp_dct_fl, tm_fl_snoc, List.length_append, tm_t_len]
    have hd : sp_dec t = [] := by unfold sp_dec; rw [if_neg (by omega)]
    rw [hd]
    have hW := ha2.2.1.1
    rcases hH.2.2 with ⟨z1, z2⟩ | ⟨z1, z2⟩
    · have e1 : sp_lt n k t = (sp_pr (tm_tp t.1), n) := if_pos z1
      obtain ⟨es, s, hes, hs0⟩ := tm_k_snoc1 z1
      rw [hes, tm_n_snoc, if_pos hs0] at z2
      have hpl : (sp_pr (tm_tp t.1)).length = t.1.length := by
        have h9 : t.1 = tm_fl (es ++ [s]) := by rw [← hes, tm_fl_tp hW]
        rw [hes, sp_pr_snoc]
        conv => rhs; rw [h9, tm_fl_snoc]
        unfold sp_dec
        rw [if_pos (by omega), List.length_append, List.length_append, tm_t_len, tm_t_len]
      rw [e1]
      refine ⟨by dsimp only; rw [hpl]; simp, 1, ?_⟩
      unfold st_G
      rw [tm_la_snoc]
      refine ⟨?_, Or.inl h2⟩
      intro z
      have z' : (sp_pr (tm_tp t.1)).length = 0 := by rw [show sp_pr (tm_tp t.1) = [] from z]; rfl
      rw [hpl] at z'
      exact ht0 (List.length_eq_zero_iff.mp z')
    · have e1 : sp_lt n k t = (sp_mb n k (tm_tp t.1), 1) := if_neg (by omega)
      obtain ⟨y1, i, y2⟩ := ih k (tm_tp t.1) (tm_al_tp hW) z2 (by rw [tm_fl_tp hW]; omega)
      rw [tm_fl_tp hW] at y1
      rw [e1]
      refine ⟨by dsimp only; rw [y1]; simp, i + 1, ?_⟩
      unfold st_G
      rw [tm_la_snoc]
      exact ⟨tm_k_ne (by rw [st_G_k y2]; decide), Or.inr ⟨rfl, st_G_k y2, y2⟩⟩
def sp_st (b : Nat) : Nat → List Nat → List Nat
  | 0, xs => xs
  | f + 1, xs => if tm_k (tm_tp xs) = 2 then sp_st b f (sp_mem b (tm_tp xs)) else xs
def ok_st (b : Nat) : Nat → List Nat → Prop
  | 0, _ => True
  | f + 1, xs => tm_k (tm_tp xs) = 2 → tm_ft (sp_mem b (tm_tp xs)) ∧ ok_st b f (sp_mem b (tm_tp xs))
theorem sp_mem_W {n : Nat} (hn : n ≤ 1000000) {ts : List tm_T} (h : tm_al ts) : tm_W (sp_mem n ts) := sp_mb_W hn _ h
theorem st_end {b : Nat} (h2 : 2 ≤ b) (hn : b ≤ 1000000) : ∀ (f : Nat) (xs : List Nat), tm_W xs → xs.length ≤ 60 → ((∃ k, st_G k (tm_tp xs)) ∧ 2 * (60 - xs.length) + 1 ≤ f ∨ (∃ k, st_H k (tm_tp xs)) ∧ 2 * (60 - xs.length) + 2 ≤ f ∨ tm_k (tm_tp xs) ≠ 2) → ok_st b f xs → tm_k (tm_tp (sp_st b f xs)) ≠ 2 := by
  intro f
  induction f with
  | zero =>
    intro xs _ _ h _
    rcases h with ⟨_, h⟩ | ⟨_, h⟩ | h
    · omega
    · omega
    · exact h
  | succ f ih =>
    intro xs hW hl h hok
    by_cases hk : tm_k (tm_tp xs) = 2
    · have hok2 := hok hk
      rw [show sp_st b (f + 1) xs = sp_st b f (sp_mem b (tm_tp xs)) from if_pos hk]
      have hal := tm_al_tp hW
      have e := tm_fl_tp hW
      refine ih _ (sp_mem_W hn hal) hok2.1.1 ?_ hok2.2
      have h60 := hok2.1.1
      rcases h with ⟨⟨k, hG⟩, h⟩ | ⟨⟨k, hH⟩, h⟩ | h
      · have g1 := st_2 (n := b) (by omega) k (tm_fl (tm_tp xs)).length (tm_tp xs) hal hG (Nat.le_refl _)
        have g2 := st_1 h2 hn (tm_fl (tm_tp xs)).length (tm_tp xs) hal hk (Nat.le_refl _)
        have g3 : xs.length + 3 ≤ (sp_mem b (tm_tp xs)).length := by conv => lhs; rw [← e]
                                                                     exact g1
        rcases g2 with ⟨z, _⟩ | z | z
        · exact Or.inr (Or.inr (by show tm_k (tm_tp (sp_mb b (tm_fl (tm_tp xs)).length (tm_tp xs))) ≠ 2; omega))
        · exact Or.inl ⟨z, by omega⟩
        · exact Or.inr (Or.inl ⟨z, by omega⟩)
      · obtain ⟨g1, g2⟩ := st_3 h2 hn k (tm_fl (tm_tp xs)).length (tm_tp xs) hal hH (Nat.le_refl _)
        have g3 : (sp_mem b (tm_tp xs)).length = xs.length := by conv => rhs; rw [← e]
                                                                 exact g1
        exact Or.inl ⟨g2, by omega⟩
      · exact absurd hk h
    · rw [show sp_st b (f + 1) xs = xs from if_neg hk]
      exact hk
theorem st_nz {b : Nat} (h2 : 2 ≤ b) (hn : b ≤ 1000000) : ∀ (f : Nat) (xs : List Nat), tm_W xs → tm_k (tm_tp xs) ≠ 0 → tm_k (tm_tp (sp_st b f xs)) ≠ 0 ∧ tm_W (sp_st b f xs) := by
  intro f
  induction f with
  | zero => intro xs hW h; exact ⟨h, hW⟩
  | succ f ih =>
    intro xs hW h
    by_cases hk : tm_k (tm_tp xs) = 2
    · rw [show sp_st b (f + 1) xs = sp_st b f (sp_mem b (tm_tp xs)) from if_pos hk]
      have hal := tm_al_tp hW
      refine ih _ (sp_mem_W hn hal) ?_
      show tm_k (tm_tp (sp_mb b (tm_fl (tm_tp xs)).length (tm_tp xs))) ≠ 0
      rcases st_1 h2 hn (tm_fl (tm_tp xs)).length (tm_tp xs) hal hk (Nat.le_refl _) with ⟨z, _⟩ | ⟨_, z⟩ | ⟨_, z⟩
      · omega
      · rw [st_G_k z]; decide
      · rw [st_H_k z]; decide
    · rw [show sp_st b (f + 1) xs = xs from if_neg hk]
      exact ⟨h, hW⟩
/-- two hundred members are more than enough -/
theorem st_fin {b : Nat} (h2 : 2 ≤ b) (hn : b ≤ 1000000) {xs : List Nat} (hW : tm_W xs) (h0 : tm_k (tm_tp xs) ≠ 0) (hok : ok_st b 200 xs) : tm_k (tm_tp (sp_st b 200 xs)) = 1 := by
  have hz := (st_nz h2 hn 200 xs hW h0).1
  have h9 : tm_k (tm_tp (sp_st b 200 xs)) ≠ 2 := by
    by_cases hk : tm_k (tm_tp xs) = 2
    · have hok2 := hok hk
      rw [show sp_st b 200 xs = sp_st b 199 (sp_mem b (tm_tp xs)) from if_pos hk]
      have hal := tm_al_tp hW
      refine st_end h2 hn 199 _ (sp_mem_W hn hal) hok2.1.1 ?_ hok2.2
      rcases st_1 h2 hn (tm_fl (tm_tp xs)).length (tm_tp xs) hal hk (Nat.le_refl _) with ⟨z, _⟩ | z | z
      · exact Or.inr (Or.inr (by show tm_k (tm_tp (sp_mb b (tm_fl (tm_tp xs)).length (tm_tp xs))) ≠ 2; omega))
      · exact Or.inl ⟨z, by omega⟩
      · exact Or.inr (Or.inl ⟨z, by omega⟩)
    · rw [show sp_st b 200 xs = xs from if_neg hk]
      exact hk
  rcases tm_k_le (tm_tp (sp_st b 200 xs)) with z | z | z
  · exact absurd z hz
  · exact z
  · exact absurd z h9
