/-! Rows of the class: what its putting methods do. -/
theorem od_wr_r (M : od_M) (r n : Nat) (f : Nat → Int32) : (od_wr M r n f).2.2 r = some (od_ob 0 [.ref (r + 1), .int (nI n)]) := va_up_self _ _ _
theorem od_wr_a (M : od_M) (r n : Nat) (f : Nat → Int32) : (od_wr M r n f).2.2 (r + 1) = some (od_ia 60 f) := by
  show va_up (va_up M.2.2 (r + 1) _) r _ (r + 1) = _
  rw [va_up_ne _ _ (by omega), va_up_self]
theorem od_wr_o (M : od_M) {r n a : Nat} (f : Nat → Int32) (h1 : a ≠ r) (h2 : a ≠ r + 1) : (od_wr M r n f).2.2 a = M.2.2 a := by
  show va_up (va_up M.2.2 (r + 1) _) r _ a = _
  rw [va_up_ne _ _ h1, va_up_ne _ _ h2]
theorem od_wr_Rw (M : od_M) {r n : Nat} (f : Nat → Int32) (hn : n ≤ 60) : od_Rw (od_wr M r n f) r n f := ⟨od_wr_r M r n f, od_wr_a M r n f, hn⟩
theorem od_Meq {M M' : od_M} (h1 : M.1 = M'.1) (h2 : M.2.1 = M'.2.1) (h3 : ∀ a, M.2.2 a = M'.2.2 a) : M = M' := by
  obtain ⟨a, b, c⟩ := M
  obtain ⟨a', b', c'⟩ := M'
  dsimp only at h1 h2 h3
  subst h1
  subst h2
  rw [show c = c' from funext h3]
theorem od_wr_wr (M : od_M) (r n n' : Nat) (f f' : Nat → Int32) : od_wr (od_wr M r n f) r n' f' = od_wr M r n' f' := by
  refine od_Meq rfl rfl fun a => ?_
  by_cases h1 : a = r
  · subst h1; rw [od_wr_r, od_wr_r]
  · by_cases h2 : a = r + 1
    · subst h2; rw [od_wr_a, od_wr_a]
    · rw [od_wr_o _ _ h1 h2, od_wr_o _ _ h1 h2, od_wr_o _ _ h1 h2]
theorem od_wr_id {M : od_M} {r n : Nat} {f : Nat → Int32} (h : od_Rw M r n f) : od_wr M r n f = M := by
  refine od_Meq rfl rfl fun a => ?_
  by_cases h1 : a = r
  · subst h1; rw [od_wr_r]; exact h.1.symm
  · by_cases h2 : a = r + 1
    · subst h2; rw [od_wr_a]; exact h.2.1.symm
    · rw [od_wr_o _ _ h1 h2]
theorem od_wr_len {M : od_M} {r n n' : Nat} {f : Nat → Int32} (h : od_Rw M r n f) : od_set M r (od_ob 0 [.ref (r + 1), .int (nI n')]) = od_wr M r n' f := by
  refine od_Meq rfl rfl fun a => ?_
  by_cases h1 : a = r
  · subst h1; rw [od_wr_r]; exact va_up_self _ _ _
  · show va_up M.2.2 r _ a = _
    rw [va_up_ne _ _ h1]
    by_cases h2 : a = r + 1
    · subst h2; rw [od_wr_a]; exact h.2.1
    · rw [od_wr_o _ _ h1 h2]
theorem od_Rw.other {M : od_M} {r r' n n' : Nat} {f f' : Nat → Int32} (h : od_Rw M r n f) (h1 : r ≠ r') (h2 : r ≠ r' + 1) (h3 : r + 1 ≠ r') : od_Rw (od_wr M r' n' f') r n f := ⟨by rw [od_wr_o _ _ h1 h2]; exact h.1, by rw [od_wr_o _ _ h3 (by omega)]; exact h.2.1, h.2.2⟩
/-- the cells with xs put at n -/
def od_ap (f : Nat → Int32) (n : Nat) (xs : List Int32) : Nat → Int32 := fun j => if n ≤ j ∧ j < n + xs.length then xs.getD (j - n) 0 else f j
theorem od_ap_nil (f : Nat → Int32) (n : Nat) : od_ap f n [] = f := by
  funext j
  unfold od_ap
  rw [if_neg (by simp only [List.length_nil]; omega)]
theorem od_ap_one (f : Nat → Int32) (n : Nat) (v : Int32) : od_ap f n [v] = upd f n v := by
  funext j
  unfold od_ap upd
  by_cases h : j = n
  · subst h
    rw [if_pos (by simp), if_pos rfl]
    simp
  · rw [if_neg (by simp only [List.length_cons, List.length_nil]; omega), if_neg h]
theorem od_ap_ap (f : Nat → Int32) (n : Nat) (xs ys : List Int32) : od_ap (od_ap f n xs) (n + xs.length) ys = od_ap f n (xs ++ ys) := by
  funext j
  unfold od_ap
  by_cases h1 : n + xs.length ≤ j ∧ j < n + xs.length + ys.length
  · rw [if_pos h1, if_pos (by rw [List.length_append]; omega)]
    rw [List.getD_eq_getElem?_getD, List.getD_eq_getElem?_getD, List.getElem?_append_right (by omega)]
    rw [show j - (n + xs.length) = j - n - xs.length by omega]
  · rw [if_neg h1]
    by_cases h2 : n ≤ j ∧ j < n + xs.length
    · rw [if_pos h2, if_pos (by rw [List.length_append]; omega)]
      rw [List.getD_eq_getElem?_getD, List.getD_eq_getElem?_getD, List.getElem?_append_left (by omega)]
    · rw [if_neg h2, if_neg (by rw [List.length_append]; omega)]
/-- xs is put onto the row r, or there is no room: then the row may hold anything -/
def od_Pt (M : od_M) (r n : Nat) (f : Nat → Int32) (xs : List Int32) (ok : Prop) : od_O → od_M → Prop := fun o M' =>
  (ok ∧ n + xs.length ≤ 60 ∧ o = .inl none ∧ M' = od_wr M r (n + xs.length) (od_ap f n xs)) ∨ (¬ (ok ∧ n + xs.length ≤ 60) ∧ o = .inr (2, M.1) ∧ ∃ (n' : Nat) (f' : Nat → Int32), n' ≤ 60 ∧ M' = od_xm (od_wr M r n' f') 2)
/-- puts one behind another -/
theorem od_Pt.two {M : od_M} {r n : Nat} {f : Nat → Int32} {xs ys : List Int32} {p q : Prop} {o : od_O} {M' : od_M} (hx : n + xs.length ≤ 60) (hp : p) (h : od_Pt (od_wr M r (n + xs.length) (od_ap f n xs)) r (n + xs.length) (od_ap f n xs) ys q o M') : od_Pt M r n f (xs ++ ys) (p ∧ q) o M' := by
  rcases h with ⟨h1, h2, h3, h4⟩ | ⟨h1, h2, n', f', h3, h4⟩
  · refine Or.inl ⟨⟨hp, h1⟩, by rw [List.length_append]; omega, h3, ?_⟩
    rw [h4, od_wr_wr, od_ap_ap, List.length_append, Nat.add_assoc]
  · refine Or.inr ⟨fun z => h1 ⟨z.1.2, by have := z.2; rw [List.length_append] at this; omega⟩, h2, n', f', h3, ?_⟩
    rw [h4, od_wr_wr]
theorem od_Pt.no {M : od_M} {r n : Nat} {f : Nat → Int32} {xs ys : List Int32} {p q : Prop} {o : od_O} {M' : od_M} (hx : ¬ (p ∧ n + xs.length ≤ 60)) (ho : o = .inr (2, M.1)) (h : ∃ (n' : Nat) (f' : Nat → Int32), n' ≤ 60 ∧ M' = od_xm (od_wr M r n' f') 2) : od_Pt M r n f (xs ++ ys) (p ∧ q) o M' :=
  Or.inr ⟨fun z => hx ⟨z.1.1, by have := z.2; rw [List.length_append] at this; omega⟩, ho, h⟩
theorem od_Pt.iff {M : od_M} {r n : Nat} {f : Nat → Int32} {xs : List Int32} {p q : Prop} {o : od_O} {M' : od_M} (hpq : p ↔ q) (h : od_Pt M r n f xs p o M') : od_Pt M r n f xs q o M' := by
  unfold od_Pt at h ⊢
  rw [← hpq]
  exact h
theorem ct_putCellX {M : od_M} {r n : Nat} {f : Nat → Int32} {v : Int32} (h : od_Rw M r n f) : od_W 0 19 0 (od_ent 19 [.ref r, .int v]) [] M (od_Pt M r n f [v] True) := by
  by_cases hn : n < 60
  · refine (ct_putCell h hn).mono fun o M' hq => Or.inl ⟨trivial, by simp only [List.length_cons, List.length_nil]; omega, hq.1, ?_⟩
    rw [hq.2, od_ap_one]
    rfl
  · obtain ⟨h1, h2, h3⟩ := id h
    have e0 : od_ent 19 [.ref r, .int v] = [some (.ref r), some (.int v)] := rfl
    rw [e0]
    have c1 : od_cond .lt (nI n) 60 = false := decide_eq_false (nI_nlt (b := 60) (by omega) (by omega))
    refine od_W.run 1 rfl ?_
    refine od_rG rfl h1 rfl rfl ?_
    refine od_W.run 1 rfl ?_
    refine od_r2F rfl (of_decide_eq_true rfl) c1 ?_
    refine od_rX rfl rfl rfl (Or.inr ⟨fun z => ?_, rfl, n, f, h3, ?_⟩)
    · have := z.2
      simp only [List.length_cons, List.length_nil] at this
      omega
    · rw [od_wr_id h]
      rfl
theorem ct_openTerm {M : od_M} {r n : Nat} {f : Nat → Int32} (h : od_Rw M r n f) : od_W 1 20 0 (od_ent 20 [.ref r]) [] M (od_Pt M r n f [1] True) := by
  have e0 : od_ent 20 [.ref r] = [some (.ref r)] := rfl
  rw [e0]
  refine od_W.run 2 rfl ?_
  refine od_rV (as := [.int 1]) rfl rfl rfl rfl h.1 rfl (Nat.le_of_ble_eq_true rfl) (Nat.le_of_ble_eq_true rfl) (ct_putCellX (v := 1) h) (Nat.le_refl _) (fun o M1 hq => ?_)
  rcases id hq with ⟨h1, h2, rfl, h4⟩ | ⟨h1, rfl, h2⟩
  · exact od_K.ret (od_W.fin rfl hq)
  · exact od_K.out rfl hq
theorem ct_putCoefficient {M : od_M} {r n : Nat} {f : Nat → Int32} {v : Int64} (h : od_Rw M r n f) : od_W 1 22 0 (od_ent 22 [.ref r, .long v]) [] M (od_Pt M r n f [v.toInt32] (v ≤ 1000000)) := by
  have e0 : od_ent 22 [.ref r, .long v] = [some (.ref r), some (.long v), none] := rfl
  rw [e0]
  refine od_W.run 3 rfl ?_
  by_cases hv : v ≤ 1000000
  · have c1 : od_cond .le (lg_cmp v 1000000) 0 = true := by
      show decide (lg_cmp v 1000000 ≤ 0) = true
      unfold lg_cmp
      have h1 : ¬ v > 1000000 := Int64.not_lt.mpr hv
      rw [if_neg h1]
      split <;> rfl
    refine od_r1T rfl rfl c1 ?_
    refine od_W.run 3 rfl ?_
    refine od_rV (as := [.int v.toInt32]) rfl rfl rfl rfl h.1 rfl (Nat.le_of_ble_eq_true rfl) (Nat.le_of_ble_eq_true rfl) (ct_putCellX (v := v.toInt32) h) (Nat.le_refl _) (fun o M1 hq => ?_)
    have hq2 := od_Pt.iff (q := v ≤ 1000000) ⟨fun _ => hv, fun _ => trivial⟩ hq
    rcases id hq with ⟨h1, h2, rfl, h4⟩ | ⟨h1, rfl, h2⟩
    · exact od_K.ret (od_W.fin rfl hq2)
    · exact od_K.out rfl hq2
  · have c1 : od_cond .le (lg_cmp v 1000000) 0 = false := by
      show decide (lg_cmp v 1000000 ≤ 0) = false
      unfold lg_cmp
      have h1 : v > 1000000 := Int64.not_le.mp hv
      rw [if_pos h1]
      rfl
    refine od_r1F rfl (of_decide_eq_true rfl) c1 ?_
    refine od_rX rfl rfl rfl (Or.inr ⟨fun z => hv z.1, rfl, n, f, h.2.2, ?_⟩)
    rw [od_wr_id h]
    rfl
theorem ct_closeTerm {M : od_M} {r n : Nat} {f : Nat → Int32} {v : Int64} (h : od_Rw M r n f) : od_W 2 21 0 (od_ent 21 [.ref r, .long v]) [] M (od_Pt M r n f [0, v.toInt32] (v ≤ 1000000)) := by
  have e0 : od_ent 21 [.ref r, .long v] = [some (.ref r), some (.long v), none] := rfl
  rw [e0]
  refine od_W.run 2 rfl ?_
  refine od_rV (as := [.int 0]) rfl rfl rfl rfl h.1 rfl (Nat.le_of_ble_eq_true rfl) (Nat.le_of_ble_eq_true rfl) (ct_putCellX (v := 0) h) (Nat.zero_le _) (fun o M1 hq => ?_)
  rcases hq with ⟨-, h2, rfl, rfl⟩ | ⟨h1, rfl, h2⟩
  · refine od_K.ret ?_
    have hR1 := od_wr_Rw M (r := r) (od_ap f n [0]) h2
    refine od_W.run 2 rfl ?_
    refine od_rV (as := [.long v]) rfl rfl rfl rfl hR1.1 rfl (Nat.le_of_ble_eq_true rfl) (Nat.le_of_ble_eq_true rfl) (ct_putCoefficient (v := v) hR1) (Nat.le_refl _) (fun o M1 hq => ?_)
    have hq2 : od_Pt M r n f ([0] ++ [v.toInt32]) (v ≤ 1000000) o M1 := od_Pt.iff ⟨fun z => z.2, fun z => ⟨trivial, z⟩⟩ (od_Pt.two (p := True) h2 trivial hq)
    rcases id hq with ⟨h1, h2, rfl, h4⟩ | ⟨h1, rfl, h2⟩
    · exact od_K.ret (od_W.fin rfl hq2)
    · exact od_K.out rfl hq2
  · have hq2 : od_Pt M r n f ([0] ++ [v.toInt32]) (v ≤ 1000000) (.inr (2, M.1)) M1 := od_Pt.iff ⟨fun z => z.2, fun z => ⟨trivial, z⟩⟩ (od_Pt.no (p := True) (q := v ≤ 1000000) h1 rfl h2)
    exact od_K.out rfl hq2
