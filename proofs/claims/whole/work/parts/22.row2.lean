/-! Rows of the class: parts of rows, numbers, terms. -/
section CPY
variable {d k pc : Nat} {ls : od_L} {M : od_M} {Q : od_O → od_M → Prop}
theorem od_rCp {ix j a b na nb sp dp c : Nat} {f g : Nat → Int32} {i1 i2 i3 : Int32} {rest : List Value} (h : od_cd k pc = some (.invokestatic ix, 3)) (hm : od_md (od_ow k) ix = some (j, 7, 5)) (hb : M.2.2 b = some (od_ia nb f)) (ha : M.2.2 a = some (od_ia na g)) (e1 : i1 = nI sp) (e2 : i2 = nI dp) (e3 : i3 = nI c) (h1 : sp + c ≤ nb) (h2 : dp + c ≤ na) (hl : nb < 2 ^ 31) (hl2 : na < 2 ^ 31) (hw : (rest.map fun v => v.category).sum ≤ 30)
    (kk : od_W d k (pc + 3) ls rest (od_set M a (od_ia na (va_cpy f g sp dp c))) Q) : od_W d k pc ls (.int i3 :: .int i2 :: .ref a :: .int i1 :: .ref b :: rest) M Q := by
  subst e1
  subst e2
  subst e3
  refine od_wX h ?_
  have p1 : (0 : Int32) ≤ nI sp := nI_pos' (by omega)
  have p2 : (0 : Int32) ≤ nI dp := nI_pos' (by omega)
  have p3 : (0 : Int32) ≤ nI c := nI_pos' (by omega)
  simp only [od_ins, od_inv, hm, od_cpy, hb, ha, ↓reduceIte, nI_clamp (show sp < 2 ^ 31 by omega), nI_clamp (show dp < 2 ^ 31 by omega), nI_clamp (show c < 2 ^ 31 by omega)]
  rw [if_pos ⟨p3, p2, p1, h1, h2, hw⟩]
  exact kk
end CPY
/-- the cells of a part -/
def od_sl (g : Nat → Int32) (a b : Nat) : List Int32 := (List.range (b - a)).map (fun i => g (a + i))
theorem od_sl_len (g : Nat → Int32) (a b : Nat) : (od_sl g a b).length = b - a := by unfold od_sl; rw [List.length_map, List.length_range]
theorem od_cpy_ap (g f : Nat → Int32) (a b n : Nat) : va_cpy g f a n (b - a) = od_ap f n (od_sl g a b) := by
  funext j
  unfold va_cpy od_ap
  rw [od_sl_len]
  by_cases h : n ≤ j ∧ j < n + (b - a)
  · rw [if_pos h, if_pos h]
    unfold od_sl
    rw [List.getD_eq_getElem?_getD, List.getElem?_map, List.getElem?_range (by omega)]
    rfl
  · rw [if_neg h, if_neg h]
/-- two rows apart -/
def od_ap2 (r q : Nat) : Prop := r ≠ q ∧ r ≠ q + 1 ∧ r + 1 ≠ q
theorem nI_subI {a b : Nat} (h : a ≤ b) : nI b - nI a = nI (b - a) := pk_sub h
theorem ct_putPart {M : od_M} {r n q m a b : Nat} {f g : Nat → Int32} (h : od_Rw M r n f) (hq : od_Rw M q m g) (hap : od_ap2 r q) (hab : a < b) (hbm : b ≤ m) : od_W 0 18 0 (od_ent 18 [.ref r, .ref q, .int (nI a), .int (nI b)]) [] M (od_Pt M r n f (od_sl g a b) True) := by
  obtain ⟨r1, r2, r3⟩ := id h
  obtain ⟨q1, q2, q3⟩ := id hq
  have e0 : od_ent 18 [.ref r, .ref q, .int (nI a), .int (nI b)] = [some (.ref r), some (.ref q), some (.int (nI a)), some (.int (nI b))] := rfl
  rw [e0]
  have c1 : od_cond .lt (nI a) 0 = false := decide_eq_false (nI_pos (by omega))
  have c2 : od_cond .ge (nI a) (nI b) = false := decide_eq_false (nI_ge hab (by omega))
  have c3 : od_cond .le (nI b) (nI m) = true := decide_eq_true (nI_le hbm (by omega))
  have e1 : nI n + nI b - nI a = nI (n + (b - a)) := by
    rw [nI_add, nI_subI (by omega)]
    congr 1
    omega
  refine od_W.run 1 rfl ?_
  refine od_r1F rfl (of_decide_eq_true rfl) c1 ?_
  refine od_W.run 2 rfl ?_
  refine od_r2F rfl (of_decide_eq_true rfl) c2 ?_
  refine od_W.run 2 rfl ?_
  refine od_rG rfl q1 rfl rfl ?_
  refine od_r2T rfl rfl c3 ?_
  refine od_W.run 1 rfl ?_
  refine od_rG rfl r1 rfl rfl ?_
  refine od_W.run 5 rfl ?_
  by_cases hn : n + (b - a) ≤ 60
  · have c4 : od_cond .le (nI n + nI b - nI a) 60 = true := by
      rw [e1]
      exact decide_eq_true (nI_le (b := 60) hn (by decide))
    refine od_r2T rfl rfl c4 ?_
    refine od_W.run 1 rfl ?_
    refine od_rG rfl q1 rfl rfl ?_
    refine od_W.run 2 rfl ?_
    refine od_rG rfl r1 rfl rfl ?_
    refine od_W.run 1 rfl ?_
    refine od_rG rfl r1 rfl rfl ?_
    refine od_W.run 3 rfl ?_
    refine od_rCp rfl rfl q2 r2 rfl rfl (nI_subI (by omega)) (by omega) (by omega) (by decide) (by decide) (Nat.le_of_ble_eq_true rfl) ?_
    have r1' : (od_set M (r + 1) (od_ia 60 (va_cpy g f a n (b - a)))).2.2 r = some (od_ob 0 [.ref (r + 1), .int (nI n)]) := by
      show va_up M.2.2 (r + 1) _ r = _
      rw [va_up_ne _ _ (by omega)]
      exact r1
    refine od_W.run 2 rfl ?_
    refine od_rG rfl r1' rfl rfl ?_
    refine od_W.run 4 rfl ?_
    refine od_rP rfl r1' rfl (by simp) rfl (by decide) ?_
    have e2 : nI n + (nI b - nI a) = nI (n + (b - a)) := by rw [nI_subI (by omega), nI_add]
    show od_W 0 18 72 [some (.ref r), some (.ref q), some (.int (nI a)), some (.int (nI b))] [] (od_set (od_set M (r + 1) (od_ia 60 (va_cpy g f a n (b - a)))) r (od_ob 0 [.ref (r + 1), .int (nI n + (nI b - nI a))])) _
    rw [e2, od_cpy_ap]
    refine od_W.fin rfl (Or.inl ⟨trivial, by rw [od_sl_len]; exact hn, rfl, ?_⟩)
    rw [od_sl_len]
    rfl
  · have c4 : od_cond .le (nI n + nI b - nI a) 60 = false := by
      rw [e1]
      exact decide_eq_false (nI_ge (a := 60) (by omega) (by omega))
    refine od_r2F rfl (of_decide_eq_true rfl) c4 ?_
    refine od_rX rfl rfl rfl (Or.inr ⟨fun z => ?_, rfl, n, f, r3, ?_⟩)
    · have := z.2
      rw [od_sl_len] at this
      exact hn this
    · rw [od_wr_id h]
      rfl
/-- nothing is put: the part is empty or no part of the row -/
theorem ct_putPart0 {M : od_M} {r q m : Nat} {g : Nat → Int32} {x y : Int32} (hq : od_Rw M q m g) (hxy : x < 0 ∨ y ≤ x ∨ nI m < y) : od_W 0 18 0 (od_ent 18 [.ref r, .ref q, .int x, .int y]) [] M (fun o M' => o = .inl none ∧ M' = M) := by
  obtain ⟨q1, q2, q3⟩ := id hq
  have e0 : od_ent 18 [.ref r, .ref q, .int x, .int y] = [some (.ref r), some (.ref q), some (.int x), some (.int y)] := rfl
  rw [e0]
  refine od_W.run 1 rfl ?_
  by_cases h1 : x < 0
  · refine od_r1T rfl rfl (decide_eq_true h1) ?_
    exact od_W.fin rfl ⟨rfl, rfl⟩
  · refine od_r1F rfl (of_decide_eq_true rfl) (decide_eq_false h1) ?_
    refine od_W.run 2 rfl ?_
    by_cases h2 : y ≤ x
    · refine od_r2T rfl rfl (decide_eq_true h2) ?_
      exact od_W.fin rfl ⟨rfl, rfl⟩
    · refine od_r2F rfl (of_decide_eq_true rfl) (decide_eq_false h2) ?_
      refine od_W.run 2 rfl ?_
      refine od_rG rfl q1 rfl rfl ?_
      have h3 : ¬ y ≤ nI m := Int32.not_le.mpr ((hxy.resolve_left h1).resolve_left h2)
      refine od_r2F rfl (of_decide_eq_true rfl) (decide_eq_false h3) ?_
      exact od_W.fin rfl ⟨rfl, rfl⟩
theorem ct_clear {M : od_M} {r n : Nat} {f : Nat → Int32} (h : od_Rw M r n f) : od_W 0 12 0 (od_ent 12 [.ref r]) [] M (fun o M' => o = .inl none ∧ M' = od_wr M r 0 f) := by
  have e0 : od_ent 12 [.ref r] = [some (.ref r)] := rfl
  rw [e0]
  refine od_W.run 2 rfl ?_
  refine od_rP rfl h.1 rfl (by simp) rfl (by decide) ?_
  refine od_W.fin rfl ⟨rfl, ?_⟩
  exact od_wr_len (n' := 0) h
theorem ct_isZero {M : od_M} {r n : Nat} {f : Nat → Int32} (h : od_Rw M r n f) : od_W 0 1 0 (od_ent 1 [.ref r]) [] M (fun o M' => o = .inl (some (.int (if n = 0 then 1 else 0))) ∧ M' = M) := by
  have e0 : od_ent 1 [.ref r] = [some (.ref r)] := rfl
  rw [e0]
  have h3 := h.2.2
  refine od_W.run 1 rfl ?_
  refine od_rG rfl h.1 rfl rfl ?_
  by_cases hn : n = 0
  · subst hn
    refine od_r1F rfl (of_decide_eq_true rfl) rfl ?_
    refine od_W.run 2 rfl ?_
    exact od_W.fin rfl ⟨rfl, rfl⟩
  · have c : od_cond .ne (nI n) 0 = true := by
      show (!decide (nI n = 0)) = true
      rw [decide_eq_false (nI_ne0 (by omega) (by omega))]
      rfl
    refine od_r1T rfl rfl c ?_
    refine od_W.run 1 rfl ?_
    rw [if_neg hn]
    exact od_W.fin rfl ⟨rfl, rfl⟩
theorem ct_termsInAll {M : od_M} {r n : Nat} {f : Nat → Int32} (h : od_Rw M r n f) : od_W 0 4 0 (od_ent 4 [.ref r]) [] M (fun o M' => o = .inl (some (.int (nI (n / 3)))) ∧ M' = M) := by
  have e0 : od_ent 4 [.ref r] = [some (.ref r)] := rfl
  rw [e0]
  have h3 := h.2.2
  refine od_W.run 1 rfl ?_
  refine od_rG rfl h.1 rfl rfl ?_
  refine od_W.run 2 rfl ?_
  refine od_W.fin rfl ⟨?_, rfl⟩
  have e1 : nI n / 3 = nI (n / 3) := pk_div (d := 3) (by omega) (by decide) (by decide)
  rw [← e1]
  rfl
theorem ct_isFinite {M : od_M} {r n : Nat} {f : Nat → Int32} (h : od_Rw M r n f) : od_W 0 2 0 (od_ent 2 [.ref r]) [] M (fun o M' => o = .inl (some (.int (if n ≤ 3 then 1 else 0))) ∧ M' = M) := by
  have e0 : od_ent 2 [.ref r] = [some (.ref r)] := rfl
  rw [e0]
  have h3 := h.2.2
  refine od_W.run 1 rfl ?_
  refine od_rG rfl h.1 rfl rfl ?_
  refine od_W.run 1 rfl ?_
  by_cases hn : n ≤ 3
  · refine od_r2F rfl (of_decide_eq_true rfl) (decide_eq_false (nI_nlt (a := 3) hn (by decide))) ?_
    refine od_W.run 2 rfl ?_
    rw [if_pos hn]
    exact od_W.fin rfl ⟨rfl, rfl⟩
  · refine od_r2T rfl rfl (decide_eq_true (nI_lt (a := 3) (by omega) (by omega))) ?_
    refine od_W.run 1 rfl ?_
    rw [if_neg hn]
    exact od_W.fin rfl ⟨rfl, rfl⟩
