/-! Rows of the class: numbers, terms, what a row becomes. -/
theorem od_lc_le (x y : Int64) : od_cond .le (lg_cmp x y) 0 = decide (x ≤ y) := by
  show decide (lg_cmp x y ≤ 0) = decide (x ≤ y)
  by_cases h : x ≤ y
  · rw [decide_eq_true h]
    unfold lg_cmp
    have h1 : ¬ x > y := Int64.not_lt.mpr h
    rw [if_neg h1]
    split <;> rfl
  · rw [decide_eq_false h]
    unfold lg_cmp
    have h1 : x > y := Int64.not_le.mp h
    rw [if_pos h1]
    rfl
theorem od_sl_self (g : Nat → Int32) (a : Nat) : od_sl g a a = [] := by
  unfold od_sl
  rw [Nat.sub_self]
  rfl
theorem od_Pt.re {M : od_M} {r n n0 : Nat} {f f0 : Nat → Int32} {xs : List Int32} {p : Prop} {o : od_O} {M' : od_M} (h : od_Pt (od_wr M r n0 f0) r n f xs p o M') : od_Pt M r n f xs p o M' := by
  rcases h with ⟨h1, h2, h3, h4⟩ | ⟨h1, h2, n', f', h3, h4⟩
  · exact Or.inl ⟨h1, h2, h3, by rw [h4, od_wr_wr]⟩
  · exact Or.inr ⟨h1, h2, n', f', h3, by rw [h4, od_wr_wr]⟩
/-- a method that calls and gives back nothing ends as its callee does -/
theorem od_Pt.pass {d k pc : Nat} {ls : od_L} {rest : List Value} {M : od_M} {r n : Nat} {f : Nat → Int32} {xs : List Int32} {p : Prop} {o : od_O} {M1 : od_M} (h : od_Pt M r n f xs p o M1) (hx : od_hn k pc 2 = some none) (hk : od_W d k (pc + 3) ls rest M1 (od_Pt M r n f xs p) ∨ ∃ (n : Nat) (q : od_O × od_M), od_step k (pc + 3) ls rest M1 = some (.inr (.inr (.inl none, M1)))) : od_K d k pc ls rest (od_Pt M r n f xs p) o M1 := by
  rcases id h with ⟨h1, h2, rfl, h4⟩ | ⟨h1, rfl, h2⟩
  · rcases hk with hk | ⟨_, _, hk⟩
    · exact od_K.ret hk
    · exact od_K.ret (od_W.fin hk h)
  · exact od_K.out hx h
theorem ct_putPartLe {M : od_M} {r n q m a b : Nat} {f g : Nat → Int32} (h : od_Rw M r n f) (hq : od_Rw M q m g) (hap : od_ap2 r q) (hab : a ≤ b) (hbm : b ≤ m) : od_W 0 18 0 (od_ent 18 [.ref r, .ref q, .int (nI a), .int (nI b)]) [] M (od_Pt M r n f (od_sl g a b) True) := by
  by_cases hlt : a < b
  · exact ct_putPart h hq hap hlt hbm
  · have hab2 : a = b := by omega
    subst hab2
    have hm := hq.2.2
    refine (ct_putPart0 hq (Or.inr (Or.inl (Int32.le_refl _)))).mono fun o M' hh => Or.inl ⟨trivial, ?_, hh.1, ?_⟩
    · rw [od_sl_self]
      exact h.2.2
    · rw [hh.2, od_sl_self, od_ap_nil]
      exact (od_wr_id h).symm
theorem ct_putNumber {M : od_M} {r n : Nat} {f : Nat → Int32} {v : Int64} (h : od_Rw M r n f) (hv : ¬ v ≤ 0) : od_W 3 24 0 (od_ent 24 [.ref r, .long v]) [] M (od_Pt M r n f [1, 0, v.toInt32] (v ≤ 1000000)) := by
  have e0 : od_ent 24 [.ref r, .long v] = [some (.ref r), some (.long v), none] := rfl
  rw [e0]
  refine od_W.run 3 rfl ?_
  refine od_r1F rfl (of_decide_eq_true rfl) ((od_lc_le v 0).trans (decide_eq_false hv)) ?_
  refine od_W.run 1 rfl ?_
  refine od_rV (as := []) rfl rfl rfl rfl h.1 rfl (Nat.le_of_ble_eq_true rfl) (Nat.le_of_ble_eq_true rfl) (ct_openTerm h) (Nat.le_of_ble_eq_true rfl) (fun o M1 hq => ?_)
  rcases hq with ⟨-, h2, rfl, rfl⟩ | ⟨h1, rfl, h2⟩
  · refine od_K.ret ?_
    have hR1 := od_wr_Rw M (r := r) (od_ap f n [1]) h2
    refine od_W.run 2 rfl ?_
    refine od_rV (as := [.long v]) rfl rfl rfl rfl hR1.1 rfl (Nat.le_of_ble_eq_true rfl) (Nat.le_of_ble_eq_true rfl) (ct_closeTerm (v := v) hR1) (Nat.le_refl _) (fun o M1 hq => ?_)
    have hq2 : od_Pt M r n f ([1] ++ [0, v.toInt32]) (v ≤ 1000000) o M1 := od_Pt.iff ⟨fun z => z.2, fun z => ⟨trivial, z⟩⟩ (od_Pt.two (p := True) h2 trivial hq)
    rcases id hq with ⟨h1, h2, rfl, h4⟩ | ⟨h1, rfl, h2⟩
    · exact od_K.ret (od_W.fin rfl hq2)
    · exact od_K.out rfl hq2
  · have hq2 : od_Pt M r n f ([1] ++ [0, v.toInt32]) (v ≤ 1000000) (.inr (2, M.1)) M1 := od_Pt.iff ⟨fun z => z.2, fun z => ⟨trivial, z⟩⟩ (od_Pt.no (p := True) (q := v ≤ 1000000) h1 rfl h2)
    exact od_K.out rfl hq2
theorem ct_putNumber0 {M : od_M} {r n : Nat} {f : Nat → Int32} {v : Int64} (h : od_Rw M r n f) (hv : v ≤ 0) : od_W 0 24 0 (od_ent 24 [.ref r, .long v]) [] M (od_Pt M r n f [] True) := by
  have e0 : od_ent 24 [.ref r, .long v] = [some (.ref r), some (.long v), none] := rfl
  rw [e0]
  refine od_W.run 3 rfl ?_
  refine od_r1T rfl rfl ((od_lc_le v 0).trans (decide_eq_true hv)) ?_
  refine od_W.fin rfl (Or.inl ⟨trivial, h.2.2, rfl, ?_⟩)
  rw [od_ap_nil]
  exact (od_wr_id h).symm
theorem ct_becomePart {M : od_M} {r n q m a b : Nat} {f g : Nat → Int32} (h : od_Rw M r n f) (hq : od_Rw M q m g) (hap : od_ap2 r q) (hap' : od_ap2 q r) (hab : a ≤ b) (hbm : b ≤ m) : od_W 1 14 0 (od_ent 14 [.ref r, .ref q, .int (nI a), .int (nI b)]) [] M (od_Pt M r 0 f (od_sl g a b) True) := by
  have e0 : od_ent 14 [.ref r, .ref q, .int (nI a), .int (nI b)] = [some (.ref r), some (.ref q), some (.int (nI a)), some (.int (nI b))] := rfl
  rw [e0]
  refine od_W.run 2 rfl ?_
  refine od_rP rfl h.1 rfl (by simp) rfl (by decide) ?_
  show od_W 1 14 5 [some (.ref r), some (.ref q), some (.int (nI a)), some (.int (nI b))] [] (od_set M r (od_ob 0 [.ref (r + 1), .int (nI 0)])) _
  rw [od_wr_len (n' := 0) h]
  have hR1 := od_wr_Rw M (r := r) (n := 0) f (by omega)
  have hq1 : od_Rw (od_wr M r 0 f) q m g := hq.other hap'.1 hap'.2.1 hap'.2.2
  refine od_W.run 4 rfl ?_
  refine od_rV (as := [.ref q, .int (nI a), .int (nI b)]) rfl rfl rfl rfl hR1.1 rfl (Nat.le_of_ble_eq_true rfl) (Nat.le_of_ble_eq_true rfl) (ct_putPartLe hR1 hq1 hap hab hbm) (Nat.le_refl _) (fun o M1 hh => ?_)
  have hq2 := od_Pt.re hh
  rcases id hh with ⟨h1, h2, rfl, h4⟩ | ⟨h1, rfl, h2⟩
  · exact od_K.ret (od_W.fin rfl hq2)
  · exact od_K.out rfl hq2
theorem ct_become {M : od_M} {r n q m : Nat} {f g : Nat → Int32} (h : od_Rw M r n f) (hq : od_Rw M q m g) (hap : od_ap2 r q) (hap' : od_ap2 q r) : od_W 2 13 0 (od_ent 13 [.ref r, .ref q]) [] M (od_Pt M r 0 f (od_sl g 0 m) True) := by
  have e0 : od_ent 13 [.ref r, .ref q] = [some (.ref r), some (.ref q)] := rfl
  rw [e0]
  refine od_W.run 4 rfl ?_
  refine od_rG rfl hq.1 rfl rfl ?_
  refine od_rV (as := [.ref q, .int (nI 0), .int (nI m)]) rfl rfl rfl rfl h.1 rfl (Nat.le_of_ble_eq_true rfl) (Nat.le_of_ble_eq_true rfl) (ct_becomePart h hq hap hap' (Nat.zero_le m) (Nat.le_refl m)) (Nat.le_refl _) (fun o M1 hh => ?_)
  rcases id hh with ⟨h1, h2, rfl, h4⟩ | ⟨h1, rfl, h2⟩
  · exact od_K.ret (od_W.fin rfl hh)
  · exact od_K.out rfl hh
theorem ct_becomeNumber {M : od_M} {r n : Nat} {f : Nat → Int32} {v : Int32} (h : od_Rw M r n f) (hv : ¬ v.toInt64 ≤ 0) : od_W 4 16 0 (od_ent 16 [.ref r, .int v]) [] M (od_Pt M r 0 f [1, 0, v.toInt64.toInt32] (v.toInt64 ≤ 1000000)) := by
  have e0 : od_ent 16 [.ref r, .int v] = [some (.ref r), some (.int v)] := rfl
  rw [e0]
  refine od_W.run 2 rfl ?_
  refine od_rP rfl h.1 rfl (by simp) rfl (by decide) ?_
  show od_W 4 16 5 [some (.ref r), some (.int v)] [] (od_set M r (od_ob 0 [.ref (r + 1), .int (nI 0)])) _
  rw [od_wr_len (n' := 0) h]
  have hR1 := od_wr_Rw M (r := r) (n := 0) f (by omega)
  refine od_W.run 3 rfl ?_
  refine od_rV (as := [.long v.toInt64]) rfl rfl rfl rfl hR1.1 rfl (Nat.le_of_ble_eq_true rfl) (Nat.le_of_ble_eq_true rfl) (ct_putNumber (v := v.toInt64) hR1 hv) (Nat.le_refl _) (fun o M1 hh => ?_)
  have hq2 := od_Pt.re hh
  rcases id hh with ⟨h1, h2, rfl, h4⟩ | ⟨h1, rfl, h2⟩
  · exact od_K.ret (od_W.fin rfl hq2)
  · exact od_K.out rfl hq2
theorem ct_becomeNumber0 {M : od_M} {r n : Nat} {f : Nat → Int32} {v : Int32} (h : od_Rw M r n f) (hv : v.toInt64 ≤ 0) : od_W 1 16 0 (od_ent 16 [.ref r, .int v]) [] M (od_Pt M r 0 f [] True) := by
  have e0 : od_ent 16 [.ref r, .int v] = [some (.ref r), some (.int v)] := rfl
  rw [e0]
  refine od_W.run 2 rfl ?_
  refine od_rP rfl h.1 rfl (by simp) rfl (by decide) ?_
  show od_W 1 16 5 [some (.ref r), some (.int v)] [] (od_set M r (od_ob 0 [.ref (r + 1), .int (nI 0)])) _
  rw [od_wr_len (n' := 0) h]
  have hR1 := od_wr_Rw M (r := r) (n := 0) f (by omega)
  refine od_W.run 3 rfl ?_
  refine od_rV (as := [.long v.toInt64]) rfl rfl rfl rfl hR1.1 rfl (Nat.le_of_ble_eq_true rfl) (Nat.le_of_ble_eq_true rfl) (ct_putNumber0 (v := v.toInt64) hR1 hv) (Nat.le_refl _) (fun o M1 hh => ?_)
  have hq2 := od_Pt.re hh
  rcases id hh with ⟨h1, h2, rfl, h4⟩ | ⟨h1, rfl, h2⟩
  · exact od_K.ret (od_W.fin rfl hq2)
  · exact od_K.out rfl hq2
