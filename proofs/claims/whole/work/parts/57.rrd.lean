/-! The reference's reads. -/
section RR
variable {M : od_M} {y : Nat} {b : rf_B} {fu : Bool} {ρ : od_Rm}
def rf_tk (ρ : od_Rm) (r k : Nat) : Int32 := if k < (ρ r).1 then (ρ r).2 k else 0
theorem ct_token {r k : Nat} (hb : od_Bd ρ) (hr : r < 113) (hk : k < 2 ^ 31) : od_W 0 92 0 (od_ent 92 [.ref y, .int (nI r), .int (nI k)]) [] (md M y b fu ρ) (fun o M' => o = .inl (some (.int (rf_tk ρ r k))) ∧ M' = md M y b fu ρ) := by
  have e0 : od_ent 92 [.ref y, .int (nI r), .int (nI k)] = [some (.ref y), some (.int (nI r)), some (.int (nI k))] := rfl
  rw [e0]
  have h60 := hb r
  unfold rf_tk
  refine od_W.rn (pc' := 2) (ls' := [some (.ref _), some (.int _), some (.int _)]) (st' := [.ref _, .int _]) 2 rfl ?_
  refine od_rG rfl (md_0) rfl rfl ?_
  refine od_W.rn (pc' := 6) (ls' := [some (.ref _), some (.int _), some (.int _)]) (st' := [.int _, .ref _, .int _]) 1 rfl ?_
  refine od_rIL rfl (md_2) (rfl) (hr) (by decide) ?_
  rw [rf_row]
  by_cases h : k < (ρ r).1
  · rw [if_pos h]
    refine od_r2F rfl (of_decide_eq_true rfl) (decide_eq_false (nI_ge h (by omega))) ?_
    refine od_W.rn (pc' := 11) (ls' := [some (.ref _), some (.int _), some (.int _)]) (st' := [.ref _]) 1 rfl ?_
    refine od_rG rfl (md_0) rfl rfl ?_
    refine od_W.rn (pc' := 20) (ls' := [some (.ref _), some (.int _), some (.int _)]) (st' := [.int _, .ref _]) 5 rfl ?_
    refine od_rIL rfl (md_1) (rf_ix r k) (by omega) (by decide) ?_
    rw [rf_fl_at ρ (by omega)]
    refine od_W.rn (pc' := 25) (ls' := [some (.ref _), some (.int _), some (.int _)]) (st' := [.int _]) 1 rfl ?_
    refine od_W.fin rfl ?_
    exact ⟨rfl, rfl⟩
  · rw [if_neg h]
    refine od_r2T rfl rfl (decide_eq_true (nI_le (by omega) hk)) ?_
    refine od_W.rn (pc' := 25) (ls' := [some (.ref _), some (.int _), some (.int _)]) (st' := [.int _]) 1 rfl ?_
    refine od_W.fin rfl ?_
    exact ⟨rfl, rfl⟩
theorem ct_coef {r e : Nat} (he : 1 ≤ e) (hr : 64 * r + e ≤ 7360) : od_W 0 94 0 (od_ent 94 [.ref y, .int (nI r), .int (nI e)]) [] (md M y b fu ρ) (fun o M' => o = .inl (some (.int (rf_fl b.2.2.2 ρ (64 * r + e - 1)))) ∧ M' = md M y b fu ρ) := by
  have e0 : od_ent 94 [.ref y, .int (nI r), .int (nI e)] = [some (.ref y), some (.int (nI r)), some (.int (nI e))] := rfl
  rw [e0]
  refine od_W.rn (pc' := 1) (ls' := [some (.ref _), some (.int _), some (.int _)]) (st' := [.ref _]) 1 rfl ?_
  refine od_rG rfl (md_0) rfl rfl ?_
  refine od_W.rn (pc' := 12) (ls' := [some (.ref _), some (.int _), some (.int _)]) (st' := [.int _, .ref _]) 7 rfl ?_
  refine od_rIL rfl (md_1) (rf_ix1 r e (by omega)) (by omega) (by decide) ?_
  refine od_W.fin rfl ?_
  exact ⟨rfl, rfl⟩
theorem rt_coef {r e : Nat} {u z : List Nat} {t : tm_T} (hr : r < 113) (hb : od_Bd ρ) (hy : od_hl ρ r (u ++ (tm_t t ++ z))) (he : e = u.length + (tm_t t).length) : od_W 0 94 0 (od_ent 94 [.ref y, .int (nI r), .int (nI e)]) [] (md M y b fu ρ) (fun o M' => o = .inl (some (.int (nI t.2))) ∧ M' = md M y b fu ρ) := by
  have h60 := hy.le hb
  obtain ⟨h1, h2⟩ := hy.tt
  rw [List.length_append, List.length_append] at h60
  rw [tm_t_len] at he h60
  refine (ct_coef (by omega) (by omega)).mono fun o M' h => ⟨?_, h.2⟩
  rw [h.1, show 64 * r + e - 1 = 64 * r + (u.length + 1 + t.1.length + 1) by omega, rf_fl_at ρ (by omega)]
  unfold tm_t at h1
  rw [tm_at_cons, tm_at_app, tm_at_cons, tm_at_cons] at h1
  rw [h1.2.2.2.1]
theorem cl_bh_1 {r o k : Nat} {Q : od_O → od_M → Prop} {w2 : Int32} (hb : od_Bd ρ) (hr : r < 113) (hk : k < 1000) (ho : o < 1000) (ht : rf_tk ρ r k = 1) (hq0 : od_W 1 93 8 [some (.ref y), some (.int (nI r)), some (.int w2), some (.int (nI (o + 1))), some (.int (nI (k + 1))), some (.int (nI 1))] [] (md M y b fu ρ) Q) : od_W 1 93 8 [some (.ref y), some (.int (nI r)), some (.int w2), some (.int (nI o)), some (.int (nI k)), some (.int (nI 1))] [] (md M y b fu ρ) Q := by
  refine od_W.rn (pc' := 10) (ls' := [some (.ref _), some (.int _), some (.int _), some (.int _), some (.int _), some (.int _)]) (st' := [.int _]) 1 rfl ?_
  refine od_r1F rfl (of_decide_eq_true rfl) (rfl) ?_
  refine od_W.rn (pc' := 17) (ls' := [some (.ref _), some (.int _), some (.int _), some (.int _), some (.int _), some (.int _)]) (st' := [.int _, .int _, .ref _]) 3 rfl ?_
  refine od_rV (as := [.int (nI r), .int (nI k)]) rfl rfl rfl rfl (md_0) rfl (Nat.le_of_ble_eq_true rfl) (Nat.le_of_ble_eq_true rfl) (ct_token hb hr (by omega)) (Nat.le_of_ble_eq_true rfl) (fun o M1 hq => ?_)
  obtain ⟨rfl, rfl⟩ := hq
  refine od_K.ret ?_
  rw [ht]
  refine od_W.rn (pc' := 21) (ls' := [some (.ref _), some (.int _), some (.int _), some (.int _), some (.int _), some (.int _)]) (st' := [.int _, .int _]) 1 rfl ?_
  refine od_r2F rfl (of_decide_eq_true rfl) (rfl) ?_
  refine od_W.rn (pc' := 40) (ls' := [some (.ref _), some (.int _), some (.int _), some (.int _), some (.int _), some (.int _)]) (st' := [.int _]) 4 rfl ?_
  rw [nI_inc o, nI_inc k]
  refine od_r1F rfl (of_decide_eq_true rfl) (decide_eq_false (nI_ge (a := 0) (by omega) (by omega))) ?_
  refine od_W.rn (pc' := 8) (ls' := [some (.ref _), some (.int _), some (.int _), some (.int _), some (.int _), some (.int _)]) (st' := []) 4 rfl ?_
  exact hq0
theorem cl_bh_0 {r o k : Nat} {Q : od_O → od_M → Prop} {w2 : Int32} (hb : od_Bd ρ) (hr : r < 113) (hk : k < 1000) (ho : o < 1000) (ht : rf_tk ρ r k ≠ 1) (hq0 : od_W 1 93 8 [some (.ref y), some (.int (nI r)), some (.int w2), some (.int (nI (o + 1))), some (.int (nI (k + 2))), some (.int (nI 1))] [] (md M y b fu ρ) Q) : od_W 1 93 8 [some (.ref y), some (.int (nI r)), some (.int w2), some (.int (nI (o + 2))), some (.int (nI k)), some (.int (nI 1))] [] (md M y b fu ρ) Q := by
  refine od_W.rn (pc' := 10) (ls' := [some (.ref _), some (.int _), some (.int _), some (.int _), some (.int _), some (.int _)]) (st' := [.int _]) 1 rfl ?_
  refine od_r1F rfl (of_decide_eq_true rfl) (rfl) ?_
  refine od_W.rn (pc' := 17) (ls' := [some (.ref _), some (.int _), some (.int _), some (.int _), some (.int _), some (.int _)]) (st' := [.int _, .int _, .ref _]) 3 rfl ?_
  refine od_rV (as := [.int (nI r), .int (nI k)]) rfl rfl rfl rfl (md_0) rfl (Nat.le_of_ble_eq_true rfl) (Nat.le_of_ble_eq_true rfl) (ct_token hb hr (by omega)) (Nat.le_of_ble_eq_true rfl) (fun o M1 hq => ?_)
  obtain ⟨rfl, rfl⟩ := hq
  refine od_K.ret ?_
  refine od_W.rn (pc' := 21) (ls' := [some (.ref _), some (.int _), some (.int _), some (.int _), some (.int _), some (.int _)]) (st' := [.int _, .int _]) 1 rfl ?_
  refine od_r2T rfl rfl ((show (!decide (rf_tk ρ r k = 1)) = true by rw [decide_eq_false ht]; rfl)) ?_
  refine od_W.rn (pc' := 40) (ls' := [some (.ref _), some (.int _), some (.int _), some (.int _), some (.int _), some (.int _)]) (st' := [.int _]) 3 rfl ?_
  rw [show nI (o + 2) + Int32.ofInt (-1) = nI (o + 1) from nI_dec (o + 1), show nI k + Int32.ofInt 2 = nI (k + 2) from nI_add k 2]
  refine od_r1F rfl (of_decide_eq_true rfl) (decide_eq_false (nI_ge (a := 0) (by omega) (by omega))) ?_
  refine od_W.rn (pc' := 8) (ls' := [some (.ref _), some (.int _), some (.int _), some (.int _), some (.int _), some (.int _)]) (st' := []) 4 rfl ?_
  exact hq0
theorem od_le1 {o : Nat} (h : o ≤ 1) : od_cond .le (nI o + Int32.ofInt (-1)) 0 = true := by rcases Nat.le_one_iff_eq_zero_or_eq_one.mp h with rfl | rfl <;> rfl
theorem cl_bh_e {r o k : Nat} {Q : od_O → od_M → Prop} {w2 : Int32} (hb : od_Bd ρ) (hr : r < 113) (hk : k < 1000) (ho : o ≤ 1) (ht : rf_tk ρ r k ≠ 1) (hq0 : Q (.inl (some (.int (nI (k + 2))))) (md M y b fu ρ)) : od_W 1 93 8 [some (.ref y), some (.int (nI r)), some (.int w2), some (.int (nI o)), some (.int (nI k)), some (.int (nI 1))] [] (md M y b fu ρ) Q := by
  refine od_W.rn (pc' := 10) (ls' := [some (.ref _), some (.int _), some (.int _), some (.int _), some (.int _), some (.int _)]) (st' := [.int _]) 1 rfl ?_
  refine od_r1F rfl (of_decide_eq_true rfl) (rfl) ?_
  refine od_W.rn (pc' := 17) (ls' := [some (.ref _), some (.int _), some (.int _), some (.int _), some (.int _), some (.int _)]) (st' := [.int _, .int _, .ref _]) 3 rfl ?_
  refine od_rV (as := [.int (nI r), .int (nI k)]) rfl rfl rfl rfl (md_0) rfl (Nat.le_of_ble_eq_true rfl) (Nat.le_of_ble_eq_true rfl) (ct_token hb hr (by omega)) (Nat.le_of_ble_eq_true rfl) (fun o M1 hq => ?_)
  obtain ⟨rfl, rfl⟩ := hq
  refine od_K.ret ?_
  refine od_W.rn (pc' := 21) (ls' := [some (.ref _), some (.int _), some (.int _), some (.int _), some (.int _), some (.int _)]) (st' := [.int _, .int _]) 1 rfl ?_
  refine od_r2T rfl rfl ((show (!decide (rf_tk ρ r k = 1)) = true by rw [decide_eq_false ht]; rfl)) ?_
  refine od_W.rn (pc' := 40) (ls' := [some (.ref _), some (.int _), some (.int _), some (.int _), some (.int _), some (.int _)]) (st' := [.int _]) 3 rfl ?_
  rw [show nI k + Int32.ofInt 2 = nI (k + 2) from nI_add k 2]
  refine od_r1T rfl rfl (od_le1 ho) ?_
  refine od_W.rn (pc' := 10) (ls' := [some (.ref _), some (.int _), some (.int _), some (.int _), some (.int _), some (.int _)]) (st' := [.int _]) 4 rfl ?_
  refine od_r1T rfl rfl (rfl) ?_
  refine od_W.rn (pc' := 55) (ls' := [some (.ref _), some (.int _), some (.int _), some (.int _), some (.int _), some (.int _)]) (st' := [.int _]) 1 rfl ?_
  refine od_W.fin rfl ?_
  exact hq0
theorem cl_bh_w {r i : Nat} {w2 : Int32} (hb : od_Bd ρ) (hr : r < 113) : ∀ (m o k : Nat), 2 * (60 - k) + o < m → k + 2 * o ≤ 180 → (60 ≤ k ∨ o ≤ k) → i ≤ k → od_W 1 93 8 [some (.ref y), some (.int (nI r)), some (.int w2), some (.int (nI o)), some (.int (nI k)), some (.int (nI 1))] [] (md M y b fu ρ) (fun q M' => (∃ j, i + 2 ≤ j ∧ j ≤ 190 ∧ q = .inl (some (.int (nI j)))) ∧ M' = md M y b fu ρ) := by
  intro m
  induction m with
  | zero => intro o k h; omega
  | succ m ih =>
    intro o k h1 h2 h3 h4
    have h60 := hb r
    by_cases ht : rf_tk ρ r k = 1
    · have hkl : k < (ρ r).1 := by
        unfold rf_tk at ht
        by_cases z : k < (ρ r).1
        · exact z
        · rw [if_neg z] at ht; exact absurd ht (by decide)
      exact cl_bh_1 hb hr (by omega) (by omega) ht (ih (o + 1) (k + 1) (by omega) (by omega) (by omega) (by omega))
    · by_cases ho : o ≤ 1
      · exact cl_bh_e hb hr (by omega) ho ht ⟨⟨k + 2, by omega, by omega, rfl⟩, rfl⟩
      · obtain ⟨o, rfl⟩ : ∃ o', o = o' + 2 := ⟨o - 2, by omega⟩
        exact cl_bh_0 hb hr (by omega) (by omega) ht (ih (o + 1) (k + 2) (by omega) (by omega) (by omega) (by omega))
theorem gw_behind {r i : Nat} (hb : od_Bd ρ) (hr : r < 113) (hi : i ≤ 60) : od_W 1 93 0 (od_ent 93 [.ref y, .int (nI r), .int (nI i)]) [] (md M y b fu ρ) (fun q M' => (∃ j, i + 2 ≤ j ∧ j ≤ 190 ∧ q = .inl (some (.int (nI j)))) ∧ M' = md M y b fu ρ) := by
  have e0 : od_ent 93 [.ref y, .int (nI r), .int (nI i)] = [some (.ref y), some (.int (nI r)), some (.int (nI i)), none, none, none] := rfl
  rw [e0]
  refine od_W.rn (pc' := 8) (ls' := [some (.ref _), some (.int _), some (.int _), some (.int _), some (.int _), some (.int _)]) (st' := []) 6 rfl ?_
  exact cl_bh_w hb hr 200 0 i (by omega) (by omega) (by omega) (Nat.le_refl _)
theorem rf_tk_at {r k : Nat} {c : Nat} {w : List Nat} (hat : tm_at (ρ r).2 k (c :: w)) (hl : k + (c :: w).length ≤ (ρ r).1) : rf_tk ρ r k = nI c := by
  unfold rf_tk
  rw [if_pos (by simp at hl; omega)]
  exact (tm_at_cons.mp hat).1
theorem cl_bh_sc {r : Nat} {Q : od_O → od_M → Prop} {w2 : Int32} (hb : od_Bd ρ) (hr : r < 113) : ∀ (m : Nat) (e : List Nat), e.length ≤ m → tm_W e → ∀ (o k : Nat), o + e.length < 900 → tm_at (ρ r).2 k e → k + e.length ≤ (ρ r).1 → od_W 1 93 8 [some (.ref y), some (.int (nI r)), some (.int w2), some (.int (nI (o + 1))), some (.int (nI (k + e.length))), some (.int (nI 1))] [] (md M y b fu ρ) Q → od_W 1 93 8 [some (.ref y), some (.int (nI r)), some (.int w2), some (.int (nI (o + 1))), some (.int (nI k)), some (.int (nI 1))] [] (md M y b fu ρ) Q := by
  intro m
  induction m with
  | zero =>
    intro e he _ o k _ _ _ hk
    have : e = [] := List.length_eq_zero_iff.mp (by omega)
    subst this
    exact hk
  | succ m ih =>
    intro e he hW o k ho hat hl hk
    have h60 := hb r
    rcases tm_cases hW with rfl | ⟨e1, c, r1, rfl, h1, h2, h3⟩
    · exact hk
    · have hat0 := hat
      rw [tm_at_cons, tm_at_app, tm_at_cons, tm_at_cons] at hat
      obtain ⟨a1, a2, a3, a4, a5⟩ := hat
      simp only [List.length_cons, List.length_append] at he ho hl hk
      refine cl_bh_1 hb hr (by omega) (by omega) (by unfold rf_tk; rw [if_pos (by omega), a1]; rfl) ?_
      refine ih e1 (by omega) h1 (o + 1) (k + 1) (by omega) a2 (by omega) ?_
      refine cl_bh_0 hb hr (by omega) (by omega) (by unfold rf_tk; rw [if_pos (by omega), a3]; decide) ?_
      refine ih r1 (by omega) h3 o _ (by omega) a5 (by omega) ?_
      rw [show k + 1 + e1.length + 2 + r1.length = k + (e1.length + (r1.length + 1 + 1) + 1) by omega]
      exact hk
theorem rt_behind {r i : Nat} {u z : List Nat} {t : tm_T} (hb : od_Bd ρ) (hr : r < 113) (ht : tm_ok t) (hy : od_hl ρ r (u ++ (tm_t t ++ z))) (hi : i = u.length) : od_W 1 93 0 (od_ent 93 [.ref y, .int (nI r), .int (nI i)]) [] (md M y b fu ρ) (fun q M' => q = .inl (some (.int (nI (i + (tm_t t).length)))) ∧ M' = md M y b fu ρ) := by
  have e0 : od_ent 93 [.ref y, .int (nI r), .int (nI i)] = [some (.ref y), some (.int (nI r)), some (.int (nI i)), none, none, none] := rfl
  rw [e0]
  have h60 := hb r
  obtain ⟨h1, h2⟩ := hy.tt
  rw [tm_t_len] at h2
  unfold tm_t at h1
  rw [← hi] at h1 h2
  rw [tm_at_cons, tm_at_app, tm_at_cons] at h1
  refine od_W.rn (pc' := 8) (ls' := [some (.ref _), some (.int _), some (.int _), some (.int _), some (.int _), some (.int _)]) (st' := []) 6 rfl ?_
  refine cl_bh_1 (o := 0) hb hr (by omega) (by omega) (by unfold rf_tk; rw [if_pos (by omega), h1.1]; rfl) ?_
  refine cl_bh_sc hb hr t.1.length t.1 (Nat.le_refl _) ht.1 0 (i + 1) (by omega) h1.2.1 (by omega) ?_
  refine cl_bh_e hb hr (by omega) (by omega) (by unfold rf_tk; rw [if_pos (by omega), h1.2.2.1]; decide) ?_
  rw [tm_t_len, show i + 1 + t.1.length + 2 = i + (t.1.length + 3) by omega]
  exact ⟨rfl, rfl⟩
theorem cl_or_w {r x : Nat} (hb : od_Bd ρ) (hr : r < 113) (hx : x < 113) : ∀ (m k : Nat), k + m = 60 → od_W 1 96 2 [some (.ref y), some (.int (nI r)), some (.int (nI x)), some (.int (nI k))] [] (md M y b fu ρ) (fun q M' => (∃ v : Int32, (v = -1 ∨ v = 0 ∨ v = 1) ∧ q = .inl (some (.int v))) ∧ M' = md M y b fu ρ) := by
  intro m
  induction m with
  | zero =>
    intro k hk
    refine od_W.rn (pc' := 5) (ls' := [some (.ref _), some (.int _), some (.int _), some (.int _)]) (st' := [.int _, .int _]) 2 rfl ?_
    refine od_r2T rfl rfl (decide_eq_true (nI_le (a := 60) (by omega) (by omega))) ?_
    refine od_W.rn (pc' := 51) (ls' := [some (.ref _), some (.int _), some (.int _), some (.int _)]) (st' := [.int _]) 1 rfl ?_
    refine od_W.fin rfl ?_
    exact ⟨⟨0, Or.inr (Or.inl rfl), rfl⟩, rfl⟩
  | succ m ih =>
    intro k hk
    refine od_W.rn (pc' := 5) (ls' := [some (.ref _), some (.int _), some (.int _), some (.int _)]) (st' := [.int _, .int _]) 2 rfl ?_
    refine od_r2F rfl (of_decide_eq_true rfl) (decide_eq_false (nI_ge (b := 60) (by omega) (by omega))) ?_
    refine od_W.rn (pc' := 11) (ls' := [some (.ref _), some (.int _), some (.int _), some (.int _)]) (st' := [.int _, .int _, .ref _]) 3 rfl ?_
    refine od_rV (as := [.int (nI r), .int (nI k)]) rfl rfl rfl rfl (md_0) rfl (Nat.le_of_ble_eq_true rfl) (Nat.le_of_ble_eq_true rfl) (ct_token hb hr (by omega)) (Nat.le_of_ble_eq_true rfl) (fun o M1 hq => ?_)
    obtain ⟨rfl, rfl⟩ := hq
    refine od_K.ret ?_
    refine od_W.rn (pc' := 17) (ls' := [some (.ref _), some (.int _), some (.int _), some (.int _)]) (st' := [.int _, .int _, .ref _, .int _]) 3 rfl ?_
    refine od_rV (as := [.int (nI x), .int (nI k)]) rfl rfl rfl rfl (md_0) rfl (Nat.le_of_ble_eq_true rfl) (Nat.le_of_ble_eq_true rfl) (ct_token hb hx (by omega)) (Nat.le_of_ble_eq_true rfl) (fun o M1 hq => ?_)
    obtain ⟨rfl, rfl⟩ := hq
    refine od_K.ret ?_
    by_cases h : rf_tk ρ r k = rf_tk ρ x k
    · refine od_r2T rfl rfl (decide_eq_true h) ?_
      refine od_W.rn (pc' := 2) (ls' := [some (.ref _), some (.int _), some (.int _), some (.int _)]) (st' := []) 2 rfl ?_
      rw [nI_inc k]
      exact ih (k + 1) (by omega)
    · refine od_r2F rfl (of_decide_eq_true rfl) (decide_eq_false h) ?_
      refine od_W.rn (pc' := 26) (ls' := [some (.ref _), some (.int _), some (.int _), some (.int _)]) (st' := [.int _, .int _, .ref _]) 3 rfl ?_
      refine od_rV (as := [.int (nI r), .int (nI k)]) rfl rfl rfl rfl (md_0) rfl (Nat.le_of_ble_eq_true rfl) (Nat.le_of_ble_eq_true rfl) (ct_token hb hr (by omega)) (Nat.le_of_ble_eq_true rfl) (fun o M1 hq => ?_)
      obtain ⟨rfl, rfl⟩ := hq
      refine od_K.ret ?_
      refine od_W.rn (pc' := 32) (ls' := [some (.ref _), some (.int _), some (.int _), some (.int _)]) (st' := [.int _, .int _, .ref _, .int _]) 3 rfl ?_
      refine od_rV (as := [.int (nI x), .int (nI k)]) rfl rfl rfl rfl (md_0) rfl (Nat.le_of_ble_eq_true rfl) (Nat.le_of_ble_eq_true rfl) (ct_token hb hx (by omega)) (Nat.le_of_ble_eq_true rfl) (fun o M1 hq => ?_)
      obtain ⟨rfl, rfl⟩ := hq
      refine od_K.ret ?_
      by_cases h2 : rf_tk ρ x k ≤ rf_tk ρ r k
      · refine od_r2T rfl rfl (decide_eq_true h2) ?_
        refine od_W.rn (pc' := 43) (ls' := [some (.ref _), some (.int _), some (.int _), some (.int _)]) (st' := [.int _]) 1 rfl ?_
        refine od_W.fin rfl ?_
        exact ⟨⟨1, Or.inr (Or.inr rfl), rfl⟩, rfl⟩
      · refine od_r2F rfl (of_decide_eq_true rfl) (decide_eq_false h2) ?_
        refine od_W.rn (pc' := 43) (ls' := [some (.ref _), some (.int _), some (.int _), some (.int _)]) (st' := [.int _]) 2 rfl ?_
        refine od_W.fin rfl ?_
        exact ⟨⟨-1, Or.inl rfl, rfl⟩, rfl⟩
theorem gw_order {r x : Nat} (hb : od_Bd ρ) (hr : r < 113) (hx : x < 113) : od_W 1 96 0 (od_ent 96 [.ref y, .int (nI r), .int (nI x)]) [] (md M y b fu ρ) (fun q M' => (∃ v : Int32, (v = -1 ∨ v = 0 ∨ v = 1) ∧ q = .inl (some (.int v))) ∧ M' = md M y b fu ρ) := by
  have e0 : od_ent 96 [.ref y, .int (nI r), .int (nI x)] = [some (.ref y), some (.int (nI r)), some (.int (nI x)), none] := rfl
  rw [e0]
  refine od_W.rn (pc' := 2) (ls' := [some (.ref _), some (.int _), some (.int _), some (.int _)]) (st' := []) 2 rfl ?_
  exact cl_or_w hb hr hx 60 0 (by omega)
theorem rf_tk_l {r k : Nat} {p w : List Nat} (hy : od_hl ρ r (p ++ w)) (hk : k = p.length) : rf_tk ρ r k = nI (w.headD 0) := by
  have hn := hy.n
  have hat := hy.at
  rw [tm_at_app, Nat.zero_add, ← hk] at hat
  rw [List.length_append] at hn
  unfold rf_tk
  cases w with
  | nil => rw [if_neg (by simp at hn; omega)]; rfl
  | cons c w =>
    rw [if_pos (by simp at hn; omega)]
    exact (tm_at_cons.mp hat.2).1
theorem tm_W_hd {v : Nat} {w : List Nat} (h : tm_W (v :: w)) : v = 1 := by
  rcases tm_cases h with z | ⟨e, c, r, z, _⟩
  · exact absurd z (by simp)
  · exact (List.cons.inj z).1
theorem cl_or_s {r x : Nat} (hb : od_Bd ρ) (hr : r < 113) (hx : x < 113) : ∀ (m k : Nat) (p us vs : List Nat), k + m = 60 → k = p.length → tm_W (p ++ us) → tm_W (p ++ vs) → od_hl ρ r (p ++ us) → od_hl ρ x (p ++ vs) → od_W 1 96 2 [some (.ref y), some (.int (nI r)), some (.int (nI x)), some (.int (nI k))] [] (md M y b fu ρ) (fun q M' => q = .inl (some (.int (tm_cmp us vs))) ∧ M' = md M y b fu ρ) := by
  have nil : ∀ (m k : Nat), k + m = 60 → (∀ j, k ≤ j → rf_tk ρ r j = 0 ∧ rf_tk ρ x j = 0) → od_W 1 96 2 [some (.ref y), some (.int (nI r)), some (.int (nI x)), some (.int (nI k))] [] (md M y b fu ρ) (fun q M' => q = .inl (some (.int 0)) ∧ M' = md M y b fu ρ) := by
    intro m
    induction m with
    | zero =>
      intro k hk _
      refine od_W.rn (pc' := 5) (ls' := [some (.ref _), some (.int _), some (.int _), some (.int _)]) (st' := [.int _, .int _]) 2 rfl ?_
      refine od_r2T rfl rfl (decide_eq_true (nI_le (a := 60) (by omega) (by omega))) ?_
      refine od_W.rn (pc' := 51) (ls' := [some (.ref _), some (.int _), some (.int _), some (.int _)]) (st' := [.int _]) 1 rfl ?_
      refine od_W.fin rfl ?_
      exact ⟨rfl, rfl⟩
    | succ m ih =>
      intro k hk hz
      refine od_W.rn (pc' := 5) (ls' := [some (.ref _), some (.int _), some (.int _), some (.int _)]) (st' := [.int _, .int _]) 2 rfl ?_
      refine od_r2F rfl (of_decide_eq_true rfl) (decide_eq_false (nI_ge (b := 60) (by omega) (by omega))) ?_
      refine od_W.rn (pc' := 11) (ls' := [some (.ref _), some (.int _), some (.int _), some (.int _)]) (st' := [.int _, .int _, .ref _]) 3 rfl ?_
      refine od_rV (as := [.int (nI r), .int (nI k)]) rfl rfl rfl rfl (md_0) rfl (Nat.le_of_ble_eq_true rfl) (Nat.le_of_ble_eq_true rfl) (ct_token hb hr (by omega)) (Nat.le_of_ble_eq_true rfl) (fun o M1 hq => ?_)
      obtain ⟨rfl, rfl⟩ := hq
      refine od_K.ret ?_
      refine od_W.rn (pc' := 17) (ls' := [some (.ref _), some (.int _), some (.int _), some (.int _)]) (st' := [.int _, .int _, .ref _, .int _]) 3 rfl ?_
      refine od_rV (as := [.int (nI x), .int (nI k)]) rfl rfl rfl rfl (md_0) rfl (Nat.le_of_ble_eq_true rfl) (Nat.le_of_ble_eq_true rfl) (ct_token hb hx (by omega)) (Nat.le_of_ble_eq_true rfl) (fun o M1 hq => ?_)
      obtain ⟨rfl, rfl⟩ := hq
      refine od_K.ret ?_
      refine od_r2T rfl rfl (decide_eq_true ((hz k (Nat.le_refl _)).1.trans (hz k (Nat.le_refl _)).2.symm)) ?_
      refine od_W.rn (pc' := 2) (ls' := [some (.ref _), some (.int _), some (.int _), some (.int _)]) (st' := []) 2 rfl ?_
      rw [nI_inc k]
      exact ih (k + 1) (by omega) (fun j hj => hz j (by omega))
  intro m
  induction m with
  | zero =>
    intro k p us vs hk hp w1 w2 h1 h2
    have l1 := h1.le hb
    have l2 := h2.le hb
    rw [List.length_append] at l1 l2
    have e1 : us = [] := List.length_eq_zero_iff.mp (by omega)
    have e2 : vs = [] := List.length_eq_zero_iff.mp (by omega)
    subst e1
    subst e2
    refine od_W.rn (pc' := 5) (ls' := [some (.ref _), some (.int _), some (.int _), some (.int _)]) (st' := [.int _, .int _]) 2 rfl ?_
    refine od_r2T rfl rfl (decide_eq_true (nI_le (a := 60) (by omega) (by omega))) ?_
    refine od_W.rn (pc' := 51) (ls' := [some (.ref _), some (.int _), some (.int _), some (.int _)]) (st' := [.int _]) 1 rfl ?_
    refine od_W.fin rfl ?_
    exact ⟨rfl, rfl⟩
  | succ m ih =>
    intro k p us vs hk hp w1 w2 h1 h2
    have t1 := rf_tk_l h1 hp
    have t2 := rf_tk_l h2 hp
    have s1 := (tm_sm_app.mp h1.2).2
    have s2 := (tm_sm_app.mp h2.2).2
    have go : us.headD 0 ≠ vs.headD 0 → us.headD 0 ≤ 1000000 → vs.headD 0 ≤ 1000000 → od_W 1 96 2 [some (.ref y), some (.int (nI r)), some (.int (nI x)), some (.int (nI k))] [] (md M y b fu ρ) (fun q M' => q = .inl (some (.int (if us.headD 0 < vs.headD 0 then -1 else 1))) ∧ M' = md M y b fu ρ) := by
      intro hne l1 l2
      have hne2 : rf_tk ρ r k ≠ rf_tk ρ x k := by rw [t1, t2]; exact fun z => hne ((nI_eq (by omega) (by omega)).mp z)
      refine od_W.rn (pc' := 5) (ls' := [some (.ref _), some (.int _), some (.int _), some (.int _)]) (st' := [.int _, .int _]) 2 rfl ?_
      refine od_r2F rfl (of_decide_eq_true rfl) (decide_eq_false (nI_ge (b := 60) (by omega) (by omega))) ?_
      refine od_W.rn (pc' := 11) (ls' := [some (.ref _), some (.int _), some (.int _), some (.int _)]) (st' := [.int _, .int _, .ref _]) 3 rfl ?_
      refine od_rV (as := [.int (nI r), .int (nI k)]) rfl rfl rfl rfl (md_0) rfl (Nat.le_of_ble_eq_true rfl) (Nat.le_of_ble_eq_true rfl) (ct_token hb hr (by omega)) (Nat.le_of_ble_eq_true rfl) (fun o M1 hq => ?_)
      obtain ⟨rfl, rfl⟩ := hq
      refine od_K.ret ?_
      refine od_W.rn (pc' := 17) (ls' := [some (.ref _), some (.int _), some (.int _), some (.int _)]) (st' := [.int _, .int _, .ref _, .int _]) 3 rfl ?_
      refine od_rV (as := [.int (nI x), .int (nI k)]) rfl rfl rfl rfl (md_0) rfl (Nat.le_of_ble_eq_true rfl) (Nat.le_of_ble_eq_true rfl) (ct_token hb hx (by omega)) (Nat.le_of_ble_eq_true rfl) (fun o M1 hq => ?_)
      obtain ⟨rfl, rfl⟩ := hq
      refine od_K.ret ?_
      refine od_r2F rfl (of_decide_eq_true rfl) (decide_eq_false hne2) ?_
      refine od_W.rn (pc' := 26) (ls' := [some (.ref _), some (.int _), some (.int _), some (.int _)]) (st' := [.int _, .int _, .ref _]) 3 rfl ?_
      refine od_rV (as := [.int (nI r), .int (nI k)]) rfl rfl rfl rfl (md_0) rfl (Nat.le_of_ble_eq_true rfl) (Nat.le_of_ble_eq_true rfl) (ct_token hb hr (by omega)) (Nat.le_of_ble_eq_true rfl) (fun o M1 hq => ?_)
      obtain ⟨rfl, rfl⟩ := hq
      refine od_K.ret ?_
      refine od_W.rn (pc' := 32) (ls' := [some (.ref _), some (.int _), some (.int _), some (.int _)]) (st' := [.int _, .int _, .ref _, .int _]) 3 rfl ?_
      refine od_rV (as := [.int (nI x), .int (nI k)]) rfl rfl rfl rfl (md_0) rfl (Nat.le_of_ble_eq_true rfl) (Nat.le_of_ble_eq_true rfl) (ct_token hb hx (by omega)) (Nat.le_of_ble_eq_true rfl) (fun o M1 hq => ?_)
      obtain ⟨rfl, rfl⟩ := hq
      refine od_K.ret ?_
      rw [t1, t2]
      by_cases hlt : us.headD 0 < vs.headD 0
      · rw [if_pos hlt]
        refine od_r2F rfl (of_decide_eq_true rfl) (decide_eq_false (nI_ge hlt (by omega))) ?_
        refine od_W.rn (pc' := 43) (ls' := [some (.ref _), some (.int _), some (.int _), some (.int _)]) (st' := [.int _]) 2 rfl ?_
        refine od_W.fin rfl ?_
        exact ⟨rfl, rfl⟩
      · rw [if_neg hlt]
        refine od_r2T rfl rfl (decide_eq_true (nI_le (by omega) (by omega))) ?_
        refine od_W.rn (pc' := 43) (ls' := [some (.ref _), some (.int _), some (.int _), some (.int _)]) (st' := [.int _]) 1 rfl ?_
        refine od_W.fin rfl ?_
        exact ⟨rfl, rfl⟩
    rcases us with _ | ⟨a, us⟩
    · rcases vs with _ | ⟨c, vs⟩
      · refine nil (m + 1) k hk (fun j hj => ?_)
        have n1 := h1.n
        have n2 := h2.n
        rw [List.append_nil] at n1 n2
        unfold rf_tk
        rw [if_neg (by omega), if_neg (by omega)]
        exact ⟨rfl, rfl⟩
      · rw [List.append_nil] at w1
        have := tm_W_hd (tm_tail w1 w2)
        subst this
        have := go (by simp) (by simp) (by simp)
        simpa [tm_cmp] using this
    · rcases vs with _ | ⟨c, vs⟩
      · rw [List.append_nil] at w2
        have := tm_W_hd (tm_tail w2 w1)
        subst this
        have := go (by simp) (by simp) (by simp)
        simpa [tm_cmp] using this
      · rw [tm_sm_cons] at s1 s2
        by_cases hac : a = c
        · subst hac
          have ec : tm_cmp (a :: us) (a :: vs) = tm_cmp us vs := by conv => lhs; unfold tm_cmp; rw [if_neg (Nat.lt_irrefl a), if_neg (Nat.lt_irrefl a)]
          rw [ec]
          refine od_W.rn (pc' := 5) (ls' := [some (.ref _), some (.int _), some (.int _), some (.int _)]) (st' := [.int _, .int _]) 2 rfl ?_
          refine od_r2F rfl (of_decide_eq_true rfl) (decide_eq_false (nI_ge (b := 60) (by omega) (by omega))) ?_
          refine od_W.rn (pc' := 11) (ls' := [some (.ref _), some (.int _), some (.int _), some (.int _)]) (st' := [.int _, .int _, .ref _]) 3 rfl ?_
          refine od_rV (as := [.int (nI r), .int (nI k)]) rfl rfl rfl rfl (md_0) rfl (Nat.le_of_ble_eq_true rfl) (Nat.le_of_ble_eq_true rfl) (ct_token hb hr (by omega)) (Nat.le_of_ble_eq_true rfl) (fun o M1 hq => ?_)
          obtain ⟨rfl, rfl⟩ := hq
          refine od_K.ret ?_
          refine od_W.rn (pc' := 17) (ls' := [some (.ref _), some (.int _), some (.int _), some (.int _)]) (st' := [.int _, .int _, .ref _, .int _]) 3 rfl ?_
          refine od_rV (as := [.int (nI x), .int (nI k)]) rfl rfl rfl rfl (md_0) rfl (Nat.le_of_ble_eq_true rfl) (Nat.le_of_ble_eq_true rfl) (ct_token hb hx (by omega)) (Nat.le_of_ble_eq_true rfl) (fun o M1 hq => ?_)
          obtain ⟨rfl, rfl⟩ := hq
          refine od_K.ret ?_
          refine od_r2T rfl rfl (decide_eq_true (t1.trans t2.symm)) ?_
          refine od_W.rn (pc' := 2) (ls' := [some (.ref _), some (.int _), some (.int _), some (.int _)]) (st' := []) 2 rfl ?_
          rw [nI_inc k]
          refine ih (k + 1) (p ++ [a]) us vs (by omega) (by simp [hp]) ?_ ?_ ?_ ?_ <;> (rw [List.append_assoc]; assumption)
        · have := go (by simpa using hac) (by simpa using s1.1) (by simpa using s2.1)
          rw [show tm_cmp (a :: us) (c :: vs) = if a < c then -1 else 1 by
            unfold tm_cmp
            by_cases z : a < c
            · rw [if_pos z, if_pos z]
            · rw [if_neg z, if_neg z, if_pos (by omega)]]
          exact this
theorem rt_order {r x : Nat} {us vs : List Nat} (hb : od_Bd ρ) (hr : r < 113) (hx : x < 113) (w1 : tm_W us) (w2 : tm_W vs) (h1 : od_hl ρ r us) (h2 : od_hl ρ x vs) : od_W 1 96 0 (od_ent 96 [.ref y, .int (nI r), .int (nI x)]) [] (md M y b fu ρ) (fun q M' => q = .inl (some (.int (tm_cmp us vs))) ∧ M' = md M y b fu ρ) := by
  have e0 : od_ent 96 [.ref y, .int (nI r), .int (nI x)] = [some (.ref y), some (.int (nI r)), some (.int (nI x)), none] := rfl
  rw [e0]
  refine od_W.rn (pc' := 2) (ls' := [some (.ref _), some (.int _), some (.int _), some (.int _)]) (st' := []) 2 rfl ?_
  exact cl_or_s hb hr hx 60 0 [] us vs (by omega) rfl w1 w2 h1 h2
end RR
