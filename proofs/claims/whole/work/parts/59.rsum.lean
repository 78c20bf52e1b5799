/-! The reference's sum. -/
section RS
variable {M : od_M} {y : Nat} {b : rf_B} {ρ0 : od_Rm}
theorem rf_gt {v : Int32} (h : v = -1 ∨ v = 0 ∨ v = 1) : (od_cond .le v 0 = true ∧ v ≠ 1) ∨ (v = 1 ∧ od_cond .le v 0 = false) := by
  rcases h with rfl | rfl | rfl
  · exact Or.inl ⟨rfl, by decide⟩
  · exact Or.inl ⟨rfl, by decide⟩
  · exact Or.inr ⟨rfl, rfl⟩
set_option maxRecDepth 100000 in
theorem gw_sum_end {p q r f k mo : Nat} {c : Int64} {w9 w10 : Option Value} {ρ : od_Rm} (hq' : q < 113) (hr : r < 113) (n65 : r ≠ 65) (hf : f ≤ 190) (hb : od_Bd ρ) (g : ∀ a, a ∉ [r, 64, 65] → ρ a = ρ0 a) : od_W 4 102 158 [some (.ref y), some (.int (nI p)), some (.int (nI q)), some (.int (nI r)), some (.int (nI f)), some (.long c), none, some (.int (nI k)), some (.int (nI mo)), w9, w10] [] (md M y b true ρ) (rf_t M y b ρ0 [r, 64, 65]) := by
  refine od_W.rn (pc' := 164) (ls' := [some (.ref _), some (.int _), some (.int _), some (.int _), some (.int _), some (.long _), none, some (.int _), some (.int _), _, _]) (st' := [.long _, .int _, .int _, .ref _]) 4 rfl ?_
  refine od_rV (as := [.int (nI r), .int (nI 65), .long c]) rfl rfl rfl rfl (md_0) rfl (Nat.le_of_ble_eq_true rfl) (Nat.le_of_ble_eq_true rfl) (gw_appendTerm hb hr (by omega) (Ne.symm n65)) (Nat.le_of_ble_eq_true rfl) (fun o M1 hq => ?_)
  obtain ⟨rfl, ρ1, rfl, f1, b1⟩ := hq
  refine od_K.ret ?_
  refine od_W.rn (pc' := 173) (ls' := [some (.ref _), some (.int _), some (.int _), some (.int _), some (.int _), some (.long _), none, some (.int _), some (.int _), _, _]) (st' := [.ref _, .int _, .int _, .int _, .ref _]) 5 rfl ?_
  refine od_rG rfl (md_0) rfl rfl ?_
  refine od_W.rn (pc' := 177) (ls' := [some (.ref _), some (.int _), some (.int _), some (.int _), some (.int _), some (.long _), none, some (.int _), some (.int _), _, _]) (st' := [.int _, .ref _, .int _, .int _, .int _, .ref _]) 1 rfl ?_
  refine od_rIL rfl (md_2) (rfl) (hq') (by decide) ?_
  rw [rf_row]
  have l1 := b1 q
  refine od_rV (as := [.int (nI r), .int (nI q), .int (nI f), .int (nI (ρ1 q).1)]) rfl rfl rfl rfl (md_0) rfl (Nat.le_of_ble_eq_true rfl) (Nat.le_of_ble_eq_true rfl) (gw_appendPart b1 hr hq' (by omega) (by omega)) (Nat.le_of_ble_eq_true rfl) (fun o M1 hq => ?_)
  obtain ⟨rfl, ρ2, rfl, f2, b2⟩ := hq
  refine od_K.ret ?_
  refine od_W.fin rfl ?_
  exact ⟨rfl, ρ2, rfl, fun a ha => (f2 a (od_nn ha (by simp))).trans ((f1 a (od_nn ha (by simp))).trans (g a ha)), b2⟩
set_option maxRecDepth 100000 in
theorem gw_sum_loop {p q r f : Nat} (hp : p < 113) (hq' : q < 113) (hr : r < 113) (np : p ∉ [r, 64, 65]) (n65 : r ≠ 65) (hf : f ≤ 190) : ∀ (m k mo : Nat) (c : Int64) (ρ : od_Rm) (w9 w10 : Option Value), 60 < k + m → k ≤ 190 → mo ≤ 1 → od_Bd ρ → (∀ a, a ∉ [r, 64, 65] → ρ a = ρ0 a) → od_W 4 102 55 [some (.ref y), some (.int (nI p)), some (.int (nI q)), some (.int (nI r)), some (.int (nI f)), some (.long c), none, some (.int (nI k)), some (.int (nI mo)), w9, w10] [] (md M y b true ρ) (rf_t M y b ρ0 [r, 64, 65]) := by
  intro m
  induction m with
  | zero =>
    intro k mo c ρ w9 w10 hm hk hmo hb g
    have hend := fun w9 w10 => gw_sum_end (M := M) (y := y) (b := b) (p := p) (k := k) (mo := mo) (c := c) (w9 := w9) (w10 := w10) hq' hr n65 hf hb g
    have l1 := hb p
    by_cases h0 : mo = 0
    · refine od_W.rn (pc' := 57) (ls' := [some (.ref _), some (.int _), some (.int _), some (.int _), some (.int _), some (.long _), none, some (.int _), some (.int _), _, _]) (st' := [.int _]) 1 rfl ?_
      refine od_r1T rfl rfl (decide_eq_true (by rw [h0]; rfl)) ?_
      exact hend _ _
    · refine od_W.rn (pc' := 57) (ls' := [some (.ref _), some (.int _), some (.int _), some (.int _), some (.int _), some (.long _), none, some (.int _), some (.int _), _, _]) (st' := [.int _]) 1 rfl ?_
      refine od_r1F rfl (of_decide_eq_true rfl) (decide_eq_false (nI_ne0 (by omega) (by omega))) ?_
      refine od_W.rn (pc' := 63) (ls' := [some (.ref _), some (.int _), some (.int _), some (.int _), some (.int _), some (.long _), none, some (.int _), some (.int _), _, _]) (st' := [.ref _, .int _]) 2 rfl ?_
      refine od_rG rfl (md_0) rfl rfl ?_
      refine od_W.rn (pc' := 67) (ls' := [some (.ref _), some (.int _), some (.int _), some (.int _), some (.int _), some (.long _), none, some (.int _), some (.int _), _, _]) (st' := [.int _, .ref _, .int _]) 1 rfl ?_
      refine od_rIL rfl (md_2) (rfl) (hp) (by decide) ?_
      rw [rf_row]
      refine od_r2T rfl rfl (decide_eq_true (nI_le (by omega) (by omega))) ?_
      exact hend _ _
  | succ m ih =>
    intro k mo c ρ w9 w10 hm hk hmo hb g
    have hend := fun w9 w10 => gw_sum_end (M := M) (y := y) (b := b) (p := p) (k := k) (mo := mo) (c := c) (w9 := w9) (w10 := w10) hq' hr n65 hf hb g
    have l1 := hb p
    by_cases h0 : mo = 0
    · refine od_W.rn (pc' := 57) (ls' := [some (.ref _), some (.int _), some (.int _), some (.int _), some (.int _), some (.long _), none, some (.int _), some (.int _), _, _]) (st' := [.int _]) 1 rfl ?_
      refine od_r1T rfl rfl (decide_eq_true (by rw [h0]; rfl)) ?_
      exact hend _ _
    · refine od_W.rn (pc' := 57) (ls' := [some (.ref _), some (.int _), some (.int _), some (.int _), some (.int _), some (.long _), none, some (.int _), some (.int _), _, _]) (st' := [.int _]) 1 rfl ?_
      refine od_r1F rfl (of_decide_eq_true rfl) (decide_eq_false (nI_ne0 (by omega) (by omega))) ?_
      refine od_W.rn (pc' := 63) (ls' := [some (.ref _), some (.int _), some (.int _), some (.int _), some (.int _), some (.long _), none, some (.int _), some (.int _), _, _]) (st' := [.ref _, .int _]) 2 rfl ?_
      refine od_rG rfl (md_0) rfl rfl ?_
      refine od_W.rn (pc' := 67) (ls' := [some (.ref _), some (.int _), some (.int _), some (.int _), some (.int _), some (.long _), none, some (.int _), some (.int _), _, _]) (st' := [.int _, .ref _, .int _]) 1 rfl ?_
      refine od_rIL rfl (md_2) (rfl) (hp) (by decide) ?_
      rw [rf_row]
      by_cases hkl : k < (ρ p).1
      · refine od_r2F rfl (of_decide_eq_true rfl) (decide_eq_false (nI_ge hkl (by omega))) ?_
        refine od_W.rn (pc' := 75) (ls' := [some (.ref _), some (.int _), some (.int _), some (.int _), some (.int _), some (.long _), none, some (.int _), some (.int _), _, _]) (st' := [.int _, .int _, .ref _]) 3 rfl ?_
        refine od_rV (as := [.int (nI p), .int (nI k)]) rfl rfl rfl rfl (md_0) rfl (Nat.le_of_ble_eq_true rfl) (Nat.le_of_ble_eq_true rfl) (gw_behind hb hp (by omega)) (Nat.le_of_ble_eq_true rfl) (fun o M1 hq => ?_)
        obtain ⟨⟨e, he1, he2, rfl⟩, rfl⟩ := hq
        refine od_K.ret ?_
        refine od_W.rn (pc' := 88) (ls' := [some (.ref _), some (.int _), some (.int _), some (.int _), some (.int _), some (.long _), none, some (.int _), some (.int _), some (.int _), _]) (st' := [.int _, .int _, .int _, .int _, .ref _]) 6 rfl ?_
        refine od_rV (as := [.int (nI p), .int (nI k), .int (nI e), .int (nI 64)]) rfl rfl rfl rfl (md_0) rfl (Nat.le_of_ble_eq_true rfl) (Nat.le_of_ble_eq_true rfl) (rc_exponent (fu := true) (u := []) (z := []) (t := ([], 0)) hb (by omega) hp (od_ne np (by simp)) (by omega) (by omega) he2 (fun z => absurd z (by decide))) (Nat.le_of_ble_eq_true rfl) (fun o M1 hq => ?_)
        replace hq := hq.t
        obtain ⟨rfl, ρ1, rfl, f1, b1⟩ := hq
        refine od_K.ret ?_
        refine od_W.rn (pc' := 96) (ls' := [some (.ref _), some (.int _), some (.int _), some (.int _), some (.int _), some (.long _), none, some (.int _), some (.int _), some (.int _), _]) (st' := [.int _, .int _, .ref _]) 3 rfl ?_
        refine od_rV (as := [.int (nI 64), .int (nI 65)]) rfl rfl rfl rfl (md_0) rfl (Nat.le_of_ble_eq_true rfl) (Nat.le_of_ble_eq_true rfl) (gw_order b1 (by omega) (by omega)) (Nat.le_of_ble_eq_true rfl) (fun o M1 hq => ?_)
        obtain ⟨⟨v, hv, rfl⟩, rfl⟩ := hq
        refine od_K.ret ?_
        refine od_W.rn (pc' := 103) (ls' := [some (.ref _), some (.int _), some (.int _), some (.int _), some (.int _), some (.long _), none, some (.int _), some (.int _), some (.int _), some (.int _)]) (st' := [.int _]) 2 rfl ?_
        have g1 : ∀ a, a ∉ [r, 64, 65] → ρ1 a = ρ0 a := fun a ha => (f1 a (od_nn ha (by simp))).trans (g a ha)
        have tail : ∀ ρ2 : od_Rm, od_Bd ρ2 → (∀ a, a ∉ [r, 64, 65] → ρ2 a = ρ0 a) → od_W 4 102 116 [some (.ref y), some (.int (nI p)), some (.int (nI q)), some (.int (nI r)), some (.int (nI f)), some (.long c), none, some (.int (nI k)), some (.int (nI mo)), some (.int (nI e)), some (.int v)] [] (md M y b true ρ2) (rf_t M y b ρ0 [r, 64, 65]) := by
          intro ρ2 b2 g2
          have last : ∀ c' : Int64, od_W 4 102 137 [some (.ref y), some (.int (nI p)), some (.int (nI q)), some (.int (nI r)), some (.int (nI f)), some (.long c), none, some (.int (nI k)), some (.int (nI mo)), some (.int (nI e)), some (.int v)] [.long c'] (md M y b true ρ2) (rf_t M y b ρ0 [r, 64, 65]) := by
            intro c'
            refine od_W.rn (pc' := 141) (ls' := [some (.ref _), some (.int _), some (.int _), some (.int _), some (.int _), some (.long _), none, some (.int _), some (.int _), some (.int _), some (.int _)]) (st' := [.int _]) 2 rfl ?_
            rcases rf_gt hv with ⟨z1, _⟩ | ⟨_, z1⟩
            · refine od_r1T rfl rfl (z1) ?_
              refine od_W.rn (pc' := 55) (ls' := [some (.ref _), some (.int _), some (.int _), some (.int _), some (.int _), some (.long _), none, some (.int _), some (.int _), some (.int _), some (.int _)]) (st' := []) 5 rfl ?_
              exact ih e 0 c' ρ2 _ _ (by omega) he2 (by omega) b2 g2
            · refine od_r1F rfl (of_decide_eq_true rfl) (z1) ?_
              refine od_W.rn (pc' := 55) (ls' := [some (.ref _), some (.int _), some (.int _), some (.int _), some (.int _), some (.long _), none, some (.int _), some (.int _), some (.int _), some (.int _)]) (st' := []) 6 rfl ?_
              exact ih e 1 c' ρ2 _ _ (by omega) he2 (by omega) b2 g2
          refine od_W.rn (pc' := 118) (ls' := [some (.ref _), some (.int _), some (.int _), some (.int _), some (.int _), some (.long _), none, some (.int _), some (.int _), some (.int _), some (.int _)]) (st' := [.int _]) 1 rfl ?_
          by_cases hv0 : v = 0
          · refine od_r1F rfl (of_decide_eq_true rfl) ((show (!decide (v = 0)) = false by rw [decide_eq_true hv0]; rfl)) ?_
            refine od_W.rn (pc' := 127) (ls' := [some (.ref _), some (.int _), some (.int _), some (.int _), some (.int _), some (.long _), none, some (.int _), some (.int _), some (.int _), some (.int _)]) (st' := [.int _, .int _, .ref _, .long _]) 4 rfl ?_
            refine od_rV (as := [.int (nI p), .int (nI e)]) rfl rfl rfl rfl (md_0) rfl (Nat.le_of_ble_eq_true rfl) (Nat.le_of_ble_eq_true rfl) (ct_coef (by omega) (by omega)) (Nat.le_of_ble_eq_true rfl) (fun o M1 hq => ?_)
            obtain ⟨rfl, rfl⟩ := hq
            refine od_K.ret ?_
            refine od_W.rn (pc' := 137) (ls' := [some (.ref _), some (.int _), some (.int _), some (.int _), some (.int _), some (.long _), none, some (.int _), some (.int _), some (.int _), some (.int _)]) (st' := [.long _]) 3 rfl ?_
            exact last _
          · refine od_r1T rfl rfl ((show (!decide (v = 0)) = true by rw [decide_eq_false hv0]; rfl)) ?_
            refine od_W.rn (pc' := 137) (ls' := [some (.ref _), some (.int _), some (.int _), some (.int _), some (.int _), some (.long _), none, some (.int _), some (.int _), some (.int _), some (.int _)]) (st' := [.long _]) 1 rfl ?_
            exact last _
        rcases rf_gt hv with ⟨z1, _⟩ | ⟨_, z1⟩
        · refine od_r1T rfl rfl (z1) ?_
          exact tail ρ1 b1 g1
        · refine od_r1F rfl (of_decide_eq_true rfl) (z1) ?_
          refine od_W.rn (pc' := 113) (ls' := [some (.ref _), some (.int _), some (.int _), some (.int _), some (.int _), some (.long _), none, some (.int _), some (.int _), some (.int _), some (.int _)]) (st' := [.int _, .int _, .int _, .int _, .ref _]) 5 rfl ?_
          refine od_rV (as := [.int (nI r), .int (nI p), .int (nI k), .int (nI e)]) rfl rfl rfl rfl (md_0) rfl (Nat.le_of_ble_eq_true rfl) (Nat.le_of_ble_eq_true rfl) (gw_appendPart b1 hr hp (by omega) (by omega)) (Nat.le_of_ble_eq_true rfl) (fun o M1 hq => ?_)
          obtain ⟨rfl, ρ2, rfl, f2, b2⟩ := hq
          refine od_K.ret ?_
          exact tail ρ2 b2 (fun a ha => (f2 a (od_nn ha (by simp))).trans (g1 a ha))
      · refine od_r2T rfl rfl (decide_eq_true (nI_le (by omega) (by omega))) ?_
        exact hend _ _
set_option maxRecDepth 100000 in
theorem gw_sum {p q r : Nat} {ρ : od_Rm} (hp : p < 113) (hq' : q < 113) (hr : r < 113) (np : p ∉ [r, 64, 65]) (nq : q ∉ [r, 64, 65]) (nr : r ∉ [64, 65]) (hb : od_Bd ρ) : od_W 4 102 0 (od_ent 102 [.ref y, .int (nI p), .int (nI q), .int (nI r)]) [] (md M y b true ρ) (rf_t M y b ρ [r, 64, 65]) := by
  have e0 : od_ent 102 [.ref y, .int (nI p), .int (nI q), .int (nI r)] = [some (.ref y), some (.int (nI p)), some (.int (nI q)), some (.int (nI r)), none, none, none, none, none, none, none] := rfl
  rw [e0]
  refine od_W.rn (pc' := 2) (ls' := [some (.ref _), some (.int _), some (.int _), some (.int _), none, none, none, none, none, none, none]) (st' := [.int _, .ref _]) 2 rfl ?_
  refine od_rV (as := [.int (nI r)]) rfl rfl rfl rfl (md_0) rfl (Nat.le_of_ble_eq_true rfl) (Nat.le_of_ble_eq_true rfl) (rt_clear hb hr) (Nat.le_of_ble_eq_true rfl) (fun o M1 hq => ?_)
  replace hq := hq.t
  obtain ⟨rfl, ρ1, rfl, f1, b1⟩ := hq
  refine od_K.ret ?_
  refine od_W.rn (pc' := 6) (ls' := [some (.ref _), some (.int _), some (.int _), some (.int _), none, none, none, none, none, none, none]) (st' := [.ref _]) 1 rfl ?_
  refine od_rG rfl (md_0) rfl rfl ?_
  refine od_W.rn (pc' := 10) (ls' := [some (.ref _), some (.int _), some (.int _), some (.int _), none, none, none, none, none, none, none]) (st' := [.int _, .ref _]) 1 rfl ?_
  refine od_rIL rfl (md_2) (rfl) (hq') (by decide) ?_
  rw [rf_row]
  have l1 := b1 q
  by_cases h0 : (ρ1 q).1 = 0
  · refine od_r1F rfl (of_decide_eq_true rfl) ((show (!decide (nI (ρ1 q).1 = 0)) = false by rw [h0]; rfl)) ?_
    refine od_W.rn (pc' := 17) (ls' := [some (.ref _), some (.int _), some (.int _), some (.int _), none, none, none, none, none, none, none]) (st' := [.int _, .int _, .ref _]) 3 rfl ?_
    refine od_rV (as := [.int (nI p), .int (nI r)]) rfl rfl rfl rfl (md_0) rfl (Nat.le_of_ble_eq_true rfl) (Nat.le_of_ble_eq_true rfl) (rc_copy (ys := []) b1 hr hp (od_ne np (by simp)) (fun z => absurd z (by decide))) (Nat.le_of_ble_eq_true rfl) (fun o M1 hq => ?_)
    replace hq := hq.t
    obtain ⟨rfl, ρ2, rfl, f2, b2⟩ := hq
    refine od_K.ret ?_
    refine od_W.fin rfl ?_
    exact ⟨rfl, ρ2, rfl, fun a ha => (f2 a (od_nn ha (by simp))).trans (f1 a (od_nn ha (by simp))), b2⟩
  · refine od_r1T rfl rfl ((show (!decide (nI (ρ1 q).1 = 0)) = true by rw [decide_eq_false (nI_ne0 (by omega) (by omega))]; rfl)) ?_
    refine od_W.rn (pc' := 24) (ls' := [some (.ref _), some (.int _), some (.int _), some (.int _), none, none, none, none, none, none, none]) (st' := [.int _, .int _, .ref _]) 3 rfl ?_
    refine od_rV (as := [.int (nI q), .int (nI 0)]) rfl rfl rfl rfl (md_0) rfl (Nat.le_of_ble_eq_true rfl) (Nat.le_of_ble_eq_true rfl) (gw_behind b1 hq' (by omega)) (Nat.le_of_ble_eq_true rfl) (fun o M1 hq => ?_)
    obtain ⟨⟨e, he1, he2, rfl⟩, rfl⟩ := hq
    refine od_K.ret ?_
    refine od_W.rn (pc' := 36) (ls' := [some (.ref _), some (.int _), some (.int _), some (.int _), some (.int _), none, none, none, none, none, none]) (st' := [.int _, .int _, .int _, .int _, .ref _]) 6 rfl ?_
    refine od_rV (as := [.int (nI q), .int (nI 0), .int (nI e), .int (nI 65)]) rfl rfl rfl rfl (md_0) rfl (Nat.le_of_ble_eq_true rfl) (Nat.le_of_ble_eq_true rfl) (rc_exponent (fu := true) (u := []) (z := []) (t := ([], 0)) b1 (by omega) hq' (od_ne nq (by simp)) (by omega) (by omega) he2 (fun z => absurd z (by decide))) (Nat.le_of_ble_eq_true rfl) (fun o M1 hq => ?_)
    replace hq := hq.t
    obtain ⟨rfl, ρ2, rfl, f2, b2⟩ := hq
    refine od_K.ret ?_
    refine od_W.rn (pc' := 43) (ls' := [some (.ref _), some (.int _), some (.int _), some (.int _), some (.int _), none, none, none, none, none, none]) (st' := [.int _, .int _, .ref _]) 3 rfl ?_
    refine od_rV (as := [.int (nI q), .int (nI e)]) rfl rfl rfl rfl (md_0) rfl (Nat.le_of_ble_eq_true rfl) (Nat.le_of_ble_eq_true rfl) (ct_coef (by omega) (by omega)) (Nat.le_of_ble_eq_true rfl) (fun o M1 hq => ?_)
    obtain ⟨rfl, rfl⟩ := hq
    refine od_K.ret ?_
    refine od_W.rn (pc' := 55) (ls' := [some (.ref _), some (.int _), some (.int _), some (.int _), some (.int _), some (.long _), none, some (.int _), some (.int _), none, none]) (st' := []) 6 rfl ?_
    exact gw_sum_loop hp hq' hr np (od_ne nr (by simp)) he2 61 0 1 _ ρ2 none none (by omega) (by omega) (by omega) b2 (fun a ha => (f2 a (od_nn ha (by simp))).trans (f1 a (od_nn ha (by simp))))
set_option maxRecDepth 100000 in
theorem rt_sum_end {p q r k mo : Nat} {fu : Bool} {w9 w10 : Option Value} {ρ : od_Rm} {u : tm_T} {us : List tm_T} {c : Nat} {zs : List Nat} (hq' : q < 113) (hr : r < 113) (n65 : r ≠ 65) (nq : q ≠ r) (hb : od_Bd ρ) (g : ∀ a, a ∉ [r, 64, 65] → ρ a = ρ0 a) (hy : od_hl ρ q (tm_t u ++ tm_fl us)) (hc : c < 2 ^ 63) (hx : fu = false → od_hl ρ r zs ∧ od_hl ρ 65 u.1) {ok0 : Prop} {P0 : od_Rm → Prop} {fu0 : Bool} (hok : fu = false ∧ tm_ft ((zs ++ tm_t (u.1, c)) ++ tm_fl us) ↔ fu0 = false ∧ ok0) (hP : ∀ ρ', od_hl ρ' r ((zs ++ tm_t (u.1, c)) ++ tm_fl us) → P0 ρ') : od_W 4 102 158 [some (.ref y), some (.int (nI p)), some (.int (nI q)), some (.int (nI r)), some (.int (nI (tm_t u).length)), some (.long (lN c)), none, some (.int (nI k)), some (.int (nI mo)), w9, w10] [] (md M y b fu ρ) (rf_s M y b fu0 ρ0 [r, 64, 65] ok0 P0) := by
  refine od_W.rn (pc' := 164) (ls' := [some (.ref _), some (.int _), some (.int _), some (.int _), some (.int _), some (.long _), none, some (.int _), some (.int _), _, _]) (st' := [.long _, .int _, .int _, .ref _]) 4 rfl ?_
  refine od_rV (as := [.int (nI r), .int (nI 65), .long (lN c)]) rfl rfl rfl rfl (md_0) rfl (Nat.le_of_ble_eq_true rfl) (Nat.le_of_ble_eq_true rfl) (rc_appendTerm hb hr (by omega) (Ne.symm n65) (fun z => ⟨(hx z).2, rfl, hc⟩) (fun z => (hx z).1)) (Nat.le_of_ble_eq_true rfl) (fun o M1 hq => ?_)
  obtain ⟨rfl, fu1, ρ1, rfl, f1, b1, k1, p1⟩ := hq
  refine od_K.ret ?_
  have hy1 := hy.fr (f1 q (od_n1 nq))
  refine od_W.rn (pc' := 173) (ls' := [some (.ref _), some (.int _), some (.int _), some (.int _), some (.int _), some (.long _), none, some (.int _), some (.int _), _, _]) (st' := [.ref _, .int _, .int _, .int _, .ref _]) 5 rfl ?_
  refine od_rG rfl (md_0) rfl rfl ?_
  refine od_W.rn (pc' := 177) (ls' := [some (.ref _), some (.int _), some (.int _), some (.int _), some (.int _), some (.long _), none, some (.int _), some (.int _), _, _]) (st' := [.int _, .ref _, .int _, .int _, .int _, .ref _]) 1 rfl ?_
  refine od_rIL rfl (md_2) (rfl) (hq') (by decide) ?_
  rw [rf_row, hy1.n]
  refine od_rV (as := [.int (nI r), .int (nI q), .int (nI (tm_t u).length), .int (nI (tm_t u ++ tm_fl us).length)]) rfl rfl rfl rfl (md_0) rfl (Nat.le_of_ble_eq_true rfl) (Nat.le_of_ble_eq_true rfl) (rt_appendPart (z := []) b1 hr hq' nq (by rw [List.append_nil]; exact hy1) rfl (by rw [List.length_append]) p1) (Nat.le_of_ble_eq_true rfl) (fun o M1 hq => ?_)
  obtain ⟨rfl, fu2, ρ2, rfl, f2, b2, k2, p2⟩ := hq
  refine od_K.ret ?_
  refine od_W.fin rfl ?_
  refine ⟨rfl, fu2, ρ2, rfl, fun a ha => (f2 a (od_nn ha (by simp))).trans ((f1 a (od_nn ha (by simp))).trans (g a ha)), b2, ?_, fun z => hP ρ2 (p2 z)⟩
  rw [k2, k1, ← hok]
  exact ⟨fun z => ⟨z.1.1, z.2⟩, fun z => ⟨⟨z.1, tm_ft_l z.2⟩, z.2⟩⟩
set_option maxRecDepth 100000 in
theorem rt_sum_loop {p q r : Nat} (hp : p < 113) (hq' : q < 113) (hr : r < 113) (np : p ∉ [r, 64, 65]) (nq : q ∉ [r, 64, 65]) (nr : r ∉ [64, 65]) {u : tm_T} {us : List tm_T} (hu : tm_al (u :: us)) {fu0 : Bool} {ok0 : Prop} {P0 : od_Rm → Prop} : ∀ (todo done : List tm_T) (fu : Bool) (ρ : od_Rm) (zs : List Nat) (w9 w10 : Option Value), tm_al todo → od_Bd ρ → (∀ a, a ∉ [r, 64, 65] → ρ a = ρ0 a) → od_hl ρ p (tm_fl done ++ tm_fl todo) → od_hl ρ q (tm_t u ++ tm_fl us) → (fu = false → od_hl ρ r zs ∧ od_hl ρ 65 u.1) → (fu = false ∧ tm_ft ((zs ++ tm_fl (sp_kp u todo).1) ++ tm_t (u.1, (sp_kp u todo).2) ++ tm_fl us) ↔ fu0 = false ∧ ok0) → (∀ ρ', od_hl ρ' r ((zs ++ tm_fl (sp_kp u todo).1) ++ tm_t (u.1, (sp_kp u todo).2) ++ tm_fl us) → P0 ρ') → (tm_fl done).length ≤ 60 → od_W 4 102 55 [some (.ref y), some (.int (nI p)), some (.int (nI q)), some (.int (nI r)), some (.int (nI (tm_t u).length)), some (.long (lN u.2)), none, some (.int (nI (tm_fl done).length)), some (.int (nI 1)), w9, w10] [] (md M y b fu ρ) (rf_s M y b fu0 ρ0 [r, 64, 65] ok0 P0) := by
  intro todo
  induction todo with
  | nil =>
    intro done fu ρ zs w9 w10 hal hb g hx hy hz hok hP hd
    have hl := hx.n
    have l1 := hb p
    have huc := hu.1.2.2
    rw [tm_fl, List.append_nil] at hl
    rw [show sp_kp u [] = ([], u.2) from rfl, show tm_fl ([], u.2).1 = [] from rfl, List.append_nil] at hok hP
    refine od_W.rn (pc' := 57) (ls' := [some (.ref _), some (.int _), some (.int _), some (.int _), some (.int _), some (.long _), none, some (.int _), some (.int _), _, _]) (st' := [.int _]) 1 rfl ?_
    refine od_r1F rfl (of_decide_eq_true rfl) (rfl) ?_
    refine od_W.rn (pc' := 63) (ls' := [some (.ref _), some (.int _), some (.int _), some (.int _), some (.int _), some (.long _), none, some (.int _), some (.int _), _, _]) (st' := [.ref _, .int _]) 2 rfl ?_
    refine od_rG rfl (md_0) rfl rfl ?_
    refine od_W.rn (pc' := 67) (ls' := [some (.ref _), some (.int _), some (.int _), some (.int _), some (.int _), some (.long _), none, some (.int _), some (.int _), _, _]) (st' := [.int _, .ref _, .int _]) 1 rfl ?_
    refine od_rIL rfl (md_2) (rfl) (hp) (by decide) ?_
    rw [rf_row, hl]
    refine od_r2T rfl rfl (decide_eq_true (nI_le (Nat.le_refl _) (by omega))) ?_
    exact rt_sum_end hq' hr (od_ne nr (by simp)) (od_ne nq (by simp)) hb g hy (by omega) hz hok hP
  | cons t todo ih =>
    intro done fu ρ zs w9 w10 hal hb g hx hy hz hok hP hd
    cases fu with
    | true =>
      have h60 := hy.le hb
      rw [List.length_append] at h60
      have := gw_sum_loop (M := M) (y := y) (b := b) (ρ0 := ρ0) (f := (tm_t u).length) hp hq' hr np (od_ne nr (by simp)) (by omega) 61 (tm_fl done).length 1 (lN u.2) ρ w9 w10 (by omega) (by omega) (by omega) hb g
      refine this.mono fun o M' h => ?_
      obtain ⟨q1, ρ', q2, q3, q4⟩ := h
      refine ⟨q1, true, ρ', q2, q3, q4, ?_, fun z => absurd z (by decide)⟩
      rw [← hok]
      exact ⟨fun z => absurd z (by decide), fun z => absurd z.1 (by decide)⟩
    | false =>
      have hl := hx.n
      have l1 := hb p
      have huc := hu.1.2
      have htc := hal.1.2
      unfold tm_c at huc htc
      have hx2 : od_hl ρ p (tm_fl done ++ (tm_t t ++ tm_fl todo)) := hx
      have e : (tm_fl done).length + (tm_t t).length = (tm_fl (done ++ [t])).length := by rw [tm_fl_snoc, List.length_append]
      rw [tm_fl, List.length_append, List.length_append, tm_t_len] at hl
      refine od_W.rn (pc' := 57) (ls' := [some (.ref _), some (.int _), some (.int _), some (.int _), some (.int _), some (.long _), none, some (.int _), some (.int _), _, _]) (st' := [.int _]) 1 rfl ?_
      refine od_r1F rfl (of_decide_eq_true rfl) (rfl) ?_
      refine od_W.rn (pc' := 63) (ls' := [some (.ref _), some (.int _), some (.int _), some (.int _), some (.int _), some (.long _), none, some (.int _), some (.int _), _, _]) (st' := [.ref _, .int _]) 2 rfl ?_
      refine od_rG rfl (md_0) rfl rfl ?_
      refine od_W.rn (pc' := 67) (ls' := [some (.ref _), some (.int _), some (.int _), some (.int _), some (.int _), some (.long _), none, some (.int _), some (.int _), _, _]) (st' := [.int _, .ref _, .int _]) 1 rfl ?_
      refine od_rIL rfl (md_2) (rfl) (hp) (by decide) ?_
      rw [rf_row]
      refine od_r2F rfl (of_decide_eq_true rfl) (decide_eq_false (nI_ge (by omega) (by omega))) ?_
      refine od_W.rn (pc' := 75) (ls' := [some (.ref _), some (.int _), some (.int _), some (.int _), some (.int _), some (.long _), none, some (.int _), some (.int _), _, _]) (st' := [.int _, .int _, .ref _]) 3 rfl ?_
      refine od_rV (as := [.int (nI p), .int (nI (tm_fl done).length)]) rfl rfl rfl rfl (md_0) rfl (Nat.le_of_ble_eq_true rfl) (Nat.le_of_ble_eq_true rfl) (rt_behind hb hp hal.1 hx2 rfl) (Nat.le_of_ble_eq_true rfl) (fun o M1 hq => ?_)
      obtain ⟨rfl, rfl⟩ := hq
      refine od_K.ret ?_
      refine od_W.rn (pc' := 88) (ls' := [some (.ref _), some (.int _), some (.int _), some (.int _), some (.int _), some (.long _), none, some (.int _), some (.int _), some (.int _), _]) (st' := [.int _, .int _, .int _, .int _, .ref _]) 6 rfl ?_
      refine od_rV (as := [.int (nI p), .int (nI (tm_fl done).length), .int (nI ((tm_fl done).length + (tm_t t).length)), .int (nI 64)]) rfl rfl rfl rfl (md_0) rfl (Nat.le_of_ble_eq_true rfl) (Nat.le_of_ble_eq_true rfl) (rc_exponent hb (by omega) hp (od_ne np (by simp)) (by omega) (by rw [tm_t_len]; omega) (by rw [tm_t_len]; omega) (fun _ => ⟨hx2, rfl, rfl⟩)) (Nat.le_of_ble_eq_true rfl) (fun o M1 hq => ?_)
      obtain ⟨rfl, fu1, ρ1, rfl, f1, b1, k1, p1⟩ := hq
      refine od_K.ret ?_
      have hf1 : fu1 = false := k1.mpr ⟨rfl, trivial⟩
      subst hf1
      have g1 : ∀ a, a ∉ [r, 64, 65] → ρ1 a = ρ0 a := fun a ha => (f1 a (od_nn ha (by simp))).trans (g a ha)
      have hx3 := hx2.fr (f1 p (od_n1 (od_ne np (by simp))))
      have hy3 := hy.fr (f1 q (od_n1 (od_ne nq (by simp))))
      have hz3 := (hz rfl).1.fr (f1 r (od_n1 (od_ne nr (by simp))))
      have h65 := (hz rfl).2.fr (f1 65 (by simp))
      refine od_W.rn (pc' := 96) (ls' := [some (.ref _), some (.int _), some (.int _), some (.int _), some (.int _), some (.long _), none, some (.int _), some (.int _), some (.int _), _]) (st' := [.int _, .int _, .ref _]) 3 rfl ?_
      refine od_rV (as := [.int (nI 64), .int (nI 65)]) rfl rfl rfl rfl (md_0) rfl (Nat.le_of_ble_eq_true rfl) (Nat.le_of_ble_eq_true rfl) (rt_order b1 (by omega) (by omega) hal.1.1 hu.1.1 (p1 rfl) h65) (Nat.le_of_ble_eq_true rfl) (fun o M1 hq => ?_)
      obtain ⟨rfl, rfl⟩ := hq
      refine od_K.ret ?_
      refine od_W.rn (pc' := 103) (ls' := [some (.ref _), some (.int _), some (.int _), some (.int _), some (.int _), some (.long _), none, some (.int _), some (.int _), some (.int _), some (.int _)]) (st' := [.int _]) 2 rfl ?_
      rw [e]
      rcases tm_cmp_is t.1 u.1 with hc | hc | hc
      · rw [show sp_kp u (t :: todo) = ([], u.2) by conv => lhs; unfold sp_kp; rw [if_neg (by rw [hc]; decide), if_neg (by rw [hc]; decide)], show tm_fl ([], u.2).1 = [] from rfl, List.append_nil] at hok hP
        rw [hc]
        refine od_r1T rfl rfl (rfl) ?_
        refine od_W.rn (pc' := 118) (ls' := [some (.ref _), some (.int _), some (.int _), some (.int _), some (.int _), some (.long _), none, some (.int _), some (.int _), some (.int _), some (.int _)]) (st' := [.int _]) 1 rfl ?_
        refine od_r1T rfl rfl (rfl) ?_
        refine od_W.rn (pc' := 141) (ls' := [some (.ref _), some (.int _), some (.int _), some (.int _), some (.int _), some (.long _), none, some (.int _), some (.int _), some (.int _), some (.int _)]) (st' := [.int _]) 3 rfl ?_
        refine od_r1T rfl rfl (rfl) ?_
        refine od_W.rn (pc' := 55) (ls' := [some (.ref _), some (.int _), some (.int _), some (.int _), some (.int _), some (.long _), none, some (.int _), some (.int _), some (.int _), some (.int _)]) (st' := []) 5 rfl ?_
        refine od_W.rn (pc' := 57) (ls' := [some (.ref _), some (.int _), some (.int _), some (.int _), some (.int _), some (.long _), none, some (.int _), some (.int _), some (.int _), some (.int _)]) (st' := [.int _]) 1 rfl ?_
        refine od_r1T rfl rfl (rfl) ?_
        exact rt_sum_end (mo := 0) hq' hr (od_ne nr (by simp)) (od_ne nq (by simp)) b1 g1 hy3 (by omega) (fun _ => ⟨hz3, h65⟩) hok hP
      · rw [show sp_kp u (t :: todo) = ([], u.2 + t.2) by conv => lhs; unfold sp_kp; rw [if_neg (by rw [hc]; decide), if_pos hc], show tm_fl ([], u.2 + t.2).1 = [] from rfl, List.append_nil] at hok hP
        rw [hc]
        refine od_r1T rfl rfl (rfl) ?_
        refine od_W.rn (pc' := 118) (ls' := [some (.ref _), some (.int _), some (.int _), some (.int _), some (.int _), some (.long _), none, some (.int _), some (.int _), some (.int _), some (.int _)]) (st' := [.int _]) 1 rfl ?_
        refine od_r1F rfl (of_decide_eq_true rfl) (rfl) ?_
        refine od_W.rn (pc' := 127) (ls' := [some (.ref _), some (.int _), some (.int _), some (.int _), some (.int _), some (.long _), none, some (.int _), some (.int _), some (.int _), some (.int _)]) (st' := [.int _, .int _, .ref _, .long _]) 4 rfl ?_
        refine od_rV (as := [.int (nI p), .int (nI (tm_fl (done ++ [t])).length)]) rfl rfl rfl rfl (md_0) rfl (Nat.le_of_ble_eq_true rfl) (Nat.le_of_ble_eq_true rfl) (rt_coef hp b1 hx3 e.symm) (Nat.le_of_ble_eq_true rfl) (fun o M1 hq => ?_)
        obtain ⟨rfl, rfl⟩ := hq
        refine od_K.ret ?_
        refine od_W.rn (pc' := 141) (ls' := [some (.ref _), some (.int _), some (.int _), some (.int _), some (.int _), some (.long _), none, some (.int _), some (.int _), some (.int _), some (.int _)]) (st' := [.int _]) 5 rfl ?_
        rw [nI_1000 htc.2, lN_add]
        refine od_r1T rfl rfl (rfl) ?_
        refine od_W.rn (pc' := 55) (ls' := [some (.ref _), some (.int _), some (.int _), some (.int _), some (.int _), some (.long _), none, some (.int _), some (.int _), some (.int _), some (.int _)]) (st' := []) 5 rfl ?_
        refine od_W.rn (pc' := 57) (ls' := [some (.ref _), some (.int _), some (.int _), some (.int _), some (.int _), some (.long _), none, some (.int _), some (.int _), some (.int _), some (.int _)]) (st' := [.int _]) 1 rfl ?_
        refine od_r1T rfl rfl (rfl) ?_
        exact rt_sum_end (mo := 0) hq' hr (od_ne nr (by simp)) (od_ne nq (by simp)) b1 g1 hy3 (by omega) (fun _ => ⟨hz3, h65⟩) hok hP
      · rw [show sp_kp u (t :: todo) = (t :: (sp_kp u todo).1, (sp_kp u todo).2) by conv => lhs; unfold sp_kp; rw [if_pos hc]] at hok hP
        rw [hc]
        refine od_r1F rfl (of_decide_eq_true rfl) (rfl) ?_
        refine od_W.rn (pc' := 113) (ls' := [some (.ref _), some (.int _), some (.int _), some (.int _), some (.int _), some (.long _), none, some (.int _), some (.int _), some (.int _), some (.int _)]) (st' := [.int _, .int _, .int _, .int _, .ref _]) 5 rfl ?_
        refine od_rV (as := [.int (nI r), .int (nI p), .int (nI (tm_fl done).length), .int (nI (tm_fl (done ++ [t])).length)]) rfl rfl rfl rfl (md_0) rfl (Nat.le_of_ble_eq_true rfl) (Nat.le_of_ble_eq_true rfl) (rt_appendPart b1 hr hp (od_ne np (by simp)) hx3 rfl e.symm (fun _ => hz3)) (Nat.le_of_ble_eq_true rfl) (fun o M1 hq => ?_)
        obtain ⟨rfl, fu2, ρ2, rfl, f2, b2, k2, p2⟩ := hq
        refine od_K.ret ?_
        have g2 : ∀ a, a ∉ [r, 64, 65] → ρ2 a = ρ0 a := fun a ha => (f2 a (od_nn ha (by simp))).trans (g1 a ha)
        have hx4 := hx3.fr (f2 p (od_n1 (od_ne np (by simp))))
        have hy4 := hy3.fr (f2 q (od_n1 (od_ne nq (by simp))))
        have h65' := h65.fr (f2 65 (od_n1 (Ne.symm (od_ne nr (by simp)))))
        refine od_W.rn (pc' := 118) (ls' := [some (.ref _), some (.int _), some (.int _), some (.int _), some (.int _), some (.long _), none, some (.int _), some (.int _), some (.int _), some (.int _)]) (st' := [.int _]) 1 rfl ?_
        refine od_r1T rfl rfl (rfl) ?_
        refine od_W.rn (pc' := 141) (ls' := [some (.ref _), some (.int _), some (.int _), some (.int _), some (.int _), some (.long _), none, some (.int _), some (.int _), some (.int _), some (.int _)]) (st' := [.int _]) 3 rfl ?_
        refine od_r1F rfl (of_decide_eq_true rfl) (rfl) ?_
        refine od_W.rn (pc' := 55) (ls' := [some (.ref _), some (.int _), some (.int _), some (.int _), some (.int _), some (.long _), none, some (.int _), some (.int _), some (.int _), some (.int _)]) (st' := []) 6 rfl ?_
        refine ih (done ++ [t]) fu2 ρ2 (zs ++ tm_t t) _ _ hal.2 b2 g2 (by rw [tm_fl_snoc, List.append_assoc]; exact hx4) hy4 (fun z => ⟨p2 z, h65'⟩) ?_ ?_ (by rw [← e, tm_t_len]; omega)
        · rw [← hok, k2]
          dsimp only
          rw [show tm_fl (t :: (sp_kp u todo).1) = tm_t t ++ tm_fl (sp_kp u todo).1 from rfl, ← List.append_assoc zs]
          exact ⟨fun z => ⟨rfl, z.2⟩, fun z => ⟨⟨rfl, tm_ft_l (tm_ft_l (tm_ft_l z.2))⟩, z.2⟩⟩
        · intro ρ' h
          refine hP ρ' ?_
          dsimp only
          rw [show tm_fl (t :: (sp_kp u todo).1) = tm_t t ++ tm_fl (sp_kp u todo).1 from rfl, ← List.append_assoc zs]
          exact h
set_option maxRecDepth 100000 in
theorem rc_sum {p q r : Nat} {fu : Bool} {ρ : od_Rm} {ts us : List tm_T} (hp : p < 113) (hq' : q < 113) (hr : r < 113) (np : p ∉ [r, 64, 65]) (nq : q ∉ [r, 64, 65]) (nr : r ∉ [64, 65]) (hb : od_Bd ρ) (hx : fu = false → (od_hl ρ p (tm_fl ts) ∧ tm_al ts) ∧ od_hl ρ q (tm_fl us) ∧ tm_al us) : od_W 4 102 0 (od_ent 102 [.ref y, .int (nI p), .int (nI q), .int (nI r)]) [] (md M y b fu ρ) (rf_s M y b fu ρ [r, 64, 65] (tm_ft (tm_fl (sp_sum ts us))) (fun ρ' => od_hl ρ' r (tm_fl (sp_sum ts us)))) := by
  cases fu with
  | true => exact (gw_sum hp hq' hr np nq nr hb).mono fun _ _ h => h.s
  | false =>
    obtain ⟨⟨hxp, h1⟩, hy, h2⟩ := hx rfl
    have e0 : od_ent 102 [.ref y, .int (nI p), .int (nI q), .int (nI r)] = [some (.ref y), some (.int (nI p)), some (.int (nI q)), some (.int (nI r)), none, none, none, none, none, none, none] := rfl
    rw [e0]
    refine od_W.rn (pc' := 2) (ls' := [some (.ref _), some (.int _), some (.int _), some (.int _), none, none, none, none, none, none, none]) (st' := [.int _, .ref _]) 2 rfl ?_
    refine od_rV (as := [.int (nI r)]) rfl rfl rfl rfl (md_0) rfl (Nat.le_of_ble_eq_true rfl) (Nat.le_of_ble_eq_true rfl) (rt_clear hb hr) (Nat.le_of_ble_eq_true rfl) (fun o M1 hq => ?_)
    obtain ⟨rfl, fu1, ρ1, rfl, f1, b1, k1, p1⟩ := hq
    refine od_K.ret ?_
    have hf1 : fu1 = false := k1.mpr ⟨rfl, trivial⟩
    subst hf1
    have hx1 := hxp.fr (f1 p (od_n1 (od_ne np (by simp))))
    have hy1 := hy.fr (f1 q (od_n1 (od_ne nq (by simp))))
    refine od_W.rn (pc' := 6) (ls' := [some (.ref _), some (.int _), some (.int _), some (.int _), none, none, none, none, none, none, none]) (st' := [.ref _]) 1 rfl ?_
    refine od_rG rfl (md_0) rfl rfl ?_
    refine od_W.rn (pc' := 10) (ls' := [some (.ref _), some (.int _), some (.int _), some (.int _), none, none, none, none, none, none, none]) (st' := [.int _, .ref _]) 1 rfl ?_
    refine od_rIL rfl (md_2) (rfl) (hq') (by decide) ?_
    rw [rf_row, hy1.n]
    cases us with
    | nil =>
      refine od_r1F rfl (of_decide_eq_true rfl) (rfl) ?_
      refine od_W.rn (pc' := 17) (ls' := [some (.ref _), some (.int _), some (.int _), some (.int _), none, none, none, none, none, none, none]) (st' := [.int _, .int _, .ref _]) 3 rfl ?_
      refine od_rV (as := [.int (nI p), .int (nI r)]) rfl rfl rfl rfl (md_0) rfl (Nat.le_of_ble_eq_true rfl) (Nat.le_of_ble_eq_true rfl) (rc_copy b1 hr hp (od_ne np (by simp)) (fun _ => hx1)) (Nat.le_of_ble_eq_true rfl) (fun o M1 hq => ?_)
      obtain ⟨rfl, fu2, ρ2, rfl, f2, b2, k2, p2⟩ := hq
      refine od_K.ret ?_
      refine od_W.fin rfl ?_
      refine ⟨rfl, fu2, ρ2, rfl, fun a ha => (f2 a (od_nn ha (by simp))).trans (f1 a (od_nn ha (by simp))), b2, ?_, p2⟩
      rw [k2]
      exact ⟨fun z => ⟨z.1, hxp.le hb, hxp.2⟩, fun z => ⟨z.1, trivial⟩⟩
    | cons u us =>
      have h60 := hy.le hb
      rw [tm_fl, List.length_append, tm_t_len] at h60
      have hy2 : od_hl ρ1 q ([] ++ (tm_t u ++ tm_fl us)) := hy1
      refine od_r1T rfl rfl ((show (!decide (nI (tm_fl (u :: us)).length = 0)) = true by rw [tm_fl, List.length_append, tm_t_len, decide_eq_false (nI_ne0 (by omega) (by omega))]; rfl)) ?_
      refine od_W.rn (pc' := 24) (ls' := [some (.ref _), some (.int _), some (.int _), some (.int _), none, none, none, none, none, none, none]) (st' := [.int _, .int _, .ref _]) 3 rfl ?_
      refine od_rV (as := [.int (nI q), .int (nI 0)]) rfl rfl rfl rfl (md_0) rfl (Nat.le_of_ble_eq_true rfl) (Nat.le_of_ble_eq_true rfl) (rt_behind b1 hq' h2.1 hy2 rfl) (Nat.le_of_ble_eq_true rfl) (fun o M1 hq => ?_)
      obtain ⟨rfl, rfl⟩ := hq
      refine od_K.ret ?_
      rw [Nat.zero_add]
      refine od_W.rn (pc' := 36) (ls' := [some (.ref _), some (.int _), some (.int _), some (.int _), some (.int _), none, none, none, none, none, none]) (st' := [.int _, .int _, .int _, .int _, .ref _]) 6 rfl ?_
      refine od_rV (as := [.int (nI q), .int (nI 0), .int (nI (tm_t u).length), .int (nI 65)]) rfl rfl rfl rfl (md_0) rfl (Nat.le_of_ble_eq_true rfl) (Nat.le_of_ble_eq_true rfl) (rc_exponent b1 (by omega) hq' (od_ne nq (by simp)) (by omega) (by rw [tm_t_len]; omega) (by rw [tm_t_len]; omega) (fun _ => ⟨hy2, rfl, by omega⟩)) (Nat.le_of_ble_eq_true rfl) (fun o M1 hq => ?_)
      obtain ⟨rfl, fu2, ρ2, rfl, f2, b2, k2, p2⟩ := hq
      refine od_K.ret ?_
      have hf2 : fu2 = false := k2.mpr ⟨rfl, trivial⟩
      subst hf2
      have hx3 := hx1.fr (f2 p (od_n1 (od_ne np (by simp))))
      have hy3 := hy2.fr (f2 q (od_n1 (od_ne nq (by simp))))
      have hz3 := (p1 rfl).fr (f2 r (od_n1 (od_ne nr (by simp))))
      refine od_W.rn (pc' := 43) (ls' := [some (.ref _), some (.int _), some (.int _), some (.int _), some (.int _), none, none, none, none, none, none]) (st' := [.int _, .int _, .ref _]) 3 rfl ?_
      refine od_rV (as := [.int (nI q), .int (nI (tm_t u).length)]) rfl rfl rfl rfl (md_0) rfl (Nat.le_of_ble_eq_true rfl) (Nat.le_of_ble_eq_true rfl) (rt_coef hq' b2 hy3 (by simp)) (Nat.le_of_ble_eq_true rfl) (fun o M1 hq => ?_)
      obtain ⟨rfl, rfl⟩ := hq
      refine od_K.ret ?_
      refine od_W.rn (pc' := 55) (ls' := [some (.ref _), some (.int _), some (.int _), some (.int _), some (.int _), some (.long _), none, some (.int _), some (.int _), none, none]) (st' := []) 6 rfl ?_
      rw [nI_1000 h2.1.2.2]
      have e9 : tm_fl (sp_sum ts (u :: us)) = (([] ++ tm_fl (sp_kp u ts).1) ++ tm_t (u.1, (sp_kp u ts).2)) ++ tm_fl us := by
        show tm_fl ((sp_kp u ts).1 ++ (u.1, (sp_kp u ts).2) :: us) = _
        rw [tm_fl_app, tm_fl, List.nil_append, List.append_assoc]
      rw [e9]
      exact rt_sum_loop hp hq' hr np nq nr h2 ts [] false ρ2 [] none none h1 b2 (fun a ha => (f2 a (od_nn ha (by simp))).trans (f1 a (od_nn ha (by simp)))) hx3 hy3 (fun _ => ⟨hz3, p2 rfl⟩) Iff.rfl (fun _ h => h) (by simp [tm_fl])
end RS
