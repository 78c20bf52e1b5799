/-! The reference's merge. -/
section RM
variable {M : od_M} {y : Nat} {b : rf_B} {ρ0 : od_Rm}
set_option maxRecDepth 100000 in
theorem gw_mrg_end {p q r i j : Nat} {w6 w7 w8 : Option Value} {ρ : od_Rm} (hp : p < 113) (hq' : q < 113) (hr : r < 113) (hi : i ≤ 190) (hj : j ≤ 190) (hb : od_Bd ρ) (g : ∀ a, a ∉ [r, 66, 67] → ρ a = ρ0 a) : od_W 4 103 174 [some (.ref y), some (.int (nI p)), some (.int (nI q)), some (.int (nI r)), some (.int (nI i)), some (.int (nI j)), w6, w7, w8] [] (md M y b true ρ) (rf_t M y b ρ0 [r, 66, 67]) := by
  have l0 := hb p
  refine od_W.rn (pc' := 180) (ls' := [some (.ref _), some (.int _), some (.int _), some (.int _), some (.int _), some (.int _), _, _, _]) (st' := [.ref _, .int _, .int _, .int _, .ref _]) 5 rfl ?_
  refine od_rG rfl (md_0) rfl rfl ?_
  refine od_W.rn (pc' := 184) (ls' := [some (.ref _), some (.int _), some (.int _), some (.int _), some (.int _), some (.int _), _, _, _]) (st' := [.int _, .ref _, .int _, .int _, .int _, .ref _]) 1 rfl ?_
  refine od_rIL rfl (md_2) (rfl) (hp) (by decide) ?_
  rw [rf_row]
  refine od_rV (as := [.int (nI r), .int (nI p), .int (nI i), .int (nI (ρ p).1)]) rfl rfl rfl rfl (md_0) rfl (Nat.le_of_ble_eq_true rfl) (Nat.le_of_ble_eq_true rfl) (gw_appendPart hb hr hp (by omega) (by omega)) (Nat.le_of_ble_eq_true rfl) (fun o M1 hq => ?_)
  obtain ⟨rfl, ρ1, rfl, f1, b1⟩ := hq
  refine od_K.ret ?_
  have l1 := b1 q
  refine od_W.rn (pc' := 194) (ls' := [some (.ref _), some (.int _), some (.int _), some (.int _), some (.int _), some (.int _), _, _, _]) (st' := [.ref _, .int _, .int _, .int _, .ref _]) 5 rfl ?_
  refine od_rG rfl (md_0) rfl rfl ?_
  refine od_W.rn (pc' := 198) (ls' := [some (.ref _), some (.int _), some (.int _), some (.int _), some (.int _), some (.int _), _, _, _]) (st' := [.int _, .ref _, .int _, .int _, .int _, .ref _]) 1 rfl ?_
  refine od_rIL rfl (md_2) (rfl) (hq') (by decide) ?_
  rw [rf_row]
  refine od_rV (as := [.int (nI r), .int (nI q), .int (nI j), .int (nI (ρ1 q).1)]) rfl rfl rfl rfl (md_0) rfl (Nat.le_of_ble_eq_true rfl) (Nat.le_of_ble_eq_true rfl) (gw_appendPart b1 hr hq' (by omega) (by omega)) (Nat.le_of_ble_eq_true rfl) (fun o M1 hq => ?_)
  obtain ⟨rfl, ρ2, rfl, f2, b2⟩ := hq
  refine od_K.ret ?_
  refine od_W.fin rfl ?_
  exact ⟨rfl, ρ2, rfl, fun a ha => (f2 a (od_nn ha (by simp))).trans ((f1 a (od_nn ha (by simp))).trans (g a ha)), b2⟩
set_option maxRecDepth 100000 in
theorem gw_mrg_loop {p q r : Nat} (hp : p < 113) (hq' : q < 113) (hr : r < 113) (np : p ∉ [r, 66, 67]) (nq : q ∉ [r, 66, 67]) (nr : r ∉ [66, 67]) : ∀ (m i j : Nat) (ρ : od_Rm) (w6 w7 w8 : Option Value), 120 < i + j + m → i ≤ 190 → j ≤ 190 → od_Bd ρ → (∀ a, a ∉ [r, 66, 67] → ρ a = ρ0 a) → od_W 4 103 11 [some (.ref y), some (.int (nI p)), some (.int (nI q)), some (.int (nI r)), some (.int (nI i)), some (.int (nI j)), w6, w7, w8] [] (md M y b true ρ) (rf_t M y b ρ0 [r, 66, 67]) := by
  intro m
  induction m with
  | zero =>
    intro i j ρ w6 w7 w8 hm hi hj hb g
    have hend := fun w6 w7 w8 => gw_mrg_end (M := M) (y := y) (b := b) (w6 := w6) (w7 := w7) (w8 := w8) hp hq' hr hi hj hb g
    have l1 := hb p
    have l2 := hb q
    refine od_W.rn (pc' := 14) (ls' := [some (.ref _), some (.int _), some (.int _), some (.int _), some (.int _), some (.int _), _, _, _]) (st' := [.ref _, .int _]) 2 rfl ?_
    refine od_rG rfl (md_0) rfl rfl ?_
    refine od_W.rn (pc' := 18) (ls' := [some (.ref _), some (.int _), some (.int _), some (.int _), some (.int _), some (.int _), _, _, _]) (st' := [.int _, .ref _, .int _]) 1 rfl ?_
    refine od_rIL rfl (md_2) (rfl) (hp) (by decide) ?_
    rw [rf_row]
    by_cases h : (ρ p).1 ≤ i
    · refine od_r2T rfl rfl (decide_eq_true (nI_le h (by omega))) ?_
      exact hend _ _ _
    · refine od_r2F rfl (of_decide_eq_true rfl) (decide_eq_false (nI_ge (by omega) (by omega))) ?_
      refine od_W.rn (pc' := 25) (ls' := [some (.ref _), some (.int _), some (.int _), some (.int _), some (.int _), some (.int _), _, _, _]) (st' := [.ref _, .int _]) 2 rfl ?_
      refine od_rG rfl (md_0) rfl rfl ?_
      refine od_W.rn (pc' := 29) (ls' := [some (.ref _), some (.int _), some (.int _), some (.int _), some (.int _), some (.int _), _, _, _]) (st' := [.int _, .ref _, .int _]) 1 rfl ?_
      refine od_rIL rfl (md_2) (rfl) (hq') (by decide) ?_
      rw [rf_row]
      refine od_r2T rfl rfl (decide_eq_true (nI_le (by omega) (by omega))) ?_
      exact hend _ _ _
  | succ m ih =>
    intro i j ρ w6 w7 w8 hm hi hj hb g
    have hend := fun w6 w7 w8 => gw_mrg_end (M := M) (y := y) (b := b) (w6 := w6) (w7 := w7) (w8 := w8) hp hq' hr hi hj hb g
    have l1 := hb p
    have l2 := hb q
    refine od_W.rn (pc' := 14) (ls' := [some (.ref _), some (.int _), some (.int _), some (.int _), some (.int _), some (.int _), _, _, _]) (st' := [.ref _, .int _]) 2 rfl ?_
    refine od_rG rfl (md_0) rfl rfl ?_
    refine od_W.rn (pc' := 18) (ls' := [some (.ref _), some (.int _), some (.int _), some (.int _), some (.int _), some (.int _), _, _, _]) (st' := [.int _, .ref _, .int _]) 1 rfl ?_
    refine od_rIL rfl (md_2) (rfl) (hp) (by decide) ?_
    rw [rf_row]
    by_cases h : (ρ p).1 ≤ i
    · refine od_r2T rfl rfl (decide_eq_true (nI_le h (by omega))) ?_
      exact hend _ _ _
    · refine od_r2F rfl (of_decide_eq_true rfl) (decide_eq_false (nI_ge (by omega) (by omega))) ?_
      refine od_W.rn (pc' := 25) (ls' := [some (.ref _), some (.int _), some (.int _), some (.int _), some (.int _), some (.int _), _, _, _]) (st' := [.ref _, .int _]) 2 rfl ?_
      refine od_rG rfl (md_0) rfl rfl ?_
      refine od_W.rn (pc' := 29) (ls' := [some (.ref _), some (.int _), some (.int _), some (.int _), some (.int _), some (.int _), _, _, _]) (st' := [.int _, .ref _, .int _]) 1 rfl ?_
      refine od_rIL rfl (md_2) (rfl) (hq') (by decide) ?_
      rw [rf_row]
      by_cases h2 : (ρ q).1 ≤ j
      · refine od_r2T rfl rfl (decide_eq_true (nI_le h2 (by omega))) ?_
        exact hend _ _ _
      · refine od_r2F rfl (of_decide_eq_true rfl) (decide_eq_false (nI_ge (by omega) (by omega))) ?_
        refine od_W.rn (pc' := 37) (ls' := [some (.ref _), some (.int _), some (.int _), some (.int _), some (.int _), some (.int _), _, _, _]) (st' := [.int _, .int _, .ref _]) 3 rfl ?_
        refine od_rV (as := [.int (nI p), .int (nI i)]) rfl rfl rfl rfl (md_0) rfl (Nat.le_of_ble_eq_true rfl) (Nat.le_of_ble_eq_true rfl) (gw_behind hb hp (by omega)) (Nat.le_of_ble_eq_true rfl) (fun o M1 hq => ?_)
        obtain ⟨⟨e, he1, he2, rfl⟩, rfl⟩ := hq
        refine od_K.ret ?_
        refine od_W.rn (pc' := 46) (ls' := [some (.ref _), some (.int _), some (.int _), some (.int _), some (.int _), some (.int _), some (.int _), _, _]) (st' := [.int _, .int _, .ref _]) 4 rfl ?_
        refine od_rV (as := [.int (nI q), .int (nI j)]) rfl rfl rfl rfl (md_0) rfl (Nat.le_of_ble_eq_true rfl) (Nat.le_of_ble_eq_true rfl) (gw_behind hb hq' (by omega)) (Nat.le_of_ble_eq_true rfl) (fun o M1 hq => ?_)
        obtain ⟨⟨d, hd1, hd2, rfl⟩, rfl⟩ := hq
        refine od_K.ret ?_
        refine od_W.rn (pc' := 59) (ls' := [some (.ref _), some (.int _), some (.int _), some (.int _), some (.int _), some (.int _), some (.int _), some (.int _), _]) (st' := [.int _, .int _, .int _, .int _, .ref _]) 6 rfl ?_
        refine od_rV (as := [.int (nI p), .int (nI i), .int (nI e), .int (nI 66)]) rfl rfl rfl rfl (md_0) rfl (Nat.le_of_ble_eq_true rfl) (Nat.le_of_ble_eq_true rfl) (rc_exponent (fu := true) (u := []) (z := []) (t := ([], 0)) hb (by omega) hp (od_ne np (by simp)) (by omega) (by omega) he2 (fun z => absurd z (by decide))) (Nat.le_of_ble_eq_true rfl) (fun o M1 hq => ?_)
        replace hq := hq.t
        obtain ⟨rfl, ρ1, rfl, f1, b1⟩ := hq
        refine od_K.ret ?_
        refine od_W.rn (pc' := 70) (ls' := [some (.ref _), some (.int _), some (.int _), some (.int _), some (.int _), some (.int _), some (.int _), some (.int _), _]) (st' := [.int _, .int _, .int _, .int _, .ref _]) 5 rfl ?_
        refine od_rV (as := [.int (nI q), .int (nI j), .int (nI d), .int (nI 67)]) rfl rfl rfl rfl (md_0) rfl (Nat.le_of_ble_eq_true rfl) (Nat.le_of_ble_eq_true rfl) (rc_exponent (fu := true) (u := []) (z := []) (t := ([], 0)) b1 (by omega) hq' (od_ne nq (by simp)) (by omega) (by omega) hd2 (fun z => absurd z (by decide))) (Nat.le_of_ble_eq_true rfl) (fun o M1 hq => ?_)
        replace hq := hq.t
        obtain ⟨rfl, ρ2, rfl, f2, b2⟩ := hq
        refine od_K.ret ?_
        refine od_W.rn (pc' := 78) (ls' := [some (.ref _), some (.int _), some (.int _), some (.int _), some (.int _), some (.int _), some (.int _), some (.int _), _]) (st' := [.int _, .int _, .ref _]) 3 rfl ?_
        refine od_rV (as := [.int (nI 66), .int (nI 67)]) rfl rfl rfl rfl (md_0) rfl (Nat.le_of_ble_eq_true rfl) (Nat.le_of_ble_eq_true rfl) (gw_order b2 (by omega) (by omega)) (Nat.le_of_ble_eq_true rfl) (fun o M1 hq => ?_)
        obtain ⟨⟨v, hv, rfl⟩, rfl⟩ := hq
        refine od_K.ret ?_
        have g2 : ∀ a, a ∉ [r, 66, 67] → ρ2 a = ρ0 a := fun a ha => (f2 a (od_nn ha (by simp))).trans ((f1 a (od_nn ha (by simp))).trans (g a ha))
        refine od_W.rn (pc' := 85) (ls' := [some (.ref _), some (.int _), some (.int _), some (.int _), some (.int _), some (.int _), some (.int _), some (.int _), some (.int _)]) (st' := [.int _]) 2 rfl ?_
        rcases hv with rfl | rfl | rfl
        · refine od_r1T rfl rfl (rfl) ?_
          refine od_W.rn (pc' := 103) (ls' := [some (.ref _), some (.int _), some (.int _), some (.int _), some (.int _), some (.int _), some (.int _), some (.int _), some (.int _)]) (st' := [.int _]) 1 rfl ?_
          refine od_r1F rfl (of_decide_eq_true rfl) (rfl) ?_
          refine od_W.rn (pc' := 113) (ls' := [some (.ref _), some (.int _), some (.int _), some (.int _), some (.int _), some (.int _), some (.int _), some (.int _), some (.int _)]) (st' := [.int _, .int _, .int _, .int _, .ref _]) 5 rfl ?_
          refine od_rV (as := [.int (nI r), .int (nI q), .int (nI j), .int (nI d)]) rfl rfl rfl rfl (md_0) rfl (Nat.le_of_ble_eq_true rfl) (Nat.le_of_ble_eq_true rfl) (gw_appendPart b2 hr hq' (by omega) (by omega)) (Nat.le_of_ble_eq_true rfl) (fun o M1 hq => ?_)
          obtain ⟨rfl, ρ3, rfl, f3, b3⟩ := hq
          refine od_K.ret ?_
          refine od_W.rn (pc' := 145) (ls' := [some (.ref _), some (.int _), some (.int _), some (.int _), some (.int _), some (.int _), some (.int _), some (.int _), some (.int _)]) (st' := [.int _]) 2 rfl ?_
          refine od_r1T rfl rfl (rfl) ?_
          refine od_W.rn (pc' := 159) (ls' := [some (.ref _), some (.int _), some (.int _), some (.int _), some (.int _), some (.int _), some (.int _), some (.int _), some (.int _)]) (st' := [.int _]) 3 rfl ?_
          refine od_r1F rfl (of_decide_eq_true rfl) (rfl) ?_
          refine od_W.rn (pc' := 11) (ls' := [some (.ref _), some (.int _), some (.int _), some (.int _), some (.int _), some (.int _), some (.int _), some (.int _), some (.int _)]) (st' := []) 4 rfl ?_
          exact ih i d ρ3 _ _ _ (by omega) hi hd2 b3 (fun a ha => (f3 a (od_nn ha (by simp))).trans (g2 a ha))
        · refine od_r1T rfl rfl (rfl) ?_
          refine od_W.rn (pc' := 103) (ls' := [some (.ref _), some (.int _), some (.int _), some (.int _), some (.int _), some (.int _), some (.int _), some (.int _), some (.int _)]) (st' := [.int _]) 1 rfl ?_
          refine od_r1T rfl rfl (rfl) ?_
          refine od_W.rn (pc' := 127) (ls' := [some (.ref _), some (.int _), some (.int _), some (.int _), some (.int _), some (.int _), some (.int _), some (.int _), some (.int _)]) (st' := [.int _, .int _, .ref _, .int _, .int _, .ref _]) 6 rfl ?_
          refine od_rV (as := [.int (nI p), .int (nI e)]) rfl rfl rfl rfl (md_0) rfl (Nat.le_of_ble_eq_true rfl) (Nat.le_of_ble_eq_true rfl) (ct_coef (by omega) (by omega)) (Nat.le_of_ble_eq_true rfl) (fun o M1 hq => ?_)
          obtain ⟨rfl, rfl⟩ := hq
          refine od_K.ret ?_
          refine od_W.rn (pc' := 135) (ls' := [some (.ref _), some (.int _), some (.int _), some (.int _), some (.int _), some (.int _), some (.int _), some (.int _), some (.int _)]) (st' := [.int _, .int _, .ref _, .long _, .int _, .int _, .ref _]) 4 rfl ?_
          refine od_rV (as := [.int (nI q), .int (nI d)]) rfl rfl rfl rfl (md_0) rfl (Nat.le_of_ble_eq_true rfl) (Nat.le_of_ble_eq_true rfl) (ct_coef (by omega) (by omega)) (Nat.le_of_ble_eq_true rfl) (fun o M1 hq => ?_)
          obtain ⟨rfl, rfl⟩ := hq
          refine od_K.ret ?_
          refine od_W.rn (pc' := 140) (ls' := [some (.ref _), some (.int _), some (.int _), some (.int _), some (.int _), some (.int _), some (.int _), some (.int _), some (.int _)]) (st' := [.long _, .int _, .int _, .ref _]) 2 rfl ?_
          refine od_rV (as := [.int (nI r), .int (nI 66), .long _]) rfl rfl rfl rfl (md_0) rfl (Nat.le_of_ble_eq_true rfl) (Nat.le_of_ble_eq_true rfl) (gw_appendTerm b2 hr (by omega) (Ne.symm (od_ne nr (by simp)))) (Nat.le_of_ble_eq_true rfl) (fun o M1 hq => ?_)
          obtain ⟨rfl, ρ3, rfl, f3, b3⟩ := hq
          refine od_K.ret ?_
          refine od_W.rn (pc' := 145) (ls' := [some (.ref _), some (.int _), some (.int _), some (.int _), some (.int _), some (.int _), some (.int _), some (.int _), some (.int _)]) (st' := [.int _]) 1 rfl ?_
          refine od_r1F rfl (of_decide_eq_true rfl) (rfl) ?_
          refine od_W.rn (pc' := 159) (ls' := [some (.ref _), some (.int _), some (.int _), some (.int _), some (.int _), some (.int _), some (.int _), some (.int _), some (.int _)]) (st' := [.int _]) 4 rfl ?_
          refine od_r1F rfl (of_decide_eq_true rfl) (rfl) ?_
          refine od_W.rn (pc' := 11) (ls' := [some (.ref _), some (.int _), some (.int _), some (.int _), some (.int _), some (.int _), some (.int _), some (.int _), some (.int _)]) (st' := []) 4 rfl ?_
          exact ih e d ρ3 _ _ _ (by omega) he2 hd2 b3 (fun a ha => (f3 a (od_nn ha (by simp))).trans (g2 a ha))
        · refine od_r1F rfl (of_decide_eq_true rfl) (rfl) ?_
          refine od_W.rn (pc' := 95) (ls' := [some (.ref _), some (.int _), some (.int _), some (.int _), some (.int _), some (.int _), some (.int _), some (.int _), some (.int _)]) (st' := [.int _, .int _, .int _, .int _, .ref _]) 5 rfl ?_
          refine od_rV (as := [.int (nI r), .int (nI p), .int (nI i), .int (nI e)]) rfl rfl rfl rfl (md_0) rfl (Nat.le_of_ble_eq_true rfl) (Nat.le_of_ble_eq_true rfl) (gw_appendPart b2 hr hp (by omega) (by omega)) (Nat.le_of_ble_eq_true rfl) (fun o M1 hq => ?_)
          obtain ⟨rfl, ρ3, rfl, f3, b3⟩ := hq
          refine od_K.ret ?_
          refine od_W.rn (pc' := 145) (ls' := [some (.ref _), some (.int _), some (.int _), some (.int _), some (.int _), some (.int _), some (.int _), some (.int _), some (.int _)]) (st' := [.int _]) 2 rfl ?_
          refine od_r1F rfl (of_decide_eq_true rfl) (rfl) ?_
          refine od_W.rn (pc' := 159) (ls' := [some (.ref _), some (.int _), some (.int _), some (.int _), some (.int _), some (.int _), some (.int _), some (.int _), some (.int _)]) (st' := [.int _]) 4 rfl ?_
          refine od_r1T rfl rfl (rfl) ?_
          refine od_W.rn (pc' := 11) (ls' := [some (.ref _), some (.int _), some (.int _), some (.int _), some (.int _), some (.int _), some (.int _), some (.int _), some (.int _)]) (st' := []) 3 rfl ?_
          exact ih e j ρ3 _ _ _ (by omega) he2 hj b3 (fun a ha => (f3 a (od_nn ha (by simp))).trans (g2 a ha))
theorem gw_mrg {p q r : Nat} {ρ : od_Rm} (hp : p < 113) (hq' : q < 113) (hr : r < 113) (np : p ∉ [r, 66, 67]) (nq : q ∉ [r, 66, 67]) (nr : r ∉ [66, 67]) (hb : od_Bd ρ) : od_W 4 103 0 (od_ent 103 [.ref y, .int (nI p), .int (nI q), .int (nI r)]) [] (md M y b true ρ) (rf_t M y b ρ [r, 66, 67]) := by
  have e0 : od_ent 103 [.ref y, .int (nI p), .int (nI q), .int (nI r)] = [some (.ref y), some (.int (nI p)), some (.int (nI q)), some (.int (nI r)), none, none, none, none, none] := rfl
  rw [e0]
  refine od_W.rn (pc' := 2) (ls' := [some (.ref _), some (.int _), some (.int _), some (.int _), none, none, none, none, none]) (st' := [.int _, .ref _]) 2 rfl ?_
  refine od_rV (as := [.int (nI r)]) rfl rfl rfl rfl (md_0) rfl (Nat.le_of_ble_eq_true rfl) (Nat.le_of_ble_eq_true rfl) (rt_clear hb hr) (Nat.le_of_ble_eq_true rfl) (fun o M1 hq => ?_)
  replace hq := hq.t
  obtain ⟨rfl, ρ1, rfl, f1, b1⟩ := hq
  refine od_K.ret ?_
  refine od_W.rn (pc' := 11) (ls' := [some (.ref _), some (.int _), some (.int _), some (.int _), some (.int _), some (.int _), none, none, none]) (st' := []) 4 rfl ?_
  exact gw_mrg_loop hp hq' hr np nq nr 121 0 0 ρ1 none none none (by omega) (by omega) (by omega) b1 (fun a ha => f1 a (od_nn ha (by simp)))
set_option maxRecDepth 100000 in
theorem rt_mrg_end {p q r : Nat} {fu fu0 : Bool} {w6 w7 w8 : Option Value} {ρ : od_Rm} {ua wa ub wb zs : List Nat} (hp : p < 113) (hq' : q < 113) (hr : r < 113) (np : p ≠ r) (nq : q ≠ r) (hb : od_Bd ρ) (g : ∀ a, a ∉ [r, 66, 67] → ρ a = ρ0 a) (hx : od_hl ρ p (ua ++ wa)) (hy : od_hl ρ q (ub ++ wb)) (hz : fu = false → od_hl ρ r zs) {ok0 : Prop} {P0 : od_Rm → Prop} (hok : fu = false ∧ tm_ft (zs ++ (wa ++ wb)) ↔ fu0 = false ∧ ok0) (hP : ∀ ρ', od_hl ρ' r (zs ++ (wa ++ wb)) → P0 ρ') : od_W 4 103 174 [some (.ref y), some (.int (nI p)), some (.int (nI q)), some (.int (nI r)), some (.int (nI ua.length)), some (.int (nI ub.length)), w6, w7, w8] [] (md M y b fu ρ) (rf_s M y b fu0 ρ0 [r, 66, 67] ok0 P0) := by
  rw [← List.append_assoc] at hok
  refine od_W.rn (pc' := 180) (ls' := [some (.ref _), some (.int _), some (.int _), some (.int _), some (.int _), some (.int _), _, _, _]) (st' := [.ref _, .int _, .int _, .int _, .ref _]) 5 rfl ?_
  refine od_rG rfl (md_0) rfl rfl ?_
  refine od_W.rn (pc' := 184) (ls' := [some (.ref _), some (.int _), some (.int _), some (.int _), some (.int _), some (.int _), _, _, _]) (st' := [.int _, .ref _, .int _, .int _, .int _, .ref _]) 1 rfl ?_
  refine od_rIL rfl (md_2) (rfl) (hp) (by decide) ?_
  rw [rf_row, hx.n]
  refine od_rV (as := [.int (nI r), .int (nI p), .int (nI ua.length), .int (nI (ua ++ wa).length)]) rfl rfl rfl rfl (md_0) rfl (Nat.le_of_ble_eq_true rfl) (Nat.le_of_ble_eq_true rfl) (rt_appendPart (z := []) hb hr hp np (by rw [List.append_nil]; exact hx) rfl (by rw [List.length_append]) hz) (Nat.le_of_ble_eq_true rfl) (fun o M1 hq => ?_)
  obtain ⟨rfl, fu1, ρ1, rfl, f1, b1, k1, p1⟩ := hq
  refine od_K.ret ?_
  have hy1 := hy.fr (f1 q (od_n1 nq))
  refine od_W.rn (pc' := 194) (ls' := [some (.ref _), some (.int _), some (.int _), some (.int _), some (.int _), some (.int _), _, _, _]) (st' := [.ref _, .int _, .int _, .int _, .ref _]) 5 rfl ?_
  refine od_rG rfl (md_0) rfl rfl ?_
  refine od_W.rn (pc' := 198) (ls' := [some (.ref _), some (.int _), some (.int _), some (.int _), some (.int _), some (.int _), _, _, _]) (st' := [.int _, .ref _, .int _, .int _, .int _, .ref _]) 1 rfl ?_
  refine od_rIL rfl (md_2) (rfl) (hq') (by decide) ?_
  rw [rf_row, hy1.n]
  refine od_rV (as := [.int (nI r), .int (nI q), .int (nI ub.length), .int (nI (ub ++ wb).length)]) rfl rfl rfl rfl (md_0) rfl (Nat.le_of_ble_eq_true rfl) (Nat.le_of_ble_eq_true rfl) (rt_appendPart (z := []) b1 hr hq' nq (by rw [List.append_nil]; exact hy1) rfl (by rw [List.length_append]) p1) (Nat.le_of_ble_eq_true rfl) (fun o M1 hq => ?_)
  obtain ⟨rfl, fu2, ρ2, rfl, f2, b2, k2, p2⟩ := hq
  refine od_K.ret ?_
  refine od_W.fin rfl ?_
  refine ⟨rfl, fu2, ρ2, rfl, fun a ha => (f2 a (od_nn ha (by simp))).trans ((f1 a (od_nn ha (by simp))).trans (g a ha)), b2, ?_, fun z => hP ρ2 (by rw [← List.append_assoc]; exact p2 z)⟩
  rw [k2, k1, ← hok]
  exact ⟨fun z => ⟨z.1.1, z.2⟩, fun z => ⟨⟨z.1, tm_ft_l z.2⟩, z.2⟩⟩
set_option maxRecDepth 100000 in
theorem rt_mrg_loop {p q r : Nat} (hp : p < 113) (hq' : q < 113) (hr : r < 113) (np : p ∉ [r, 66, 67]) (nq : q ∉ [r, 66, 67]) (nr : r ∉ [66, 67]) {fu0 : Bool} {ok0 : Prop} {P0 : od_Rm → Prop} : ∀ (n : Nat) (ta tb da db : List tm_T) (fu : Bool) (ρ : od_Rm) (zs : List Nat) (w6 w7 w8 : Option Value), ta.length + tb.length < n → tm_al ta → tm_al tb → od_Bd ρ → (∀ a, a ∉ [r, 66, 67] → ρ a = ρ0 a) → od_hl ρ p (tm_fl da ++ tm_fl ta) → od_hl ρ q (tm_fl db ++ tm_fl tb) → (fu = false → od_hl ρ r zs) → (fu = false ∧ tm_ft (zs ++ tm_fl (sp_nt n ta tb)) ↔ fu0 = false ∧ ok0) → (∀ ρ', od_hl ρ' r (zs ++ tm_fl (sp_nt n ta tb)) → P0 ρ') → od_W 4 103 11 [some (.ref y), some (.int (nI p)), some (.int (nI q)), some (.int (nI r)), some (.int (nI (tm_fl da).length)), some (.int (nI (tm_fl db).length)), w6, w7, w8] [] (md M y b fu ρ) (rf_s M y b fu0 ρ0 [r, 66, 67] ok0 P0) := by
  intro n
  induction n with
  | zero => intro ta tb da db fu ρ zs w6 w7 w8 h; omega
  | succ n ih =>
    intro ta tb da db fu ρ zs w6 w7 w8 hn al1 al2 hb g hx hy hz hok hP
    have hl := hx.n
    have h60 := hx.le hb
    have hl' := hy.n
    have h60' := hy.le hb
    rw [List.length_append] at hl h60 hl' h60'
    cases fu with
    | true =>
      have := gw_mrg_loop (M := M) (y := y) (b := b) (ρ0 := ρ0) hp hq' hr np nq nr 121 (tm_fl da).length (tm_fl db).length ρ w6 w7 w8 (by omega) (by omega) (by omega) hb g
      refine this.mono fun o M' h => ?_
      obtain ⟨q1, ρ', q2, q3, q4⟩ := h
      refine ⟨q1, true, ρ', q2, q3, q4, ?_, fun z => absurd z (by decide)⟩
      rw [← hok]
      exact ⟨fun z => absurd z (by decide), fun z => absurd z.1 (by decide)⟩
    | false =>
      refine od_W.rn (pc' := 14) (ls' := [some (.ref _), some (.int _), some (.int _), some (.int _), some (.int _), some (.int _), _, _, _]) (st' := [.ref _, .int _]) 2 rfl ?_
      refine od_rG rfl (md_0) rfl rfl ?_
      refine od_W.rn (pc' := 18) (ls' := [some (.ref _), some (.int _), some (.int _), some (.int _), some (.int _), some (.int _), _, _, _]) (st' := [.int _, .ref _, .int _]) 1 rfl ?_
      refine od_rIL rfl (md_2) (rfl) (hp) (by decide) ?_
      rw [rf_row, hl]
      cases ta with
      | nil =>
        rw [show sp_nt (n + 1) [] tb = tb from rfl] at hok hP
        refine od_r2T rfl rfl (decide_eq_true (nI_le (by simp [tm_fl]) (by omega))) ?_
        exact rt_mrg_end hp hq' hr (od_ne np (by simp)) (od_ne nq (by simp)) hb g hx hy hz hok hP
      | cons t ta =>
        have hx2 : od_hl ρ p (tm_fl da ++ (tm_t t ++ tm_fl ta)) := hx
        rw [tm_fl, List.length_append, tm_t_len] at hl h60
        refine od_r2F rfl (of_decide_eq_true rfl) (decide_eq_false (nI_ge (by rw [tm_fl, List.length_append, tm_t_len]; omega) (by rw [tm_fl, List.length_append, tm_t_len]; omega))) ?_
        refine od_W.rn (pc' := 25) (ls' := [some (.ref _), some (.int _), some (.int _), some (.int _), some (.int _), some (.int _), _, _, _]) (st' := [.ref _, .int _]) 2 rfl ?_
        refine od_rG rfl (md_0) rfl rfl ?_
        refine od_W.rn (pc' := 29) (ls' := [some (.ref _), some (.int _), some (.int _), some (.int _), some (.int _), some (.int _), _, _, _]) (st' := [.int _, .ref _, .int _]) 1 rfl ?_
        refine od_rIL rfl (md_2) (rfl) (hq') (by decide) ?_
        rw [rf_row, hl']
        cases tb with
        | nil =>
          rw [show sp_nt (n + 1) (t :: ta) [] = t :: ta from rfl] at hok hP
          refine od_r2T rfl rfl (decide_eq_true (nI_le (by simp [tm_fl]) (by omega))) ?_
          refine rt_mrg_end (wb := []) hp hq' hr (od_ne np (by simp)) (od_ne nq (by simp)) hb g hx hy hz ?_ ?_
          · rw [List.append_nil]; exact hok
          · rw [List.append_nil]; exact hP
        | cons u tb =>
          have hy2 : od_hl ρ q (tm_fl db ++ (tm_t u ++ tm_fl tb)) := hy
          rw [tm_fl, List.length_append, tm_t_len] at hl' h60'
          have c1 := al1.1.2
          have c2 := al2.1.2
          unfold tm_c at c1 c2
          have e : (tm_fl da).length + (tm_t t).length = (tm_fl (da ++ [t])).length := by rw [tm_fl_snoc, List.length_append]
          have e' : (tm_fl db).length + (tm_t u).length = (tm_fl (db ++ [u])).length := by rw [tm_fl_snoc, List.length_append]
          refine od_r2F rfl (of_decide_eq_true rfl) (decide_eq_false (nI_ge (by rw [tm_fl, List.length_append, tm_t_len]; omega) (by rw [tm_fl, List.length_append, tm_t_len]; omega))) ?_
          refine od_W.rn (pc' := 37) (ls' := [some (.ref _), some (.int _), some (.int _), some (.int _), some (.int _), some (.int _), _, _, _]) (st' := [.int _, .int _, .ref _]) 3 rfl ?_
          refine od_rV (as := [.int (nI p), .int (nI (tm_fl da).length)]) rfl rfl rfl rfl (md_0) rfl (Nat.le_of_ble_eq_true rfl) (Nat.le_of_ble_eq_true rfl) (rt_behind hb hp al1.1 hx2 rfl) (Nat.le_of_ble_eq_true rfl) (fun o M1 hq => ?_)
          obtain ⟨rfl, rfl⟩ := hq
          refine od_K.ret ?_
          refine od_W.rn (pc' := 46) (ls' := [some (.ref _), some (.int _), some (.int _), some (.int _), some (.int _), some (.int _), some (.int _), _, _]) (st' := [.int _, .int _, .ref _]) 4 rfl ?_
          refine od_rV (as := [.int (nI q), .int (nI (tm_fl db).length)]) rfl rfl rfl rfl (md_0) rfl (Nat.le_of_ble_eq_true rfl) (Nat.le_of_ble_eq_true rfl) (rt_behind hb hq' al2.1 hy2 rfl) (Nat.le_of_ble_eq_true rfl) (fun o M1 hq => ?_)
          obtain ⟨rfl, rfl⟩ := hq
          refine od_K.ret ?_
          refine od_W.rn (pc' := 59) (ls' := [some (.ref _), some (.int _), some (.int _), some (.int _), some (.int _), some (.int _), some (.int _), some (.int _), _]) (st' := [.int _, .int _, .int _, .int _, .ref _]) 6 rfl ?_
          refine od_rV (as := [.int (nI p), .int (nI (tm_fl da).length), .int (nI ((tm_fl da).length + (tm_t t).length)), .int (nI 66)]) rfl rfl rfl rfl (md_0) rfl (Nat.le_of_ble_eq_true rfl) (Nat.le_of_ble_eq_true rfl) (rc_exponent hb (by omega) hp (od_ne np (by simp)) (by omega) (by rw [tm_t_len]; omega) (by rw [tm_t_len]; omega) (fun _ => ⟨hx2, rfl, rfl⟩)) (Nat.le_of_ble_eq_true rfl) (fun o M1 hq => ?_)
          obtain ⟨rfl, fu1, ρ1, rfl, f1, b1, k1, p1⟩ := hq
          refine od_K.ret ?_
          have hf1 : fu1 = false := k1.mpr ⟨rfl, trivial⟩
          subst hf1
          have hx3 := hx2.fr (f1 p (od_n1 (od_ne np (by simp))))
          have hy3 := hy2.fr (f1 q (od_n1 (od_ne nq (by simp))))
          have hz3 := (hz rfl).fr (f1 r (od_n1 (od_ne nr (by simp))))
          refine od_W.rn (pc' := 70) (ls' := [some (.ref _), some (.int _), some (.int _), some (.int _), some (.int _), some (.int _), some (.int _), some (.int _), _]) (st' := [.int _, .int _, .int _, .int _, .ref _]) 5 rfl ?_
          refine od_rV (as := [.int (nI q), .int (nI (tm_fl db).length), .int (nI ((tm_fl db).length + (tm_t u).length)), .int (nI 67)]) rfl rfl rfl rfl (md_0) rfl (Nat.le_of_ble_eq_true rfl) (Nat.le_of_ble_eq_true rfl) (rc_exponent b1 (by omega) hq' (od_ne nq (by simp)) (by omega) (by rw [tm_t_len]; omega) (by rw [tm_t_len]; omega) (fun _ => ⟨hy3, rfl, rfl⟩)) (Nat.le_of_ble_eq_true rfl) (fun o M1 hq => ?_)
          obtain ⟨rfl, fu2, ρ2, rfl, f2, b2, k2, p2⟩ := hq
          refine od_K.ret ?_
          have hf2 : fu2 = false := k2.mpr ⟨rfl, trivial⟩
          subst hf2
          have hx4 := hx3.fr (f2 p (od_n1 (od_ne np (by simp))))
          have hy4 := hy3.fr (f2 q (od_n1 (od_ne nq (by simp))))
          have hz4 := hz3.fr (f2 r (od_n1 (od_ne nr (by simp))))
          have h66 := (p1 rfl).fr (f2 66 (by simp))
          have g2 : ∀ a, a ∉ [r, 66, 67] → ρ2 a = ρ0 a := fun a ha => (f2 a (od_nn ha (by simp))).trans ((f1 a (od_nn ha (by simp))).trans (g a ha))
          refine od_W.rn (pc' := 78) (ls' := [some (.ref _), some (.int _), some (.int _), some (.int _), some (.int _), some (.int _), some (.int _), some (.int _), _]) (st' := [.int _, .int _, .ref _]) 3 rfl ?_
          refine od_rV (as := [.int (nI 66), .int (nI 67)]) rfl rfl rfl rfl (md_0) rfl (Nat.le_of_ble_eq_true rfl) (Nat.le_of_ble_eq_true rfl) (rt_order b2 (by omega) (by omega) al1.1.1 al2.1.1 h66 (p2 rfl)) (Nat.le_of_ble_eq_true rfl) (fun o M1 hq => ?_)
          obtain ⟨rfl, rfl⟩ := hq
          refine od_K.ret ?_
          refine od_W.rn (pc' := 85) (ls' := [some (.ref _), some (.int _), some (.int _), some (.int _), some (.int _), some (.int _), some (.int _), some (.int _), some (.int _)]) (st' := [.int _]) 2 rfl ?_
          rcases tm_cmp_is t.1 u.1 with hc | hc | hc
          · rw [show sp_nt (n + 1) (t :: ta) (u :: tb) = u :: sp_nt n (t :: ta) tb by conv => lhs; unfold sp_nt; rw [if_neg (by rw [hc]; decide), if_neg (by rw [hc]; decide)], tm_fl, ← List.append_assoc] at hok hP
            rw [hc]
            refine od_r1T rfl rfl (rfl) ?_
            refine od_W.rn (pc' := 103) (ls' := [some (.ref _), some (.int _), some (.int _), some (.int _), some (.int _), some (.int _), some (.int _), some (.int _), some (.int _)]) (st' := [.int _]) 1 rfl ?_
            refine od_r1F rfl (of_decide_eq_true rfl) (rfl) ?_
            refine od_W.rn (pc' := 113) (ls' := [some (.ref _), some (.int _), some (.int _), some (.int _), some (.int _), some (.int _), some (.int _), some (.int _), some (.int _)]) (st' := [.int _, .int _, .int _, .int _, .ref _]) 5 rfl ?_
            refine od_rV (as := [.int (nI r), .int (nI q), .int (nI (tm_fl db).length), .int (nI ((tm_fl db).length + (tm_t u).length))]) rfl rfl rfl rfl (md_0) rfl (Nat.le_of_ble_eq_true rfl) (Nat.le_of_ble_eq_true rfl) (rt_appendPart b2 hr hq' (od_ne nq (by simp)) hy4 rfl rfl (fun _ => hz4)) (Nat.le_of_ble_eq_true rfl) (fun o M1 hq => ?_)
            obtain ⟨rfl, fu3, ρ3, rfl, f3, b3, k3, p3⟩ := hq
            refine od_K.ret ?_
            refine od_W.rn (pc' := 145) (ls' := [some (.ref _), some (.int _), some (.int _), some (.int _), some (.int _), some (.int _), some (.int _), some (.int _), some (.int _)]) (st' := [.int _]) 2 rfl ?_
            refine od_r1T rfl rfl (rfl) ?_
            refine od_W.rn (pc' := 159) (ls' := [some (.ref _), some (.int _), some (.int _), some (.int _), some (.int _), some (.int _), some (.int _), some (.int _), some (.int _)]) (st' := [.int _]) 3 rfl ?_
            refine od_r1F rfl (of_decide_eq_true rfl) (rfl) ?_
            refine od_W.rn (pc' := 11) (ls' := [some (.ref _), some (.int _), some (.int _), some (.int _), some (.int _), some (.int _), some (.int _), some (.int _), some (.int _)]) (st' := []) 4 rfl ?_
            rw [e']
            refine ih (t :: ta) tb da (db ++ [u]) fu3 ρ3 _ _ _ _ (by simp at hn ⊢; omega) al1 al2.2 b3 (fun a ha => (f3 a (od_nn ha (by simp))).trans (g2 a ha)) (hx4.fr (f3 p (od_n1 (od_ne np (by simp))))) (by rw [tm_fl_snoc, List.append_assoc]; exact hy4.fr (f3 q (od_n1 (od_ne nq (by simp))))) p3 ?_ hP
            rw [← hok, k3]
            exact ⟨fun z => ⟨rfl, z.2⟩, fun z => ⟨⟨rfl, tm_ft_l z.2⟩, z.2⟩⟩
          · rw [show sp_nt (n + 1) (t :: ta) (u :: tb) = (t.1, t.2 + u.2) :: sp_nt n ta tb by conv => lhs; unfold sp_nt; rw [if_neg (by rw [hc]; decide), if_pos hc], tm_fl, ← List.append_assoc] at hok hP
            rw [hc]
            refine od_r1T rfl rfl (rfl) ?_
            refine od_W.rn (pc' := 103) (ls' := [some (.ref _), some (.int _), some (.int _), some (.int _), some (.int _), some (.int _), some (.int _), some (.int _), some (.int _)]) (st' := [.int _]) 1 rfl ?_
            refine od_r1T rfl rfl (rfl) ?_
            refine od_W.rn (pc' := 127) (ls' := [some (.ref _), some (.int _), some (.int _), some (.int _), some (.int _), some (.int _), some (.int _), some (.int _), some (.int _)]) (st' := [.int _, .int _, .ref _, .int _, .int _, .ref _]) 6 rfl ?_
            refine od_rV (as := [.int (nI p), .int (nI ((tm_fl da).length + (tm_t t).length))]) rfl rfl rfl rfl (md_0) rfl (Nat.le_of_ble_eq_true rfl) (Nat.le_of_ble_eq_true rfl) (rt_coef hp b2 hx4 rfl) (Nat.le_of_ble_eq_true rfl) (fun o M1 hq => ?_)
            obtain ⟨rfl, rfl⟩ := hq
            refine od_K.ret ?_
            refine od_W.rn (pc' := 135) (ls' := [some (.ref _), some (.int _), some (.int _), some (.int _), some (.int _), some (.int _), some (.int _), some (.int _), some (.int _)]) (st' := [.int _, .int _, .ref _, .long _, .int _, .int _, .ref _]) 4 rfl ?_
            refine od_rV (as := [.int (nI q), .int (nI ((tm_fl db).length + (tm_t u).length))]) rfl rfl rfl rfl (md_0) rfl (Nat.le_of_ble_eq_true rfl) (Nat.le_of_ble_eq_true rfl) (rt_coef hq' b2 hy4 rfl) (Nat.le_of_ble_eq_true rfl) (fun o M1 hq => ?_)
            obtain ⟨rfl, rfl⟩ := hq
            refine od_K.ret ?_
            refine od_W.rn (pc' := 140) (ls' := [some (.ref _), some (.int _), some (.int _), some (.int _), some (.int _), some (.int _), some (.int _), some (.int _), some (.int _)]) (st' := [.long _, .int _, .int _, .ref _]) 2 rfl ?_
            rw [nI_1000 c1.2, nI_1000 c2.2, lN_add]
            refine od_rV (as := [.int (nI r), .int (nI 66), .long (lN (t.2 + u.2))]) rfl rfl rfl rfl (md_0) rfl (Nat.le_of_ble_eq_true rfl) (Nat.le_of_ble_eq_true rfl) (rc_appendTerm b2 hr (by omega) (Ne.symm (od_ne nr (by simp))) (fun _ => ⟨h66, rfl, by omega⟩) (fun _ => hz4)) (Nat.le_of_ble_eq_true rfl) (fun o M1 hq => ?_)
            obtain ⟨rfl, fu3, ρ3, rfl, f3, b3, k3, p3⟩ := hq
            refine od_K.ret ?_
            refine od_W.rn (pc' := 145) (ls' := [some (.ref _), some (.int _), some (.int _), some (.int _), some (.int _), some (.int _), some (.int _), some (.int _), some (.int _)]) (st' := [.int _]) 1 rfl ?_
            refine od_r1F rfl (of_decide_eq_true rfl) (rfl) ?_
            refine od_W.rn (pc' := 159) (ls' := [some (.ref _), some (.int _), some (.int _), some (.int _), some (.int _), some (.int _), some (.int _), some (.int _), some (.int _)]) (st' := [.int _]) 4 rfl ?_
            refine od_r1F rfl (of_decide_eq_true rfl) (rfl) ?_
            refine od_W.rn (pc' := 11) (ls' := [some (.ref _), some (.int _), some (.int _), some (.int _), some (.int _), some (.int _), some (.int _), some (.int _), some (.int _)]) (st' := []) 4 rfl ?_
            rw [e, e']
            refine ih ta tb (da ++ [t]) (db ++ [u]) fu3 ρ3 _ _ _ _ (by simp at hn ⊢; omega) al1.2 al2.2 b3 (fun a ha => (f3 a (od_nn ha (by simp))).trans (g2 a ha)) (by rw [tm_fl_snoc, List.append_assoc]; exact hx4.fr (f3 p (od_n1 (od_ne np (by simp))))) (by rw [tm_fl_snoc, List.append_assoc]; exact hy4.fr (f3 q (od_n1 (od_ne nq (by simp))))) p3 ?_ hP
            rw [← hok, k3]
            exact ⟨fun z => ⟨rfl, z.2⟩, fun z => ⟨⟨rfl, tm_ft_l z.2⟩, z.2⟩⟩
          · rw [show sp_nt (n + 1) (t :: ta) (u :: tb) = t :: sp_nt n ta (u :: tb) by conv => lhs; unfold sp_nt; rw [if_pos hc], tm_fl, ← List.append_assoc] at hok hP
            rw [hc]
            refine od_r1F rfl (of_decide_eq_true rfl) (rfl) ?_
            refine od_W.rn (pc' := 95) (ls' := [some (.ref _), some (.int _), some (.int _), some (.int _), some (.int _), some (.int _), some (.int _), some (.int _), some (.int _)]) (st' := [.int _, .int _, .int _, .int _, .ref _]) 5 rfl ?_
            refine od_rV (as := [.int (nI r), .int (nI p), .int (nI (tm_fl da).length), .int (nI ((tm_fl da).length + (tm_t t).length))]) rfl rfl rfl rfl (md_0) rfl (Nat.le_of_ble_eq_true rfl) (Nat.le_of_ble_eq_true rfl) (rt_appendPart b2 hr hp (od_ne np (by simp)) hx4 rfl rfl (fun _ => hz4)) (Nat.le_of_ble_eq_true rfl) (fun o M1 hq => ?_)
            obtain ⟨rfl, fu3, ρ3, rfl, f3, b3, k3, p3⟩ := hq
            refine od_K.ret ?_
            refine od_W.rn (pc' := 145) (ls' := [some (.ref _), some (.int _), some (.int _), some (.int _), some (.int _), some (.int _), some (.int _), some (.int _), some (.int _)]) (st' := [.int _]) 2 rfl ?_
            refine od_r1F rfl (of_decide_eq_true rfl) (rfl) ?_
            refine od_W.rn (pc' := 159) (ls' := [some (.ref _), some (.int _), some (.int _), some (.int _), some (.int _), some (.int _), some (.int _), some (.int _), some (.int _)]) (st' := [.int _]) 4 rfl ?_
            refine od_r1T rfl rfl (rfl) ?_
            refine od_W.rn (pc' := 11) (ls' := [some (.ref _), some (.int _), some (.int _), some (.int _), some (.int _), some (.int _), some (.int _), some (.int _), some (.int _)]) (st' := []) 3 rfl ?_
            rw [e]
            refine ih ta (u :: tb) (da ++ [t]) db fu3 ρ3 _ _ _ _ (by simp at hn ⊢; omega) al1.2 al2 b3 (fun a ha => (f3 a (od_nn ha (by simp))).trans (g2 a ha)) (by rw [tm_fl_snoc, List.append_assoc]; exact hx4.fr (f3 p (od_n1 (od_ne np (by simp))))) (hy4.fr (f3 q (od_n1 (od_ne nq (by simp))))) p3 ?_ hP
            rw [← hok, k3]
            exact ⟨fun z => ⟨rfl, z.2⟩, fun z => ⟨⟨rfl, tm_ft_l z.2⟩, z.2⟩⟩
theorem rc_mrg {p q r : Nat} {fu : Bool} {ρ : od_Rm} {ts us : List tm_T} (hp : p < 113) (hq' : q < 113) (hr : r < 113) (np : p ∉ [r, 66, 67]) (nq : q ∉ [r, 66, 67]) (nr : r ∉ [66, 67]) (hb : od_Bd ρ) (hx : fu = false → (od_hl ρ p (tm_fl ts) ∧ tm_al ts) ∧ od_hl ρ q (tm_fl us) ∧ tm_al us) : od_W 4 103 0 (od_ent 103 [.ref y, .int (nI p), .int (nI q), .int (nI r)]) [] (md M y b fu ρ) (rf_s M y b fu ρ [r, 66, 67] (tm_ft (tm_fl (sp_nat ts us))) (fun ρ' => od_hl ρ' r (tm_fl (sp_nat ts us)))) := by
  cases fu with
  | true => exact (gw_mrg hp hq' hr np nq nr hb).mono fun _ _ h => h.s
  | false =>
    obtain ⟨⟨hxp, h1⟩, hy, h2⟩ := hx rfl
    have e0 : od_ent 103 [.ref y, .int (nI p), .int (nI q), .int (nI r)] = [some (.ref y), some (.int (nI p)), some (.int (nI q)), some (.int (nI r)), none, none, none, none, none] := rfl
    rw [e0]
    refine od_W.rn (pc' := 2) (ls' := [some (.ref _), some (.int _), some (.int _), some (.int _), none, none, none, none, none]) (st' := [.int _, .ref _]) 2 rfl ?_
    refine od_rV (as := [.int (nI r)]) rfl rfl rfl rfl (md_0) rfl (Nat.le_of_ble_eq_true rfl) (Nat.le_of_ble_eq_true rfl) (rt_clear hb hr) (Nat.le_of_ble_eq_true rfl) (fun o M1 hq => ?_)
    obtain ⟨rfl, fu1, ρ1, rfl, f1, b1, k1, p1⟩ := hq
    refine od_K.ret ?_
    have hf1 : fu1 = false := k1.mpr ⟨rfl, trivial⟩
    subst hf1
    have hx1 := hxp.fr (f1 p (od_n1 (od_ne np (by simp))))
    have hy1 := hy.fr (f1 q (od_n1 (od_ne nq (by simp))))
    refine od_W.rn (pc' := 11) (ls' := [some (.ref _), some (.int _), some (.int _), some (.int _), some (.int _), some (.int _), none, none, none]) (st' := []) 4 rfl ?_
    refine rt_mrg_loop (ρ0 := ρ) hp hq' hr np nq nr (ts.length + us.length + 1) ts us [] [] false ρ1 [] none none none (by omega) h1 h2 b1 (fun a ha => f1 a (od_nn ha (by simp))) hx1 hy1 p1 ?_ ?_
    · rw [List.nil_append]; exact Iff.rfl
    · rw [List.nil_append]; exact fun _ h => h
end RM
