/-! The pile: one use of its top; the work. -/
def pl_ao (S : Nat → Bool) (M : od_M) (ρ : od_Rm) (x : Nat) (xs : List Nat) (c : Nat) (rest : fs_S) (v : Nat) : od_O → od_M → Prop := fun o M2 => ∃ M' ρ', od_eM [x, x + 2] M M' ∧ pl_fr x ρ ρ' ∧ od_Bd ρ' ∧ pl_sh M' x ∧ ((¬ (tm_k (tm_tp xs) = 2 → tm_ft (sp_mem v (tm_tp xs))) ∧ o = .inr (2, M.1) ∧ M2 = od_xm (od_cm S M' ρ') 2) ∨ ((tm_k (tm_tp xs) = 2 → tm_ft (sp_mem v (tm_tp xs))) ∧ M2 = od_cm S M' ρ' ∧ ((fs_nx xs c rest v = none ∧ o = .inl (some (.int 0))) ∨ ∃ q, fs_nx xs c rest v = some q ∧ o = .inl (some (.int 1)) ∧ pl_st M' ρ' x q.1 q.2)))
theorem pl_pop {ρ : od_Rm} {tm : Nat → Int32} {x c : Nat} {xs : List Nat} {rest : fs_S} (h : pl_ok ρ tm x ((xs, c) :: rest)) : pl_ok ρ (upd tm rest.length (nI (c - 1))) x (fs_pop xs c rest) := by
  have hr : pl_ok ρ (upd tm rest.length (nI (c - 1))) x rest := h.2.2.2.2.2.fr (fun j hj => ⟨rfl, upd_o (by omega)⟩)
  have h3 := h.2.2.2.1
  unfold fs_pop
  by_cases hc : c ≤ 1
  · rw [if_pos hc]; exact hr
  · rw [if_neg hc]
    dsimp only at h3
    exact ⟨h.1, upd_s _ _ _, by dsimp only; omega, by dsimp only; omega, h.2.2.2.2.1, hr⟩
theorem fs_pop_len (xs : List Nat) (c : Nat) (rest : fs_S) : (fs_pop xs c rest).length = if c ≤ 1 then rest.length else rest.length + 1 := by
  unfold fs_pop
  split <;> rfl
section PILE2
variable {S : Nat → Bool} {ρ : od_Rm} {x r : Nat}
set_option maxRecDepth 100000 in
theorem lt_appliesTop {M : od_M} (hS : od_SS S) (hx : pl_fx S M x) (hb : od_Bd ρ) {xs : List Nat} {c v : Nat} {rest : fs_S} (hst : pl_st M ρ x ((xs, c) :: rest) v) : od_W 5 53 0 (od_ent 53 [.ref x]) [] (od_cm S M ρ) (pl_ao S M ρ x xs c rest v) := by
  have e0 : od_ent 53 [.ref x] = [some (.ref x), none, none] := rfl
  rw [e0]
  obtain ⟨hP, ⟨tm, ht, hok⟩, h12, hv⟩ := hst
  obtain ⟨⟨rf, x1, xf⟩, x2, x3, x4, x5, x6⟩ := id hx
  simp only [List.length_cons] at h12 hP
  have o1 : od_hl ρ (x + 5 + 2 * rest.length) xs := hok.1
  have o2 : tm rest.length = nI c := hok.2.1
  have o3 : 1 ≤ c := hok.2.2.1
  have o4 : c ≤ 1000000 := hok.2.2.2.1
  have o5 : tm_W xs := hok.2.2.2.2.1
  have rt := x6 rest.length (by omega)
  have em : nI (rest.length + 1) - 1 = nI rest.length := nI_pred _
  have ec : nI c - 1 = nI (c - 1) := nI_subI (a := 1) o3
  have hpop := pl_pop hok
  have hal := tm_al_tp o5
  have o1' : od_hl ρ (x + 5 + 2 * rest.length) (tm_fl (tm_tp xs)) := by rw [tm_fl_tp o5]; exact o1
  refine od_W.rn (pc' := 1) (ls' := [some (.ref _), none, none]) (st' := [.ref _]) 1 rfl ?_
  refine od_rG rfl (od_cm_o x2 hP) rfl rfl ?_
  refine od_W.rn (pc' := 5) (ls' := [some (.ref _), none, none]) (st' := [.ref _, .ref _]) 1 rfl ?_
  refine od_rG rfl (od_cm_o x2 hP) rfl rfl ?_
  refine od_W.rn (pc' := 10) (ls' := [some (.ref _), none, none]) (st' := [.int _, .ref _]) 2 rfl ?_
  refine od_rAL rfl (od_cm_o x3 x1) (em) (by omega) (by decide) ?_
  rw [xf rest.length (by omega)]
  refine od_W.rn (pc' := 13) (ls' := [some (.ref _), some (.ref _), none]) (st' := [.ref _]) 2 rfl ?_
  refine od_rG rfl (od_cm_o x2 hP) rfl rfl ?_
  refine od_W.rn (pc' := 17) (ls' := [some (.ref _), some (.ref _), none]) (st' := [.ref _, .ref _]) 1 rfl ?_
  refine od_rG rfl (od_cm_o x2 hP) rfl rfl ?_
  refine od_W.rn (pc' := 23) (ls' := [some (.ref _), some (.ref _), none]) (st' := [.int _, .ref _, .int _, .ref _]) 3 rfl ?_
  refine od_rIL rfl (od_cm_o x4 ht) (em) (by omega) (by decide) ?_
  refine od_W.rn (pc' := 26) (ls' := [some (.ref _), some (.ref _), none]) (st' := [.int _, .int _, .ref _]) 2 rfl ?_
  rw [o2]
  refine od_rIS rfl (od_cm_o x4 ht) (em) (by omega) (by decide) ?_
  rw [od_cm_set x4, show nI c - Int32.ofInt 1 = nI (c - 1) from ec]
  have hP1 : od_PI (od_set M (x + 2) (od_ia 12 (upd tm rest.length (nI (c - 1))))) x (nI (rest.length + 1)) (nI v) := (od_set_o (by omega)).trans hP
  have ht1 := od_set_s M (x + 2) (od_ia 12 (upd tm rest.length (nI (c - 1))))
  have eM1 : od_eM [x, x + 2] M (od_set M (x + 2) (od_ia 12 (upd tm rest.length (nI (c - 1))))) := (od_eM.refl _ _).set (by simp)
  generalize hM1 : od_set M (x + 2) (od_ia 12 (upd tm rest.length (nI (c - 1)))) = M1 at *
  refine od_W.rn (pc' := 28) (ls' := [some (.ref _), some (.ref _), none]) (st' := [.ref _]) 1 rfl ?_
  refine od_rG rfl (od_cm_o x2 hP1) rfl rfl ?_
  refine od_W.rn (pc' := 32) (ls' := [some (.ref _), some (.ref _), none]) (st' := [.ref _, .ref _]) 1 rfl ?_
  refine od_rG rfl (od_cm_o x2 hP1) rfl rfl ?_
  refine od_W.rn (pc' := 37) (ls' := [some (.ref _), some (.ref _), none]) (st' := [.int _, .ref _]) 2 rfl ?_
  refine od_rIL rfl (od_cm_o x4 ht1) (em) (by omega) (by decide) ?_
  have tail : ∀ M3 : od_M, od_eM [x, x + 2] M M3 → od_PI M3 x (nI (fs_pop xs c rest).length) (nI v) → M3.2.2 (x + 2) = some (od_ia 12 (upd tm rest.length (nI (c - 1)))) → od_W 5 53 51 [some (.ref x), some (.ref (x + 5 + 2 * rest.length)), none] [] (od_cm S M3 ρ) (pl_ao S M ρ x xs c rest v) := by
    intro M3 eM3 hP3 ht3
    have hl12 : (fs_pop xs c rest).length ≤ rest.length + 1 := by rw [fs_pop_len]; split <;> omega
    have hx3 := hx.eM eM3
    have hsh3 : pl_sh M3 x := ⟨_, _, _, hP3, ht3⟩
    generalize hpl : fs_pop xs c rest = st1 at *
    refine od_W.rn (pc' := 52) (ls' := [some (.ref _), some (.ref _), none]) (st' := [.ref _]) 1 rfl ?_
    refine od_rV (as := []) rfl rfl rfl rfl (od_cm_r rt) rfl (Nat.le_of_ble_eq_true rfl) (Nat.le_of_ble_eq_true rfl) (ct_sort hS rt (hb _) hal o1'.1) (Nat.le_of_ble_eq_true rfl) (fun o M1 hq => ?_)
    obtain ⟨rfl, rfl⟩ := hq
    refine od_K.ret ?_
    refine od_W.rn (pc' := 57) (ls' := [some (.ref _), some (.ref _), some (.int _)]) (st' := [.int _]) 2 rfl ?_
    rcases tm_k_le (tm_tp xs) with hk | hk | hk
    · have hnk : ¬ tm_k (tm_tp xs) = 2 := by omega
      rw [hk]
      refine od_r1F rfl (of_decide_eq_true rfl) (rfl) ?_
      refine od_W.rn (pc' := 62) (ls' := [some (.ref _), some (.ref _), some (.int _)]) (st' := [.ref _, .ref _]) 2 rfl ?_
      refine od_rG rfl (od_cm_o x2 hP3) rfl rfl ?_
      refine od_W.rn (pc' := 67) (ls' := [some (.ref _), some (.ref _), some (.int _)]) (st' := [.int _, .ref _]) 2 rfl ?_
      refine od_rP rfl (od_cm_o x2 hP3) rfl (by simp) rfl (by decide) ?_
      rw [od_cm_set x2, show nI v + Int32.ofInt 1 = nI (v + 1) from nI_inc v]
      have hP4 : od_PI (od_set M3 x (od_ob 5 ([Value.ref (x + 1), .ref (x + 2), .int (nI st1.length), .int (nI v), .ref (x + 3)].set 3 (.int (nI (v + 1)))))) x (nI st1.length) (nI (v + 1)) := od_set_s _ _ _
      have ht4 : (od_set M3 x (od_ob 5 ([Value.ref (x + 1), .ref (x + 2), .int (nI st1.length), .int (nI v), .ref (x + 3)].set 3 (.int (nI (v + 1)))))).2.2 (x + 2) = _ := (od_set_o (by omega)).trans ht3
      have eM4 := eM3.set (a := x) (e := od_ob 5 ([Value.ref (x + 1), .ref (x + 2), .int (nI st1.length), .int (nI v), .ref (x + 3)].set 3 (.int (nI (v + 1))))) (by simp)
      generalize hM4 : od_set M3 x (od_ob 5 ([Value.ref (x + 1), .ref (x + 2), .int (nI st1.length), .int (nI v), .ref (x + 3)].set 3 (.int (nI (v + 1))))) = M4 at *
      refine od_W.rn (pc' := 71) (ls' := [some (.ref _), some (.ref _), some (.int _)]) (st' := [.ref _]) 1 rfl ?_
      refine od_rG rfl (od_cm_o x2 hP4) rfl rfl ?_
      refine od_W.rn (pc' := 76) (ls' := [some (.ref _), some (.ref _), some (.int _)]) (st' := [.int _, .int _]) 1 rfl ?_
      by_cases hv1 : v + 1 ≤ 1000000
      · have hnx : fs_nx xs c rest v = some (st1, v + 1) := by unfold fs_nx; rw [if_pos hk, if_pos hv1, hpl]
        refine od_r2F rfl (of_decide_eq_true rfl) (decide_eq_false (nI_nlt (a := 1000000) (b := v + 1) hv1 (by omega))) ?_
        refine od_W.rn (pc' := 84) (ls' := [some (.ref _), some (.ref _), some (.int _)]) (st' := [.int _]) 2 rfl ?_
        refine od_W.fin rfl ?_
        exact ⟨M4, ρ, eM4, fun _ _ => rfl, hb, ⟨_, _, _, hP4, ht4⟩, Or.inr ⟨fun z => absurd z hnk, rfl, Or.inr ⟨_, hnx, rfl, hP4, ⟨_, ht4, hpop⟩, by dsimp only; omega, hv1⟩⟩⟩
      · have hnx : fs_nx xs c rest v = none := by unfold fs_nx; rw [if_pos hk, if_neg hv1]
        refine od_r2T rfl rfl (decide_eq_true (nI_lt (a := 1000000) (b := v + 1) (by omega) (by omega))) ?_
        refine od_W.rn (pc' := 84) (ls' := [some (.ref _), some (.ref _), some (.int _)]) (st' := [.int _]) 1 rfl ?_
        refine od_W.fin rfl ?_
        exact ⟨M4, ρ, eM4, fun _ _ => rfl, hb, ⟨_, _, _, hP4, ht4⟩, Or.inr ⟨fun z => absurd z hnk, rfl, Or.inl ⟨hnx, rfl⟩⟩⟩
    · have hnk : ¬ tm_k (tm_tp xs) = 2 := by omega
      have hnk0 : ¬ tm_k (tm_tp xs) = 0 := by omega
      obtain ⟨es, s, hes, hs0⟩ := tm_k_snoc1 hk
      have hal2 : tm_al (es ++ [s]) := hes ▸ hal
      have hlen : xs.length = (tm_fl es).length + 3 := by
        have := tm_fl_tp o5
        rw [hes, tm_fl_snoc] at this
        rw [← this, List.length_append, tm_t_len, hs0]
        rfl
      rw [hk]
      refine od_r1T rfl rfl (rfl) ?_
      refine od_W.rn (pc' := 87) (ls' := [some (.ref _), some (.ref _), some (.int _)]) (st' := [.int _, .int _]) 2 rfl ?_
      refine od_r2T rfl rfl (rfl) ?_
      refine od_W.rn (pc' := 113) (ls' := [some (.ref _), some (.ref _), some (.int _)]) (st' := [.ref _]) 1 rfl ?_
      refine od_rG rfl (od_cm_o x2 hP3) rfl rfl ?_
      refine od_rV (as := []) rfl rfl rfl rfl (od_cm_r x5) rfl (Nat.le_of_ble_eq_true rfl) (Nat.le_of_ble_eq_true rfl) (lt_clear hS x5 hb) (Nat.le_of_ble_eq_true rfl) (fun o M1 hq => ?_)
      refine od_Re.kq hq rfl (fun ρ1 f1 b1 k1 => absurd trivial k1) (fun ρ1 f1 b1 p1 k1 => ?_)
      have o6 := o1.fr (f1 (x + 5 + 2 * rest.length) (od_n1 (by omega)))
      have o7 : od_hl ρ1 (x + 5 + 2 * rest.length) ([] ++ (tm_fl es ++ (tm_t s ++ []))) := by rw [List.nil_append, List.append_nil, ← tm_fl_snoc, ← hes, tm_fl_tp o5]; exact o6
      refine od_W.rn (pc' := 122) (ls' := [some (.ref _), some (.ref _), some (.int _)]) (st' := [.ref _, .int _, .ref _]) 3 rfl ?_
      refine od_gL rfl rfl (rt) (o6.n) ?_
      refine od_W.rn (pc' := 126) (ls' := [some (.ref _), some (.ref _), some (.int _)]) (st' := [.ref _, .int _, .int _, .ref _]) 1 rfl ?_
      refine od_rG rfl (od_cm_o x2 hP3) rfl rfl ?_
      refine od_rSt (as := [.ref (x + 5 + 2 * rest.length), .int (nI 0), .int (nI xs.length), .ref (x + 3)]) rfl rfl rfl rfl (Nat.le_of_ble_eq_true rfl) (Nat.le_of_ble_eq_true rfl) (lt_putBefore hS x5 rt (by omega) b1 (tm_al_app.mp hal2).2.1 hs0 p1 o7 rfl (by simp; exact hlen)) (Nat.le_of_ble_eq_true rfl) (fun o M1 hq => ?_)
      refine od_Re.kq hq rfl (fun ρ2 f2 b2 k2 => absurd (by rw [List.nil_append, ← hes]; exact sp_pr_ft (by rw [tm_fl_tp o5]; exact ⟨o1.le hb, o1.2⟩)) k2) (fun ρ2 f2 b2 p2 k2 => ?_)
      have fr2 : ∀ q, q ≠ x + 3 → ρ2 q = ρ q := fun q hq => (f2 q (od_n1 hq)).trans (f1 q (od_n1 hq))
      have p2' : od_hl ρ2 (x + 3) (sp_pr (tm_tp xs)) := by rw [hes]; exact p2
      refine od_W.rn (pc' := 134) (ls' := [some (.ref _), some (.ref _), some (.int _)]) (st' := [.ref _, .ref _]) 2 rfl ?_
      refine od_rG rfl (od_cm_o x2 hP3) rfl rfl ?_
      refine od_W.rn (pc' := 138) (ls' := [some (.ref _), some (.ref _), some (.int _)]) (st' := [.ref _, .ref _, .ref _]) 1 rfl ?_
      refine od_rG rfl (od_cm_o x2 hP3) rfl rfl ?_
      by_cases hv0 : v = 0
      · have hnx : fs_nx xs c rest v = some (st1, v) := by unfold fs_nx; rw [if_neg hnk0, if_neg hnk, if_pos hv0, hpl]
        refine od_rV (as := [.ref (x + 3), .int (nI v)]) rfl rfl rfl rfl (od_cm_o x2 hP3) rfl (Nat.le_of_ble_eq_true rfl) (Nat.le_of_ble_eq_true rfl) (ct_pushes0 (h := 0) (n := 0) (by rw [hv0]; exact nI_nlt (a := 0) (b := 0) (by omega) (by omega))) (Nat.le_of_ble_eq_true rfl) (fun o M1 hq => ?_)
        obtain ⟨rfl, rfl⟩ := hq
        refine od_K.ret ?_
        refine od_W.fin rfl ?_
        exact ⟨M3, ρ2, eM3, fun q hq => fr2 q (by omega), b2, hsh3, Or.inr ⟨fun z => absurd z hnk, rfl, Or.inr ⟨_, hnx, rfl, hP3, ⟨_, ht3, hpop.fr (fun j hj => ⟨fr2 _ (by omega), rfl⟩)⟩, by dsimp only; omega, hv⟩⟩⟩
      · by_cases hl : st1.length < 12
        · have hnx : fs_nx xs c rest v = some ((sp_pr (tm_tp xs), v) :: st1, v) := by unfold fs_nx; rw [hpl, if_neg hnk0, if_neg hnk, if_neg hv0, if_pos hl]
          refine od_rV (as := [.ref (x + 3), .int (nI v)]) rfl rfl rfl rfl (od_cm_o x2 hP3) rfl (Nat.le_of_ble_eq_true rfl) (Nat.le_of_ble_eq_true rfl) (lt_pushes hS hx3 hP3 ht3 hl (by omega) hv x5 (by omega) b2 p2') (Nat.le_of_ble_eq_true rfl) (fun o M1 hq => ?_)
          obtain ⟨M5, ρ5, q1, q2, q3, rfl, rfl, q6, q7, q8⟩ := hq
          refine od_K.ret ?_
          refine od_W.fin rfl ?_
          refine ⟨M5, ρ5, eM3.tr q1, fun q hq => (q2 q (by omega)).trans (fr2 q (by omega)), q3, ⟨_, _, _, q7, q8⟩, Or.inr ⟨fun z => absurd z hnk, rfl, Or.inr ⟨_, hnx, rfl, q7, ⟨_, q8, q6, upd_s _ _ _, by dsimp only; omega, hv, sp_pr_W hal, hpop.fr (fun j hj => ⟨(q2 _ (by omega)).trans (fr2 _ (by omega)), upd_o (by omega)⟩)⟩, by simp; omega, hv⟩⟩⟩
        · have hnx : fs_nx xs c rest v = none := by unfold fs_nx; rw [hpl, if_neg hnk0, if_neg hnk, if_neg hv0, if_neg hl]
          refine od_rV (as := [.ref (x + 3), .int (nI v)]) rfl rfl rfl rfl (od_cm_o x2 hP3) rfl (Nat.le_of_ble_eq_true rfl) (Nat.le_of_ble_eq_true rfl) (ct_pushesF hx3 hP3 (by omega) (by omega) (by omega) hv) (Nat.le_of_ble_eq_true rfl) (fun o M1 hq => ?_)
          obtain ⟨rfl, rfl⟩ := hq
          refine od_K.ret ?_
          refine od_W.fin rfl ?_
          exact ⟨M3, ρ2, eM3, fun q hq => fr2 q (by omega), b2, hsh3, Or.inr ⟨fun z => absurd z hnk, rfl, Or.inl ⟨hnx, rfl⟩⟩⟩
    · have hnk0 : ¬ tm_k (tm_tp xs) = 0 := by omega
      rw [hk]
      refine od_r1T rfl rfl (rfl) ?_
      refine od_W.rn (pc' := 87) (ls' := [some (.ref _), some (.ref _), some (.int _)]) (st' := [.int _, .int _]) 2 rfl ?_
      refine od_r2F rfl (of_decide_eq_true rfl) (rfl) ?_
      refine od_W.rn (pc' := 92) (ls' := [some (.ref _), some (.ref _), some (.int _)]) (st' := [.ref _, .ref _]) 2 rfl ?_
      refine od_rG rfl (od_cm_o x2 hP3) rfl rfl ?_
      refine od_W.rn (pc' := 96) (ls' := [some (.ref _), some (.ref _), some (.int _)]) (st' := [.ref _, .int _, .ref _]) 1 rfl ?_
      refine od_rG rfl (od_cm_o x2 hP3) rfl rfl ?_
      refine od_rSt (as := [.ref (x + 5 + 2 * rest.length), .int (nI v), .ref (x + 3)]) rfl rfl rfl rfl (Nat.le_of_ble_eq_true rfl) (Nat.le_of_ble_eq_true rfl) (lt_makeMember hS x5 rt (by omega) hv hb hal hk o1') (Nat.le_of_ble_eq_true rfl) (fun o M1 hq => ?_)
      refine od_Re.kq hq rfl (fun ρ1 f1 b1 k1 => ⟨M3, ρ1, eM3, fun q hq => f1 q (od_n1 (by omega)), b1, hsh3, Or.inl ⟨fun z => k1 (z hk), by rw [eM3.1], rfl⟩⟩) (fun ρ1 f1 b1 p1 k1 => ?_)
      have fr2 : ∀ q, q ≠ x + 3 → ρ1 q = ρ q := fun q hq => f1 q (od_n1 hq)
      refine od_W.rn (pc' := 104) (ls' := [some (.ref _), some (.ref _), some (.int _)]) (st' := [.ref _, .ref _]) 2 rfl ?_
      refine od_rG rfl (od_cm_o x2 hP3) rfl rfl ?_
      by_cases hl : st1.length < 12
      · have hnx : fs_nx xs c rest v = some ((sp_mem v (tm_tp xs), 1) :: st1, v) := by unfold fs_nx; rw [hpl, if_neg hnk0, if_pos hk, if_pos hl]
        refine od_W.rn (pc' := 108) (ls' := [some (.ref _), some (.ref _), some (.int _)]) (st' := [.int _, .ref _, .ref _]) 1 rfl ?_
        refine od_rV (as := [.ref (x + 3), .int (nI 1)]) rfl rfl rfl rfl (od_cm_o x2 hP3) rfl (Nat.le_of_ble_eq_true rfl) (Nat.le_of_ble_eq_true rfl) (lt_pushes hS hx3 hP3 ht3 hl (by omega) (by omega) x5 (by omega) b1 p1) (Nat.le_of_ble_eq_true rfl) (fun o M1 hq => ?_)
        obtain ⟨M5, ρ5, q1, q2, q3, rfl, rfl, q6, q7, q8⟩ := hq
        refine od_K.ret ?_
        refine od_W.fin rfl ?_
        refine ⟨M5, ρ5, eM3.tr q1, fun q hq => (q2 q (by omega)).trans (fr2 q (by omega)), q3, ⟨_, _, _, q7, q8⟩, Or.inr ⟨fun _ => k1, rfl, Or.inr ⟨_, hnx, rfl, q7, ⟨_, q8, q6, upd_s _ _ _, by dsimp only; omega, by dsimp only; omega, sp_mem_W hv hal, hpop.fr (fun j hj => ⟨(q2 _ (by omega)).trans (fr2 _ (by omega)), upd_o (by omega)⟩)⟩, by simp; omega, hv⟩⟩⟩
      · have hnx : fs_nx xs c rest v = none := by unfold fs_nx; rw [hpl, if_neg hnk0, if_pos hk, if_neg hl]
        refine od_W.rn (pc' := 108) (ls' := [some (.ref _), some (.ref _), some (.int _)]) (st' := [.int _, .ref _, .ref _]) 1 rfl ?_
        refine od_rV (as := [.ref (x + 3), .int (nI 1)]) rfl rfl rfl rfl (od_cm_o x2 hP3) rfl (Nat.le_of_ble_eq_true rfl) (Nat.le_of_ble_eq_true rfl) (ct_pushesF hx3 hP3 (by omega) (by omega) (by omega) (by omega)) (Nat.le_of_ble_eq_true rfl) (fun o M1 hq => ?_)
        obtain ⟨rfl, rfl⟩ := hq
        refine od_K.ret ?_
        refine od_W.fin rfl ?_
        exact ⟨M3, ρ1, eM3, fun q hq => fr2 q (by omega), b1, hsh3, Or.inr ⟨fun _ => k1, rfl, Or.inl ⟨hnx, rfl⟩⟩⟩
  rw [upd_s]
  by_cases hc1 : c ≤ 1
  · refine od_r1F rfl (of_decide_eq_true rfl) (decide_eq_false (nI_nlt (a := 0) (b := c - 1) (by omega) (by omega))) ?_
    refine od_W.rn (pc' := 43) (ls' := [some (.ref _), some (.ref _), none]) (st' := [.ref _, .ref _]) 2 rfl ?_
    refine od_rG rfl (od_cm_o x2 hP1) rfl rfl ?_
    refine od_W.rn (pc' := 48) (ls' := [some (.ref _), some (.ref _), none]) (st' := [.int _, .ref _]) 2 rfl ?_
    refine od_rP rfl (od_cm_o x2 hP1) rfl (by simp) rfl (by decide) ?_
    rw [od_cm_set x2, show nI (rest.length + 1) - Int32.ofInt 1 = nI rest.length from em]
    refine tail _ (eM1.set (by simp)) ?_ ((od_set_o (by omega)).trans ht1)
    rw [fs_pop_len, if_pos hc1]
    exact od_set_s _ _ _
  · refine od_r1T rfl rfl (decide_eq_true (nI_lt (a := 0) (b := c - 1) (by omega) (by omega))) ?_
    refine tail M1 eM1 ?_ ht1
    rw [fs_pop_len, if_neg hc1]
    exact hP1
end PILE2
