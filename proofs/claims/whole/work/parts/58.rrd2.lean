/-! The reference: kinds, numbers, the one before. -/
section RR2
variable {M : od_M} {y : Nat} {b : rf_B} {fu : Bool} {ρ : od_Rm}
theorem cl_la {r n : Nat} (hb : od_Bd ρ) (hr : r < 113) (hn : (ρ r).1 = n) : ∀ (todo done : List tm_T) (at0 : Int32), tm_al todo → od_hl ρ r (tm_fl done ++ tm_fl todo) → od_W 2 97 4 [some (.ref y), some (.int (nI r)), some (.int (nI (tm_fl done).length)), some (.int at0)] [] (md M y b fu ρ) (fun q M' => q = .inl (some (.int (if todo = [] then at0 else nI ((tm_fl done).length + (tm_fl todo.dropLast).length)))) ∧ M' = md M y b fu ρ) := by
  intro todo
  induction todo with
  | nil =>
    intro done at0 _ hy
    have hl := hy.n
    have h60 := hb r
    rw [tm_fl, List.append_nil] at hl
    rw [if_pos rfl]
    refine od_W.rn (pc' := 6) (ls' := [some (.ref _), some (.int _), some (.int _), some (.int _)]) (st' := [.ref _, .int _]) 2 rfl ?_
    refine od_rG rfl (md_0) rfl rfl ?_
    refine od_W.rn (pc' := 10) (ls' := [some (.ref _), some (.int _), some (.int _), some (.int _)]) (st' := [.int _, .ref _, .int _]) 1 rfl ?_
    refine od_rIL rfl (md_2) (rfl) (hr) (by decide) ?_
    rw [rf_row, hl]
    refine od_r2T rfl rfl (decide_eq_true (nI_le (Nat.le_refl _) (by omega))) ?_
    refine od_W.rn (pc' := 27) (ls' := [some (.ref _), some (.int _), some (.int _), some (.int _)]) (st' := [.int _]) 1 rfl ?_
    refine od_W.fin rfl ?_
    exact ⟨rfl, rfl⟩
  | cons t todo ih =>
    intro done at0 hal hy
    have hl := hy.n
    have h60 := hb r
    have hy2 : od_hl ρ r (tm_fl done ++ (tm_t t ++ tm_fl todo)) := hy
    rw [tm_fl, List.length_append, List.length_append, tm_t_len] at hl
    rw [if_neg (by simp)]
    refine od_W.rn (pc' := 6) (ls' := [some (.ref _), some (.int _), some (.int _), some (.int _)]) (st' := [.ref _, .int _]) 2 rfl ?_
    refine od_rG rfl (md_0) rfl rfl ?_
    refine od_W.rn (pc' := 10) (ls' := [some (.ref _), some (.int _), some (.int _), some (.int _)]) (st' := [.int _, .ref _, .int _]) 1 rfl ?_
    refine od_rIL rfl (md_2) (rfl) (hr) (by decide) ?_
    rw [rf_row]
    refine od_r2F rfl (of_decide_eq_true rfl) (decide_eq_false (nI_ge (by omega) (by omega))) ?_
    refine od_W.rn (pc' := 19) (ls' := [some (.ref _), some (.int _), some (.int _), some (.int _)]) (st' := [.int _, .int _, .ref _]) 5 rfl ?_
    refine od_rV (as := [.int (nI r), .int (nI (tm_fl done).length)]) rfl rfl rfl rfl (md_0) rfl (Nat.le_of_ble_eq_true rfl) (Nat.le_of_ble_eq_true rfl) (rt_behind hb hr hal.1 hy2 rfl) (Nat.le_of_ble_eq_true rfl) (fun o M1 hq => ?_)
    obtain ⟨rfl, rfl⟩ := hq
    refine od_K.ret ?_
    refine od_W.rn (pc' := 4) (ls' := [some (.ref _), some (.int _), some (.int _), some (.int _)]) (st' := []) 2 rfl ?_
    rw [show (tm_fl done).length + (tm_t t).length = (tm_fl (done ++ [t])).length by rw [tm_fl_snoc, List.length_append]]
    refine (ih (done ++ [t]) (nI (tm_fl done).length) hal.2 (by rw [tm_fl_snoc, List.append_assoc]; exact hy2)).mono fun q M' h => ⟨?_, h.2⟩
    rw [h.1]
    cases todo with
    | nil => rw [if_pos rfl]; simp [tm_fl]
    | cons t2 todo =>
      have e9 : (t :: t2 :: todo).dropLast = t :: (t2 :: todo).dropLast := List.dropLast_cons_of_ne_nil (by simp)
      rw [if_neg (by simp), e9, tm_fl_snoc]
      conv => rhs; rw [tm_fl]
      rw [List.length_append, List.length_append, Nat.add_assoc]
theorem rt_last {r : Nat} {us : List tm_T} {t : tm_T} (hb : od_Bd ρ) (hr : r < 113) (hal : tm_al (us ++ [t])) (hy : od_hl ρ r (tm_fl (us ++ [t]))) : od_W 2 97 0 (od_ent 97 [.ref y, .int (nI r)]) [] (md M y b fu ρ) (fun q M' => q = .inl (some (.int (nI (tm_fl us).length))) ∧ M' = md M y b fu ρ) := by
  have e0 : od_ent 97 [.ref y, .int (nI r)] = [some (.ref y), some (.int (nI r)), none, none] := rfl
  rw [e0]
  refine od_W.rn (pc' := 4) (ls' := [some (.ref _), some (.int _), some (.int _), some (.int _)]) (st' := []) 4 rfl ?_
  refine (cl_la hb hr rfl (us ++ [t]) [] (nI 0) hal hy).mono fun q M' h => ⟨?_, h.2⟩
  rw [h.1, if_neg (by simp), List.dropLast_concat]
  simp [tm_fl]
theorem rt_sort {r : Nat} {ts : List tm_T} (hb : od_Bd ρ) (hr : r < 113) (hal : tm_al ts) (hy : od_hl ρ r (tm_fl ts)) : od_W 3 98 0 (od_ent 98 [.ref y, .int (nI r)]) [] (md M y b fu ρ) (fun q M' => q = .inl (some (.int (nI (tm_k ts)))) ∧ M' = md M y b fu ρ) := by
  have e0 : od_ent 98 [.ref y, .int (nI r)] = [some (.ref y), some (.int (nI r)), none] := rfl
  rw [e0]
  have h60 := hb r
  have hn := hy.n
  refine od_W.rn (pc' := 1) (ls' := [some (.ref _), some (.int _), none]) (st' := [.ref _]) 1 rfl ?_
  refine od_rG rfl (md_0) rfl rfl ?_
  refine od_W.rn (pc' := 5) (ls' := [some (.ref _), some (.int _), none]) (st' := [.int _, .ref _]) 1 rfl ?_
  refine od_rIL rfl (md_2) (rfl) (hr) (by decide) ?_
  refine od_W.rn (pc' := 8) (ls' := [some (.ref _), some (.int _), some (.int _)]) (st' := [.int _]) 2 rfl ?_
  rw [rf_row, hn]
  rcases tm_snoc ts with rfl | ⟨us, t, rfl⟩
  · refine od_r1F rfl (of_decide_eq_true rfl) (rfl) ?_
    refine od_W.rn (pc' := 31) (ls' := [some (.ref _), some (.int _), some (.int _)]) (st' := [.int _]) 2 rfl ?_
    refine od_W.fin rfl ?_
    exact ⟨rfl, rfl⟩
  · have hl : (tm_fl (us ++ [t])).length = (tm_fl us).length + (t.1.length + 3) := by rw [tm_fl_snoc, List.length_append, tm_t_len]
    refine od_r1T rfl rfl ((show (!decide (nI (tm_fl (us ++ [t])).length = 0)) = true by rw [decide_eq_false (nI_ne0 (by omega) (by omega))]; rfl)) ?_
    refine od_W.rn (pc' := 17) (ls' := [some (.ref _), some (.int _), some (.int _)]) (st' := [.int _, .ref _]) 2 rfl ?_
    refine od_rV (as := [.int (nI r)]) rfl rfl rfl rfl (md_0) rfl (Nat.le_of_ble_eq_true rfl) (Nat.le_of_ble_eq_true rfl) (rt_last hb hr hal hy) (Nat.le_of_ble_eq_true rfl) (fun o M1 hq => ?_)
    obtain ⟨rfl, rfl⟩ := hq
    refine od_K.ret ?_
    refine od_W.rn (pc' := 23) (ls' := [some (.ref _), some (.int _), some (.int _)]) (st' := [.int _, .int _]) 3 rfl ?_
    rw [show nI (tm_fl (us ++ [t])).length - Int32.ofInt 3 = nI ((tm_fl us).length + t.1.length) by rw [hl]; exact (nI_subI (a := 3) (by omega)).trans (by congr 1)]
    rw [tm_k_snoc]
    by_cases ht : t.1 = []
    · rw [if_pos ht]
      refine od_r2F rfl (of_decide_eq_true rfl) ((show (!decide (nI (tm_fl us).length = nI ((tm_fl us).length + t.1.length))) = false by rw [ht, List.length_nil, Nat.add_zero, decide_eq_true rfl]; rfl)) ?_
      refine od_W.rn (pc' := 31) (ls' := [some (.ref _), some (.int _), some (.int _)]) (st' := [.int _]) 2 rfl ?_
      refine od_W.fin rfl ?_
      exact ⟨rfl, rfl⟩
    · rw [if_neg ht]
      have hp : 0 < t.1.length := List.length_pos_iff.mpr ht
      refine od_r2T rfl rfl ((show (!decide (nI (tm_fl us).length = nI ((tm_fl us).length + t.1.length))) = true by rw [decide_eq_false (fun z => absurd ((nI_eq (by omega) (by omega)).mp z) (by omega))]; rfl)) ?_
      refine od_W.rn (pc' := 31) (ls' := [some (.ref _), some (.int _), some (.int _)]) (st' := [.int _]) 1 rfl ?_
      refine od_W.fin rfl ?_
      exact ⟨rfl, rfl⟩
theorem ct_isInf {r : Nat} (hb : od_Bd ρ) (hr : r < 113) : od_W 0 99 0 (od_ent 99 [.ref y, .int (nI r)]) [] (md M y b fu ρ) (fun q M' => q = .inl (some (.int (if (ρ r).1 ≤ 3 then 0 else 1))) ∧ M' = md M y b fu ρ) := by
  have e0 : od_ent 99 [.ref y, .int (nI r)] = [some (.ref y), some (.int (nI r))] := rfl
  rw [e0]
  have h60 := hb r
  refine od_W.rn (pc' := 1) (ls' := [some (.ref _), some (.int _)]) (st' := [.ref _]) 1 rfl ?_
  refine od_rG rfl (md_0) rfl rfl ?_
  refine od_W.rn (pc' := 5) (ls' := [some (.ref _), some (.int _)]) (st' := [.int _, .ref _]) 1 rfl ?_
  refine od_rIL rfl (md_2) (rfl) (hr) (by decide) ?_
  refine od_W.rn (pc' := 7) (ls' := [some (.ref _), some (.int _)]) (st' := [.int _, .int _]) 1 rfl ?_
  rw [rf_row]
  by_cases h : (ρ r).1 ≤ 3
  · rw [if_pos h]
    refine od_r2T rfl rfl (decide_eq_true (nI_le (b := 3) h (by omega))) ?_
    refine od_W.rn (pc' := 15) (ls' := [some (.ref _), some (.int _)]) (st' := [.int _]) 1 rfl ?_
    refine od_W.fin rfl ?_
    exact ⟨rfl, rfl⟩
  · rw [if_neg h]
    refine od_r2F rfl (of_decide_eq_true rfl) (decide_eq_false (nI_ge (a := 3) (by omega) (by omega))) ?_
    refine od_W.rn (pc' := 15) (ls' := [some (.ref _), some (.int _)]) (st' := [.int _]) 2 rfl ?_
    refine od_W.fin rfl ?_
    exact ⟨rfl, rfl⟩
theorem rc_lay {r n : Nat} (hb : od_Bd ρ) (hr : r < 113) (hn : n ≤ 1000000) : od_W 1 100 0 (od_ent 100 [.ref y, .int (nI r), .int (nI n)]) [] (md M y b fu ρ) (rf_s M y b fu ρ [r] True (fun ρ' => od_hl ρ' r (tm_num n))) := by
  have e0 : od_ent 100 [.ref y, .int (nI r), .int (nI n)] = [some (.ref y), some (.int (nI r)), some (.int (nI n))] := rfl
  rw [e0]
  unfold tm_num
  refine od_W.rn (pc' := 2) (ls' := [some (.ref _), some (.int _), some (.int _)]) (st' := [.int _, .ref _]) 2 rfl ?_
  refine od_rV (as := [.int (nI r)]) rfl rfl rfl rfl (md_0) rfl (Nat.le_of_ble_eq_true rfl) (Nat.le_of_ble_eq_true rfl) (rt_clear hb hr) (Nat.le_of_ble_eq_true rfl) (fun o M1 hq => ?_)
  obtain ⟨rfl, fu1, ρ1, rfl, f1, b1, k1, p1⟩ := hq
  refine od_K.ret ?_
  refine od_W.rn (pc' := 6) (ls' := [some (.ref _), some (.int _), some (.int _)]) (st' := [.int _]) 1 rfl ?_
  by_cases h : n = 0
  · rw [if_pos h]
    refine od_r1T rfl rfl (decide_eq_true (by rw [h]; exact Int32.le_refl _)) ?_
    refine od_W.fin rfl ?_
    exact ⟨rfl, fu1, ρ1, rfl, f1, b1, k1, p1⟩
  · rw [if_neg h]
    refine od_r1F rfl (of_decide_eq_true rfl) (decide_eq_false (nI_ge (a := 0) (by omega) (by omega))) ?_
    refine od_W.rn (pc' := 12) (ls' := [some (.ref _), some (.int _), some (.int _)]) (st' := [.int _, .int _, .ref _]) 3 rfl ?_
    refine od_rV (as := [.int (nI r), .int (nI 1)]) rfl rfl rfl rfl (md_0) rfl (Nat.le_of_ble_eq_true rfl) (Nat.le_of_ble_eq_true rfl) (rt_append b1 hr p1 (fun _ => ⟨rfl, by omega⟩)) (Nat.le_of_ble_eq_true rfl) (fun o M1 hq => ?_)
    obtain ⟨rfl, fu2, ρ2, rfl, f2, b2, k2, p2⟩ := hq
    refine od_K.ret ?_
    refine od_W.rn (pc' := 18) (ls' := [some (.ref _), some (.int _), some (.int _)]) (st' := [.int _, .int _, .ref _]) 3 rfl ?_
    refine od_rV (as := [.int (nI r), .int (nI 0)]) rfl rfl rfl rfl (md_0) rfl (Nat.le_of_ble_eq_true rfl) (Nat.le_of_ble_eq_true rfl) (rt_append b2 hr p2 (fun _ => ⟨rfl, by omega⟩)) (Nat.le_of_ble_eq_true rfl) (fun o M1 hq => ?_)
    obtain ⟨rfl, fu3, ρ3, rfl, f3, b3, k3, p3⟩ := hq
    refine od_K.ret ?_
    refine od_W.rn (pc' := 24) (ls' := [some (.ref _), some (.int _), some (.int _)]) (st' := [.int _, .int _, .ref _]) 3 rfl ?_
    refine od_rV (as := [.int (nI r), .int (nI n)]) rfl rfl rfl rfl (md_0) rfl (Nat.le_of_ble_eq_true rfl) (Nat.le_of_ble_eq_true rfl) (rt_append b3 hr p3 (fun _ => ⟨rfl, hn⟩)) (Nat.le_of_ble_eq_true rfl) (fun o M1 hq => ?_)
    obtain ⟨rfl, fu4, ρ4, rfl, f4, b4, k4, p4⟩ := hq
    refine od_K.ret ?_
    refine od_W.fin rfl ?_
    have ft : tm_ft ([] ++ [1] ++ [0] ++ [n]) := ⟨by simp, by simp [tm_sm]; omega⟩
    refine ⟨rfl, fu4, ρ4, rfl, fun q hq => (f4 q hq).trans ((f3 q hq).trans ((f2 q hq).trans (f1 q hq))), b4, ?_, p4⟩
    rw [k4, k3, k2, k1]
    exact ⟨fun z => ⟨z.1.1.1.1, trivial⟩, fun z => ⟨⟨⟨⟨z.1, trivial⟩, tm_ft_l (tm_ft_l ft)⟩, tm_ft_l ft⟩, ft⟩⟩
set_option maxRecDepth 100000 in
theorem rt_lower {r : Nat} {es : List tm_T} {s : tm_T} (hb : od_Bd ρ) (hr : r < 113) (hs : tm_ok s) (hs0 : s.1 = []) (hy : od_hl ρ r (tm_fl (es ++ [s]))) : od_W 0 101 0 (od_ent 101 [.ref y, .int (nI r)]) [] (md M y b fu ρ) (rf_s M y b fu ρ [r] True (fun ρ' => od_hl ρ' r (sp_pr (es ++ [s])))) := by
  have e0 : od_ent 101 [.ref y, .int (nI r)] = [some (.ref y), some (.int (nI r)), none] := rfl
  rw [e0]
  have h60 := hb r
  have hn := hy.n
  have hat := hy.at
  have hsm := hy.2
  have hl : (tm_fl (es ++ [s])).length = (tm_fl es).length + 3 := by rw [tm_fl_snoc, List.length_append, tm_t_len, hs0]; rfl
  have hts : tm_t s = [1, 0, s.2] := by unfold tm_t; rw [hs0]; rfl
  rw [tm_fl_snoc, hts] at hat hsm
  rw [tm_at_app, Nat.zero_add, tm_at_cons, tm_at_cons, tm_at_cons] at hat
  rw [tm_sm_app] at hsm
  have hc := hs.2
  unfold tm_c at hc
  rw [sp_pr_snoc]
  refine od_W.rn (pc' := 1) (ls' := [some (.ref _), some (.int _), none]) (st' := [.ref _]) 1 rfl ?_
  refine od_rG rfl (md_0) rfl rfl ?_
  refine od_W.rn (pc' := 5) (ls' := [some (.ref _), some (.int _), none]) (st' := [.int _, .ref _]) 1 rfl ?_
  refine od_rIL rfl (md_2) (rfl) (hr) (by decide) ?_
  refine od_W.rn (pc' := 8) (ls' := [some (.ref _), some (.int _), some (.int _)]) (st' := [.ref _]) 2 rfl ?_
  rw [rf_row, hn, hl]
  refine od_rG rfl (md_0) rfl rfl ?_
  have ix : (Int8.ofInt 64).toInt32 * nI r + nI ((tm_fl es).length + 3) - 1 = nI (64 * r + ((tm_fl es).length + 2)) := (rf_ix1 r _ (by omega)).trans (by congr 1)
  refine od_W.rn (pc' := 19) (ls' := [some (.ref _), some (.int _), some (.int _)]) (st' := [.int _, .ref _]) 7 rfl ?_
  refine od_rIL rfl (md_1) (ix) (by omega) (by decide) ?_
  rw [rf_fl_at ρ (by omega), hat.2.2.2.1]
  refine od_W.rn (pc' := 21) (ls' := [some (.ref _), some (.int _), some (.int _)]) (st' := [.int _, .int _]) 1 rfl ?_
  by_cases h1 : s.2 = 1
  · have ed : sp_dec s = [] := if_neg (by omega)
    rw [ed, List.append_nil]
    refine od_r2F rfl (of_decide_eq_true rfl) ((show (!decide (nI s.2 = nI 1)) = false by rw [h1, decide_eq_true rfl]; rfl)) ?_
    refine od_W.rn (pc' := 25) (ls' := [some (.ref _), some (.int _), some (.int _)]) (st' := [.ref _]) 1 rfl ?_
    refine od_rG rfl (md_0) rfl rfl ?_
    refine od_W.rn (pc' := 32) (ls' := [some (.ref _), some (.int _), some (.int _)]) (st' := [.int _, .int _, .ref _]) 4 rfl ?_
    rw [show nI ((tm_fl es).length + 3) - Int32.ofInt 3 = nI (tm_fl es).length from (nI_subI (a := 3) (by omega)).trans (by congr 1)]
    refine od_rIS rfl (md_2) (rfl) (hr) (by decide) ?_
    rw [rf_set_len, md_lens rf_fl_len]
    refine od_W.rn (pc' := 53) (ls' := [some (.ref _), some (.int _), some (.int _)]) (st' := []) 1 rfl ?_
    refine od_W.fin rfl ?_
    refine ⟨rfl, fu, _, rfl, fun q hq => od_rs_o (fun z => hq (by rw [z]; exact List.mem_singleton.mpr rfl)), hb.set (by dsimp only; omega), ⟨fun z => ⟨z, trivial⟩, fun z => z.1⟩, fun _ => ⟨?_, hsm.1⟩⟩
    rw [od_rs_r]
    exact ⟨rfl, hat.1⟩
  · have ed : sp_dec s = [1, 0, s.2 - 1] := by unfold sp_dec; rw [if_pos (by omega)]; unfold tm_t; rw [hs0]; rfl
    rw [ed]
    refine od_r2T rfl rfl ((show (!decide (nI s.2 = nI 1)) = true by rw [decide_eq_false (fun z => h1 ((nI_eq (by omega) (by omega)).mp z))]; rfl)) ?_
    refine od_W.rn (pc' := 37) (ls' := [some (.ref _), some (.int _), some (.int _)]) (st' := [.ref _]) 1 rfl ?_
    refine od_rG rfl (md_0) rfl rfl ?_
    refine od_W.rn (pc' := 49) (ls' := [some (.ref _), some (.int _), some (.int _)]) (st' := [.int _, .ref _, .int _, .ref _]) 8 rfl ?_
    refine od_rIL rfl (md_1) (ix) (by omega) (by decide) ?_
    rw [rf_fl_at ρ (by omega), hat.2.2.2.1]
    refine od_W.rn (pc' := 52) (ls' := [some (.ref _), some (.int _), some (.int _)]) (st' := [.int _, .int _, .ref _]) 2 rfl ?_
    rw [show nI s.2 - Int32.ofInt 1 = nI (s.2 - 1) from nI_subI (a := 1) hc.1]
    refine od_rIS rfl (md_1) (ix) (by omega) (by decide) ?_
    rw [rf_set_cell (by omega), md_cells rf_ln_cell]
    refine od_W.fin rfl ?_
    refine ⟨rfl, fu, _, rfl, fun q hq => od_rs_o (fun z => hq (by rw [z]; exact List.mem_singleton.mpr rfl)), hb.set h60, ⟨fun z => ⟨z, trivial⟩, fun z => z.1⟩, fun _ => ⟨?_, ?_⟩⟩
    · rw [od_rs_r]
      refine ⟨by dsimp only; rw [hn, hl, List.length_append]; rfl, ?_⟩
      dsimp only
      rw [tm_at_app, Nat.zero_add, tm_at_cons, tm_at_cons, tm_at_cons]
      refine ⟨fun j hj => ?_, ?_, ?_, upd_s _ _ _, tm_at_nil _ _⟩
      · rw [upd_o (by omega)]; exact hat.1 j hj
      · rw [upd_o (by omega)]; exact hat.2.1
      · rw [upd_o (by omega)]; exact hat.2.2.1
    · rw [tm_sm_app]
      exact ⟨hsm.1, by simp [tm_sm]; omega⟩
theorem md_g {g : Nat → Int32} : od_set (md M y b fu ρ) (y + 1) (od_ia 7360 (rf_fl g ρ)) = md M y (b.1, b.2.1, b.2.2.1, g) fu ρ := by
  refine od_Meq rfl rfl (fun a => ?_)
  show va_up (md M y b fu ρ).2.2 (y + 1) _ a = (if a = y then _ else if a = y + 1 then _ else _)
  by_cases h : a = y + 1
  · subst h; rw [va_up_self, if_neg (by omega), if_pos rfl]
  · rw [va_up_ne _ _ h, if_neg h]
    show (if a = y then _ else if a = y + 1 then _ else _) = _
    rw [if_neg h]
/-- of an empty row the cell before it falls: it is no cell of a row -/
theorem rt_lower0 {r : Nat} {c : Int32} (hr : r < 113) (h1 : 1 ≤ r) (h0 : (ρ r).1 = 0) (hc : b.2.2.2 (64 * r - 1) = c) (hc1 : c ≠ 1) : od_W 0 101 0 (od_ent 101 [.ref y, .int (nI r)]) [] (md M y b fu ρ) (fun o M' => o = .inl none ∧ M' = md M y (b.1, b.2.1, b.2.2.1, upd b.2.2.2 (64 * r - 1) (c - 1)) fu ρ) := by
  have e0 : od_ent 101 [.ref y, .int (nI r)] = [some (.ref y), some (.int (nI r)), none] := rfl
  rw [e0]
  have hm : (64 * r - 1) % 64 = 63 := by omega
  have hfl : rf_fl b.2.2.2 ρ (64 * r - 1) = c := by unfold rf_fl; rw [if_neg (by omega)]; exact hc
  have ix : (Int8.ofInt 64).toInt32 * nI r + nI 0 - 1 = nI (64 * r - 1) := rf_ix1 r 0 (by omega)
  refine od_W.rn (pc' := 1) (ls' := [some (.ref _), some (.int _), none]) (st' := [.ref _]) 1 rfl ?_
  refine od_rG rfl (md_0) rfl rfl ?_
  refine od_W.rn (pc' := 5) (ls' := [some (.ref _), some (.int _), none]) (st' := [.int _, .ref _]) 1 rfl ?_
  refine od_rIL rfl (md_2) (rfl) (hr) (by decide) ?_
  refine od_W.rn (pc' := 8) (ls' := [some (.ref _), some (.int _), some (.int _)]) (st' := [.ref _]) 2 rfl ?_
  rw [rf_row, h0]
  refine od_rG rfl (md_0) rfl rfl ?_
  refine od_W.rn (pc' := 19) (ls' := [some (.ref _), some (.int _), some (.int _)]) (st' := [.int _, .ref _]) 7 rfl ?_
  refine od_rIL rfl (md_1) (ix) (by omega) (by decide) ?_
  rw [hfl]
  refine od_W.rn (pc' := 21) (ls' := [some (.ref _), some (.int _), some (.int _)]) (st' := [.int _, .int _]) 1 rfl ?_
  refine od_r2T rfl rfl ((show (!decide (c = 1)) = true by rw [decide_eq_false hc1]; rfl)) ?_
  refine od_W.rn (pc' := 37) (ls' := [some (.ref _), some (.int _), some (.int _)]) (st' := [.ref _]) 1 rfl ?_
  refine od_rG rfl (md_0) rfl rfl ?_
  refine od_W.rn (pc' := 49) (ls' := [some (.ref _), some (.int _), some (.int _)]) (st' := [.int _, .ref _, .int _, .ref _]) 8 rfl ?_
  refine od_rIL rfl (md_1) (ix) (by omega) (by decide) ?_
  rw [hfl]
  refine od_W.rn (pc' := 52) (ls' := [some (.ref _), some (.int _), some (.int _)]) (st' := [.int _, .int _, .ref _]) 2 rfl ?_
  refine od_rIS rfl (md_1) (ix) (by omega) (by decide) ?_
  have eu : upd (rf_fl b.2.2.2 ρ) (64 * r - 1) (c - 1) = rf_fl (upd b.2.2.2 (64 * r - 1) (c - 1)) ρ := by
    funext a
    show (if a = 64 * r - 1 then c - 1 else rf_fl b.2.2.2 ρ a) = (if a % 64 < 60 then _ else (if a = 64 * r - 1 then c - 1 else b.2.2.2 a))
    by_cases h : a = 64 * r - 1
    · rw [if_pos h, if_neg (by omega), if_pos h]
    · rw [if_neg h, if_neg h]; rfl
  rw [show upd (rf_fl b.2.2.2 ρ) (64 * r - 1) (c - Int32.ofInt 1) = rf_fl (upd b.2.2.2 (64 * r - 1) (c - 1)) ρ from eu, md_g]
  refine od_W.fin rfl ?_
  exact ⟨rfl, rfl⟩
end RR2
