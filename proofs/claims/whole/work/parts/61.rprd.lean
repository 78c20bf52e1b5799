/-! The reference's product. -/
section RPD
variable {M : od_M} {y : Nat} {b : rf_B} {ρ0 : od_Rm}
abbrev rf_PU (r : Nat) : List Nat := [r, 64, 65, 68, 69, 70]
set_option maxRecDepth 100000 in
theorem gw_prd_loop {p q r f : Nat} {c : Int64} (hp : p < 113) (hq' : q < 113) (hr : r < 113) (nr : r ∉ [64, 65, 68, 69, 70]) (np : p ∉ rf_PU r) (nq : q ∉ rf_PU r) (hf : f ≤ 190) : ∀ (m k : Nat) (ρ : od_Rm) (w8 w9 w10 : Option Value), 60 < k + m → k ≤ 190 → od_Bd ρ → (∀ a, a ∉ rf_PU r → ρ a = ρ0 a) → od_W 5 104 46 [some (.ref y), some (.int (nI p)), some (.int (nI q)), some (.int (nI r)), some (.int (nI f)), some (.long c), none, some (.int (nI k)), w8, w9, w10] [] (md M y b true ρ) (rf_t M y b ρ0 (rf_PU r)) := by
  intro m
  induction m with
  | zero =>
    intro k ρ w8 w9 w10 hm hk hb g
    have l1 := hb q
    refine od_W.rn (pc' := 49) (ls' := [some (.ref _), some (.int _), some (.int _), some (.int _), some (.int _), some (.long _), none, some (.int _), _, _, _]) (st' := [.ref _, .int _]) 2 rfl ?_
    refine od_rG rfl (md_0) rfl rfl ?_
    refine od_W.rn (pc' := 53) (ls' := [some (.ref _), some (.int _), some (.int _), some (.int _), some (.int _), some (.long _), none, some (.int _), _, _, _]) (st' := [.int _, .ref _, .int _]) 1 rfl ?_
    refine od_rIL rfl (md_2) (rfl) (hq') (by decide) ?_
    rw [rf_row]
    refine od_r2T rfl rfl (decide_eq_true (nI_le (by omega) (by omega))) ?_
    refine od_W.fin rfl ?_
    exact ⟨rfl, ρ, rfl, g, hb⟩
  | succ m ih =>
    intro k ρ w8 w9 w10 hm hk hb g
    have l1 := hb q
    refine od_W.rn (pc' := 49) (ls' := [some (.ref _), some (.int _), some (.int _), some (.int _), some (.int _), some (.long _), none, some (.int _), _, _, _]) (st' := [.ref _, .int _]) 2 rfl ?_
    refine od_rG rfl (md_0) rfl rfl ?_
    refine od_W.rn (pc' := 53) (ls' := [some (.ref _), some (.int _), some (.int _), some (.int _), some (.int _), some (.long _), none, some (.int _), _, _, _]) (st' := [.int _, .ref _, .int _]) 1 rfl ?_
    refine od_rIL rfl (md_2) (rfl) (hq') (by decide) ?_
    rw [rf_row]
    by_cases hkl : k < (ρ q).1
    · refine od_r2F rfl (of_decide_eq_true rfl) (decide_eq_false (nI_ge hkl (by omega))) ?_
      refine od_W.rn (pc' := 61) (ls' := [some (.ref _), some (.int _), some (.int _), some (.int _), some (.int _), some (.long _), none, some (.int _), _, _, _]) (st' := [.int _, .int _, .ref _]) 3 rfl ?_
      refine od_rV (as := [.int (nI q), .int (nI k)]) rfl rfl rfl rfl (md_0) rfl (Nat.le_of_ble_eq_true rfl) (Nat.le_of_ble_eq_true rfl) (gw_behind hb hq' (by omega)) (Nat.le_of_ble_eq_true rfl) (fun o M1 hq => ?_)
      obtain ⟨⟨e, he1, he2, rfl⟩, rfl⟩ := hq
      refine od_K.ret ?_
      refine od_W.rn (pc' := 74) (ls' := [some (.ref _), some (.int _), some (.int _), some (.int _), some (.int _), some (.long _), none, some (.int _), some (.int _), _, _]) (st' := [.int _, .int _, .int _, .int _, .ref _]) 6 rfl ?_
      refine od_rV (as := [.int (nI q), .int (nI k), .int (nI e), .int (nI 69)]) rfl rfl rfl rfl (md_0) rfl (Nat.le_of_ble_eq_true rfl) (Nat.le_of_ble_eq_true rfl) (rc_exponent (fu := true) (u := []) (z := []) (t := ([], 0)) hb (by omega) hq' (od_ne nq (by simp)) (by omega) (by omega) he2 (fun z => absurd z (by decide))) (Nat.le_of_ble_eq_true rfl) (fun o M1 hq => ?_)
      replace hq := hq.t
      obtain ⟨rfl, ρ1, rfl, f1, b1⟩ := hq
      refine od_K.ret ?_
      refine od_W.rn (pc' := 81) (ls' := [some (.ref _), some (.int _), some (.int _), some (.int _), some (.int _), some (.long _), none, some (.int _), some (.int _), _, _]) (st' := [.int _, .int _, .ref _]) 3 rfl ?_
      refine od_rV (as := [.int (nI q), .int (nI e)]) rfl rfl rfl rfl (md_0) rfl (Nat.le_of_ble_eq_true rfl) (Nat.le_of_ble_eq_true rfl) (ct_coef (by omega) (by omega)) (Nat.le_of_ble_eq_true rfl) (fun o M1 hq => ?_)
      obtain ⟨rfl, rfl⟩ := hq
      refine od_K.ret ?_
      have g1 : ∀ a, a ∉ rf_PU r → ρ1 a = ρ0 a := fun a ha => (f1 a (od_nn ha (by simp))).trans (g a ha)
      refine od_W.rn (pc' := 88) (ls' := [some (.ref _), some (.int _), some (.int _), some (.int _), some (.int _), some (.long _), none, some (.int _), some (.int _), some (.long _), none]) (st' := [.ref _]) 3 rfl ?_
      refine od_rG rfl (md_0) rfl rfl ?_
      refine od_W.rn (pc' := 93) (ls' := [some (.ref _), some (.int _), some (.int _), some (.int _), some (.int _), some (.long _), none, some (.int _), some (.int _), some (.long _), none]) (st' := [.int _, .ref _]) 1 rfl ?_
      refine od_rIL rfl (md_2) ((show (Int8.ofInt 69).toInt32 = nI 69 from rfl)) (by omega) (by decide) ?_
      rw [rf_row]
      have l2 := b1 69
      by_cases h0 : (ρ1 69).1 = 0
      · refine od_r1F rfl (of_decide_eq_true rfl) ((show (!decide (nI (ρ1 69).1 = 0)) = false by rw [h0]; rfl)) ?_
        refine od_W.rn (pc' := 106) (ls' := [some (.ref _), some (.int _), some (.int _), some (.int _), some (.int _), some (.long _), none, some (.int _), some (.int _), some (.long _), none]) (st' := [.long _, .int _, .int _, .ref _]) 6 rfl ?_
        refine od_rV (as := [.int (nI r), .int (nI 68), .long _]) rfl rfl rfl rfl (md_0) rfl (Nat.le_of_ble_eq_true rfl) (Nat.le_of_ble_eq_true rfl) (gw_appendTerm b1 hr (by omega) (Ne.symm (od_ne nr (by simp)))) (Nat.le_of_ble_eq_true rfl) (fun o M1 hq => ?_)
        obtain ⟨rfl, ρ2, rfl, f2, b2⟩ := hq
        refine od_K.ret ?_
        have l3 := b2 p
        refine od_W.rn (pc' := 115) (ls' := [some (.ref _), some (.int _), some (.int _), some (.int _), some (.int _), some (.long _), none, some (.int _), some (.int _), some (.long _), none]) (st' := [.ref _, .int _, .int _, .int _, .ref _]) 5 rfl ?_
        refine od_rG rfl (md_0) rfl rfl ?_
        refine od_W.rn (pc' := 119) (ls' := [some (.ref _), some (.int _), some (.int _), some (.int _), some (.int _), some (.long _), none, some (.int _), some (.int _), some (.long _), none]) (st' := [.int _, .ref _, .int _, .int _, .int _, .ref _]) 1 rfl ?_
        refine od_rIL rfl (md_2) (rfl) (hp) (by decide) ?_
        rw [rf_row]
        refine od_rV (as := [.int (nI r), .int (nI p), .int (nI f), .int (nI (ρ2 p).1)]) rfl rfl rfl rfl (md_0) rfl (Nat.le_of_ble_eq_true rfl) (Nat.le_of_ble_eq_true rfl) (gw_appendPart b2 hr hp (by omega) (by omega)) (Nat.le_of_ble_eq_true rfl) (fun o M1 hq => ?_)
        obtain ⟨rfl, ρ3, rfl, f3, b3⟩ := hq
        refine od_K.ret ?_
        refine od_W.rn (pc' := 46) (ls' := [some (.ref _), some (.int _), some (.int _), some (.int _), some (.int _), some (.long _), none, some (.int _), some (.int _), some (.long _), none]) (st' := []) 4 rfl ?_
        exact ih e ρ3 _ _ _ (by omega) he2 b3 (fun a ha => (f3 a (od_nn ha (by simp))).trans ((f2 a (od_nn ha (by simp))).trans (g1 a ha)))
      · refine od_r1T rfl rfl ((show (!decide (nI (ρ1 69).1 = 0)) = true by rw [decide_eq_false (nI_ne0 (by omega) (by omega))]; rfl)) ?_
        refine od_W.rn (pc' := 133) (ls' := [some (.ref _), some (.int _), some (.int _), some (.int _), some (.int _), some (.long _), none, some (.int _), some (.int _), some (.long _), none]) (st' := [.int _, .int _, .int _, .ref _]) 4 rfl ?_
        refine od_rV (as := [.int (nI 68), .int (nI 69), .int (nI 70)]) rfl rfl rfl rfl (md_0) rfl (Nat.le_of_ble_eq_true rfl) (Nat.le_of_ble_eq_true rfl) (gw_sum (by omega) (by omega) (by omega) (by simp) (by simp) (by simp) b1) (Nat.le_of_ble_eq_true rfl) (fun o M1 hq => ?_)
        obtain ⟨rfl, ρ2, rfl, f2, b2⟩ := hq
        refine od_K.ret ?_
        refine od_W.rn (pc' := 142) (ls' := [some (.ref _), some (.int _), some (.int _), some (.int _), some (.int _), some (.long _), none, some (.int _), some (.int _), some (.long _), none]) (st' := [.long _, .int _, .int _, .ref _]) 4 rfl ?_
        refine od_rV (as := [.int (nI r), .int (nI 70), .long _]) rfl rfl rfl rfl (md_0) rfl (Nat.le_of_ble_eq_true rfl) (Nat.le_of_ble_eq_true rfl) (gw_appendTerm b2 hr (by omega) (Ne.symm (od_ne nr (by simp)))) (Nat.le_of_ble_eq_true rfl) (fun o M1 hq => ?_)
        obtain ⟨rfl, ρ3, rfl, f3, b3⟩ := hq
        refine od_K.ret ?_
        refine od_W.rn (pc' := 46) (ls' := [some (.ref _), some (.int _), some (.int _), some (.int _), some (.int _), some (.long _), none, some (.int _), some (.int _), some (.long _), none]) (st' := []) 3 rfl ?_
        exact ih e ρ3 _ _ _ (by omega) he2 b3 (fun a ha => (f3 a (od_nn ha (by simp))).trans ((f2 a (od_nn ha (by simp))).trans (g1 a ha)))
    · refine od_r2T rfl rfl (decide_eq_true (nI_le (by omega) (by omega))) ?_
      refine od_W.fin rfl ?_
      exact ⟨rfl, ρ, rfl, g, hb⟩
theorem gw_prd {p q r : Nat} {ρ : od_Rm} (hp : p < 113) (hq' : q < 113) (hr : r < 113) (nr : r ∉ [64, 65, 68, 69, 70]) (np : p ∉ rf_PU r) (nq : q ∉ rf_PU r) (hb : od_Bd ρ) : od_W 5 104 0 (od_ent 104 [.ref y, .int (nI p), .int (nI q), .int (nI r)]) [] (md M y b true ρ) (rf_t M y b ρ (rf_PU r)) := by
  have e0 : od_ent 104 [.ref y, .int (nI p), .int (nI q), .int (nI r)] = [some (.ref y), some (.int (nI p)), some (.int (nI q)), some (.int (nI r)), none, none, none, none, none, none, none] := rfl
  rw [e0]
  refine od_W.rn (pc' := 2) (ls' := [some (.ref _), some (.int _), some (.int _), some (.int _), none, none, none, none, none, none, none]) (st' := [.int _, .ref _]) 2 rfl ?_
  refine od_rV (as := [.int (nI r)]) rfl rfl rfl rfl (md_0) rfl (Nat.le_of_ble_eq_true rfl) (Nat.le_of_ble_eq_true rfl) (rt_clear hb hr) (Nat.le_of_ble_eq_true rfl) (fun o M1 hq => ?_)
  replace hq := hq.t
  obtain ⟨rfl, ρ1, rfl, f1, b1⟩ := hq
  refine od_K.ret ?_
  refine od_W.rn (pc' := 6) (ls' := [some (.ref _), some (.int _), some (.int _), some (.int _), none, none, none, none, none, none, none]) (st' := [.ref _]) 1 rfl ?_
  refine od_rG rfl (md_0) rfl rfl ?_
  refine od_W.rn (pc' := 10) (ls' := [some (.ref _), some (.int _), some (.int _), some (.int _), none, none, none, none, none, none, none]) (st' := [.int _, .ref _]) 1 rfl ?_
  refine od_rIL rfl (md_2) (rfl) (hp) (by decide) ?_
  rw [rf_row]
  have l1 := b1 p
  by_cases h0 : (ρ1 p).1 = 0
  · refine od_r1F rfl (of_decide_eq_true rfl) ((show (!decide (nI (ρ1 p).1 = 0)) = false by rw [h0]; rfl)) ?_
    refine od_W.fin rfl ?_
    exact ⟨rfl, ρ1, rfl, fun a ha => f1 a (od_nn ha (by simp)), b1⟩
  · refine od_r1T rfl rfl ((show (!decide (nI (ρ1 p).1 = 0)) = true by rw [decide_eq_false (nI_ne0 (by omega) (by omega))]; rfl)) ?_
    refine od_W.rn (pc' := 18) (ls' := [some (.ref _), some (.int _), some (.int _), some (.int _), none, none, none, none, none, none, none]) (st' := [.int _, .int _, .ref _]) 3 rfl ?_
    refine od_rV (as := [.int (nI p), .int (nI 0)]) rfl rfl rfl rfl (md_0) rfl (Nat.le_of_ble_eq_true rfl) (Nat.le_of_ble_eq_true rfl) (gw_behind b1 hp (by omega)) (Nat.le_of_ble_eq_true rfl) (fun o M1 hq => ?_)
    obtain ⟨⟨e, he1, he2, rfl⟩, rfl⟩ := hq
    refine od_K.ret ?_
    refine od_W.rn (pc' := 30) (ls' := [some (.ref _), some (.int _), some (.int _), some (.int _), some (.int _), none, none, none, none, none, none]) (st' := [.int _, .int _, .int _, .int _, .ref _]) 6 rfl ?_
    refine od_rV (as := [.int (nI p), .int (nI 0), .int (nI e), .int (nI 68)]) rfl rfl rfl rfl (md_0) rfl (Nat.le_of_ble_eq_true rfl) (Nat.le_of_ble_eq_true rfl) (rc_exponent (fu := true) (u := []) (z := []) (t := ([], 0)) b1 (by omega) hp (od_ne np (by simp)) (by omega) (by omega) he2 (fun z => absurd z (by decide))) (Nat.le_of_ble_eq_true rfl) (fun o M1 hq => ?_)
    replace hq := hq.t
    obtain ⟨rfl, ρ2, rfl, f2, b2⟩ := hq
    refine od_K.ret ?_
    refine od_W.rn (pc' := 37) (ls' := [some (.ref _), some (.int _), some (.int _), some (.int _), some (.int _), none, none, none, none, none, none]) (st' := [.int _, .int _, .ref _]) 3 rfl ?_
    refine od_rV (as := [.int (nI p), .int (nI e)]) rfl rfl rfl rfl (md_0) rfl (Nat.le_of_ble_eq_true rfl) (Nat.le_of_ble_eq_true rfl) (ct_coef (by omega) (by omega)) (Nat.le_of_ble_eq_true rfl) (fun o M1 hq => ?_)
    obtain ⟨rfl, rfl⟩ := hq
    refine od_K.ret ?_
    refine od_W.rn (pc' := 46) (ls' := [some (.ref _), some (.int _), some (.int _), some (.int _), some (.int _), some (.long _), none, some (.int _), none, none, none]) (st' := []) 4 rfl ?_
    exact gw_prd_loop hp hq' hr nr np nq he2 61 0 ρ2 none none none (by omega) (by omega) b2 (fun a ha => (f2 a (od_nn ha (by simp))).trans (f1 a (od_nn ha (by simp))))
set_option maxRecDepth 100000 in
theorem rt_prd_loop {p q r : Nat} (hp : p < 113) (hq' : q < 113) (hr : r < 113) (nr : r ∉ [64, 65, 68, 69, 70]) (np : p ∉ rf_PU r) (nq : q ∉ rf_PU r) {t : tm_T} {ts : List tm_T} (h1 : tm_al (t :: ts)) {fu0 : Bool} {ok0 : Prop} {P0 : od_Rm → Prop} : ∀ (todo done : List tm_T) (fu : Bool) (ρ : od_Rm) (zs : List Nat) (w8 w9 w10 : Option Value), tm_al todo → od_Bd ρ → (∀ a, a ∉ rf_PU r → ρ a = ρ0 a) → od_hl ρ p (tm_t t ++ tm_fl ts) → od_hl ρ q (tm_fl done ++ tm_fl todo) → (fu = false → od_hl ρ r zs ∧ od_hl ρ 68 t.1) → (fu = false ∧ tm_ft (zs ++ tm_fl (sp_ml t ts todo)) ↔ fu0 = false ∧ ok0) → (∀ ρ', od_hl ρ' r (zs ++ tm_fl (sp_ml t ts todo)) → P0 ρ') → od_W 5 104 46 [some (.ref y), some (.int (nI p)), some (.int (nI q)), some (.int (nI r)), some (.int (nI (tm_t t).length)), some (.long (lN t.2)), none, some (.int (nI (tm_fl done).length)), w8, w9, w10] [] (md M y b fu ρ) (rf_s M y b fu0 ρ0 (rf_PU r) ok0 P0) := by
  intro todo
  induction todo with
  | nil =>
    intro done fu ρ zs w8 w9 w10 hal hb g hx hy hz hok hP
    have hl := hy.n
    have l1 := hb q
    rw [tm_fl, List.append_nil] at hl
    rw [show tm_fl (sp_ml t ts []) = [] from rfl, List.append_nil] at hok hP
    refine od_W.rn (pc' := 49) (ls' := [some (.ref _), some (.int _), some (.int _), some (.int _), some (.int _), some (.long _), none, some (.int _), _, _, _]) (st' := [.ref _, .int _]) 2 rfl ?_
    refine od_rG rfl (md_0) rfl rfl ?_
    refine od_W.rn (pc' := 53) (ls' := [some (.ref _), some (.int _), some (.int _), some (.int _), some (.int _), some (.long _), none, some (.int _), _, _, _]) (st' := [.int _, .ref _, .int _]) 1 rfl ?_
    refine od_rIL rfl (md_2) (rfl) (hq') (by decide) ?_
    rw [rf_row, hl]
    refine od_r2T rfl rfl (decide_eq_true (nI_le (Nat.le_refl _) (by omega))) ?_
    refine od_W.fin rfl ?_
    refine ⟨rfl, fu, ρ, rfl, g, hb, ?_, fun z => hP ρ (hz z).1⟩
    rw [← hok]
    exact ⟨fun z => ⟨z, (hz z).1.le hb, (hz z).1.2⟩, fun z => z.1⟩
  | cons u todo ih =>
    intro done fu ρ zs w8 w9 w10 hal hb g hx hy hz hok hP
    have hl := hy.n
    have l1 := hb q
    have hx60 := hx.le hb
    rw [List.length_append, tm_t_len] at hx60
    rw [tm_fl, List.length_append, List.length_append, tm_t_len] at hl
    cases fu with
    | true =>
      have := gw_prd_loop (M := M) (y := y) (b := b) (ρ0 := ρ0) (f := (tm_t t).length) (c := lN t.2) hp hq' hr nr np nq (by rw [tm_t_len]; omega) 61 (tm_fl done).length ρ w8 w9 w10 (by omega) (by omega) hb g
      refine this.mono fun o M' h => ?_
      obtain ⟨q1, ρ', q2, q3, q4⟩ := h
      refine ⟨q1, true, ρ', q2, q3, q4, ?_, fun z => absurd z (by decide)⟩
      rw [← hok]
      exact ⟨fun z => absurd z (by decide), fun z => absurd z.1 (by decide)⟩
    | false =>
      have hy2 : od_hl ρ q (tm_fl done ++ (tm_t u ++ tm_fl todo)) := hy
      have e : (tm_fl done).length + (tm_t u).length = (tm_fl (done ++ [u])).length := by rw [tm_fl_snoc, List.length_append]
      have huc := hal.1.2.2
      have hcd := tm_c_mul h1.1.2 hal.1.2
      rw [show sp_ml t ts (u :: todo) = sp_m1 t ts u ++ sp_ml t ts todo from rfl, tm_fl_app] at hok hP
      refine od_W.rn (pc' := 49) (ls' := [some (.ref _), some (.int _), some (.int _), some (.int _), some (.int _), some (.long _), none, some (.int _), _, _, _]) (st' := [.ref _, .int _]) 2 rfl ?_
      refine od_rG rfl (md_0) rfl rfl ?_
      refine od_W.rn (pc' := 53) (ls' := [some (.ref _), some (.int _), some (.int _), some (.int _), some (.int _), some (.long _), none, some (.int _), _, _, _]) (st' := [.int _, .ref _, .int _]) 1 rfl ?_
      refine od_rIL rfl (md_2) (rfl) (hq') (by decide) ?_
      rw [rf_row]
      refine od_r2F rfl (of_decide_eq_true rfl) (decide_eq_false (nI_ge (by omega) (by omega))) ?_
      refine od_W.rn (pc' := 61) (ls' := [some (.ref _), some (.int _), some (.int _), some (.int _), some (.int _), some (.long _), none, some (.int _), _, _, _]) (st' := [.int _, .int _, .ref _]) 3 rfl ?_
      refine od_rV (as := [.int (nI q), .int (nI (tm_fl done).length)]) rfl rfl rfl rfl (md_0) rfl (Nat.le_of_ble_eq_true rfl) (Nat.le_of_ble_eq_true rfl) (rt_behind hb hq' hal.1 hy2 rfl) (Nat.le_of_ble_eq_true rfl) (fun o M1 hq => ?_)
      obtain ⟨rfl, rfl⟩ := hq
      refine od_K.ret ?_
      refine od_W.rn (pc' := 74) (ls' := [some (.ref _), some (.int _), some (.int _), some (.int _), some (.int _), some (.long _), none, some (.int _), some (.int _), _, _]) (st' := [.int _, .int _, .int _, .int _, .ref _]) 6 rfl ?_
      refine od_rV (as := [.int (nI q), .int (nI (tm_fl done).length), .int (nI ((tm_fl done).length + (tm_t u).length)), .int (nI 69)]) rfl rfl rfl rfl (md_0) rfl (Nat.le_of_ble_eq_true rfl) (Nat.le_of_ble_eq_true rfl) (rc_exponent hb (by omega) hq' (od_ne nq (by simp)) (by omega) (by rw [tm_t_len]; omega) (by rw [tm_t_len]; omega) (fun _ => ⟨hy2, rfl, rfl⟩)) (Nat.le_of_ble_eq_true rfl) (fun o M1 hq => ?_)
      obtain ⟨rfl, fu1, ρ1, rfl, f1, b1, k1, p1⟩ := hq
      refine od_K.ret ?_
      have hf1 : fu1 = false := k1.mpr ⟨rfl, trivial⟩
      subst hf1
      have g1 : ∀ a, a ∉ rf_PU r → ρ1 a = ρ0 a := fun a ha => (f1 a (od_nn ha (by simp))).trans (g a ha)
      have hx3 := hx.fr (f1 p (od_n1 (od_ne np (by simp))))
      have hy3 := hy2.fr (f1 q (od_n1 (od_ne nq (by simp))))
      have hz3 := (hz rfl).1.fr (f1 r (od_n1 (od_ne nr (by simp))))
      have h68 := (hz rfl).2.fr (f1 68 (by simp))
      have h69 := p1 rfl
      refine od_W.rn (pc' := 81) (ls' := [some (.ref _), some (.int _), some (.int _), some (.int _), some (.int _), some (.long _), none, some (.int _), some (.int _), _, _]) (st' := [.int _, .int _, .ref _]) 3 rfl ?_
      refine od_rV (as := [.int (nI q), .int (nI ((tm_fl done).length + (tm_t u).length))]) rfl rfl rfl rfl (md_0) rfl (Nat.le_of_ble_eq_true rfl) (Nat.le_of_ble_eq_true rfl) (rt_coef hq' b1 hy3 rfl) (Nat.le_of_ble_eq_true rfl) (fun o M1 hq => ?_)
      obtain ⟨rfl, rfl⟩ := hq
      refine od_K.ret ?_
      refine od_W.rn (pc' := 88) (ls' := [some (.ref _), some (.int _), some (.int _), some (.int _), some (.int _), some (.long _), none, some (.int _), some (.int _), some (.long _), none]) (st' := [.ref _]) 3 rfl ?_
      refine od_rG rfl (md_0) rfl rfl ?_
      refine od_W.rn (pc' := 93) (ls' := [some (.ref _), some (.int _), some (.int _), some (.int _), some (.int _), some (.long _), none, some (.int _), some (.int _), some (.long _), none]) (st' := [.int _, .ref _]) 1 rfl ?_
      refine od_rIL rfl (md_2) ((show (Int8.ofInt 69).toInt32 = nI 69 from rfl)) (by omega) (by decide) ?_
      rw [rf_row, h69.n, nI_1000 huc, e]
      by_cases h0 : u.1 = []
      · rw [show sp_m1 t ts u = (t.1, t.2 * u.2) :: ts from if_pos h0, tm_fl, List.append_assoc, ← List.append_assoc zs, ← List.append_assoc (zs ++ _)] at hok hP
        refine od_r1F rfl (of_decide_eq_true rfl) ((show (!decide (nI u.1.length = 0)) = false by rw [h0]; rfl)) ?_
        refine od_W.rn (pc' := 106) (ls' := [some (.ref _), some (.int _), some (.int _), some (.int _), some (.int _), some (.long _), none, some (.int _), some (.int _), some (.long _), none]) (st' := [.long _, .int _, .int _, .ref _]) 6 rfl ?_
        rw [lN_mul]
        refine od_rV (as := [.int (nI r), .int (nI 68), .long (lN (t.2 * u.2))]) rfl rfl rfl rfl (md_0) rfl (Nat.le_of_ble_eq_true rfl) (Nat.le_of_ble_eq_true rfl) (rc_appendTerm b1 hr (by omega) (Ne.symm (od_ne nr (by simp))) (fun _ => ⟨h68, rfl, hcd.2⟩) (fun _ => hz3)) (Nat.le_of_ble_eq_true rfl) (fun o M1 hq => ?_)
        obtain ⟨rfl, fu2, ρ2, rfl, f2, b2, k2, p2⟩ := hq
        refine od_K.ret ?_
        have hx4 := hx3.fr (f2 p (od_n1 (od_ne np (by simp))))
        refine od_W.rn (pc' := 115) (ls' := [some (.ref _), some (.int _), some (.int _), some (.int _), some (.int _), some (.long _), none, some (.int _), some (.int _), some (.long _), none]) (st' := [.ref _, .int _, .int _, .int _, .ref _]) 5 rfl ?_
        refine od_rG rfl (md_0) rfl rfl ?_
        refine od_W.rn (pc' := 119) (ls' := [some (.ref _), some (.int _), some (.int _), some (.int _), some (.int _), some (.long _), none, some (.int _), some (.int _), some (.long _), none]) (st' := [.int _, .ref _, .int _, .int _, .int _, .ref _]) 1 rfl ?_
        refine od_rIL rfl (md_2) (rfl) (hp) (by decide) ?_
        rw [rf_row, hx4.n]
        refine od_rV (as := [.int (nI r), .int (nI p), .int (nI (tm_t t).length), .int (nI (tm_t t ++ tm_fl ts).length)]) rfl rfl rfl rfl (md_0) rfl (Nat.le_of_ble_eq_true rfl) (Nat.le_of_ble_eq_true rfl) (rt_appendPart (z := []) b2 hr hp (od_ne np (by simp)) (by rw [List.append_nil]; exact hx4) rfl (by rw [List.length_append]) p2) (Nat.le_of_ble_eq_true rfl) (fun o M1 hq => ?_)
        obtain ⟨rfl, fu3, ρ3, rfl, f3, b3, k3, p3⟩ := hq
        refine od_K.ret ?_
        refine od_W.rn (pc' := 46) (ls' := [some (.ref _), some (.int _), some (.int _), some (.int _), some (.int _), some (.long _), none, some (.int _), some (.int _), some (.long _), none]) (st' := []) 4 rfl ?_
        refine ih (done ++ [u]) fu3 ρ3 _ _ _ _ hal.2 b3 (fun a ha => (f3 a (od_nn ha (by simp))).trans ((f2 a (od_nn ha (by simp))).trans (g1 a ha))) (hx4.fr (f3 p (od_n1 (od_ne np (by simp))))) (by rw [tm_fl_snoc, List.append_assoc]; exact (hy3.fr (f2 q (od_n1 (od_ne nq (by simp))))).fr (f3 q (od_n1 (od_ne nq (by simp))))) (fun z => ⟨p3 z, (h68.fr (f2 68 (od_n1 (Ne.symm (od_ne nr (by simp)))))).fr (f3 68 (od_n1 (Ne.symm (od_ne nr (by simp)))))⟩) ?_ hP
        rw [← hok, k3, k2]
        exact ⟨fun z => ⟨rfl, z.2⟩, fun z => ⟨⟨⟨rfl, tm_ft_l (tm_ft_l z.2)⟩, tm_ft_l z.2⟩, z.2⟩⟩
      · have hpos : 0 < u.1.length := List.length_pos_iff.mpr h0
        have a1 := tm_al_tp h1.1.1
        have a2 := tm_al_tp hal.1.1
        have hu60 := h69.le b1
        rw [show sp_m1 t ts u = [(tm_fl (sp_sum (tm_tp t.1) (tm_tp u.1)), u.2)] from if_neg h0, tm_fl_one] at hok hP
        refine od_r1T rfl rfl ((show (!decide (nI u.1.length = 0)) = true by rw [decide_eq_false (nI_ne0 hpos (by omega))]; rfl)) ?_
        refine od_W.rn (pc' := 133) (ls' := [some (.ref _), some (.int _), some (.int _), some (.int _), some (.int _), some (.long _), none, some (.int _), some (.int _), some (.long _), none]) (st' := [.int _, .int _, .int _, .ref _]) 4 rfl ?_
        refine od_rV (as := [.int (nI 68), .int (nI 69), .int (nI 70)]) rfl rfl rfl rfl (md_0) rfl (Nat.le_of_ble_eq_true rfl) (Nat.le_of_ble_eq_true rfl) (rc_sum (ts := tm_tp t.1) (us := tm_tp u.1) (by omega) (by omega) (by omega) (by simp) (by simp) (by simp) b1 (fun _ => ⟨⟨by rw [tm_fl_tp h1.1.1]; exact h68, a1⟩, by rw [tm_fl_tp hal.1.1]; exact h69, a2⟩)) (Nat.le_of_ble_eq_true rfl) (fun o M1 hq => ?_)
        obtain ⟨rfl, fu2, ρ2, rfl, f2, b2, k2, p2⟩ := hq
        refine od_K.ret ?_
        have hz4 := hz3.fr (f2 r (od_nn nr (by simp)))
        refine od_W.rn (pc' := 142) (ls' := [some (.ref _), some (.int _), some (.int _), some (.int _), some (.int _), some (.long _), none, some (.int _), some (.int _), some (.long _), none]) (st' := [.long _, .int _, .int _, .ref _]) 4 rfl ?_
        refine od_rV (as := [.int (nI r), .int (nI 70), .long (lN u.2)]) rfl rfl rfl rfl (md_0) rfl (Nat.le_of_ble_eq_true rfl) (Nat.le_of_ble_eq_true rfl) (rc_appendTerm b2 hr (by omega) (Ne.symm (od_ne nr (by simp))) (fun z => ⟨p2 z, rfl, by omega⟩) (fun _ => hz4)) (Nat.le_of_ble_eq_true rfl) (fun o M1 hq => ?_)
        obtain ⟨rfl, fu3, ρ3, rfl, f3, b3, k3, p3⟩ := hq
        refine od_K.ret ?_
        refine od_W.rn (pc' := 46) (ls' := [some (.ref _), some (.int _), some (.int _), some (.int _), some (.int _), some (.long _), none, some (.int _), some (.int _), some (.long _), none]) (st' := []) 3 rfl ?_
        rw [← List.append_assoc] at hok hP
        refine ih (done ++ [u]) fu3 ρ3 _ _ _ _ hal.2 b3 (fun a ha => (f3 a (od_nn ha (by simp))).trans ((f2 a (od_nn ha (by simp))).trans (g1 a ha))) ((hx3.fr (f2 p (od_nn np (by simp)))).fr (f3 p (od_n1 (od_ne np (by simp))))) (by rw [tm_fl_snoc, List.append_assoc]; exact (hy3.fr (f2 q (od_nn nq (by simp)))).fr (f3 q (od_n1 (od_ne nq (by simp))))) (fun z => ⟨p3 z, (h68.fr (f2 68 (by simp))).fr (f3 68 (od_n1 (Ne.symm (od_ne nr (by simp)))))⟩) ?_ hP
        rw [← hok, k3, k2]
        refine ⟨fun z => ⟨rfl, z.2⟩, fun z => ⟨⟨⟨rfl, ?_⟩, tm_ft_l z.2⟩, z.2⟩⟩
        have := z.2
        rw [List.append_assoc] at this
        exact tm_ft_in this
theorem rc_prd {p q r : Nat} {fu : Bool} {ρ : od_Rm} {ts us : List tm_T} (hp : p < 113) (hq' : q < 113) (hr : r < 113) (nr : r ∉ [64, 65, 68, 69, 70]) (np : p ∉ rf_PU r) (nq : q ∉ rf_PU r) (hb : od_Bd ρ) (hx : fu = false → (od_hl ρ p (tm_fl ts) ∧ tm_al ts) ∧ od_hl ρ q (tm_fl us) ∧ tm_al us) : od_W 5 104 0 (od_ent 104 [.ref y, .int (nI p), .int (nI q), .int (nI r)]) [] (md M y b fu ρ) (rf_s M y b fu ρ (rf_PU r) (tm_ft (tm_fl (sp_mul ts us))) (fun ρ' => od_hl ρ' r (tm_fl (sp_mul ts us)))) := by
  cases fu with
  | true => exact (gw_prd hp hq' hr nr np nq hb).mono fun _ _ h => h.s
  | false =>
    obtain ⟨⟨hxp, h1⟩, hy, h2⟩ := hx rfl
    have e0 : od_ent 104 [.ref y, .int (nI p), .int (nI q), .int (nI r)] = [some (.ref y), some (.int (nI p)), some (.int (nI q)), some (.int (nI r)), none, none, none, none, none, none, none] := rfl
    rw [e0]
    refine od_W.rn (pc' := 2) (ls' := [some (.ref _), some (.int _), some (.int _), some (.int _), none, none, none, none, none, none, none]) (st' := [.int _, .ref _]) 2 rfl ?_
    refine od_rV (as := [.int (nI r)]) rfl rfl rfl rfl (md_0) rfl (Nat.le_of_ble_eq_true rfl) (Nat.le_of_ble_eq_true rfl) (rt_clear hb hr) (Nat.le_of_ble_eq_true rfl) (fun o M1 hq => ?_)
    obtain ⟨rfl, fu1, ρ1, rfl, f1, b1, k1, p1⟩ := hq
    refine od_K.ret ?_
    have hf1 : fu1 = false := k1.mpr ⟨rfl, trivial⟩
    subst hf1
    have hx1 := hxp.fr (f1 p (od_n1 (od_ne np (by simp))))
    have hy1 := hy.fr (f1 q (od_n1 (od_ne nq (by simp))))
    refine od_W.rn (pc' := 6) (ls' := [some (.ref _), some (.int _), some (.int _), some (.int _), none, none, none, none, none, none, none]) (st' := [.ref _]) 1 rfl ?_
    refine od_rG rfl (md_0) rfl rfl ?_
    refine od_W.rn (pc' := 10) (ls' := [some (.ref _), some (.int _), some (.int _), some (.int _), none, none, none, none, none, none, none]) (st' := [.int _, .ref _]) 1 rfl ?_
    refine od_rIL rfl (md_2) (rfl) (hp) (by decide) ?_
    rw [rf_row, hx1.n]
    cases ts with
    | nil =>
      refine od_r1F rfl (of_decide_eq_true rfl) (rfl) ?_
      refine od_W.fin rfl ?_
      exact ⟨rfl, false, ρ1, rfl, fun a ha => f1 a (od_nn ha (by simp)), b1, ⟨fun _ => ⟨rfl, by simp [sp_mul, tm_fl], fun x hx => (List.not_mem_nil hx).elim⟩, fun _ => rfl⟩, p1⟩
    | cons t ts =>
      have h60 := hxp.le hb
      rw [tm_fl, List.length_append, tm_t_len] at h60
      have hx2 : od_hl ρ1 p ([] ++ (tm_t t ++ tm_fl ts)) := hx1
      refine od_r1T rfl rfl ((show (!decide (nI (tm_fl (t :: ts)).length = 0)) = true by rw [tm_fl, List.length_append, tm_t_len, decide_eq_false (nI_ne0 (by omega) (by omega))]; rfl)) ?_
      refine od_W.rn (pc' := 18) (ls' := [some (.ref _), some (.int _), some (.int _), some (.int _), none, none, none, none, none, none, none]) (st' := [.int _, .int _, .ref _]) 3 rfl ?_
      refine od_rV (as := [.int (nI p), .int (nI 0)]) rfl rfl rfl rfl (md_0) rfl (Nat.le_of_ble_eq_true rfl) (Nat.le_of_ble_eq_true rfl) (rt_behind b1 hp h1.1 hx2 rfl) (Nat.le_of_ble_eq_true rfl) (fun o M1 hq => ?_)
      obtain ⟨rfl, rfl⟩ := hq
      refine od_K.ret ?_
      rw [Nat.zero_add]
      refine od_W.rn (pc' := 30) (ls' := [some (.ref _), some (.int _), some (.int _), some (.int _), some (.int _), none, none, none, none, none, none]) (st' := [.int _, .int _, .int _, .int _, .ref _]) 6 rfl ?_
      refine od_rV (as := [.int (nI p), .int (nI 0), .int (nI (tm_t t).length), .int (nI 68)]) rfl rfl rfl rfl (md_0) rfl (Nat.le_of_ble_eq_true rfl) (Nat.le_of_ble_eq_true rfl) (rc_exponent b1 (by omega) hp (od_ne np (by simp)) (by omega) (by rw [tm_t_len]; omega) (by rw [tm_t_len]; omega) (fun _ => ⟨hx2, rfl, by omega⟩)) (Nat.le_of_ble_eq_true rfl) (fun o M1 hq => ?_)
      obtain ⟨rfl, fu2, ρ2, rfl, f2, b2, k2, p2⟩ := hq
      refine od_K.ret ?_
      have hf2 : fu2 = false := k2.mpr ⟨rfl, trivial⟩
      subst hf2
      have hx3 := hx2.fr (f2 p (od_n1 (od_ne np (by simp))))
      have hy3 := hy1.fr (f2 q (od_n1 (od_ne nq (by simp))))
      have hz3 := (p1 rfl).fr (f2 r (od_n1 (od_ne nr (by simp))))
      refine od_W.rn (pc' := 37) (ls' := [some (.ref _), some (.int _), some (.int _), some (.int _), some (.int _), none, none, none, none, none, none]) (st' := [.int _, .int _, .ref _]) 3 rfl ?_
      refine od_rV (as := [.int (nI p), .int (nI (tm_t t).length)]) rfl rfl rfl rfl (md_0) rfl (Nat.le_of_ble_eq_true rfl) (Nat.le_of_ble_eq_true rfl) (rt_coef hp b2 hx3 (by simp)) (Nat.le_of_ble_eq_true rfl) (fun o M1 hq => ?_)
      obtain ⟨rfl, rfl⟩ := hq
      refine od_K.ret ?_
      refine od_W.rn (pc' := 46) (ls' := [some (.ref _), some (.int _), some (.int _), some (.int _), some (.int _), some (.long _), none, some (.int _), none, none, none]) (st' := []) 4 rfl ?_
      rw [nI_1000 h1.1.2.2]
      refine rt_prd_loop (ρ0 := ρ) hp hq' hr nr np nq h1 us [] false ρ2 [] none none none h2 b2 (fun a ha => (f2 a (od_nn ha (by simp))).trans (f1 a (od_nn ha (by simp)))) hx3 hy3 (fun _ => ⟨hz3, p2 rfl⟩) ?_ ?_
      · rw [List.nil_append]; exact Iff.rfl
      · rw [List.nil_append]; exact fun _ h => h
end RPD
