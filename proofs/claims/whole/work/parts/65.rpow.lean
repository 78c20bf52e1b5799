/-! The reference's power. -/
def rf_d (g : Nat → Int32) (d : Nat) : Prop := g 4863 = Int32.ofInt (-(d : Int))
theorem rf_d_ne {d : Nat} (h : d ≤ 1000000) : Int32.ofInt (-(d : Int)) ≠ 1 := by
  intro z
  have h1 : (Int32.ofInt (-(d : Int))).toInt = -(d : Int) := Int32.toInt_ofInt_of_le (by omega) (by omega)
  rw [z] at h1
  have h2 : (1 : Int32).toInt = 1 := by decide
  omega
theorem rf_d_dec (d : Nat) : Int32.ofInt (-(d : Int)) - 1 = Int32.ofInt (-((d + 1 : Nat) : Int)) := by
  rw [show (1 : Int32) = Int32.ofInt 1 from rfl, ← Int32.ofInt_sub]
  congr 1
  omega
theorem sp_dn_len {e : List Nat} (h : tm_W e) : (sp_dn e).length ≤ e.length := by
  unfold sp_dn
  split
  · obtain ⟨ts, rfl, hal⟩ := tm_terms h
    rw [tm_tp_fl hal]
    rcases ts with _ | ⟨t, ts⟩
    · exact Nat.le_refl _
    · rw [tm_fl, List.length_append, tm_t_len]
      unfold tm_num
      split
      · exact Nat.zero_le _
      · show 3 ≤ _; omega
  · exact Nat.le_refl _
theorem sp_pe_ft {ls : List tm_T} (h : tm_al ls) (hf : (tm_fl ls).length ≤ 60) : tm_ft (tm_fl (sp_pe ls)) := by
  refine ⟨?_, (tm_fl_W (sp_pe_al h)).sm⟩
  refine Nat.le_trans ?_ hf
  clear hf
  induction ls with
  | nil => exact Nat.le_refl _
  | cons t ls ih =>
    have h1 := ih h.2
    have h2 := sp_dn_len h.1.1
    rw [show tm_fl (sp_pe (t :: ls)) = tm_t (sp_dn t.1, t.2) ++ tm_fl (sp_pe ls) from rfl, tm_fl, List.length_append, List.length_append, tm_t_len, tm_t_len]
    dsimp only
    omega
theorem cl_np_loop2 {Ms : od_M} {a m : Nat} (ha : a ≤ 1000000) (hm : m ≤ 1000000) : ∀ (n i v : Nat), i + n = m → v ≤ 1000000000000 → od_W 0 109 5 [some (.int (nI a)), some (.int (nI m)), some (.long (lN v)), none, some (.int (nI i))] [] Ms (fun o M' => o = .inl (some (.int (nI (min (sp_pw a n v) 1000001)))) ∧ M' = Ms) := by
  have fin : ∀ (v : Nat) (i : Int32), v ≤ 1000000000000 → od_W 0 109 30 [some (.int (nI a)), some (.int (nI m)), some (.long (lN v)), none, some (.int i)] [] Ms (fun o M' => o = .inl (some (.int (nI (min v 1000001)))) ∧ M' = Ms) := by
    intro v i hv
    refine od_W.rn (pc' := 35) (ls' := [some (.int _), some (.int _), some (.long _), none, some (.int _)]) (st' := [.int _]) 3 rfl ?_
    by_cases h : v ≤ 1000000
    · refine od_r1T rfl rfl ((od_lc_le _ _).trans (decide_eq_true ((lN_le6 (by omega)).mpr h))) ?_
      refine od_W.rn (pc' := 45) (ls' := [some (.int _), some (.int _), some (.long _), none, some (.int _)]) (st' := [.int _]) 2 rfl ?_
      rw [lN_i]
      refine od_W.fin rfl ?_
      rw [Nat.min_eq_left (by omega)]
      exact ⟨rfl, rfl⟩
    · refine od_r1F rfl (of_decide_eq_true rfl) ((od_lc_le _ _).trans (decide_eq_false (fun z => h ((lN_le6 (by omega)).mp z)))) ?_
      refine od_W.rn (pc' := 45) (ls' := [some (.int _), some (.int _), some (.long _), none, some (.int _)]) (st' := [.int _]) 2 rfl ?_
      refine od_W.fin rfl ?_
      rw [Nat.min_eq_right (by omega)]
      exact ⟨rfl, rfl⟩
  intro n
  induction n with
  | zero =>
    intro i v hi hv
    refine od_W.rn (pc' := 8) (ls' := [some (.int _), some (.int _), some (.long _), none, some (.int _)]) (st' := [.int _, .int _]) 2 rfl ?_
    refine od_r2T rfl rfl (decide_eq_true (nI_le (by omega) (by omega))) ?_
    exact fin v _ hv
  | succ n ih =>
    intro i v hi hv
    refine od_W.rn (pc' := 8) (ls' := [some (.int _), some (.int _), some (.long _), none, some (.int _)]) (st' := [.int _, .int _]) 2 rfl ?_
    refine od_r2F rfl (of_decide_eq_true rfl) (decide_eq_false (nI_ge (by omega) (by omega))) ?_
    refine od_W.rn (pc' := 16) (ls' := [some (.int _), some (.int _), some (.long _), none, some (.int _)]) (st' := [.int _]) 3 rfl ?_
    by_cases h : v ≤ 1000000
    · refine od_r1F rfl (of_decide_eq_true rfl) ((od_lc_gt _ _).trans (decide_eq_false (fun z => absurd ((pk_lLT (a := 1000000) (by omega) (by omega)).mp z) (by omega)))) ?_
      refine od_W.rn (pc' := 5) (ls' := [some (.int _), some (.int _), some (.long _), none, some (.int _)]) (st' := []) 7 rfl ?_
      rw [nI_1000 ha, lN_mul, nI_inc i, show sp_pw a (n + 1) v = sp_pw a n (v * a) from if_pos h]
      exact ih (i + 1) (v * a) (by omega) (Nat.mul_le_mul h ha)
    · rw [sp_pw_big a _ v h]
      refine od_r1T rfl rfl ((od_lc_gt _ _).trans (decide_eq_true ((pk_lLT (a := 1000000) (by omega) (by omega)).mpr (by omega)))) ?_
      exact fin v _ hv
theorem ct_numberPower {Ms : od_M} {a m : Nat} (ha : a ≤ 1000000) (hm : m ≤ 1000000) : od_W 0 109 0 (od_ent 109 [.int (nI a), .int (nI m)]) [] Ms (fun o M' => o = .inl (some (.int (nI (min (sp_pw a m 1) 1000001)))) ∧ M' = Ms) := by
  have e0 : od_ent 109 [.int (nI a), .int (nI m)] = [some (.int (nI a)), some (.int (nI m)), none, none, none] := rfl
  rw [e0]
  refine od_W.rn (pc' := 5) (ls' := [some (.int _), some (.int _), some (.long _), none, some (.int _)]) (st' := []) 4 rfl ?_
  exact cl_np_loop2 ha hm m 0 1 (by omega) (by omega)
theorem ct_clr {M : od_M} {y : Nat} {b : rf_B} {fu : Bool} {ρ : od_Rm} {r : Nat} (hr : r < 113) : od_W 0 87 0 (od_ent 87 [.ref y, .int (nI r)]) [] (md M y b fu ρ) (fun o M' => o = .inl none ∧ M' = md M y b fu (od_rs ρ r (0, (ρ r).2))) := by
  have e0 : od_ent 87 [.ref y, .int (nI r)] = [some (.ref y), some (.int (nI r))] := rfl
  rw [e0]
  refine od_W.rn (pc' := 1) (ls' := [some (.ref _), some (.int _)]) (st' := [.ref _]) 1 rfl ?_
  refine od_rG rfl (md_0) rfl rfl ?_
  refine od_W.rn (pc' := 6) (ls' := [some (.ref _), some (.int _)]) (st' := [.int _, .int _, .ref _]) 2 rfl ?_
  refine od_rIS rfl (md_2) (rfl) (hr) (by decide) ?_
  rw [show upd (rf_ln ρ) r (Int32.ofInt 0) = rf_ln (od_rs ρ r (0, (ρ r).2)) from rf_set_len (v := 0), md_lens rf_fl_len]
  refine od_W.fin rfl ?_
  exact ⟨rfl, rfl⟩
abbrev rf_WU (r : Nat) : List Nat := [r, 64, 65, 68, 69, 70, 76, 81, 82, 83, 84]
/-- the memory with another value behind the rows -/
abbrev rf_bg (b : rf_B) (g : Nat → Int32) : rf_B := (b.1, b.2.1, b.2.2.1, g)
def rf_w (M : od_M) (y : Nat) (b : rf_B) (d e : Nat) (ρ : od_Rm) (U : List Nat) (ok : Prop) (P : od_Rm → Prop) : od_O → od_M → Prop := fun o M' => ∃ g d', rf_d g d' ∧ d' ≤ d + e ∧ rf_s M y (rf_bg b g) false ρ U ok P o M'
section RW
variable {M : od_M} {y : Nat} {b : rf_B} {ρ0 : od_Rm}
set_option maxRecDepth 100000 in
theorem rt_pw_loop {p r av m : Nat} {wq : Int32} {w4 : Int32} (hp : p < 113) (hr : r < 113) (nr : r ∉ [64, 65, 68, 69, 70, 76, 81, 82, 83, 84]) (np : p ∉ rf_WU r) (hav : av ≤ 1000000) (hm : m ≤ 1000000) {ls0 : List tm_T} (hls : (tm_fl ls0).length ≤ 60) (hal0 : tm_al ls0) : ∀ (todo done : List tm_T) (g : Nat → Int32) (d : Nat) (ρ : od_Rm) (w7 : Option Value), ls0 = done ++ todo → rf_d g d → d + todo.length ≤ 1000000 → od_Bd ρ → (∀ a, a ∉ rf_WU r → ρ a = ρ0 a) → od_hl ρ p [1, 0, av] → od_hl ρ 83 (tm_fl done ++ tm_fl todo) → od_hl ρ 84 (tm_fl (sp_pe done)) → od_hl ρ r [] → od_W 6 110 154 [some (.ref y), some (.int (nI p)), some (.int wq), some (.int (nI r)), some (.int w4), some (.int (nI m)), some (.int (nI (tm_fl done).length)), w7] [] (md M y (rf_bg b g) false ρ) (rf_w M y b d todo.length ρ0 (rf_WU r) (tm_ft (tm_t (tm_fl (sp_pe ls0), sp_pw av m 1))) (fun ρ' => od_hl ρ' r (tm_t (tm_fl (sp_pe ls0), sp_pw av m 1)))) := by
  have hfa := sp_pe_ft hal0 hls
  intro todo
  induction todo with
  | nil =>
    intro done g d ρ w7 hd hg hdl hb fr hx hy he hz
    have hl := hy.n
    have l1 := hb 83
    rw [tm_fl, List.append_nil] at hl
    rw [List.append_nil] at hd
    subst hd
    have hat := hx.at
    rw [tm_at_cons, tm_at_cons, tm_at_cons] at hat
    refine od_W.rn (pc' := 157) (ls' := [some (.ref _), some (.int _), some (.int _), some (.int _), some (.int _), some (.int _), some (.int _), _]) (st' := [.ref _, .int _]) 2 rfl ?_
    refine od_rG rfl (md_0) rfl rfl ?_
    refine od_W.rn (pc' := 162) (ls' := [some (.ref _), some (.int _), some (.int _), some (.int _), some (.int _), some (.int _), some (.int _), _]) (st' := [.int _, .ref _, .int _]) 1 rfl ?_
    refine od_rIL rfl (md_2) ((show (Int8.ofInt 83).toInt32 = nI 83 from rfl)) (by omega) (by decide) ?_
    rw [rf_row, hl]
    refine od_r2T rfl rfl (decide_eq_true (nI_le (Nat.le_refl _) (by omega))) ?_
    refine od_W.rn (pc' := 238) (ls' := [some (.ref _), some (.int _), some (.int _), some (.int _), some (.int _), some (.int _), some (.int _), _]) (st' := [.ref _, .int _, .int _, .ref _]) 4 rfl ?_
    refine od_rG rfl (md_0) rfl rfl ?_
    refine od_W.rn (pc' := 247) (ls' := [some (.ref _), some (.int _), some (.int _), some (.int _), some (.int _), some (.int _), some (.int _), _]) (st' := [.int _, .ref _, .int _, .int _, .ref _]) 5 rfl ?_
    refine od_rIL rfl (md_1) (rf_ix p 2) (by omega) (by decide) ?_
    rw [rf_fl_at ρ (by omega), hat.2.2.1]
    refine od_W.rn (pc' := 250) (ls' := [some (.ref _), some (.int _), some (.int _), some (.int _), some (.int _), some (.int _), some (.int _), _]) (st' := [.int _, .int _, .int _, .int _, .ref _]) 1 rfl ?_
    refine od_rSt (as := [.int (nI av), .int (nI m)]) rfl rfl rfl rfl (Nat.le_of_ble_eq_true rfl) (Nat.le_of_ble_eq_true rfl) (ct_numberPower hav hm) (Nat.le_of_ble_eq_true rfl) (fun o M1 hq => ?_)
    obtain ⟨rfl, rfl⟩ := hq
    refine od_K.ret ?_
    refine od_W.rn (pc' := 254) (ls' := [some (.ref _), some (.int _), some (.int _), some (.int _), some (.int _), some (.int _), some (.int _), _]) (st' := [.long _, .int _, .int _, .ref _]) 1 rfl ?_
    have hmin : min (sp_pw av m 1) 1000001 ≤ 1000001 := Nat.min_le_right _ _
    rw [show (nI (min (sp_pw av m 1) 1000001)).toInt64 = lN (min (sp_pw av m 1) 1000001) from nI_l (by omega)]
    refine od_rV (as := [.int (nI r), .int (nI 84), .long (lN (min (sp_pw av m 1) 1000001))]) rfl rfl rfl rfl (md_0) rfl (Nat.le_of_ble_eq_true rfl) (Nat.le_of_ble_eq_true rfl) (rc_appendTerm (xs := []) hb hr (by omega) (Ne.symm (od_ne nr (by simp))) (fun _ => ⟨he, rfl, by omega⟩) (fun _ => hz)) (Nat.le_of_ble_eq_true rfl) (fun o M1 hq => ?_)
    rw [List.nil_append] at hq
    obtain ⟨rfl, fu1, ρ1, rfl, f1, b1, k1, p1⟩ := hq
    refine od_K.ret ?_
    refine od_W.fin rfl ?_
    have hiff : tm_ft (tm_t (tm_fl (sp_pe ls0), min (sp_pw av m 1) 1000001)) ↔ tm_ft (tm_t (tm_fl (sp_pe ls0), sp_pw av m 1)) := by
      have h9 : min (sp_pw av m 1) 1000001 ≤ 1000000 ↔ sp_pw av m 1 ≤ 1000000 := by omega
      unfold tm_ft
      rw [tm_t_len, tm_t_len, tm_sm_t, tm_sm_t]
      dsimp only
      rw [h9]
    refine ⟨g, d, hg, by omega, rfl, fu1, ρ1, rfl, fun a ha => (f1 a (od_nn ha (by simp))).trans (fr a ha), b1, ?_, fun z => ?_⟩
    · rw [k1, hiff]
    · have h1 := p1 z
      have h2 := (tm_sm_t.mp (k1.mp z).2.2).2
      dsimp only at h2
      rw [Nat.min_eq_left (by omega)] at h1
      exact h1
  | cons u todo ih =>
    intro done g d ρ w7 hd hg hdl hb fr hx hy he hz
    have hl := hy.n
    have l1 := hb 83
    rw [tm_fl, List.length_append, List.length_append, tm_t_len] at hl
    have hy2 : od_hl ρ 83 (tm_fl done ++ (tm_t u ++ tm_fl todo)) := hy
    have halx := hal0
    rw [hd] at halx
    have hau := (tm_al_app.mp halx).2
    have e : (tm_fl done).length + (tm_t u).length = (tm_fl (done ++ [u])).length := by rw [tm_fl_snoc, List.length_append]
    have huc := hau.1.2.2
    simp only [List.length_cons] at hdl
    have hfd : tm_ft (tm_fl (sp_pe done) ++ tm_t (sp_dn u.1, u.2)) := by
      rw [hd] at hfa
      unfold sp_pe at hfa
      rw [List.map_append, tm_fl_app] at hfa
      rw [show tm_fl (List.map (fun t => (sp_dn t.1, t.2)) (u :: todo)) = tm_t (sp_dn u.1, u.2) ++ tm_fl (List.map (fun t => (sp_dn t.1, t.2)) todo) from rfl, ← List.append_assoc] at hfa
      exact tm_ft_l hfa
    refine od_W.rn (pc' := 157) (ls' := [some (.ref _), some (.int _), some (.int _), some (.int _), some (.int _), some (.int _), some (.int _), _]) (st' := [.ref _, .int _]) 2 rfl ?_
    refine od_rG rfl (md_0) rfl rfl ?_
    refine od_W.rn (pc' := 162) (ls' := [some (.ref _), some (.int _), some (.int _), some (.int _), some (.int _), some (.int _), some (.int _), _]) (st' := [.int _, .ref _, .int _]) 1 rfl ?_
    refine od_rIL rfl (md_2) ((show (Int8.ofInt 83).toInt32 = nI 83 from rfl)) (by omega) (by decide) ?_
    rw [rf_row]
    refine od_r2F rfl (of_decide_eq_true rfl) (decide_eq_false (nI_ge (by omega) (by omega))) ?_
    refine od_W.rn (pc' := 171) (ls' := [some (.ref _), some (.int _), some (.int _), some (.int _), some (.int _), some (.int _), some (.int _), _]) (st' := [.int _, .int _, .ref _]) 3 rfl ?_
    refine od_rV (as := [.int (nI 83), .int (nI (tm_fl done).length)]) rfl rfl rfl rfl (md_0) rfl (Nat.le_of_ble_eq_true rfl) (Nat.le_of_ble_eq_true rfl) (rt_behind hb (by omega) hau.1 hy2 rfl) (Nat.le_of_ble_eq_true rfl) (fun o M1 hq => ?_)
    obtain ⟨rfl, rfl⟩ := hq
    refine od_K.ret ?_
    refine od_W.rn (pc' := 185) (ls' := [some (.ref _), some (.int _), some (.int _), some (.int _), some (.int _), some (.int _), some (.int _), some (.int _)]) (st' := [.int _, .int _, .int _, .int _, .ref _]) 6 rfl ?_
    refine od_rV (as := [.int (nI 83), .int (nI (tm_fl done).length), .int (nI ((tm_fl done).length + (tm_t u).length)), .int (nI 76)]) rfl rfl rfl rfl (md_0) rfl (Nat.le_of_ble_eq_true rfl) (Nat.le_of_ble_eq_true rfl) (rc_exponent hb (by omega) (by omega) (by omega) (by omega) (by rw [tm_t_len]; omega) (by rw [tm_t_len]; omega) (fun _ => ⟨hy2, rfl, rfl⟩)) (Nat.le_of_ble_eq_true rfl) (fun o M1 hq => ?_)
    obtain ⟨rfl, fu1, ρ1, rfl, f1, b1, k1, p1⟩ := hq
    refine od_K.ret ?_
    have hf1 : fu1 = false := k1.mpr ⟨rfl, trivial⟩
    subst hf1
    have h76 := p1 rfl
    have tail : ∀ (g2 : Nat → Int32) (d2 : Nat) (ρ2 : od_Rm), rf_d g2 d2 → d2 ≤ d + 1 → od_Bd ρ2 → (∀ a, a ∉ [76] → ρ2 a = ρ a) → od_hl ρ2 76 (sp_dn u.1) → od_W 6 110 203 [some (.ref y), some (.int (nI p)), some (.int wq), some (.int (nI r)), some (.int w4), some (.int (nI m)), some (.int (nI (tm_fl done).length)), some (.int (nI ((tm_fl done).length + (tm_t u).length)))] [] (md M y (rf_bg b g2) false ρ2) (rf_w M y b d (u :: todo).length ρ0 (rf_WU r) (tm_ft (tm_t (tm_fl (sp_pe ls0), sp_pw av m 1))) (fun ρ' => od_hl ρ' r (tm_t (tm_fl (sp_pe ls0), sp_pw av m 1)))) := by
      intro g2 d2 ρ2 hg2 hd2 b2 f2 h76'
      have hy3 := hy2.fr (f2 83 (by simp))
      have he3 := he.fr (f2 84 (by simp))
      refine od_W.rn (pc' := 213) (ls' := [some (.ref _), some (.int _), some (.int _), some (.int _), some (.int _), some (.int _), some (.int _), some (.int _)]) (st' := [.int _, .int _, .ref _, .int _, .int _, .ref _]) 6 rfl ?_
      refine od_rV (as := [.int (nI 83), .int (nI ((tm_fl done).length + (tm_t u).length))]) rfl rfl rfl rfl (md_0) rfl (Nat.le_of_ble_eq_true rfl) (Nat.le_of_ble_eq_true rfl) (rt_coef (by omega) b2 hy3 rfl) (Nat.le_of_ble_eq_true rfl) (fun o M1 hq => ?_)
      obtain ⟨rfl, rfl⟩ := hq
      refine od_K.ret ?_
      refine od_W.rn (pc' := 217) (ls' := [some (.ref _), some (.int _), some (.int _), some (.int _), some (.int _), some (.int _), some (.int _), some (.int _)]) (st' := [.long _, .int _, .int _, .ref _]) 1 rfl ?_
      rw [nI_1000 huc]
      refine od_rV (as := [.int (nI 84), .int (nI 76), .long (lN u.2)]) rfl rfl rfl rfl (md_0) rfl (Nat.le_of_ble_eq_true rfl) (Nat.le_of_ble_eq_true rfl) (rc_appendTerm b2 (by omega) (by omega) (by omega) (fun _ => ⟨h76', rfl, by omega⟩) (fun _ => he3)) (Nat.le_of_ble_eq_true rfl) (fun o M1 hq => ?_)
      obtain ⟨rfl, fu3, ρ3, rfl, f3, b3, k3, p3⟩ := hq
      refine od_K.ret ?_
      have hf3 : fu3 = false := k3.mpr ⟨rfl, hfd⟩
      subst hf3
      have hy4 := hy3.fr (f3 83 (by simp))
      refine od_W.rn (pc' := 225) (ls' := [some (.ref _), some (.int _), some (.int _), some (.int _), some (.int _), some (.int _), some (.int _), some (.int _)]) (st' := [.int _, .int _, .ref _]) 3 rfl ?_
      refine od_rV (as := [.int (nI 83), .int (nI (tm_fl done).length)]) rfl rfl rfl rfl (md_0) rfl (Nat.le_of_ble_eq_true rfl) (Nat.le_of_ble_eq_true rfl) (rt_behind b3 (by omega) hau.1 hy4 rfl) (Nat.le_of_ble_eq_true rfl) (fun o M1 hq => ?_)
      obtain ⟨rfl, rfl⟩ := hq
      refine od_K.ret ?_
      refine od_W.rn (pc' := 154) (ls' := [some (.ref _), some (.int _), some (.int _), some (.int _), some (.int _), some (.int _), some (.int _), some (.int _)]) (st' := []) 2 rfl ?_
      rw [e]
      refine (ih (done ++ [u]) g2 d2 ρ3 _ (by rw [hd]; simp) hg2 (by omega) b3 (fun a ha => (f3 a (od_nn ha (by simp))).trans ((f2 a (od_nn ha (by simp))).trans (fr a ha))) ((hx.fr (f2 p (od_nn np (by simp)))).fr (f3 p (od_nn np (by simp)))) (by rw [tm_fl_snoc, List.append_assoc]; exact hy4) ?_ ((hz.fr (f2 r (od_nn nr (by simp)))).fr (f3 r (od_nn nr (by simp))))).mono fun o M' h => ?_
      · have := p3 rfl
        unfold sp_pe at this ⊢
        rw [List.map_append, tm_fl_app, show tm_fl (List.map (fun t => (sp_dn t.1, t.2)) [u]) = tm_t (sp_dn u.1, u.2) from tm_fl_one _]
        exact this
      · obtain ⟨g3, d3, q1, q2, q3⟩ := h
        exact ⟨g3, d3, q1, by simp only [List.length_cons]; omega, q3⟩
    refine od_W.rn (pc' := 191) (ls' := [some (.ref _), some (.int _), some (.int _), some (.int _), some (.int _), some (.int _), some (.int _), some (.int _)]) (st' := [.int _, .ref _]) 2 rfl ?_
    refine od_rV (as := [.int (nI 76)]) rfl rfl rfl rfl (md_0) rfl (Nat.le_of_ble_eq_true rfl) (Nat.le_of_ble_eq_true rfl) (ct_isInf b1 (by omega)) (Nat.le_of_ble_eq_true rfl) (fun o M1 hq => ?_)
    obtain ⟨rfl, rfl⟩ := hq
    refine od_K.ret ?_
    rw [h76.n]
    by_cases h3 : u.1.length ≤ 3
    · rw [if_pos h3]
      have ed : sp_dn u.1 = tm_num (tm_n (tm_tp u.1) - 1) := if_pos h3
      obtain ⟨ts, hts, htal⟩ := tm_terms hau.1.1
      refine od_r1F rfl (of_decide_eq_true rfl) (rfl) ?_
      refine od_W.rn (pc' := 200) (ls' := [some (.ref _), some (.int _), some (.int _), some (.int _), some (.int _), some (.int _), some (.int _), some (.int _)]) (st' := [.int _, .ref _]) 2 rfl ?_
      rcases ts with _ | ⟨v, vs⟩
      · have hu0 : u.1 = [] := hts
        have hl0 : (ρ1 76).1 = 0 := by rw [h76.n, hu0]; rfl
        refine od_rV (as := [.int (nI 76)]) rfl rfl rfl rfl (md_0) rfl (Nat.le_of_ble_eq_true rfl) (Nat.le_of_ble_eq_true rfl) (rt_lower0 (r := 76) (by omega) (by omega) hl0 hg (rf_d_ne (by omega))) (Nat.le_of_ble_eq_true rfl) (fun o M1 hq => ?_)
        obtain ⟨rfl, rfl⟩ := hq
        refine od_K.ret ?_
        refine tail (upd g 4863 (Int32.ofInt (-(d : Int)) - 1)) (d + 1) ρ1 (by unfold rf_d; rw [upd_s]; exact rf_d_dec d) (by omega) b1 f1 ?_
        rw [ed, hu0]
        rw [hu0] at h76
        exact h76
      · have hfin := tm_fin (t := v) (ts := vs) (by rw [← hts]; exact h3)
        have hvs := hfin.2
        subst hvs
        have h76' : od_hl ρ1 76 (tm_fl ([] ++ [v])) := by rw [List.nil_append, ← hts]; exact h76
        refine od_rV (as := [.int (nI 76)]) rfl rfl rfl rfl (md_0) rfl (Nat.le_of_ble_eq_true rfl) (Nat.le_of_ble_eq_true rfl) (rt_lower b1 (by omega) htal.1 hfin.1 h76') (Nat.le_of_ble_eq_true rfl) (fun o M1 hq => ?_)
        obtain ⟨rfl, fu2, ρ2, rfl, f2, b2, k2, p2⟩ := hq
        refine od_K.ret ?_
        have hf2 : fu2 = false := k2.mpr ⟨rfl, trivial⟩
        subst hf2
        refine tail g d ρ2 hg (by omega) b2 (fun a ha => (f2 a ha).trans (f1 a ha)) ?_
        have h9 := p2 rfl
        rw [sp_pr_snoc] at h9
        have etn : tm_n (tm_tp u.1) = v.2 := by rw [hts, tm_tp_fl htal]; show (if v.1 = [] then v.2 else 0) = v.2; rw [if_pos hfin.1]
        rw [ed, etn]
        have hvc := htal.1.2.1
        have e9 : tm_num (v.2 - 1) = tm_fl ([] : List tm_T) ++ sp_dec v := by
          unfold tm_num sp_dec
          by_cases z : 1 < v.2
          · rw [if_neg (by omega), if_pos z]; unfold tm_t; rw [hfin.1]; rfl
          · rw [if_pos (by omega), if_neg z]; rfl
        rw [e9]
        exact h9
    · rw [if_neg h3]
      have ed : sp_dn u.1 = u.1 := if_neg h3
      refine od_r1T rfl rfl (rfl) ?_
      exact tail g d ρ1 hg (by omega) b1 f1 (by rw [ed]; exact h76)
set_option maxRecDepth 100000 in
theorem rt_pi_end {p r m : Nat} {wq w4 i : Int32} {w7 : Option Value} {fu : Bool} {ρ : od_Rm} (hp : p < 113) (hr : r < 113) (nr : r ∉ [64, 65, 68, 69, 70, 76, 81, 82, 83, 84]) (np : p ∉ rf_WU r) {t : tm_T} {ts ls tot : List tm_T} (h1 : tm_al (t :: ts)) (h2 : tm_al ls) (hb : od_Bd ρ) (fr : ∀ a, a ∉ rf_WU r → ρ a = ρ0 a) (hx : od_hl ρ p (tm_fl (t :: ts))) (hy : od_hl ρ 83 (tm_fl ls)) (ht : fu = false → od_hl ρ 81 (tm_fl tot) ∧ tm_al tot) {ok0 : Prop} {P0 : od_Rm → Prop} (hok : fu = false ∧ (tm_ft (tm_fl (sp_mul (tm_tp t.1) ls)) ∧ tm_ft (tm_t (sp_pq t ls)) ∧ tm_ft (tm_fl (sp_mul [sp_pq t ls] tot))) ↔ ok0) (hP : fu = false → ∀ ρ', od_hl ρ' r (tm_fl (sp_mul [sp_pq t ls] tot)) → P0 ρ') : od_W 6 110 328 [some (.ref y), some (.int (nI p)), some (.int wq), some (.int (nI r)), some (.int w4), some (.int (nI m)), some (.int i), w7] [] (md M y b fu ρ) (rf_s M y b false ρ0 (rf_WU r) ok0 P0) := by
  have hx2 : od_hl ρ p ([] ++ (tm_t t ++ tm_fl ts)) := hx
  have h60 := hx.le hb
  rw [tm_fl, List.length_append, tm_t_len] at h60
  refine od_W.rn (pc' := 334) (ls' := [some (.ref _), some (.int _), some (.int _), some (.int _), some (.int _), some (.int _), some (.int _), _]) (st' := [.int _, .int _, .ref _, .int _, .int _, .ref _]) 6 rfl ?_
  refine od_rV (as := [.int (nI p), .int (nI 0)]) rfl rfl rfl rfl (md_0) rfl (Nat.le_of_ble_eq_true rfl) (Nat.le_of_ble_eq_true rfl) (rt_behind hb hp h1.1 hx2 rfl) (Nat.le_of_ble_eq_true rfl) (fun o M1 hq => ?_)
  obtain ⟨rfl, rfl⟩ := hq
  refine od_K.ret ?_
  rw [Nat.zero_add]
  refine od_W.rn (pc' := 339) (ls' := [some (.ref _), some (.int _), some (.int _), some (.int _), some (.int _), some (.int _), some (.int _), _]) (st' := [.int _, .int _, .int _, .int _, .ref _]) 1 rfl ?_
  refine od_rV (as := [.int (nI p), .int (nI 0), .int (nI (tm_t t).length), .int (nI 76)]) rfl rfl rfl rfl (md_0) rfl (Nat.le_of_ble_eq_true rfl) (Nat.le_of_ble_eq_true rfl) (rc_exponent hb (by omega) hp (od_ne np (by simp)) (by omega) (by rw [tm_t_len]; omega) (by rw [tm_t_len]; omega) (fun _ => ⟨hx2, rfl, by omega⟩)) (Nat.le_of_ble_eq_true rfl) (fun o M1 hq => ?_)
  obtain ⟨rfl, fu1, ρ1, rfl, f1, b1, k1, p1⟩ := hq
  refine od_K.ret ?_
  have hy1 := hy.fr (f1 83 (by simp))
  refine od_W.rn (pc' := 349) (ls' := [some (.ref _), some (.int _), some (.int _), some (.int _), some (.int _), some (.int _), some (.int _), _]) (st' := [.int _, .int _, .int _, .ref _]) 4 rfl ?_
  refine od_rV (as := [.int (nI 76), .int (nI 83), .int (nI 82)]) rfl rfl rfl rfl (md_0) rfl (Nat.le_of_ble_eq_true rfl) (Nat.le_of_ble_eq_true rfl) (rc_prd (ts := tm_tp t.1) (us := ls) (by omega) (by omega) (by omega) (by simp) (by simp) (by simp) b1 (fun z => ⟨⟨by rw [tm_fl_tp h1.1.1]; exact p1 z, tm_al_tp h1.1.1⟩, hy1, h2⟩)) (Nat.le_of_ble_eq_true rfl) (fun o M1 hq => ?_)
  obtain ⟨rfl, fu2, ρ2, rfl, f2, b2, k2, p2⟩ := hq
  refine od_K.ret ?_
  refine od_W.rn (pc' := 355) (ls' := [some (.ref _), some (.int _), some (.int _), some (.int _), some (.int _), some (.int _), some (.int _), _]) (st' := [.int _, .ref _]) 2 rfl ?_
  refine od_rV (as := [.int (nI 84)]) rfl rfl rfl rfl (md_0) rfl (Nat.le_of_ble_eq_true rfl) (Nat.le_of_ble_eq_true rfl) (rt_clear b2 (by omega)) (Nat.le_of_ble_eq_true rfl) (fun o M1 hq => ?_)
  obtain ⟨rfl, fu3, ρ3, rfl, f3, b3, k3, p3⟩ := hq
  refine od_K.ret ?_
  refine od_W.rn (pc' := 364) (ls' := [some (.ref _), some (.int _), some (.int _), some (.int _), some (.int _), some (.int _), some (.int _), _]) (st' := [.long _, .int _, .int _, .ref _]) 4 rfl ?_
  refine od_rV (as := [.int (nI 84), .int (nI 82), .long (lN 1)]) rfl rfl rfl rfl (md_0) rfl (Nat.le_of_ble_eq_true rfl) (Nat.le_of_ble_eq_true rfl) (rc_appendTerm (xs := []) b3 (by omega) (by omega) (by omega) (fun z => ⟨(p2 (k3.mp z).1).fr (f3 82 (by simp)), rfl, by omega⟩) p3) (Nat.le_of_ble_eq_true rfl) (fun o M1 hq => ?_)
  obtain ⟨rfl, fu4, ρ4, rfl, f4, b4, k4, p4⟩ := hq
  refine od_K.ret ?_
  have all : fu4 = false → fu = false ∧ tm_ft (tm_fl (sp_mul (tm_tp t.1) ls)) ∧ tm_ft (tm_t (sp_pq t ls)) := fun z => by
    have z3 := (k4.mp z).1
    have z2 := (k3.mp z3).1
    have z9 := (k4.mp z).2
    rw [List.nil_append] at z9
    exact ⟨(k1.mp (k2.mp z2).1).1, (k2.mp z2).2, z9⟩
  have h81 : fu4 = false → od_hl ρ4 81 (tm_fl tot) ∧ tm_al tot := fun z => ⟨((((ht (all z).1).1.fr (f1 81 (by simp))).fr (f2 81 (by simp))).fr (f3 81 (by simp))).fr (f4 81 (by simp)), (ht (all z).1).2⟩
  have h84 : fu4 = false → od_hl ρ4 84 (tm_fl [sp_pq t ls]) ∧ tm_al [sp_pq t ls] := fun z => by
    have h9 := p4 z
    rw [List.nil_append] at h9
    exact ⟨by rw [tm_fl_one]; exact h9, sp_pq_ok h1.1 h2 (all z).2.1, trivial⟩
  refine od_W.rn (pc' := 373) (ls' := [some (.ref _), some (.int _), some (.int _), some (.int _), some (.int _), some (.int _), some (.int _), _]) (st' := [.int _, .int _, .int _, .ref _]) 4 rfl ?_
  refine od_rV (as := [.int (nI 84), .int (nI 81), .int (nI r)]) rfl rfl rfl rfl (md_0) rfl (Nat.le_of_ble_eq_true rfl) (Nat.le_of_ble_eq_true rfl) (rc_prd (ts := [sp_pq t ls]) (us := tot) (by omega) (by omega) hr (od_nn nr (by simp)) (by simp; exact (od_ne nr (by simp)).symm) (by simp; exact (od_ne nr (by simp)).symm) b4 (fun z => ⟨h84 z, h81 z⟩)) (Nat.le_of_ble_eq_true rfl) (fun o M1 hq => ?_)
  obtain ⟨rfl, fu5, ρ5, rfl, f5, b5, k5, p5⟩ := hq
  refine od_K.ret ?_
  refine od_W.fin rfl ?_
  have kk : fu5 = false ↔ fu = false ∧ (tm_ft (tm_fl (sp_mul (tm_tp t.1) ls)) ∧ tm_ft (tm_t (sp_pq t ls)) ∧ tm_ft (tm_fl (sp_mul [sp_pq t ls] tot))) := by
    rw [k5, k4, k3, k2, k1, List.nil_append]
    constructor
    · rintro ⟨⟨⟨⟨⟨z1, _⟩, z2⟩, _⟩, z3⟩, z4⟩; exact ⟨z1, z2, z3, z4⟩
    · rintro ⟨z1, z2, z3, z4⟩; exact ⟨⟨⟨⟨⟨z1, trivial⟩, z2⟩, trivial⟩, z3⟩, z4⟩
  refine ⟨rfl, fu5, ρ5, rfl, fun a ha => (f5 a (od_nn ha (by simp))).trans ((f4 a (od_nn ha (by simp))).trans ((f3 a (od_nn ha (by simp))).trans ((f2 a (od_nn ha (by simp))).trans ((f1 a (od_nn ha (by simp))).trans (fr a ha))))), b5, ?_, fun z => hP (kk.mp z).1 ρ5 (p5 z)⟩
  rw [kk, hok]
  exact ⟨fun z => ⟨rfl, z⟩, fun z => z.2⟩
set_option maxRecDepth 100000 in
theorem rt_pi_loop {p r m : Nat} {wq w4 : Int32} {w7 : Option Value} (hp : p < 113) (hr : r < 113) (nr : r ∉ [64, 65, 68, 69, 70, 76, 81, 82, 83, 84]) (np : p ∉ rf_WU r) {t : tm_T} {ts ls : List tm_T} (h1 : tm_al (t :: ts)) (h2 : tm_al ls) (hm : m ≤ 1000000) {ok0 : Prop} {P0 : od_Rm → Prop} : ∀ (n i : Nat) (tot : List tm_T) (fu : Bool) (ρ : od_Rm), i + n = m → od_Bd ρ → (∀ a, a ∉ rf_WU r → ρ a = ρ0 a) → od_hl ρ p (tm_fl (t :: ts)) → od_hl ρ 83 (tm_fl ls) → (fu = false → od_hl ρ 81 (tm_fl tot) ∧ tm_al tot) → (fu = false ∧ (ok_pi (t :: ts) n tot ∧ tm_ft (tm_fl (sp_mul (tm_tp t.1) ls)) ∧ tm_ft (tm_t (sp_pq t ls)) ∧ tm_ft (tm_fl (sp_mul [sp_pq t ls] (sp_pi (t :: ts) n tot)))) ↔ ok0) → (fu = false → ∀ ρ', od_hl ρ' r (tm_fl (sp_mul [sp_pq t ls] (sp_pi (t :: ts) n tot))) → P0 ρ') → od_W 6 110 291 [some (.ref y), some (.int (nI p)), some (.int wq), some (.int (nI r)), some (.int w4), some (.int (nI m)), some (.int (nI i)), w7] [] (md M y b fu ρ) (rf_s M y b false ρ0 (rf_WU r) ok0 P0) := by
  intro n
  induction n with
  | zero =>
    intro i tot fu ρ hi hb fr hx hy ht hok hP
    refine od_W.rn (pc' := 295) (ls' := [some (.ref _), some (.int _), some (.int _), some (.int _), some (.int _), some (.int _), some (.int _), _]) (st' := [.int _, .int _]) 2 rfl ?_
    refine od_r2T rfl rfl (decide_eq_true (nI_le (by omega) (by omega))) ?_
    refine rt_pi_end hp hr nr np h1 h2 hb fr hx hy ht ?_ hP
    rw [← hok]
    exact ⟨fun z => ⟨z.1, trivial, z.2⟩, fun z => ⟨z.1, z.2.2⟩⟩
  | succ n ih =>
    intro i tot fu ρ hi hb fr hx hy ht hok hP
    refine od_W.rn (pc' := 295) (ls' := [some (.ref _), some (.int _), some (.int _), some (.int _), some (.int _), some (.int _), some (.int _), _]) (st' := [.int _, .int _]) 2 rfl ?_
    refine od_r2F rfl (of_decide_eq_true rfl) (decide_eq_false (nI_ge (by omega) (by omega))) ?_
    refine od_W.rn (pc' := 299) (ls' := [some (.ref _), some (.int _), some (.int _), some (.int _), some (.int _), some (.int _), some (.int _), _]) (st' := [.ref _]) 1 rfl ?_
    refine od_rG rfl (md_0) rfl rfl ?_
    cases fu with
    | true =>
      refine od_r1T rfl rfl (rfl) ?_
      refine rt_pi_end (tot := []) hp hr nr np h1 h2 hb fr hx hy (fun z => absurd z (by decide)) ?_ (fun z => absurd z (by decide))
      rw [← hok]
      exact ⟨fun z => absurd z.1 (by decide), fun z => absurd z.1 (by decide)⟩
    | false =>
      refine od_r1F rfl (of_decide_eq_true rfl) (rfl) ?_
      refine od_W.rn (pc' := 311) (ls' := [some (.ref _), some (.int _), some (.int _), some (.int _), some (.int _), some (.int _), some (.int _), _]) (st' := [.int _, .int _, .int _, .ref _]) 4 rfl ?_
      refine od_rV (as := [.int (nI 81), .int (nI p), .int (nI 82)]) rfl rfl rfl rfl (md_0) rfl (Nat.le_of_ble_eq_true rfl) (Nat.le_of_ble_eq_true rfl) (rc_prd (ts := tot) (us := t :: ts) (by omega) hp (by omega) (by simp) (by simp) (od_nn np (by simp)) hb (fun z => ⟨ht z, hx, h1⟩)) (Nat.le_of_ble_eq_true rfl) (fun o M1 hq => ?_)
      obtain ⟨rfl, fu1, ρ1, rfl, f1, b1, k1, p1⟩ := hq
      refine od_K.ret ?_
      refine od_W.rn (pc' := 319) (ls' := [some (.ref _), some (.int _), some (.int _), some (.int _), some (.int _), some (.int _), some (.int _), _]) (st' := [.int _, .int _, .ref _]) 3 rfl ?_
      refine od_rV (as := [.int (nI 82), .int (nI 81)]) rfl rfl rfl rfl (md_0) rfl (Nat.le_of_ble_eq_true rfl) (Nat.le_of_ble_eq_true rfl) (rc_copy b1 (by omega) (by omega) (by omega) p1) (Nat.le_of_ble_eq_true rfl) (fun o M1 hq => ?_)
      obtain ⟨rfl, fu2, ρ2, rfl, f2, b2, k2, p2⟩ := hq
      refine od_K.ret ?_
      refine od_W.rn (pc' := 291) (ls' := [some (.ref _), some (.int _), some (.int _), some (.int _), some (.int _), some (.int _), some (.int _), _]) (st' := []) 2 rfl ?_
      rw [nI_inc i]
      have kf : fu2 = false ↔ tm_ft (tm_fl (sp_mul tot (t :: ts))) := by
        rw [k2, k1]
        exact ⟨fun z => z.1.2, fun z => ⟨⟨rfl, z⟩, trivial⟩⟩
      refine ih (i + 1) (sp_mul tot (t :: ts)) fu2 ρ2 (by omega) b2 (fun a ha => (f2 a (od_nn ha (by simp))).trans ((f1 a (od_nn ha (by simp))).trans (fr a ha))) ((hx.fr (f1 p (od_nn np (by simp)))).fr (f2 p (od_nn np (by simp)))) ((hy.fr (f1 83 (by simp))).fr (f2 83 (by simp))) (fun z => ⟨p2 z, sp_mul_al (ht rfl).2 h1 (kf.mp z).2⟩) ?_ (fun z => hP rfl)
      rw [← hok, kf]
      exact ⟨fun z => ⟨rfl, ⟨z.1, z.2.1⟩, z.2.2⟩, fun z => ⟨z.2.1.1, z.2.1.2, z.2.2⟩⟩
set_option maxRecDepth 100000 in
theorem rt_power {p q r d : Nat} {ρ : od_Rm} {ts us : List tm_T} (hp : p < 113) (hq' : q < 113) (hr : r < 113) (nr : r ∉ [64, 65, 68, 69, 70, 76, 81, 82, 83, 84]) (np : p ∉ rf_WU r) (nq : q ∉ rf_WU r) (hd : rf_d b.2.2.2 d) (hd2 : d + 20 ≤ 1000000) (hb : od_Bd ρ) (h1 : tm_al ts) (h2 : tm_al us) (hx : od_hl ρ p (tm_fl ts)) (hy : od_hl ρ q (tm_fl us)) : od_W 6 110 0 (od_ent 110 [.ref y, .int (nI p), .int (nI q), .int (nI r)]) [] (md M y b false ρ) (rf_w M y b d 20 ρ (rf_WU r) (ok_pow ts us) (fun ρ' => od_hl ρ' r (tm_fl (sp_pow ts us)))) := by
  have e0 : od_ent 110 [.ref y, .int (nI p), .int (nI q), .int (nI r)] = [some (.ref y), some (.int (nI p)), some (.int (nI q)), some (.int (nI r)), none, none, none, none] := rfl
  rw [e0]
  have lift : ∀ {ok : Prop} {P : od_Rm → Prop} {o : od_O} {M' : od_M}, rf_s M y b false ρ (rf_WU r) ok P o M' → rf_w M y b d 20 ρ (rf_WU r) ok P o M' := fun h => ⟨b.2.2.2, d, hd, by omega, h⟩
  have hxl := hx.n
  have hx60 := hx.le hb
  have hyl := hy.n
  have hy60 := hy.le hb
  refine od_W.rn (pc' := 2) (ls' := [some (.ref _), some (.int _), some (.int _), some (.int _), none, none, none, none]) (st' := [.int _, .ref _]) 2 rfl ?_
  refine od_rV (as := [.int (nI r)]) rfl rfl rfl rfl (md_0) rfl (Nat.le_of_ble_eq_true rfl) (Nat.le_of_ble_eq_true rfl) (rt_clear hb hr) (Nat.le_of_ble_eq_true rfl) (fun o M1 hq => ?_)
  obtain ⟨rfl, fu1, ρ1, rfl, f1, b1, k1, p1⟩ := hq
  refine od_K.ret ?_
  have hf1 : fu1 = false := k1.mpr ⟨rfl, trivial⟩
  subst hf1
  have hx1 := hx.fr (f1 p (od_nn np (by simp)))
  have hy1 := hy.fr (f1 q (od_nn nq (by simp)))
  have hz1 := p1 rfl
  have fr1 : ∀ a, a ∉ rf_WU r → ρ1 a = ρ a := fun a ha => f1 a (od_nn ha (by simp))
  have one : us = [] ∨ tm_fl ts = [1, 0, 1] → od_W 6 110 39 [some (.ref y), some (.int (nI p)), some (.int (nI q)), some (.int (nI r)), none, none, none, none] [] (md M y b false ρ1) (rf_w M y b d 20 ρ (rf_WU r) (ok_pow ts us) (fun ρ' => od_hl ρ' r (tm_fl (sp_pow ts us)))) := by
    intro h0
    have e1 : sp_pow ts us = [([], 1)] := if_pos h0
    have e2 : ok_pow ts us := by unfold ok_pow; rw [if_pos h0]; exact trivial
    rw [e1]
    refine od_W.rn (pc' := 42) (ls' := [some (.ref _), some (.int _), some (.int _), some (.int _), none, none, none, none]) (st' := [.int _, .int _, .ref _]) 3 rfl ?_
    refine od_rV (as := [.int (nI r), .int (nI 1)]) rfl rfl rfl rfl (md_0) rfl (Nat.le_of_ble_eq_true rfl) (Nat.le_of_ble_eq_true rfl) (rc_lay b1 hr (by omega)) (Nat.le_of_ble_eq_true rfl) (fun o M1 hq => ?_)
    obtain ⟨rfl, fu2, ρ2, rfl, f2, b2, k2, p2⟩ := hq
    refine od_K.ret ?_
    refine od_W.fin rfl ?_
    refine lift ⟨rfl, fu2, ρ2, rfl, fun a ha => (f2 a (od_nn ha (by simp))).trans (fr1 a ha), b2, ?_, p2⟩
    rw [k2]
    exact ⟨fun z => ⟨rfl, e2⟩, fun z => ⟨rfl, trivial⟩⟩
  refine od_W.rn (pc' := 6) (ls' := [some (.ref _), some (.int _), some (.int _), some (.int _), none, none, none, none]) (st' := [.ref _]) 1 rfl ?_
  refine od_rG rfl (md_0) rfl rfl ?_
  refine od_W.rn (pc' := 10) (ls' := [some (.ref _), some (.int _), some (.int _), some (.int _), none, none, none, none]) (st' := [.int _, .ref _]) 1 rfl ?_
  refine od_rIL rfl (md_2) (rfl) (hq') (by decide) ?_
  rw [rf_row, hy1.n]
  by_cases hu : us = []
  · refine od_r1T rfl rfl (decide_eq_true (by rw [hu]; rfl)) ?_
    exact one (Or.inl hu)
  · have hupos : 0 < (tm_fl us).length := by
      rcases us with _ | ⟨v, vs⟩
      · exact absurd rfl hu
      · rw [tm_fl, List.length_append, tm_t_len]; omega
    refine od_r1F rfl (of_decide_eq_true rfl) (decide_eq_false (nI_ne0 hupos (by omega))) ?_
    refine od_W.rn (pc' := 15) (ls' := [some (.ref _), some (.int _), some (.int _), some (.int _), none, none, none, none]) (st' := [.ref _]) 1 rfl ?_
    refine od_rG rfl (md_0) rfl rfl ?_
    refine od_W.rn (pc' := 19) (ls' := [some (.ref _), some (.int _), some (.int _), some (.int _), none, none, none, none]) (st' := [.int _, .ref _]) 1 rfl ?_
    refine od_rIL rfl (md_2) (rfl) (hp) (by decide) ?_
    rw [rf_row, hx1.n]
    refine od_W.rn (pc' := 21) (ls' := [some (.ref _), some (.int _), some (.int _), some (.int _), none, none, none, none]) (st' := [.int _, .int _]) 1 rfl ?_
    have go : tm_fl ts ≠ [1, 0, 1] → od_W 6 110 46 [some (.ref y), some (.int (nI p)), some (.int (nI q)), some (.int (nI r)), none, none, none, none] [] (md M y b false ρ1) (rf_w M y b d 20 ρ (rf_WU r) (ok_pow ts us) (fun ρ' => od_hl ρ' r (tm_fl (sp_pow ts us)))) := by
      intro hn1
      have hcase : ¬ (us = [] ∨ tm_fl ts = [1, 0, 1]) := fun z => z.elim hu hn1
      refine od_W.rn (pc' := 47) (ls' := [some (.ref _), some (.int _), some (.int _), some (.int _), none, none, none, none]) (st' := [.ref _]) 1 rfl ?_
      refine od_rG rfl (md_0) rfl rfl ?_
      refine od_W.rn (pc' := 51) (ls' := [some (.ref _), some (.int _), some (.int _), some (.int _), none, none, none, none]) (st' := [.int _, .ref _]) 1 rfl ?_
      refine od_rIL rfl (md_2) (rfl) (hp) (by decide) ?_
      rw [rf_row, hx1.n]
      cases ts with
      | nil =>
        have e1 : sp_pow [] us = [] := if_neg hcase
        have e2 : ok_pow [] us := by unfold ok_pow; rw [if_neg hcase]; exact trivial
        rw [e1]
        refine od_r1F rfl (of_decide_eq_true rfl) (rfl) ?_
        refine od_W.fin rfl ?_
        exact lift ⟨rfl, false, ρ1, rfl, fr1, b1, ⟨fun _ => ⟨rfl, e2⟩, fun _ => rfl⟩, fun _ => hz1⟩
      | cons t ts =>
        have e1 : sp_pow (t :: ts) us = if (tm_fl (t :: ts)).length ≤ 3 then [(tm_fl (sp_pe (sp_lim us)), sp_pw (tm_n (t :: ts)) (tm_n us) 1)] else sp_mul [sp_pq t (sp_lim us)] (sp_pi (t :: ts) (tm_n us) [([], 1)]) := if_neg hcase
        have e2 : ok_pow (t :: ts) us ↔ if (tm_fl (t :: ts)).length ≤ 3 then tm_ft (tm_t (tm_fl (sp_pe (sp_lim us)), sp_pw (tm_n (t :: ts)) (tm_n us) 1)) else ok_pin t ts (sp_lim us) (tm_n us) := by unfold ok_pow; rw [if_neg hcase]
        have hnu := tm_n_le h2
        have hnt := tm_n_le h1
        have alm := sp_lim_al h2
        have htl : (tm_fl (t :: ts)).length = t.1.length + 3 + (tm_fl ts).length := by rw [tm_fl, List.length_append, tm_t_len]
        refine od_r1T rfl rfl ((show (!decide (nI (tm_fl (t :: ts)).length = 0)) = true by rw [decide_eq_false (nI_ne0 (by omega) (by omega))]; rfl)) ?_
        refine od_W.rn (pc' := 58) (ls' := [some (.ref _), some (.int _), some (.int _), some (.int _), none, none, none, none]) (st' := [.int _, .ref _]) 2 rfl ?_
        refine od_rV (as := [.int (nI q)]) rfl rfl rfl rfl (md_0) rfl (Nat.le_of_ble_eq_true rfl) (Nat.le_of_ble_eq_true rfl) (rt_sort b1 hq' h2 hy1) (Nat.le_of_ble_eq_true rfl) (fun o M1 hq => ?_)
        obtain ⟨rfl, rfl⟩ := hq
        refine od_K.ret ?_
        refine od_W.rn (pc' := 62) (ls' := [some (.ref _), some (.int _), some (.int _), some (.int _), none, none, none, none]) (st' := [.int _, .int _]) 1 rfl ?_
        have tail : ∀ (en : Int32) (lim rr : List Nat), lim = tm_fl (sp_lim us) → tm_fl us = lim ++ rr → od_W 6 110 134 [some (.ref y), some (.int (nI p)), some (.int (nI q)), some (.int (nI r)), some (.int en), some (.int (nI (tm_n us))), none, none] [.int (nI lim.length), .int (nI 0), .int (nI q), .int (nI 83), .ref y] (md M y b false (od_rs ρ1 83 (0, (ρ1 83).2))) (rf_w M y b d 20 ρ (rf_WU r) (ok_pow (t :: ts) us) (fun ρ' => od_hl ρ' r (tm_fl (sp_pow (t :: ts) us)))) := by
          intro en lim rr hlim hrr
          have bq : od_Bd (od_rs ρ1 83 (0, (ρ1 83).2)) := b1.set (by dsimp only; omega)
          have fq : ∀ a, a ∉ [83] → od_rs ρ1 83 (0, (ρ1 83).2) a = ρ1 a := fun a ha => od_rs_o (fun z => ha (by rw [z]; exact List.mem_singleton.mpr rfl))
          have h83 : od_hl (od_rs ρ1 83 (0, (ρ1 83).2)) 83 [] := by
            refine ⟨?_, fun x hx => (List.not_mem_nil hx).elim⟩
            rw [od_rs_r]
            exact ⟨rfl, tm_at_nil _ _⟩
          have hyq := hy1.fr (fq q (od_nn nq (by simp)))
          have hlim60 : lim.length ≤ 60 := by rw [hrr, List.length_append] at hy60; omega
          generalize od_rs ρ1 83 (0, (ρ1 83).2) = ρ2 at *
          refine od_rV (as := [.int (nI 83), .int (nI q), .int (nI 0), .int (nI lim.length)]) rfl rfl rfl rfl (md_0) rfl (Nat.le_of_ble_eq_true rfl) (Nat.le_of_ble_eq_true rfl) (rt_appendPart (u := []) (w := lim) (z := rr) bq (by omega) hq' (od_ne nq (by simp)) (by rw [List.nil_append, ← hrr]; exact hyq) rfl (by omega) (fun _ => h83)) (Nat.le_of_ble_eq_true rfl) (fun o M1 hq => ?_)
          obtain ⟨rfl, fu3, ρ3, rfl, f3, b3, k3, p3⟩ := hq
          refine od_K.ret ?_
          have hf3 : fu3 = false := k3.mpr ⟨rfl, by rw [List.nil_append]; exact hlim60, by rw [List.nil_append]; have := hy.2; rw [hrr] at this; exact (tm_sm_app.mp this).1⟩
          subst hf3
          have h83' := p3 rfl
          rw [List.nil_append, hlim] at h83'
          have fr3 : ∀ a, a ∉ rf_WU r → ρ3 a = ρ a := fun a ha => (f3 a (od_nn ha (by simp))).trans ((fq a (od_nn ha (by simp))).trans (fr1 a ha))
          have hx3 := (hx1.fr (fq p (od_nn np (by simp)))).fr (f3 p (od_nn np (by simp)))
          have hz3 := (hz1.fr (fq r (od_nn nr (by simp)))).fr (f3 r (od_nn nr (by simp)))
          refine od_W.rn (pc' := 139) (ls' := [some (.ref _), some (.int _), some (.int _), some (.int _), some (.int _), some (.int _), none, none]) (st' := [.int _, .ref _]) 2 rfl ?_
          refine od_rV (as := [.int (nI p)]) rfl rfl rfl rfl (md_0) rfl (Nat.le_of_ble_eq_true rfl) (Nat.le_of_ble_eq_true rfl) (ct_isInf b3 hp) (Nat.le_of_ble_eq_true rfl) (fun o M1 hq => ?_)
          obtain ⟨rfl, rfl⟩ := hq
          refine od_K.ret ?_
          rw [hx3.n]
          by_cases h3 : (tm_fl (t :: ts)).length ≤ 3
          · rw [if_pos h3] at e1 e2 ⊢
            rw [e1, tm_fl_one]
            obtain ⟨ft1, ft2⟩ := tm_fin h3
            subst ft2
            have ev : tm_fl [t] = [1, 0, t.2] := by rw [tm_fl_one]; unfold tm_t; rw [ft1]; rfl
            have etn : tm_n [t] = t.2 := by show (if t.1 = [] then t.2 else 0) = t.2; rw [if_pos ft1]
            rw [etn] at e2 hnt ⊢
            rw [ev] at hx3
            have hlen20 : (sp_lim us).length ≤ 20 := by have h8 := tm_fl_len (sp_lim us); rw [← hlim] at h8; omega
            refine od_r1F rfl (of_decide_eq_true rfl) (rfl) ?_
            refine od_W.rn (pc' := 148) (ls' := [some (.ref _), some (.int _), some (.int _), some (.int _), some (.int _), some (.int _), none, none]) (st' := [.int _, .ref _]) 2 rfl ?_
            refine od_rV (as := [.int (nI 84)]) rfl rfl rfl rfl (md_0) rfl (Nat.le_of_ble_eq_true rfl) (Nat.le_of_ble_eq_true rfl) (rt_clear b3 (by omega)) (Nat.le_of_ble_eq_true rfl) (fun o M1 hq => ?_)
            obtain ⟨rfl, fu4, ρ4, rfl, f4, b4, k4, p4⟩ := hq
            refine od_K.ret ?_
            have hf4 : fu4 = false := k4.mpr ⟨rfl, trivial⟩
            subst hf4
            refine od_W.rn (pc' := 154) (ls' := [some (.ref _), some (.int _), some (.int _), some (.int _), some (.int _), some (.int _), some (.int _), none]) (st' := []) 2 rfl ?_
            refine (rt_pw_loop (ρ0 := ρ) (b := b) hp hr nr np hnt hnu (by rw [← hlim]; exact hlim60) alm (sp_lim us) [] b.2.2.2 d ρ4 none rfl hd (by omega) b4 (fun a ha => (f4 a (od_nn ha (by simp))).trans (fr3 a ha)) (hx3.fr (f4 p (od_nn np (by simp)))) (h83'.fr (f4 83 (by simp))) (p4 rfl) (hz3.fr (f4 r (od_nn nr (by simp))))).mono fun o M' h => ?_
            obtain ⟨g9, d9, z1, z2, z3⟩ := h
            exact ⟨g9, d9, z1, by omega, z3.mono (fun q h => h) (fun _ => e2.symm) (fun ρ' _ _ _ h => h)⟩
          · rw [if_neg h3] at e1 e2 ⊢
            rw [e1]
            refine od_r1T rfl rfl (rfl) ?_
            refine od_W.rn (pc' := 260) (ls' := [some (.ref _), some (.int _), some (.int _), some (.int _), some (.int _), some (.int _), none, none]) (st' := [.ref _, .ref _]) 2 rfl ?_
            refine od_rG rfl (md_0) rfl rfl ?_
            refine od_r1F rfl (of_decide_eq_true rfl) (rfl) ?_
            refine od_W.rn (pc' := 270) (ls' := [some (.ref _), some (.int _), some (.int _), some (.int _), some (.int _), some (.int _), none, none]) (st' := [.int _, .int _, .ref _]) 2 rfl ?_
            have rest : ∀ fu5 : Bool, (fu5 = false ↔ tm_n us ≤ 20) → ∀ bv : Int32, (bv = if fu5 = true then 1 else 0) → od_W 6 110 278 [some (.ref y), some (.int (nI p)), some (.int (nI q)), some (.int (nI r)), some (.int en), some (.int (nI (tm_n us))), none, none] [.int bv, .ref y] (md M y b false ρ3) (rf_w M y b d 20 ρ (rf_WU r) (ok_pow (t :: ts) us) (fun ρ' => od_hl ρ' r (tm_fl (sp_mul [sp_pq t (sp_lim us)] (sp_pi (t :: ts) (tm_n us) [([], 1)]))))) := by
              intro fu5 h5 bv hbv
              subst hbv
              refine od_rP (k := 110) rfl md_0 rfl (by simp) (by cases fu5 <;> rfl) (by decide) ?_
              rw [show od_set (md M y b false ρ3) y (od_ob 8 (List.set _ 3 (.int (if fu5 = true then 1 else 0)))) = md M y b fu5 ρ3 from md_ob (b' := b) (fu' := fu5) rfl]
              refine od_W.rn (pc' := 285) (ls' := [some (.ref _), some (.int _), some (.int _), some (.int _), some (.int _), some (.int _), none, none]) (st' := [.int _, .int _, .ref _]) 3 rfl ?_
              refine od_rV (as := [.int (nI 81), .int (nI 1)]) rfl rfl rfl rfl (md_0) rfl (Nat.le_of_ble_eq_true rfl) (Nat.le_of_ble_eq_true rfl) (rc_lay b3 (by omega) (by omega)) (Nat.le_of_ble_eq_true rfl) (fun o M1 hq => ?_)
              obtain ⟨rfl, fu6, ρ6, rfl, f6, b6, k6, p6⟩ := hq
              refine od_K.ret ?_
              refine od_W.rn (pc' := 291) (ls' := [some (.ref _), some (.int _), some (.int _), some (.int _), some (.int _), some (.int _), some (.int _), none]) (st' := []) 2 rfl ?_
              refine (rt_pi_loop (ρ0 := ρ) (b := b) (ok0 := ok_pow (t :: ts) us) (P0 := fun ρ' => od_hl ρ' r (tm_fl (sp_mul [sp_pq t (sp_lim us)] (sp_pi (t :: ts) (tm_n us) [([], 1)])))) hp hr nr np h1 alm hnu (tm_n us) 0 [([], 1)] fu6 ρ6 (by omega) b6 (fun a ha => (f6 a (od_nn ha (by simp))).trans (fr3 a ha)) (hx3.fr (f6 p (od_nn np (by simp)))) (h83'.fr (f6 83 (by simp))) (fun z => ⟨p6 z, tm_al_one⟩) ?_ (fun _ _ h => h)).mono fun o M' h => lift h
              rw [e2, k6, h5]
              exact ⟨fun z => ⟨z.1.1, z.2⟩, fun z => ⟨⟨z.1, trivial⟩, z.2⟩⟩
            by_cases h20 : tm_n us ≤ 20
            · refine od_r2T rfl rfl (decide_eq_true (nI_le (b := 20) h20 (by omega))) ?_
              refine od_W.rn (pc' := 278) (ls' := [some (.ref _), some (.int _), some (.int _), some (.int _), some (.int _), some (.int _), none, none]) (st' := [.int _, .ref _]) 1 rfl ?_
              exact rest false ⟨fun _ => h20, fun _ => rfl⟩ _ rfl
            · refine od_r2F rfl (of_decide_eq_true rfl) (decide_eq_false (nI_ge (a := 20) (by omega) (by omega))) ?_
              refine od_W.rn (pc' := 278) (ls' := [some (.ref _), some (.int _), some (.int _), some (.int _), some (.int _), some (.int _), none, none]) (st' := [.int _, .ref _]) 2 rfl ?_
              exact rest true ⟨fun z => absurd z (by decide), fun z => absurd z h20⟩ _ rfl
        obtain hu2 | ⟨vs, v, hv⟩ := tm_snoc us
        · exact absurd hu2 hu
        · have hkv : tm_k us = if v.1 = [] then 1 else 2 := by rw [hv, tm_k_snoc]
          have hnv : tm_n us = if v.1 = [] then v.2 else 0 := by rw [hv, tm_n_snoc]
          have h2' : tm_al (vs ++ [v]) := hv ▸ h2
          have hvc := (tm_al_app.mp h2').2.1.2
          unfold tm_c at hvc
          by_cases hv1 : v.1 = []
          · rw [if_pos hv1] at hkv hnv
            have hlen : (tm_fl us).length = (tm_fl vs).length + 3 := by rw [hv, tm_fl_snoc, List.length_append, tm_t_len, hv1]; rfl
            have hat := hy1.at
            rw [hv, tm_fl_snoc, tm_at_app, Nat.zero_add] at hat
            have hat2 := hat.2
            unfold tm_t at hat2
            rw [hv1, tm_at_cons, List.nil_append, tm_at_cons, tm_at_cons] at hat2
            rw [hkv]
            refine od_r2F rfl (of_decide_eq_true rfl) (rfl) ?_
            refine od_W.rn (pc' := 74) (ls' := [some (.ref _), some (.int _), some (.int _), some (.int _), some (.int _), none, none, none]) (st' := [.int _]) 4 rfl ?_
            refine od_r1F rfl (of_decide_eq_true rfl) (rfl) ?_
            refine od_W.rn (pc' := 78) (ls' := [some (.ref _), some (.int _), some (.int _), some (.int _), some (.int _), none, none, none]) (st' := [.ref _]) 1 rfl ?_
            refine od_rG rfl (md_0) rfl rfl ?_
            refine od_W.rn (pc' := 86) (ls' := [some (.ref _), some (.int _), some (.int _), some (.int _), some (.int _), none, none, none]) (st' := [.ref _, .int _, .ref _]) 4 rfl ?_
            refine od_rG rfl (md_0) rfl rfl ?_
            refine od_W.rn (pc' := 90) (ls' := [some (.ref _), some (.int _), some (.int _), some (.int _), some (.int _), none, none, none]) (st' := [.int _, .ref _, .int _, .ref _]) 1 rfl ?_
            refine od_rIL rfl (md_2) (rfl) (hq') (by decide) ?_
            rw [rf_row, hy1.n, hlen]
            have ix : (Int8.ofInt 64).toInt32 * nI q + nI ((tm_fl vs).length + 3) - 1 = nI (64 * q + ((tm_fl vs).length + 2)) := (rf_ix1 q _ (by omega)).trans (by congr 1)
            refine od_W.rn (pc' := 94) (ls' := [some (.ref _), some (.int _), some (.int _), some (.int _), some (.int _), none, none, none]) (st' := [.int _, .ref _]) 3 rfl ?_
            refine od_rIL rfl (md_1) (ix) (by omega) (by decide) ?_
            rw [rf_fl_at ρ1 (by omega), hat2.2.2.1, ← hnv]
            refine od_W.rn (pc' := 104) (ls' := [some (.ref _), some (.int _), some (.int _), some (.int _), some (.int _), some (.int _), none, none]) (st' := [.int _, .ref _]) 4 rfl ?_
            refine od_rV (as := [.int (nI 83)]) rfl rfl rfl rfl (md_0) rfl (Nat.le_of_ble_eq_true rfl) (Nat.le_of_ble_eq_true rfl) (ct_clr (by omega)) (Nat.le_of_ble_eq_true rfl) (fun o M1 hq => ?_)
            obtain ⟨rfl, rfl⟩ := hq
            refine od_K.ret ?_
            refine od_W.rn (pc' := 114) (ls' := [some (.ref _), some (.int _), some (.int _), some (.int _), some (.int _), some (.int _), none, none]) (st' := [.int _, .int _, .int _, .int _, .ref _]) 5 rfl ?_
            refine od_r1F rfl (of_decide_eq_true rfl) (rfl) ?_
            refine od_W.rn (pc' := 118) (ls' := [some (.ref _), some (.int _), some (.int _), some (.int _), some (.int _), some (.int _), none, none]) (st' := [.ref _, .int _, .int _, .int _, .ref _]) 1 rfl ?_
            refine od_rG rfl (md_0) rfl rfl ?_
            refine od_W.rn (pc' := 122) (ls' := [some (.ref _), some (.int _), some (.int _), some (.int _), some (.int _), some (.int _), none, none]) (st' := [.int _, .ref _, .int _, .int _, .int _, .ref _]) 1 rfl ?_
            refine od_rIL rfl (md_2) (rfl) (hq') (by decide) ?_
            rw [rf_row, od_rs_o (show q ≠ 83 from od_ne nq (by simp)), hy1.n, hlen]
            refine od_W.rn (pc' := 134) (ls' := [some (.ref _), some (.int _), some (.int _), some (.int _), some (.int _), some (.int _), none, none]) (st' := [.int _, .int _, .int _, .int _, .ref _]) 3 rfl ?_
            have e3 : nI ((tm_fl vs).length + 3) - Int32.ofInt 3 = nI (tm_fl vs).length := (nI_subI (a := 3) (by omega)).trans (by congr 1)
            rw [e3]
            refine tail _ (tm_fl vs) (tm_t v) ?_ (by rw [hv, tm_fl_snoc])
            unfold sp_lim
            rw [if_neg (by omega), hv, List.dropLast_concat]
          · rw [if_neg hv1] at hkv hnv
            rw [hkv]
            refine od_r2T rfl rfl (rfl) ?_
            refine od_W.rn (pc' := 74) (ls' := [some (.ref _), some (.int _), some (.int _), some (.int _), some (.int _), none, none, none]) (st' := [.int _]) 3 rfl ?_
            refine od_r1T rfl rfl (rfl) ?_
            refine od_W.rn (pc' := 104) (ls' := [some (.ref _), some (.int _), some (.int _), some (.int _), some (.int _), some (.int _), none, none]) (st' := [.int _, .ref _]) 4 rfl ?_
            refine od_rV (as := [.int (nI 83)]) rfl rfl rfl rfl (md_0) rfl (Nat.le_of_ble_eq_true rfl) (Nat.le_of_ble_eq_true rfl) (ct_clr (by omega)) (Nat.le_of_ble_eq_true rfl) (fun o M1 hq => ?_)
            obtain ⟨rfl, rfl⟩ := hq
            refine od_K.ret ?_
            refine od_W.rn (pc' := 114) (ls' := [some (.ref _), some (.int _), some (.int _), some (.int _), some (.int _), some (.int _), none, none]) (st' := [.int _, .int _, .int _, .int _, .ref _]) 5 rfl ?_
            refine od_r1T rfl rfl (rfl) ?_
            refine od_W.rn (pc' := 129) (ls' := [some (.ref _), some (.int _), some (.int _), some (.int _), some (.int _), some (.int _), none, none]) (st' := [.ref _, .int _, .int _, .int _, .ref _]) 1 rfl ?_
            refine od_rG rfl (md_0) rfl rfl ?_
            refine od_W.rn (pc' := 133) (ls' := [some (.ref _), some (.int _), some (.int _), some (.int _), some (.int _), some (.int _), none, none]) (st' := [.int _, .ref _, .int _, .int _, .int _, .ref _]) 1 rfl ?_
            refine od_rIL rfl (md_2) (rfl) (hq') (by decide) ?_
            rw [rf_row, od_rs_o (show q ≠ 83 from od_ne nq (by simp)), hy1.n]
            rw [hnv] at tail
            refine tail _ (tm_fl us) [] ?_ (by simp)
            unfold sp_lim
            rw [if_pos hnv]
    by_cases h3 : (tm_fl ts).length = 3
    · refine od_r2F rfl (of_decide_eq_true rfl) ((show (!decide (nI (tm_fl ts).length = nI 3)) = false by rw [h3, decide_eq_true rfl]; rfl)) ?_
      rcases ts with _ | ⟨t, ts⟩
      · simp [tm_fl] at h3
      · obtain ⟨ft1, ft2⟩ := tm_fin (t := t) (ts := ts) (by omega)
        subst ft2
        have ev : tm_fl [t] = [1, 0, t.2] := by rw [tm_fl_one]; unfold tm_t; rw [ft1]; rfl
        have htc := h1.1.2
        unfold tm_c at htc
        have hat := hx1.at
        rw [ev, tm_at_cons, tm_at_cons, tm_at_cons] at hat
        refine od_W.rn (pc' := 25) (ls' := [some (.ref _), some (.int _), some (.int _), some (.int _), none, none, none, none]) (st' := [.ref _]) 1 rfl ?_
        refine od_rG rfl (md_0) rfl rfl ?_
        refine od_W.rn (pc' := 34) (ls' := [some (.ref _), some (.int _), some (.int _), some (.int _), none, none, none, none]) (st' := [.int _, .ref _]) 5 rfl ?_
        refine od_rIL rfl (md_1) (rf_ix p 2) (by omega) (by decide) ?_
        rw [rf_fl_at ρ1 (by omega), hat.2.2.1]
        refine od_W.rn (pc' := 36) (ls' := [some (.ref _), some (.int _), some (.int _), some (.int _), none, none, none, none]) (st' := [.int _, .int _]) 1 rfl ?_
        by_cases ht1 : t.2 = 1
        · refine od_r2F rfl (of_decide_eq_true rfl) ((show (!decide (nI t.2 = nI 1)) = false by rw [ht1, decide_eq_true rfl]; rfl)) ?_
          exact one (Or.inr (by rw [ev, ht1]))
        · refine od_r2T rfl rfl ((show (!decide (nI t.2 = nI 1)) = true by rw [decide_eq_false (fun z => ht1 ((nI_eq (by omega) (by omega)).mp z))]; rfl)) ?_
          exact go (by rw [ev]; intro z; exact ht1 (by simpa using z))
    · refine od_r2T rfl rfl ((show (!decide (nI (tm_fl ts).length = nI 3)) = true by rw [decide_eq_false (fun z => h3 ((nI_eq (by omega) (by omega)).mp z))]; rfl)) ?_
      exact go (fun z => h3 (by rw [z]; rfl))
end RW
