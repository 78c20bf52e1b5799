/-! The reference's quotient and remainder. -/
theorem sp_dif_len : ∀ (ts us : List tm_T), (tm_fl (sp_dif ts us)).length ≤ (tm_fl ts).length := by
  intro ts
  induction ts with
  | nil => intro us; exact Nat.le_refl _
  | cons t ts ih =>
    intro us
    cases us with
    | nil => exact Nat.le_refl _
    | cons u us =>
      unfold sp_dif
      split
      · split
        · have := ih us
          rw [show (tm_fl (t :: ts)).length = (tm_t t ++ tm_fl ts).length from rfl, List.length_append]
          omega
        · split
          · rw [tm_fl, tm_fl, List.length_append, List.length_append, tm_t_len, tm_t_len]; exact Nat.le_refl _
          · rw [show (tm_fl (t :: ts)).length = (tm_t t ++ tm_fl ts).length from rfl, List.length_append]
            omega
      · exact Nat.le_refl _
theorem sp_dv_len {u : tm_T} : ∀ {ts : List tm_T}, tm_al ts → (tm_fl (sp_dv u ts).1).length + (tm_fl (sp_dv u ts).2).length ≤ (tm_fl ts).length := by
  intro ts
  induction ts with
  | nil => intro _; exact Nat.le_refl _
  | cons t ts ih =>
    intro h
    unfold sp_dv
    split
    · have h1 := ih h.2
      have h2 := sp_dif_len (tm_tp t.1) (tm_tp u.1)
      rw [tm_fl_tp h.1.1] at h2
      dsimp only
      rw [tm_fl, tm_fl, List.length_append, List.length_append, tm_t_len, tm_t_len]
      dsimp only
      omega
    · dsimp only
      rw [show tm_fl ([] : List tm_T) = [] from rfl, List.length_nil]
      omega
theorem sp_quo_ft {ts us : List tm_T} {u : tm_T} (h1 : tm_al ts) (hf : tm_ft (tm_fl ts)) : tm_ft (tm_fl (sp_quo ts u us)) := by
  refine ⟨?_, (tm_fl_W (sp_quo_al h1)).sm⟩
  have h2 := sp_dv_len (u := u) h1
  have h3 := hf.1
  unfold sp_quo
  rw [tm_fl_app, List.length_append]
  unfold sp_nu
  split
  · rw [show tm_fl ([] : List tm_T) = [] from rfl, List.length_nil]; omega
  · rename_i hn
    rw [tm_fl_one, tm_t_len]
    have : 3 ≤ (tm_fl (sp_dv u ts).2).length := by
      rcases hz : (sp_dv u ts).2 with _ | ⟨r, rs⟩
      · rw [hz] at hn; exact absurd rfl hn
      · rw [tm_fl, List.length_append, tm_t_len]; omega
    show (tm_fl (sp_dv u ts).1).length + ([] : List Nat).length + 3 ≤ 60
    rw [List.length_nil]
    omega
theorem sp_ms_cmp {u r : tm_T} {us rs : List tm_T} (hu : tm_ok u) (hr : tm_ok r) (he : r.1 = u.1) (hn : 0 < sp_tm u us (r :: rs)) : tm_cmp (tm_fl (r :: rs)) (tm_fl (sp_ms u us (sp_tm u us (r :: rs)))) ≠ -1 := by
  have e1 : sp_ms u us (sp_tm u us (r :: rs)) = (u.1, sp_tm u us (r :: rs) * u.2) :: us := if_neg (by omega)
  rw [e1, tm_fl, tm_fl, show r = (r.1, r.2) from rfl, he, tm_cmp_t]
  have hc0 : ¬ tm_cmp r.1 u.1 = -1 := by rw [he, tm_cmp_self]; decide
  have hd := Nat.div_mul_le_self r.2 u.2
  have huc := hu.2.1
  have e2 := sp_tm_c u (r.1, r.2) us rs
  rw [if_neg hc0] at e2
  rw [show sp_tm u us ((u.1, r.2) :: rs) = sp_tm u us (r :: rs) by rw [← he]]
  by_cases hev : r.2 / u.2 * u.2 = r.2 ∧ tm_cmp (tm_fl rs) (tm_fl us) = -1
  · rw [if_pos hev] at e2
    have e3 : sp_tm u us (r :: rs) = r.2 / u.2 - 1 := e2
    rw [e3] at hn ⊢
    have : (r.2 / u.2 - 1) * u.2 < r.2 := by rw [Nat.sub_mul, hev.1]; have := hr.2.1; omega
    rw [if_neg (by omega), if_pos this]
    decide
  · rw [if_neg hev] at e2
    have e3 : sp_tm u us (r :: rs) = r.2 / u.2 := e2
    rw [e3]
    rw [if_neg (by omega)]
    split
    · decide
    · exact fun z => hev ⟨by omega, z⟩
section RDV
variable {M : od_M} {y : Nat} {b : rf_B} {ρ0 : od_Rm}
set_option maxRecDepth 100000 in
theorem rt_goes {p q k : Nat} {ρ : od_Rm} {up : List Nat} {r u : tm_T} {rs us : List tm_T} (hp : p < 113) (hq' : q < 113) (np : p ∉ [76, 77]) (nq : q ∉ [76, 77]) (hb : od_Bd ρ) (h1 : tm_al (r :: rs)) (h2 : tm_al (u :: us)) (he : r.1 = u.1) (hx : od_hl ρ p (up ++ (tm_t r ++ tm_fl rs))) (hy : od_hl ρ q (tm_t u ++ tm_fl us)) (hk : k = up.length) : od_W 4 107 0 (od_ent 107 [.ref y, .int (nI p), .int (nI k), .int (nI q)]) [] (md M y b false ρ) (fun o M' => o = .inl (some (.int (nI (sp_tm u us (r :: rs))))) ∧ ∃ ρ', M' = md M y b false ρ' ∧ (∀ a, a ∉ [76, 77] → ρ' a = ρ a) ∧ od_Bd ρ') := by
  have e0 : od_ent 107 [.ref y, .int (nI p), .int (nI k), .int (nI q)] = [some (.ref y), some (.int (nI p)), some (.int (nI k)), some (.int (nI q)), none, none, none] := rfl
  rw [e0]
  subst hk
  have hy2 : od_hl ρ q ([] ++ (tm_t u ++ tm_fl us)) := hy
  have hcr := h1.1.2
  have hcu := h2.1.2
  unfold tm_c at hcr hcu
  have hc0 : ¬ tm_cmp r.1 u.1 = -1 := by rw [he, tm_cmp_self]; decide
  have hd1 := Nat.div_mul_le_self r.2 u.2
  have hd2 := Nat.div_le_self r.2 u.2
  have h60 := hx.le hb
  have h60' := hy.le hb
  rw [List.length_append, List.length_append] at h60
  rw [List.length_append] at h60'
  refine od_W.rn (pc' := 3) (ls' := [some (.ref _), some (.int _), some (.int _), some (.int _), none, none, none]) (st' := [.int _, .int _, .ref _]) 3 rfl ?_
  refine od_rV (as := [.int (nI p), .int (nI up.length)]) rfl rfl rfl rfl (md_0) rfl (Nat.le_of_ble_eq_true rfl) (Nat.le_of_ble_eq_true rfl) (rt_behind hb hp h1.1 hx rfl) (Nat.le_of_ble_eq_true rfl) (fun o M1 hq => ?_)
  obtain ⟨rfl, rfl⟩ := hq
  refine od_K.ret ?_
  refine od_W.rn (pc' := 11) (ls' := [some (.ref _), some (.int _), some (.int _), some (.int _), some (.int _), none, none]) (st' := [.int _, .int _, .ref _]) 4 rfl ?_
  refine od_rV (as := [.int (nI q), .int (nI 0)]) rfl rfl rfl rfl (md_0) rfl (Nat.le_of_ble_eq_true rfl) (Nat.le_of_ble_eq_true rfl) (rt_behind hb hq' h2.1 hy2 rfl) (Nat.le_of_ble_eq_true rfl) (fun o M1 hq => ?_)
  obtain ⟨rfl, rfl⟩ := hq
  refine od_K.ret ?_
  rw [Nat.zero_add]
  refine od_W.rn (pc' := 20) (ls' := [some (.ref _), some (.int _), some (.int _), some (.int _), some (.int _), some (.int _), none]) (st' := [.int _, .int _, .ref _]) 4 rfl ?_
  refine od_rV (as := [.int (nI p), .int (nI (up.length + (tm_t r).length))]) rfl rfl rfl rfl (md_0) rfl (Nat.le_of_ble_eq_true rfl) (Nat.le_of_ble_eq_true rfl) (rt_coef hp hb hx rfl) (Nat.le_of_ble_eq_true rfl) (fun o M1 hq => ?_)
  obtain ⟨rfl, rfl⟩ := hq
  refine od_K.ret ?_
  refine od_W.rn (pc' := 27) (ls' := [some (.ref _), some (.int _), some (.int _), some (.int _), some (.int _), some (.int _), none]) (st' := [.int _, .int _, .ref _, .int _]) 3 rfl ?_
  refine od_rV (as := [.int (nI q), .int (nI (tm_t u).length)]) rfl rfl rfl rfl (md_0) rfl (Nat.le_of_ble_eq_true rfl) (Nat.le_of_ble_eq_true rfl) (rt_coef hq' hb hy2 (by simp)) (Nat.le_of_ble_eq_true rfl) (fun o M1 hq => ?_)
  obtain ⟨rfl, rfl⟩ := hq
  refine od_K.ret ?_
  refine od_rDidiv rfl (rfl) (rfl) (hcu.1) ((by omega)) ((by omega)) ?_
  refine od_W.rn (pc' := 39) (ls' := [some (.ref _), some (.int _), some (.int _), some (.int _), some (.int _), some (.int _), some (.int _)]) (st' := [.int _, .int _, .ref _, .int _]) 5 rfl ?_
  refine od_rV (as := [.int (nI q), .int (nI (tm_t u).length)]) rfl rfl rfl rfl (md_0) rfl (Nat.le_of_ble_eq_true rfl) (Nat.le_of_ble_eq_true rfl) (rt_coef hq' hb hy2 (by simp)) (Nat.le_of_ble_eq_true rfl) (fun o M1 hq => ?_)
  obtain ⟨rfl, rfl⟩ := hq
  refine od_K.ret ?_
  refine od_W.rn (pc' := 47) (ls' := [some (.ref _), some (.int _), some (.int _), some (.int _), some (.int _), some (.int _), some (.int _)]) (st' := [.int _, .int _, .ref _, .int _]) 4 rfl ?_
  rw [nI_mulN]
  refine od_rV (as := [.int (nI p), .int (nI (up.length + (tm_t r).length))]) rfl rfl rfl rfl (md_0) rfl (Nat.le_of_ble_eq_true rfl) (Nat.le_of_ble_eq_true rfl) (rt_coef hp hb hx rfl) (Nat.le_of_ble_eq_true rfl) (fun o M1 hq => ?_)
  obtain ⟨rfl, rfl⟩ := hq
  refine od_K.ret ?_
  by_cases hev : r.2 / u.2 * u.2 = r.2
  · refine od_r2F rfl (of_decide_eq_true rfl) ((show (!decide (nI (r.2 / u.2 * u.2) = nI r.2)) = false by rw [hev, decide_eq_true rfl]; rfl)) ?_
    refine od_W.rn (pc' := 56) (ls' := [some (.ref _), some (.int _), some (.int _), some (.int _), some (.int _), some (.int _), some (.int _)]) (st' := [.int _, .ref _]) 2 rfl ?_
    refine od_rV (as := [.int (nI 76)]) rfl rfl rfl rfl (md_0) rfl (Nat.le_of_ble_eq_true rfl) (Nat.le_of_ble_eq_true rfl) (rt_clear hb (by omega)) (Nat.le_of_ble_eq_true rfl) (fun o M1 hq => ?_)
    obtain ⟨rfl, fu1, ρ1, rfl, f1, b1, k1, p1⟩ := hq
    refine od_K.ret ?_
    have hf1 : fu1 = false := k1.mpr ⟨rfl, trivial⟩
    subst hf1
    have hx1 := hx.fr (f1 p (od_nn np (by simp)))
    have hy1 := hy.fr (f1 q (od_nn nq (by simp)))
    refine od_W.rn (pc' := 66) (ls' := [some (.ref _), some (.int _), some (.int _), some (.int _), some (.int _), some (.int _), some (.int _)]) (st' := [.ref _, .int _, .int _, .int _, .ref _]) 5 rfl ?_
    refine od_rG rfl (md_0) rfl rfl ?_
    refine od_W.rn (pc' := 70) (ls' := [some (.ref _), some (.int _), some (.int _), some (.int _), some (.int _), some (.int _), some (.int _)]) (st' := [.int _, .ref _, .int _, .int _, .int _, .ref _]) 1 rfl ?_
    refine od_rIL rfl (md_2) (rfl) (hp) (by decide) ?_
    rw [rf_row, hx1.n]
    refine od_rV (as := [.int (nI 76), .int (nI p), .int (nI (up.length + (tm_t r).length)), .int (nI (up ++ (tm_t r ++ tm_fl rs)).length)]) rfl rfl rfl rfl (md_0) rfl (Nat.le_of_ble_eq_true rfl) (Nat.le_of_ble_eq_true rfl) (rt_appendPart (u := up ++ tm_t r) (w := tm_fl rs) (z := []) b1 (by omega) hp (od_ne np (by simp)) (by rw [List.append_nil, List.append_assoc]; exact hx1) (by rw [List.length_append]) (by rw [List.length_append, List.length_append]; omega) p1) (Nat.le_of_ble_eq_true rfl) (fun o M1 hq => ?_)
    obtain ⟨rfl, fu2, ρ2, rfl, f2, b2, k2, p2⟩ := hq
    refine od_K.ret ?_
    have hf2 : fu2 = false := k2.mpr ⟨rfl, by rw [List.nil_append]; omega, by rw [List.nil_append]; exact (tm_sm_app.mp (tm_sm_app.mp hx.2).2).2⟩
    subst hf2
    refine od_W.rn (pc' := 77) (ls' := [some (.ref _), some (.int _), some (.int _), some (.int _), some (.int _), some (.int _), some (.int _)]) (st' := [.int _, .ref _]) 2 rfl ?_
    refine od_rV (as := [.int (nI 77)]) rfl rfl rfl rfl (md_0) rfl (Nat.le_of_ble_eq_true rfl) (Nat.le_of_ble_eq_true rfl) (rt_clear b2 (by omega)) (Nat.le_of_ble_eq_true rfl) (fun o M1 hq => ?_)
    obtain ⟨rfl, fu3, ρ3, rfl, f3, b3, k3, p3⟩ := hq
    refine od_K.ret ?_
    have hf3 : fu3 = false := k3.mpr ⟨rfl, trivial⟩
    subst hf3
    have hy3 := (hy1.fr (f2 q (od_nn nq (by simp)))).fr (f3 q (od_nn nq (by simp)))
    refine od_W.rn (pc' := 87) (ls' := [some (.ref _), some (.int _), some (.int _), some (.int _), some (.int _), some (.int _), some (.int _)]) (st' := [.ref _, .int _, .int _, .int _, .ref _]) 5 rfl ?_
    refine od_rG rfl (md_0) rfl rfl ?_
    refine od_W.rn (pc' := 91) (ls' := [some (.ref _), some (.int _), some (.int _), some (.int _), some (.int _), some (.int _), some (.int _)]) (st' := [.int _, .ref _, .int _, .int _, .int _, .ref _]) 1 rfl ?_
    refine od_rIL rfl (md_2) (rfl) (hq') (by decide) ?_
    rw [rf_row, hy3.n]
    refine od_rV (as := [.int (nI 77), .int (nI q), .int (nI (tm_t u).length), .int (nI (tm_t u ++ tm_fl us).length)]) rfl rfl rfl rfl (md_0) rfl (Nat.le_of_ble_eq_true rfl) (Nat.le_of_ble_eq_true rfl) (rt_appendPart (w := tm_fl us) (z := []) b3 (by omega) hq' (od_ne nq (by simp)) (by rw [List.append_nil]; exact hy3) rfl (by rw [List.length_append]) p3) (Nat.le_of_ble_eq_true rfl) (fun o M1 hq => ?_)
    obtain ⟨rfl, fu4, ρ4, rfl, f4, b4, k4, p4⟩ := hq
    refine od_K.ret ?_
    have hf4 : fu4 = false := k4.mpr ⟨rfl, by rw [List.nil_append]; omega, by rw [List.nil_append]; exact (tm_sm_app.mp hy.2).2⟩
    subst hf4
    have p2' := p2 rfl
    have p4' := p4 rfl
    rw [List.nil_append] at p2' p4'
    refine od_W.rn (pc' := 100) (ls' := [some (.ref _), some (.int _), some (.int _), some (.int _), some (.int _), some (.int _), some (.int _)]) (st' := [.int _, .int _, .ref _]) 3 rfl ?_
    refine od_rV (as := [.int (nI 76), .int (nI 77)]) rfl rfl rfl rfl (md_0) rfl (Nat.le_of_ble_eq_true rfl) (Nat.le_of_ble_eq_true rfl) (rt_order b4 (by omega) (by omega) (tm_fl_W h1.2) (tm_fl_W h2.2) ((p2'.fr (f3 76 (by simp))).fr (f4 76 (by simp))) p4') (Nat.le_of_ble_eq_true rfl) (fun o M1 hq => ?_)
    obtain ⟨rfl, rfl⟩ := hq
    refine od_K.ret ?_
    have fr4 : ∀ a, a ∉ [76, 77] → ρ4 a = ρ a := fun a ha => (f4 a (od_nn ha (by simp))).trans ((f3 a (od_nn ha (by simp))).trans ((f2 a (od_nn ha (by simp))).trans (f1 a (od_nn ha (by simp)))))
    by_cases hl : tm_cmp (tm_fl rs) (tm_fl us) = -1
    · rw [hl]
      have hp0 : 0 < r.2 / u.2 := by
        rcases Nat.eq_zero_or_pos (r.2 / u.2) with z | z
        · rw [z] at hev; omega
        · exact z
      refine od_r1F rfl (of_decide_eq_true rfl) (rfl) ?_
      refine od_W.rn (pc' := 119) (ls' := [some (.ref _), some (.int _), some (.int _), some (.int _), some (.int _), some (.int _), some (.int _)]) (st' := [.int _]) 6 rfl ?_
      refine od_W.fin rfl ?_
      refine ⟨?_, ρ4, rfl, fr4, b4⟩
      rw [show sp_tm u us (r :: rs) = r.2 / u.2 - 1 by rw [sp_tm_c, if_neg hc0, if_pos ⟨hev, hl⟩], ← nI_subI (a := 1) hp0]
      rfl
    · have hge : od_cond .ge (tm_cmp (tm_fl rs) (tm_fl us)) 0 = true := by rcases tm_cmp_is (tm_fl rs) (tm_fl us) with z | z | z; exact absurd z hl; rw [z]; rfl; rw [z]; rfl
      refine od_r1T rfl rfl (hge) ?_
      refine od_W.rn (pc' := 119) (ls' := [some (.ref _), some (.int _), some (.int _), some (.int _), some (.int _), some (.int _), some (.int _)]) (st' := [.int _]) 3 rfl ?_
      refine od_W.fin rfl ?_
      exact ⟨by rw [show sp_tm u us (r :: rs) = r.2 / u.2 by rw [sp_tm_c, if_neg hc0, if_neg (fun z => hl z.2)]], ρ4, rfl, fr4, b4⟩
  · refine od_r2T rfl rfl ((show (!decide (nI (r.2 / u.2 * u.2) = nI r.2)) = true by rw [decide_eq_false (fun z => hev ((nI_eq (by omega) (by omega)).mp z))]; rfl)) ?_
    refine od_W.rn (pc' := 119) (ls' := [some (.ref _), some (.int _), some (.int _), some (.int _), some (.int _), some (.int _), some (.int _)]) (st' := [.int _]) 1 rfl ?_
    refine od_W.fin rfl ?_
    exact ⟨by rw [show sp_tm u us (r :: rs) = r.2 / u.2 by rw [sp_tm_c, if_neg hc0, if_neg (fun z => hev z.1)]], ρ, rfl, fun _ _ => rfl, hb⟩
abbrev rf_VU : List Nat := [79, 80, 78, 87, 88, 76, 77]
set_option maxRecDepth 100000 in
theorem rt_div_end {p q : Nat} {ρ : od_Rm} (hp : p < 113) (hq' : q < 113) (np : p ∉ rf_VU) (nq : q ∉ rf_VU) {u : tm_T} {us rs : List tm_T} (h1 : tm_al rs) (h2 : tm_al (u :: us)) {up zs : List Nat} {mo : Int32} {w6 : Option Value} (hb : od_Bd ρ) (g : ∀ a, a ∉ rf_VU → ρ a = ρ0 a) (hx : od_hl ρ p (up ++ tm_fl rs)) (hy : od_hl ρ q (tm_t u ++ tm_fl us)) (hz : od_hl ρ 79 zs) (hnn : ∀ r rs', rs = r :: rs' → od_hl ρ 87 r.1 ∧ od_hl ρ 88 u.1 ∧ tm_cmp r.1 u.1 ≠ 1) (hft : tm_ft (zs ++ tm_fl (sp_nu (sp_tm u us rs)))) : od_W 5 108 120 [some (.ref y), some (.int (nI p)), some (.int (nI q)), some (.int (nI (tm_t u).length)), some (.int (nI up.length)), some (.int mo), w6] [] (md M y b false ρ) (rf_s M y b false ρ0 rf_VU True (fun ρ' => od_hl ρ' 79 (zs ++ tm_fl (sp_nu (sp_tm u us rs))) ∧ od_hl ρ' 80 (tm_fl (sp_dif rs (sp_ms u us (sp_tm u us rs)))))) := by
  have h60 := hx.le hb
  have h60' := hy.le hb
  rw [List.length_append] at h60 h60'
  have hsmx := (tm_sm_app.mp hx.2).2
  have hsmy := tm_sm_app.mp hy.2
  have hn1 := sp_tm_le (u := u) (us := us) h1
  have hn2 := sp_tm_mul (u := u) (us := us) h1
  refine od_W.rn (pc' := 123) (ls' := [some (.ref _), some (.int _), some (.int _), some (.int _), some (.int _), some (.int _), _]) (st' := [.int _, .ref _]) 2 rfl ?_
  refine od_rV (as := [.int (nI 80)]) rfl rfl rfl rfl (md_0) rfl (Nat.le_of_ble_eq_true rfl) (Nat.le_of_ble_eq_true rfl) (rt_clear hb (by omega)) (Nat.le_of_ble_eq_true rfl) (fun o M1 hq => ?_)
  obtain ⟨rfl, fu1, ρ1, rfl, f1, b1, k1, p1⟩ := hq
  refine od_K.ret ?_
  have hf1 : fu1 = false := k1.mpr ⟨rfl, trivial⟩
  subst hf1
  have hx1 := hx.fr (f1 p (od_nn np (by simp)))
  refine od_W.rn (pc' := 133) (ls' := [some (.ref _), some (.int _), some (.int _), some (.int _), some (.int _), some (.int _), _]) (st' := [.ref _, .int _, .int _, .int _, .ref _]) 5 rfl ?_
  refine od_rG rfl (md_0) rfl rfl ?_
  refine od_W.rn (pc' := 137) (ls' := [some (.ref _), some (.int _), some (.int _), some (.int _), some (.int _), some (.int _), _]) (st' := [.int _, .ref _, .int _, .int _, .int _, .ref _]) 1 rfl ?_
  refine od_rIL rfl (md_2) (rfl) (hp) (by decide) ?_
  rw [rf_row, hx1.n]
  refine od_rV (as := [.int (nI 80), .int (nI p), .int (nI up.length), .int (nI (up ++ tm_fl rs).length)]) rfl rfl rfl rfl (md_0) rfl (Nat.le_of_ble_eq_true rfl) (Nat.le_of_ble_eq_true rfl) (rt_appendPart (w := tm_fl rs) (z := []) b1 (by omega) hp (od_ne np (by simp)) (by rw [List.append_nil]; exact hx1) rfl (by rw [List.length_append]) p1) (Nat.le_of_ble_eq_true rfl) (fun o M1 hq => ?_)
  obtain ⟨rfl, fu2, ρ2, rfl, f2, b2, k2, p2⟩ := hq
  refine od_K.ret ?_
  have hf2 : fu2 = false := k2.mpr ⟨rfl, by rw [List.nil_append]; omega, by rw [List.nil_append]; exact hsmx⟩
  subst hf2
  have p2' := p2 rfl
  rw [List.nil_append] at p2'
  have fr2 : ∀ a, a ∉ [80] → ρ2 a = ρ a := fun a ha => (f2 a ha).trans (f1 a ha)
  have g2 : ∀ a, a ∉ rf_VU → ρ2 a = ρ0 a := fun a ha => (fr2 a (od_nn ha (by simp))).trans (g a ha)
  have hx2 := hx.fr (fr2 p (od_nn np (by simp)))
  have hy2 := hy.fr (fr2 q (od_nn nq (by simp)))
  have hz2 := hz.fr (fr2 79 (by simp))
  have zero : sp_tm u us rs = 0 → ∀ (ρ3 : od_Rm) (w6 : Option Value), od_Bd ρ3 → (∀ a, a ∉ [76, 77] → ρ3 a = ρ2 a) → od_W 5 108 257 [some (.ref y), some (.int (nI p)), some (.int (nI q)), some (.int (nI (tm_t u).length)), some (.int (nI up.length)), some (.int mo), w6] [] (md M y b false ρ3) (rf_s M y b false ρ0 rf_VU True (fun ρ' => od_hl ρ' 79 (zs ++ tm_fl (sp_nu (sp_tm u us rs))) ∧ od_hl ρ' 80 (tm_fl (sp_dif rs (sp_ms u us (sp_tm u us rs)))))) := by
    intro h0 ρ3 w6 b3 f3
    have e1 : sp_nu (sp_tm u us rs) = [] := if_pos h0
    have e2 : sp_ms u us (sp_tm u us rs) = [] := if_pos h0
    have e3 : sp_dif rs [] = rs := by cases rs <;> rfl
    rw [e1, e2, e3, show tm_fl ([] : List tm_T) = [] from rfl, List.append_nil]
    refine od_W.fin rfl ?_
    exact ⟨rfl, false, ρ3, rfl, fun a ha => (f3 a (od_nn ha (by simp))).trans (g2 a ha), b3, ⟨fun _ => ⟨rfl, trivial⟩, fun _ => rfl⟩, fun _ => ⟨hz2.fr (f3 79 (by simp)), p2'.fr (f3 80 (by simp))⟩⟩
  refine od_W.rn (pc' := 144) (ls' := [some (.ref _), some (.int _), some (.int _), some (.int _), some (.int _), some (.int _), _]) (st' := [.ref _, .int _]) 2 rfl ?_
  refine od_rG rfl (md_0) rfl rfl ?_
  refine od_W.rn (pc' := 148) (ls' := [some (.ref _), some (.int _), some (.int _), some (.int _), some (.int _), some (.int _), _]) (st' := [.int _, .ref _, .int _]) 1 rfl ?_
  refine od_rIL rfl (md_2) (rfl) (hp) (by decide) ?_
  rw [rf_row, hx2.n]
  cases rs with
  | nil =>
    refine od_r2T rfl rfl (decide_eq_true (nI_le (by simp [tm_fl]) (by omega))) ?_
    exact zero rfl ρ2 _ b2 (fun _ _ => rfl)
  | cons r rs =>
    obtain ⟨n1, n2, n3⟩ := hnn r rs rfl
    have hlr : (tm_fl (r :: rs)).length = r.1.length + 3 + (tm_fl rs).length := by rw [tm_fl, List.length_append, tm_t_len]
    refine od_r2F rfl (of_decide_eq_true rfl) (decide_eq_false (nI_ge (by rw [List.length_append]; omega) (by rw [List.length_append]; omega))) ?_
    refine od_W.rn (pc' := 157) (ls' := [some (.ref _), some (.int _), some (.int _), some (.int _), some (.int _), some (.int _), _]) (st' := [.int _, .int _, .ref _]) 3 rfl ?_
    refine od_rV (as := [.int (nI 87), .int (nI 88)]) rfl rfl rfl rfl (md_0) rfl (Nat.le_of_ble_eq_true rfl) (Nat.le_of_ble_eq_true rfl) (rt_order b2 (by omega) (by omega) h1.1.1 h2.1.1 (n1.fr (fr2 87 (by simp))) (n2.fr (fr2 88 (by simp)))) (Nat.le_of_ble_eq_true rfl) (fun o M1 hq => ?_)
    obtain ⟨rfl, rfl⟩ := hq
    refine od_K.ret ?_
    by_cases hc0 : tm_cmp r.1 u.1 = 0
    · have he : r.1 = u.1 := tm_cmp_eq hc0
      rw [hc0]
      refine od_r1F rfl (of_decide_eq_true rfl) (rfl) ?_
      refine od_W.rn (pc' := 168) (ls' := [some (.ref _), some (.int _), some (.int _), some (.int _), some (.int _), some (.int _), _]) (st' := [.int _, .int _, .int _, .ref _]) 4 rfl ?_
      refine od_rV (as := [.int (nI p), .int (nI up.length), .int (nI q)]) rfl rfl rfl rfl (md_0) rfl (Nat.le_of_ble_eq_true rfl) (Nat.le_of_ble_eq_true rfl) (rt_goes hp hq' (od_nn np (by simp)) (od_nn nq (by simp)) b2 h1 h2 he hx2 hy2 rfl) (Nat.le_of_ble_eq_true rfl) (fun o M1 hq => ?_)
      obtain ⟨rfl, ρ3, rfl, f3, b3⟩ := hq
      refine od_K.ret ?_
      refine od_W.rn (pc' := 175) (ls' := [some (.ref _), some (.int _), some (.int _), some (.int _), some (.int _), some (.int _), some (.int _)]) (st' := [.int _]) 2 rfl ?_
      by_cases h0 : sp_tm u us (r :: rs) = 0
      · refine od_r1T rfl rfl (decide_eq_true (by rw [h0]; exact Int32.le_refl _)) ?_
        exact zero h0 ρ3 _ b3 f3
      · have hms := sp_ms_al (us := us) h2 h1
        have ems : sp_ms u us (sp_tm u us (r :: rs)) = (u.1, sp_tm u us (r :: rs) * u.2) :: us := if_neg h0
        have enu : tm_fl (sp_nu (sp_tm u us (r :: rs))) = [1, 0, sp_tm u us (r :: rs)] := by rw [show sp_nu (sp_tm u us (r :: rs)) = [([], sp_tm u us (r :: rs))] from if_neg h0]; rfl
        have hcmp := sp_ms_cmp h2.1 h1.1 he (us := us) (rs := rs) (by omega)
        have hfm : tm_ft ([] ++ tm_t (u.1, sp_tm u us (r :: rs) * u.2) ++ tm_fl us) := by
          refine ⟨?_, ?_⟩
          · rw [List.nil_append, List.length_append, tm_t_len]; rw [tm_t_len] at h60'; exact h60'
          · rw [List.nil_append, tm_sm_app, tm_sm_t]; exact ⟨⟨(tm_sm_t.mp hsmy.1).1, hn2⟩, hsmy.2⟩
        rw [ems] at hms hcmp
        rw [enu] at hft
        rw [ems, enu]
        refine od_r1F rfl (of_decide_eq_true rfl) (decide_eq_false (nI_ge (a := 0) (by omega) (by omega))) ?_
        refine od_W.rn (pc' := 181) (ls' := [some (.ref _), some (.int _), some (.int _), some (.int _), some (.int _), some (.int _), some (.int _)]) (st' := [.int _, .ref _]) 2 rfl ?_
        refine od_rV (as := [.int (nI 78)]) rfl rfl rfl rfl (md_0) rfl (Nat.le_of_ble_eq_true rfl) (Nat.le_of_ble_eq_true rfl) (rt_clear b3 (by omega)) (Nat.le_of_ble_eq_true rfl) (fun o M1 hq => ?_)
        obtain ⟨rfl, fu4, ρ4, rfl, f4, b4, k4, p4⟩ := hq
        refine od_K.ret ?_
        have hf4 : fu4 = false := k4.mpr ⟨rfl, trivial⟩
        subst hf4
        have hy4 := (hy2.fr (f3 q (od_nn nq (by simp)))).fr (f4 q (od_nn nq (by simp)))
        have h88 := ((n2.fr (fr2 88 (by simp))).fr (f3 88 (by simp))).fr (f4 88 (by simp))
        refine od_W.rn (pc' := 195) (ls' := [some (.ref _), some (.int _), some (.int _), some (.int _), some (.int _), some (.int _), some (.int _)]) (st' := [.int _, .int _, .ref _, .long _, .int _, .int _, .ref _]) 8 rfl ?_
        refine od_rV (as := [.int (nI q), .int (nI (tm_t u).length)]) rfl rfl rfl rfl (md_0) rfl (Nat.le_of_ble_eq_true rfl) (Nat.le_of_ble_eq_true rfl) (rt_coef (u := []) hq' b4 hy4 (by simp)) (Nat.le_of_ble_eq_true rfl) (fun o M1 hq => ?_)
        obtain ⟨rfl, rfl⟩ := hq
        refine od_K.ret ?_
        refine od_W.rn (pc' := 200) (ls' := [some (.ref _), some (.int _), some (.int _), some (.int _), some (.int _), some (.int _), some (.int _)]) (st' := [.long _, .int _, .int _, .ref _]) 2 rfl ?_
        rw [nI_1000 hn1, nI_1000 h2.1.2.2, lN_mul]
        refine od_rV (as := [.int (nI 78), .int (nI 88), .long (lN (sp_tm u us (r :: rs) * u.2))]) rfl rfl rfl rfl (md_0) rfl (Nat.le_of_ble_eq_true rfl) (Nat.le_of_ble_eq_true rfl) (rc_appendTerm b4 (by omega) (by omega) (by omega) (fun _ => ⟨h88, rfl, by omega⟩) p4) (Nat.le_of_ble_eq_true rfl) (fun o M1 hq => ?_)
        obtain ⟨rfl, fu5, ρ5, rfl, f5, b5, k5, p5⟩ := hq
        refine od_K.ret ?_
        have hf5 : fu5 = false := k5.mpr ⟨rfl, tm_ft_l hfm⟩
        subst hf5
        have hy5 := hy4.fr (f5 q (od_nn nq (by simp)))
        refine od_W.rn (pc' := 209) (ls' := [some (.ref _), some (.int _), some (.int _), some (.int _), some (.int _), some (.int _), some (.int _)]) (st' := [.ref _, .int _, .int _, .int _, .ref _]) 5 rfl ?_
        refine od_rG rfl (md_0) rfl rfl ?_
        refine od_W.rn (pc' := 213) (ls' := [some (.ref _), some (.int _), some (.int _), some (.int _), some (.int _), some (.int _), some (.int _)]) (st' := [.int _, .ref _, .int _, .int _, .int _, .ref _]) 1 rfl ?_
        refine od_rIL rfl (md_2) (rfl) (hq') (by decide) ?_
        rw [rf_row, hy5.n]
        refine od_rV (as := [.int (nI 78), .int (nI q), .int (nI (tm_t u).length), .int (nI (tm_t u ++ tm_fl us).length)]) rfl rfl rfl rfl (md_0) rfl (Nat.le_of_ble_eq_true rfl) (Nat.le_of_ble_eq_true rfl) (rt_appendPart (w := tm_fl us) (z := []) b5 (by omega) hq' (od_ne nq (by simp)) (by rw [List.append_nil]; exact hy5) rfl (by rw [List.length_append]) p5) (Nat.le_of_ble_eq_true rfl) (fun o M1 hq => ?_)
        obtain ⟨rfl, fu6, ρ6, rfl, f6, b6, k6, p6⟩ := hq
        refine od_K.ret ?_
        have hf6 : fu6 = false := k6.mpr ⟨rfl, hfm⟩
        subst hf6
        have h80 := (((p2'.fr (f3 80 (by simp))).fr (f4 80 (by simp))).fr (f5 80 (by simp))).fr (f6 80 (by simp))
        refine od_W.rn (pc' := 222) (ls' := [some (.ref _), some (.int _), some (.int _), some (.int _), some (.int _), some (.int _), some (.int _)]) (st' := [.int _, .int _, .ref _]) 3 rfl ?_
        refine od_rV (as := [.int (nI 80), .int (nI 87)]) rfl rfl rfl rfl (md_0) rfl (Nat.le_of_ble_eq_true rfl) (Nat.le_of_ble_eq_true rfl) (rc_copy b6 (by omega) (by omega) (by omega) (fun _ => h80)) (Nat.le_of_ble_eq_true rfl) (fun o M1 hq => ?_)
        obtain ⟨rfl, fu7, ρ7, rfl, f7, b7, k7, p7⟩ := hq
        refine od_K.ret ?_
        have hf7 : fu7 = false := k7.mpr ⟨rfl, trivial⟩
        subst hf7
        have h78 : od_hl ρ7 78 (tm_fl ((u.1, sp_tm u us (r :: rs) * u.2) :: us)) := (p6 rfl).fr (f7 78 (by simp))
        refine od_W.rn (pc' := 232) (ls' := [some (.ref _), some (.int _), some (.int _), some (.int _), some (.int _), some (.int _), some (.int _)]) (st' := [.int _, .int _, .int _, .ref _]) 4 rfl ?_
        refine od_rV (as := [.int (nI 87), .int (nI 78), .int (nI 80)]) rfl rfl rfl rfl (md_0) rfl (Nat.le_of_ble_eq_true rfl) (Nat.le_of_ble_eq_true rfl) (rt_dif (by omega) (by omega) (by omega) (by simp) (by simp) (by simp) b7 (p7 rfl) h1 h78 hms hcmp) (Nat.le_of_ble_eq_true rfl) (fun o M1 hq => ?_)
        obtain ⟨rfl, fu8, ρ8, rfl, f8, b8, k8, p8⟩ := hq
        refine od_K.ret ?_
        have hf8 : fu8 = false := k8.mpr ⟨rfl, trivial⟩
        subst hf8
        have hz8 := (((((hz2.fr (f3 79 (by simp))).fr (f4 79 (by simp))).fr (f5 79 (by simp))).fr (f6 79 (by simp))).fr (f7 79 (by simp))).fr (f8 79 (by simp))
        have ft3 : tm_ft (((zs ++ [1]) ++ [0]) ++ [sp_tm u us (r :: rs)]) := by rw [show ((zs ++ [1]) ++ [0]) ++ [sp_tm u us (r :: rs)] = zs ++ [1, 0, sp_tm u us (r :: rs)] by simp]; exact hft
        refine od_W.rn (pc' := 239) (ls' := [some (.ref _), some (.int _), some (.int _), some (.int _), some (.int _), some (.int _), some (.int _)]) (st' := [.int _, .int _, .ref _]) 3 rfl ?_
        refine od_rV (as := [.int (nI 79), .int (nI 1)]) rfl rfl rfl rfl (md_0) rfl (Nat.le_of_ble_eq_true rfl) (Nat.le_of_ble_eq_true rfl) (rt_append b8 (by omega) (fun _ => hz8) (fun _ => ⟨rfl, by omega⟩)) (Nat.le_of_ble_eq_true rfl) (fun o M1 hq => ?_)
        obtain ⟨rfl, fu9, ρ9, rfl, f9, b9, k9, p9⟩ := hq
        refine od_K.ret ?_
        have hf9 : fu9 = false := k9.mpr ⟨rfl, tm_ft_l (tm_ft_l ft3)⟩
        subst hf9
        refine od_W.rn (pc' := 246) (ls' := [some (.ref _), some (.int _), some (.int _), some (.int _), some (.int _), some (.int _), some (.int _)]) (st' := [.int _, .int _, .ref _]) 3 rfl ?_
        refine od_rV (as := [.int (nI 79), .int (nI 0)]) rfl rfl rfl rfl (md_0) rfl (Nat.le_of_ble_eq_true rfl) (Nat.le_of_ble_eq_true rfl) (rt_append b9 (by omega) p9 (fun _ => ⟨rfl, by omega⟩)) (Nat.le_of_ble_eq_true rfl) (fun o M1 hq => ?_)
        obtain ⟨rfl, fu10, ρ10, rfl, f10, b10, k10, p10⟩ := hq
        refine od_K.ret ?_
        have hf10 : fu10 = false := k10.mpr ⟨rfl, tm_ft_l ft3⟩
        subst hf10
        refine od_W.rn (pc' := 254) (ls' := [some (.ref _), some (.int _), some (.int _), some (.int _), some (.int _), some (.int _), some (.int _)]) (st' := [.int _, .int _, .ref _]) 3 rfl ?_
        refine od_rV (as := [.int (nI 79), .int (nI (sp_tm u us (r :: rs)))]) rfl rfl rfl rfl (md_0) rfl (Nat.le_of_ble_eq_true rfl) (Nat.le_of_ble_eq_true rfl) (rt_append b10 (by omega) p10 (fun _ => ⟨rfl, hn1⟩)) (Nat.le_of_ble_eq_true rfl) (fun o M1 hq => ?_)
        obtain ⟨rfl, fu11, ρ11, rfl, f11, b11, k11, p11⟩ := hq
        refine od_K.ret ?_
        have hf11 : fu11 = false := k11.mpr ⟨rfl, ft3⟩
        subst hf11
        refine od_W.fin rfl ?_
        refine ⟨rfl, false, ρ11, rfl, fun a ha => (f11 a (od_nn ha (by simp))).trans ((f10 a (od_nn ha (by simp))).trans ((f9 a (od_nn ha (by simp))).trans ((f8 a (od_nn ha (by simp))).trans ((f7 a (od_nn ha (by simp))).trans ((f6 a (od_nn ha (by simp))).trans ((f5 a (od_nn ha (by simp))).trans ((f4 a (od_nn ha (by simp))).trans ((f3 a (od_nn ha (by simp))).trans (g2 a ha))))))))), b11, ⟨fun _ => ⟨rfl, trivial⟩, fun _ => rfl⟩, fun _ => ⟨?_, ?_⟩⟩
        · have := p11 rfl
          rw [show ((zs ++ [1]) ++ [0]) ++ [sp_tm u us (r :: rs)] = zs ++ [1, 0, sp_tm u us (r :: rs)] by simp] at this
          exact this
        · exact (((p8 rfl).fr (f9 80 (by simp))).fr (f10 80 (by simp))).fr (f11 80 (by simp))
    · have hm : tm_cmp r.1 u.1 = -1 := by rcases tm_cmp_is r.1 u.1 with z | z | z; exact z; exact absurd z hc0; exact absurd z n3
      refine od_r1T rfl rfl ((show (!decide (tm_cmp r.1 u.1 = 0)) = true by rw [decide_eq_false hc0]; rfl)) ?_
      exact zero (by rw [sp_tm_c, if_pos hm]) ρ2 _ b2 (fun _ _ => rfl)
set_option maxRecDepth 100000 in
theorem rt_div_loop {p q : Nat} (hp : p < 113) (hq' : q < 113) (np : p ∉ rf_VU) (nq : q ∉ rf_VU) {u : tm_T} {us : List tm_T} (h2 : tm_al (u :: us)) : ∀ (todo done : List tm_T) (ρ : od_Rm) (zs : List Nat) (w6 : Option Value), tm_al todo → od_Bd ρ → (∀ a, a ∉ rf_VU → ρ a = ρ0 a) → od_hl ρ p (tm_fl done ++ tm_fl todo) → od_hl ρ q (tm_t u ++ tm_fl us) → od_hl ρ 79 zs → tm_ft (zs ++ tm_fl (sp_quo todo u us)) → od_W 5 108 19 [some (.ref y), some (.int (nI p)), some (.int (nI q)), some (.int (nI (tm_t u).length)), some (.int (nI (tm_fl done).length)), some (.int (nI 1)), w6] [] (md M y b false ρ) (rf_s M y b false ρ0 rf_VU True (fun ρ' => od_hl ρ' 79 (zs ++ tm_fl (sp_quo todo u us)) ∧ od_hl ρ' 80 (tm_fl (sp_rem todo u us)))) := by
  intro todo
  induction todo with
  | nil =>
    intro done ρ zs w6 hal hb g hx hy hz hft
    have hl := hx.n
    have h60 := hx.le hb
    rw [show tm_fl ([] : List tm_T) = [] from rfl, List.append_nil] at hl h60
    refine od_W.rn (pc' := 21) (ls' := [some (.ref _), some (.int _), some (.int _), some (.int _), some (.int _), some (.int _), _]) (st' := [.int _]) 1 rfl ?_
    refine od_r1F rfl (of_decide_eq_true rfl) (rfl) ?_
    refine od_W.rn (pc' := 27) (ls' := [some (.ref _), some (.int _), some (.int _), some (.int _), some (.int _), some (.int _), _]) (st' := [.ref _, .int _]) 2 rfl ?_
    refine od_rG rfl (md_0) rfl rfl ?_
    refine od_W.rn (pc' := 31) (ls' := [some (.ref _), some (.int _), some (.int _), some (.int _), some (.int _), some (.int _), _]) (st' := [.int _, .ref _, .int _]) 1 rfl ?_
    refine od_rIL rfl (md_2) (rfl) (hp) (by decide) ?_
    rw [rf_row, hl]
    refine od_r2T rfl rfl (decide_eq_true (nI_le (Nat.le_refl _) (by omega))) ?_
    exact rt_div_end (rs := []) hp hq' np nq trivial h2 hb g hx hy hz (fun r rs' z => absurd z (by simp)) hft
  | cons t todo ih =>
    intro done ρ zs w6 hal hb g hx hy hz hft
    have hl := hx.n
    have h60 := hx.le hb
    have h60' := hy.le hb
    rw [tm_fl, List.length_append, List.length_append, tm_t_len] at hl h60
    rw [List.length_append, tm_t_len] at h60'
    have hx2 : od_hl ρ p (tm_fl done ++ (tm_t t ++ tm_fl todo)) := hx
    have hy2 : od_hl ρ q ([] ++ (tm_t u ++ tm_fl us)) := hy
    have e : (tm_fl done).length + (tm_t t).length = (tm_fl (done ++ [t])).length := by rw [tm_fl_snoc, List.length_append]
    have htc := hal.1.2.2
    refine od_W.rn (pc' := 21) (ls' := [some (.ref _), some (.int _), some (.int _), some (.int _), some (.int _), some (.int _), _]) (st' := [.int _]) 1 rfl ?_
    refine od_r1F rfl (of_decide_eq_true rfl) (rfl) ?_
    refine od_W.rn (pc' := 27) (ls' := [some (.ref _), some (.int _), some (.int _), some (.int _), some (.int _), some (.int _), _]) (st' := [.ref _, .int _]) 2 rfl ?_
    refine od_rG rfl (md_0) rfl rfl ?_
    refine od_W.rn (pc' := 31) (ls' := [some (.ref _), some (.int _), some (.int _), some (.int _), some (.int _), some (.int _), _]) (st' := [.int _, .ref _, .int _]) 1 rfl ?_
    refine od_rIL rfl (md_2) (rfl) (hp) (by decide) ?_
    rw [rf_row, hl]
    refine od_r2F rfl (of_decide_eq_true rfl) (decide_eq_false (nI_ge (by omega) (by omega))) ?_
    refine od_W.rn (pc' := 39) (ls' := [some (.ref _), some (.int _), some (.int _), some (.int _), some (.int _), some (.int _), _]) (st' := [.int _, .int _, .ref _]) 3 rfl ?_
    refine od_rV (as := [.int (nI p), .int (nI (tm_fl done).length)]) rfl rfl rfl rfl (md_0) rfl (Nat.le_of_ble_eq_true rfl) (Nat.le_of_ble_eq_true rfl) (rt_behind hb hp hal.1 hx2 rfl) (Nat.le_of_ble_eq_true rfl) (fun o M1 hq => ?_)
    obtain ⟨rfl, rfl⟩ := hq
    refine od_K.ret ?_
    refine od_W.rn (pc' := 52) (ls' := [some (.ref _), some (.int _), some (.int _), some (.int _), some (.int _), some (.int _), some (.int _)]) (st' := [.int _, .int _, .int _, .int _, .ref _]) 6 rfl ?_
    refine od_rV (as := [.int (nI p), .int (nI (tm_fl done).length), .int (nI ((tm_fl done).length + (tm_t t).length)), .int (nI 87)]) rfl rfl rfl rfl (md_0) rfl (Nat.le_of_ble_eq_true rfl) (Nat.le_of_ble_eq_true rfl) (rc_exponent hb (by omega) hp (od_ne np (by simp)) (by omega) (by rw [tm_t_len]; omega) (by rw [tm_t_len]; omega) (fun _ => ⟨hx2, rfl, rfl⟩)) (Nat.le_of_ble_eq_true rfl) (fun o M1 hq => ?_)
    obtain ⟨rfl, fu1, ρ1, rfl, f1, b1, k1, p1⟩ := hq
    refine od_K.ret ?_
    have hf1 : fu1 = false := k1.mpr ⟨rfl, trivial⟩
    subst hf1
    have hy3 := hy2.fr (f1 q (od_nn nq (by simp)))
    refine od_W.rn (pc' := 61) (ls' := [some (.ref _), some (.int _), some (.int _), some (.int _), some (.int _), some (.int _), some (.int _)]) (st' := [.int _, .int _, .int _, .int _, .ref _]) 5 rfl ?_
    refine od_rV (as := [.int (nI q), .int (nI 0), .int (nI (tm_t u).length), .int (nI 88)]) rfl rfl rfl rfl (md_0) rfl (Nat.le_of_ble_eq_true rfl) (Nat.le_of_ble_eq_true rfl) (rc_exponent b1 (by omega) hq' (od_ne nq (by simp)) (by omega) (by rw [tm_t_len]; omega) (by rw [tm_t_len]; omega) (fun _ => ⟨hy3, rfl, by omega⟩)) (Nat.le_of_ble_eq_true rfl) (fun o M1 hq => ?_)
    obtain ⟨rfl, fu2, ρ2, rfl, f2, b2, k2, p2⟩ := hq
    refine od_K.ret ?_
    have hf2 : fu2 = false := k2.mpr ⟨rfl, trivial⟩
    subst hf2
    have h87 := (p1 rfl).fr (f2 87 (by simp))
    have h88 := p2 rfl
    have fr2 : ∀ a, a ∉ [87, 88] → ρ2 a = ρ a := fun a ha => (f2 a (od_nn ha (by simp))).trans (f1 a (od_nn ha (by simp)))
    have g2 : ∀ a, a ∉ rf_VU → ρ2 a = ρ0 a := fun a ha => (fr2 a (od_nn ha (by simp))).trans (g a ha)
    have hx4 := hx2.fr (fr2 p (od_nn np (by simp)))
    have hy4 := hy.fr (fr2 q (od_nn nq (by simp)))
    have hz4 := hz.fr (fr2 79 (by simp))
    refine od_W.rn (pc' := 69) (ls' := [some (.ref _), some (.int _), some (.int _), some (.int _), some (.int _), some (.int _), some (.int _)]) (st' := [.int _, .int _, .ref _]) 3 rfl ?_
    refine od_rV (as := [.int (nI 87), .int (nI 88)]) rfl rfl rfl rfl (md_0) rfl (Nat.le_of_ble_eq_true rfl) (Nat.le_of_ble_eq_true rfl) (rt_order b2 (by omega) (by omega) hal.1.1 h2.1.1 h87 h88) (Nat.le_of_ble_eq_true rfl) (fun o M1 hq => ?_)
    obtain ⟨rfl, rfl⟩ := hq
    refine od_K.ret ?_
    by_cases hc : tm_cmp t.1 u.1 = 1
    · have e1 : sp_dv u (t :: todo) = ((tm_fl (sp_dif (tm_tp t.1) (tm_tp u.1)), t.2) :: (sp_dv u todo).1, (sp_dv u todo).2) := by conv => lhs; unfold sp_dv; rw [if_pos hc]
      have e2 : sp_quo (t :: todo) u us = (tm_fl (sp_dif (tm_tp t.1) (tm_tp u.1)), t.2) :: sp_quo todo u us := by unfold sp_quo; rw [e1]; rfl
      have e3 : sp_rem (t :: todo) u us = sp_rem todo u us := by unfold sp_rem; rw [e1]
      rw [e2, tm_fl, ← List.append_assoc] at hft
      rw [e2, e3, tm_fl, ← List.append_assoc, hc]
      have a1 := tm_al_tp hal.1.1
      have a2 := tm_al_tp h2.1.1
      refine od_r1F rfl (of_decide_eq_true rfl) (rfl) ?_
      refine od_W.rn (pc' := 84) (ls' := [some (.ref _), some (.int _), some (.int _), some (.int _), some (.int _), some (.int _), some (.int _)]) (st' := [.int _]) 4 rfl ?_
      refine od_r1F rfl (of_decide_eq_true rfl) (rfl) ?_
      refine od_W.rn (pc' := 94) (ls' := [some (.ref _), some (.int _), some (.int _), some (.int _), some (.int _), some (.int _), some (.int _)]) (st' := [.int _, .int _, .int _, .ref _]) 4 rfl ?_
      refine od_rV (as := [.int (nI 87), .int (nI 88), .int (nI 78)]) rfl rfl rfl rfl (md_0) rfl (Nat.le_of_ble_eq_true rfl) (Nat.le_of_ble_eq_true rfl) (rt_dif (ts := tm_tp t.1) (us := tm_tp u.1) (by omega) (by omega) (by omega) (by simp) (by simp) (by simp) b2 (by rw [tm_fl_tp hal.1.1]; exact h87) a1 (by rw [tm_fl_tp h2.1.1]; exact h88) a2 (by rw [tm_fl_tp hal.1.1, tm_fl_tp h2.1.1, hc]; decide)) (Nat.le_of_ble_eq_true rfl) (fun o M1 hq => ?_)
      obtain ⟨rfl, fu3, ρ3, rfl, f3, b3, k3, p3⟩ := hq
      refine od_K.ret ?_
      have hf3 : fu3 = false := k3.mpr ⟨rfl, trivial⟩
      subst hf3
      have hx5 := hx4.fr (f3 p (od_nn np (by simp)))
      have hy5 := hy4.fr (f3 q (od_nn nq (by simp)))
      have hz5 := hz4.fr (f3 79 (by simp))
      refine od_W.rn (pc' := 106) (ls' := [some (.ref _), some (.int _), some (.int _), some (.int _), some (.int _), some (.int _), some (.int _)]) (st' := [.int _, .int _, .ref _, .int _, .int _, .ref _]) 6 rfl ?_
      refine od_rV (as := [.int (nI p), .int (nI ((tm_fl done).length + (tm_t t).length))]) rfl rfl rfl rfl (md_0) rfl (Nat.le_of_ble_eq_true rfl) (Nat.le_of_ble_eq_true rfl) (rt_coef hp b3 hx5 rfl) (Nat.le_of_ble_eq_true rfl) (fun o M1 hq => ?_)
      obtain ⟨rfl, rfl⟩ := hq
      refine od_K.ret ?_
      refine od_W.rn (pc' := 110) (ls' := [some (.ref _), some (.int _), some (.int _), some (.int _), some (.int _), some (.int _), some (.int _)]) (st' := [.long _, .int _, .int _, .ref _]) 1 rfl ?_
      rw [nI_1000 htc]
      refine od_rV (as := [.int (nI 79), .int (nI 78), .long (lN t.2)]) rfl rfl rfl rfl (md_0) rfl (Nat.le_of_ble_eq_true rfl) (Nat.le_of_ble_eq_true rfl) (rc_appendTerm b3 (by omega) (by omega) (by omega) (fun _ => ⟨p3 rfl, rfl, by omega⟩) (fun _ => hz5)) (Nat.le_of_ble_eq_true rfl) (fun o M1 hq => ?_)
      obtain ⟨rfl, fu4, ρ4, rfl, f4, b4, k4, p4⟩ := hq
      refine od_K.ret ?_
      have hf4 : fu4 = false := k4.mpr ⟨rfl, tm_ft_l hft⟩
      subst hf4
      refine od_W.rn (pc' := 19) (ls' := [some (.ref _), some (.int _), some (.int _), some (.int _), some (.int _), some (.int _), some (.int _)]) (st' := []) 3 rfl ?_
      rw [e]
      exact ih (done ++ [t]) ρ4 _ _ hal.2 b4 (fun a ha => (f4 a (od_nn ha (by simp))).trans ((f3 a (od_nn ha (by simp))).trans (g2 a ha))) (by rw [tm_fl_snoc, List.append_assoc]; exact hx5.fr (f4 p (od_nn np (by simp)))) (hy5.fr (f4 q (od_nn nq (by simp)))) (p4 rfl) hft
    · have e1 : sp_dv u (t :: todo) = ([], t :: todo) := by conv => lhs; unfold sp_dv; rw [if_neg hc]
      have e2 : sp_quo (t :: todo) u us = sp_nu (sp_tm u us (t :: todo)) := by unfold sp_quo; rw [e1]; rfl
      have e3 : sp_rem (t :: todo) u us = sp_dif (t :: todo) (sp_ms u us (sp_tm u us (t :: todo))) := by unfold sp_rem; rw [e1]
      have hle : od_cond .le (tm_cmp t.1 u.1) 0 = true := by rcases tm_cmp_is t.1 u.1 with z | z | z; rw [z]; rfl; rw [z]; rfl; exact absurd z hc
      rw [e2] at hft
      rw [e2, e3]
      refine od_r1T rfl rfl (hle) ?_
      refine od_W.rn (pc' := 84) (ls' := [some (.ref _), some (.int _), some (.int _), some (.int _), some (.int _), some (.int _), some (.int _)]) (st' := [.int _]) 3 rfl ?_
      refine od_r1T rfl rfl (rfl) ?_
      refine od_W.rn (pc' := 19) (ls' := [some (.ref _), some (.int _), some (.int _), some (.int _), some (.int _), some (.int _), some (.int _)]) (st' := []) 1 rfl ?_
      refine od_W.rn (pc' := 21) (ls' := [some (.ref _), some (.int _), some (.int _), some (.int _), some (.int _), some (.int _), some (.int _)]) (st' := [.int _]) 1 rfl ?_
      refine od_r1T rfl rfl (rfl) ?_
      exact rt_div_end hp hq' np nq hal h2 b2 g2 hx4 hy4 hz4 (fun r rs' z => by rw [← (List.cons.inj z).1]; exact ⟨h87, h88, hc⟩) hft
theorem rt_divide {p q : Nat} {ρ : od_Rm} {u : tm_T} {ts us : List tm_T} (hp : p < 113) (hq' : q < 113) (np : p ∉ rf_VU) (nq : q ∉ rf_VU) (hb : od_Bd ρ) (h1 : tm_al ts) (h2 : tm_al (u :: us)) (hx : od_hl ρ p (tm_fl ts)) (hy : od_hl ρ q (tm_fl (u :: us))) : od_W 5 108 0 (od_ent 108 [.ref y, .int (nI p), .int (nI q)]) [] (md M y b false ρ) (rf_s M y b false ρ rf_VU True (fun ρ' => od_hl ρ' 79 (tm_fl (sp_quo ts u us)) ∧ od_hl ρ' 80 (tm_fl (sp_rem ts u us)))) := by
  have e0 : od_ent 108 [.ref y, .int (nI p), .int (nI q)] = [some (.ref y), some (.int (nI p)), some (.int (nI q)), none, none, none, none] := rfl
  rw [e0]
  refine od_W.rn (pc' := 3) (ls' := [some (.ref _), some (.int _), some (.int _), none, none, none, none]) (st' := [.int _, .ref _]) 2 rfl ?_
  refine od_rV (as := [.int (nI 79)]) rfl rfl rfl rfl (md_0) rfl (Nat.le_of_ble_eq_true rfl) (Nat.le_of_ble_eq_true rfl) (rt_clear hb (by omega)) (Nat.le_of_ble_eq_true rfl) (fun o M1 hq => ?_)
  obtain ⟨rfl, fu1, ρ1, rfl, f1, b1, k1, p1⟩ := hq
  refine od_K.ret ?_
  have hf1 : fu1 = false := k1.mpr ⟨rfl, trivial⟩
  subst hf1
  have hx1 := hx.fr (f1 p (od_nn np (by simp)))
  have hy1 : od_hl ρ1 q ([] ++ (tm_t u ++ tm_fl us)) := hy.fr (f1 q (od_nn nq (by simp)))
  refine od_W.rn (pc' := 9) (ls' := [some (.ref _), some (.int _), some (.int _), none, none, none, none]) (st' := [.int _, .int _, .ref _]) 3 rfl ?_
  refine od_rV (as := [.int (nI q), .int (nI 0)]) rfl rfl rfl rfl (md_0) rfl (Nat.le_of_ble_eq_true rfl) (Nat.le_of_ble_eq_true rfl) (rt_behind b1 hq' h2.1 hy1 rfl) (Nat.le_of_ble_eq_true rfl) (fun o M1 hq => ?_)
  obtain ⟨rfl, rfl⟩ := hq
  refine od_K.ret ?_
  rw [Nat.zero_add]
  refine od_W.rn (pc' := 19) (ls' := [some (.ref _), some (.int _), some (.int _), some (.int _), some (.int _), some (.int _), none]) (st' := []) 5 rfl ?_
  have := rt_div_loop (M := M) (y := y) (b := b) (ρ0 := ρ) hp hq' np nq h2 ts [] ρ1 [] none h1 b1 (fun a ha => f1 a (od_nn ha (by simp))) hx1 hy1 (p1 rfl) (by rw [List.nil_append]; exact sp_quo_ft h1 ⟨hx.le hb, hx.2⟩)
  rw [List.nil_append] at this
  exact this
end RDV
