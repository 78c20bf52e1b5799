/-! The reference's members: from the innermost level out. -/
section RME2
variable {M : od_M} {y : Nat} {b : rf_B}
set_option maxRecDepth 100000 in
theorem cl_mo_a {p i : Nat} {n0 r0 d0 x1 x2 x3 : Int32} {w9 w10 w11 : Option Value} {fu : Bool} {ρ : od_Rm} (hp : p < 113) (n86 : p ≠ 86) (hi : i < 24) (hb : od_Bd ρ) {us : List tm_T} {t : tm_T} (ht : tm_ok t) {u v : List Nat} {bg st en : Nat → Int32} (har : me_ar M y bg st en) (hx : od_hl ρ p (u ++ (tm_fl us ++ (tm_t t ++ v)))) (h2 : bg i = nI u.length) (h3 : st i = nI (u.length + (tm_fl us).length)) (h4 : en i = nI (u.length + (tm_fl us).length + (tm_t t).length)) {Q : od_O → od_M → Prop} (hK : ∀ (fu1 : Bool) (ρ1 : od_Rm), od_Bd ρ1 → (∀ a, a ∉ [86] → ρ1 a = ρ a) → (fu1 = false ↔ fu = false) → (fu1 = false → od_hl ρ1 86 (tm_fl us ++ sp_dec t)) → od_W 6 111 222 [some (.ref y), some (.int (nI p)), some (.int n0), some (.int r0), some (.int d0), some (.int x1), some (.int x2), some (.int x3), some (.int (nI i)), some (.int (nI (u.length + (tm_fl us).length))), some (.int (nI (u.length + (tm_fl us).length + (tm_t t).length))), some (.int (nI t.2))] [] (md M y b fu1 ρ1) Q) : od_W 6 111 132 [some (.ref y), some (.int (nI p)), some (.int n0), some (.int r0), some (.int d0), some (.int x1), some (.int x2), some (.int x3), some (.int (nI i)), w9, w10, w11] [] (md M y b fu ρ) Q := by
  obtain ⟨ar4, ar5, ar6⟩ := har
  have h60 := hx.le hb
  have hsm := hx.2
  rw [tm_sm_app, tm_sm_app, tm_sm_app] at hsm
  have hdl := sp_dec_len t
  have htc := ht.2
  unfold tm_c at htc
  rw [List.length_append, List.length_append, List.length_append] at h60
  have hx2 : od_hl ρ p ((u ++ tm_fl us) ++ (tm_t t ++ v)) := by rw [List.append_assoc]; exact hx
  have hcell : rf_fl b.2.2.2 ρ (64 * p + (u.length + (tm_fl us).length + (tm_t t).length) - 1) = nI t.2 := by
    have h9 := hx2.tt.1
    unfold tm_t at h9
    rw [tm_at_cons, tm_at_app, tm_at_cons, tm_at_cons, List.length_append] at h9
    rw [tm_t_len] at h60 ⊢
    rw [show 64 * p + (u.length + (tm_fl us).length + (t.1.length + 3)) - 1 = 64 * p + (u.length + (tm_fl us).length + 1 + t.1.length + 1) by omega, rf_fl_at ρ (by omega)]
    exact h9.2.2.2.1
  have hft : tm_ft (tm_fl us ++ sp_dec t) := ⟨by rw [List.length_append]; omega, tm_sm_app.mpr ⟨hsm.2.1, sp_dec_sm hsm.2.2.1⟩⟩
  have lt : (tm_t t).length = t.1.length + 3 := tm_t_len t
  refine od_W.rn (pc' := 134) (ls' := [some (.ref _), some (.int _), some (.int _), some (.int _), some (.int _), some (.int _), some (.int _), some (.int _), some (.int _), _, _, _]) (st' := [.int _]) 1 rfl ?_
  refine od_r1F rfl (of_decide_eq_true rfl) (decide_eq_false (nI_pos (by omega))) ?_
  refine od_W.rn (pc' := 138) (ls' := [some (.ref _), some (.int _), some (.int _), some (.int _), some (.int _), some (.int _), some (.int _), some (.int _), some (.int _), _, _, _]) (st' := [.ref _]) 1 rfl ?_
  refine od_rG rfl (md_0) rfl rfl ?_
  refine od_W.rn (pc' := 143) (ls' := [some (.ref _), some (.int _), some (.int _), some (.int _), some (.int _), some (.int _), some (.int _), some (.int _), some (.int _), _, _, _]) (st' := [.int _, .ref _]) 1 rfl ?_
  refine od_rIL rfl ((md_o (by omega) (by omega) (by omega)).trans ar5) (rfl) (hi) (by decide) ?_
  rw [h3]
  refine od_W.rn (pc' := 147) (ls' := [some (.ref _), some (.int _), some (.int _), some (.int _), some (.int _), some (.int _), some (.int _), some (.int _), some (.int _), some (.int _), _, _]) (st' := [.ref _]) 2 rfl ?_
  refine od_rG rfl (md_0) rfl rfl ?_
  refine od_W.rn (pc' := 152) (ls' := [some (.ref _), some (.int _), some (.int _), some (.int _), some (.int _), some (.int _), some (.int _), some (.int _), some (.int _), some (.int _), _, _]) (st' := [.int _, .ref _]) 1 rfl ?_
  refine od_rIL rfl ((md_o (by omega) (by omega) (by omega)).trans ar6) (rfl) (hi) (by decide) ?_
  rw [h4]
  refine od_W.rn (pc' := 156) (ls' := [some (.ref _), some (.int _), some (.int _), some (.int _), some (.int _), some (.int _), some (.int _), some (.int _), some (.int _), some (.int _), some (.int _), _]) (st' := [.ref _]) 2 rfl ?_
  refine od_rG rfl (md_0) rfl rfl ?_
  refine od_W.rn (pc' := 168) (ls' := [some (.ref _), some (.int _), some (.int _), some (.int _), some (.int _), some (.int _), some (.int _), some (.int _), some (.int _), some (.int _), some (.int _), _]) (st' := [.int _, .ref _]) 7 rfl ?_
  refine od_rIL rfl (md_1) (rf_ix1 p _ (by omega)) (by omega) (by decide) ?_
  rw [hcell]
  refine od_W.rn (pc' := 174) (ls' := [some (.ref _), some (.int _), some (.int _), some (.int _), some (.int _), some (.int _), some (.int _), some (.int _), some (.int _), some (.int _), some (.int _), some (.int _)]) (st' := [.int _, .ref _]) 3 rfl ?_
  refine od_rV (as := [.int (nI 86)]) rfl rfl rfl rfl (md_0) rfl (Nat.le_of_ble_eq_true rfl) (Nat.le_of_ble_eq_true rfl) (rt_clear hb (by omega)) (Nat.le_of_ble_eq_true rfl) (fun o M1 hq => ?_)
  obtain ⟨rfl, fu1, ρ1, rfl, f1, b1, k1, p1⟩ := hq
  refine od_K.ret ?_
  have hx1 := hx.fr (f1 p (od_n1 n86))
  refine od_W.rn (pc' := 182) (ls' := [some (.ref _), some (.int _), some (.int _), some (.int _), some (.int _), some (.int _), some (.int _), some (.int _), some (.int _), some (.int _), some (.int _), some (.int _)]) (st' := [.ref _, .int _, .int _, .ref _]) 4 rfl ?_
  refine od_rG rfl (md_0) rfl rfl ?_
  refine od_W.rn (pc' := 187) (ls' := [some (.ref _), some (.int _), some (.int _), some (.int _), some (.int _), some (.int _), some (.int _), some (.int _), some (.int _), some (.int _), some (.int _), some (.int _)]) (st' := [.int _, .ref _, .int _, .int _, .ref _]) 1 rfl ?_
  refine od_rIL rfl ((md_o (by omega) (by omega) (by omega)).trans ar4) (rfl) (hi) (by decide) ?_
  rw [h2]
  refine od_W.rn (pc' := 190) (ls' := [some (.ref _), some (.int _), some (.int _), some (.int _), some (.int _), some (.int _), some (.int _), some (.int _), some (.int _), some (.int _), some (.int _), some (.int _)]) (st' := [.int _, .int _, .int _, .int _, .ref _]) 1 rfl ?_
  refine od_rV (as := [.int (nI 86), .int (nI p), .int (nI u.length), .int (nI (u.length + (tm_fl us).length))]) rfl rfl rfl rfl (md_0) rfl (Nat.le_of_ble_eq_true rfl) (Nat.le_of_ble_eq_true rfl) (rt_appendPart b1 (by omega) hp n86 hx1 rfl rfl p1) (Nat.le_of_ble_eq_true rfl) (fun o M1 hq => ?_)
  rw [List.nil_append] at hq
  obtain ⟨rfl, fu2, ρ2, rfl, f2, b2, k2, p2⟩ := hq
  refine od_K.ret ?_
  have hx3 : od_hl ρ2 p ((u ++ tm_fl us) ++ ((1 :: (t.1 ++ [0])) ++ ([t.2] ++ v))) := by
    have h9 := (hx2.fr (f1 p (od_n1 n86))).fr (f2 p (od_n1 n86))
    rw [show (u ++ tm_fl us) ++ ((1 :: (t.1 ++ [0])) ++ ([t.2] ++ v)) = (u ++ tm_fl us) ++ (tm_t t ++ v) by simp [tm_t]]
    exact h9
  have k2' : fu2 = false ↔ fu = false := by
    rw [k2, k1]
    exact ⟨fun z => z.1.1, fun z => ⟨⟨z, trivial⟩, tm_ft_l hft⟩⟩
  refine od_W.rn (pc' := 196) (ls' := [some (.ref _), some (.int _), some (.int _), some (.int _), some (.int _), some (.int _), some (.int _), some (.int _), some (.int _), some (.int _), some (.int _), some (.int _)]) (st' := [.int _, .int _]) 2 rfl ?_
  by_cases hc1 : 1 < t.2
  · have ed : tm_fl us ++ sp_dec t = (tm_fl us ++ (1 :: (t.1 ++ [0]))) ++ [t.2 - 1] := by unfold sp_dec; rw [if_pos hc1]; simp [tm_t]
    rw [ed] at hft hK
    refine od_r2F rfl (of_decide_eq_true rfl) (decide_eq_false (nI_ge (a := 1) hc1 (by omega))) ?_
    refine od_W.rn (pc' := 209) (ls' := [some (.ref _), some (.int _), some (.int _), some (.int _), some (.int _), some (.int _), some (.int _), some (.int _), some (.int _), some (.int _), some (.int _), some (.int _)]) (st' := [.int _, .int _, .int _, .int _, .ref _]) 7 rfl ?_
    rw [show nI (u.length + (tm_fl us).length + (tm_t t).length) - Int32.ofInt 1 = nI (u.length + (tm_fl us).length + (tm_t t).length - 1) from nI_subI (a := 1) (by omega)]
    refine od_rV (as := [.int (nI 86), .int (nI p), .int (nI (u.length + (tm_fl us).length)), .int (nI (u.length + (tm_fl us).length + (tm_t t).length - 1))]) rfl rfl rfl rfl (md_0) rfl (Nat.le_of_ble_eq_true rfl) (Nat.le_of_ble_eq_true rfl) (rt_appendPart b2 (by omega) hp n86 hx3 (by rw [List.length_append]) (by simp; omega) p2) (Nat.le_of_ble_eq_true rfl) (fun o M1 hq => ?_)
    obtain ⟨rfl, fu3, ρ3, rfl, f3, b3, k3, p3⟩ := hq
    refine od_K.ret ?_
    refine od_W.rn (pc' := 219) (ls' := [some (.ref _), some (.int _), some (.int _), some (.int _), some (.int _), some (.int _), some (.int _), some (.int _), some (.int _), some (.int _), some (.int _), some (.int _)]) (st' := [.int _, .int _, .ref _]) 5 rfl ?_
    rw [show nI t.2 - Int32.ofInt 1 = nI (t.2 - 1) from nI_subI (a := 1) htc.1]
    refine od_rV (as := [.int (nI 86), .int (nI (t.2 - 1))]) rfl rfl rfl rfl (md_0) rfl (Nat.le_of_ble_eq_true rfl) (Nat.le_of_ble_eq_true rfl) (rt_append b3 (by omega) p3 (fun _ => ⟨rfl, by omega⟩)) (Nat.le_of_ble_eq_true rfl) (fun o M1 hq => ?_)
    obtain ⟨rfl, fu4, ρ4, rfl, f4, b4, k4, p4⟩ := hq
    refine od_K.ret ?_
    refine hK fu4 ρ4 b4 (fun a ha => (f4 a ha).trans ((f3 a ha).trans ((f2 a ha).trans (f1 a ha)))) ?_ p4
    rw [k4, k3, k2']
    exact ⟨fun z => z.1.1, fun z => ⟨⟨z, tm_ft_l hft⟩, hft⟩⟩
  · have ed : sp_dec t = [] := if_neg hc1
    rw [ed, List.append_nil] at hK
    refine od_r2T rfl rfl (decide_eq_true (nI_le (b := 1) (by omega) (by omega))) ?_
    exact hK fu2 ρ2 b2 (fun a ha => (f2 a ha).trans (f1 a ha)) k2' p2
set_option maxRecDepth 100000 in
theorem cl_mo_2 {p n L : Nat} {r0 x1 x2 x3 : Int32} {w9 w10 w11 : Option Value} {ρ : od_Rm} (hp : p < 113) (n86 : p ≠ 86) (n85 : p ≠ 85) (hL : L ≤ 20) (hn : n ≤ 1000000) (hb : od_Bd ρ) {bg st en : Nat → Int32} (har : me_ar M y bg st en) {Q : od_O → od_M → Prop} : ∀ (path : me_P) (u v : List Nat) (ts : List tm_T) (i : Nat), me_p bg st en u.length i ts path → tm_al ts → i + path.length = L → od_hl ρ p (u ++ (tm_fl ts ++ v)) → (∀ (fu1 : Bool) (ρ1 : od_Rm) (w9 w10 w11 : Option Value), od_Bd ρ1 → (∀ a, a ∉ [85, 86] → ρ1 a = ρ a) → (fu1 = false ↔ tm_ft (me_v n path)) → (fu1 = false → od_hl ρ1 85 (me_v n path)) → od_W 6 111 132 [some (.ref y), some (.int (nI p)), some (.int (nI n)), some (.int r0), some (.int (nI L)), some (.int x1), some (.int x2), some (.int x3), some (.int (nI i - 1)), w9, w10, w11] [] (md M y b fu1 ρ1) Q) → od_W 6 111 132 [some (.ref y), some (.int (nI p)), some (.int (nI n)), some (.int r0), some (.int (nI L)), some (.int x1), some (.int x2), some (.int x3), some (.int (nI L - 1)), w9, w10, w11] [] (md M y b false ρ) Q := by
  intro path
  induction path with
  | nil => intro u v ts i h; exact h.elim
  | cons q0 r ih =>
    intro u v ts i hpath hal hiL hx hK
    cases r with
    | nil =>
      obtain ⟨h1, h2, h3, h4, h5⟩ := hpath
      subst h1
      have ha2 := tm_al_app.mp hal
      have hx2 : od_hl ρ p (u ++ (tm_fl q0.1 ++ (tm_t q0.2 ++ v))) := by rw [tm_fl_snoc] at hx; simpa [List.append_assoc] using hx
      have hx3 : od_hl ρ p ((u ++ tm_fl q0.1) ++ (tm_t q0.2 ++ v)) := by rw [List.append_assoc]; exact hx2
      have h60 := hx2.le hb
      rw [List.length_append, List.length_append, List.length_append, tm_t_len] at h60
      simp only [List.length_cons, List.length_nil] at hiL
      have eL : nI L - 1 = nI i := by rw [← hiL]; exact nI_pred i
      obtain ⟨es, s, hes, hs0⟩ := tm_k_snoc1 h5
      have hW := ha2.2.1.1
      have hal2 := tm_al_tp hW
      rw [hes] at hal2
      have ev : me_v n [q0] = (tm_fl q0.1 ++ sp_dec q0.2) ++ sp_bt n q0.2.1 := by show tm_fl q0.1 ++ (sp_dec q0.2 ++ sp_bt n q0.2.1) = _; rw [List.append_assoc]
      rw [ev] at hK
      rw [eL]
      refine cl_mo_a hp n86 (by omega) hb ha2.2.1 har hx2 h2 h3 h4 (fun fu1 ρ1 b1 fr1 k1 p1 => ?_)
      have hf1 : fu1 = false := k1.mpr rfl
      subst hf1
      have h86 := p1 rfl
      have hx4 := hx3.fr (fr1 p (od_n1 n86))
      refine od_W.rn (pc' := 228) (ls' := [some (.ref _), some (.int _), some (.int _), some (.int _), some (.int _), some (.int _), some (.int _), some (.int _), some (.int _), some (.int _), some (.int _), some (.int _)]) (st' := [.int _, .int _]) 4 rfl ?_
      rw [show nI L - Int32.ofInt 1 = nI i from eL]
      refine od_r2F rfl (of_decide_eq_true rfl) ((show (!decide (nI i = nI i)) = false by rw [decide_eq_true rfl]; rfl)) ?_
      refine od_W.rn (pc' := 239) (ls' := [some (.ref _), some (.int _), some (.int _), some (.int _), some (.int _), some (.int _), some (.int _), some (.int _), some (.int _), some (.int _), some (.int _), some (.int _)]) (st' := [.int _, .int _, .int _, .int _, .ref _]) 5 rfl ?_
      refine od_rV (as := [.int (nI p), .int (nI (u.length + (tm_fl q0.1).length)), .int (nI (u.length + (tm_fl q0.1).length + (tm_t q0.2).length)), .int (nI 85)]) rfl rfl rfl rfl (md_0) rfl (Nat.le_of_ble_eq_true rfl) (Nat.le_of_ble_eq_true rfl) (rc_exponent b1 (by omega) hp n85 (by omega) (by rw [tm_t_len]; omega) (by rw [tm_t_len]; omega) (fun _ => ⟨hx4, by rw [List.length_append], rfl⟩)) (Nat.le_of_ble_eq_true rfl) (fun o M1 hq => ?_)
      obtain ⟨rfl, fu2, ρ2, rfl, f2, b2, k2, p2⟩ := hq
      refine od_K.ret ?_
      have hf2 : fu2 = false := k2.mpr ⟨rfl, trivial⟩
      subst hf2
      have h85 : od_hl ρ2 85 (tm_fl (es ++ [s])) := by rw [← hes, tm_fl_tp hW]; exact p2 rfl
      refine od_W.rn (pc' := 245) (ls' := [some (.ref _), some (.int _), some (.int _), some (.int _), some (.int _), some (.int _), some (.int _), some (.int _), some (.int _), some (.int _), some (.int _), some (.int _)]) (st' := [.int _, .ref _]) 2 rfl ?_
      refine od_rV (as := [.int (nI 85)]) rfl rfl rfl rfl (md_0) rfl (Nat.le_of_ble_eq_true rfl) (Nat.le_of_ble_eq_true rfl) (rt_lower b2 (by omega) (tm_al_app.mp hal2).2.1 hs0 h85) (Nat.le_of_ble_eq_true rfl) (fun o M1 hq => ?_)
      obtain ⟨rfl, fu3, ρ3, rfl, f3, b3, k3, p3⟩ := hq
      refine od_K.ret ?_
      have hf3 : fu3 = false := k3.mpr ⟨rfl, trivial⟩
      subst hf3
      have h86' := (h86.fr (f2 86 (by simp))).fr (f3 86 (by simp))
      have fr3 : ∀ a, a ∉ [85, 86] → ρ3 a = ρ a := fun a ha => (f3 a (od_nn ha (by simp))).trans ((f2 a (od_nn ha (by simp))).trans (fr1 a (od_nn ha (by simp))))
      have h86l : tm_ft (tm_fl q0.1 ++ sp_dec q0.2) := ⟨h86.le b1, h86.2⟩
      refine od_W.rn (pc' := 249) (ls' := [some (.ref _), some (.int _), some (.int _), some (.int _), some (.int _), some (.int _), some (.int _), some (.int _), some (.int _), some (.int _), some (.int _), some (.int _)]) (st' := [.int _]) 1 rfl ?_
      have fin : ∀ (fu4 : Bool) (ρ4 : od_Rm), od_Bd ρ4 → (∀ a, a ∉ [85, 86] → ρ4 a = ρ a) → (fu4 = false ↔ tm_ft ((tm_fl q0.1 ++ sp_dec q0.2) ++ sp_bt n q0.2.1)) → (fu4 = false → od_hl ρ4 86 ((tm_fl q0.1 ++ sp_dec q0.2) ++ sp_bt n q0.2.1)) → od_W 6 111 274 [some (.ref y), some (.int (nI p)), some (.int (nI n)), some (.int r0), some (.int (nI L)), some (.int x1), some (.int x2), some (.int x3), some (.int (nI i)), some (.int (nI (u.length + (tm_fl q0.1).length))), some (.int (nI (u.length + (tm_fl q0.1).length + (tm_t q0.2).length))), some (.int (nI q0.2.2))] [] (md M y b fu4 ρ4) Q := by
        intro fu4 ρ4 b4 fr4 k4 p4
        refine od_W.rn (pc' := 279) (ls' := [some (.ref _), some (.int _), some (.int _), some (.int _), some (.int _), some (.int _), some (.int _), some (.int _), some (.int _), some (.int _), some (.int _), some (.int _)]) (st' := [.int _, .int _, .ref _]) 3 rfl ?_
        refine od_rV (as := [.int (nI 86), .int (nI 85)]) rfl rfl rfl rfl (md_0) rfl (Nat.le_of_ble_eq_true rfl) (Nat.le_of_ble_eq_true rfl) (rc_copy b4 (by omega) (by omega) (by omega) p4) (Nat.le_of_ble_eq_true rfl) (fun o M1 hq => ?_)
        obtain ⟨rfl, fu5, ρ5, rfl, f5, b5, k5, p5⟩ := hq
        refine od_K.ret ?_
        refine od_W.rn (pc' := 132) (ls' := [some (.ref _), some (.int _), some (.int _), some (.int _), some (.int _), some (.int _), some (.int _), some (.int _), some (.int _), some (.int _), some (.int _), some (.int _)]) (st' := []) 2 rfl ?_
        rw [show nI i + Int32.ofInt (-1) = nI i - 1 from (Int32.sub_eq_add_neg (nI i) 1).symm]
        refine hK fu5 ρ5 _ _ _ b5 (fun a ha => (f5 a (od_nn ha (by simp))).trans (fr4 a ha)) ?_ p5
        rw [k5, k4]
        exact ⟨fun z => z.1, fun z => ⟨z, trivial⟩⟩
      by_cases hn0 : n = 0
      · have eb : sp_bt n q0.2.1 = [] := if_pos hn0
        rw [eb, List.append_nil] at fin
        refine od_r1T rfl rfl (decide_eq_true (by rw [hn0]; exact Int32.le_refl _)) ?_
        exact fin false ρ3 b3 fr3 ⟨fun _ => h86l, fun _ => rfl⟩ (fun _ => h86')
      · have eb : sp_bt n q0.2.1 = tm_t (sp_pr (es ++ [s]), n) := by unfold sp_bt; rw [if_neg hn0, hes]
        rw [eb] at fin
        refine od_r1F rfl (of_decide_eq_true rfl) (decide_eq_false (nI_ge (a := 0) (by omega) (by omega))) ?_
        refine od_W.rn (pc' := 259) (ls' := [some (.ref _), some (.int _), some (.int _), some (.int _), some (.int _), some (.int _), some (.int _), some (.int _), some (.int _), some (.int _), some (.int _), some (.int _)]) (st' := [.long _, .int _, .int _, .ref _]) 5 rfl ?_
        rw [nI_1000 hn]
        refine od_rV (as := [.int (nI 86), .int (nI 85), .long (lN n)]) rfl rfl rfl rfl (md_0) rfl (Nat.le_of_ble_eq_true rfl) (Nat.le_of_ble_eq_true rfl) (rc_appendTerm b3 (by omega) (by omega) (by omega) (fun _ => ⟨p3 rfl, rfl, by omega⟩) (fun _ => h86')) (Nat.le_of_ble_eq_true rfl) (fun o M1 hq => ?_)
        obtain ⟨rfl, fu4, ρ4, rfl, f4, b4, k4, p4⟩ := hq
        refine od_K.ret ?_
        refine od_W.rn (pc' := 274) (ls' := [some (.ref _), some (.int _), some (.int _), some (.int _), some (.int _), some (.int _), some (.int _), some (.int _), some (.int _), some (.int _), some (.int _), some (.int _)]) (st' := []) 1 rfl ?_
        refine fin fu4 ρ4 b4 (fun a ha => (f4 a (od_nn ha (by simp))).trans (fr3 a ha)) ?_ p4
        rw [k4]
        exact ⟨fun z => z.2, fun z => ⟨rfl, z⟩⟩
    | cons q1 r =>
      obtain ⟨h1, h2, h3, h4, h5, h6⟩ := hpath
      subst h1
      have ha2 := tm_al_app.mp hal
      have hW := ha2.2.1.1
      have hx2 : od_hl ρ p (u ++ (tm_fl q0.1 ++ (tm_t q0.2 ++ v))) := by rw [tm_fl_snoc] at hx; simpa [List.append_assoc] using hx
      have hu2 : (u ++ tm_fl q0.1 ++ [1]).length = u.length + (tm_fl q0.1).length + 1 := by rw [List.length_append, List.length_append]; rfl
      simp only [List.length_cons] at hiL
      have ev : me_v n (q0 :: q1 :: r) = (tm_fl q0.1 ++ sp_dec q0.2) ++ tm_t (me_v n (q1 :: r), 1) := by show tm_fl q0.1 ++ (sp_dec q0.2 ++ tm_t (me_v n (q1 :: r), 1)) = _; rw [List.append_assoc]
      rw [ev] at hK
      refine ih (u ++ tm_fl q0.1 ++ [1]) ([0, q0.2.2] ++ v) (tm_tp q0.2.1) (i + 1) (by rw [hu2]; exact h6) (tm_al_tp hW) (by simp only [List.length_cons]; omega) ?_ (fun fu1 ρ1 w9 w10 w11 b1 fr1 k1 p1 => ?_)
      · rw [tm_fl_tp hW, show (u ++ tm_fl q0.1 ++ [1]) ++ (q0.2.1 ++ ([0, q0.2.2] ++ v)) = u ++ (tm_fl q0.1 ++ (tm_t q0.2 ++ v)) by simp [tm_t]]; exact hx2
      · rw [nI_pred i]
        have hx3 := hx2.fr (fr1 p (by simp; omega))
        refine cl_mo_a hp n86 (by omega) b1 ha2.2.1 har hx3 h2 h3 h4 (fun fu2 ρ2 b2 fr2 k2 p2 => ?_)
        refine od_W.rn (pc' := 228) (ls' := [some (.ref _), some (.int _), some (.int _), some (.int _), some (.int _), some (.int _), some (.int _), some (.int _), some (.int _), some (.int _), some (.int _), some (.int _)]) (st' := [.int _, .int _]) 4 rfl ?_
        rw [show nI L - Int32.ofInt 1 = nI (L - 1) from nI_subI (a := 1) (by omega)]
        refine od_r2T rfl rfl ((show (!decide (nI i = nI (L - 1))) = true by rw [decide_eq_false (fun z => absurd ((nI_eq (by omega) (by omega)).mp z) (by omega))]; rfl)) ?_
        refine od_W.rn (pc' := 271) (ls' := [some (.ref _), some (.int _), some (.int _), some (.int _), some (.int _), some (.int _), some (.int _), some (.int _), some (.int _), some (.int _), some (.int _), some (.int _)]) (st' := [.long _, .int _, .int _, .ref _]) 4 rfl ?_
        refine od_rV (as := [.int (nI 86), .int (nI 85), .long (lN 1)]) rfl rfl rfl rfl (md_0) rfl (Nat.le_of_ble_eq_true rfl) (Nat.le_of_ble_eq_true rfl) (rc_appendTerm b2 (by omega) (by omega) (by omega) (fun z => ⟨(p1 (k2.mp z)).fr (fr2 85 (by simp)), rfl, by omega⟩) p2) (Nat.le_of_ble_eq_true rfl) (fun o M1 hq => ?_)
        obtain ⟨rfl, fu3, ρ3, rfl, f3, b3, k3, p3⟩ := hq
        refine od_K.ret ?_
        refine od_W.rn (pc' := 279) (ls' := [some (.ref _), some (.int _), some (.int _), some (.int _), some (.int _), some (.int _), some (.int _), some (.int _), some (.int _), some (.int _), some (.int _), some (.int _)]) (st' := [.int _, .int _, .ref _]) 3 rfl ?_
        refine od_rV (as := [.int (nI 86), .int (nI 85)]) rfl rfl rfl rfl (md_0) rfl (Nat.le_of_ble_eq_true rfl) (Nat.le_of_ble_eq_true rfl) (rc_copy b3 (by omega) (by omega) (by omega) p3) (Nat.le_of_ble_eq_true rfl) (fun o M1 hq => ?_)
        obtain ⟨rfl, fu4, ρ4, rfl, f4, b4, k4, p4⟩ := hq
        refine od_K.ret ?_
        refine od_W.rn (pc' := 132) (ls' := [some (.ref _), some (.int _), some (.int _), some (.int _), some (.int _), some (.int _), some (.int _), some (.int _), some (.int _), some (.int _), some (.int _), some (.int _)]) (st' := []) 2 rfl ?_
        rw [show nI i + Int32.ofInt (-1) = nI i - 1 from (Int32.sub_eq_add_neg (nI i) 1).symm]
        refine hK fu4 ρ4 _ _ _ b4 (fun a ha => (f4 a (od_nn ha (by simp))).trans ((f3 a (od_nn ha (by simp))).trans ((fr2 a (od_nn ha (by simp))).trans (fr1 a ha)))) ?_ p4
        rw [k4, k3, k2, k1]
        refine ⟨fun z => z.1.2, fun z => ⟨⟨?_, z⟩, trivial⟩⟩
        exact tm_ft_in (b := []) (by rw [List.append_nil]; exact z)
def me_as (M : od_M) (y : Nat) : Prop := ∃ bg st en, me_ar M y bg st en
/-- what a member comes to: the arrays may change -/
def rf_m (M : od_M) (y : Nat) (b : rf_B) (ρ : od_Rm) (U : List Nat) (ok : Prop) (P : od_Rm → Prop) : od_O → od_M → Prop := fun o M2 => ∃ M', od_eM [y + 4, y + 5, y + 6] M M' ∧ me_as M' y ∧ rf_s M' y b false ρ U ok P o M2
set_option maxRecDepth 100000 in
theorem rt_memberOf {p r n : Nat} {ρ : od_Rm} {ts : List tm_T} (hp : p < 113) (hr : r < 113) (np : p ∉ [85, 86]) (n85 : r ≠ 85) (hn : n ≤ 1000000) (hb : od_Bd ρ) (har : me_as M y) (hal : tm_al ts) (hk : tm_k ts = 2) (hx : od_hl ρ p (tm_fl ts)) : od_W 6 111 0 (od_ent 111 [.ref y, .int (nI p), .int (nI n), .int (nI r)]) [] (md M y b false ρ) (rf_m M y b ρ [r, 85, 86] (tm_ft (sp_mem n ts)) (fun ρ' => od_hl ρ' r (sp_mem n ts))) := by
  have e0 : od_ent 111 [.ref y, .int (nI p), .int (nI n), .int (nI r)] = [some (.ref y), some (.int (nI p)), some (.int (nI n)), some (.int (nI r)), none, none, none, none, none, none, none, none] := rfl
  rw [e0]
  obtain ⟨bg, st, en, har⟩ := har
  obtain ⟨us, t, rfl, ht0⟩ := tm_k_snoc2 hk
  have ha2 := tm_al_app.mp hal
  have h60 := hx.le hb
  have m85 : p ≠ 85 := od_ne np (by simp)
  have m86 : p ≠ 86 := od_ne np (by simp)
  refine od_W.rn (pc' := 7) (ls' := [some (.ref _), some (.int _), some (.int _), some (.int _), some (.int _), some (.int _), none, none, none, none, none, none]) (st' := [.ref _]) 5 rfl ?_
  refine od_rG rfl (md_0) rfl rfl ?_
  refine od_W.rn (pc' := 11) (ls' := [some (.ref _), some (.int _), some (.int _), some (.int _), some (.int _), some (.int _), none, none, none, none, none, none]) (st' := [.int _, .ref _]) 1 rfl ?_
  refine od_rIL rfl (md_2) (rfl) (hp) (by decide) ?_
  rw [rf_row, hx.n]
  refine od_W.rn (pc' := 17) (ls' := [some (.ref _), some (.int _), some (.int _), some (.int _), some (.int _), some (.int _), some (.int _), some (.int _), none, none, none, none]) (st' := []) 3 rfl ?_
  refine cl_mo_1 (ρ0 := ρ) hp m85 (tm_fl (us ++ [t])).length us t [] [] 0 M bg st en ρ 0 (tm_fl (us ++ [t])).length _ _ _ _ ha2.1 ha2.2.1 ht0 (by rw [tm_fl_snoc, List.length_append]; omega) (by simp) (by simp) hb (fun _ _ => rfl) (by simpa using hx) rfl (by omega) har (fun M' bg' st' en' ρ' path f1 f2 f3 f4 w10 w11 c1 c2 c3 c4 c5 c6 c7 => ?_)
  have hx1 : od_hl ρ' p ([] ++ (tm_fl (us ++ [t]) ++ [])) := by rw [List.nil_append, List.append_nil]; exact hx.fr (c5 p (od_n1 m85))
  have ev : me_v n path = sp_mem n (us ++ [t]) := me_v_eq path _ _ _ _ hal (Nat.le_refl _) c6
  refine od_W.rn (pc' := 132) (ls' := [some (.ref _), some (.int _), some (.int _), some (.int _), some (.int _), some (.int _), some (.int _), some (.int _), some (.int _), some (.int _), _, _]) (st' := []) 4 rfl ?_
  rw [Nat.zero_add]
  refine cl_mo_2 hp m86 m85 (by omega) hn c4 c2 path [] [] (us ++ [t]) 0 c6 hal (by omega) hx1 (fun fu1 ρ1 w9 w10 w11 b1 fr1 k1 p1 => ?_)
  rw [ev] at k1 p1
  refine od_W.rn (pc' := 134) (ls' := [some (.ref _), some (.int _), some (.int _), some (.int _), some (.int _), some (.int _), some (.int _), some (.int _), some (.int _), _, _, _]) (st' := [.int _]) 1 rfl ?_
  refine od_r1T rfl rfl (rfl) ?_
  refine od_W.rn (pc' := 292) (ls' := [some (.ref _), some (.int _), some (.int _), some (.int _), some (.int _), some (.int _), some (.int _), some (.int _), some (.int _), _, _, _]) (st' := [.int _, .int _, .ref _]) 3 rfl ?_
  refine od_rV (as := [.int (nI 85), .int (nI r)]) rfl rfl rfl rfl (md_0) rfl (Nat.le_of_ble_eq_true rfl) (Nat.le_of_ble_eq_true rfl) (rc_copy b1 hr (by omega) (Ne.symm n85) p1) (Nat.le_of_ble_eq_true rfl) (fun o M1 hq => ?_)
  obtain ⟨rfl, fu2, ρ2, rfl, f2, b2, k2, p2⟩ := hq
  refine od_K.ret ?_
  refine od_W.fin rfl ?_
  refine ⟨M', c1, ⟨_, _, _, c2⟩, rfl, fu2, ρ2, rfl, fun a ha => (f2 a (od_nn ha (by simp))).trans ((fr1 a (od_nn ha (by simp))).trans (c5 a (od_nn ha (by simp)))), b2, ?_, p2⟩
  rw [k2, k1]
  exact ⟨fun z => ⟨rfl, z.1⟩, fun z => ⟨z.2, trivial⟩⟩
end RME2
