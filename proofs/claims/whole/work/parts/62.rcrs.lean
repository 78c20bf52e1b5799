/-! The reference's natural product. -/
section RC
variable {M : od_M} {y : Nat} {b : rf_B} {ρ0 : od_Rm}
abbrev rf_CU (r : Nat) : List Nat := [r, 66, 67, 71, 72, 73, 74, 75]
set_option maxRecDepth 100000 in
theorem rt_crs_in {p q r i ea : Nat} (hp : p < 113) (hq' : q < 113) (hr : r < 113) (nr : r ∉ [66, 67, 71, 72, 73, 74, 75]) (np : p ∉ rf_CU r) (nq : q ∉ rf_CU r) {t : tm_T} (ht : tm_ok t) {up zp : List Nat} (hea : ea = up.length + (tm_t t).length) {Q : od_O → od_M → Prop} : ∀ (todo done : List tm_T) (fu : Bool) (ρ : od_Rm) (tot : List tm_T) (w7 : Option Value), tm_al todo → od_Bd ρ → (∀ a, a ∉ rf_CU r → ρ a = ρ0 a) → od_hl ρ p (up ++ (tm_t t ++ zp)) → od_hl ρ q (tm_fl done ++ tm_fl todo) → (fu = false → (od_hl ρ r (tm_fl tot) ∧ tm_al tot) ∧ od_hl ρ 71 t.1) → (∀ (fu1 : Bool) (ρ1 : od_Rm) (w6 : Int32) (w7 : Option Value), od_Bd ρ1 → (∀ a, a ∉ rf_CU r → ρ1 a = ρ0 a) → (fu1 = false ↔ (fu = false ∧ ok_aa t tot todo)) → (fu1 = false → od_hl ρ1 r (tm_fl (sp_aa t tot todo)) ∧ tm_al (sp_aa t tot todo)) → od_W 5 105 142 [some (.ref y), some (.int (nI p)), some (.int (nI q)), some (.int (nI r)), some (.int (nI i)), some (.int (nI ea)), some (.int w6), w7] [] (md M y b fu1 ρ1) Q) → od_W 5 105 42 [some (.ref y), some (.int (nI p)), some (.int (nI q)), some (.int (nI r)), some (.int (nI i)), some (.int (nI ea)), some (.int (nI (tm_fl done).length)), w7] [] (md M y b fu ρ) Q := by
  intro todo
  induction todo with
  | nil =>
    intro done fu ρ tot w7 hal hb g hx hy hz hk
    have hl := hy.n
    have l1 := hb q
    rw [tm_fl, List.append_nil] at hl
    refine od_W.rn (pc' := 45) (ls' := [some (.ref _), some (.int _), some (.int _), some (.int _), some (.int _), some (.int _), some (.int _), _]) (st' := [.ref _, .int _]) 2 rfl ?_
    refine od_rG rfl (md_0) rfl rfl ?_
    refine od_W.rn (pc' := 49) (ls' := [some (.ref _), some (.int _), some (.int _), some (.int _), some (.int _), some (.int _), some (.int _), _]) (st' := [.int _, .ref _, .int _]) 1 rfl ?_
    refine od_rIL rfl (md_2) (rfl) (hq') (by decide) ?_
    rw [rf_row, hl]
    refine od_r2T rfl rfl (decide_eq_true (nI_le (Nat.le_refl _) (by omega))) ?_
    exact hk fu ρ _ _ hb g ⟨fun z => ⟨z, trivial⟩, fun z => z.1⟩ (fun z => (hz z).1)
  | cons u todo ih =>
    intro done fu ρ tot w7 hal hb g hx hy hz hk
    have hl := hy.n
    have l1 := hb q
    rw [tm_fl, List.length_append, List.length_append, tm_t_len] at hl
    have hy2 : od_hl ρ q (tm_fl done ++ (tm_t u ++ tm_fl todo)) := hy
    have e : (tm_fl done).length + (tm_t u).length = (tm_fl (done ++ [u])).length := by rw [tm_fl_snoc, List.length_append]
    have hcd := tm_c_mul ht.2 hal.1.2
    have a1 := tm_al_tp ht.1
    have a2 := tm_al_tp hal.1.1
    refine od_W.rn (pc' := 45) (ls' := [some (.ref _), some (.int _), some (.int _), some (.int _), some (.int _), some (.int _), some (.int _), _]) (st' := [.ref _, .int _]) 2 rfl ?_
    refine od_rG rfl (md_0) rfl rfl ?_
    refine od_W.rn (pc' := 49) (ls' := [some (.ref _), some (.int _), some (.int _), some (.int _), some (.int _), some (.int _), some (.int _), _]) (st' := [.int _, .ref _, .int _]) 1 rfl ?_
    refine od_rIL rfl (md_2) (rfl) (hq') (by decide) ?_
    rw [rf_row]
    refine od_r2F rfl (of_decide_eq_true rfl) (decide_eq_false (nI_ge (by omega) (by omega))) ?_
    refine od_W.rn (pc' := 57) (ls' := [some (.ref _), some (.int _), some (.int _), some (.int _), some (.int _), some (.int _), some (.int _), _]) (st' := [.int _, .int _, .ref _]) 3 rfl ?_
    refine od_rV (as := [.int (nI q), .int (nI (tm_fl done).length)]) rfl rfl rfl rfl (md_0) rfl (Nat.le_of_ble_eq_true rfl) (Nat.le_of_ble_eq_true rfl) (rt_behind hb hq' hal.1 hy2 rfl) (Nat.le_of_ble_eq_true rfl) (fun o M1 hq => ?_)
    obtain ⟨rfl, rfl⟩ := hq
    refine od_K.ret ?_
    refine od_W.rn (pc' := 70) (ls' := [some (.ref _), some (.int _), some (.int _), some (.int _), some (.int _), some (.int _), some (.int _), some (.int _)]) (st' := [.int _, .int _, .int _, .int _, .ref _]) 6 rfl ?_
    refine od_rV (as := [.int (nI q), .int (nI (tm_fl done).length), .int (nI ((tm_fl done).length + (tm_t u).length)), .int (nI 72)]) rfl rfl rfl rfl (md_0) rfl (Nat.le_of_ble_eq_true rfl) (Nat.le_of_ble_eq_true rfl) (rc_exponent hb (by omega) hq' (od_ne nq (by simp)) (by omega) (by rw [tm_t_len]; omega) (by rw [tm_t_len]; omega) (fun _ => ⟨hy2, rfl, rfl⟩)) (Nat.le_of_ble_eq_true rfl) (fun o M1 hq => ?_)
    obtain ⟨rfl, fu1, ρ1, rfl, f1, b1, k1, p1⟩ := hq
    refine od_K.ret ?_
    have hx1 := hx.fr (f1 p (od_nn np (by simp)))
    have hy1 := hy2.fr (f1 q (od_nn nq (by simp)))
    refine od_W.rn (pc' := 80) (ls' := [some (.ref _), some (.int _), some (.int _), some (.int _), some (.int _), some (.int _), some (.int _), some (.int _)]) (st' := [.int _, .int _, .int _, .ref _]) 4 rfl ?_
    refine od_rV (as := [.int (nI 71), .int (nI 72), .int (nI 73)]) rfl rfl rfl rfl (md_0) rfl (Nat.le_of_ble_eq_true rfl) (Nat.le_of_ble_eq_true rfl) (rc_mrg (ts := tm_tp t.1) (us := tm_tp u.1) (by omega) (by omega) (by omega) (by simp) (by simp) (by simp) b1 (fun z => ⟨⟨by rw [tm_fl_tp ht.1]; exact (hz (k1.mp z).1).2.fr (f1 71 (by simp)), a1⟩, by rw [tm_fl_tp hal.1.1]; exact p1 z, a2⟩)) (Nat.le_of_ble_eq_true rfl) (fun o M1 hq => ?_)
    obtain ⟨rfl, fu2, ρ2, rfl, f2, b2, k2, p2⟩ := hq
    refine od_K.ret ?_
    have hx2 := hx1.fr (f2 p (od_nn np (by simp)))
    have hy3 := hy1.fr (f2 q (od_nn nq (by simp)))
    refine od_W.rn (pc' := 86) (ls' := [some (.ref _), some (.int _), some (.int _), some (.int _), some (.int _), some (.int _), some (.int _), some (.int _)]) (st' := [.int _, .ref _]) 2 rfl ?_
    refine od_rV (as := [.int (nI 74)]) rfl rfl rfl rfl (md_0) rfl (Nat.le_of_ble_eq_true rfl) (Nat.le_of_ble_eq_true rfl) (rt_clear b2 (by omega)) (Nat.le_of_ble_eq_true rfl) (fun o M1 hq => ?_)
    obtain ⟨rfl, fu3, ρ3, rfl, f3, b3, k3, p3⟩ := hq
    refine od_K.ret ?_
    have hx3 := hx2.fr (f3 p (od_nn np (by simp)))
    have hy4 := hy3.fr (f3 q (od_nn nq (by simp)))
    refine od_W.rn (pc' := 98) (ls' := [some (.ref _), some (.int _), some (.int _), some (.int _), some (.int _), some (.int _), some (.int _), some (.int _)]) (st' := [.int _, .int _, .ref _, .int _, .int _, .ref _]) 6 rfl ?_
    refine od_rV (as := [.int (nI p), .int (nI ea)]) rfl rfl rfl rfl (md_0) rfl (Nat.le_of_ble_eq_true rfl) (Nat.le_of_ble_eq_true rfl) (rt_coef hp b3 hx3 hea) (Nat.le_of_ble_eq_true rfl) (fun o M1 hq => ?_)
    obtain ⟨rfl, rfl⟩ := hq
    refine od_K.ret ?_
    refine od_W.rn (pc' := 106) (ls' := [some (.ref _), some (.int _), some (.int _), some (.int _), some (.int _), some (.int _), some (.int _), some (.int _)]) (st' := [.int _, .int _, .ref _, .long _, .int _, .int _, .ref _]) 4 rfl ?_
    refine od_rV (as := [.int (nI q), .int (nI ((tm_fl done).length + (tm_t u).length))]) rfl rfl rfl rfl (md_0) rfl (Nat.le_of_ble_eq_true rfl) (Nat.le_of_ble_eq_true rfl) (rt_coef hq' b3 hy4 rfl) (Nat.le_of_ble_eq_true rfl) (fun o M1 hq => ?_)
    obtain ⟨rfl, rfl⟩ := hq
    refine od_K.ret ?_
    refine od_W.rn (pc' := 111) (ls' := [some (.ref _), some (.int _), some (.int _), some (.int _), some (.int _), some (.int _), some (.int _), some (.int _)]) (st' := [.long _, .int _, .int _, .ref _]) 2 rfl ?_
    rw [nI_1000 ht.2.2, nI_1000 hal.1.2.2, lN_mul]
    refine od_rV (as := [.int (nI 74), .int (nI 73), .long (lN (t.2 * u.2))]) rfl rfl rfl rfl (md_0) rfl (Nat.le_of_ble_eq_true rfl) (Nat.le_of_ble_eq_true rfl) (rc_appendTerm (xs := []) b3 (by omega) (by omega) (by omega) (fun z => ⟨(p2 (k3.mp z).1).fr (f3 73 (by simp)), rfl, hcd.2⟩) p3) (Nat.le_of_ble_eq_true rfl) (fun o M1 hq => ?_)
    obtain ⟨rfl, fu4, ρ4, rfl, f4, b4, k4, p4⟩ := hq
    refine od_K.ret ?_
    have hx4 := hx3.fr (f4 p (od_nn np (by simp)))
    have hy5 := hy4.fr (f4 q (od_nn nq (by simp)))
    have hr4 : fu4 = false → od_hl ρ4 r (tm_fl tot) := fun z => by
      have z3 := (k4.mp z).1
      have z2 := (k3.mp z3).1
      have z1 := (k2.mp z2).1
      exact ((((hz (k1.mp z1).1).1.1.fr (f1 r (od_nn nr (by simp)))).fr (f2 r (od_nn nr (by simp)))).fr (f3 r (od_nn nr (by simp)))).fr (f4 r (od_nn nr (by simp)))
    refine od_W.rn (pc' := 118) (ls' := [some (.ref _), some (.int _), some (.int _), some (.int _), some (.int _), some (.int _), some (.int _), some (.int _)]) (st' := [.int _, .int _, .ref _]) 3 rfl ?_
    refine od_rV (as := [.int (nI r), .int (nI 75)]) rfl rfl rfl rfl (md_0) rfl (Nat.le_of_ble_eq_true rfl) (Nat.le_of_ble_eq_true rfl) (rc_copy b4 (by omega) hr (od_ne nr (by simp)) hr4) (Nat.le_of_ble_eq_true rfl) (fun o M1 hq => ?_)
    obtain ⟨rfl, fu5, ρ5, rfl, f5, b5, k5, p5⟩ := hq
    refine od_K.ret ?_
    have hx5 := hx4.fr (f5 p (od_nn np (by simp)))
    have hy6 := hy5.fr (f5 q (od_nn nq (by simp)))
    have all : fu5 = false → fu = false ∧ tm_ft (tm_t (sp_j t u)) := fun z => by
      have z4 := (k5.mp z).1
      have z3 := (k4.mp z4).1
      have z2 := (k3.mp z3).1
      have z1 := (k2.mp z2).1
      have z9 := (k4.mp z4).2
      rw [List.nil_append] at z9
      exact ⟨(k1.mp z1).1, z9⟩
    have h74 : fu5 = false → od_hl ρ5 74 (tm_fl [sp_j t u]) ∧ tm_al [sp_j t u] := fun z => by
      have z4 := (k5.mp z).1
      have h9 := p4 z4
      rw [List.nil_append] at h9
      refine ⟨?_, sp_j_ok ht hal.1 (all z).2, trivial⟩
      rw [tm_fl_one]
      exact h9.fr (f5 74 (by simp))
    refine od_W.rn (pc' := 127) (ls' := [some (.ref _), some (.int _), some (.int _), some (.int _), some (.int _), some (.int _), some (.int _), some (.int _)]) (st' := [.int _, .int _, .int _, .ref _]) 4 rfl ?_
    refine od_rV (as := [.int (nI 75), .int (nI 74), .int (nI r)]) rfl rfl rfl rfl (md_0) rfl (Nat.le_of_ble_eq_true rfl) (Nat.le_of_ble_eq_true rfl) (rc_mrg (ts := tot) (us := [sp_j t u]) (by omega) (by omega) hr (by simp; exact (od_ne nr (by simp)).symm) (by simp; exact (od_ne nr (by simp)).symm) (od_nn nr (by simp)) b5 (fun z => ⟨⟨p5 z, (hz (all z).1).1.2⟩, h74 z⟩)) (Nat.le_of_ble_eq_true rfl) (fun o M1 hq => ?_)
    obtain ⟨rfl, fu6, ρ6, rfl, f6, b6, k6, p6⟩ := hq
    refine od_K.ret ?_
    have hx6 := hx5.fr (f6 p (od_nn np (by simp)))
    have hy7 := hy6.fr (f6 q (od_nn nq (by simp)))
    have g6 : ∀ a, a ∉ rf_CU r → ρ6 a = ρ0 a := fun a ha => (f6 a (od_nn ha (by simp))).trans ((f5 a (od_nn ha (by simp))).trans ((f4 a (od_nn ha (by simp))).trans ((f3 a (od_nn ha (by simp))).trans ((f2 a (od_nn ha (by simp))).trans ((f1 a (od_nn ha (by simp))).trans (g a ha))))))
    refine od_W.rn (pc' := 134) (ls' := [some (.ref _), some (.int _), some (.int _), some (.int _), some (.int _), some (.int _), some (.int _), some (.int _)]) (st' := [.int _, .int _, .ref _]) 3 rfl ?_
    refine od_rV (as := [.int (nI q), .int (nI (tm_fl done).length)]) rfl rfl rfl rfl (md_0) rfl (Nat.le_of_ble_eq_true rfl) (Nat.le_of_ble_eq_true rfl) (rt_behind b6 hq' hal.1 hy7 rfl) (Nat.le_of_ble_eq_true rfl) (fun o M1 hq => ?_)
    obtain ⟨rfl, rfl⟩ := hq
    refine od_K.ret ?_
    refine od_W.rn (pc' := 42) (ls' := [some (.ref _), some (.int _), some (.int _), some (.int _), some (.int _), some (.int _), some (.int _), some (.int _)]) (st' := []) 2 rfl ?_
    rw [e]
    have kk : fu6 = false ↔ fu = false ∧ tm_ft (tm_t (sp_j t u)) ∧ tm_ft (tm_fl (sp_a1 t tot u)) := by
      rw [k6, k5, k4, k3, k2, k1, List.nil_append]
      constructor
      · rintro ⟨⟨⟨⟨⟨⟨z1, _⟩, z2⟩, _⟩, z3⟩, _⟩, z4⟩; exact ⟨z1, z3, z4⟩
      · rintro ⟨z1, z3, z4⟩; exact ⟨⟨⟨⟨⟨⟨z1, trivial⟩, tm_ft_t z3⟩, trivial⟩, z3⟩, trivial⟩, z4⟩
    refine ih (done ++ [u]) fu6 ρ6 (sp_a1 t tot u) _ hal.2 b6 g6 hx6 (by rw [tm_fl_snoc, List.append_assoc]; exact hy7) (fun z => ?_) (fun fu1 ρ7 w6 w7 c1 c2 c3 c4 => hk fu1 ρ7 w6 w7 c1 c2 ?_ c4)
    · obtain ⟨z1, z2, z3⟩ := kk.mp z
      refine ⟨⟨p6 z, sp_a1_al ht hal.1 (hz z1).1.2 z2 z3⟩, ?_⟩
      exact ((((((hz z1).2.fr (f1 71 (by simp))).fr (f2 71 (by simp))).fr (f3 71 (by simp))).fr (f4 71 (by simp))).fr (f5 71 (by simp))).fr (f6 71 (od_nn (U := [r, 66, 67]) (by simp; exact (od_ne nr (by simp)).symm) (by simp)))
    · rw [c3, kk]
      exact ⟨fun z => ⟨z.1.1, z.1.2.1, z.1.2.2, z.2⟩, fun z => ⟨⟨z.1, z.2.1, z.2.2.1⟩, z.2.2.2⟩⟩
set_option maxRecDepth 100000 in
theorem rt_crs_out {p q r : Nat} (hp : p < 113) (hq' : q < 113) (hr : r < 113) (nr : r ∉ [66, 67, 71, 72, 73, 74, 75]) (np : p ∉ rf_CU r) (nq : q ∉ rf_CU r) {us : List tm_T} (h2 : tm_al us) {fu0 : Bool} {ok0 : Prop} {P0 : od_Rm → Prop} : ∀ (todo done : List tm_T) (fu : Bool) (ρ : od_Rm) (tot : List tm_T) (w5 w6 w7 : Option Value), tm_al todo → od_Bd ρ → (∀ a, a ∉ rf_CU r → ρ a = ρ0 a) → od_hl ρ p (tm_fl done ++ tm_fl todo) → od_hl ρ q (tm_fl us) → (fu = false → od_hl ρ r (tm_fl tot) ∧ tm_al tot) → (fu = false ∧ ok_np us tot todo ↔ fu0 = false ∧ ok0) → (∀ ρ', od_hl ρ' r (tm_fl (sp_np us tot todo)) → P0 ρ') → od_W 5 105 8 [some (.ref y), some (.int (nI p)), some (.int (nI q)), some (.int (nI r)), some (.int (nI (tm_fl done).length)), w5, w6, w7] [] (md M y b fu ρ) (rf_s M y b fu0 ρ0 (rf_CU r) ok0 P0) := by
  intro todo
  induction todo with
  | nil =>
    intro done fu ρ tot w5 w6 w7 hal hb g hx hy hz hok hP
    have hl := hx.n
    have l1 := hb p
    rw [tm_fl, List.append_nil] at hl
    refine od_W.rn (pc' := 11) (ls' := [some (.ref _), some (.int _), some (.int _), some (.int _), some (.int _), _, _, _]) (st' := [.ref _, .int _]) 2 rfl ?_
    refine od_rG rfl (md_0) rfl rfl ?_
    refine od_W.rn (pc' := 15) (ls' := [some (.ref _), some (.int _), some (.int _), some (.int _), some (.int _), _, _, _]) (st' := [.int _, .ref _, .int _]) 1 rfl ?_
    refine od_rIL rfl (md_2) (rfl) (hp) (by decide) ?_
    rw [rf_row, hl]
    refine od_r2T rfl rfl (decide_eq_true (nI_le (Nat.le_refl _) (by omega))) ?_
    refine od_W.fin rfl ?_
    refine ⟨rfl, fu, ρ, rfl, g, hb, ?_, fun z => hP ρ (hz z).1⟩
    rw [← hok]
    exact ⟨fun z => ⟨z, trivial⟩, fun z => z.1⟩
  | cons t todo ih =>
    intro done fu ρ tot w5 w6 w7 hal hb g hx hy hz hok hP
    have hl := hx.n
    have l1 := hb p
    rw [tm_fl, List.length_append, List.length_append, tm_t_len] at hl
    have hx2 : od_hl ρ p (tm_fl done ++ (tm_t t ++ tm_fl todo)) := hx
    have e : (tm_fl done).length + (tm_t t).length = (tm_fl (done ++ [t])).length := by rw [tm_fl_snoc, List.length_append]
    refine od_W.rn (pc' := 11) (ls' := [some (.ref _), some (.int _), some (.int _), some (.int _), some (.int _), _, _, _]) (st' := [.ref _, .int _]) 2 rfl ?_
    refine od_rG rfl (md_0) rfl rfl ?_
    refine od_W.rn (pc' := 15) (ls' := [some (.ref _), some (.int _), some (.int _), some (.int _), some (.int _), _, _, _]) (st' := [.int _, .ref _, .int _]) 1 rfl ?_
    refine od_rIL rfl (md_2) (rfl) (hp) (by decide) ?_
    rw [rf_row]
    refine od_r2F rfl (of_decide_eq_true rfl) (decide_eq_false (nI_ge (by omega) (by omega))) ?_
    refine od_W.rn (pc' := 23) (ls' := [some (.ref _), some (.int _), some (.int _), some (.int _), some (.int _), _, _, _]) (st' := [.int _, .int _, .ref _]) 3 rfl ?_
    refine od_rV (as := [.int (nI p), .int (nI (tm_fl done).length)]) rfl rfl rfl rfl (md_0) rfl (Nat.le_of_ble_eq_true rfl) (Nat.le_of_ble_eq_true rfl) (rt_behind hb hp hal.1 hx2 rfl) (Nat.le_of_ble_eq_true rfl) (fun o M1 hq => ?_)
    obtain ⟨rfl, rfl⟩ := hq
    refine od_K.ret ?_
    refine od_W.rn (pc' := 36) (ls' := [some (.ref _), some (.int _), some (.int _), some (.int _), some (.int _), some (.int _), _, _]) (st' := [.int _, .int _, .int _, .int _, .ref _]) 6 rfl ?_
    refine od_rV (as := [.int (nI p), .int (nI (tm_fl done).length), .int (nI ((tm_fl done).length + (tm_t t).length)), .int (nI 71)]) rfl rfl rfl rfl (md_0) rfl (Nat.le_of_ble_eq_true rfl) (Nat.le_of_ble_eq_true rfl) (rc_exponent hb (by omega) hp (od_ne np (by simp)) (by omega) (by rw [tm_t_len]; omega) (by rw [tm_t_len]; omega) (fun _ => ⟨hx2, rfl, rfl⟩)) (Nat.le_of_ble_eq_true rfl) (fun o M1 hq => ?_)
    obtain ⟨rfl, fu1, ρ1, rfl, f1, b1, k1, p1⟩ := hq
    refine od_K.ret ?_
    have hx3 := hx2.fr (f1 p (od_nn np (by simp)))
    have hy3 := hy.fr (f1 q (od_nn nq (by simp)))
    have g1 : ∀ a, a ∉ rf_CU r → ρ1 a = ρ0 a := fun a ha => (f1 a (od_nn ha (by simp))).trans (g a ha)
    have kf : fu1 = false ↔ fu = false := ⟨fun z => (k1.mp z).1, fun z => k1.mpr ⟨z, trivial⟩⟩
    refine od_W.rn (pc' := 42) (ls' := [some (.ref _), some (.int _), some (.int _), some (.int _), some (.int _), some (.int _), some (.int _), _]) (st' := []) 2 rfl ?_
    refine rt_crs_in (ρ0 := ρ0) hp hq' hr nr np nq hal.1 rfl us [] fu1 ρ1 tot _ h2 b1 g1 hx3 hy3 (fun z => ⟨⟨(hz (kf.mp z)).1.fr (f1 r (od_nn nr (by simp))), (hz (kf.mp z)).2⟩, p1 z⟩) (fun fu2 ρ2 w6 w7 b2 g2 k2 p2 => ?_)
    have hx4 : od_hl ρ2 p (tm_fl done ++ (tm_t t ++ tm_fl todo)) := hx2.fr ((g2 p np).trans (g p np).symm)
    have hy4 : od_hl ρ2 q (tm_fl us) := hy.fr ((g2 q nq).trans (g q nq).symm)
    refine od_W.rn (pc' := 146) (ls' := [some (.ref _), some (.int _), some (.int _), some (.int _), some (.int _), some (.int _), some (.int _), _]) (st' := [.int _, .int _, .ref _]) 3 rfl ?_
    refine od_rV (as := [.int (nI p), .int (nI (tm_fl done).length)]) rfl rfl rfl rfl (md_0) rfl (Nat.le_of_ble_eq_true rfl) (Nat.le_of_ble_eq_true rfl) (rt_behind b2 hp hal.1 hx4 rfl) (Nat.le_of_ble_eq_true rfl) (fun o M1 hq => ?_)
    obtain ⟨rfl, rfl⟩ := hq
    refine od_K.ret ?_
    refine od_W.rn (pc' := 8) (ls' := [some (.ref _), some (.int _), some (.int _), some (.int _), some (.int _), some (.int _), some (.int _), _]) (st' := []) 2 rfl ?_
    rw [e]
    refine ih (done ++ [t]) fu2 ρ2 (sp_aa t tot us) _ _ _ hal.2 b2 g2 (by rw [tm_fl_snoc, List.append_assoc]; exact hx4) hy4 p2 ?_ hP
    rw [← hok, k2, kf]
    exact ⟨fun z => ⟨z.1.1, z.1.2, z.2⟩, fun z => ⟨⟨z.1, z.2.1⟩, z.2.2⟩⟩
theorem rt_crs {p q r : Nat} {ρ : od_Rm} {ts us : List tm_T} (hp : p < 113) (hq' : q < 113) (hr : r < 113) (nr : r ∉ [66, 67, 71, 72, 73, 74, 75]) (np : p ∉ rf_CU r) (nq : q ∉ rf_CU r) (hb : od_Bd ρ) (hx : od_hl ρ p (tm_fl ts)) (h1 : tm_al ts) (hy : od_hl ρ q (tm_fl us)) (h2 : tm_al us) : od_W 5 105 0 (od_ent 105 [.ref y, .int (nI p), .int (nI q), .int (nI r)]) [] (md M y b false ρ) (rf_s M y b false ρ (rf_CU r) (ok_np us [] ts) (fun ρ' => od_hl ρ' r (tm_fl (sp_np us [] ts)))) := by
  have e0 : od_ent 105 [.ref y, .int (nI p), .int (nI q), .int (nI r)] = [some (.ref y), some (.int (nI p)), some (.int (nI q)), some (.int (nI r)), none, none, none, none] := rfl
  rw [e0]
  refine od_W.rn (pc' := 2) (ls' := [some (.ref _), some (.int _), some (.int _), some (.int _), none, none, none, none]) (st' := [.int _, .ref _]) 2 rfl ?_
  refine od_rV (as := [.int (nI r)]) rfl rfl rfl rfl (md_0) rfl (Nat.le_of_ble_eq_true rfl) (Nat.le_of_ble_eq_true rfl) (rt_clear hb hr) (Nat.le_of_ble_eq_true rfl) (fun o M1 hq => ?_)
  obtain ⟨rfl, fu1, ρ1, rfl, f1, b1, k1, p1⟩ := hq
  refine od_K.ret ?_
  have hf1 : fu1 = false := k1.mpr ⟨rfl, trivial⟩
  subst hf1
  have hx1 := hx.fr (f1 p (od_nn np (by simp)))
  have hy1 := hy.fr (f1 q (od_nn nq (by simp)))
  refine od_W.rn (pc' := 8) (ls' := [some (.ref _), some (.int _), some (.int _), some (.int _), some (.int _), none, none, none]) (st' := []) 2 rfl ?_
  exact rt_crs_out (ρ0 := ρ) hp hq' hr nr np nq h2 ts [] false ρ1 [] none none none h1 b1 (fun a ha => f1 a (od_nn ha (by simp))) hx1 hy1 (fun z => ⟨p1 z, trivial⟩) Iff.rfl (fun _ h => h)
end RC
