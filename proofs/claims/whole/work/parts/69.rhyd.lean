/-! The reference's hydra. -/
def fo_p (ρ : od_Rm) (st en : Nat → Int32) : Nat → List tm_T → hy_P → Prop
  | _, _, [] => False
  | i, ts, [p] => ts = p.1 ++ p.2.1 :: p.2.2 ∧ od_hl ρ (90 + i) (tm_fl ts) ∧ st i = nI (tm_fl p.1).length ∧ en i = nI ((tm_fl p.1).length + (tm_t p.2.1).length) ∧ p.2.1.1 = []
  | i, ts, p :: q :: r => ts = p.1 ++ p.2.1 :: p.2.2 ∧ od_hl ρ (90 + i) (tm_fl ts) ∧ st i = nI (tm_fl p.1).length ∧ en i = nI ((tm_fl p.1).length + (tm_t p.2.1).length) ∧ p.2.1.1 ≠ [] ∧ fo_p ρ st en (i + 1) (tm_tp p.2.1.1) (q :: r)
theorem fo_p.fr {ρ ρ' : od_Rm} {st en : Nat → Int32} : ∀ {p : hy_P} {i : Nat} {ts : List tm_T}, fo_p ρ st en i ts p → (∀ a, 90 ≤ a → ρ' a = ρ a) → fo_p ρ' st en i ts p := by
  intro p
  induction p with
  | nil => intro i ts h; exact h.elim
  | cons p r ih =>
    intro i ts h hf
    cases r with
    | nil =>
      obtain ⟨h1, h2, h3⟩ := h
      exact ⟨h1, h2.fr (hf _ (by omega)), h3⟩
    | cons q r =>
      obtain ⟨h1, h2, h3, h4, h5, h6⟩ := h
      exact ⟨h1, h2.fr (hf _ (by omega)), h3, h4, h5, ih h6 hf⟩
def rf_f (M : od_M) (y : Nat) (b : rf_B) (ρ : od_Rm) (i : Nat) (st en : Nat → Int32) (f w : Nat) (ts : List tm_T) : od_O → od_M → Prop := fun o M2 => ∃ (M' : od_M) (st' en' : Nat → Int32) (ρ' : od_Rm), od_eM [y + 5, y + 6] M M' ∧ M'.2.2 (y + 5) = some (od_ia 24 st') ∧ M'.2.2 (y + 6) = some (od_ia 24 en') ∧ M2 = md M' y b false ρ' ∧ od_Bd ρ' ∧ (∀ a, a ≤ 90 + i → ρ' a = ρ a) ∧ (∀ j, j < i → st' j = st j ∧ en' j = en j) ∧ ((hy_fd f w ts = none ∧ o = .inl (some (.int (nI 0)))) ∨ ∃ p, hy_fd f w ts = some p ∧ o = .inl (some (.int (nI (i + p.length)))) ∧ fo_p ρ' st' en' i ts p ∧ i + p.length ≤ 20)
section RH
variable {y : Nat} {b : rf_B}
theorem rc_thin {M : od_M} {p r f e : Nat} {fu : Bool} {ρ : od_Rm} {x : List tm_T × tm_T × List tm_T} (hp : p < 113) (hr : r < 113) (hne : p ≠ r) (hb : od_Bd ρ) (ht : tm_ok x.2.1) (hx : od_hl ρ p (tm_fl x.1 ++ (tm_t x.2.1 ++ tm_fl x.2.2))) (hf : f = (tm_fl x.1).length) (he : e = f + (tm_t x.2.1).length) : od_W 3 112 0 (od_ent 112 [.ref y, .int (nI p), .int (nI f), .int (nI e), .int (nI r)]) [] (md M y b fu ρ) (rf_s M y b fu ρ [r] True (fun ρ' => od_hl ρ' r (tm_fl (hy_th x)))) := by
  have e0 : od_ent 112 [.ref y, .int (nI p), .int (nI f), .int (nI e), .int (nI r)] = [some (.ref y), some (.int (nI p)), some (.int (nI f)), some (.int (nI e)), some (.int (nI r)), none] := rfl
  rw [e0, hy_th_fl]
  have h60 := hx.le hb
  have hsm := hx.2
  rw [tm_sm_app, tm_sm_app] at hsm
  rw [List.length_append, List.length_append] at h60
  have hdl := sp_dec_len x.2.1
  have htc := ht.2
  unfold tm_c at htc
  have lt : (tm_t x.2.1).length = x.2.1.1.length + 3 := tm_t_len _
  have hft : tm_ft ((tm_fl x.1 ++ sp_dec x.2.1) ++ tm_fl x.2.2) := by
    refine ⟨by rw [List.length_append, List.length_append]; omega, ?_⟩
    rw [tm_sm_app, tm_sm_app]
    exact ⟨⟨hsm.1, sp_dec_sm hsm.2.1⟩, hsm.2.2⟩
  have hcell : ∀ ρ1 : od_Rm, od_hl ρ1 p (tm_fl x.1 ++ (tm_t x.2.1 ++ tm_fl x.2.2)) → rf_fl b.2.2.2 ρ1 (64 * p + e - 1) = nI x.2.1.2 := by
    intro ρ1 h
    have h9 := h.tt.1
    unfold tm_t at h9
    rw [tm_at_cons, tm_at_app, tm_at_cons, tm_at_cons] at h9
    rw [show 64 * p + e - 1 = 64 * p + ((tm_fl x.1).length + 1 + x.2.1.1.length + 1) by omega, rf_fl_at ρ1 (by omega)]
    exact h9.2.2.2.1
  refine od_W.rn (pc' := 3) (ls' := [some (.ref _), some (.int _), some (.int _), some (.int _), some (.int _), none]) (st' := [.int _, .ref _]) 2 rfl ?_
  refine od_rV (as := [.int (nI r)]) rfl rfl rfl rfl (md_0) rfl (Nat.le_of_ble_eq_true rfl) (Nat.le_of_ble_eq_true rfl) (rt_clear hb hr) (Nat.le_of_ble_eq_true rfl) (fun o M1 hq => ?_)
  obtain ⟨rfl, fu1, ρ1, rfl, f1, b1, k1, p1⟩ := hq
  refine od_K.ret ?_
  have hx1 := hx.fr (f1 p (od_n1 hne))
  refine od_W.rn (pc' := 12) (ls' := [some (.ref _), some (.int _), some (.int _), some (.int _), some (.int _), none]) (st' := [.int _, .int _, .int _, .int _, .ref _]) 5 rfl ?_
  refine od_rV (as := [.int (nI r), .int (nI p), .int (nI 0), .int (nI f)]) rfl rfl rfl rfl (md_0) rfl (Nat.le_of_ble_eq_true rfl) (Nat.le_of_ble_eq_true rfl) (rt_appendPart (u := []) b1 hr hp hne hx1 rfl (by omega) p1) (Nat.le_of_ble_eq_true rfl) (fun o M1 hq => ?_)
  rw [List.nil_append] at hq
  obtain ⟨rfl, fu2, ρ2, rfl, f2, b2, k2, p2⟩ := hq
  refine od_K.ret ?_
  have hx2 := hx1.fr (f2 p (od_n1 hne))
  have k2' : fu2 = false ↔ fu = false := by
    rw [k2, k1]
    exact ⟨fun z => z.1.1, fun z => ⟨⟨z, trivial⟩, tm_ft_l (tm_ft_l hft)⟩⟩
  refine od_W.rn (pc' := 16) (ls' := [some (.ref _), some (.int _), some (.int _), some (.int _), some (.int _), none]) (st' := [.ref _]) 1 rfl ?_
  refine od_rG rfl (md_0) rfl rfl ?_
  refine od_W.rn (pc' := 27) (ls' := [some (.ref _), some (.int _), some (.int _), some (.int _), some (.int _), none]) (st' := [.int _, .ref _]) 7 rfl ?_
  refine od_rIL rfl (md_1) (rf_ix1 p _ (by omega)) (by omega) (by decide) ?_
  rw [hcell ρ2 hx2]
  refine od_W.rn (pc' := 33) (ls' := [some (.ref _), some (.int _), some (.int _), some (.int _), some (.int _), some (.int _)]) (st' := [.int _, .int _]) 3 rfl ?_
  have fin : ∀ (fu3 : Bool) (ρ3 : od_Rm), od_Bd ρ3 → (∀ q, q ∉ [r] → ρ3 q = ρ q) → (fu3 = false ↔ fu = false) → (fu3 = false → od_hl ρ3 r (tm_fl x.1 ++ sp_dec x.2.1)) → ∀ c, od_W 3 112 57 [some (.ref y), some (.int (nI p)), some (.int (nI f)), some (.int (nI e)), some (.int (nI r)), some (.int c)] [] (md M y b fu3 ρ3) (rf_s M y b fu ρ [r] True (fun ρ' => od_hl ρ' r ((tm_fl x.1 ++ sp_dec x.2.1) ++ tm_fl x.2.2))) := by
    intro fu3 ρ3 b3 fr3 k3 p3 c
    have hx3 := hx.fr (fr3 p (od_n1 hne))
    refine od_W.rn (pc' := 63) (ls' := [some (.ref _), some (.int _), some (.int _), some (.int _), some (.int _), some (.int _)]) (st' := [.ref _, .int _, .int _, .int _, .ref _]) 5 rfl ?_
    refine od_rG rfl (md_0) rfl rfl ?_
    refine od_W.rn (pc' := 67) (ls' := [some (.ref _), some (.int _), some (.int _), some (.int _), some (.int _), some (.int _)]) (st' := [.int _, .ref _, .int _, .int _, .int _, .ref _]) 1 rfl ?_
    refine od_rIL rfl (md_2) (rfl) (hp) (by decide) ?_
    rw [rf_row, hx3.n]
    refine od_rV (as := [.int (nI r), .int (nI p), .int (nI e), .int (nI (tm_fl x.1 ++ (tm_t x.2.1 ++ tm_fl x.2.2)).length)]) rfl rfl rfl rfl (md_0) rfl (Nat.le_of_ble_eq_true rfl) (Nat.le_of_ble_eq_true rfl) (rt_appendPart (u := tm_fl x.1 ++ tm_t x.2.1) (w := tm_fl x.2.2) (z := []) b3 hr hp hne (by rw [List.append_nil, List.append_assoc]; exact hx3) (by rw [List.length_append]; omega) (by rw [List.length_append, List.length_append]; omega) p3) (Nat.le_of_ble_eq_true rfl) (fun o M1 hq => ?_)
    obtain ⟨rfl, fu4, ρ4, rfl, f4, b4, k4, p4⟩ := hq
    refine od_K.ret ?_
    refine od_W.fin rfl ?_
    refine ⟨rfl, fu4, ρ4, rfl, fun q hq => (f4 q hq).trans (fr3 q hq), b4, ?_, p4⟩
    rw [k4, k3]
    exact ⟨fun z => ⟨z.1, trivial⟩, fun z => ⟨z.1, hft⟩⟩
  by_cases hc1 : 1 < x.2.1.2
  · have ed : tm_fl x.1 ++ sp_dec x.2.1 = (tm_fl x.1 ++ (1 :: (x.2.1.1 ++ [0]))) ++ [x.2.1.2 - 1] := by unfold sp_dec; rw [if_pos hc1]; simp [tm_t]
    have hft2 := tm_ft_l hft
    rw [ed] at hft2
    have hx3 : od_hl ρ2 p (tm_fl x.1 ++ ((1 :: (x.2.1.1 ++ [0])) ++ ([x.2.1.2] ++ tm_fl x.2.2))) := by
      rw [show tm_fl x.1 ++ ((1 :: (x.2.1.1 ++ [0])) ++ ([x.2.1.2] ++ tm_fl x.2.2)) = tm_fl x.1 ++ (tm_t x.2.1 ++ tm_fl x.2.2) by simp [tm_t]]
      exact hx2
    refine od_r2F rfl (of_decide_eq_true rfl) (decide_eq_false (nI_ge (a := 1) hc1 (by omega))) ?_
    refine od_W.rn (pc' := 44) (ls' := [some (.ref _), some (.int _), some (.int _), some (.int _), some (.int _), some (.int _)]) (st' := [.int _, .int _, .int _, .int _, .ref _]) 7 rfl ?_
    rw [show nI e - Int32.ofInt 1 = nI (e - 1) from nI_subI (a := 1) (by omega)]
    refine od_rV (as := [.int (nI r), .int (nI p), .int (nI f), .int (nI (e - 1))]) rfl rfl rfl rfl (md_0) rfl (Nat.le_of_ble_eq_true rfl) (Nat.le_of_ble_eq_true rfl) (rt_appendPart b2 hr hp hne hx3 hf (by simp; omega) p2) (Nat.le_of_ble_eq_true rfl) (fun o M1 hq => ?_)
    obtain ⟨rfl, fu3, ρ3, rfl, f3, b3, k3, p3⟩ := hq
    refine od_K.ret ?_
    refine od_W.rn (pc' := 54) (ls' := [some (.ref _), some (.int _), some (.int _), some (.int _), some (.int _), some (.int _)]) (st' := [.int _, .int _, .ref _]) 5 rfl ?_
    rw [show nI x.2.1.2 - Int32.ofInt 1 = nI (x.2.1.2 - 1) from nI_subI (a := 1) htc.1]
    refine od_rV (as := [.int (nI r), .int (nI (x.2.1.2 - 1))]) rfl rfl rfl rfl (md_0) rfl (Nat.le_of_ble_eq_true rfl) (Nat.le_of_ble_eq_true rfl) (rt_append b3 hr p3 (fun _ => ⟨rfl, by omega⟩)) (Nat.le_of_ble_eq_true rfl) (fun o M1 hq => ?_)
    obtain ⟨rfl, fu4, ρ4, rfl, f4, b4, k4, p4⟩ := hq
    refine od_K.ret ?_
    refine fin fu4 ρ4 b4 (fun q hq => (f4 q hq).trans ((f3 q hq).trans ((f2 q hq).trans (f1 q hq)))) ?_ (by rw [ed]; exact p4) _
    rw [k4, k3, k2']
    exact ⟨fun z => z.1.1, fun z => ⟨⟨z, tm_ft_l hft2⟩, hft2⟩⟩
  · have ed : sp_dec x.2.1 = [] := if_neg hc1
    refine od_r2T rfl rfl (decide_eq_true (nI_le (b := 1) (by omega) (by omega))) ?_
    exact fin fu2 ρ2 b2 (fun q hq => (f2 q hq).trans (f1 q hq)) k2' (by rw [ed, List.append_nil]; exact p2) _
theorem cl_fo_in {M : od_M} {ρ : od_Rm} {q d dp w : Nat} {a0 w0 : Int32} (hb : od_Bd ρ) (hq' : q < 113) (hw : w < 2 ^ 31) (hd : d = w % 8) {Q : od_O → od_M → Prop} : ∀ (todo done : List tm_T), tm_al todo → done.length ≤ d → od_hl ρ q (tm_fl done ++ tm_fl todo) → (∀ ii : Int32, od_W 3 120 70 [some (.ref y), some (.int a0), some (.int w0), some (.int (nI dp)), some (.int (nI w)), some (.int (nI 1)), some (.int (nI q)), some (.int (nI ((tm_fl done).length + (tm_fl (todo.take (d - done.length))).length))), some (.int ii)] [] (md M y b false ρ) Q) → od_W 3 120 32 [some (.ref y), some (.int a0), some (.int w0), some (.int (nI dp)), some (.int (nI w)), some (.int (nI 1)), some (.int (nI q)), some (.int (nI (tm_fl done).length)), some (.int (nI done.length))] [] (md M y b false ρ) Q := by
  intro todo
  induction todo with
  | nil =>
    intro done _ hdl hy hk
    have hl := hy.n
    have h60 := hy.le hb
    rw [tm_fl, List.append_nil] at hl h60
    rw [List.take_nil, show tm_fl ([] : List tm_T) = [] from rfl, List.length_nil, Nat.add_zero] at hk
    refine od_W.rn (pc' := 38) (ls' := [some (.ref _), some (.int _), some (.int _), some (.int _), some (.int _), some (.int _), some (.int _), some (.int _), some (.int _)]) (st' := [.int _, .int _, .int _]) 3 rfl ?_
    refine od_rDirem rfl (rfl) ((show (Int8.ofInt 8).toInt32 = nI 8 from rfl)) ((by omega)) (hw) ((by omega)) ?_
    rw [← hd]
    by_cases h : done.length < d
    · refine od_r2F rfl (of_decide_eq_true rfl) (decide_eq_false (nI_ge h (by omega))) ?_
      refine od_W.rn (pc' := 45) (ls' := [some (.ref _), some (.int _), some (.int _), some (.int _), some (.int _), some (.int _), some (.int _), some (.int _), some (.int _)]) (st' := [.ref _, .int _]) 2 rfl ?_
      refine od_rG rfl (md_0) rfl rfl ?_
      refine od_W.rn (pc' := 50) (ls' := [some (.ref _), some (.int _), some (.int _), some (.int _), some (.int _), some (.int _), some (.int _), some (.int _), some (.int _)]) (st' := [.int _, .ref _, .int _]) 1 rfl ?_
      refine od_rIL rfl (md_2) (rfl) (hq') (by decide) ?_
      rw [rf_row, hl]
      refine od_r2T rfl rfl (decide_eq_true (nI_le (Nat.le_refl _) (by omega))) ?_
      exact hk _
    · refine od_r2T rfl rfl (decide_eq_true (nI_le (by omega) (by omega))) ?_
      exact hk _
  | cons t todo ih =>
    intro done hal hdl hy hk
    have hl := hy.n
    have h60 := hy.le hb
    have hy2 : od_hl ρ q (tm_fl done ++ (tm_t t ++ tm_fl todo)) := hy
    rw [tm_fl, List.length_append, List.length_append, tm_t_len] at hl h60
    refine od_W.rn (pc' := 38) (ls' := [some (.ref _), some (.int _), some (.int _), some (.int _), some (.int _), some (.int _), some (.int _), some (.int _), some (.int _)]) (st' := [.int _, .int _, .int _]) 3 rfl ?_
    refine od_rDirem rfl (rfl) ((show (Int8.ofInt 8).toInt32 = nI 8 from rfl)) ((by omega)) (hw) ((by omega)) ?_
    rw [← hd]
    by_cases h : done.length < d
    · refine od_r2F rfl (of_decide_eq_true rfl) (decide_eq_false (nI_ge h (by omega))) ?_
      refine od_W.rn (pc' := 45) (ls' := [some (.ref _), some (.int _), some (.int _), some (.int _), some (.int _), some (.int _), some (.int _), some (.int _), some (.int _)]) (st' := [.ref _, .int _]) 2 rfl ?_
      refine od_rG rfl (md_0) rfl rfl ?_
      refine od_W.rn (pc' := 50) (ls' := [some (.ref _), some (.int _), some (.int _), some (.int _), some (.int _), some (.int _), some (.int _), some (.int _), some (.int _)]) (st' := [.int _, .ref _, .int _]) 1 rfl ?_
      refine od_rIL rfl (md_2) (rfl) (hq') (by decide) ?_
      rw [rf_row, hl]
      refine od_r2F rfl (of_decide_eq_true rfl) (decide_eq_false (nI_ge (by omega) (by omega))) ?_
      refine od_W.rn (pc' := 59) (ls' := [some (.ref _), some (.int _), some (.int _), some (.int _), some (.int _), some (.int _), some (.int _), some (.int _), some (.int _)]) (st' := [.int _, .int _, .ref _]) 3 rfl ?_
      refine od_rV (as := [.int (nI q), .int (nI (tm_fl done).length)]) rfl rfl rfl rfl (md_0) rfl (Nat.le_of_ble_eq_true rfl) (Nat.le_of_ble_eq_true rfl) (rt_behind hb hq' hal.1 hy2 rfl) (Nat.le_of_ble_eq_true rfl) (fun o M1 hq => ?_)
      obtain ⟨rfl, rfl⟩ := hq
      refine od_K.ret ?_
      refine od_W.rn (pc' := 32) (ls' := [some (.ref _), some (.int _), some (.int _), some (.int _), some (.int _), some (.int _), some (.int _), some (.int _), some (.int _)]) (st' := []) 3 rfl ?_
      rw [show (tm_fl done).length + (tm_t t).length = (tm_fl (done ++ [t])).length by rw [tm_fl_snoc, List.length_append], nI_inc done.length, show done.length + 1 = (done ++ [t]).length by simp]
      refine ih (done ++ [t]) hal.2 (by simp; omega) (by rw [tm_fl_snoc, List.append_assoc]; exact hy2) (fun ii => ?_)
      have e3 : d - done.length = (d - (done ++ [t]).length) + 1 := by simp; omega
      have hk2 := hk ii
      rw [e3, List.take_succ_cons, tm_fl, List.length_append] at hk2
      rw [tm_fl_snoc, List.length_append, Nat.add_assoc]
      exact hk2
    · have e3 : d - done.length = 0 := by omega
      rw [e3, List.take_zero, show tm_fl ([] : List tm_T) = [] from rfl, List.length_nil, Nat.add_zero] at hk
      refine od_r2T rfl rfl (decide_eq_true (nI_le (by omega) (by omega))) ?_
      exact hk _
set_option maxRecDepth 100000 in
theorem cl_fo {a0 w0 : Int32} : ∀ (f w i : Nat) (ts : List tm_T) (M : od_M) (st en : Nat → Int32) (ρ : od_Rm) (w6 w7 w8 : Option Value), (tm_fl ts).length < f → w < 2 ^ 31 → (tm_fl ts).length + 3 * i ≤ 60 → (0 < i → ts ≠ []) → tm_al ts → od_Bd ρ → od_hl ρ (90 + i) (tm_fl ts) → M.2.2 (y + 5) = some (od_ia 24 st) → M.2.2 (y + 6) = some (od_ia 24 en) → od_W 3 120 15 [some (.ref y), some (.int a0), some (.int w0), some (.int (nI i)), some (.int (nI w)), some (.int (nI 1)), w6, w7, w8] [] (md M y b false ρ) (rf_f M y b ρ i st en f w ts) := by
  intro f
  induction f with
  | zero => intro w i ts M st en ρ w6 w7 w8 h; omega
  | succ f ih =>
    intro w i ts M st en ρ w6 w7 w8 hf hw hi hi0 hal hb hy hst hen
    have h8 : w % 8 < 8 := Nat.mod_lt _ (by omega)
    have hr : 90 + i < 113 := by omega
    have hi20 : i ≤ 19 := by
      rcases Nat.eq_zero_or_pos i with z | z
      · omega
      · rcases ts with _ | ⟨t, ts⟩
        · exact absurd rfl (hi0 z)
        · rw [tm_fl, List.length_append, tm_t_len] at hi; omega
    refine od_W.rn (pc' := 17) (ls' := [some (.ref _), some (.int _), some (.int _), some (.int _), some (.int _), some (.int _), _, _, _]) (st' := [.int _]) 1 rfl ?_
    refine od_r1F rfl (of_decide_eq_true rfl) (rfl) ?_
    refine od_W.rn (pc' := 32) (ls' := [some (.ref _), some (.int _), some (.int _), some (.int _), some (.int _), some (.int _), some (.int _), some (.int _), some (.int _)]) (st' := []) 8 rfl ?_
    rw [show (Int8.ofInt 90).toInt32 + nI i = nI (90 + i) from nI_add 90 i]
    refine cl_fo_in (d := w % 8) hb hr hw rfl ts [] hal (by simp) hy (fun ii => ?_)
    rw [show (tm_fl ([] : List tm_T)).length + (tm_fl (ts.take (w % 8 - ([] : List tm_T).length))).length = (tm_fl (ts.take (w % 8))).length by simp [tm_fl]]
    have hl := hy.n
    have h60 := hy.le hb
    refine od_W.rn (pc' := 73) (ls' := [some (.ref _), some (.int _), some (.int _), some (.int _), some (.int _), some (.int _), some (.int _), some (.int _), some (.int _)]) (st' := [.ref _, .int _]) 2 rfl ?_
    refine od_rG rfl (md_0) rfl rfl ?_
    refine od_W.rn (pc' := 78) (ls' := [some (.ref _), some (.int _), some (.int _), some (.int _), some (.int _), some (.int _), some (.int _), some (.int _), some (.int _)]) (st' := [.int _, .ref _, .int _]) 1 rfl ?_
    refine od_rIL rfl (md_2) (rfl) (hr) (by decide) ?_
    rw [rf_row, hl]
    rcases hdr : ts.drop (w % 8) with _ | ⟨t, as⟩
    · have hge : ts.length ≤ w % 8 := List.drop_eq_nil_iff.mp hdr
      have hnone : hy_fd (f + 1) w ts = none := by unfold hy_fd; rw [hdr]
      rw [List.take_of_length_le hge]
      refine od_r2F rfl (of_decide_eq_true rfl) (decide_eq_false (nI_nlt (Nat.le_refl _) (by omega))) ?_
      refine od_W.rn (pc' := 83) (ls' := [some (.ref _), some (.int _), some (.int _), some (.int _), some (.int _), some (.int _), some (.int _), some (.int _), some (.int _)]) (st' := [.int _]) 1 rfl ?_
      refine od_W.fin rfl ?_
      exact ⟨M, st, en, ρ, od_eM.refl _ _, hst, hen, rfl, hb, fun _ _ => rfl, fun _ _ => ⟨rfl, rfl⟩, Or.inl ⟨hnone, rfl⟩⟩
    · obtain ⟨hts, hlt⟩ := hy_drop hdr
      have halx := hal
      rw [hts] at halx
      have ha2 := tm_al_app.mp halx
      have hW := ha2.2.1.1
      have efl : tm_fl ts = tm_fl (ts.take (w % 8)) ++ (tm_t t ++ tm_fl as) := by conv => lhs; rw [hts, tm_fl_app, tm_fl]
      have hlen : (tm_fl ts).length = (tm_fl (ts.take (w % 8))).length + (t.1.length + 3 + (tm_fl as).length) := by rw [efl, List.length_append, List.length_append, tm_t_len]
      have hy2 : od_hl ρ (90 + i) (tm_fl (ts.take (w % 8)) ++ (tm_t t ++ tm_fl as)) := by rw [← efl]; exact hy
      generalize hbs : ts.take (w % 8) = bs at *
      refine od_r2T rfl rfl (decide_eq_true (nI_lt (by omega) (by omega))) ?_
      refine od_W.rn (pc' := 89) (ls' := [some (.ref _), some (.int _), some (.int _), some (.int _), some (.int _), some (.int _), some (.int _), some (.int _), some (.int _)]) (st' := [.int _, .int _, .ref _]) 3 rfl ?_
      refine od_rV (as := [.int (nI (90 + i)), .int (nI (tm_fl bs).length)]) rfl rfl rfl rfl (md_0) rfl (Nat.le_of_ble_eq_true rfl) (Nat.le_of_ble_eq_true rfl) (rt_behind hb hr ha2.2.1 hy2 rfl) (Nat.le_of_ble_eq_true rfl) (fun o M1 hq => ?_)
      obtain ⟨rfl, rfl⟩ := hq
      refine od_K.ret ?_
      rw [tm_t_len]
      refine od_W.rn (pc' := 95) (ls' := [some (.ref _), some (.int _), some (.int _), some (.int _), some (.int _), some (.int _), some (.int _), some (.int _), some (.int _)]) (st' := [.ref _]) 2 rfl ?_
      refine od_rG rfl (md_0) rfl rfl ?_
      refine od_W.rn (pc' := 101) (ls' := [some (.ref _), some (.int _), some (.int _), some (.int _), some (.int _), some (.int _), some (.int _), some (.int _), some (.int _)]) (st' := [.int _, .int _, .ref _]) 2 rfl ?_
      refine od_rIS rfl ((md_o (by omega) (by omega) (by omega)).trans hst) (rfl) (by omega) (by decide) ?_
      rw [md_set (by omega) (by omega) (by omega)]
      have br5 := od_set_s M (y + 5) (od_ia 24 (upd st i (nI (tm_fl bs).length)))
      have br6 : (od_set M (y + 5) (od_ia 24 (upd st i (nI (tm_fl bs).length)))).2.2 (y + 6) = _ := (od_set_o (by omega)).trans hen
      have eM1 : od_eM [y + 5, y + 6] M (od_set M (y + 5) (od_ia 24 (upd st i (nI (tm_fl bs).length)))) := (od_eM.refl _ _).set (by simp)
      generalize od_set M (y + 5) (od_ia 24 (upd st i (nI (tm_fl bs).length))) = M1 at *
      refine od_W.rn (pc' := 103) (ls' := [some (.ref _), some (.int _), some (.int _), some (.int _), some (.int _), some (.int _), some (.int _), some (.int _), some (.int _)]) (st' := [.ref _]) 1 rfl ?_
      refine od_rG rfl (md_0) rfl rfl ?_
      refine od_W.rn (pc' := 109) (ls' := [some (.ref _), some (.int _), some (.int _), some (.int _), some (.int _), some (.int _), some (.int _), some (.int _), some (.int _)]) (st' := [.int _, .int _, .ref _]) 2 rfl ?_
      refine od_rIS rfl ((md_o (by omega) (by omega) (by omega)).trans br6) (rfl) (by omega) (by decide) ?_
      rw [md_set (by omega) (by omega) (by omega)]
      have cr5 : (od_set M1 (y + 6) (od_ia 24 (upd en i (nI ((tm_fl bs).length + (t.1.length + 3)))))).2.2 (y + 5) = _ := (od_set_o (by omega)).trans br5
      have cr6 := od_set_s M1 (y + 6) (od_ia 24 (upd en i (nI ((tm_fl bs).length + (t.1.length + 3)))))
      have eM2 := eM1.set (a := y + 6) (e := od_ia 24 (upd en i (nI ((tm_fl bs).length + (t.1.length + 3))))) (by simp)
      generalize od_set M1 (y + 6) (od_ia 24 (upd en i (nI ((tm_fl bs).length + (t.1.length + 3))))) = M2 at *
      refine od_W.rn (pc' := 124) (ls' := [some (.ref _), some (.int _), some (.int _), some (.int _), some (.int _), some (.int _), some (.int _), some (.int _), some (.int _)]) (st' := [.int _, .int _, .int _, .int _, .ref _]) 8 rfl ?_
      rw [nI_inc i, show (Int8.ofInt 90).toInt32 + nI (i + 1) = nI (90 + (i + 1)) from nI_add 90 (i + 1)]
      refine od_rV (as := [.int (nI (90 + i)), .int (nI (tm_fl bs).length), .int (nI ((tm_fl bs).length + (t.1.length + 3))), .int (nI (90 + (i + 1)))]) rfl rfl rfl rfl (md_0) rfl (Nat.le_of_ble_eq_true rfl) (Nat.le_of_ble_eq_true rfl) (rc_exponent hb (by omega) hr (by omega) (by omega) (by omega) (by omega) (fun _ => ⟨hy2, rfl, by rw [tm_t_len]⟩)) (Nat.le_of_ble_eq_true rfl) (fun o M1 hq => ?_)
      obtain ⟨rfl, fu1, ρ1, rfl, f1, b1, k1, p1⟩ := hq
      refine od_K.ret ?_
      have hf1 : fu1 = false := k1.mpr ⟨rfl, trivial⟩
      subst hf1
      have h91 := p1 rfl
      have fr1 : ∀ a, a ≤ 90 + i → ρ1 a = ρ a := fun a ha => f1 a (od_n1 (by omega))
      refine od_W.rn (pc' := 128) (ls' := [some (.ref _), some (.int _), some (.int _), some (.int _), some (.int _), some (.int _), some (.int _), some (.int _), some (.int _)]) (st' := [.ref _]) 1 rfl ?_
      refine od_rG rfl (md_0) rfl rfl ?_
      refine od_W.rn (pc' := 135) (ls' := [some (.ref _), some (.int _), some (.int _), some (.int _), some (.int _), some (.int _), some (.int _), some (.int _), some (.int _)]) (st' := [.int _, .ref _]) 3 rfl ?_
      refine od_rIL rfl (md_2) ((show (Int8.ofInt 90).toInt32 + nI (i + 1) = nI (90 + (i + 1)) from nI_add 90 (i + 1))) (by omega) (by decide) ?_
      rw [rf_row, h91.n]
      by_cases ht0 : t.1 = []
      · have hsome : hy_fd (f + 1) w ts = some [(bs, t, as)] := by unfold hy_fd; rw [hdr]; dsimp only; rw [if_pos ht0, hbs]
        refine od_r1T rfl rfl (decide_eq_true (by rw [ht0]; exact Int32.le_refl _)) ?_
        refine od_W.rn (pc' := 150) (ls' := [some (.ref _), some (.int _), some (.int _), some (.int _), some (.int _), some (.int _), some (.int _), some (.int _), some (.int _)]) (st' := [.int _, .int _]) 4 rfl ?_
        refine od_rDidiv rfl (rfl) ((show (Int8.ofInt 8).toInt32 = nI 8 from rfl)) ((by omega)) (hw) ((by omega)) ?_
        refine od_W.rn (pc' := 15) (ls' := [some (.ref _), some (.int _), some (.int _), some (.int _), some (.int _), some (.int _), some (.int _), some (.int _), some (.int _)]) (st' := []) 2 rfl ?_
        refine od_W.rn (pc' := 17) (ls' := [some (.ref _), some (.int _), some (.int _), some (.int _), some (.int _), some (.int _), some (.int _), some (.int _), some (.int _)]) (st' := [.int _]) 1 rfl ?_
        refine od_r1T rfl rfl (rfl) ?_
        refine od_W.rn (pc' := 157) (ls' := [some (.ref _), some (.int _), some (.int _), some (.int _), some (.int _), some (.int _), some (.int _), some (.int _), some (.int _)]) (st' := [.int _]) 1 rfl ?_
        refine od_W.fin rfl ?_
        refine ⟨M2, _, _, ρ1, eM2, cr5, cr6, rfl, b1, fr1, fun j hj => ⟨upd_o (by omega), upd_o (by omega)⟩, Or.inr ⟨_, hsome, rfl, ?_, by simp; omega⟩⟩
        exact ⟨hts, hy.fr (fr1 _ (Nat.le_refl _)), upd_s _ _ _, by rw [upd_s, tm_t_len], ht0⟩
      · have hpos : 0 < t.1.length := List.length_pos_iff.mpr ht0
        have hrec : hy_fd (f + 1) w ts = (hy_fd f (w / 8) (tm_tp t.1)).map (fun p => (bs, t, as) :: p) := by conv => lhs; unfold hy_fd; rw [hdr]; dsimp only; rw [if_neg ht0, hbs]
        refine od_r1F rfl (of_decide_eq_true rfl) (decide_eq_false (nI_ge (a := 0) hpos (by omega))) ?_
        refine od_W.rn (pc' := 150) (ls' := [some (.ref _), some (.int _), some (.int _), some (.int _), some (.int _), some (.int _), some (.int _), some (.int _), some (.int _)]) (st' := [.int _, .int _]) 5 rfl ?_
        refine od_rDidiv rfl (rfl) ((show (Int8.ofInt 8).toInt32 = nI 8 from rfl)) ((by omega)) (hw) ((by omega)) ?_
        refine od_W.rn (pc' := 15) (ls' := [some (.ref _), some (.int _), some (.int _), some (.int _), some (.int _), some (.int _), some (.int _), some (.int _), some (.int _)]) (st' := []) 2 rfl ?_
        refine (ih (w / 8) (i + 1) (tm_tp t.1) M2 _ _ ρ1 _ _ _ (by rw [tm_fl_tp hW]; omega) (by omega) (by rw [tm_fl_tp hW]; omega) (fun _ z => ht0 ((tm_fl_tp hW).symm.trans (by rw [z]; rfl))) (tm_al_tp hW) b1 (by rw [tm_fl_tp hW]; exact h91) cr5 cr6).mono fun o M4 hh => ?_
        obtain ⟨M', st', en', ρ', q1, q2, q3, q4, q5, q6, q7, q8⟩ := hh
        refine ⟨M', st', en', ρ', eM2.tr q1, q2, q3, q4, q5, fun a ha => (q6 a (by omega)).trans (fr1 a ha), fun j hj => ?_, ?_⟩
        · have := q7 j (by omega)
          rw [upd_o (by omega), upd_o (by omega)] at this
          exact this
        · rcases q8 with ⟨z1, z2⟩ | ⟨p, z1, z2, z3, z4⟩
          · exact Or.inl ⟨by rw [hrec, z1]; rfl, z2⟩
          · refine Or.inr ⟨(bs, t, as) :: p, by rw [hrec, z1]; rfl, by rw [z2, show i + 1 + p.length = i + ((bs, t, as) :: p).length by simp; omega], ?_, by simp; omega⟩
            obtain ⟨j1, j2⟩ := q7 i (by omega)
            rw [upd_s] at j1 j2
            rcases p with _ | ⟨p1', pr⟩
            · exact z3.elim
            · exact ⟨hts, (hy.fr (fr1 _ (Nat.le_refl _))).fr (q6 _ (by omega)), j1, by rw [j2, tm_t_len], ht0, z3⟩
theorem rt_follow {M : od_M} {p w : Nat} {ρ : od_Rm} {ts : List tm_T} {st en : Nat → Int32} (hp : p < 90) (hw : w < 2 ^ 31) (hb : od_Bd ρ) (hal : tm_al ts) (hx : od_hl ρ p (tm_fl ts)) (hst : M.2.2 (y + 5) = some (od_ia 24 st)) (hen : M.2.2 (y + 6) = some (od_ia 24 en)) : od_W 3 120 0 (od_ent 120 [.ref y, .int (nI p), .int (nI w)]) [] (md M y b false ρ) (fun o M2 => ∃ ρ1, (∀ a, a ∉ [90] → ρ1 a = ρ a) ∧ rf_f M y b ρ1 0 st en 61 w ts o M2) := by
  have e0 : od_ent 120 [.ref y, .int (nI p), .int (nI w)] = [some (.ref y), some (.int (nI p)), some (.int (nI w)), none, none, none, none, none, none] := rfl
  rw [e0]
  have h60 := hx.le hb
  refine od_W.rn (pc' := 4) (ls' := [some (.ref _), some (.int _), some (.int _), none, none, none, none, none, none]) (st' := [.int _, .int _, .ref _]) 3 rfl ?_
  refine od_rV (as := [.int (nI p), .int (nI 90)]) rfl rfl rfl rfl (md_0) rfl (Nat.le_of_ble_eq_true rfl) (Nat.le_of_ble_eq_true rfl) (ex_copy hb (by omega) (by omega) (by omega) hx) (Nat.le_of_ble_eq_true rfl) (fun o M1 hq => ?_)
  obtain ⟨rfl, ρ1, rfl, f1, b1, p1⟩ := hq
  refine od_K.ret ?_
  refine od_W.rn (pc' := 15) (ls' := [some (.ref _), some (.int _), some (.int _), some (.int _), some (.int _), some (.int _), none, none, none]) (st' := []) 6 rfl ?_
  refine (cl_fo 61 w 0 ts M st en ρ1 none none none (by omega) hw (by omega) (fun z => absurd z (by omega)) hal b1 p1 hst hen).mono fun o M2 h => ⟨ρ1, f1, h⟩
end RH
