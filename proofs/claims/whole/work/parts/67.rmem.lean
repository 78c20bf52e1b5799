/-! The reference's members. -/
abbrev me_P : Type := List (List tm_T × tm_T)
def me_v (n : Nat) : me_P → List Nat
  | [] => []
  | [p] => tm_fl p.1 ++ (sp_dec p.2 ++ sp_bt n p.2.1)
  | p :: q :: r => tm_fl p.1 ++ (sp_dec p.2 ++ tm_t (me_v n (q :: r), 1))
/-- the arrays tell the levels, from level i on, at place u -/
def me_p (bg st en : Nat → Int32) : Nat → Nat → List tm_T → me_P → Prop
  | _, _, _, [] => False
  | u, i, ts, [p] => ts = p.1 ++ [p.2] ∧ bg i = nI u ∧ st i = nI (u + (tm_fl p.1).length) ∧ en i = nI (u + (tm_fl p.1).length + (tm_t p.2).length) ∧ tm_k (tm_tp p.2.1) = 1
  | u, i, ts, p :: q :: r => ts = p.1 ++ [p.2] ∧ bg i = nI u ∧ st i = nI (u + (tm_fl p.1).length) ∧ en i = nI (u + (tm_fl p.1).length + (tm_t p.2).length) ∧ tm_k (tm_tp p.2.1) = 2 ∧ me_p bg st en (u + (tm_fl p.1).length + 1) (i + 1) (tm_tp p.2.1) (q :: r)
theorem me_v_eq {bg st en : Nat → Int32} {n : Nat} : ∀ (p : me_P) (u i k : Nat) (ts : List tm_T), tm_al ts → (tm_fl ts).length ≤ k → me_p bg st en u i ts p → me_v n p = sp_mb n k ts := by
  intro p
  induction p with
  | nil => intro u i k ts _ _ h; exact h.elim
  | cons p r ih =>
    intro u i k ts hal hk h
    cases r with
    | nil =>
      obtain ⟨h1, _, _, _, h5⟩ := h
      subst h1
      rw [tm_fl_snoc, List.length_append, tm_t_len] at hk
      obtain ⟨k, rfl⟩ : ∃ k', k = k' + 1 := ⟨k - 1, by omega⟩
      rw [sp_mb_snoc, if_pos h5]
      rfl
    | cons q r =>
      obtain ⟨h1, _, _, _, h5, h6⟩ := h
      subst h1
      have hW := (tm_al_app.mp hal).2.1.1
      rw [tm_fl_snoc, List.length_append, tm_t_len] at hk
      obtain ⟨k, rfl⟩ : ∃ k', k = k' + 1 := ⟨k - 1, by omega⟩
      rw [sp_mb_snoc, if_neg (by omega), ← ih _ _ k _ (tm_al_tp hW) (by rw [tm_fl_tp hW]; omega) h6]
      rfl
theorem me_p.low {bg st en bg' st' en' : Nat → Int32} : ∀ {p : me_P} {u i : Nat} {ts : List tm_T}, me_p bg st en u i ts p → (∀ j, i ≤ j → bg' j = bg j ∧ st' j = st j ∧ en' j = en j) → me_p bg' st' en' u i ts p := by
  intro p
  induction p with
  | nil => intro u i ts h; exact h.elim
  | cons p r ih =>
    intro u i ts h hj
    obtain ⟨j1, j2, j3⟩ := hj i (Nat.le_refl _)
    cases r with
    | nil =>
      obtain ⟨h1, h2, h3, h4, h5⟩ := h
      exact ⟨h1, j1.trans h2, j2.trans h3, j3.trans h4, h5⟩
    | cons q r =>
      obtain ⟨h1, h2, h3, h4, h5, h6⟩ := h
      exact ⟨h1, j1.trans h2, j2.trans h3, j3.trans h4, h5, ih h6 (fun j hj2 => hj j (by omega))⟩
section RME
variable {y : Nat} {b : rf_B}
theorem md_set {M : od_M} {fu : Bool} {ρ : od_Rm} {a : Nat} {e : od_E} (h0 : a ≠ y) (h1 : a ≠ y + 1) (h2 : a ≠ y + 2) : od_set (md M y b fu ρ) a e = md (od_set M a e) y b fu ρ := by
  refine od_Meq rfl rfl (fun c => ?_)
  show va_up (md M y b fu ρ).2.2 a (some e) c = (if c = y then _ else if c = y + 1 then _ else if c = y + 2 then _ else va_up M.2.2 a (some e) c)
  by_cases hc : c = a
  · subst hc
    rw [va_up_self, if_neg h0, if_neg h1, if_neg h2, va_up_self]
  · rw [va_up_ne _ _ hc, va_up_ne _ _ hc]
    rfl
theorem cl_mo_last {M : od_M} {fu : Bool} {ρ : od_Rm} {p dp m : Nat} {n0 r0 f0 : Int32} {w10 w11 : Option Value} (hb : od_Bd ρ) (hp : p < 113) {u v : List Nat} {Q : od_O → od_M → Prop} : ∀ (todo done : List tm_T) (at0 : Int32), tm_al todo → od_hl ρ p (u ++ (tm_fl done ++ (tm_fl todo ++ v))) → m = u.length + (tm_fl done).length + (tm_fl todo).length → od_W 6 111 53 [some (.ref y), some (.int (nI p)), some (.int n0), some (.int r0), some (.int (nI dp)), some (.int f0), some (.int (nI m)), some (.int (nI 1)), some (.int (nI m)), some (.int (if todo = [] then at0 else nI (u.length + (tm_fl done).length + (tm_fl todo.dropLast).length))), w10, w11] [] (md M y b fu ρ) Q → od_W 6 111 30 [some (.ref y), some (.int (nI p)), some (.int n0), some (.int r0), some (.int (nI dp)), some (.int f0), some (.int (nI m)), some (.int (nI 1)), some (.int (nI (u.length + (tm_fl done).length))), some (.int at0), w10, w11] [] (md M y b fu ρ) Q := by
  intro todo
  induction todo with
  | nil =>
    intro done at0 _ hy hm hk
    have h60 := hy.le hb
    rw [List.length_append, List.length_append, List.length_append] at h60
    rw [show (tm_fl ([] : List tm_T)).length = 0 from rfl, Nat.add_zero] at hm
    subst hm
    rw [if_pos rfl] at hk
    refine od_W.rn (pc' := 34) (ls' := [some (.ref _), some (.int _), some (.int _), some (.int _), some (.int _), some (.int _), some (.int _), some (.int _), some (.int _), some (.int _), _, _]) (st' := [.int _, .int _]) 2 rfl ?_
    refine od_r2T rfl rfl (decide_eq_true (nI_le (Nat.le_refl _) (by omega))) ?_
    exact hk
  | cons t todo ih =>
    intro done at0 hal hy hm hk
    have h60 := hy.le hb
    have hy2 : od_hl ρ p ((u ++ tm_fl done) ++ (tm_t t ++ (tm_fl todo ++ v))) := by rw [tm_fl] at hy; rw [List.append_assoc, ← List.append_assoc (tm_t t)]; exact hy
    rw [tm_fl, List.length_append, List.length_append, List.length_append, List.length_append, tm_t_len] at h60
    rw [tm_fl, List.length_append, tm_t_len] at hm
    rw [if_neg (by simp)] at hk
    refine od_W.rn (pc' := 34) (ls' := [some (.ref _), some (.int _), some (.int _), some (.int _), some (.int _), some (.int _), some (.int _), some (.int _), some (.int _), some (.int _), _, _]) (st' := [.int _, .int _]) 2 rfl ?_
    refine od_r2F rfl (of_decide_eq_true rfl) (decide_eq_false (nI_ge (by omega) (by omega))) ?_
    refine od_W.rn (pc' := 45) (ls' := [some (.ref _), some (.int _), some (.int _), some (.int _), some (.int _), some (.int _), some (.int _), some (.int _), some (.int _), some (.int _), _, _]) (st' := [.int _, .int _, .ref _]) 5 rfl ?_
    refine od_rV (as := [.int (nI p), .int (nI (u.length + (tm_fl done).length))]) rfl rfl rfl rfl (md_0) rfl (Nat.le_of_ble_eq_true rfl) (Nat.le_of_ble_eq_true rfl) (rt_behind hb hp hal.1 hy2 (by rw [List.length_append])) (Nat.le_of_ble_eq_true rfl) (fun o M1 hq => ?_)
    obtain ⟨rfl, rfl⟩ := hq
    refine od_K.ret ?_
    refine od_W.rn (pc' := 30) (ls' := [some (.ref _), some (.int _), some (.int _), some (.int _), some (.int _), some (.int _), some (.int _), some (.int _), some (.int _), some (.int _), _, _]) (st' := []) 2 rfl ?_
    rw [show u.length + (tm_fl done).length + (tm_t t).length = u.length + (tm_fl (done ++ [t])).length by rw [tm_fl_snoc, List.length_append]; omega]
    refine ih (done ++ [t]) _ hal.2 (by rw [tm_fl_snoc]; simpa [List.append_assoc] using hy2) (by rw [tm_fl_snoc, List.length_append, tm_t_len]; omega) ?_
    cases todo with
    | nil =>
      rw [if_pos rfl]
      have : u.length + (tm_fl done).length + (tm_fl ([t] : List tm_T).dropLast).length = u.length + (tm_fl done).length := by simp [tm_fl]
      rw [this] at hk
      exact hk
    | cons t2 todo =>
      rw [if_neg (by simp)]
      have e9 : (t :: t2 :: todo).dropLast = t :: (t2 :: todo).dropLast := List.dropLast_cons_of_ne_nil (by simp)
      have : u.length + (tm_fl done).length + (tm_fl (t :: t2 :: todo).dropLast).length = u.length + (tm_fl (done ++ [t])).length + (tm_fl (t2 :: todo).dropLast).length := by
        rw [e9, tm_fl_snoc, List.length_append]
        conv => lhs; rw [tm_fl]
        rw [List.length_append]
        omega
      rw [this] at hk
      exact hk
def me_ar (M : od_M) (y : Nat) (bg st en : Nat → Int32) : Prop := M.2.2 (y + 4) = some (od_ia 24 bg) ∧ M.2.2 (y + 5) = some (od_ia 24 st) ∧ M.2.2 (y + 6) = some (od_ia 24 en)
set_option maxRecDepth 100000 in
theorem cl_mo_1 {p : Nat} {n0 r0 : Int32} (hp : p < 113) (n85 : p ≠ 85) {Q : od_O → od_M → Prop} {ρ0 : od_Rm} : ∀ (k : Nat) (us : List tm_T) (t : tm_T) (u v : List Nat) (i : Nat) (M : od_M) (bg st en : Nat → Int32) (ρ : od_Rm) (f0 m : Nat) (w8 w9 w10 w11 : Option Value), tm_al us → tm_ok t → t.1 ≠ [] → (tm_fl us).length + (tm_t t).length ≤ k → i ≤ u.length → 2 * i ≤ v.length → od_Bd ρ → (∀ a, a ∉ [85] → ρ a = ρ0 a) → od_hl ρ p (u ++ (tm_fl (us ++ [t]) ++ v)) → f0 = u.length → m = f0 + (tm_fl (us ++ [t])).length → me_ar M y bg st en → (∀ (M' : od_M) (bg' st' en' : Nat → Int32) (ρ' : od_Rm) (path : me_P) (f1 f2 f3 f4 : Int32) (w10 w11 : Option Value), od_eM [y + 4, y + 5, y + 6] M M' → me_ar M' y bg' st' en' → (∀ j, j < i → bg' j = bg j ∧ st' j = st j ∧ en' j = en j) → od_Bd ρ' → (∀ a, a ∉ [85] → ρ' a = ρ0 a) → me_p bg' st' en' u.length i (us ++ [t]) path → i + path.length ≤ 20 → od_W 6 111 126 [some (.ref y), some (.int (nI p)), some (.int n0), some (.int r0), some (.int (nI (i + path.length))), some (.int f1), some (.int f2), some (.int (nI 0)), some (.int f3), some (.int f4), w10, w11] [] (md M' y b false ρ') Q) → od_W 6 111 17 [some (.ref y), some (.int (nI p)), some (.int n0), some (.int r0), some (.int (nI i)), some (.int (nI f0)), some (.int (nI m)), some (.int (nI 1)), w8, w9, w10, w11] [] (md M y b false ρ) Q := by
  intro k
  induction k with
  | zero => intro us t u v i M bg st en ρ f0 m w8 w9 w10 w11 _ _ _ h; rw [tm_t_len] at h; omega
  | succ k ih =>
    intro us t u v i M bg st en ρ f0 m w8 w9 w10 w11 hal ht ht0 hk hiu hiv hb g hy hf0 hm har hK
    subst hf0
    obtain ⟨ar4, ar5, ar6⟩ := har
    have h60 := hy.le hb
    have hals : tm_al (us ++ [t]) := tm_al_app.mpr ⟨hal, ht, trivial⟩
    have hlen : (tm_fl (us ++ [t])).length = (tm_fl us).length + (tm_t t).length := by rw [tm_fl_snoc, List.length_append]
    rw [List.length_append, List.length_append, hlen, tm_t_len] at h60
    rw [tm_t_len] at hk hlen
    rw [hlen] at hm
    have hy2 : od_hl ρ p ((u ++ tm_fl us) ++ (tm_t t ++ v)) := by rw [tm_fl_snoc] at hy; simpa [List.append_assoc] using hy
    have hW := ht.1
    have hpos : 0 < t.1.length := List.length_pos_iff.mpr ht0
    refine od_W.rn (pc' := 19) (ls' := [some (.ref _), some (.int _), some (.int _), some (.int _), some (.int _), some (.int _), some (.int _), some (.int _), _, _, _, _]) (st' := [.int _]) 1 rfl ?_
    refine od_r1F rfl (of_decide_eq_true rfl) (rfl) ?_
    refine od_W.rn (pc' := 30) (ls' := [some (.ref _), some (.int _), some (.int _), some (.int _), some (.int _), some (.int _), some (.int _), some (.int _), some (.int _), some (.int _), _, _]) (st' := []) 4 rfl ?_
    refine cl_mo_last hb hp (us ++ [t]) [] _ hals hy (by rw [hm, hlen]; simp [tm_fl]) ?_
    rw [if_neg (by simp), List.dropLast_concat, show u.length + (tm_fl ([] : List tm_T)).length + (tm_fl us).length = u.length + (tm_fl us).length by simp [tm_fl]]
    refine od_W.rn (pc' := 54) (ls' := [some (.ref _), some (.int _), some (.int _), some (.int _), some (.int _), some (.int _), some (.int _), some (.int _), some (.int _), some (.int _), _, _]) (st' := [.ref _]) 1 rfl ?_
    refine od_rG rfl (md_0) rfl rfl ?_
    refine od_W.rn (pc' := 61) (ls' := [some (.ref _), some (.int _), some (.int _), some (.int _), some (.int _), some (.int _), some (.int _), some (.int _), some (.int _), some (.int _), _, _]) (st' := [.int _, .int _, .ref _]) 2 rfl ?_
    refine od_rIS rfl ((md_o (by omega) (by omega) (by omega)).trans ar4) (rfl) (by omega) (by decide) ?_
    rw [md_set (by omega) (by omega) (by omega)]
    have br4 := od_set_s M (y + 4) (od_ia 24 (upd bg i (nI u.length)))
    have br5 : (od_set M (y + 4) (od_ia 24 (upd bg i (nI u.length)))).2.2 (y + 5) = _ := (od_set_o (by omega)).trans ar5
    have br6 : (od_set M (y + 4) (od_ia 24 (upd bg i (nI u.length)))).2.2 (y + 6) = _ := (od_set_o (by omega)).trans ar6
    have eM1 : od_eM [y + 4, y + 5, y + 6] M (od_set M (y + 4) (od_ia 24 (upd bg i (nI u.length)))) := (od_eM.refl _ _).set (by simp)
    generalize od_set M (y + 4) (od_ia 24 (upd bg i (nI u.length))) = M1 at *
    refine od_W.rn (pc' := 63) (ls' := [some (.ref _), some (.int _), some (.int _), some (.int _), some (.int _), some (.int _), some (.int _), some (.int _), some (.int _), some (.int _), _, _]) (st' := [.ref _]) 1 rfl ?_
    refine od_rG rfl (md_0) rfl rfl ?_
    refine od_W.rn (pc' := 70) (ls' := [some (.ref _), some (.int _), some (.int _), some (.int _), some (.int _), some (.int _), some (.int _), some (.int _), some (.int _), some (.int _), _, _]) (st' := [.int _, .int _, .ref _]) 2 rfl ?_
    refine od_rIS rfl ((md_o (by omega) (by omega) (by omega)).trans br5) (rfl) (by omega) (by decide) ?_
    rw [md_set (by omega) (by omega) (by omega)]
    have cr4 : (od_set M1 (y + 5) (od_ia 24 (upd st i (nI (u.length + (tm_fl us).length))))).2.2 (y + 4) = _ := (od_set_o (by omega)).trans br4
    have cr5 := od_set_s M1 (y + 5) (od_ia 24 (upd st i (nI (u.length + (tm_fl us).length))))
    have cr6 : (od_set M1 (y + 5) (od_ia 24 (upd st i (nI (u.length + (tm_fl us).length))))).2.2 (y + 6) = _ := (od_set_o (by omega)).trans br6
    have eM2 := eM1.set (a := y + 5) (e := od_ia 24 (upd st i (nI (u.length + (tm_fl us).length)))) (by simp)
    generalize od_set M1 (y + 5) (od_ia 24 (upd st i (nI (u.length + (tm_fl us).length)))) = M2 at *
    refine od_W.rn (pc' := 72) (ls' := [some (.ref _), some (.int _), some (.int _), some (.int _), some (.int _), some (.int _), some (.int _), some (.int _), some (.int _), some (.int _), _, _]) (st' := [.ref _]) 1 rfl ?_
    refine od_rG rfl (md_0) rfl rfl ?_
    refine od_W.rn (pc' := 79) (ls' := [some (.ref _), some (.int _), some (.int _), some (.int _), some (.int _), some (.int _), some (.int _), some (.int _), some (.int _), some (.int _), _, _]) (st' := [.int _, .int _, .ref _]) 2 rfl ?_
    refine od_rIS rfl ((md_o (by omega) (by omega) (by omega)).trans cr6) (rfl) (by omega) (by decide) ?_
    rw [md_set (by omega) (by omega) (by omega)]
    have dr4 : (od_set M2 (y + 6) (od_ia 24 (upd en i (nI m)))).2.2 (y + 4) = _ := (od_set_o (by omega)).trans cr4
    have dr5 : (od_set M2 (y + 6) (od_ia 24 (upd en i (nI m)))).2.2 (y + 5) = _ := (od_set_o (by omega)).trans cr5
    have dr6 := od_set_s M2 (y + 6) (od_ia 24 (upd en i (nI m)))
    have eM3 := eM2.set (a := y + 6) (e := od_ia 24 (upd en i (nI m))) (by simp)
    generalize od_set M2 (y + 6) (od_ia 24 (upd en i (nI m))) = M3 at *
    refine od_W.rn (pc' := 91) (ls' := [some (.ref _), some (.int _), some (.int _), some (.int _), some (.int _), some (.int _), some (.int _), some (.int _), some (.int _), some (.int _), _, _]) (st' := [.int _, .int _, .int _, .int _, .ref _]) 6 rfl ?_
    rw [nI_inc i]
    refine od_rV (as := [.int (nI p), .int (nI (u.length + (tm_fl us).length)), .int (nI m), .int (nI 85)]) rfl rfl rfl rfl (md_0) rfl (Nat.le_of_ble_eq_true rfl) (Nat.le_of_ble_eq_true rfl) (rc_exponent hb (by omega) hp n85 (by omega) (by omega) (by omega) (fun _ => ⟨hy2, by rw [List.length_append], by rw [tm_t_len]; omega⟩)) (Nat.le_of_ble_eq_true rfl) (fun o M1 hq => ?_)
    obtain ⟨rfl, fu1, ρ1, rfl, f1, b1, k1, p1⟩ := hq
    refine od_K.ret ?_
    have hf1 : fu1 = false := k1.mpr ⟨rfl, trivial⟩
    subst hf1
    have h85 := p1 rfl
    have h85' : od_hl ρ1 85 (tm_fl (tm_tp t.1)) := by rw [tm_fl_tp hW]; exact h85
    have g1 : ∀ a, a ∉ [85] → ρ1 a = ρ0 a := fun a ha => (f1 a ha).trans (g a ha)
    refine od_W.rn (pc' := 97) (ls' := [some (.ref _), some (.int _), some (.int _), some (.int _), some (.int _), some (.int _), some (.int _), some (.int _), some (.int _), some (.int _), _, _]) (st' := [.int _, .ref _]) 2 rfl ?_
    refine od_rV (as := [.int (nI 85)]) rfl rfl rfl rfl (md_0) rfl (Nat.le_of_ble_eq_true rfl) (Nat.le_of_ble_eq_true rfl) (rt_sort b1 (by omega) (tm_al_tp hW) h85') (Nat.le_of_ble_eq_true rfl) (fun o M1 hq => ?_)
    obtain ⟨rfl, rfl⟩ := hq
    refine od_K.ret ?_
    refine od_W.rn (pc' := 101) (ls' := [some (.ref _), some (.int _), some (.int _), some (.int _), some (.int _), some (.int _), some (.int _), some (.int _), some (.int _), some (.int _), _, _]) (st' := [.int _, .int _]) 1 rfl ?_
    have eat : nI (u.length + (tm_fl us).length) + Int32.ofInt 1 = nI (u.length + (tm_fl us).length + 1) := nI_inc _
    have eun : nI m - Int32.ofInt 2 = nI (m - 2) := nI_subI (a := 2) (by omega)
    by_cases hk2 : tm_k (tm_tp t.1) = 2
    · rw [hk2]
      refine od_r2F rfl (of_decide_eq_true rfl) (rfl) ?_
      refine od_W.rn (pc' := 17) (ls' := [some (.ref _), some (.int _), some (.int _), some (.int _), some (.int _), some (.int _), some (.int _), some (.int _), some (.int _), some (.int _), _, _]) (st' := []) 12 rfl ?_
      rw [eat, eun]
      obtain ⟨es, s, hes, hs0⟩ := tm_k_snoc2 hk2
      have hal2 := tm_al_tp hW
      rw [hes] at hal2
      have ha3 := tm_al_app.mp hal2
      have hts : tm_fl (es ++ [s]) = t.1 := by rw [← hes, tm_fl_tp hW]
      have hu2 : (u ++ tm_fl us ++ [1]).length = u.length + (tm_fl us).length + 1 := by rw [List.length_append, List.length_append]; rfl
      have hl2 : (tm_fl es).length + (tm_t s).length = t.1.length := by rw [← hts, tm_fl_snoc, List.length_append]
      refine ih es s (u ++ tm_fl us ++ [1]) ([0, t.2] ++ v) (i + 1) M3 _ _ _ ρ1 _ _ _ _ _ _ ha3.1 ha3.2.1 hs0 (by omega) (by rw [hu2]; omega) (by simp; omega) b1 g1 ?_ hu2.symm (by rw [hts]; omega) ⟨dr4, dr5, dr6⟩ ?_
      · rw [hts, show (u ++ tm_fl us ++ [1]) ++ (t.1 ++ ([0, t.2] ++ v)) = (u ++ tm_fl us) ++ (tm_t t ++ v) by simp [tm_t]]
        exact hy2.fr (f1 p (od_n1 n85))
      · intro M' bg' st' en' ρ' path x1 x2 x3 x4 w10 w11 c1 c2 c3 c4 c5 c6 c7
        obtain ⟨j1, j2, j3⟩ := c3 i (by omega)
        rw [upd_s] at j1 j2 j3
        rw [show i + 1 + path.length = i + ((us, t) :: path).length by simp; omega]
        refine hK M' bg' st' en' ρ' ((us, t) :: path) x1 x2 x3 x4 w10 w11 (eM3.tr c1) c2 (fun j hj => ?_) c4 c5 ?_ (by simp; omega)
        · have := c3 j (by omega)
          rw [upd_o (by omega), upd_o (by omega), upd_o (by omega)] at this
          exact this
        · rcases path with _ | ⟨q1, pr⟩
          · exact c6.elim
          · refine ⟨rfl, j1, j2, ?_, hk2, ?_⟩
            · rw [j3, tm_t_len]; congr 1; dsimp only; omega
            · dsimp only
              rw [hes, ← hu2]
              exact c6
    · have hk1 : tm_k (tm_tp t.1) = 1 := by
        rcases tm_k_le (tm_tp t.1) with z | z | z
        · exact absurd ((tm_fl_tp hW).symm.trans (by rw [tm_k_0 z]; rfl)) ht0
        · exact z
        · exact absurd z hk2
      rw [hk1]
      refine od_r2T rfl rfl (rfl) ?_
      refine od_W.rn (pc' := 17) (ls' := [some (.ref _), some (.int _), some (.int _), some (.int _), some (.int _), some (.int _), some (.int _), some (.int _), some (.int _), some (.int _), _, _]) (st' := []) 11 rfl ?_
      refine od_W.rn (pc' := 19) (ls' := [some (.ref _), some (.int _), some (.int _), some (.int _), some (.int _), some (.int _), some (.int _), some (.int _), some (.int _), some (.int _), _, _]) (st' := [.int _]) 1 rfl ?_
      refine od_r1T rfl rfl (rfl) ?_
      refine hK M3 _ _ _ ρ1 [(us, t)] _ _ _ _ _ _ eM3 ⟨dr4, dr5, dr6⟩ (fun j hj => ?_) b1 g1 ?_ (by simp; omega)
      · rw [upd_o (by omega), upd_o (by omega), upd_o (by omega)]; exact ⟨rfl, rfl, rfl⟩
      · refine ⟨rfl, upd_s _ _ _, upd_s _ _ _, ?_, hk1⟩
        rw [upd_s, tm_t_len]
        congr 1
        dsimp only
        omega
end RME
