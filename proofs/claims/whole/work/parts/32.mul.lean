/-! Products. -/
def sp_m1 (t : tm_T) (ts : List tm_T) (u : tm_T) : List tm_T := if u.1 = [] then (t.1, t.2 * u.2) :: ts else [(tm_fl (sp_sum (tm_tp t.1) (tm_tp u.1)), u.2)]
def sp_ml (t : tm_T) (ts : List tm_T) : List tm_T → List tm_T
  | [] => []
  | u :: us => sp_m1 t ts u ++ sp_ml t ts us
def sp_mul (ts us : List tm_T) : List tm_T := match ts with
  | [] => []
  | t :: ts' => sp_ml t ts' us
theorem tm_sm_in {a b j : List Nat} {c : Nat} (h : tm_sm (a ++ (tm_t (j, c) ++ b))) : tm_sm j := (tm_sm_t.mp (tm_sm_app.mp (tm_sm_app.mp h).2).1).1
theorem tm_ft_in {a b j : List Nat} {c : Nat} (h : tm_ft (a ++ (tm_t (j, c) ++ b))) : tm_ft j := by
  refine ⟨?_, tm_sm_in h.2⟩
  have := h.1
  rw [List.length_append, List.length_append, tm_t_len] at this
  dsimp only at this
  omega
theorem sp_m1_al {t u : tm_T} {ts : List tm_T} (h1 : tm_al (t :: ts)) (h2 : tm_ok u) (hf : tm_sm (tm_fl (sp_m1 t ts u))) : tm_al (sp_m1 t ts u) := by
  unfold sp_m1 at hf ⊢
  by_cases h : u.1 = []
  · rw [if_pos h] at hf ⊢
    rw [tm_fl, tm_sm_app, tm_sm_t] at hf
    exact ⟨⟨h1.1.1, Nat.mul_pos h1.1.2.1 h2.2.1, hf.1.2⟩, h1.2⟩
  · rw [if_neg h] at hf ⊢
    rw [tm_fl, tm_sm_app, tm_sm_t] at hf
    exact ⟨⟨tm_fl_W (sp_sum_al (tm_al_tp h1.1.1) (tm_al_tp h2.1) hf.1.1), h2.2⟩, trivial⟩
theorem sp_ml_al {t : tm_T} {ts : List tm_T} (h1 : tm_al (t :: ts)) : ∀ {us : List tm_T}, tm_al us → tm_sm (tm_fl (sp_ml t ts us)) → tm_al (sp_ml t ts us) := by
  intro us
  induction us with
  | nil => intro _ _; exact trivial
  | cons u us ih =>
    intro h2 hf
    unfold sp_ml at hf ⊢
    rw [tm_fl_app, tm_sm_app] at hf
    exact tm_al_app.mpr ⟨sp_m1_al h1 h2.1 hf.1, ih h2.2 hf.2⟩
theorem sp_mul_al {ts us : List tm_T} (h1 : tm_al ts) (h2 : tm_al us) (hf : tm_sm (tm_fl (sp_mul ts us))) : tm_al (sp_mul ts us) := by
  cases ts with
  | nil => exact trivial
  | cons t ts => exact sp_ml_al h1 h2 hf
/-- the object of arithmetic at x; its rows follow it -/
abbrev od_AR (M : od_M) (x : Nat) : Prop := M.2.2 x = some (od_ob 1 [.ref (x + 1), .ref (x + 3), .ref (x + 5), .ref (x + 7), .ref (x + 9), .ref (x + 11), .ref (x + 13), .ref (x + 15), .ref (x + 17), .ref (x + 19), .ref (x + 21), .ref (x + 23), .ref (x + 25)])
def od_ARs (S : Nat → Bool) (x : Nat) : Prop := od_no S x ∧ ∀ i, i < 13 → S (x + 1 + 2 * i) = true
theorem tm_c_mul {c d : Nat} (h1 : tm_c c) (h2 : tm_c d) : 0 < c * d ∧ c * d < 2 ^ 63 := by
  have := Nat.mul_le_mul h1.2 h2.2
  exact ⟨Nat.mul_pos h1.1 h2.1, by omega⟩
section MUL
variable {S : Nat → Bool} {M : od_M} {ρ0 : od_Rm} {x a b out : Nat}
set_option maxRecDepth 100000 in
theorem cl_mul_loop (hS : od_SS S) (hA : od_AR M x) (hR : od_ARs S x) (ha : S a = true) (hb' : S b = true) (ho : S out = true) (na : a ∉ [out, x + 1, x + 3, x + 5]) (nb : b ∉ [out, x + 1, x + 3, x + 5]) (no : out ∉ [x + 1, x + 3, x + 5]) {t : tm_T} {ts : List tm_T} (h1 : tm_al (t :: ts)) : ∀ (todo done : List tm_T) (ρ : od_Rm) (zs : List Nat) (w : Option Value), tm_al todo → od_Bd ρ → (∀ q, q ∉ [out, x + 1, x + 3, x + 5] → ρ q = ρ0 q) → od_hl ρ a (tm_t t ++ tm_fl ts) → od_hl ρ b (tm_fl done ++ tm_fl todo) → od_hl ρ out zs → od_hl ρ (x + 1) t.1 → od_W 4 31 36 [some (.ref x), some (.ref a), some (.ref b), some (.ref out), some (.int (nI (tm_t t).length)), some (.int (nI (tm_fl done).length)), some (.int (nI done.length)), w] [] (od_cm S M ρ) (od_Re S M ρ0 [out, x + 1, x + 3, x + 5] (tm_ft (zs ++ tm_fl (sp_ml t ts todo))) none (fun ρ' => od_hl ρ' out (zs ++ tm_fl (sp_ml t ts todo)))) := by
  have r1 : S (x + 1) = true := hR.2 0 (by omega)
  have r3 : S (x + 3) = true := hR.2 1 (by omega)
  have r5 : S (x + 5) = true := hR.2 2 (by omega)
  have hxn : od_no S x := hR.1
  simp only [List.mem_cons, List.not_mem_nil, or_false, not_or] at na nb no
  obtain ⟨na0, na1, na3, na5⟩ := na
  obtain ⟨nb0, nb1, nb3, nb5⟩ := nb
  obtain ⟨no1, no3, no5⟩ := no
  intro todo
  induction todo with
  | nil =>
    intro done ρ zs w _ hb g hx hy hz he
    have hl := hy.n
    have h60 := hy.le hb
    have h3 := tm_fl_len done
    rw [tm_fl, List.append_nil] at hl h60
    rw [show tm_fl (sp_ml t ts []) = [] from rfl, List.append_nil]
    have hf : tm_ft zs := ⟨hz.le hb, hz.2⟩
    by_cases h20 : done.length < 20
    · refine od_W.rn (pc' := 40) (ls' := [some (.ref _), some (.ref _), some (.ref _), some (.ref _), some (.int _), some (.int _), some (.int _), _]) (st' := [.int _, .int _]) 2 rfl ?_
      refine od_r2F rfl (of_decide_eq_true rfl) (decide_eq_false (nI_ge (b := 20) h20 (by omega))) ?_
      refine od_W.rn (pc' := 46) (ls' := [some (.ref _), some (.ref _), some (.ref _), some (.ref _), some (.int _), some (.int _), some (.int _), _]) (st' := [.ref _, .int _]) 2 rfl ?_
      refine od_gL rfl rfl (hb') (hl) ?_
      refine od_r2T rfl rfl (decide_eq_true (nI_le (Nat.le_refl _) (by omega))) ?_
      refine od_W.fin rfl ?_
      exact od_Re.yes g hb hf hz
    · refine od_W.rn (pc' := 40) (ls' := [some (.ref _), some (.ref _), some (.ref _), some (.ref _), some (.int _), some (.int _), some (.int _), _]) (st' := [.int _, .int _]) 2 rfl ?_
      refine od_r2T rfl rfl (decide_eq_true (nI_le (a := 20) (by omega) (by omega))) ?_
      refine od_W.fin rfl ?_
      exact od_Re.yes g hb hf hz
  | cons u todo ih =>
    intro done ρ zs w hal hb g hx hy hz he
    have hl := hy.n
    have h60 := hy.le hb
    have h3 := tm_fl_len done
    rw [tm_fl, List.length_append, List.length_append, tm_t_len] at hl h60
    have hy2 : od_hl ρ b (tm_fl done ++ (tm_t u ++ tm_fl todo)) := hy
    have e : (tm_fl done).length + (tm_t u).length = (tm_fl (done ++ [u])).length := by rw [tm_fl_snoc, List.length_append]
    have er : sp_ml t ts (u :: todo) = sp_m1 t ts u ++ sp_ml t ts todo := rfl
    rw [er, tm_fl_app]
    refine od_W.rn (pc' := 40) (ls' := [some (.ref _), some (.ref _), some (.ref _), some (.ref _), some (.int _), some (.int _), some (.int _), _]) (st' := [.int _, .int _]) 2 rfl ?_
    refine od_r2F rfl (of_decide_eq_true rfl) (decide_eq_false (nI_ge (b := 20) (by omega) (by omega))) ?_
    refine od_W.rn (pc' := 46) (ls' := [some (.ref _), some (.ref _), some (.ref _), some (.ref _), some (.int _), some (.int _), some (.int _), _]) (st' := [.ref _, .int _]) 2 rfl ?_
    refine od_gL rfl rfl (hb') (hl) ?_
    refine od_r2F rfl (of_decide_eq_true rfl) (decide_eq_false (nI_ge (by omega) (by omega))) ?_
    refine od_W.rn (pc' := 55) (ls' := [some (.ref _), some (.ref _), some (.ref _), some (.ref _), some (.int _), some (.int _), some (.int _), _]) (st' := [.int _, .ref _]) 2 rfl ?_
    refine od_rV (as := [.int (nI (tm_fl done).length)]) rfl rfl rfl rfl (od_cm_r hb') rfl (Nat.le_of_ble_eq_true rfl) (Nat.le_of_ble_eq_true rfl) (lt_termEnd hS hb' hb hal.1 hy2 rfl) (Nat.le_of_ble_eq_true rfl) (fun o M1 hq => ?_)
    obtain ⟨rfl, rfl⟩ := hq
    refine od_K.ret ?_
    refine od_W.rn (pc' := 61) (ls' := [some (.ref _), some (.ref _), some (.ref _), some (.ref _), some (.int _), some (.int _), some (.int _), some (.int _)]) (st' := [.ref _]) 2 rfl ?_
    refine od_rG rfl (od_cm_o hxn hA) rfl rfl ?_
    refine od_W.rn (pc' := 69) (ls' := [some (.ref _), some (.ref _), some (.ref _), some (.ref _), some (.int _), some (.int _), some (.int _), some (.int _)]) (st' := [.int _, .int _, .ref _, .ref _]) 3 rfl ?_
    refine od_rV (as := [.ref b, .int (nI (tm_fl done).length), .int (nI ((tm_fl done).length + (tm_t u).length))]) rfl rfl rfl rfl (od_cm_r r3) rfl (Nat.le_of_ble_eq_true rfl) (Nat.le_of_ble_eq_true rfl) (lt_becomeExponent hS r3 hb' (Ne.symm nb3) hb hy2 rfl rfl) (Nat.le_of_ble_eq_true rfl) (fun o M1 hq => ?_)
    refine od_Re.kp hq rfl (by simp) (g) (fun _ => trivial) (fun ρ1 f1 g1 b1 p1 k1 => ?_)
    have hx1 := hx.fr (f1 a (by simp; omega))
    have hy1 := hy2.fr (f1 b (by simp; omega))
    have hz1 := hz.fr (f1 out (by simp; omega))
    have he1 := he.fr (f1 (x + 1) (by simp))
    refine od_W.rn (pc' := 73) (ls' := [some (.ref _), some (.ref _), some (.ref _), some (.ref _), some (.int _), some (.int _), some (.int _), some (.int _)]) (st' := [.ref _]) 1 rfl ?_
    refine od_rG rfl (od_cm_o hxn hA) rfl rfl ?_
    refine od_rV (as := []) rfl rfl rfl rfl (od_cm_r r3) rfl (Nat.le_of_ble_eq_true rfl) (Nat.le_of_ble_eq_true rfl) (lt_isZero hS r3 b1 p1) (Nat.le_of_ble_eq_true rfl) (fun o M1 hq => ?_)
    obtain ⟨rfl, rfl⟩ := hq
    refine od_K.ret ?_
    by_cases hu : u.1 = []
    · rw [if_pos hu]
      have es : sp_m1 t ts u = (t.1, t.2 * u.2) :: ts := if_pos hu
      rw [es, tm_fl, List.append_assoc, ← List.append_assoc zs, ← List.append_assoc (zs ++ _)]
      refine od_r1F rfl (of_decide_eq_true rfl) (rfl) ?_
      refine od_W.rn (pc' := 84) (ls' := [some (.ref _), some (.ref _), some (.ref _), some (.ref _), some (.int _), some (.int _), some (.int _), some (.int _)]) (st' := [.ref _, .ref _]) 2 rfl ?_
      refine od_rG rfl (od_cm_o hxn hA) rfl rfl ?_
      refine od_W.rn (pc' := 90) (ls' := [some (.ref _), some (.ref _), some (.ref _), some (.ref _), some (.int _), some (.int _), some (.int _), some (.int _)]) (st' := [.int _, .ref _, .ref _, .ref _]) 2 rfl ?_
      refine od_rV (as := [.int (nI (tm_t t).length)]) rfl rfl rfl rfl (od_cm_r ha) rfl (Nat.le_of_ble_eq_true rfl) (Nat.le_of_ble_eq_true rfl) (lt_coefficient hS ha b1 (u := []) hx1 (by simp)) (Nat.le_of_ble_eq_true rfl) (fun o M1 hq => ?_)
      obtain ⟨rfl, rfl⟩ := hq
      refine od_K.ret ?_
      refine od_W.rn (pc' := 97) (ls' := [some (.ref _), some (.ref _), some (.ref _), some (.ref _), some (.int _), some (.int _), some (.int _), some (.int _)]) (st' := [.int _, .ref _, .long _, .ref _, .ref _]) 3 rfl ?_
      refine od_rV (as := [.int (nI ((tm_fl done).length + (tm_t u).length))]) rfl rfl rfl rfl (od_cm_r hb') rfl (Nat.le_of_ble_eq_true rfl) (Nat.le_of_ble_eq_true rfl) (lt_coefficient hS hb' b1 hy1 rfl) (Nat.le_of_ble_eq_true rfl) (fun o M1 hq => ?_)
      obtain ⟨rfl, rfl⟩ := hq
      refine od_K.ret ?_
      refine od_W.rn (pc' := 102) (ls' := [some (.ref _), some (.ref _), some (.ref _), some (.ref _), some (.int _), some (.int _), some (.int _), some (.int _)]) (st' := [.long _, .ref _, .ref _]) 2 rfl ?_
      rw [nI_1000 h1.1.2.2, nI_1000 hal.1.2.2, lN_mul]
      have hcd := tm_c_mul h1.1.2 hal.1.2
      refine od_rV (as := [.ref (x + 1), .long (lN (t.2 * u.2))]) rfl rfl rfl rfl (od_cm_r ho) rfl (Nat.le_of_ble_eq_true rfl) (Nat.le_of_ble_eq_true rfl) (lt_putTerm hS ho r1 no1 b1 hz1 he1 hcd.2) (Nat.le_of_ble_eq_true rfl) (fun o M1 hq => ?_)
      refine od_Re.kp hq rfl (by simp) (g1) (fun z => tm_ft_l (tm_ft_l z)) (fun ρ2 f2 g2 b2 p2 k2 => ?_)
      have hx2 := hx1.fr (f2 a (by simp; omega))
      have hy2' := hy1.fr (f2 b (by simp; omega))
      have he2 := he1.fr (f2 (x + 1) (by simp; omega))
      refine od_W.rn (pc' := 110) (ls' := [some (.ref _), some (.ref _), some (.ref _), some (.ref _), some (.int _), some (.int _), some (.int _), some (.int _)]) (st' := [.ref _, .int _, .ref _, .ref _]) 4 rfl ?_
      refine od_gL rfl rfl (ha) (hx2.n) ?_
      refine od_rV (as := [.ref a, .int (nI (tm_t t).length), .int (nI (tm_t t ++ tm_fl ts).length)]) rfl rfl rfl rfl (od_cm_r ho) rfl (Nat.le_of_ble_eq_true rfl) (Nat.le_of_ble_eq_true rfl) (lt_putPart hS ho ha (Ne.symm na0) b2 p2 (u := tm_t t) (w := tm_fl ts) (z := []) (by simpa using hx2) rfl (by simp)) (Nat.le_of_ble_eq_true rfl) (fun o M1 hq => ?_)
      refine od_Re.kp hq rfl (by simp) (g2) (fun z => tm_ft_l z) (fun ρ3 f3 g3 b3 p3 k3 => ?_)
      have hx3 := hx2.fr (f3 a (by simp; omega))
      have hy3 := hy2'.fr (f3 b (by simp; omega))
      have he3 := he2.fr (f3 (x + 1) (by simp; omega))
      refine od_W.rn (pc' := 36) (ls' := [some (.ref _), some (.ref _), some (.ref _), some (.ref _), some (.int _), some (.int _), some (.int _), some (.int _)]) (st' := []) 5 rfl ?_
      rw [e, nI_inc done.length, show done.length + 1 = (done ++ [u]).length by simp]
      exact ih (done ++ [u]) ρ3 _ _ hal.2 b3 g3 hx3 (by rw [tm_fl_snoc, List.append_assoc]; exact hy3) p3 he3
    · rw [if_neg hu]
      have es : sp_m1 t ts u = [(tm_fl (sp_sum (tm_tp t.1) (tm_tp u.1)), u.2)] := if_neg hu
      have a1 := tm_al_tp h1.1.1
      have a2 := tm_al_tp hal.1.1
      have w1 : od_hl ρ1 (x + 1) (tm_fl (tm_tp t.1)) := by rw [tm_fl_tp h1.1.1]; exact he1
      have w2 : od_hl ρ1 (x + 3) (tm_fl (tm_tp u.1)) := by rw [tm_fl_tp hal.1.1]; exact p1
      rw [es, show tm_fl [(tm_fl (sp_sum (tm_tp t.1) (tm_tp u.1)), u.2)] = tm_t (tm_fl (sp_sum (tm_tp t.1) (tm_tp u.1)), u.2) by simp [tm_fl]]
      refine od_r1T rfl rfl (rfl) ?_
      refine od_W.rn (pc' := 120) (ls' := [some (.ref _), some (.ref _), some (.ref _), some (.ref _), some (.int _), some (.int _), some (.int _), some (.int _)]) (st' := [.ref _]) 1 rfl ?_
      refine od_rG rfl (od_cm_o hxn hA) rfl rfl ?_
      refine od_W.rn (pc' := 124) (ls' := [some (.ref _), some (.ref _), some (.ref _), some (.ref _), some (.int _), some (.int _), some (.int _), some (.int _)]) (st' := [.ref _, .ref _]) 1 rfl ?_
      refine od_rG rfl (od_cm_o hxn hA) rfl rfl ?_
      refine od_W.rn (pc' := 128) (ls' := [some (.ref _), some (.ref _), some (.ref _), some (.ref _), some (.int _), some (.int _), some (.int _), some (.int _)]) (st' := [.ref _, .ref _, .ref _]) 1 rfl ?_
      refine od_rG rfl (od_cm_o hxn hA) rfl rfl ?_
      refine od_rSt (as := [.ref (x + 1), .ref (x + 3), .ref (x + 5)]) rfl rfl rfl rfl (Nat.le_of_ble_eq_true rfl) (Nat.le_of_ble_eq_true rfl) (lt_makeSum hS r1 r3 r5 (by omega) (by omega) b1 a1 a2 w1 w2) (Nat.le_of_ble_eq_true rfl) (fun o M1 hq => ?_)
      refine od_Re.kp hq rfl (by simp) (g1) (tm_ft_in) (fun ρ2 f2 g2 b2 p2 k2 => ?_)
      rw [← List.append_assoc]
      have hx2 := hx1.fr (f2 a (by simp; omega))
      have hy2' := hy1.fr (f2 b (by simp; omega))
      have hz2 := hz1.fr (f2 out (by simp; omega))
      have he2 := he1.fr (f2 (x + 1) (by simp))
      refine od_W.rn (pc' := 136) (ls' := [some (.ref _), some (.ref _), some (.ref _), some (.ref _), some (.int _), some (.int _), some (.int _), some (.int _)]) (st' := [.ref _, .ref _]) 2 rfl ?_
      refine od_rG rfl (od_cm_o hxn hA) rfl rfl ?_
      refine od_W.rn (pc' := 142) (ls' := [some (.ref _), some (.ref _), some (.ref _), some (.ref _), some (.int _), some (.int _), some (.int _), some (.int _)]) (st' := [.int _, .ref _, .ref _, .ref _]) 2 rfl ?_
      refine od_rV (as := [.int (nI ((tm_fl done).length + (tm_t u).length))]) rfl rfl rfl rfl (od_cm_r hb') rfl (Nat.le_of_ble_eq_true rfl) (Nat.le_of_ble_eq_true rfl) (lt_coefficient hS hb' b2 hy2' rfl) (Nat.le_of_ble_eq_true rfl) (fun o M1 hq => ?_)
      obtain ⟨rfl, rfl⟩ := hq
      refine od_K.ret ?_
      refine od_W.rn (pc' := 146) (ls' := [some (.ref _), some (.ref _), some (.ref _), some (.ref _), some (.int _), some (.int _), some (.int _), some (.int _)]) (st' := [.long _, .ref _, .ref _]) 1 rfl ?_
      rw [nI_1000 hal.1.2.2]
      have huc := hal.1.2.2
      refine od_rV (as := [.ref (x + 5), .long (lN u.2)]) rfl rfl rfl rfl (od_cm_r ho) rfl (Nat.le_of_ble_eq_true rfl) (Nat.le_of_ble_eq_true rfl) (lt_putTerm hS ho r5 no5 b2 hz2 p2 (by omega)) (Nat.le_of_ble_eq_true rfl) (fun o M1 hq => ?_)
      refine od_Re.kp hq rfl (by simp) (g2) (tm_ft_l) (fun ρ3 f3 g3 b3 p3 k3 => ?_)
      have hx3 := hx2.fr (f3 a (by simp; omega))
      have hy3 := hy2'.fr (f3 b (by simp; omega))
      have he3 := he2.fr (f3 (x + 1) (by simp; omega))
      refine od_W.rn (pc' := 36) (ls' := [some (.ref _), some (.ref _), some (.ref _), some (.ref _), some (.int _), some (.int _), some (.int _), some (.int _)]) (st' := []) 4 rfl ?_
      rw [e, nI_inc done.length, show done.length + 1 = (done ++ [u]).length by simp]
      exact ih (done ++ [u]) ρ3 _ _ hal.2 b3 g3 hx3 (by rw [tm_fl_snoc, List.append_assoc]; exact hy3) p3 he3
theorem lt_makeProduct {ρ : od_Rm} (hS : od_SS S) (hA : od_AR M x) (hR : od_ARs S x) (ha : S a = true) (hb' : S b = true) (ho : S out = true) (na : a ∉ [out, x + 1, x + 3, x + 5]) (nb : b ∉ [out, x + 1, x + 3, x + 5]) (no : out ∉ [x + 1, x + 3, x + 5]) (hb : od_Bd ρ) {ts us : List tm_T} (h1 : tm_al ts) (h2 : tm_al us) (hx : od_hl ρ a (tm_fl ts)) (hy : od_hl ρ b (tm_fl us)) : od_W 4 31 0 (od_ent 31 [.ref x, .ref a, .ref b, .ref out]) [] (od_cm S M ρ) (od_Re S M ρ [out, x + 1, x + 3, x + 5] (tm_ft (tm_fl (sp_mul ts us))) none (fun ρ' => od_hl ρ' out (tm_fl (sp_mul ts us)))) := by
  have e0 : od_ent 31 [.ref x, .ref a, .ref b, .ref out] = [some (.ref x), some (.ref a), some (.ref b), some (.ref out), none, none, none, none] := rfl
  rw [e0]
  have r1 : S (x + 1) = true := hR.2 0 (by omega)
  have na' := na
  have nb' := nb
  have no' := no
  simp only [List.mem_cons, List.not_mem_nil, or_false, not_or] at na nb no
  refine od_W.rn (pc' := 1) (ls' := [some (.ref _), some (.ref _), some (.ref _), some (.ref _), none, none, none, none]) (st' := [.ref _]) 1 rfl ?_
  refine od_rV (as := []) rfl rfl rfl rfl (od_cm_r ho) rfl (Nat.le_of_ble_eq_true rfl) (Nat.le_of_ble_eq_true rfl) (lt_clear hS ho hb) (Nat.le_of_ble_eq_true rfl) (fun o M1 hq => ?_)
  refine od_Re.kp hq rfl (by simp) (od_fr0 ρ _) (fun _ => trivial) (fun ρ1 f1 g1 b1 p1 k1 => ?_)
  have hx1 := hx.fr (f1 a (by simp; omega))
  have hy1 := hy.fr (f1 b (by simp; omega))
  refine od_W.rn (pc' := 5) (ls' := [some (.ref _), some (.ref _), some (.ref _), some (.ref _), none, none, none, none]) (st' := [.ref _]) 1 rfl ?_
  refine od_rV (as := []) rfl rfl rfl rfl (od_cm_r ha) rfl (Nat.le_of_ble_eq_true rfl) (Nat.le_of_ble_eq_true rfl) (lt_isZero hS ha b1 hx1) (Nat.le_of_ble_eq_true rfl) (fun o M1 hq => ?_)
  obtain ⟨rfl, rfl⟩ := hq
  refine od_K.ret ?_
  cases ts with
  | nil =>
    refine od_r1F rfl (of_decide_eq_true rfl) (rfl) ?_
    refine od_W.fin rfl ?_
    exact od_Re.yes g1 b1 ⟨by simp [sp_mul, tm_fl], fun x hx => (List.not_mem_nil hx).elim⟩ p1
  | cons t ts =>
    have hx2 : od_hl ρ1 a ([] ++ (tm_t t ++ tm_fl ts)) := hx1
    refine od_r1T rfl rfl (rfl) ?_
    refine od_W.rn (pc' := 14) (ls' := [some (.ref _), some (.ref _), some (.ref _), some (.ref _), none, none, none, none]) (st' := [.int _, .ref _]) 2 rfl ?_
    refine od_rV (as := [.int (nI 0)]) rfl rfl rfl rfl (od_cm_r ha) rfl (Nat.le_of_ble_eq_true rfl) (Nat.le_of_ble_eq_true rfl) (lt_termEnd hS ha b1 h1.1 hx2 rfl) (Nat.le_of_ble_eq_true rfl) (fun o M1 hq => ?_)
    obtain ⟨rfl, rfl⟩ := hq
    refine od_K.ret ?_
    refine od_W.rn (pc' := 20) (ls' := [some (.ref _), some (.ref _), some (.ref _), some (.ref _), some (.int _), none, none, none]) (st' := [.ref _]) 2 rfl ?_
    refine od_rG rfl (od_cm_o hR.1 hA) rfl rfl ?_
    refine od_W.rn (pc' := 27) (ls' := [some (.ref _), some (.ref _), some (.ref _), some (.ref _), some (.int _), none, none, none]) (st' := [.int _, .int _, .ref _, .ref _]) 3 rfl ?_
    refine od_rV (as := [.ref a, .int (nI 0), .int (nI (0 + (tm_t t).length))]) rfl rfl rfl rfl (od_cm_r r1) rfl (Nat.le_of_ble_eq_true rfl) (Nat.le_of_ble_eq_true rfl) (lt_becomeExponent hS r1 ha (Ne.symm na.2.1) b1 hx2 rfl rfl) (Nat.le_of_ble_eq_true rfl) (fun o M1 hq => ?_)
    refine od_Re.kp hq rfl (by simp) (g1) (fun _ => trivial) (fun ρ2 f2 g2 b2 p2 k2 => ?_)
    have hx3 := hx1.fr (f2 a (by simp; omega))
    have hy3 := hy1.fr (f2 b (by simp; omega))
    have hz3 := p1.fr (f2 out (by simp; omega))
    rw [Nat.zero_add]
    refine od_W.rn (pc' := 36) (ls' := [some (.ref _), some (.ref _), some (.ref _), some (.ref _), some (.int _), some (.int _), some (.int _), none]) (st' := []) 4 rfl ?_
    have := cl_mul_loop (M := M) (ρ0 := ρ) hS hA hR ha hb' ho na' nb' no' h1 us [] ρ2 [] none h2 b2 g2 hx3 hy3 hz3 p2
    rw [List.nil_append] at this
    exact this
end MUL
