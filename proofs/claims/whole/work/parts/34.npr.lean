/-! Natural products. -/
def sp_j (t u : tm_T) : tm_T := (tm_fl (sp_nat (tm_tp t.1) (tm_tp u.1)), t.2 * u.2)
def sp_a1 (t : tm_T) (tot : List tm_T) (u : tm_T) : List tm_T := sp_nat tot [sp_j t u]
def sp_aa (t : tm_T) : List tm_T → List tm_T → List tm_T
  | tot, [] => tot
  | tot, u :: us => sp_aa t (sp_a1 t tot u) us
def ok_aa (t : tm_T) : List tm_T → List tm_T → Prop
  | _, [] => True
  | tot, u :: us => tm_ft (tm_t (sp_j t u)) ∧ tm_ft (tm_fl (sp_a1 t tot u)) ∧ ok_aa t (sp_a1 t tot u) us
def sp_np (us : List tm_T) : List tm_T → List tm_T → List tm_T
  | tot, [] => tot
  | tot, t :: ts => sp_np us (sp_aa t tot us) ts
def ok_np (us : List tm_T) : List tm_T → List tm_T → Prop
  | _, [] => True
  | tot, t :: ts => ok_aa t tot us ∧ ok_np us (sp_aa t tot us) ts
theorem tm_ft_t {e : List Nat} {c : Nat} (h : tm_ft (tm_t (e, c))) : tm_ft e := tm_ft_in (a := []) (b := []) (c := c) (by rw [List.nil_append, List.append_nil]; exact h)
theorem tm_fl_one (t : tm_T) : tm_fl [t] = tm_t t := by simp [tm_fl]
theorem sp_j_ok {t u : tm_T} (h1 : tm_ok t) (h2 : tm_ok u) (hf : tm_ft (tm_t (sp_j t u))) : tm_ok (sp_j t u) := by
  have h3 := tm_sm_t.mp hf.2
  exact ⟨tm_fl_W (sp_nat_al (tm_al_tp h1.1) (tm_al_tp h2.1) h3.1), Nat.mul_pos h1.2.1 h2.2.1, h3.2⟩
theorem sp_a1_al {t u : tm_T} {tot : List tm_T} (h1 : tm_ok t) (h2 : tm_ok u) (h3 : tm_al tot) (hf : tm_ft (tm_t (sp_j t u))) (hg : tm_ft (tm_fl (sp_a1 t tot u))) : tm_al (sp_a1 t tot u) := sp_nat_al h3 ⟨sp_j_ok h1 h2 hf, trivial⟩ hg.2
theorem sp_aa_al {t : tm_T} (h1 : tm_ok t) : ∀ {us tot : List tm_T}, tm_al us → tm_al tot → ok_aa t tot us → tm_al (sp_aa t tot us) := by
  intro us
  induction us with
  | nil => intro tot _ h _; exact h
  | cons u us ih => intro tot h2 h3 h4; exact ih h2.2 (sp_a1_al h1 h2.1 h3 h4.1 h4.2.1) h4.2.2
theorem sp_aa_ft {t : tm_T} : ∀ {us tot : List tm_T}, tm_ft (tm_fl tot) → ok_aa t tot us → tm_ft (tm_fl (sp_aa t tot us)) := by
  intro us
  induction us with
  | nil => intro tot h _; exact h
  | cons u us ih => intro tot _ h4; exact ih h4.2.1 h4.2.2
theorem sp_np_al {us : List tm_T} (h2 : tm_al us) : ∀ {ts tot : List tm_T}, tm_al ts → tm_al tot → ok_np us tot ts → tm_al (sp_np us tot ts) := by
  intro ts
  induction ts with
  | nil => intro tot _ h _; exact h
  | cons t ts ih => intro tot h1 h3 h4; exact ih h1.2 (sp_aa_al h1.1 h2 h3 h4.1) h4.2
section NPR
variable {S : Nat → Bool} {M : od_M} {ρ0 : od_Rm} {x a b out : Nat}
set_option maxRecDepth 100000 in
theorem cl_aa_loop (hS : od_SS S) (hA : od_AR M x) (hR : od_ARs S x) (hb' : S b = true) (ho : S out = true) (nb : b ∉ [out, x + 17, x + 19, x + 21, x + 25]) (no : out ∉ [x + 15, x + 17, x + 19, x + 21, x + 25]) {t : tm_T} (ht : tm_ok t) : ∀ (todo done : List tm_T) (ρ : od_Rm) (tot : List tm_T) (w : Option Value), tm_al todo → tm_al tot → od_Bd ρ → (∀ q, q ∉ [out, x + 17, x + 19, x + 21, x + 25] → ρ q = ρ0 q) → od_hl ρ b (tm_fl done ++ tm_fl todo) → od_hl ρ out (tm_fl tot) → od_hl ρ (x + 15) t.1 → od_W 5 38 6 [some (.ref x), some (.int (nI t.2)), some (.ref b), some (.ref out), some (.int (nI (tm_fl done).length)), some (.int (nI done.length)), w] [] (od_cm S M ρ) (od_Re S M ρ0 [out, x + 17, x + 19, x + 21, x + 25] (ok_aa t tot todo) none (fun ρ' => od_hl ρ' out (tm_fl (sp_aa t tot todo)))) := by
  have r15 : S (x + 15) = true := hR.2 7 (by omega)
  have r17 : S (x + 17) = true := hR.2 8 (by omega)
  have r19 : S (x + 19) = true := hR.2 9 (by omega)
  have r21 : S (x + 21) = true := hR.2 10 (by omega)
  have r25 : S (x + 25) = true := hR.2 12 (by omega)
  have hxn : od_no S x := hR.1
  simp only [List.mem_cons, List.not_mem_nil, or_false, not_or] at nb no
  intro todo
  induction todo with
  | nil =>
    intro done ρ tot w _ _ hb g hy hz he
    have hl := hy.n
    have h60 := hy.le hb
    have h3 := tm_fl_len done
    rw [tm_fl, List.append_nil] at hl h60
    by_cases h20 : done.length < 20
    · refine od_W.rn (pc' := 10) (ls' := [some (.ref _), some (.int _), some (.ref _), some (.ref _), some (.int _), some (.int _), _]) (st' := [.int _, .int _]) 2 rfl ?_
      refine od_r2F rfl (of_decide_eq_true rfl) (decide_eq_false (nI_ge (b := 20) h20 (by omega))) ?_
      refine od_W.rn (pc' := 16) (ls' := [some (.ref _), some (.int _), some (.ref _), some (.ref _), some (.int _), some (.int _), _]) (st' := [.ref _, .int _]) 2 rfl ?_
      refine od_gL rfl rfl (hb') (hl) ?_
      refine od_r2T rfl rfl (decide_eq_true (nI_le (Nat.le_refl _) (by omega))) ?_
      refine od_W.fin rfl ?_
      exact od_Re.yes g hb trivial hz
    · refine od_W.rn (pc' := 10) (ls' := [some (.ref _), some (.int _), some (.ref _), some (.ref _), some (.int _), some (.int _), _]) (st' := [.int _, .int _]) 2 rfl ?_
      refine od_r2T rfl rfl (decide_eq_true (nI_le (a := 20) (by omega) (by omega))) ?_
      refine od_W.fin rfl ?_
      exact od_Re.yes g hb trivial hz
  | cons u todo ih =>
    intro done ρ tot w hal alt hb g hy hz he
    have hl := hy.n
    have h60 := hy.le hb
    have h3 := tm_fl_len done
    rw [tm_fl, List.length_append, List.length_append, tm_t_len] at hl h60
    have hy2 : od_hl ρ b (tm_fl done ++ (tm_t u ++ tm_fl todo)) := hy
    have e : (tm_fl done).length + (tm_t u).length = (tm_fl (done ++ [u])).length := by rw [tm_fl_snoc, List.length_append]
    have a1 := tm_al_tp ht.1
    have a2 := tm_al_tp hal.1.1
    have hcd := tm_c_mul ht.2 hal.1.2
    refine od_W.rn (pc' := 10) (ls' := [some (.ref _), some (.int _), some (.ref _), some (.ref _), some (.int _), some (.int _), _]) (st' := [.int _, .int _]) 2 rfl ?_
    refine od_r2F rfl (of_decide_eq_true rfl) (decide_eq_false (nI_ge (b := 20) (by omega) (by omega))) ?_
    refine od_W.rn (pc' := 16) (ls' := [some (.ref _), some (.int _), some (.ref _), some (.ref _), some (.int _), some (.int _), _]) (st' := [.ref _, .int _]) 2 rfl ?_
    refine od_gL rfl rfl (hb') (hl) ?_
    refine od_r2F rfl (of_decide_eq_true rfl) (decide_eq_false (nI_ge (by omega) (by omega))) ?_
    refine od_W.rn (pc' := 25) (ls' := [some (.ref _), some (.int _), some (.ref _), some (.ref _), some (.int _), some (.int _), _]) (st' := [.int _, .ref _]) 2 rfl ?_
    refine od_rV (as := [.int (nI (tm_fl done).length)]) rfl rfl rfl rfl (od_cm_r hb') rfl (Nat.le_of_ble_eq_true rfl) (Nat.le_of_ble_eq_true rfl) (lt_termEnd hS hb' hb hal.1 hy2 rfl) (Nat.le_of_ble_eq_true rfl) (fun o M1 hq => ?_)
    obtain ⟨rfl, rfl⟩ := hq
    refine od_K.ret ?_
    refine od_W.rn (pc' := 31) (ls' := [some (.ref _), some (.int _), some (.ref _), some (.ref _), some (.int _), some (.int _), some (.int _)]) (st' := [.ref _]) 2 rfl ?_
    refine od_rG rfl (od_cm_o hxn hA) rfl rfl ?_
    refine od_W.rn (pc' := 39) (ls' := [some (.ref _), some (.int _), some (.ref _), some (.ref _), some (.int _), some (.int _), some (.int _)]) (st' := [.int _, .int _, .ref _, .ref _]) 3 rfl ?_
    refine od_rV (as := [.ref b, .int (nI (tm_fl done).length), .int (nI ((tm_fl done).length + (tm_t u).length))]) rfl rfl rfl rfl (od_cm_r r17) rfl (Nat.le_of_ble_eq_true rfl) (Nat.le_of_ble_eq_true rfl) (lt_becomeExponent hS r17 hb' (by omega) hb hy2 rfl rfl) (Nat.le_of_ble_eq_true rfl) (fun o M1 hq => ?_)
    refine od_Re.kp hq rfl (by simp) (g) (fun _ => trivial) (fun ρ1 f1 g1 b1 p1 k1 => ?_)
    have hy1 := hy2.fr (f1 b (by simp; omega))
    have hz1 := hz.fr (f1 out (by simp; omega))
    have he1 := he.fr (f1 (x + 15) (by simp))
    have w1 : od_hl ρ1 (x + 15) (tm_fl (tm_tp t.1)) := by rw [tm_fl_tp ht.1]; exact he1
    have w2 : od_hl ρ1 (x + 17) (tm_fl (tm_tp u.1)) := by rw [tm_fl_tp hal.1.1]; exact p1
    refine od_W.rn (pc' := 43) (ls' := [some (.ref _), some (.int _), some (.ref _), some (.ref _), some (.int _), some (.int _), some (.int _)]) (st' := [.ref _]) 1 rfl ?_
    refine od_rG rfl (od_cm_o hxn hA) rfl rfl ?_
    refine od_W.rn (pc' := 47) (ls' := [some (.ref _), some (.int _), some (.ref _), some (.ref _), some (.int _), some (.int _), some (.int _)]) (st' := [.ref _, .ref _]) 1 rfl ?_
    refine od_rG rfl (od_cm_o hxn hA) rfl rfl ?_
    refine od_W.rn (pc' := 51) (ls' := [some (.ref _), some (.int _), some (.ref _), some (.ref _), some (.int _), some (.int _), some (.int _)]) (st' := [.ref _, .ref _, .ref _]) 1 rfl ?_
    refine od_rG rfl (od_cm_o hxn hA) rfl rfl ?_
    refine od_rSt (as := [.ref (x + 15), .ref (x + 17), .ref (x + 19)]) rfl rfl rfl rfl (Nat.le_of_ble_eq_true rfl) (Nat.le_of_ble_eq_true rfl) (lt_makeNaturalSum hS r15 r17 r19 (by omega) (by omega) b1 a1 a2 w1 w2) (Nat.le_of_ble_eq_true rfl) (fun o M1 hq => ?_)
    refine od_Re.kp hq rfl (by simp) (g1) (fun z => tm_ft_t z.1) (fun ρ2 f2 g2 b2 p2 k2 => ?_)
    have hy3 := hy1.fr (f2 b (by simp; omega))
    have hz2 := hz1.fr (f2 out (by simp; omega))
    have he2 := he1.fr (f2 (x + 15) (by simp))
    refine od_W.rn (pc' := 58) (ls' := [some (.ref _), some (.int _), some (.ref _), some (.ref _), some (.int _), some (.int _), some (.int _)]) (st' := [.ref _]) 1 rfl ?_
    refine od_rG rfl (od_cm_o hxn hA) rfl rfl ?_
    refine od_W.rn (pc' := 62) (ls' := [some (.ref _), some (.int _), some (.ref _), some (.ref _), some (.int _), some (.int _), some (.int _)]) (st' := [.ref _, .ref _]) 1 rfl ?_
    refine od_rG rfl (od_cm_o hxn hA) rfl rfl ?_
    refine od_W.rn (pc' := 70) (ls' := [some (.ref _), some (.int _), some (.ref _), some (.ref _), some (.int _), some (.int _), some (.int _)]) (st' := [.int _, .ref _, .long _, .ref _, .ref _]) 4 rfl ?_
    refine od_rV (as := [.int (nI ((tm_fl done).length + (tm_t u).length))]) rfl rfl rfl rfl (od_cm_r hb') rfl (Nat.le_of_ble_eq_true rfl) (Nat.le_of_ble_eq_true rfl) (lt_coefficient hS hb' b2 hy3 rfl) (Nat.le_of_ble_eq_true rfl) (fun o M1 hq => ?_)
    obtain ⟨rfl, rfl⟩ := hq
    refine od_K.ret ?_
    refine od_W.rn (pc' := 75) (ls' := [some (.ref _), some (.int _), some (.ref _), some (.ref _), some (.int _), some (.int _), some (.int _)]) (st' := [.long _, .ref _, .ref _]) 2 rfl ?_
    rw [nI_1000 ht.2.2, nI_1000 hal.1.2.2, lN_mul]
    refine od_rV (as := [.ref (x + 19), .long (lN (t.2 * u.2))]) rfl rfl rfl rfl (od_cm_r r21) rfl (Nat.le_of_ble_eq_true rfl) (Nat.le_of_ble_eq_true rfl) (lt_becomeTerm hS r21 r19 (by omega) b2 p2 hcd.2) (Nat.le_of_ble_eq_true rfl) (fun o M1 hq => ?_)
    refine od_Re.kp hq rfl (by simp) (g2) (fun z => z.1) (fun ρ3 f3 g3 b3 p3 k3 => ?_)
    have hy4 := hy3.fr (f3 b (by simp; omega))
    have hz3 := hz2.fr (f3 out (by simp; omega))
    have he3 := he2.fr (f3 (x + 15) (by simp))
    have p3' : od_hl ρ3 (x + 21) (tm_fl [sp_j t u]) := by rw [tm_fl_one]; exact p3
    have okj := sp_j_ok ht hal.1 k3
    refine od_W.rn (pc' := 80) (ls' := [some (.ref _), some (.int _), some (.ref _), some (.ref _), some (.int _), some (.int _), some (.int _)]) (st' := [.ref _, .ref _]) 2 rfl ?_
    refine od_rG rfl (od_cm_o hxn hA) rfl rfl ?_
    refine od_W.rn (pc' := 84) (ls' := [some (.ref _), some (.int _), some (.ref _), some (.ref _), some (.int _), some (.int _), some (.int _)]) (st' := [.ref _, .ref _, .ref _]) 1 rfl ?_
    refine od_rG rfl (od_cm_o hxn hA) rfl rfl ?_
    refine od_rSt (as := [.ref out, .ref (x + 21), .ref (x + 25)]) rfl rfl rfl rfl (Nat.le_of_ble_eq_true rfl) (Nat.le_of_ble_eq_true rfl) (lt_makeNaturalSum hS ho r21 r25 (by omega) (by omega) b3 alt (us := [sp_j t u]) ⟨okj, trivial⟩ hz3 p3') (Nat.le_of_ble_eq_true rfl) (fun o M1 hq => ?_)
    refine od_Re.kp hq rfl (by simp) (g3) (fun z => z.2.1) (fun ρ4 f4 g4 b4 p4 k4 => ?_)
    have hy5 := hy4.fr (f4 b (by simp; omega))
    have he4 := he3.fr (f4 (x + 15) (by simp))
    refine od_W.rn (pc' := 92) (ls' := [some (.ref _), some (.int _), some (.ref _), some (.ref _), some (.int _), some (.int _), some (.int _)]) (st' := [.ref _, .ref _]) 2 rfl ?_
    refine od_rG rfl (od_cm_o hxn hA) rfl rfl ?_
    refine od_rV (as := [.ref (x + 25)]) rfl rfl rfl rfl (od_cm_r ho) rfl (Nat.le_of_ble_eq_true rfl) (Nat.le_of_ble_eq_true rfl) (lt_become hS ho r25 (by omega) b4 p4) (Nat.le_of_ble_eq_true rfl) (fun o M1 hq => ?_)
    refine od_Re.kp hq rfl (by simp) (g4) (fun _ => trivial) (fun ρ5 f5 g5 b5 p5 k5 => ?_)
    have hy6 := hy5.fr (f5 b (by simp; omega))
    have he5 := he4.fr (f5 (x + 15) (by simp; omega))
    refine od_W.rn (pc' := 6) (ls' := [some (.ref _), some (.int _), some (.ref _), some (.ref _), some (.int _), some (.int _), some (.int _)]) (st' := []) 4 rfl ?_
    rw [e, nI_inc done.length, show done.length + 1 = (done ++ [u]).length by simp]
    refine (ih (done ++ [u]) ρ5 (sp_a1 t tot u) _ hal.2 (sp_a1_al ht hal.1 alt k3 k4) b5 g5 (by rw [tm_fl_snoc, List.append_assoc]; exact hy6) p5 he5).mono fun o M' h => ?_
    exact h.mono (fun q h => h) ⟨fun z => ⟨k3, k4, z⟩, fun z => z.2.2⟩ (fun ρ' _ _ h => h)
theorem lt_addNaturalProduct {ρ : od_Rm} (hS : od_SS S) (hA : od_AR M x) (hR : od_ARs S x) (hb' : S b = true) (ho : S out = true) (nb : b ∉ [out, x + 17, x + 19, x + 21, x + 25]) (no : out ∉ [x + 15, x + 17, x + 19, x + 21, x + 25]) {t : tm_T} (ht : tm_ok t) (hb : od_Bd ρ) {us tot : List tm_T} (h1 : tm_al us) (h2 : tm_al tot) (hy : od_hl ρ b (tm_fl us)) (hz : od_hl ρ out (tm_fl tot)) (he : od_hl ρ (x + 15) t.1) : od_W 5 38 0 (od_ent 38 [.ref x, .int (nI t.2), .ref b, .ref out]) [] (od_cm S M ρ) (od_Re S M ρ [out, x + 17, x + 19, x + 21, x + 25] (ok_aa t tot us) none (fun ρ' => od_hl ρ' out (tm_fl (sp_aa t tot us)))) := by
  have e0 : od_ent 38 [.ref x, .int (nI t.2), .ref b, .ref out] = [some (.ref x), some (.int (nI t.2)), some (.ref b), some (.ref out), none, none, none] := rfl
  rw [e0]
  refine od_W.rn (pc' := 6) (ls' := [some (.ref _), some (.int _), some (.ref _), some (.ref _), some (.int _), some (.int _), none]) (st' := []) 4 rfl ?_
  exact cl_aa_loop hS hA hR hb' ho nb no ht us [] ρ tot none h1 h2 hb (od_fr0 ρ _) hy hz he
set_option maxRecDepth 100000 in
theorem cl_np_loop (hS : od_SS S) (hA : od_AR M x) (hR : od_ARs S x) (ha : S a = true) (hb' : S b = true) (ho : S out = true) (na : a ∉ [out, x + 15, x + 17, x + 19, x + 21, x + 25]) (nb : b ∉ [out, x + 15, x + 17, x + 19, x + 21, x + 25]) (no : out ∉ [x + 15, x + 17, x + 19, x + 21, x + 25]) {us : List tm_T} (hu : tm_al us) : ∀ (todo done : List tm_T) (ρ : od_Rm) (tot : List tm_T) (w : Option Value), tm_al todo → tm_al tot → od_Bd ρ → (∀ q, q ∉ [out, x + 15, x + 17, x + 19, x + 21, x + 25] → ρ q = ρ0 q) → od_hl ρ a (tm_fl done ++ tm_fl todo) → od_hl ρ b (tm_fl us) → od_hl ρ out (tm_fl tot) → od_W 6 37 10 [some (.ref x), some (.ref a), some (.ref b), some (.ref out), some (.int (nI (tm_fl done).length)), some (.int (nI done.length)), w] [] (od_cm S M ρ) (od_Re S M ρ0 [out, x + 15, x + 17, x + 19, x + 21, x + 25] (ok_np us tot todo) none (fun ρ' => od_hl ρ' out (tm_fl (sp_np us tot todo)))) := by
  have r15 : S (x + 15) = true := hR.2 7 (by omega)
  have hxn : od_no S x := hR.1
  simp only [List.mem_cons, List.not_mem_nil, or_false, not_or] at na nb
  intro todo
  induction todo with
  | nil =>
    intro done ρ tot w _ _ hb g hy hz he
    have hl := hy.n
    have h60 := hy.le hb
    have h3 := tm_fl_len done
    rw [tm_fl, List.append_nil] at hl h60
    by_cases h20 : done.length < 20
    · refine od_W.rn (pc' := 14) (ls' := [some (.ref _), some (.ref _), some (.ref _), some (.ref _), some (.int _), some (.int _), _]) (st' := [.int _, .int _]) 2 rfl ?_
      refine od_r2F rfl (of_decide_eq_true rfl) (decide_eq_false (nI_ge (b := 20) h20 (by omega))) ?_
      refine od_W.rn (pc' := 20) (ls' := [some (.ref _), some (.ref _), some (.ref _), some (.ref _), some (.int _), some (.int _), _]) (st' := [.ref _, .int _]) 2 rfl ?_
      refine od_gL rfl rfl (ha) (hl) ?_
      refine od_r2T rfl rfl (decide_eq_true (nI_le (Nat.le_refl _) (by omega))) ?_
      refine od_W.fin rfl ?_
      exact od_Re.yes g hb trivial he
    · refine od_W.rn (pc' := 14) (ls' := [some (.ref _), some (.ref _), some (.ref _), some (.ref _), some (.int _), some (.int _), _]) (st' := [.int _, .int _]) 2 rfl ?_
      refine od_r2T rfl rfl (decide_eq_true (nI_le (a := 20) (by omega) (by omega))) ?_
      refine od_W.fin rfl ?_
      exact od_Re.yes g hb trivial he
  | cons t todo ih =>
    intro done ρ tot w hal alt hb g hy hu' hz
    have hl := hy.n
    have h60 := hy.le hb
    have h3 := tm_fl_len done
    rw [tm_fl, List.length_append, List.length_append, tm_t_len] at hl h60
    have hy2 : od_hl ρ a (tm_fl done ++ (tm_t t ++ tm_fl todo)) := hy
    have e : (tm_fl done).length + (tm_t t).length = (tm_fl (done ++ [t])).length := by rw [tm_fl_snoc, List.length_append]
    refine od_W.rn (pc' := 14) (ls' := [some (.ref _), some (.ref _), some (.ref _), some (.ref _), some (.int _), some (.int _), _]) (st' := [.int _, .int _]) 2 rfl ?_
    refine od_r2F rfl (of_decide_eq_true rfl) (decide_eq_false (nI_ge (b := 20) (by omega) (by omega))) ?_
    refine od_W.rn (pc' := 20) (ls' := [some (.ref _), some (.ref _), some (.ref _), some (.ref _), some (.int _), some (.int _), _]) (st' := [.ref _, .int _]) 2 rfl ?_
    refine od_gL rfl rfl (ha) (hl) ?_
    refine od_r2F rfl (of_decide_eq_true rfl) (decide_eq_false (nI_ge (by omega) (by omega))) ?_
    refine od_W.rn (pc' := 29) (ls' := [some (.ref _), some (.ref _), some (.ref _), some (.ref _), some (.int _), some (.int _), _]) (st' := [.int _, .ref _]) 2 rfl ?_
    refine od_rV (as := [.int (nI (tm_fl done).length)]) rfl rfl rfl rfl (od_cm_r ha) rfl (Nat.le_of_ble_eq_true rfl) (Nat.le_of_ble_eq_true rfl) (lt_termEnd hS ha hb hal.1 hy2 rfl) (Nat.le_of_ble_eq_true rfl) (fun o M1 hq => ?_)
    obtain ⟨rfl, rfl⟩ := hq
    refine od_K.ret ?_
    refine od_W.rn (pc' := 35) (ls' := [some (.ref _), some (.ref _), some (.ref _), some (.ref _), some (.int _), some (.int _), some (.int _)]) (st' := [.ref _]) 2 rfl ?_
    refine od_rG rfl (od_cm_o hxn hA) rfl rfl ?_
    refine od_W.rn (pc' := 43) (ls' := [some (.ref _), some (.ref _), some (.ref _), some (.ref _), some (.int _), some (.int _), some (.int _)]) (st' := [.int _, .int _, .ref _, .ref _]) 3 rfl ?_
    refine od_rV (as := [.ref a, .int (nI (tm_fl done).length), .int (nI ((tm_fl done).length + (tm_t t).length))]) rfl rfl rfl rfl (od_cm_r r15) rfl (Nat.le_of_ble_eq_true rfl) (Nat.le_of_ble_eq_true rfl) (lt_becomeExponent hS r15 ha (by omega) hb hy2 rfl rfl) (Nat.le_of_ble_eq_true rfl) (fun o M1 hq => ?_)
    refine od_Re.kp hq rfl (by simp) (g) (fun _ => trivial) (fun ρ1 f1 g1 b1 p1 k1 => ?_)
    simp only [List.mem_cons, List.not_mem_nil, or_false, not_or] at no
    have hy1 := hy2.fr (f1 a (by simp; omega))
    have hu1 := hu'.fr (f1 b (by simp; omega))
    have hz1 := hz.fr (f1 out (by simp; omega))
    refine od_W.rn (pc' := 50) (ls' := [some (.ref _), some (.ref _), some (.ref _), some (.ref _), some (.int _), some (.int _), some (.int _)]) (st' := [.int _, .ref _, .ref _]) 3 rfl ?_
    refine od_rV (as := [.int (nI ((tm_fl done).length + (tm_t t).length))]) rfl rfl rfl rfl (od_cm_r ha) rfl (Nat.le_of_ble_eq_true rfl) (Nat.le_of_ble_eq_true rfl) (lt_coefficient hS ha b1 hy1 rfl) (Nat.le_of_ble_eq_true rfl) (fun o M1 hq => ?_)
    obtain ⟨rfl, rfl⟩ := hq
    refine od_K.ret ?_
    refine od_W.rn (pc' := 55) (ls' := [some (.ref _), some (.ref _), some (.ref _), some (.ref _), some (.int _), some (.int _), some (.int _)]) (st' := [.ref _, .ref _, .int _, .ref _]) 2 rfl ?_
    refine od_rV (as := [.int (nI t.2), .ref b, .ref out]) rfl rfl rfl rfl (od_cm_o hxn hA) rfl (Nat.le_of_ble_eq_true rfl) (Nat.le_of_ble_eq_true rfl) (lt_addNaturalProduct hS hA hR hb' ho (by simp; omega) (by simp; omega) hal.1 b1 hu alt hu1 hz1 p1) (Nat.le_of_ble_eq_true rfl) (fun o M1 hq => ?_)
    refine od_Re.kp hq rfl (by simp) (g1) (fun z => z.1) (fun ρ2 f2 g2 b2 p2 k2 => ?_)
    have hy4 := hy1.fr (f2 a (by simp; omega))
    have hu2 := hu1.fr (f2 b (by simp; omega))
    refine od_W.rn (pc' := 10) (ls' := [some (.ref _), some (.ref _), some (.ref _), some (.ref _), some (.int _), some (.int _), some (.int _)]) (st' := []) 4 rfl ?_
    rw [e, nI_inc done.length, show done.length + 1 = (done ++ [t]).length by simp]
    refine (ih (done ++ [t]) ρ2 (sp_aa t tot us) _ hal.2 (sp_aa_al hal.1 hu alt k2) b2 g2 (by rw [tm_fl_snoc, List.append_assoc]; exact hy4) hu2 p2).mono fun o M' h => ?_
    exact h.mono (fun q h => h) ⟨fun z => ⟨k2, z⟩, fun z => z.2⟩ (fun ρ' _ _ h => h)
theorem lt_makeNaturalProduct {ρ : od_Rm} (hS : od_SS S) (hA : od_AR M x) (hR : od_ARs S x) (ha : S a = true) (hb' : S b = true) (ho : S out = true) (na : a ∉ [out, x + 15, x + 17, x + 19, x + 21, x + 25]) (nb : b ∉ [out, x + 15, x + 17, x + 19, x + 21, x + 25]) (no : out ∉ [x + 15, x + 17, x + 19, x + 21, x + 25]) (hb : od_Bd ρ) {ts us : List tm_T} (h1 : tm_al ts) (h2 : tm_al us) (hx : od_hl ρ a (tm_fl ts)) (hy : od_hl ρ b (tm_fl us)) : od_W 6 37 0 (od_ent 37 [.ref x, .ref a, .ref b, .ref out]) [] (od_cm S M ρ) (od_Re S M ρ [out, x + 15, x + 17, x + 19, x + 21, x + 25] (ok_np us [] ts) none (fun ρ' => od_hl ρ' out (tm_fl (sp_np us [] ts)))) := by
  have e0 : od_ent 37 [.ref x, .ref a, .ref b, .ref out] = [some (.ref x), some (.ref a), some (.ref b), some (.ref out), none, none, none] := rfl
  rw [e0]
  have na' := na
  have nb' := nb
  simp only [List.mem_cons, List.not_mem_nil, or_false, not_or] at na nb
  refine od_W.rn (pc' := 1) (ls' := [some (.ref _), some (.ref _), some (.ref _), some (.ref _), none, none, none]) (st' := [.ref _]) 1 rfl ?_
  refine od_rV (as := []) rfl rfl rfl rfl (od_cm_r ho) rfl (Nat.le_of_ble_eq_true rfl) (Nat.le_of_ble_eq_true rfl) (lt_clear hS ho hb) (Nat.le_of_ble_eq_true rfl) (fun o M1 hq => ?_)
  refine od_Re.kp hq rfl (by simp) (od_fr0 ρ _) (fun _ => trivial) (fun ρ1 f1 g1 b1 p1 k1 => ?_)
  have hx1 := hx.fr (f1 a (by simp; omega))
  have hy1 := hy.fr (f1 b (by simp; omega))
  refine od_W.rn (pc' := 10) (ls' := [some (.ref _), some (.ref _), some (.ref _), some (.ref _), some (.int _), some (.int _), none]) (st' := []) 4 rfl ?_
  exact cl_np_loop (M := M) (ρ0 := ρ) hS hA hR ha hb' ho na' nb' no h2 ts [] ρ1 [] none h1 trivial b1 g1 hx1 hy1 p1
end NPR
