/-! Natural sums. -/
def sp_nt : Nat → List tm_T → List tm_T → List tm_T
  | 0, _, _ => []
  | _ + 1, [], us => us
  | _ + 1, t :: ts, [] => t :: ts
  | n + 1, t :: ts, u :: us => if tm_cmp t.1 u.1 = 1 then t :: sp_nt n ts (u :: us) else if tm_cmp t.1 u.1 = 0 then (t.1, t.2 + u.2) :: sp_nt n ts us else u :: sp_nt n (t :: ts) us
def sp_nat (ts us : List tm_T) : List tm_T := sp_nt (ts.length + us.length + 1) ts us
theorem sp_nt_al : ∀ (n : Nat) {ts us : List tm_T}, tm_al ts → tm_al us → tm_sm (tm_fl (sp_nt n ts us)) → tm_al (sp_nt n ts us) := by
  intro n
  induction n with
  | zero => intro ts us _ _ _; exact trivial
  | succ n ih =>
    intro ts us h1 h2 hf
    cases ts with
    | nil => exact h2
    | cons t ts =>
      cases us with
      | nil => exact h1
      | cons u us =>
        unfold sp_nt at hf ⊢
        by_cases c1 : tm_cmp t.1 u.1 = 1
        · rw [if_pos c1] at hf ⊢
          rw [tm_fl, tm_sm_app] at hf
          exact ⟨h1.1, ih h1.2 h2 hf.2⟩
        · rw [if_neg c1] at hf ⊢
          by_cases c2 : tm_cmp t.1 u.1 = 0
          · rw [if_pos c2] at hf ⊢
            rw [tm_fl, tm_sm_app, tm_sm_t] at hf
            exact ⟨⟨h1.1.1, Nat.le_add_right_of_le h1.1.2.1, hf.1.2⟩, ih h1.2 h2.2 hf.2⟩
          · rw [if_neg c2] at hf ⊢
            rw [tm_fl, tm_sm_app] at hf
            exact ⟨h2.1, ih h1 h2.2 hf.2⟩
theorem sp_nat_al {ts us : List tm_T} (h1 : tm_al ts) (h2 : tm_al us) (hf : tm_sm (tm_fl (sp_nat ts us))) : tm_al (sp_nat ts us) := sp_nt_al _ h1 h2 hf
section NAT
variable {S : Nat → Bool} {M : od_M} {ρ0 : od_Rm} {a b out : Nat}
theorem cl_nat_end {ρ : od_Rm} (hS : od_SS S) (ha : S a = true) (hb' : S b = true) (ho : S out = true) (na : out ≠ a) (nb : out ≠ b) {ua wa ub wb zs : List Nat} {kt : Int32} {w6 w7 w8 : Option Value} (hb : od_Bd ρ) (g : ∀ q, q ∉ [out] → ρ q = ρ0 q) (hx : od_hl ρ a (ua ++ wa)) (hy : od_hl ρ b (ub ++ wb)) (hz : od_hl ρ out zs) : od_W 3 36 141 [some (.ref a), some (.ref b), some (.ref out), some (.int (nI ua.length)), some (.int (nI ub.length)), some (.int kt), w6, w7, w8] [] (od_cm S M ρ) (od_Re S M ρ0 [out] (tm_ft (zs ++ (wa ++ wb))) none (fun ρ' => od_hl ρ' out (zs ++ (wa ++ wb)))) := by
  rw [← List.append_assoc]
  refine od_W.rn (pc' := 145) (ls' := [some (.ref _), some (.ref _), some (.ref _), some (.int _), some (.int _), some (.int _), _, _, _]) (st' := [.ref _, .int _, .ref _, .ref _]) 4 rfl ?_
  refine od_gL rfl rfl (ha) (hx.n) ?_
  refine od_rV (as := [.ref a, .int (nI ua.length), .int (nI (ua ++ wa).length)]) rfl rfl rfl rfl (od_cm_r ho) rfl (Nat.le_of_ble_eq_true rfl) (Nat.le_of_ble_eq_true rfl) (lt_putPart hS ho ha na hb hz (u := ua) (w := wa) (z := []) (by simpa using hx) rfl (by simp)) (Nat.le_of_ble_eq_true rfl) (fun o M1 hq => ?_)
  refine od_Re.kp hq rfl (by simp) (g) (tm_ft_l) (fun ρ1 f1 g1 b1 p1 k1 => ?_)
  have hy1 := hy.fr (f1 b (by simp; omega))
  refine od_W.rn (pc' := 156) (ls' := [some (.ref _), some (.ref _), some (.ref _), some (.int _), some (.int _), some (.int _), _, _, _]) (st' := [.ref _, .int _, .ref _, .ref _]) 4 rfl ?_
  refine od_gL rfl rfl (hb') (hy1.n) ?_
  refine od_rV (as := [.ref b, .int (nI ub.length), .int (nI (ub ++ wb).length)]) rfl rfl rfl rfl (od_cm_r ho) rfl (Nat.le_of_ble_eq_true rfl) (Nat.le_of_ble_eq_true rfl) (lt_putPart hS ho hb' nb b1 p1 (u := ub) (w := wb) (z := []) (by simpa using hy1) rfl (by simp)) (Nat.le_of_ble_eq_true rfl) (fun o M1 hq => ?_)
  refine od_Re.kp hq rfl (by simp) (g1) (fun z => z) (fun ρ2 f2 g2 b2 p2 k2 => ?_)
  refine od_W.fin rfl ?_
  exact od_Re.yes g2 b2 k2 p2
set_option maxRecDepth 100000 in
theorem cl_nat_loop (hS : od_SS S) (ha : S a = true) (hb' : S b = true) (ho : S out = true) (na : out ≠ a) (nb : out ≠ b) : ∀ (n : Nat) (ta tb da db : List tm_T) (ρ : od_Rm) (zs : List Nat) (kt : Nat) (w6 w7 w8 : Option Value), ta.length + tb.length < n → kt ≤ da.length + db.length → tm_al ta → tm_al tb → od_Bd ρ → (∀ q, q ∉ [out] → ρ q = ρ0 q) → od_hl ρ a (tm_fl da ++ tm_fl ta) → od_hl ρ b (tm_fl db ++ tm_fl tb) → od_hl ρ out zs → od_W 3 36 12 [some (.ref a), some (.ref b), some (.ref out), some (.int (nI (tm_fl da).length)), some (.int (nI (tm_fl db).length)), some (.int (nI kt)), w6, w7, w8] [] (od_cm S M ρ) (od_Re S M ρ0 [out] (tm_ft (zs ++ tm_fl (sp_nt n ta tb))) none (fun ρ' => od_hl ρ' out (zs ++ tm_fl (sp_nt n ta tb)))) := by
  intro n
  induction n with
  | zero => intro ta tb da db ρ zs kt w6 w7 w8 h; omega
  | succ n ih =>
    intro ta tb da db ρ zs kt w6 w7 w8 hn hkt al1 al2 hb g hx hy hz
    have hl := hx.n
    have h60 := hx.le hb
    have h3 := tm_fl_len da
    have hl' := hy.n
    have h60' := hy.le hb
    have h3' := tm_fl_len db
    rw [List.length_append] at hl h60 hl' h60'
    have hend := fun (w6 w7 w8 : Option Value) => cl_nat_end (M := M) (kt := nI kt) (w6 := w6) (w7 := w7) (w8 := w8) hS ha hb' ho na nb hb g hx hy hz
    by_cases h40 : kt < 40
    · refine od_W.rn (pc' := 16) (ls' := [some (.ref _), some (.ref _), some (.ref _), some (.int _), some (.int _), some (.int _), _, _, _]) (st' := [.int _, .int _]) 2 rfl ?_
      refine od_r2F rfl (of_decide_eq_true rfl) (decide_eq_false (nI_ge (b := 40) h40 (by omega))) ?_
      refine od_W.rn (pc' := 21) (ls' := [some (.ref _), some (.ref _), some (.ref _), some (.int _), some (.int _), some (.int _), _, _, _]) (st' := [.ref _, .int _]) 2 rfl ?_
      refine od_gL rfl rfl (ha) (hl) ?_
      cases ta with
      | nil =>
        rw [show sp_nt (n + 1) [] tb = tb from rfl]
        refine od_r2T rfl rfl (decide_eq_true (nI_le (by simp [tm_fl]) (by omega))) ?_
        exact hend _ _ _
      | cons t ta =>
        have hx2 : od_hl ρ a (tm_fl da ++ (tm_t t ++ tm_fl ta)) := hx
        rw [tm_fl, List.length_append, tm_t_len] at hl h60
        refine od_r2F rfl (of_decide_eq_true rfl) (decide_eq_false (nI_ge (by rw [tm_fl, List.length_append, tm_t_len]; omega) (by rw [tm_fl, List.length_append, tm_t_len]; omega))) ?_
        refine od_W.rn (pc' := 30) (ls' := [some (.ref _), some (.ref _), some (.ref _), some (.int _), some (.int _), some (.int _), _, _, _]) (st' := [.ref _, .int _]) 2 rfl ?_
        refine od_gL rfl rfl (hb') (hl') ?_
        cases tb with
        | nil =>
          rw [show sp_nt (n + 1) (t :: ta) [] = t :: ta from rfl]
          refine od_r2T rfl rfl (decide_eq_true (nI_le (by simp [tm_fl]) (by omega))) ?_
          rw [tm_fl, List.append_nil] at hend
          exact hend _ _ _
        | cons u tb =>
          have hy2 : od_hl ρ b (tm_fl db ++ (tm_t u ++ tm_fl tb)) := hy
          rw [tm_fl, List.length_append, tm_t_len] at hl' h60'
          refine od_r2F rfl (of_decide_eq_true rfl) (decide_eq_false (nI_ge (by rw [tm_fl, List.length_append, tm_t_len]; omega) (by rw [tm_fl, List.length_append, tm_t_len]; omega))) ?_
          have e : (tm_fl da).length + (tm_t t).length = (tm_fl (da ++ [t])).length := by rw [tm_fl_snoc, List.length_append]
          have e' : (tm_fl db).length + (tm_t u).length = (tm_fl (db ++ [u])).length := by rw [tm_fl_snoc, List.length_append]
          refine od_W.rn (pc' := 38) (ls' := [some (.ref _), some (.ref _), some (.ref _), some (.int _), some (.int _), some (.int _), _, _, _]) (st' := [.int _, .ref _]) 2 rfl ?_
          refine od_rV (as := [.int (nI (tm_fl da).length)]) rfl rfl rfl rfl (od_cm_r ha) rfl (Nat.le_of_ble_eq_true rfl) (Nat.le_of_ble_eq_true rfl) (lt_termEnd hS ha hb al1.1 hx2 rfl) (Nat.le_of_ble_eq_true rfl) (fun o M1 hq => ?_)
          obtain ⟨rfl, rfl⟩ := hq
          refine od_K.ret ?_
          refine od_W.rn (pc' := 46) (ls' := [some (.ref _), some (.ref _), some (.ref _), some (.int _), some (.int _), some (.int _), some (.int _), _, _]) (st' := [.int _, .ref _]) 3 rfl ?_
          refine od_rV (as := [.int (nI (tm_fl db).length)]) rfl rfl rfl rfl (od_cm_r hb') rfl (Nat.le_of_ble_eq_true rfl) (Nat.le_of_ble_eq_true rfl) (lt_termEnd hS hb' hb al2.1 hy2 rfl) (Nat.le_of_ble_eq_true rfl) (fun o M1 hq => ?_)
          obtain ⟨rfl, rfl⟩ := hq
          refine od_K.ret ?_
          refine od_W.rn (pc' := 60) (ls' := [some (.ref _), some (.ref _), some (.ref _), some (.int _), some (.int _), some (.int _), some (.int _), some (.int _), _]) (st' := [.int _, .int _, .ref _, .int _, .int _, .ref _]) 7 rfl ?_
          refine od_rSt (as := [.ref a, .int (nI (tm_fl da).length), .int (nI ((tm_fl da).length + (tm_t t).length)), .ref b, .int (nI (tm_fl db).length), .int (nI ((tm_fl db).length + (tm_t u).length))]) rfl rfl rfl rfl (Nat.le_of_ble_eq_true rfl) (Nat.le_of_ble_eq_true rfl) (lt_oe hS ha hb' hb hx2 hy2 rfl rfl rfl rfl) (Nat.le_of_ble_eq_true rfl) (fun o M1 hq => ?_)
          obtain ⟨rfl, rfl⟩ := hq
          refine od_K.ret ?_
          refine od_W.rn (pc' := 67) (ls' := [some (.ref _), some (.ref _), some (.ref _), some (.int _), some (.int _), some (.int _), some (.int _), some (.int _), some (.int _)]) (st' := [.int _]) 2 rfl ?_
          rcases tm_cmp_is t.1 u.1 with hc | hc | hc
          · rw [hc]
            rw [show sp_nt (n + 1) (t :: ta) (u :: tb) = u :: sp_nt n (t :: ta) tb by conv => lhs; unfold sp_nt; rw [if_neg (by rw [hc]; decide), if_neg (by rw [hc]; decide)], tm_fl, ← List.append_assoc]
            refine od_r1T rfl rfl (rfl) ?_
            refine od_W.rn (pc' := 86) (ls' := [some (.ref _), some (.ref _), some (.ref _), some (.int _), some (.int _), some (.int _), some (.int _), some (.int _), some (.int _)]) (st' := [.int _]) 1 rfl ?_
            refine od_r1F rfl (of_decide_eq_true rfl) (rfl) ?_
            refine od_W.rn (pc' := 95) (ls' := [some (.ref _), some (.ref _), some (.ref _), some (.int _), some (.int _), some (.int _), some (.int _), some (.int _), some (.int _)]) (st' := [.int _, .int _, .ref _, .ref _]) 4 rfl ?_
            refine od_rV (as := [.ref b, .int (nI (tm_fl db).length), .int (nI ((tm_fl db).length + (tm_t u).length))]) rfl rfl rfl rfl (od_cm_r ho) rfl (Nat.le_of_ble_eq_true rfl) (Nat.le_of_ble_eq_true rfl) (lt_putPart hS ho hb' nb hb hz hy2 rfl rfl) (Nat.le_of_ble_eq_true rfl) (fun o M1 hq => ?_)
            refine od_Re.kp hq rfl (by simp) (g) (tm_ft_l) (fun ρ1 f1 g1 b1 p1 k1 => ?_)
            have hx3 := hx.fr (f1 a (by simp; omega))
            have hy3 := hy2.fr (f1 b (by simp; omega))
            refine od_W.rn (pc' := 12) (ls' := [some (.ref _), some (.ref _), some (.ref _), some (.int _), some (.int _), some (.int _), some (.int _), some (.int _), some (.int _)]) (st' := []) 5 rfl ?_
            rw [e', nI_inc kt]
            exact ih (t :: ta) tb da (db ++ [u]) ρ1 _ (kt + 1) _ _ _ (by simp at hn ⊢; omega) (by simp; omega) al1 al2.2 b1 g1 hx3 (by rw [tm_fl_snoc, List.append_assoc]; exact hy3) p1
          · rw [hc]
            rw [show sp_nt (n + 1) (t :: ta) (u :: tb) = (t.1, t.2 + u.2) :: sp_nt n ta tb by conv => lhs; unfold sp_nt; rw [if_neg (by rw [hc]; decide), if_pos hc], tm_fl, ← List.append_assoc]
            refine od_r1T rfl rfl (rfl) ?_
            refine od_W.rn (pc' := 86) (ls' := [some (.ref _), some (.ref _), some (.ref _), some (.int _), some (.int _), some (.int _), some (.int _), some (.int _), some (.int _)]) (st' := [.int _]) 1 rfl ?_
            refine od_r1T rfl rfl (rfl) ?_
            refine od_W.rn (pc' := 113) (ls' := [some (.ref _), some (.ref _), some (.ref _), some (.int _), some (.int _), some (.int _), some (.int _), some (.int _), some (.int _)]) (st' := [.int _, .ref _, .int _, .int _, .ref _, .ref _]) 6 rfl ?_
            refine od_rV (as := [.int (nI ((tm_fl da).length + (tm_t t).length))]) rfl rfl rfl rfl (od_cm_r ha) rfl (Nat.le_of_ble_eq_true rfl) (Nat.le_of_ble_eq_true rfl) (lt_coefficient hS ha hb hx2 rfl) (Nat.le_of_ble_eq_true rfl) (fun o M1 hq => ?_)
            obtain ⟨rfl, rfl⟩ := hq
            refine od_K.ret ?_
            refine od_W.rn (pc' := 120) (ls' := [some (.ref _), some (.ref _), some (.ref _), some (.int _), some (.int _), some (.int _), some (.int _), some (.int _), some (.int _)]) (st' := [.int _, .ref _, .long _, .int _, .int _, .ref _, .ref _]) 3 rfl ?_
            refine od_rV (as := [.int (nI ((tm_fl db).length + (tm_t u).length))]) rfl rfl rfl rfl (od_cm_r hb') rfl (Nat.le_of_ble_eq_true rfl) (Nat.le_of_ble_eq_true rfl) (lt_coefficient hS hb' hb hy2 rfl) (Nat.le_of_ble_eq_true rfl) (fun o M1 hq => ?_)
            obtain ⟨rfl, rfl⟩ := hq
            refine od_K.ret ?_
            refine od_W.rn (pc' := 125) (ls' := [some (.ref _), some (.ref _), some (.ref _), some (.int _), some (.int _), some (.int _), some (.int _), some (.int _), some (.int _)]) (st' := [.long _, .int _, .int _, .ref _, .ref _]) 2 rfl ?_
            have c1 := al1.1.2
            have c2 := al2.1.2
            unfold tm_c at c1 c2
            rw [nI_1000 c1.2, nI_1000 c2.2, lN_add]
            refine od_rV (as := [.ref a, .int (nI (tm_fl da).length), .int (nI ((tm_fl da).length + (tm_t t).length)), .long (lN (t.2 + u.2))]) rfl rfl rfl rfl (od_cm_r ho) rfl (Nat.le_of_ble_eq_true rfl) (Nat.le_of_ble_eq_true rfl) (lt_putTermAgain hS ho ha na hb hz hx2 rfl rfl (by omega) (by omega)) (Nat.le_of_ble_eq_true rfl) (fun o M1 hq => ?_)
            refine od_Re.kp hq rfl (by simp) (g) (tm_ft_l) (fun ρ1 f1 g1 b1 p1 k1 => ?_)
            have hx3 := hx2.fr (f1 a (by simp; omega))
            have hy3 := hy2.fr (f1 b (by simp; omega))
            refine od_W.rn (pc' := 12) (ls' := [some (.ref _), some (.ref _), some (.ref _), some (.int _), some (.int _), some (.int _), some (.int _), some (.int _), some (.int _)]) (st' := []) 6 rfl ?_
            rw [e, e', nI_inc kt]
            exact ih ta tb (da ++ [t]) (db ++ [u]) ρ1 _ (kt + 1) _ _ _ (by simp at hn ⊢; omega) (by simp; omega) al1.2 al2.2 b1 g1 (by rw [tm_fl_snoc, List.append_assoc]; exact hx3) (by rw [tm_fl_snoc, List.append_assoc]; exact hy3) p1
          · rw [hc]
            rw [show sp_nt (n + 1) (t :: ta) (u :: tb) = t :: sp_nt n ta (u :: tb) by conv => lhs; unfold sp_nt; rw [if_pos hc], tm_fl, ← List.append_assoc]
            refine od_r1F rfl (of_decide_eq_true rfl) (rfl) ?_
            refine od_W.rn (pc' := 75) (ls' := [some (.ref _), some (.ref _), some (.ref _), some (.int _), some (.int _), some (.int _), some (.int _), some (.int _), some (.int _)]) (st' := [.int _, .int _, .ref _, .ref _]) 4 rfl ?_
            refine od_rV (as := [.ref a, .int (nI (tm_fl da).length), .int (nI ((tm_fl da).length + (tm_t t).length))]) rfl rfl rfl rfl (od_cm_r ho) rfl (Nat.le_of_ble_eq_true rfl) (Nat.le_of_ble_eq_true rfl) (lt_putPart hS ho ha na hb hz hx2 rfl rfl) (Nat.le_of_ble_eq_true rfl) (fun o M1 hq => ?_)
            refine od_Re.kp hq rfl (by simp) (g) (tm_ft_l) (fun ρ1 f1 g1 b1 p1 k1 => ?_)
            have hx3 := hx2.fr (f1 a (by simp; omega))
            have hy3 := hy.fr (f1 b (by simp; omega))
            refine od_W.rn (pc' := 12) (ls' := [some (.ref _), some (.ref _), some (.ref _), some (.int _), some (.int _), some (.int _), some (.int _), some (.int _), some (.int _)]) (st' := []) 5 rfl ?_
            rw [e, nI_inc kt]
            exact ih ta (u :: tb) (da ++ [t]) db ρ1 _ (kt + 1) _ _ _ (by simp at hn ⊢; omega) (by simp; omega) al1.2 al2 b1 g1 (by rw [tm_fl_snoc, List.append_assoc]; exact hx3) hy3 p1
    · have e1 : tm_fl ta = [] := List.length_eq_zero_iff.mp (by omega)
      have e2 : tm_fl tb = [] := List.length_eq_zero_iff.mp (by omega)
      have e3 : ta = [] := List.length_eq_zero_iff.mp (by have := tm_fl_len ta; rw [e1] at this; simp at this; omega)
      have e4 : tb = [] := List.length_eq_zero_iff.mp (by have := tm_fl_len tb; rw [e2] at this; simp at this; omega)
      subst e3
      subst e4
      rw [show sp_nt (n + 1) [] [] = [] from rfl]
      refine od_W.rn (pc' := 16) (ls' := [some (.ref _), some (.ref _), some (.ref _), some (.int _), some (.int _), some (.int _), _, _, _]) (st' := [.int _, .int _]) 2 rfl ?_
      refine od_r2T rfl rfl (decide_eq_true (nI_le (a := 40) (by omega) (by omega))) ?_
      exact hend _ _ _
theorem lt_makeNaturalSum {ρ : od_Rm} (hS : od_SS S) (ha : S a = true) (hb' : S b = true) (ho : S out = true) (na : out ≠ a) (nb : out ≠ b) (hb : od_Bd ρ) {ts us : List tm_T} (h1 : tm_al ts) (h2 : tm_al us) (hx : od_hl ρ a (tm_fl ts)) (hy : od_hl ρ b (tm_fl us)) : od_W 3 36 0 (od_ent 36 [.ref a, .ref b, .ref out]) [] (od_cm S M ρ) (od_Re S M ρ [out] (tm_ft (tm_fl (sp_nat ts us))) none (fun ρ' => od_hl ρ' out (tm_fl (sp_nat ts us)))) := by
  have e0 : od_ent 36 [.ref a, .ref b, .ref out] = [some (.ref a), some (.ref b), some (.ref out), none, none, none, none, none, none] := rfl
  rw [e0]
  refine od_W.rn (pc' := 1) (ls' := [some (.ref _), some (.ref _), some (.ref _), none, none, none, none, none, none]) (st' := [.ref _]) 1 rfl ?_
  refine od_rV (as := []) rfl rfl rfl rfl (od_cm_r ho) rfl (Nat.le_of_ble_eq_true rfl) (Nat.le_of_ble_eq_true rfl) (lt_clear hS ho hb) (Nat.le_of_ble_eq_true rfl) (fun o M1 hq => ?_)
  refine od_Re.kp hq rfl (by simp) (od_fr0 ρ _) (fun _ => trivial) (fun ρ1 f1 g1 b1 p1 k1 => ?_)
  have hx1 := hx.fr (f1 a (by simp; omega))
  have hy1 := hy.fr (f1 b (by simp; omega))
  refine od_W.rn (pc' := 12) (ls' := [some (.ref _), some (.ref _), some (.ref _), some (.int _), some (.int _), some (.int _), none, none, none]) (st' := []) 6 rfl ?_
  have := cl_nat_loop (M := M) (ρ0 := ρ) hS ha hb' ho na nb (ts.length + us.length + 1) ts us [] [] ρ1 [] 0 none none none (by omega) (by simp) h1 h2 b1 g1 hx1 hy1 p1
  rw [List.nil_append] at this
  exact this
end NAT
