/-! Quotients and remainders. -/
def sp_tm (u : tm_T) (us : List tm_T) : List tm_T → Nat
  | [] => 0
  | r :: rs => if tm_cmp r.1 u.1 = -1 then 0 else if r.2 / u.2 * u.2 = r.2 ∧ tm_cmp (tm_fl rs) (tm_fl us) = -1 then r.2 / u.2 - 1 else r.2 / u.2
theorem sp_tm_c (u r : tm_T) (us rs : List tm_T) : sp_tm u us (r :: rs) = if tm_cmp r.1 u.1 = -1 then 0 else if r.2 / u.2 * u.2 = r.2 ∧ tm_cmp (tm_fl rs) (tm_fl us) = -1 then r.2 / u.2 - 1 else r.2 / u.2 := rfl
def sp_dv (u : tm_T) : List tm_T → List tm_T × List tm_T
  | [] => ([], [])
  | t :: ts => if tm_cmp t.1 u.1 = 1 then ((tm_fl (sp_dif (tm_tp t.1) (tm_tp u.1)), t.2) :: (sp_dv u ts).1, (sp_dv u ts).2) else ([], t :: ts)
def sp_nu (n : Nat) : List tm_T := if n = 0 then [] else [([], n)]
def sp_ms (u : tm_T) (us : List tm_T) (n : Nat) : List tm_T := if n = 0 then [] else (u.1, n * u.2) :: us
def sp_quo (ts : List tm_T) (u : tm_T) (us : List tm_T) : List tm_T := (sp_dv u ts).1 ++ sp_nu (sp_tm u us (sp_dv u ts).2)
def sp_rem (ts : List tm_T) (u : tm_T) (us : List tm_T) : List tm_T := sp_dif (sp_dv u ts).2 (sp_ms u us (sp_tm u us (sp_dv u ts).2))
theorem sp_tm_mul {u : tm_T} {us : List tm_T} : ∀ {rs : List tm_T}, tm_al rs → sp_tm u us rs * u.2 ≤ 1000000 := by
  intro rs h
  cases rs with
  | nil => show 0 * u.2 ≤ 1000000; omega
  | cons r rs =>
    have h1 := h.1.2.2
    have h2 := Nat.div_mul_le_self r.2 u.2
    rw [sp_tm_c]
    split
    · omega
    · split
      · rw [Nat.sub_mul]; omega
      · omega
theorem sp_tm_le {u : tm_T} {us : List tm_T} : ∀ {rs : List tm_T}, tm_al rs → sp_tm u us rs ≤ 1000000 := by
  intro rs h
  cases rs with
  | nil => exact Nat.zero_le _
  | cons r rs =>
    have h1 := h.1.2.2
    have h2 := Nat.div_le_self r.2 u.2
    rw [sp_tm_c]
    split
    · omega
    · split
      · omega
      · omega
theorem sp_ms_al {u : tm_T} {us rs : List tm_T} (h1 : tm_al (u :: us)) (h2 : tm_al rs) : tm_al (sp_ms u us (sp_tm u us rs)) := by
  unfold sp_ms
  split
  · exact trivial
  · exact ⟨⟨h1.1.1, Nat.mul_pos (by omega) h1.1.2.1, sp_tm_mul h2⟩, h1.2⟩
theorem sp_dv_al {u : tm_T} : ∀ {ts : List tm_T}, tm_al ts → tm_al (sp_dv u ts).1 ∧ tm_al (sp_dv u ts).2 := by
  intro ts
  induction ts with
  | nil => intro _; exact ⟨trivial, trivial⟩
  | cons t ts ih =>
    intro h
    unfold sp_dv
    split
    · exact ⟨⟨⟨tm_fl_W (sp_dif_al (tm_al_tp h.1.1)), h.1.2⟩, (ih h.2).1⟩, (ih h.2).2⟩
    · exact ⟨trivial, h⟩
theorem sp_nu_al {n : Nat} (h : n ≤ 1000000) : tm_al (sp_nu n) := by
  unfold sp_nu
  split
  · exact trivial
  · exact ⟨⟨tm_nil, by unfold tm_c; dsimp only; omega⟩, trivial⟩
theorem sp_quo_al {ts us : List tm_T} {u : tm_T} (h1 : tm_al ts) : tm_al (sp_quo ts u us) := tm_al_app.mpr ⟨(sp_dv_al h1).1, sp_nu_al (sp_tm_le (sp_dv_al h1).2)⟩
theorem sp_rem_al {ts us : List tm_T} {u : tm_T} (h1 : tm_al ts) : tm_al (sp_rem ts u us) := sp_dif_al (sp_dv_al h1).2
/-- the object of division at x; its rows follow it -/
abbrev od_DV (M : od_M) (x : Nat) : Prop := M.2.2 x = some (od_ob 2 [.ref (x + 1), .ref (x + 3), .ref (x + 5), .ref (x + 7), .ref (x + 9)])
def od_DVs (S : Nat → Bool) (x : Nat) : Prop := od_no S x ∧ ∀ i, i < 5 → S (x + 1 + 2 * i) = true
section DIV
variable {S : Nat → Bool} {M : od_M} {ρ0 : od_Rm} {x a b quo rem : Nat}
theorem lt_termEnd0 {ρ : od_Rm} {q : Nat} (hq' : S q = true) (hy : od_hl ρ q []) : od_W 0 9 0 (od_ent 9 [.ref q, .int (nI 0)]) [] (od_cm S M ρ) (fun o M' => o = .inl (some (.int (nI 0))) ∧ M' = od_cm S M ρ) := by
  have e0 : od_ent 9 [.ref q, .int (nI 0)] = [some (.ref q), some (.int (nI 0)), none, none] := rfl
  rw [e0]
  refine od_W.rn (pc' := 6) (ls' := [some (.ref _), some (.int _), some (.int _), some (.int _)]) (st' := [.ref _, .int _]) 6 rfl ?_
  refine od_gL rfl rfl (hq') (hy.n) ?_
  refine od_r2T rfl rfl (rfl) ?_
  refine od_W.rn (pc' := 44) (ls' := [some (.ref _), some (.int _), some (.int _), some (.int _)]) (st' := [.ref _]) 1 rfl ?_
  refine od_gL rfl rfl (hq') (hy.n) ?_
  refine od_W.fin rfl ?_
  exact ⟨rfl, rfl⟩
theorem lt_op {ρ : od_Rm} {p q : Nat} {u w u' w' : List Nat} (hS : od_SS S) (hp : S p = true) (hq' : S q = true) (hb : od_Bd ρ) (hx : od_hl ρ p (u ++ w)) (hy : od_hl ρ q (u' ++ w')) {e1 e2 e3 e4 : Nat} (h1 : e1 = u.length) (h2 : e2 = (u ++ w).length) (h3 : e3 = u'.length) (h4 : e4 = (u' ++ w').length) : od_W 1 28 0 (od_ent 28 [.ref p, .int (nI e1), .int (nI e2), .ref q, .int (nI e3), .int (nI e4)]) [] (od_cm S M ρ) (fun o M' => o = .inl (some (.int (tm_cmp w w'))) ∧ M' = od_cm S M ρ) := by
  subst h1 h2 h3 h4
  have l1 := hx.le hb
  have l2 := hy.le hb
  have a1 := hx.at
  have a2 := hy.at
  rw [tm_at_app, Nat.zero_add] at a1 a2
  rw [List.length_append] at l1 l2
  rw [List.length_append, List.length_append]
  exact ct_orderOfParts hS hp hq' l1 l2 (tm_sm_app.mp hx.2).2 (tm_sm_app.mp hy.2).2 a1.2 a2.2
set_option maxRecDepth 100000 in
theorem lt_timesInRest {ρ : od_Rm} (hS : od_SS S) (hA : od_DV M x) (hR : od_DVs S x) (hb' : S b = true) (hb : od_Bd ρ) {u : tm_T} {us rs : List tm_T} (h1 : tm_al (u :: us)) (h2 : tm_al rs) (hx : od_hl ρ (x + 7) (tm_fl rs)) (hy : od_hl ρ b (tm_fl (u :: us))) : od_W 3 42 0 (od_ent 42 [.ref x, .ref b, .int (nI (tm_t u).length)]) [] (od_cm S M ρ) (fun o M' => o = .inl (some (.int (nI (sp_tm u us rs)))) ∧ M' = od_cm S M ρ) := by
  have e0 : od_ent 42 [.ref x, .ref b, .int (nI (tm_t u).length)] = [some (.ref x), some (.ref b), some (.int (nI (tm_t u).length)), none, none, none, none, none] := rfl
  rw [e0]
  have r7 : S (x + 7) = true := hR.2 3 (by omega)
  have hxn : od_no S x := hR.1
  have hy2 : od_hl ρ b ([] ++ (tm_t u ++ tm_fl us)) := hy
  have hc := h1.1.2
  unfold tm_c at hc
  refine od_W.rn (pc' := 1) (ls' := [some (.ref _), some (.ref _), some (.int _), none, none, none, none, none]) (st' := [.ref _]) 1 rfl ?_
  refine od_rG rfl (od_cm_o hxn hA) rfl rfl ?_
  refine od_W.rn (pc' := 5) (ls' := [some (.ref _), some (.ref _), some (.int _), none, none, none, none, none]) (st' := [.int _, .ref _]) 1 rfl ?_
  cases rs with
  | nil =>
    refine od_rV (as := [.int (nI 0)]) rfl rfl rfl rfl (od_cm_r r7) rfl (Nat.le_of_ble_eq_true rfl) (Nat.le_of_ble_eq_true rfl) (lt_termEnd0 r7 hx) (Nat.le_of_ble_eq_true rfl) (fun o M1 hq => ?_)
    obtain ⟨rfl, rfl⟩ := hq
    refine od_K.ret ?_
    refine od_W.rn (pc' := 11) (ls' := [some (.ref _), some (.ref _), some (.int _), some (.int _), none, none, none, none]) (st' := [.int _, .ref _]) 3 rfl ?_
    refine od_rV (as := [.int (nI (tm_t u).length)]) rfl rfl rfl rfl (od_cm_r hb') rfl (Nat.le_of_ble_eq_true rfl) (Nat.le_of_ble_eq_true rfl) (lt_coefficient hS hb' hb hy2 (by simp)) (Nat.le_of_ble_eq_true rfl) (fun o M1 hq => ?_)
    obtain ⟨rfl, rfl⟩ := hq
    refine od_K.ret ?_
    refine od_W.rn (pc' := 17) (ls' := [some (.ref _), some (.ref _), some (.int _), some (.int _), some (.int _), none, none, none]) (st' := [.ref _]) 2 rfl ?_
    refine od_rG rfl (od_cm_o hxn hA) rfl rfl ?_
    refine od_rV (as := []) rfl rfl rfl rfl (od_cm_r r7) rfl (Nat.le_of_ble_eq_true rfl) (Nat.le_of_ble_eq_true rfl) (lt_isZero hS r7 hb hx) (Nat.le_of_ble_eq_true rfl) (fun o M1 hq => ?_)
    obtain ⟨rfl, rfl⟩ := hq
    refine od_K.ret ?_
    refine od_r1T rfl rfl (rfl) ?_
    refine od_W.rn (pc' := 48) (ls' := [some (.ref _), some (.ref _), some (.int _), some (.int _), some (.int _), none, none, none]) (st' := [.int _]) 1 rfl ?_
    refine od_W.fin rfl ?_
    exact ⟨rfl, rfl⟩
  | cons r rs =>
    have hx2 : od_hl ρ (x + 7) ([] ++ (tm_t r ++ tm_fl rs)) := hx
    have hcr := h2.1.2
    unfold tm_c at hcr
    refine od_rV (as := [.int (nI 0)]) rfl rfl rfl rfl (od_cm_r r7) rfl (Nat.le_of_ble_eq_true rfl) (Nat.le_of_ble_eq_true rfl) (lt_termEnd hS r7 hb h2.1 hx2 rfl) (Nat.le_of_ble_eq_true rfl) (fun o M1 hq => ?_)
    obtain ⟨rfl, rfl⟩ := hq
    refine od_K.ret ?_
    rw [Nat.zero_add]
    refine od_W.rn (pc' := 11) (ls' := [some (.ref _), some (.ref _), some (.int _), some (.int _), none, none, none, none]) (st' := [.int _, .ref _]) 3 rfl ?_
    refine od_rV (as := [.int (nI (tm_t u).length)]) rfl rfl rfl rfl (od_cm_r hb') rfl (Nat.le_of_ble_eq_true rfl) (Nat.le_of_ble_eq_true rfl) (lt_coefficient hS hb' hb hy2 (by simp)) (Nat.le_of_ble_eq_true rfl) (fun o M1 hq => ?_)
    obtain ⟨rfl, rfl⟩ := hq
    refine od_K.ret ?_
    refine od_W.rn (pc' := 17) (ls' := [some (.ref _), some (.ref _), some (.int _), some (.int _), some (.int _), none, none, none]) (st' := [.ref _]) 2 rfl ?_
    refine od_rG rfl (od_cm_o hxn hA) rfl rfl ?_
    refine od_rV (as := []) rfl rfl rfl rfl (od_cm_r r7) rfl (Nat.le_of_ble_eq_true rfl) (Nat.le_of_ble_eq_true rfl) (lt_isZero hS r7 hb hx) (Nat.le_of_ble_eq_true rfl) (fun o M1 hq => ?_)
    obtain ⟨rfl, rfl⟩ := hq
    refine od_K.ret ?_
    refine od_r1F rfl (of_decide_eq_true rfl) (rfl) ?_
    refine od_W.rn (pc' := 29) (ls' := [some (.ref _), some (.ref _), some (.int _), some (.int _), some (.int _), none, none, none]) (st' := [.int _, .int _]) 2 rfl ?_
    refine od_r2F rfl (of_decide_eq_true rfl) (decide_eq_false (nI_nlt (b := 1) hc.1 (by omega))) ?_
    refine od_W.rn (pc' := 33) (ls' := [some (.ref _), some (.ref _), some (.int _), some (.int _), some (.int _), none, none, none]) (st' := [.ref _]) 1 rfl ?_
    refine od_rG rfl (od_cm_o hxn hA) rfl rfl ?_
    refine od_W.rn (pc' := 41) (ls' := [some (.ref _), some (.ref _), some (.int _), some (.int _), some (.int _), none, none, none]) (st' := [.int _, .int _, .ref _, .int _, .int _, .ref _]) 5 rfl ?_
    refine od_rSt (as := [.ref (x + 7), .int (nI 0), .int (nI (tm_t r).length), .ref b, .int (nI 0), .int (nI (tm_t u).length)]) rfl rfl rfl rfl (Nat.le_of_ble_eq_true rfl) (Nat.le_of_ble_eq_true rfl) (lt_oe hS r7 hb' hb hx2 hy2 rfl (by omega) rfl (by omega)) (Nat.le_of_ble_eq_true rfl) (fun o M1 hq => ?_)
    obtain ⟨rfl, rfl⟩ := hq
    refine od_K.ret ?_
    by_cases hm : tm_cmp r.1 u.1 = -1
    · rw [hm, show sp_tm u us (r :: rs) = 0 from if_pos hm]
      refine od_r1F rfl (of_decide_eq_true rfl) (rfl) ?_
      refine od_W.rn (pc' := 48) (ls' := [some (.ref _), some (.ref _), some (.int _), some (.int _), some (.int _), none, none, none]) (st' := [.int _]) 1 rfl ?_
      refine od_W.fin rfl ?_
      exact ⟨rfl, rfl⟩
    · have hge : od_cond .ge (tm_cmp r.1 u.1) 0 = true := by rcases tm_cmp_is r.1 u.1 with z | z | z; exact absurd z hm; rw [z]; rfl; rw [z]; rfl
      have hd1 := Nat.div_mul_le_self r.2 u.2
      have hd2 := Nat.div_le_self r.2 u.2
      refine od_r1T rfl rfl (hge) ?_
      refine od_W.rn (pc' := 50) (ls' := [some (.ref _), some (.ref _), some (.int _), some (.int _), some (.int _), none, none, none]) (st' := [.ref _]) 1 rfl ?_
      refine od_rG rfl (od_cm_o hxn hA) rfl rfl ?_
      refine od_W.rn (pc' := 54) (ls' := [some (.ref _), some (.ref _), some (.int _), some (.int _), some (.int _), none, none, none]) (st' := [.int _, .ref _]) 1 rfl ?_
      refine od_rV (as := [.int (nI (tm_t r).length)]) rfl rfl rfl rfl (od_cm_r r7) rfl (Nat.le_of_ble_eq_true rfl) (Nat.le_of_ble_eq_true rfl) (lt_coefficient hS r7 hb hx2 (by simp)) (Nat.le_of_ble_eq_true rfl) (fun o M1 hq => ?_)
      obtain ⟨rfl, rfl⟩ := hq
      refine od_K.ret ?_
      refine od_W.rn (pc' := 59) (ls' := [some (.ref _), some (.ref _), some (.int _), some (.int _), some (.int _), none, none, none]) (st' := [.int _, .int _]) 1 rfl ?_
      refine od_rDidiv rfl (rfl) (rfl) (hc.1) (by omega) (by omega) ?_
      refine od_W.rn (pc' := 68) (ls' := [some (.ref _), some (.ref _), some (.int _), some (.int _), some (.int _), some (.int _), none, none]) (st' := [.ref _, .int _]) 5 rfl ?_
      rw [nI_mulN]
      refine od_rG rfl (od_cm_o hxn hA) rfl rfl ?_
      refine od_W.rn (pc' := 72) (ls' := [some (.ref _), some (.ref _), some (.int _), some (.int _), some (.int _), some (.int _), none, none]) (st' := [.int _, .ref _, .int _]) 1 rfl ?_
      refine od_rV (as := [.int (nI (tm_t r).length)]) rfl rfl rfl rfl (od_cm_r r7) rfl (Nat.le_of_ble_eq_true rfl) (Nat.le_of_ble_eq_true rfl) (lt_coefficient hS r7 hb hx2 (by simp)) (Nat.le_of_ble_eq_true rfl) (fun o M1 hq => ?_)
      obtain ⟨rfl, rfl⟩ := hq
      refine od_K.ret ?_
      have tail : ∀ ev : Int32, (ev = if r.2 / u.2 * u.2 = r.2 then 1 else 0) → od_W 3 42 83 [some (.ref x), some (.ref b), some (.int (nI (tm_t u).length)), some (.int (nI (tm_t r).length)), some (.int (nI u.2)), some (.int (nI (r.2 / u.2))), none, none] [.int ev] (od_cm S M ρ) (fun o M' => o = .inl (some (.int (nI (sp_tm u us (r :: rs))))) ∧ M' = od_cm S M ρ) := by
        intro ev hev
        refine od_W.rn (pc' := 86) (ls' := [some (.ref _), some (.ref _), some (.int _), some (.int _), some (.int _), some (.int _), some (.int _), none]) (st' := [.ref _]) 2 rfl ?_
        refine od_rG rfl (od_cm_o hxn hA) rfl rfl ?_
        refine od_W.rn (pc' := 91) (ls' := [some (.ref _), some (.ref _), some (.int _), some (.int _), some (.int _), some (.int _), some (.int _), none]) (st' := [.ref _, .int _, .ref _]) 2 rfl ?_
        refine od_rG rfl (od_cm_o hxn hA) rfl rfl ?_
        refine od_gL rfl rfl (r7) (hx2.n) ?_
        refine od_W.rn (pc' := 100) (ls' := [some (.ref _), some (.ref _), some (.int _), some (.int _), some (.int _), some (.int _), some (.int _), none]) (st' := [.ref _, .int _, .ref _, .int _, .int _, .ref _]) 3 rfl ?_
        refine od_gL rfl rfl (hb') (hy2.n) ?_
        refine od_rSt (as := [.ref (x + 7), .int (nI (tm_t r).length), .int (nI ([] ++ (tm_t r ++ tm_fl rs)).length), .ref b, .int (nI (tm_t u).length), .int (nI ([] ++ (tm_t u ++ tm_fl us)).length)]) rfl rfl rfl rfl (Nat.le_of_ble_eq_true rfl) (Nat.le_of_ble_eq_true rfl) (lt_op hS r7 hb' hb (u := tm_t r) (w := tm_fl rs) (u' := tm_t u) (w' := tm_fl us) hx hy rfl rfl rfl rfl) (Nat.le_of_ble_eq_true rfl) (fun o M1 hq => ?_)
        obtain ⟨rfl, rfl⟩ := hq
        refine od_K.ret ?_
        by_cases hl : tm_cmp (tm_fl rs) (tm_fl us) = -1
        · rw [hl]
          refine od_r1F rfl (of_decide_eq_true rfl) (rfl) ?_
          refine od_W.rn (pc' := 118) (ls' := [some (.ref _), some (.ref _), some (.int _), some (.int _), some (.int _), some (.int _), some (.int _), some (.int _)]) (st' := [.int _]) 4 rfl ?_
          by_cases hev2 : r.2 / u.2 * u.2 = r.2
          · rw [if_pos hev2] at hev
            subst hev
            refine od_r1F rfl (of_decide_eq_true rfl) (rfl) ?_
            refine od_W.rn (pc' := 123) (ls' := [some (.ref _), some (.ref _), some (.int _), some (.int _), some (.int _), some (.int _), some (.int _), some (.int _)]) (st' := [.int _]) 1 rfl ?_
            refine od_r1F rfl (of_decide_eq_true rfl) (rfl) ?_
            refine od_W.rn (pc' := 135) (ls' := [some (.ref _), some (.ref _), some (.int _), some (.int _), some (.int _), some (.int _), some (.int _), some (.int _)]) (st' := [.int _]) 4 rfl ?_
            refine od_W.fin rfl ?_
            refine ⟨?_, rfl⟩
            have hp : 0 < r.2 / u.2 := by
              rcases Nat.eq_zero_or_pos (r.2 / u.2) with z | z
              · rw [z] at hev2; omega
              · exact z
            rw [show sp_tm u us (r :: rs) = r.2 / u.2 - 1 by rw [sp_tm_c, if_neg hm, if_pos ⟨hev2, hl⟩]]
            rw [← nI_subI (a := 1) hp]
            rfl
          · rw [if_neg hev2] at hev
            subst hev
            refine od_r1T rfl rfl (rfl) ?_
            refine od_W.rn (pc' := 135) (ls' := [some (.ref _), some (.ref _), some (.int _), some (.int _), some (.int _), some (.int _), some (.int _), some (.int _)]) (st' := [.int _]) 1 rfl ?_
            refine od_W.fin rfl ?_
            exact ⟨by rw [show sp_tm u us (r :: rs) = r.2 / u.2 by rw [sp_tm_c, if_neg hm, if_neg (fun z => hev2 z.1)]], rfl⟩
        · have hge2 : od_cond .ge (tm_cmp (tm_fl rs) (tm_fl us)) 0 = true := by rcases tm_cmp_is (tm_fl rs) (tm_fl us) with z | z | z; exact absurd z hl; rw [z]; rfl; rw [z]; rfl
          have es : sp_tm u us (r :: rs) = r.2 / u.2 := by rw [sp_tm_c, if_neg hm, if_neg (fun z => hl z.2)]
          refine od_r1T rfl rfl (hge2) ?_
          refine od_W.rn (pc' := 118) (ls' := [some (.ref _), some (.ref _), some (.int _), some (.int _), some (.int _), some (.int _), some (.int _), some (.int _)]) (st' := [.int _]) 3 rfl ?_
          by_cases hev2 : r.2 / u.2 * u.2 = r.2
          · rw [if_pos hev2] at hev
            subst hev
            refine od_r1F rfl (of_decide_eq_true rfl) (rfl) ?_
            refine od_W.rn (pc' := 123) (ls' := [some (.ref _), some (.ref _), some (.int _), some (.int _), some (.int _), some (.int _), some (.int _), some (.int _)]) (st' := [.int _]) 1 rfl ?_
            refine od_r1T rfl rfl (rfl) ?_
            refine od_W.rn (pc' := 135) (ls' := [some (.ref _), some (.ref _), some (.int _), some (.int _), some (.int _), some (.int _), some (.int _), some (.int _)]) (st' := [.int _]) 1 rfl ?_
            refine od_W.fin rfl ?_
            exact ⟨by rw [es], rfl⟩
          · rw [if_neg hev2] at hev
            subst hev
            refine od_r1T rfl rfl (rfl) ?_
            refine od_W.rn (pc' := 135) (ls' := [some (.ref _), some (.ref _), some (.int _), some (.int _), some (.int _), some (.int _), some (.int _), some (.int _)]) (st' := [.int _]) 1 rfl ?_
            refine od_W.fin rfl ?_
            exact ⟨by rw [es], rfl⟩
      by_cases hev2 : r.2 / u.2 * u.2 = r.2
      · refine od_r2F rfl (of_decide_eq_true rfl) ((show (!decide (nI (r.2 / u.2 * u.2) = nI r.2)) = false by rw [hev2, decide_eq_true rfl]; rfl)) ?_
        refine od_W.rn (pc' := 83) (ls' := [some (.ref _), some (.ref _), some (.int _), some (.int _), some (.int _), some (.int _), none, none]) (st' := [.int _]) 2 rfl ?_
        exact tail 1 (if_pos hev2).symm
      · refine od_r2T rfl rfl ((show (!decide (nI (r.2 / u.2 * u.2) = nI r.2)) = true by rw [decide_eq_false (fun z => hev2 ((nI_eq (by omega) (by omega)).mp z))]; rfl)) ?_
        refine od_W.rn (pc' := 83) (ls' := [some (.ref _), some (.ref _), some (.int _), some (.int _), some (.int _), some (.int _), none, none]) (st' := [.int _]) 1 rfl ?_
        exact tail 0 (if_neg hev2).symm
abbrev od_DU (x quo rem : Nat) : List Nat := [quo, rem, x + 1, x + 3, x + 5, x + 7, x + 9]
set_option maxRecDepth 100000 in
theorem cl_div_end {ρ : od_Rm} (hS : od_SS S) (hA : od_DV M x) (hR : od_DVs S x) (ha : S a = true) (hb' : S b = true) (hq0 : S quo = true) (hr0 : S rem = true) (na : a ∉ od_DU x quo rem) (nb : b ∉ od_DU x quo rem) (nq : quo ∉ [rem, x + 1, x + 3, x + 5, x + 7, x + 9]) (nr : rem ∉ [x + 1, x + 3, x + 5, x + 7, x + 9]) {u : tm_T} {us rs : List tm_T} (h1 : tm_al (u :: us)) (h2 : tm_al rs) {ua zs : List Nat} {i7 w8 : Option Value} (hb : od_Bd ρ) (g : ∀ q, q ∉ od_DU x quo rem → ρ q = ρ0 q) (hx : od_hl ρ a (ua ++ tm_fl rs)) (hy : od_hl ρ b (tm_fl (u :: us))) (hz : od_hl ρ quo zs) : od_W 4 41 122 [some (.ref x), some (.ref a), some (.ref b), some (.ref quo), some (.ref rem), some (.int (nI (tm_t u).length)), some (.int (nI ua.length)), i7, w8] [] (od_cm S M ρ) (od_Re S M ρ0 (od_DU x quo rem) (tm_ft (zs ++ tm_fl (sp_nu (sp_tm u us rs)))) none (fun ρ' => od_hl ρ' quo (zs ++ tm_fl (sp_nu (sp_tm u us rs))) ∧ od_hl ρ' rem (tm_fl (sp_dif rs (sp_ms u us (sp_tm u us rs)))))) := by
  have r7 : S (x + 7) = true := hR.2 3 (by omega)
  have r9 : S (x + 9) = true := hR.2 4 (by omega)
  have hxn : od_no S x := hR.1
  have hn1 := sp_tm_le (u := u) (us := us) h2
  have hn2 := sp_tm_mul (u := u) (us := us) h2
  have alm := sp_ms_al h1 h2
  refine od_W.rn (pc' := 123) (ls' := [some (.ref _), some (.ref _), some (.ref _), some (.ref _), some (.ref _), some (.int _), some (.int _), _, _]) (st' := [.ref _]) 1 rfl ?_
  refine od_rG rfl (od_cm_o hxn hA) rfl rfl ?_
  refine od_W.rn (pc' := 130) (ls' := [some (.ref _), some (.ref _), some (.ref _), some (.ref _), some (.ref _), some (.int _), some (.int _), _, _]) (st' := [.ref _, .int _, .ref _, .ref _]) 3 rfl ?_
  refine od_gL rfl rfl (ha) (hx.n) ?_
  refine od_rV (as := [.ref a, .int (nI ua.length), .int (nI (ua ++ tm_fl rs).length)]) rfl rfl rfl rfl (od_cm_r r7) rfl (Nat.le_of_ble_eq_true rfl) (Nat.le_of_ble_eq_true rfl) (lt_becomePart hS r7 ha (Ne.symm (od_ne na (by simp))) hb (u := ua) (w := tm_fl rs) (z := []) (by simpa using hx) rfl (by simp)) (Nat.le_of_ble_eq_true rfl) (fun o M1 hq => ?_)
  refine od_Re.kp hq rfl (by simp) (g) (fun _ => trivial) (fun ρ1 f1 g1 b1 p1 k1 => ?_)
  have hy1 := hy.fr (f1 b (od_nn nb (by simp)))
  have hz1 := hz.fr (f1 quo (od_nn nq (by simp)))
  refine od_W.rn (pc' := 140) (ls' := [some (.ref _), some (.ref _), some (.ref _), some (.ref _), some (.ref _), some (.int _), some (.int _), _, _]) (st' := [.int _, .ref _, .ref _]) 3 rfl ?_
  refine od_rV (as := [.ref b, .int (nI (tm_t u).length)]) rfl rfl rfl rfl (od_cm_o hxn hA) rfl (Nat.le_of_ble_eq_true rfl) (Nat.le_of_ble_eq_true rfl) (lt_timesInRest hS hA hR hb' b1 h1 h2 p1 hy1) (Nat.le_of_ble_eq_true rfl) (fun o M1 hq => ?_)
  obtain ⟨rfl, rfl⟩ := hq
  refine od_K.ret ?_
  refine od_W.rn (pc' := 149) (ls' := [some (.ref _), some (.ref _), some (.ref _), some (.ref _), some (.ref _), some (.int _), some (.int _), some (.int _), _]) (st' := [.long _, .ref _]) 4 rfl ?_
  have fin : ∀ ρ5 : od_Rm, od_Bd ρ5 → (∀ q, q ∉ od_DU x quo rem → ρ5 q = ρ0 q) → od_hl ρ5 quo (zs ++ tm_fl (sp_nu (sp_tm u us rs))) → od_hl ρ5 (x + 7) (tm_fl rs) → od_hl ρ5 (x + 9) (tm_fl (sp_ms u us (sp_tm u us rs))) → tm_ft (zs ++ tm_fl (sp_nu (sp_tm u us rs))) → od_W 4 41 200 [some (.ref x), some (.ref a), some (.ref b), some (.ref quo), some (.ref rem), some (.int (nI (tm_t u).length)), some (.int (nI ua.length)), some (.int (nI (sp_tm u us rs))), w8] [] (od_cm S M ρ5) (od_Re S M ρ0 (od_DU x quo rem) (tm_ft (zs ++ tm_fl (sp_nu (sp_tm u us rs)))) none (fun ρ' => od_hl ρ' quo (zs ++ tm_fl (sp_nu (sp_tm u us rs))) ∧ od_hl ρ' rem (tm_fl (sp_dif rs (sp_ms u us (sp_tm u us rs)))))) := by
    intro ρ5 b5 g5 hz5 hr5 hm5 hok
    refine od_W.rn (pc' := 201) (ls' := [some (.ref _), some (.ref _), some (.ref _), some (.ref _), some (.ref _), some (.int _), some (.int _), some (.int _), _]) (st' := [.ref _]) 1 rfl ?_
    refine od_rG rfl (od_cm_o hxn hA) rfl rfl ?_
    refine od_W.rn (pc' := 205) (ls' := [some (.ref _), some (.ref _), some (.ref _), some (.ref _), some (.ref _), some (.int _), some (.int _), some (.int _), _]) (st' := [.ref _, .ref _]) 1 rfl ?_
    refine od_rG rfl (od_cm_o hxn hA) rfl rfl ?_
    refine od_W.rn (pc' := 210) (ls' := [some (.ref _), some (.ref _), some (.ref _), some (.ref _), some (.ref _), some (.int _), some (.int _), some (.int _), _]) (st' := [.ref _, .ref _, .ref _]) 1 rfl ?_
    refine od_rSt (as := [.ref (x + 7), .ref (x + 9), .ref rem]) rfl rfl rfl rfl (Nat.le_of_ble_eq_true rfl) (Nat.le_of_ble_eq_true rfl) (lt_makeDifference hS r7 r9 hr0 (od_ne nr (by simp)) (od_ne nr (by simp)) b5 h2 alm hr5 hm5) (Nat.le_of_ble_eq_true rfl) (fun o M1 hq => ?_)
    refine od_Re.kp hq rfl (by simp) (g5) (fun _ => trivial) (fun ρ6 f6 g6 b6 p6 k6 => ?_)
    refine od_W.fin rfl ?_
    exact od_Re.yes g6 b6 hok ⟨hz5.fr (f6 quo (od_nn nq (by simp))), p6⟩
  rw [nI_1000 hn1]
  by_cases hn0 : sp_tm u us rs = 0
  · have e1 : sp_nu (sp_tm u us rs) = [] := if_pos hn0
    have e2 : sp_ms u us (sp_tm u us rs) = [] := if_pos hn0
    rw [e1, e2] at fin
    rw [e1, e2]
    refine od_rV (as := [.long (lN (sp_tm u us rs))]) rfl rfl rfl rfl (od_cm_r hq0) rfl (Nat.le_of_ble_eq_true rfl) (Nat.le_of_ble_eq_true rfl) (lt_putNumber0 hS hq0 b1 hz1 (by rw [hn0]; exact (pk_lLE (a := 0) (b := 0) (by omega) (by omega)).mpr (by omega))) (Nat.le_of_ble_eq_true rfl) (fun o M1 hq => ?_)
    refine od_Re.kp hq rfl (by simp) (g1) (fun z => z) (fun ρ2 f2 g2 b2 p2 k2 => ?_)
    have hr2 := p1.fr (f2 (x + 7) (od_n1 (Ne.symm (od_ne nq (by simp)))))
    refine od_W.rn (pc' := 153) (ls' := [some (.ref _), some (.ref _), some (.ref _), some (.ref _), some (.ref _), some (.int _), some (.int _), some (.int _), _]) (st' := [.ref _]) 1 rfl ?_
    refine od_rG rfl (od_cm_o hxn hA) rfl rfl ?_
    refine od_rV (as := []) rfl rfl rfl rfl (od_cm_r r9) rfl (Nat.le_of_ble_eq_true rfl) (Nat.le_of_ble_eq_true rfl) (lt_clear hS r9 b2) (Nat.le_of_ble_eq_true rfl) (fun o M1 hq => ?_)
    refine od_Re.kp hq rfl (by simp) (g2) (fun _ => trivial) (fun ρ3 f3 g3 b3 p3 k3 => ?_)
    have hr3 := hr2.fr (f3 (x + 7) (by simp))
    have hz3 := p2.fr (f3 quo (od_n1 (od_ne nq (by simp))))
    refine od_W.rn (pc' := 161) (ls' := [some (.ref _), some (.ref _), some (.ref _), some (.ref _), some (.ref _), some (.int _), some (.int _), some (.int _), _]) (st' := [.int _]) 1 rfl ?_
    refine od_r1T rfl rfl ((by rw [hn0]; rfl)) ?_
    exact fin ρ3 b3 g3 hz3 hr3 p3 k2
  · have e1 : sp_nu (sp_tm u us rs) = [([], sp_tm u us rs)] := if_neg hn0
    have e2 : sp_ms u us (sp_tm u us rs) = (u.1, sp_tm u us rs * u.2) :: us := if_neg hn0
    have e3 : tm_fl (sp_nu (sp_tm u us rs)) = [1, 0, sp_tm u us rs] := by rw [e1]; rfl
    rw [e2, e3] at fin
    rw [e2, e3]
    have hl60 := hy.le hb
    have hsm := hy.2
    have huc := h1.1.2.2
    rw [tm_fl, List.length_append, tm_t_len] at hl60
    rw [tm_fl, tm_sm_app, tm_sm_t] at hsm
    have hfm : tm_ft ([] ++ tm_t (u.1, sp_tm u us rs * u.2) ++ tm_fl us) := by
      refine ⟨?_, ?_⟩
      · rw [List.nil_append, List.length_append, tm_t_len]; exact hl60
      · rw [List.nil_append, tm_sm_app, tm_sm_t]; exact ⟨⟨hsm.1.1, hn2⟩, hsm.2⟩
    have hpos : 0 < sp_tm u us rs * u.2 := Nat.mul_pos (by omega) h1.1.2.1
    refine od_rV (as := [.long (lN (sp_tm u us rs))]) rfl rfl rfl rfl (od_cm_r hq0) rfl (Nat.le_of_ble_eq_true rfl) (Nat.le_of_ble_eq_true rfl) (lt_putNumber hS hq0 b1 hz1 (by omega) (by omega)) (Nat.le_of_ble_eq_true rfl) (fun o M1 hq => ?_)
    refine od_Re.kp hq rfl (by simp) (g1) (fun z => z) (fun ρ2 f2 g2 b2 p2 k2 => ?_)
    have hr2 := p1.fr (f2 (x + 7) (od_n1 (Ne.symm (od_ne nq (by simp)))))
    have hy2 := hy1.fr (f2 b (od_nn nb (by simp)))
    refine od_W.rn (pc' := 153) (ls' := [some (.ref _), some (.ref _), some (.ref _), some (.ref _), some (.ref _), some (.int _), some (.int _), some (.int _), _]) (st' := [.ref _]) 1 rfl ?_
    refine od_rG rfl (od_cm_o hxn hA) rfl rfl ?_
    refine od_rV (as := []) rfl rfl rfl rfl (od_cm_r r9) rfl (Nat.le_of_ble_eq_true rfl) (Nat.le_of_ble_eq_true rfl) (lt_clear hS r9 b2) (Nat.le_of_ble_eq_true rfl) (fun o M1 hq => ?_)
    refine od_Re.kp hq rfl (by simp) (g2) (fun _ => trivial) (fun ρ3 f3 g3 b3 p3 k3 => ?_)
    have hr3 := hr2.fr (f3 (x + 7) (by simp))
    have hz3 := p2.fr (f3 quo (od_n1 (od_ne nq (by simp))))
    have hy3 : od_hl ρ3 b ([] ++ (tm_t u ++ tm_fl us)) := hy2.fr (f3 b (od_nn nb (by simp)))
    refine od_W.rn (pc' := 161) (ls' := [some (.ref _), some (.ref _), some (.ref _), some (.ref _), some (.ref _), some (.int _), some (.int _), some (.int _), _]) (st' := [.int _]) 1 rfl ?_
    refine od_r1F rfl (of_decide_eq_true rfl) (decide_eq_false (nI_ge (a := 0) (by omega) (by omega))) ?_
    refine od_W.rn (pc' := 165) (ls' := [some (.ref _), some (.ref _), some (.ref _), some (.ref _), some (.ref _), some (.int _), some (.int _), some (.int _), _]) (st' := [.ref _]) 1 rfl ?_
    refine od_rG rfl (od_cm_o hxn hA) rfl rfl ?_
    refine od_W.rn (pc' := 178) (ls' := [some (.ref _), some (.ref _), some (.ref _), some (.ref _), some (.ref _), some (.int _), some (.int _), some (.int _), _]) (st' := [.int _, .ref _, .long _, .int _, .int _, .ref _, .ref _]) 7 rfl ?_
    refine od_rV (as := [.int (nI (tm_t u).length)]) rfl rfl rfl rfl (od_cm_r hb') rfl (Nat.le_of_ble_eq_true rfl) (Nat.le_of_ble_eq_true rfl) (lt_coefficient hS hb' b3 hy3 (by simp)) (Nat.le_of_ble_eq_true rfl) (fun o M1 hq => ?_)
    obtain ⟨rfl, rfl⟩ := hq
    refine od_K.ret ?_
    refine od_W.rn (pc' := 183) (ls' := [some (.ref _), some (.ref _), some (.ref _), some (.ref _), some (.ref _), some (.int _), some (.int _), some (.int _), _]) (st' := [.long _, .int _, .int _, .ref _, .ref _]) 2 rfl ?_
    rw [nI_1000 hn1, nI_1000 huc, lN_mul]
    refine od_rV (as := [.ref b, .int (nI 0), .int (nI (tm_t u).length), .long (lN (sp_tm u us rs * u.2))]) rfl rfl rfl rfl (od_cm_r r9) rfl (Nat.le_of_ble_eq_true rfl) (Nat.le_of_ble_eq_true rfl) (lt_putTermAgain hS r9 hb' (Ne.symm (od_ne nb (by simp))) b3 p3 hy3 rfl (by omega) hpos (by omega)) (Nat.le_of_ble_eq_true rfl) (fun o M1 hq => ?_)
    refine od_Re.kp hq rfl (by simp) (g3) (fun _ => tm_ft_l hfm) (fun ρ4 f4 g4 b4 p4 k4 => ?_)
    have hr4 := hr3.fr (f4 (x + 7) (by simp))
    have hz4 := hz3.fr (f4 quo (od_n1 (od_ne nq (by simp))))
    have hy4 := hy3.fr (f4 b (od_nn nb (by simp)))
    refine od_W.rn (pc' := 187) (ls' := [some (.ref _), some (.ref _), some (.ref _), some (.ref _), some (.ref _), some (.int _), some (.int _), some (.int _), _]) (st' := [.ref _]) 1 rfl ?_
    refine od_rG rfl (od_cm_o hxn hA) rfl rfl ?_
    refine od_W.rn (pc' := 194) (ls' := [some (.ref _), some (.ref _), some (.ref _), some (.ref _), some (.ref _), some (.int _), some (.int _), some (.int _), _]) (st' := [.ref _, .int _, .ref _, .ref _]) 3 rfl ?_
    refine od_gL rfl rfl (hb') (hy4.n) ?_
    refine od_rV (as := [.ref b, .int (nI (tm_t u).length), .int (nI ([] ++ (tm_t u ++ tm_fl us)).length)]) rfl rfl rfl rfl (od_cm_r r9) rfl (Nat.le_of_ble_eq_true rfl) (Nat.le_of_ble_eq_true rfl) (lt_putPart hS r9 hb' (Ne.symm (od_ne nb (by simp))) b4 p4 (u := tm_t u) (w := tm_fl us) (z := []) (by simpa using hy4) rfl (by simp)) (Nat.le_of_ble_eq_true rfl) (fun o M1 hq => ?_)
    refine od_Re.kp hq rfl (by simp) (g4) (fun _ => hfm) (fun ρ5 f5 g5 b5 p5 k5 => ?_)
    have hr5 := hr4.fr (f5 (x + 7) (by simp))
    have hz5 := hz4.fr (f5 quo (od_n1 (od_ne nq (by simp))))
    exact fin ρ5 b5 g5 hz5 hr5 p5 k2
set_option maxRecDepth 100000 in
theorem cl_div_loop (hS : od_SS S) (hA : od_DV M x) (hR : od_DVs S x) (ha : S a = true) (hb' : S b = true) (hq0 : S quo = true) (hr0 : S rem = true) (na : a ∉ od_DU x quo rem) (nb : b ∉ od_DU x quo rem) (nq : quo ∉ [rem, x + 1, x + 3, x + 5, x + 7, x + 9]) (nr : rem ∉ [x + 1, x + 3, x + 5, x + 7, x + 9]) {u : tm_T} {us : List tm_T} (h1 : tm_al (u :: us)) : ∀ (todo done : List tm_T) (ρ : od_Rm) (zs : List Nat) (w : Option Value), tm_al todo → od_Bd ρ → (∀ q, q ∉ od_DU x quo rem → ρ q = ρ0 q) → od_hl ρ a (tm_fl done ++ tm_fl todo) → od_hl ρ b (tm_fl (u :: us)) → od_hl ρ quo zs → od_hl ρ (x + 1) u.1 → od_W 4 41 28 [some (.ref x), some (.ref a), some (.ref b), some (.ref quo), some (.ref rem), some (.int (nI (tm_t u).length)), some (.int (nI (tm_fl done).length)), some (.int (nI done.length)), w] [] (od_cm S M ρ) (od_Re S M ρ0 (od_DU x quo rem) (tm_ft (zs ++ tm_fl (sp_quo todo u us))) none (fun ρ' => od_hl ρ' quo (zs ++ tm_fl (sp_quo todo u us)) ∧ od_hl ρ' rem (tm_fl (sp_rem todo u us)))) := by
  have r1 : S (x + 1) = true := hR.2 0 (by omega)
  have r3 : S (x + 3) = true := hR.2 1 (by omega)
  have r5 : S (x + 5) = true := hR.2 2 (by omega)
  have hxn : od_no S x := hR.1
  intro todo
  induction todo with
  | nil =>
    intro done ρ zs w _ hb g hx hy hz he
    have hl := hx.n
    have h60 := hx.le hb
    have h3 := tm_fl_len done
    have hend := fun (w : Option Value) => cl_div_end (i7 := some (.int (nI done.length))) (w8 := w) hS hA hR ha hb' hq0 hr0 na nb nq nr h1 (rs := []) trivial hb g hx hy hz
    rw [tm_fl, List.append_nil] at hl h60
    by_cases h20 : done.length < 20
    · refine od_W.rn (pc' := 32) (ls' := [some (.ref _), some (.ref _), some (.ref _), some (.ref _), some (.ref _), some (.int _), some (.int _), some (.int _), _]) (st' := [.int _, .int _]) 2 rfl ?_
      refine od_r2F rfl (of_decide_eq_true rfl) (decide_eq_false (nI_ge (b := 20) h20 (by omega))) ?_
      refine od_W.rn (pc' := 38) (ls' := [some (.ref _), some (.ref _), some (.ref _), some (.ref _), some (.ref _), some (.int _), some (.int _), some (.int _), _]) (st' := [.ref _, .int _]) 2 rfl ?_
      refine od_gL rfl rfl (ha) (hl) ?_
      refine od_r2T rfl rfl (decide_eq_true (nI_le (Nat.le_refl _) (by omega))) ?_
      exact hend _
    · refine od_W.rn (pc' := 32) (ls' := [some (.ref _), some (.ref _), some (.ref _), some (.ref _), some (.ref _), some (.int _), some (.int _), some (.int _), _]) (st' := [.int _, .int _]) 2 rfl ?_
      refine od_r2T rfl rfl (decide_eq_true (nI_le (a := 20) (by omega) (by omega))) ?_
      exact hend _
  | cons t todo ih =>
    intro done ρ zs w hal hb g hx hy hz he
    have hl := hx.n
    have h60 := hx.le hb
    have h3 := tm_fl_len done
    have hend := fun (w : Option Value) => cl_div_end (i7 := some (.int (nI done.length))) (w8 := w) hS hA hR ha hb' hq0 hr0 na nb nq nr h1 (rs := t :: todo) hal hb g hx hy hz
    rw [tm_fl, List.length_append, List.length_append, tm_t_len] at hl h60
    have hx2 : od_hl ρ a (tm_fl done ++ (tm_t t ++ tm_fl todo)) := hx
    have hy2 : od_hl ρ b ([] ++ (tm_t u ++ tm_fl us)) := hy
    have e : (tm_fl done).length + (tm_t t).length = (tm_fl (done ++ [t])).length := by rw [tm_fl_snoc, List.length_append]
    have huc := hal.1.2.2
    refine od_W.rn (pc' := 32) (ls' := [some (.ref _), some (.ref _), some (.ref _), some (.ref _), some (.ref _), some (.int _), some (.int _), some (.int _), _]) (st' := [.int _, .int _]) 2 rfl ?_
    refine od_r2F rfl (of_decide_eq_true rfl) (decide_eq_false (nI_ge (b := 20) (by omega) (by omega))) ?_
    refine od_W.rn (pc' := 38) (ls' := [some (.ref _), some (.ref _), some (.ref _), some (.ref _), some (.ref _), some (.int _), some (.int _), some (.int _), _]) (st' := [.ref _, .int _]) 2 rfl ?_
    refine od_gL rfl rfl (ha) (hl) ?_
    refine od_r2F rfl (of_decide_eq_true rfl) (decide_eq_false (nI_ge (by omega) (by omega))) ?_
    refine od_W.rn (pc' := 47) (ls' := [some (.ref _), some (.ref _), some (.ref _), some (.ref _), some (.ref _), some (.int _), some (.int _), some (.int _), _]) (st' := [.int _, .ref _]) 2 rfl ?_
    refine od_rV (as := [.int (nI (tm_fl done).length)]) rfl rfl rfl rfl (od_cm_r ha) rfl (Nat.le_of_ble_eq_true rfl) (Nat.le_of_ble_eq_true rfl) (lt_termEnd hS ha hb hal.1 hx2 rfl) (Nat.le_of_ble_eq_true rfl) (fun o M1 hq => ?_)
    obtain ⟨rfl, rfl⟩ := hq
    refine od_K.ret ?_
    refine od_W.rn (pc' := 61) (ls' := [some (.ref _), some (.ref _), some (.ref _), some (.ref _), some (.ref _), some (.int _), some (.int _), some (.int _), some (.int _)]) (st' := [.int _, .int _, .ref _, .int _, .int _, .ref _]) 7 rfl ?_
    refine od_rSt (as := [.ref a, .int (nI (tm_fl done).length), .int (nI ((tm_fl done).length + (tm_t t).length)), .ref b, .int (nI 0), .int (nI (tm_t u).length)]) rfl rfl rfl rfl (Nat.le_of_ble_eq_true rfl) (Nat.le_of_ble_eq_true rfl) (lt_oe hS ha hb' hb hx2 hy2 rfl rfl rfl (by omega)) (Nat.le_of_ble_eq_true rfl) (fun o M1 hq => ?_)
    obtain ⟨rfl, rfl⟩ := hq
    refine od_K.ret ?_
    by_cases hc : tm_cmp t.1 u.1 = 1
    · have e1 : sp_dv u (t :: todo) = ((tm_fl (sp_dif (tm_tp t.1) (tm_tp u.1)), t.2) :: (sp_dv u todo).1, (sp_dv u todo).2) := by conv => lhs; unfold sp_dv; rw [if_pos hc]
      have e2 : sp_quo (t :: todo) u us = (tm_fl (sp_dif (tm_tp t.1) (tm_tp u.1)), t.2) :: sp_quo todo u us := by unfold sp_quo; rw [e1]; rfl
      have e3 : sp_rem (t :: todo) u us = sp_rem todo u us := by unfold sp_rem; rw [e1]
      rw [e2, e3, tm_fl, ← List.append_assoc, hc]
      have a1 := tm_al_tp hal.1.1
      have a2 := tm_al_tp h1.1.1
      refine od_r1T rfl rfl (rfl) ?_
      refine od_W.rn (pc' := 71) (ls' := [some (.ref _), some (.ref _), some (.ref _), some (.ref _), some (.ref _), some (.int _), some (.int _), some (.int _), some (.int _)]) (st' := [.ref _]) 1 rfl ?_
      refine od_rG rfl (od_cm_o hxn hA) rfl rfl ?_
      refine od_W.rn (pc' := 79) (ls' := [some (.ref _), some (.ref _), some (.ref _), some (.ref _), some (.ref _), some (.int _), some (.int _), some (.int _), some (.int _)]) (st' := [.int _, .int _, .ref _, .ref _]) 3 rfl ?_
      refine od_rV (as := [.ref a, .int (nI (tm_fl done).length), .int (nI ((tm_fl done).length + (tm_t t).length))]) rfl rfl rfl rfl (od_cm_r r3) rfl (Nat.le_of_ble_eq_true rfl) (Nat.le_of_ble_eq_true rfl) (lt_becomeExponent hS r3 ha (Ne.symm (od_ne na (by simp))) hb hx2 rfl rfl) (Nat.le_of_ble_eq_true rfl) (fun o M1 hq => ?_)
      refine od_Re.kp hq rfl (by simp) (g) (fun _ => trivial) (fun ρ1 f1 g1 b1 p1 k1 => ?_)
      have hx1 := hx2.fr (f1 a (od_nn na (by simp)))
      have hy1 := hy.fr (f1 b (od_nn nb (by simp)))
      have hz1 := hz.fr (f1 quo (od_nn nq (by simp)))
      have he1 := he.fr (f1 (x + 1) (by simp))
      have w1 : od_hl ρ1 (x + 3) (tm_fl (tm_tp t.1)) := by rw [tm_fl_tp hal.1.1]; exact p1
      have w2 : od_hl ρ1 (x + 1) (tm_fl (tm_tp u.1)) := by rw [tm_fl_tp h1.1.1]; exact he1
      refine od_W.rn (pc' := 83) (ls' := [some (.ref _), some (.ref _), some (.ref _), some (.ref _), some (.ref _), some (.int _), some (.int _), some (.int _), some (.int _)]) (st' := [.ref _]) 1 rfl ?_
      refine od_rG rfl (od_cm_o hxn hA) rfl rfl ?_
      refine od_W.rn (pc' := 87) (ls' := [some (.ref _), some (.ref _), some (.ref _), some (.ref _), some (.ref _), some (.int _), some (.int _), some (.int _), some (.int _)]) (st' := [.ref _, .ref _]) 1 rfl ?_
      refine od_rG rfl (od_cm_o hxn hA) rfl rfl ?_
      refine od_W.rn (pc' := 91) (ls' := [some (.ref _), some (.ref _), some (.ref _), some (.ref _), some (.ref _), some (.int _), some (.int _), some (.int _), some (.int _)]) (st' := [.ref _, .ref _, .ref _]) 1 rfl ?_
      refine od_rG rfl (od_cm_o hxn hA) rfl rfl ?_
      refine od_rSt (as := [.ref (x + 3), .ref (x + 1), .ref (x + 5)]) rfl rfl rfl rfl (Nat.le_of_ble_eq_true rfl) (Nat.le_of_ble_eq_true rfl) (lt_makeDifference hS r3 r1 r5 (by omega) (by omega) b1 a1 a2 w1 w2) (Nat.le_of_ble_eq_true rfl) (fun o M1 hq => ?_)
      refine od_Re.kp hq rfl (by simp) (g1) (fun _ => trivial) (fun ρ2 f2 g2 b2 p2 k2 => ?_)
      have hx3 := hx1.fr (f2 a (od_nn na (by simp)))
      have hy3 := hy1.fr (f2 b (od_nn nb (by simp)))
      have hz2 := hz1.fr (f2 quo (od_nn nq (by simp)))
      have he2 := he1.fr (f2 (x + 1) (by simp))
      refine od_W.rn (pc' := 99) (ls' := [some (.ref _), some (.ref _), some (.ref _), some (.ref _), some (.ref _), some (.int _), some (.int _), some (.int _), some (.int _)]) (st' := [.ref _, .ref _]) 2 rfl ?_
      refine od_rG rfl (od_cm_o hxn hA) rfl rfl ?_
      refine od_W.rn (pc' := 105) (ls' := [some (.ref _), some (.ref _), some (.ref _), some (.ref _), some (.ref _), some (.int _), some (.int _), some (.int _), some (.int _)]) (st' := [.int _, .ref _, .ref _, .ref _]) 2 rfl ?_
      refine od_rV (as := [.int (nI ((tm_fl done).length + (tm_t t).length))]) rfl rfl rfl rfl (od_cm_r ha) rfl (Nat.le_of_ble_eq_true rfl) (Nat.le_of_ble_eq_true rfl) (lt_coefficient hS ha b2 hx3 rfl) (Nat.le_of_ble_eq_true rfl) (fun o M1 hq => ?_)
      obtain ⟨rfl, rfl⟩ := hq
      refine od_K.ret ?_
      refine od_W.rn (pc' := 109) (ls' := [some (.ref _), some (.ref _), some (.ref _), some (.ref _), some (.ref _), some (.int _), some (.int _), some (.int _), some (.int _)]) (st' := [.long _, .ref _, .ref _]) 1 rfl ?_
      rw [nI_1000 huc]
      refine od_rV (as := [.ref (x + 5), .long (lN t.2)]) rfl rfl rfl rfl (od_cm_r hq0) rfl (Nat.le_of_ble_eq_true rfl) (Nat.le_of_ble_eq_true rfl) (lt_putTerm hS hq0 r5 (od_ne nq (by simp)) b2 hz2 p2 (by omega)) (Nat.le_of_ble_eq_true rfl) (fun o M1 hq => ?_)
      refine od_Re.kp hq rfl (by simp) (g2) (tm_ft_l) (fun ρ3 f3 g3 b3 p3 k3 => ?_)
      have hx4 := hx3.fr (f3 a (od_nn na (by simp)))
      have hy4 := hy3.fr (f3 b (od_nn nb (by simp)))
      have he3 := he2.fr (f3 (x + 1) (od_n1 (Ne.symm (od_ne nq (by simp)))))
      refine od_W.rn (pc' := 28) (ls' := [some (.ref _), some (.ref _), some (.ref _), some (.ref _), some (.ref _), some (.int _), some (.int _), some (.int _), some (.int _)]) (st' := []) 4 rfl ?_
      rw [e, nI_inc done.length, show done.length + 1 = (done ++ [t]).length by simp]
      exact ih (done ++ [t]) ρ3 _ _ hal.2 b3 g3 (by rw [tm_fl_snoc, List.append_assoc]; exact hx4) hy4 p3 he3
    · have e1 : sp_dv u (t :: todo) = ([], t :: todo) := by conv => lhs; unfold sp_dv; rw [if_neg hc]
      have hle : od_cond .gt (tm_cmp t.1 u.1) 0 = false := by rcases tm_cmp_is t.1 u.1 with z | z | z; rw [z]; rfl; rw [z]; rfl; exact absurd z hc
      have e2 : sp_quo (t :: todo) u us = sp_nu (sp_tm u us (t :: todo)) := by unfold sp_quo; rw [e1]; rfl
      have e3 : sp_rem (t :: todo) u us = sp_dif (t :: todo) (sp_ms u us (sp_tm u us (t :: todo))) := by unfold sp_rem; rw [e1]
      rw [e2, e3]
      refine od_r1F rfl (of_decide_eq_true rfl) (hle) ?_
      refine od_W.rn (pc' := 122) (ls' := [some (.ref _), some (.ref _), some (.ref _), some (.ref _), some (.ref _), some (.int _), some (.int _), some (.int _), some (.int _)]) (st' := []) 1 rfl ?_
      exact hend _
theorem lt_divide {ρ : od_Rm} (hS : od_SS S) (hA : od_DV M x) (hR : od_DVs S x) (ha : S a = true) (hb' : S b = true) (hq0 : S quo = true) (hr0 : S rem = true) (na : a ∉ od_DU x quo rem) (nb : b ∉ od_DU x quo rem) (nq : quo ∉ [rem, x + 1, x + 3, x + 5, x + 7, x + 9]) (nr : rem ∉ [x + 1, x + 3, x + 5, x + 7, x + 9]) (hb : od_Bd ρ) {u : tm_T} {ts us : List tm_T} (h1 : tm_al ts) (h2 : tm_al (u :: us)) (hx : od_hl ρ a (tm_fl ts)) (hy : od_hl ρ b (tm_fl (u :: us))) : od_W 4 41 0 (od_ent 41 [.ref x, .ref a, .ref b, .ref quo, .ref rem]) [] (od_cm S M ρ) (od_Re S M ρ (od_DU x quo rem) (tm_ft (tm_fl (sp_quo ts u us))) none (fun ρ' => od_hl ρ' quo (tm_fl (sp_quo ts u us)) ∧ od_hl ρ' rem (tm_fl (sp_rem ts u us)))) := by
  have e0 : od_ent 41 [.ref x, .ref a, .ref b, .ref quo, .ref rem] = [some (.ref x), some (.ref a), some (.ref b), some (.ref quo), some (.ref rem), none, none, none, none] := rfl
  rw [e0]
  have r1 : S (x + 1) = true := hR.2 0 (by omega)
  have hxn : od_no S x := hR.1
  have hy2 : od_hl ρ b ([] ++ (tm_t u ++ tm_fl us)) := hy
  refine od_W.rn (pc' := 2) (ls' := [some (.ref _), some (.ref _), some (.ref _), some (.ref _), some (.ref _), none, none, none, none]) (st' := [.int _, .ref _]) 2 rfl ?_
  refine od_rV (as := [.int (nI 0)]) rfl rfl rfl rfl (od_cm_r hb') rfl (Nat.le_of_ble_eq_true rfl) (Nat.le_of_ble_eq_true rfl) (lt_termEnd hS hb' hb h2.1 hy2 rfl) (Nat.le_of_ble_eq_true rfl) (fun o M1 hq => ?_)
  obtain ⟨rfl, rfl⟩ := hq
  refine od_K.ret ?_
  rw [Nat.zero_add]
  refine od_W.rn (pc' := 8) (ls' := [some (.ref _), some (.ref _), some (.ref _), some (.ref _), some (.ref _), some (.int _), none, none, none]) (st' := [.ref _]) 2 rfl ?_
  refine od_rG rfl (od_cm_o hxn hA) rfl rfl ?_
  refine od_W.rn (pc' := 15) (ls' := [some (.ref _), some (.ref _), some (.ref _), some (.ref _), some (.ref _), some (.int _), none, none, none]) (st' := [.int _, .int _, .ref _, .ref _]) 3 rfl ?_
  refine od_rV (as := [.ref b, .int (nI 0), .int (nI (tm_t u).length)]) rfl rfl rfl rfl (od_cm_r r1) rfl (Nat.le_of_ble_eq_true rfl) (Nat.le_of_ble_eq_true rfl) (lt_becomeExponent hS r1 hb' (Ne.symm (od_ne nb (by simp))) hb hy2 rfl (by omega)) (Nat.le_of_ble_eq_true rfl) (fun o M1 hq => ?_)
  refine od_Re.kp hq rfl (by simp) (od_fr0 ρ _) (fun _ => trivial) (fun ρ1 f1 g1 b1 p1 k1 => ?_)
  have hx1 := hx.fr (f1 a (od_nn na (by simp)))
  have hy1 := hy.fr (f1 b (od_nn nb (by simp)))
  refine od_W.rn (pc' := 19) (ls' := [some (.ref _), some (.ref _), some (.ref _), some (.ref _), some (.ref _), some (.int _), none, none, none]) (st' := [.ref _]) 1 rfl ?_
  refine od_rV (as := []) rfl rfl rfl rfl (od_cm_r hq0) rfl (Nat.le_of_ble_eq_true rfl) (Nat.le_of_ble_eq_true rfl) (lt_clear hS hq0 b1) (Nat.le_of_ble_eq_true rfl) (fun o M1 hq => ?_)
  refine od_Re.kp hq rfl (by simp) (g1) (fun _ => trivial) (fun ρ2 f2 g2 b2 p2 k2 => ?_)
  have hx3 := hx1.fr (f2 a (od_nn na (by simp)))
  have hy3 := hy1.fr (f2 b (od_nn nb (by simp)))
  have he3 := p1.fr (f2 (x + 1) (od_n1 (Ne.symm (od_ne nq (by simp)))))
  refine od_W.rn (pc' := 28) (ls' := [some (.ref _), some (.ref _), some (.ref _), some (.ref _), some (.ref _), some (.int _), some (.int _), some (.int _), none]) (st' := []) 4 rfl ?_
  have := cl_div_loop (M := M) (ρ0 := ρ) hS hA hR ha hb' hq0 hr0 na nb nq nr h2 ts [] ρ2 [] none h1 b2 g2 hx3 hy3 p2 he3
  rw [List.nil_append] at this
  exact this
end DIV
