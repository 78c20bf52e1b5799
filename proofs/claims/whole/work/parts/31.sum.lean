/-! Reads by lists; sums. -/
section RD
variable {S : Nat → Bool} {M : od_M} {ρ : od_Rm} {Q : od_O → od_M → Prop} {p q r : Nat} {u z u' z' : List Nat} {t t' : tm_T}
theorem nI_inc (n : Nat) : nI n + Int32.ofInt 1 = nI (n + 1) := nI_add n 1
theorem od_hl.tt (hy : od_hl ρ q (u ++ (tm_t t ++ z))) : tm_at (ρ q).2 u.length (tm_t t) ∧ u.length + (tm_t t).length ≤ (ρ q).1 := by
  have h1 := hy.at
  have h2 := hy.n
  rw [tm_at_app, tm_at_app, Nat.zero_add] at h1
  rw [List.length_append, List.length_append] at h2
  exact ⟨h1.2.1, by omega⟩
theorem lt_termEnd (hS : od_SS S) (hq' : S q = true) (hb : od_Bd ρ) (ht : tm_ok t) (hy : od_hl ρ q (u ++ (tm_t t ++ z))) {a : Nat} (ha : a = u.length) : od_W 0 9 0 (od_ent 9 [.ref q, .int (nI a)]) [] (od_cm S M ρ) (fun o M' => o = .inl (some (.int (nI (a + (tm_t t).length)))) ∧ M' = od_cm S M ρ) := by
  subst ha
  obtain ⟨h1, h2⟩ := hy.tt
  have := ct_termEnd (M := M) hS hq' rfl (hb q) ht.1 h1 (by rw [tm_t_len] at h2; omega)
  rw [tm_t_len, ← Nat.add_assoc]
  exact this
theorem lt_coefficient (hS : od_SS S) (hq' : S q = true) (hb : od_Bd ρ) (hy : od_hl ρ q (u ++ (tm_t t ++ z))) {a : Nat} (ha : a = u.length + (tm_t t).length) : od_W 0 8 0 (od_ent 8 [.ref q, .int (nI a)]) [] (od_cm S M ρ) (fun o M' => o = .inl (some (.int (nI t.2))) ∧ M' = od_cm S M ρ) := by
  subst ha
  obtain ⟨h1, h2⟩ := hy.tt
  unfold tm_t at h1
  rw [tm_at_cons, tm_at_app, tm_at_cons, tm_at_cons] at h1
  rw [tm_t_len] at h2 ⊢
  have := ct_coefficient (M := M) hS hq' rfl (hb q) (e := u.length + 1 + t.1.length + 1) (by omega) h1.2.2.2.1
  rw [show u.length + 1 + t.1.length + 1 + 1 = u.length + (t.1.length + 3) by omega] at this
  exact this
theorem lt_oe (hS : od_SS S) (hp : S p = true) (hq' : S q = true) (hb : od_Bd ρ) (hx : od_hl ρ p (u ++ (tm_t t ++ z))) (hy : od_hl ρ q (u' ++ (tm_t t' ++ z'))) {a b c d : Nat} (ha : a = u.length) (hc : c = a + (tm_t t).length) (hb' : b = u'.length) (hd : d = b + (tm_t t').length) : od_W 2 27 0 (od_ent 27 [.ref p, .int (nI a), .int (nI c), .ref q, .int (nI b), .int (nI d)]) [] (od_cm S M ρ) (fun o M' => o = .inl (some (.int (tm_cmp t.1 t'.1))) ∧ M' = od_cm S M ρ) := by
  subst ha
  subst hb'
  subst hc
  subst hd
  obtain ⟨h1, h2⟩ := hx.tt
  obtain ⟨h3, h4⟩ := hy.tt
  have s1 := (tm_sm_t.mp (tm_sm_app.mp (tm_sm_app.mp hx.2).2).1).1
  have s2 := (tm_sm_t.mp (tm_sm_app.mp (tm_sm_app.mp hy.2).2).1).1
  have l1 := hb p
  have l2 := hb q
  rw [tm_t_len] at h2 h4 ⊢
  rw [tm_t_len]
  have := ct_orderOfExponents (M := M) hS hp hq' (by omega) (by omega) s1 s2 h1 h3
  rw [Nat.add_assoc, Nat.add_assoc] at this
  exact this
theorem lt_isZero (hS : od_SS S) (hq' : S q = true) (hb : od_Bd ρ) {xs : List Nat} (hy : od_hl ρ q xs) : od_W 0 1 0 (od_ent 1 [.ref q]) [] (od_cm S M ρ) (fun o M' => o = .inl (some (.int (if xs = [] then 1 else 0))) ∧ M' = od_cm S M ρ) := by
  have := ct_isZero (od_cm_Rw (M := M) hS hq' (hb q))
  rw [hy.n] at this
  refine this.mono fun o M' h => ⟨?_, h.2⟩
  rw [h.1]
  cases xs with
  | nil => rfl
  | cons x xs => rw [if_neg (by simp), if_neg (by simp)]
end RD
section SUM
variable {S : Nat → Bool} {M : od_M} {ρ : od_Rm} {Q : od_O → od_M → Prop} {a b out : Nat}
theorem nI_1000 {n : Nat} (h : n ≤ 1000000) : (nI n).toInt64 = lN n := nI_l (by omega)
theorem cl_sum_loop (hS : od_SS S) (ha : S a = true) (hb' : S b = true) (hb : od_Bd ρ) {u : tm_T} {us : List tm_T} (hy : od_hl ρ b (tm_t u ++ tm_fl us)) {be : Nat} (hbe : be = (tm_t u).length) : ∀ (todo done : List tm_T) (w8 w9 : Option Value), tm_al todo → od_hl ρ a (tm_fl done ++ tm_fl todo) → (∀ w8 w9 wt, od_W 3 30 105 [some (.ref a), some (.ref b), some (.ref out), some (.int (nI be)), some (.long (lN (sp_kp u todo).2)), none, some (.int (nI (tm_fl (done ++ (sp_kp u todo).1)).length)), some (.int wt), w8, w9] [] (od_cm S M ρ) Q) → od_W 3 30 33 [some (.ref a), some (.ref b), some (.ref out), some (.int (nI be)), some (.long (lN u.2)), none, some (.int (nI (tm_fl done).length)), some (.int (nI done.length)), w8, w9] [] (od_cm S M ρ) Q := by
  intro todo
  induction todo with
  | nil =>
    intro done w8 w9 _ hx hk
    have hl := hx.n
    have h60 := hx.le hb
    have h3 := tm_fl_len done
    rw [tm_fl, List.append_nil] at hl h60
    rw [show sp_kp u [] = ([], u.2) from rfl, List.append_nil] at hk
    by_cases h20 : done.length < 20
    · refine od_W.rn (pc' := 37) (ls' := [some (.ref _), some (.ref _), some (.ref _), some (.int _), some (.long _), none, some (.int _), some (.int _), _, _]) (st' := [.int _, .int _]) 2 rfl ?_
      refine od_r2F rfl (of_decide_eq_true rfl) (decide_eq_false (nI_ge (b := 20) h20 (by omega))) ?_
      refine od_W.rn (pc' := 43) (ls' := [some (.ref _), some (.ref _), some (.ref _), some (.int _), some (.long _), none, some (.int _), some (.int _), _, _]) (st' := [.ref _, .int _]) 2 rfl ?_
      refine od_gL rfl rfl (ha) (hl) ?_
      refine od_r2T rfl rfl (decide_eq_true (nI_le (Nat.le_refl _) (by omega))) ?_
      exact hk _ _ _
    · refine od_W.rn (pc' := 37) (ls' := [some (.ref _), some (.ref _), some (.ref _), some (.int _), some (.long _), none, some (.int _), some (.int _), _, _]) (st' := [.int _, .int _]) 2 rfl ?_
      refine od_r2T rfl rfl (decide_eq_true (nI_le (a := 20) (by omega) (by omega))) ?_
      exact hk _ _ _
  | cons t todo ih =>
    intro done w8 w9 hal hx hk
    have hl := hx.n
    have h60 := hx.le hb
    have h3 := tm_fl_len done
    rw [tm_fl, List.length_append, List.length_append, tm_t_len] at hl h60
    have hx2 : od_hl ρ a (tm_fl done ++ (tm_t t ++ tm_fl todo)) := hx
    refine od_W.rn (pc' := 37) (ls' := [some (.ref _), some (.ref _), some (.ref _), some (.int _), some (.long _), none, some (.int _), some (.int _), _, _]) (st' := [.int _, .int _]) 2 rfl ?_
    refine od_r2F rfl (of_decide_eq_true rfl) (decide_eq_false (nI_ge (b := 20) (by omega) (by omega))) ?_
    refine od_W.rn (pc' := 43) (ls' := [some (.ref _), some (.ref _), some (.ref _), some (.int _), some (.long _), none, some (.int _), some (.int _), _, _]) (st' := [.ref _, .int _]) 2 rfl ?_
    refine od_gL rfl rfl (ha) (hl) ?_
    refine od_r2F rfl (of_decide_eq_true rfl) (decide_eq_false (nI_ge (by omega) (by omega))) ?_
    refine od_W.rn (pc' := 52) (ls' := [some (.ref _), some (.ref _), some (.ref _), some (.int _), some (.long _), none, some (.int _), some (.int _), _, _]) (st' := [.int _, .ref _]) 2 rfl ?_
    refine od_rV (as := [.int (nI (tm_fl done).length)]) rfl rfl rfl rfl (od_cm_r ha) rfl (Nat.le_of_ble_eq_true rfl) (Nat.le_of_ble_eq_true rfl) (lt_termEnd hS ha hb hal.1 hx2 rfl) (Nat.le_of_ble_eq_true rfl) (fun o M1 hq => ?_)
    obtain ⟨rfl, rfl⟩ := hq
    refine od_K.ret ?_
    refine od_W.rn (pc' := 65) (ls' := [some (.ref _), some (.ref _), some (.ref _), some (.int _), some (.long _), none, some (.int _), some (.int _), some (.int _), _]) (st' := [.int _, .int _, .ref _, .int _, .int _, .ref _]) 7 rfl ?_
    refine od_rSt (as := [.ref a, .int (nI (tm_fl done).length), .int (nI ((tm_fl done).length + (tm_t t).length)), .ref b, .int (nI 0), .int (nI be)]) rfl rfl rfl rfl (Nat.le_of_ble_eq_true rfl) (Nat.le_of_ble_eq_true rfl) (lt_oe hS ha hb' hb hx2 (u' := []) hy rfl rfl rfl (by rw [hbe]; omega)) (Nat.le_of_ble_eq_true rfl) (fun o M1 hq => ?_)
    obtain ⟨rfl, rfl⟩ := hq
    refine od_K.ret ?_
    have e : (tm_fl done).length + (tm_t t).length = (tm_fl (done ++ [t])).length := by rw [tm_fl_snoc, List.length_append]
    refine od_W.rn (pc' := 72) (ls' := [some (.ref _), some (.ref _), some (.ref _), some (.int _), some (.long _), none, some (.int _), some (.int _), some (.int _), some (.int _)]) (st' := [.int _]) 2 rfl ?_
    rcases tm_cmp_is t.1 u.1 with hc | hc | hc
    · rw [hc]
      rw [show sp_kp u (t :: todo) = ([], u.2) by unfold sp_kp; rw [if_neg (by rw [hc]; decide), if_neg (by rw [hc]; decide)], List.append_nil] at hk
      refine od_r1T rfl rfl (rfl) ?_
      refine od_W.rn (pc' := 89) (ls' := [some (.ref _), some (.ref _), some (.ref _), some (.int _), some (.long _), none, some (.int _), some (.int _), some (.int _), some (.int _)]) (st' := [.int _]) 1 rfl ?_
      refine od_r1F rfl (of_decide_eq_true rfl) (rfl) ?_
      refine od_W.rn (pc' := 105) (ls' := [some (.ref _), some (.ref _), some (.ref _), some (.int _), some (.long _), none, some (.int _), some (.int _), some (.int _), some (.int _)]) (st' := []) 1 rfl ?_
      exact hk _ _ _
    · rw [hc]
      rw [show sp_kp u (t :: todo) = ([], u.2 + t.2) by unfold sp_kp; rw [if_neg (by rw [hc]; decide), if_pos hc], List.append_nil] at hk
      refine od_r1F rfl (of_decide_eq_true rfl) (rfl) ?_
      refine od_W.rn (pc' := 80) (ls' := [some (.ref _), some (.ref _), some (.ref _), some (.int _), some (.long _), none, some (.int _), some (.int _), some (.int _), some (.int _)]) (st' := [.int _, .ref _, .long _]) 3 rfl ?_
      refine od_rV (as := [.int (nI ((tm_fl done).length + (tm_t t).length))]) rfl rfl rfl rfl (od_cm_r ha) rfl (Nat.le_of_ble_eq_true rfl) (Nat.le_of_ble_eq_true rfl) (lt_coefficient hS ha hb hx2 rfl) (Nat.le_of_ble_eq_true rfl) (fun o M1 hq => ?_)
      obtain ⟨rfl, rfl⟩ := hq
      refine od_K.ret ?_
      refine od_W.rn (pc' := 87) (ls' := [some (.ref _), some (.ref _), some (.ref _), some (.int _), some (.long _), none, some (.int _), some (.int _), some (.int _), some (.int _)]) (st' := []) 3 rfl ?_
      rw [nI_1000 hal.1.2.2, lN_add]
      refine od_W.rn (pc' := 89) (ls' := [some (.ref _), some (.ref _), some (.ref _), some (.int _), some (.long _), none, some (.int _), some (.int _), some (.int _), some (.int _)]) (st' := [.int _]) 1 rfl ?_
      refine od_r1F rfl (of_decide_eq_true rfl) (rfl) ?_
      refine od_W.rn (pc' := 105) (ls' := [some (.ref _), some (.ref _), some (.ref _), some (.int _), some (.long _), none, some (.int _), some (.int _), some (.int _), some (.int _)]) (st' := []) 1 rfl ?_
      exact hk _ _ _
    · rw [hc]
      rw [show sp_kp u (t :: todo) = (t :: (sp_kp u todo).1, (sp_kp u todo).2) by conv => lhs; unfold sp_kp; rw [if_pos hc]] at hk
      refine od_r1T rfl rfl (rfl) ?_
      refine od_W.rn (pc' := 89) (ls' := [some (.ref _), some (.ref _), some (.ref _), some (.int _), some (.long _), none, some (.int _), some (.int _), some (.int _), some (.int _)]) (st' := [.int _]) 1 rfl ?_
      refine od_r1T rfl rfl (rfl) ?_
      refine od_W.rn (pc' := 33) (ls' := [some (.ref _), some (.ref _), some (.ref _), some (.int _), some (.long _), none, some (.int _), some (.int _), some (.int _), some (.int _)]) (st' := []) 4 rfl ?_
      rw [e, nI_inc done.length, show done.length + 1 = (done ++ [t]).length by simp]
      refine ih (done ++ [t]) _ _ hal.2 (by rw [tm_fl_snoc, List.append_assoc]; exact hx2) ?_
      rw [List.append_assoc]
      exact hk
theorem lt_makeSum (hS : od_SS S) (ha : S a = true) (hb' : S b = true) (ho : S out = true) (na : out ≠ a) (nb : out ≠ b) (hb : od_Bd ρ) {ts us : List tm_T} (h1 : tm_al ts) (h2 : tm_al us) (hx : od_hl ρ a (tm_fl ts)) (hy : od_hl ρ b (tm_fl us)) : od_W 3 30 0 (od_ent 30 [.ref a, .ref b, .ref out]) [] (od_cm S M ρ) (od_Re S M ρ [out] (tm_ft (tm_fl (sp_sum ts us))) none (fun ρ' => od_hl ρ' out (tm_fl (sp_sum ts us)))) := by
  have e0 : od_ent 30 [.ref a, .ref b, .ref out] = [some (.ref a), some (.ref b), some (.ref out), none, none, none, none, none, none, none] := rfl
  rw [e0]
  refine od_W.rn (pc' := 1) (ls' := [some (.ref _), some (.ref _), some (.ref _), none, none, none, none, none, none, none]) (st' := [.ref _]) 1 rfl ?_
  refine od_rV (as := []) rfl rfl rfl rfl (od_cm_r hb') rfl (Nat.le_of_ble_eq_true rfl) (Nat.le_of_ble_eq_true rfl) (lt_isZero hS hb' hb hy) (Nat.le_of_ble_eq_true rfl) (fun o M1 hq => ?_)
  obtain ⟨rfl, rfl⟩ := hq
  refine od_K.ret ?_
  cases us with
  | nil =>
    refine od_r1F rfl (of_decide_eq_true rfl) (rfl) ?_
    refine od_W.rn (pc' := 9) (ls' := [some (.ref _), some (.ref _), some (.ref _), none, none, none, none, none, none, none]) (st' := [.ref _, .ref _]) 2 rfl ?_
    refine od_rV (as := [.ref a]) rfl rfl rfl rfl (od_cm_r ho) rfl (Nat.le_of_ble_eq_true rfl) (Nat.le_of_ble_eq_true rfl) (lt_become hS ho ha na hb hx) (Nat.le_of_ble_eq_true rfl) (fun o M1 hq => ?_)
    refine od_Re.kp hq rfl (by simp) (od_fr0 ρ [out]) (fun _ => trivial) (fun ρ1 f1 g1 b1 p1 k1 => ?_)
    refine od_W.fin rfl ?_
    exact od_Re.yes g1 b1 ⟨hx.le hb, hx.2⟩ p1
  | cons u us =>
    have hy2 : od_hl ρ b ([] ++ (tm_t u ++ tm_fl us)) := hy
    have hyl := hy.n
    have hy60 := hy.le hb
    rw [tm_fl, List.length_append] at hyl hy60
    refine od_r1T rfl rfl (rfl) ?_
    refine od_W.rn (pc' := 15) (ls' := [some (.ref _), some (.ref _), some (.ref _), none, none, none, none, none, none, none]) (st' := [.int _, .ref _]) 2 rfl ?_
    refine od_rV (as := [.int (nI 0)]) rfl rfl rfl rfl (od_cm_r hb') rfl (Nat.le_of_ble_eq_true rfl) (Nat.le_of_ble_eq_true rfl) (lt_termEnd hS hb' hb h2.1 hy2 rfl) (Nat.le_of_ble_eq_true rfl) (fun o M1 hq => ?_)
    obtain ⟨rfl, rfl⟩ := hq
    refine od_K.ret ?_
    refine od_W.rn (pc' := 21) (ls' := [some (.ref _), some (.ref _), some (.ref _), some (.int _), none, none, none, none, none, none]) (st' := [.int _, .ref _]) 3 rfl ?_
    refine od_rV (as := [.int (nI (0 + (tm_t u).length))]) rfl rfl rfl rfl (od_cm_r hb') rfl (Nat.le_of_ble_eq_true rfl) (Nat.le_of_ble_eq_true rfl) (lt_coefficient hS hb' hb hy2 (by simp)) (Nat.le_of_ble_eq_true rfl) (fun o M1 hq => ?_)
    obtain ⟨rfl, rfl⟩ := hq
    refine od_K.ret ?_
    refine od_W.rn (pc' := 33) (ls' := [some (.ref _), some (.ref _), some (.ref _), some (.int _), some (.long _), none, some (.int _), some (.int _), none, none]) (st' := []) 6 rfl ?_
    rw [nI_1000 h2.1.2.2, Nat.zero_add]
    refine cl_sum_loop (out := out) hS ha hb' hb hy rfl ts [] none none h1 hx (fun w8 w9 wt => ?_)
    rw [List.nil_append]
    obtain ⟨rs, hrs⟩ := sp_kp_pre u ts
    have hx2 : od_hl ρ a ([] ++ (tm_fl (sp_kp u ts).1 ++ tm_fl rs)) := by rw [List.nil_append, ← tm_fl_app, ← hrs]; exact hx
    have hc := sp_kp_c h2.1 h1
    have e : tm_fl (sp_sum ts (u :: us)) = (tm_fl (sp_kp u ts).1 ++ tm_t (u.1, (sp_kp u ts).2)) ++ tm_fl us := by
      show tm_fl ((sp_kp u ts).1 ++ (u.1, (sp_kp u ts).2) :: us) = _
      rw [tm_fl_app, tm_fl, List.append_assoc]
    rw [e]
    refine od_W.rn (pc' := 110) (ls' := [some (.ref _), some (.ref _), some (.ref _), some (.int _), some (.long _), none, some (.int _), some (.int _), _, _]) (st' := [.int _, .int _, .ref _, .ref _]) 4 rfl ?_
    refine od_rV (as := [.ref a, .int (nI 0), .int (nI (tm_fl (sp_kp u ts).1).length)]) rfl rfl rfl rfl (od_cm_r ho) rfl (Nat.le_of_ble_eq_true rfl) (Nat.le_of_ble_eq_true rfl) (lt_becomePart hS ho ha na hb hx2 rfl (by omega)) (Nat.le_of_ble_eq_true rfl) (fun o M1 hq => ?_)
    refine od_Re.kp hq rfl (by simp) (od_fr0 ρ [out]) (fun _ => trivial) (fun ρ1 f1 g1 b1 p1 k1 => ?_)
    have hy3 := hy2.fr (f1 b (by simpa using Ne.symm nb))
    refine od_W.rn (pc' := 119) (ls' := [some (.ref _), some (.ref _), some (.ref _), some (.int _), some (.long _), none, some (.int _), some (.int _), _, _]) (st' := [.long _, .int _, .int _, .ref _, .ref _]) 5 rfl ?_
    refine od_rV (as := [.ref b, .int (nI 0), .int (nI (tm_t u).length), .long (lN (sp_kp u ts).2)]) rfl rfl rfl rfl (od_cm_r ho) rfl (Nat.le_of_ble_eq_true rfl) (Nat.le_of_ble_eq_true rfl) (lt_putTermAgain hS ho hb' nb b1 p1 hy3 rfl (by omega) (by omega) (by omega)) (Nat.le_of_ble_eq_true rfl) (fun o M1 hq => ?_)
    refine od_Re.kp hq rfl (by simp) (g1) (tm_ft_l) (fun ρ2 f2 g2 b2 p2 k2 => ?_)
    have hy4 := hy3.fr (f2 b (by simpa using Ne.symm nb))
    refine od_W.rn (pc' := 126) (ls' := [some (.ref _), some (.ref _), some (.ref _), some (.int _), some (.long _), none, some (.int _), some (.int _), _, _]) (st' := [.ref _, .int _, .ref _, .ref _]) 4 rfl ?_
    refine od_gL rfl rfl (hb') (hy4.n) ?_
    refine od_rV (as := [.ref b, .int (nI (tm_t u).length), .int (nI ([] ++ (tm_t u ++ tm_fl us)).length)]) rfl rfl rfl rfl (od_cm_r ho) rfl (Nat.le_of_ble_eq_true rfl) (Nat.le_of_ble_eq_true rfl) (lt_putPart hS ho hb' nb b2 p2 (u := tm_t u) (w := tm_fl us) (z := []) (by simpa using hy4) rfl (by simp)) (Nat.le_of_ble_eq_true rfl) (fun o M1 hq => ?_)
    refine od_Re.kp hq rfl (by simp) (g2) (fun z => z) (fun ρ3 f3 g3 b3 p3 k3 => ?_)
    refine od_W.fin rfl ?_
    exact od_Re.yes g3 b3 k3 p3
end SUM
