/-! Differences; rules for quotients of numbers. -/
theorem nI_mulN (a b : Nat) : nI a * nI b = nI (a * b) := by unfold nI; exact (Int32.ofNat_mul a b).symm
theorem nI_subT {a b : Nat} (ha : a < 2 ^ 31) (hb : b < 2 ^ 31) : (nI a - nI b).toInt = (a : Int) - (b : Int) := by
  rw [Int32.toInt_sub, nI_toInt ha, nI_toInt hb]
  exact Int.bmod_eq_of_le (by omega) (by omega)
theorem nI_subNe {a b : Nat} (ha : a < 2 ^ 31) (hb : b < 2 ^ 31) (h : a ≠ b) : ¬ nI a - nI b = 0 := by
  intro z
  have := nI_subT ha hb
  rw [z, Int32.toInt_zero] at this
  omega
theorem nI_subLe {a b : Nat} (ha : a < 2 ^ 31) (hb : b < 2 ^ 31) (h : a ≤ b) : (nI a - nI b).toInt64 ≤ 0 := by
  rw [Int64.le_iff_toInt_le, Int32.toInt_toInt64, nI_subT ha hb, Int64.toInt_zero]
  omega
section RULD
variable {d k pc : Nat} {ls : od_L} {st : List Value} {M : od_M} {Q : od_O → od_M → Prop}
theorem od_rDidiv {x y : Int32} {a b : Nat} (h : od_cd k pc = some (.idiv, 1)) (hx : x = nI a) (hy : y = nI b) (h0 : 0 < b) (ha : a < 2 ^ 31) (hb : b < 2 ^ 31) (kk : od_W d k (pc + 1) ls (.int (nI (a / b)) :: st) M Q) : od_W d k pc ls (.int y :: .int x :: st) M Q := by
  subst hx
  subst hy
  refine od_wX h ?_
  simp only [od_ins, od_i2, od_go, od_X, ↓reduceIte]
  rw [if_neg (nI_ne0 h0 hb), pk_div ha h0 hb]
  exact kk
theorem od_rDirem {x y : Int32} {a b : Nat} (h : od_cd k pc = some (.irem, 1)) (hx : x = nI a) (hy : y = nI b) (h0 : 0 < b) (ha : a < 2 ^ 31) (hb : b < 2 ^ 31) (kk : od_W d k (pc + 1) ls (.int (nI (a % b)) :: st) M Q) : od_W d k pc ls (.int y :: .int x :: st) M Q := by
  subst hx
  subst hy
  refine od_wX h ?_
  simp only [od_ins, od_i2, od_go, od_X, ↓reduceIte]
  have e : a - a / b * b = a % b := by rw [Nat.mul_comm, Nat.mod_eq_sub_mul_div]
  rw [if_neg (nI_ne0 h0 hb), pk_div ha h0 hb, nI_mulN, pk_sub (Nat.div_mul_le_self a b), e]
  exact kk
theorem lN_ne0 {n : Nat} (h0 : 0 < n) (h : n < 2 ^ 63) : ¬ lN n = 0 := fun z => absurd ((pk_lEQ (b := 0) h (by omega)).mp z) (by omega)
theorem od_rDldiv {x y : Int64} {a b : Nat} (h : od_cd k pc = some (.ldiv, 1)) (hx : x = lN a) (hy : y = lN b) (h0 : 0 < b) (ha : a < 2 ^ 63) (hb : b < 2 ^ 63) (kk : od_W d k (pc + 1) ls (.long (lN (a / b)) :: st) M Q) : od_W d k pc ls (.long y :: .long x :: st) M Q := by
  subst hx
  subst hy
  refine od_wX h ?_
  simp only [od_ins, od_l2, od_go, od_X, ↓reduceIte]
  rw [if_neg (lN_ne0 h0 hb), pk_lDiv ha h0 hb]
  exact kk
theorem od_rDlrem {x y : Int64} {a b : Nat} (h : od_cd k pc = some (.lrem, 1)) (hx : x = lN a) (hy : y = lN b) (h0 : 0 < b) (ha : a < 2 ^ 63) (hb : b < 2 ^ 63) (kk : od_W d k (pc + 1) ls (.long (lN (a % b)) :: st) M Q) : od_W d k pc ls (.long y :: .long x :: st) M Q := by
  subst hx
  subst hy
  refine od_wX h ?_
  simp only [od_ins, od_l2, od_go, od_X, ↓reduceIte]
  have e : a - a / b * b = a % b := by rw [Nat.mul_comm, Nat.mod_eq_sub_mul_div]
  rw [if_neg (lN_ne0 h0 hb), pk_lDiv ha h0 hb, lN_mul, lN_sub (Nat.div_mul_le_self a b), e]
  exact kk
end RULD
def sp_dif : List tm_T → List tm_T → List tm_T
  | [], _ => []
  | t :: ts, [] => t :: ts
  | t :: ts, u :: us => if tm_cmp t.1 u.1 = 0 then (if t.2 = u.2 then sp_dif ts us else if u.2 < t.2 then (t.1, t.2 - u.2) :: ts else ts) else t :: ts
theorem sp_dif_al : ∀ {ts us : List tm_T}, tm_al ts → tm_al (sp_dif ts us) := by
  intro ts
  induction ts with
  | nil => intro us _; exact trivial
  | cons t ts ih =>
    intro us h
    cases us with
    | nil => exact h
    | cons u us =>
      unfold sp_dif
      split
      · split
        · exact ih h.2
        · split
          · exact ⟨⟨h.1.1, by have := h.1.2; unfold tm_c at *; dsimp only; omega⟩, h.2⟩
          · exact h.2
      · exact h
theorem tm_ft_cons {t : tm_T} {ts : List tm_T} (h : tm_ft (tm_fl (t :: ts))) : tm_ft (tm_fl ts) := by rw [tm_fl] at h; exact tm_ft_r h
theorem sp_dif_ft : ∀ {ts us : List tm_T}, tm_ft (tm_fl ts) → tm_ft (tm_fl (sp_dif ts us)) := by
  intro ts
  induction ts with
  | nil => intro us h; exact h
  | cons t ts ih =>
    intro us h
    cases us with
    | nil => exact h
    | cons u us =>
      unfold sp_dif
      split
      · split
        · exact ih (tm_ft_cons h)
        · split
          · have h1 := h.1
            have h2 := h.2
            rw [tm_fl, List.length_append, tm_t_len] at h1
            rw [tm_fl, tm_sm_app, tm_sm_t] at h2
            refine ⟨?_, ?_⟩
            · rw [tm_fl, List.length_append, tm_t_len]; exact h1
            · rw [tm_fl, tm_sm_app, tm_sm_t]; exact ⟨⟨h2.1.1, by dsimp only; omega⟩, h2.2⟩
          · exact tm_ft_cons h
      · exact h
section DIF
variable {S : Nat → Bool} {M : od_M} {ρ0 : od_Rm} {a b out : Nat}
theorem cl_dif_end {ρ : od_Rm} (hS : od_SS S) (ha : S a = true) (ho : S out = true) (na : out ≠ a) {ua wa zs : List Nat} {kt : Int32} {w5 w6 w7 : Option Value} (hb : od_Bd ρ) (g : ∀ q, q ∉ [out] → ρ q = ρ0 q) (hx : od_hl ρ a (ua ++ wa)) (hz : od_hl ρ out zs) : od_W 3 40 109 [some (.ref a), some (.ref b), some (.ref out), some (.int (nI ua.length)), some (.int kt), w5, w6, w7] [] (od_cm S M ρ) (od_Re S M ρ0 [out] (tm_ft (zs ++ wa)) none (fun ρ' => od_hl ρ' out (zs ++ wa))) := by
  refine od_W.rn (pc' := 113) (ls' := [some (.ref _), some (.ref _), some (.ref _), some (.int _), some (.int _), _, _, _]) (st' := [.ref _, .int _, .ref _, .ref _]) 4 rfl ?_
  refine od_gL rfl rfl (ha) (hx.n) ?_
  refine od_rV (as := [.ref a, .int (nI ua.length), .int (nI (ua ++ wa).length)]) rfl rfl rfl rfl (od_cm_r ho) rfl (Nat.le_of_ble_eq_true rfl) (Nat.le_of_ble_eq_true rfl) (lt_putPart hS ho ha na hb hz (u := ua) (w := wa) (z := []) (by simpa using hx) rfl (by simp)) (Nat.le_of_ble_eq_true rfl) (fun o M1 hq => ?_)
  refine od_Re.kp hq rfl (by simp) (g) (fun z => z) (fun ρ1 f1 g1 b1 p1 k1 => ?_)
  refine od_W.fin rfl ?_
  exact od_Re.yes g1 b1 k1 p1
set_option maxRecDepth 100000 in
theorem cl_dif_loop {ρ : od_Rm} (hS : od_SS S) (ha : S a = true) (hb' : S b = true) (ho : S out = true) (na : out ≠ a) (nb : out ≠ b) (hb : od_Bd ρ) (g : ∀ q, q ∉ [out] → ρ q = ρ0 q) (hz : od_hl ρ out []) : ∀ (ta tb done : List tm_T) (w5 w6 w7 : Option Value), tm_al ta → tm_al tb → od_hl ρ a (tm_fl done ++ tm_fl ta) → od_hl ρ b (tm_fl done ++ tm_fl tb) → od_W 3 40 9 [some (.ref a), some (.ref b), some (.ref out), some (.int (nI (tm_fl done).length)), some (.int (nI done.length)), w5, w6, w7] [] (od_cm S M ρ) (od_Re S M ρ0 [out] (tm_ft (tm_fl (sp_dif ta tb))) none (fun ρ' => od_hl ρ' out (tm_fl (sp_dif ta tb)))) := by
  intro ta
  induction ta with
  | nil =>
    intro tb done w5 w6 w7 _ _ hx hy
    have hl := hx.n
    have h60 := hx.le hb
    have h3 := tm_fl_len done
    rw [tm_fl, List.append_nil] at hl h60
    have hend := fun (w5 w6 w7 : Option Value) => cl_dif_end (b := b) (M := M) (kt := nI done.length) (w5 := w5) (w6 := w6) (w7 := w7) hS ha ho na hb g hx hz
    rw [show sp_dif [] tb = [] from rfl]
    by_cases h20 : done.length < 20
    · refine od_W.rn (pc' := 13) (ls' := [some (.ref _), some (.ref _), some (.ref _), some (.int _), some (.int _), _, _, _]) (st' := [.int _, .int _]) 2 rfl ?_
      refine od_r2F rfl (of_decide_eq_true rfl) (decide_eq_false (nI_ge (b := 20) h20 (by omega))) ?_
      refine od_W.rn (pc' := 18) (ls' := [some (.ref _), some (.ref _), some (.ref _), some (.int _), some (.int _), _, _, _]) (st' := [.ref _, .int _]) 2 rfl ?_
      refine od_gL rfl rfl (ha) (hl) ?_
      refine od_r2T rfl rfl (decide_eq_true (nI_le (Nat.le_refl _) (by omega))) ?_
      exact hend _ _ _
    · refine od_W.rn (pc' := 13) (ls' := [some (.ref _), some (.ref _), some (.ref _), some (.int _), some (.int _), _, _, _]) (st' := [.int _, .int _]) 2 rfl ?_
      refine od_r2T rfl rfl (decide_eq_true (nI_le (a := 20) (by omega) (by omega))) ?_
      exact hend _ _ _
  | cons t ta ih =>
    intro tb done w5 w6 w7 al1 al2 hx hy
    have hl := hx.n
    have h60 := hx.le hb
    have h3 := tm_fl_len done
    have hl' := hy.n
    have h60' := hy.le hb
    rw [tm_fl, List.length_append, List.length_append, tm_t_len] at hl h60
    rw [List.length_append] at hl' h60'
    have hx2 : od_hl ρ a (tm_fl done ++ (tm_t t ++ tm_fl ta)) := hx
    have hend := fun (w5 w6 w7 : Option Value) => cl_dif_end (b := b) (M := M) (kt := nI done.length) (w5 := w5) (w6 := w6) (w7 := w7) hS ha ho na hb g hx hz
    rw [List.nil_append] at hend
    refine od_W.rn (pc' := 13) (ls' := [some (.ref _), some (.ref _), some (.ref _), some (.int _), some (.int _), _, _, _]) (st' := [.int _, .int _]) 2 rfl ?_
    refine od_r2F rfl (of_decide_eq_true rfl) (decide_eq_false (nI_ge (b := 20) (by omega) (by omega))) ?_
    refine od_W.rn (pc' := 18) (ls' := [some (.ref _), some (.ref _), some (.ref _), some (.int _), some (.int _), _, _, _]) (st' := [.ref _, .int _]) 2 rfl ?_
    refine od_gL rfl rfl (ha) (hl) ?_
    refine od_r2F rfl (of_decide_eq_true rfl) (decide_eq_false (nI_ge (by omega) (by omega))) ?_
    refine od_W.rn (pc' := 26) (ls' := [some (.ref _), some (.ref _), some (.ref _), some (.int _), some (.int _), _, _, _]) (st' := [.ref _, .int _]) 2 rfl ?_
    refine od_gL rfl rfl (hb') (hl') ?_
    cases tb with
    | nil =>
      rw [show sp_dif (t :: ta) [] = t :: ta from rfl]
      refine od_r2T rfl rfl (decide_eq_true (nI_le (by simp [tm_fl]) (by omega))) ?_
      exact hend _ _ _
    | cons u tb =>
      have hy2 : od_hl ρ b (tm_fl done ++ (tm_t u ++ tm_fl tb)) := hy
      rw [tm_fl, List.length_append, tm_t_len] at hl' h60'
      refine od_r2F rfl (of_decide_eq_true rfl) (decide_eq_false (nI_ge (by rw [tm_fl, List.length_append, tm_t_len]; omega) (by rw [tm_fl, List.length_append, tm_t_len]; omega))) ?_
      refine od_W.rn (pc' := 34) (ls' := [some (.ref _), some (.ref _), some (.ref _), some (.int _), some (.int _), _, _, _]) (st' := [.int _, .ref _]) 2 rfl ?_
      refine od_rV (as := [.int (nI (tm_fl done).length)]) rfl rfl rfl rfl (od_cm_r ha) rfl (Nat.le_of_ble_eq_true rfl) (Nat.le_of_ble_eq_true rfl) (lt_termEnd hS ha hb al1.1 hx2 rfl) (Nat.le_of_ble_eq_true rfl) (fun o M1 hq => ?_)
      obtain ⟨rfl, rfl⟩ := hq
      refine od_K.ret ?_
      refine od_W.rn (pc' := 41) (ls' := [some (.ref _), some (.ref _), some (.ref _), some (.int _), some (.int _), some (.int _), _, _]) (st' := [.int _, .ref _]) 3 rfl ?_
      refine od_rV (as := [.int (nI (tm_fl done).length)]) rfl rfl rfl rfl (od_cm_r hb') rfl (Nat.le_of_ble_eq_true rfl) (Nat.le_of_ble_eq_true rfl) (lt_termEnd hS hb' hb al2.1 hy2 rfl) (Nat.le_of_ble_eq_true rfl) (fun o M1 hq => ?_)
      obtain ⟨rfl, rfl⟩ := hq
      refine od_K.ret ?_
      refine od_W.rn (pc' := 54) (ls' := [some (.ref _), some (.ref _), some (.ref _), some (.int _), some (.int _), some (.int _), some (.int _), _]) (st' := [.int _, .int _, .ref _, .int _, .int _, .ref _]) 7 rfl ?_
      refine od_rSt (as := [.ref a, .int (nI (tm_fl done).length), .int (nI ((tm_fl done).length + (tm_t t).length)), .ref b, .int (nI (tm_fl done).length), .int (nI ((tm_fl done).length + (tm_t u).length))]) rfl rfl rfl rfl (Nat.le_of_ble_eq_true rfl) (Nat.le_of_ble_eq_true rfl) (lt_oe hS ha hb' hb hx2 hy2 rfl rfl rfl rfl) (Nat.le_of_ble_eq_true rfl) (fun o M1 hq => ?_)
      obtain ⟨rfl, rfl⟩ := hq
      refine od_K.ret ?_
      by_cases hc : tm_cmp t.1 u.1 = 0
      · have c1 := al1.1.2
        have c2 := al2.1.2
        unfold tm_c at c1 c2
        have hte : t.1 = u.1 := tm_cmp_eq hc
        rw [hc]
        refine od_r1T rfl rfl (rfl) ?_
        refine od_W.rn (pc' := 66) (ls' := [some (.ref _), some (.ref _), some (.ref _), some (.int _), some (.int _), some (.int _), some (.int _), _]) (st' := [.int _, .ref _]) 2 rfl ?_
        refine od_rV (as := [.int (nI ((tm_fl done).length + (tm_t t).length))]) rfl rfl rfl rfl (od_cm_r ha) rfl (Nat.le_of_ble_eq_true rfl) (Nat.le_of_ble_eq_true rfl) (lt_coefficient hS ha hb hx2 rfl) (Nat.le_of_ble_eq_true rfl) (fun o M1 hq => ?_)
        obtain ⟨rfl, rfl⟩ := hq
        refine od_K.ret ?_
        refine od_W.rn (pc' := 72) (ls' := [some (.ref _), some (.ref _), some (.ref _), some (.int _), some (.int _), some (.int _), some (.int _), _]) (st' := [.int _, .ref _, .int _]) 2 rfl ?_
        refine od_rV (as := [.int (nI ((tm_fl done).length + (tm_t u).length))]) rfl rfl rfl rfl (od_cm_r hb') rfl (Nat.le_of_ble_eq_true rfl) (Nat.le_of_ble_eq_true rfl) (lt_coefficient hS hb' hb hy2 rfl) (Nat.le_of_ble_eq_true rfl) (fun o M1 hq => ?_)
        obtain ⟨rfl, rfl⟩ := hq
        refine od_K.ret ?_
        refine od_W.rn (pc' := 80) (ls' := [some (.ref _), some (.ref _), some (.ref _), some (.int _), some (.int _), some (.int _), some (.int _), some (.int _)]) (st' := [.int _]) 3 rfl ?_
        have e : (tm_fl done).length + (tm_t t).length = (tm_fl (done ++ [t])).length := by rw [tm_fl_snoc, List.length_append]
        by_cases h1 : t.2 = u.2
        · rw [show sp_dif (t :: ta) (u :: tb) = sp_dif ta tb by conv => lhs; unfold sp_dif; rw [if_pos hc, if_pos h1]]
          refine od_r1T rfl rfl (decide_eq_true (by rw [h1]; exact Int32.sub_self _)) ?_
          refine od_W.rn (pc' := 9) (ls' := [some (.ref _), some (.ref _), some (.ref _), some (.int _), some (.int _), some (.int _), some (.int _), some (.int _)]) (st' := []) 4 rfl ?_
          have htu : u = t := by rw [show u = (u.1, u.2) from rfl, ← hte, ← h1]
          rw [htu] at hy2
          rw [e, nI_inc done.length, show done.length + 1 = (done ++ [t]).length by simp]
          exact ih tb (done ++ [t]) _ _ _ al1.2 al2.2 (by rw [tm_fl_snoc, List.append_assoc]; exact hx2) (by rw [tm_fl_snoc, List.append_assoc]; exact hy2)
        · refine od_r1F rfl (of_decide_eq_true rfl) (decide_eq_false (nI_subNe (by omega) (by omega) h1)) ?_
          refine od_W.rn (pc' := 91) (ls' := [some (.ref _), some (.ref _), some (.ref _), some (.int _), some (.int _), some (.int _), some (.int _), some (.int _)]) (st' := [.long _, .int _, .int _, .ref _, .ref _]) 6 rfl ?_
          by_cases h2 : u.2 < t.2
          · rw [show sp_dif (t :: ta) (u :: tb) = (t.1, t.2 - u.2) :: ta by conv => lhs; unfold sp_dif; rw [if_pos hc, if_neg h1, if_pos h2], tm_fl]
            rw [nI_subI (Nat.le_of_lt h2), nI_1000 (by omega)]
            refine od_rV (as := [.ref a, .int (nI (tm_fl done).length), .int (nI ((tm_fl done).length + (tm_t t).length)), .long (lN (t.2 - u.2))]) rfl rfl rfl rfl (od_cm_r ho) rfl (Nat.le_of_ble_eq_true rfl) (Nat.le_of_ble_eq_true rfl) (lt_putTermAgain hS ho ha na hb hz hx2 rfl rfl (by omega) (by omega)) (Nat.le_of_ble_eq_true rfl) (fun o M1 hq => ?_)
            refine od_Re.kp hq rfl (by simp) (g) (tm_ft_l) (fun ρ1 f1 g1 b1 p1 k1 => ?_)
            have hx3 := hx2.fr (f1 a (by simp; omega))
            refine od_W.rn (pc' := 109) (ls' := [some (.ref _), some (.ref _), some (.ref _), some (.int _), some (.int _), some (.int _), some (.int _), some (.int _)]) (st' := []) 3 rfl ?_
            rw [e]
            exact cl_dif_end hS ha ho na b1 g1 (by rw [tm_fl_snoc, List.append_assoc]; exact hx3) p1
          · rw [show sp_dif (t :: ta) (u :: tb) = ta by conv => lhs; unfold sp_dif; rw [if_pos hc, if_neg h1, if_neg h2]]
            refine od_rV (as := [.ref a, .int (nI (tm_fl done).length), .int (nI ((tm_fl done).length + (tm_t t).length)), .long (nI t.2 - nI u.2).toInt64]) rfl rfl rfl rfl (od_cm_r ho) rfl (Nat.le_of_ble_eq_true rfl) (Nat.le_of_ble_eq_true rfl) (lt_putTermAgain0 (nI_subLe (by omega) (by omega) (by omega)) hb hz) (Nat.le_of_ble_eq_true rfl) (fun o M1 hq => ?_)
            refine od_Re.kp hq rfl (by simp) (g) (fun _ => trivial) (fun ρ1 f1 g1 b1 p1 k1 => ?_)
            have hx3 := hx2.fr (f1 a (by simp; omega))
            refine od_W.rn (pc' := 109) (ls' := [some (.ref _), some (.ref _), some (.ref _), some (.int _), some (.int _), some (.int _), some (.int _), some (.int _)]) (st' := []) 3 rfl ?_
            rw [e]
            have := cl_dif_end (b := b) (M := M) (kt := nI done.length) (w5 := some (.int (nI (tm_fl (done ++ [t])).length))) (w6 := some (.int (nI ((tm_fl done).length + (tm_t u).length)))) (w7 := some (.int (nI t.2 - nI u.2))) (ua := tm_fl (done ++ [t])) (wa := tm_fl ta) hS ha ho na b1 g1 (by rw [tm_fl_snoc, List.append_assoc]; exact hx3) p1
            rw [List.nil_append] at this
            exact this
      · rw [show sp_dif (t :: ta) (u :: tb) = t :: ta by conv => lhs; unfold sp_dif; rw [if_neg hc]]
        refine od_r1F rfl (of_decide_eq_true rfl) (decide_eq_false hc) ?_
        refine od_W.rn (pc' := 109) (ls' := [some (.ref _), some (.ref _), some (.ref _), some (.int _), some (.int _), some (.int _), some (.int _), _]) (st' := []) 1 rfl ?_
        exact hend _ _ _
theorem lt_makeDifference {ρ : od_Rm} (hS : od_SS S) (ha : S a = true) (hb' : S b = true) (ho : S out = true) (na : out ≠ a) (nb : out ≠ b) (hb : od_Bd ρ) {ts us : List tm_T} (h1 : tm_al ts) (h2 : tm_al us) (hx : od_hl ρ a (tm_fl ts)) (hy : od_hl ρ b (tm_fl us)) : od_W 3 40 0 (od_ent 40 [.ref a, .ref b, .ref out]) [] (od_cm S M ρ) (od_Re S M ρ [out] True none (fun ρ' => od_hl ρ' out (tm_fl (sp_dif ts us)))) := by
  have e0 : od_ent 40 [.ref a, .ref b, .ref out] = [some (.ref a), some (.ref b), some (.ref out), none, none, none, none, none] := rfl
  rw [e0]
  have hok : tm_ft (tm_fl (sp_dif ts us)) := sp_dif_ft ⟨hx.le hb, hx.2⟩
  refine od_W.rn (pc' := 1) (ls' := [some (.ref _), some (.ref _), some (.ref _), none, none, none, none, none]) (st' := [.ref _]) 1 rfl ?_
  refine od_rV (as := []) rfl rfl rfl rfl (od_cm_r ho) rfl (Nat.le_of_ble_eq_true rfl) (Nat.le_of_ble_eq_true rfl) (lt_clear hS ho hb) (Nat.le_of_ble_eq_true rfl) (fun o M1 hq => ?_)
  refine od_Re.kp hq rfl (by simp) (od_fr0 ρ _) (fun _ => trivial) (fun ρ1 f1 g1 b1 p1 k1 => ?_)
  have hx1 := hx.fr (f1 a (by simp; omega))
  have hy1 := hy.fr (f1 b (by simp; omega))
  refine od_W.rn (pc' := 9) (ls' := [some (.ref _), some (.ref _), some (.ref _), some (.int _), some (.int _), none, none, none]) (st' := []) 4 rfl ?_
  refine (cl_dif_loop (M := M) (ρ0 := ρ) hS ha hb' ho na nb b1 g1 p1 ts us [] none none none h1 h2 hx1 hy1).mono fun o M' h => ?_
  exact h.mono (fun q h => h) ⟨fun _ => trivial, fun _ => hok⟩ (fun ρ' _ _ h => h)
end DIF
