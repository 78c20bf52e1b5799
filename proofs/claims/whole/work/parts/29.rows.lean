/-! Terms put, exponents taken, by lists. -/
section LT2
variable {S : Nat → Bool} {M : od_M} {ρ : od_Rm} {r q : Nat} {xs ys : List Nat}
theorem od_fr0 (ρ : od_Rm) (U : List Nat) : ∀ a, a ∉ U → ρ a = ρ a := fun _ _ => rfl
theorem lt_putTerm (hS : od_SS S) (hr : S r = true) (hq' : S q = true) (hne : r ≠ q) (hb : od_Bd ρ) (hx : od_hl ρ r xs) (hy : od_hl ρ q ys) {c : Nat} (hc : c < 2 ^ 63) : od_W 3 23 0 (od_ent 23 [.ref r, .ref q, .long (lN c)]) [] (od_cm S M ρ) (od_Re S M ρ [r] (tm_ft (xs ++ tm_t (ys, c))) none (fun ρ' => od_hl ρ' r (xs ++ tm_t (ys, c)))) := by
  have e0 : od_ent 23 [.ref r, .ref q, .long (lN c)] = [some (.ref r), some (.ref q), some (.long (lN c)), none] := rfl
  rw [e0]
  have e : xs ++ tm_t (ys, c) = ((xs ++ [1]) ++ ys) ++ [0, c] := by simp [tm_t]
  rw [e]
  refine od_W.rn (pc' := 1) (ls' := [some (.ref _), some (.ref _), some (.long _), none]) (st' := [.ref _]) 1 rfl ?_
  refine od_rV (as := []) rfl rfl rfl rfl (od_cm_r hr) rfl (Nat.le_of_ble_eq_true rfl) (Nat.le_of_ble_eq_true rfl) (lt_openTerm hS hr hb hx) (Nat.le_of_ble_eq_true rfl) (fun o M1 hq => ?_)
  refine od_Re.kp hq rfl (by simp) (od_fr0 ρ [r]) (fun z => tm_ft_l (tm_ft_l z)) (fun ρ1 f1 g1 b1 p1 k1 => ?_)
  have hy1 : od_hl ρ1 q ys := hy.fr (f1 q (by simpa using Ne.symm hne))
  refine od_W.rn (pc' := 8) (ls' := [some (.ref _), some (.ref _), some (.long _), none]) (st' := [.ref _, .int _, .ref _, .ref _]) 4 rfl ?_
  refine od_gL rfl rfl (hq') (hy1.n) ?_
  refine od_rV (as := [.ref q, .int (nI 0), .int (nI ys.length)]) rfl rfl rfl rfl (od_cm_r hr) rfl (Nat.le_of_ble_eq_true rfl) (Nat.le_of_ble_eq_true rfl) (lt_putPart hS hr hq' hne b1 p1 (u := []) (w := ys) (z := []) (by simpa using hy1) rfl (by simp)) (Nat.le_of_ble_eq_true rfl) (fun o M1 hq => ?_)
  refine od_Re.kp hq rfl (by simp) (g1) (fun z => tm_ft_l z) (fun ρ2 f2 g2 b2 p2 k2 => ?_)
  refine od_W.rn (pc' := 16) (ls' := [some (.ref _), some (.ref _), some (.long _), none]) (st' := [.long _, .ref _]) 2 rfl ?_
  refine od_rV (as := [.long (lN c)]) rfl rfl rfl rfl (od_cm_r hr) rfl (Nat.le_of_ble_eq_true rfl) (Nat.le_of_ble_eq_true rfl) (lt_closeTerm hS hr b2 p2 hc) (Nat.le_of_ble_eq_true rfl) (fun o M1 hq => ?_)
  refine od_Re.kp hq rfl (by simp) (g2) (fun z => z) (fun ρ3 f3 g3 b3 p3 k3 => ?_)
  refine od_W.fin rfl ?_
  exact od_Re.yes g3 b3 k3 p3
theorem lt_becomeExponent (hS : od_SS S) (hr : S r = true) (hq' : S q = true) (hne : r ≠ q) (hb : od_Bd ρ) {u z : List Nat} {t : tm_T} (hy : od_hl ρ q (u ++ (tm_t t ++ z))) {a b : Nat} (ha : a = u.length) (hbb : b = a + (tm_t t).length) : od_W 2 15 0 (od_ent 15 [.ref r, .ref q, .int (nI a), .int (nI b)]) [] (od_cm S M ρ) (od_Re S M ρ [r] True none (fun ρ' => od_hl ρ' r t.1)) := by
  have e0 : od_ent 15 [.ref r, .ref q, .int (nI a), .int (nI b)] = [some (.ref r), some (.ref q), some (.int (nI a)), some (.int (nI b))] := rfl
  rw [e0]
  rw [tm_t_len] at hbb
  refine od_W.rn (pc' := 8) (ls' := [some (.ref _), some (.ref _), some (.int _), some (.int _)]) (st' := [.int _, .int _, .ref _, .ref _]) 8 rfl ?_
  have e1 : nI a + 1 = nI (a + 1) := nI_1 a
  have e2 : nI b - 2 = nI (b - 2) := nI_subI (a := 2) (by omega)
  show od_W 2 15 8 [some (.ref r), some (.ref q), some (.int (nI a)), some (.int (nI b))] [.int (nI b - 2), .int (nI a + 1), .ref q, .ref r] (od_cm S M ρ) _
  rw [e1, e2]
  refine od_rV (as := [.ref q, .int (nI (a + 1)), .int (nI (b - 2))]) rfl rfl rfl rfl (od_cm_r hr) rfl (Nat.le_of_ble_eq_true rfl) (Nat.le_of_ble_eq_true rfl) (lt_becomePart hS hr hq' hne hb (u := u ++ [1]) (w := t.1) (z := [0, t.2] ++ z) (by simpa [tm_t] using hy) (by simp [ha]) (by omega)) (Nat.le_of_ble_eq_true rfl) (fun o M1 hq => ?_)
  refine od_Re.kp hq rfl (by simp) (od_fr0 ρ [r]) (fun z => z) (fun ρ1 f1 g1 b1 p1 k1 => ?_)
  refine od_W.fin rfl ?_
  exact od_Re.yes g1 b1 k1 p1
theorem lt_becomeTerm (hS : od_SS S) (hr : S r = true) (hq' : S q = true) (hne : r ≠ q) (hb : od_Bd ρ) (hy : od_hl ρ q ys) {c : Nat} (hc : c < 2 ^ 63) : od_W 4 17 0 (od_ent 17 [.ref r, .ref q, .long (lN c)]) [] (od_cm S M ρ) (od_Re S M ρ [r] (tm_ft (tm_t (ys, c))) none (fun ρ' => od_hl ρ' r (tm_t (ys, c)))) := by
  have e0 : od_ent 17 [.ref r, .ref q, .long (lN c)] = [some (.ref r), some (.ref q), some (.long (lN c)), none] := rfl
  rw [e0]
  refine od_W.rn (pc' := 2) (ls' := [some (.ref _), some (.ref _), some (.long _), none]) (st' := [.int _, .ref _]) 2 rfl ?_
  refine od_rP rfl (od_cm_r hr) rfl (by simp) rfl (by decide) ?_
  have em : od_set (od_cm S M ρ) r (od_ob 0 ([Value.ref (r + 1), Value.int (nI (ρ r).1)].set 1 (.int (Int32.ofInt 0)))) = od_cm S M (od_rs ρ r (0, (ρ r).2)) := by
    rw [← od_cm_wr hS hr]
    exact od_wr_len (od_cm_Rw hS hr (hb r))
  rw [em]
  have hb1 : od_Bd (od_rs ρ r (0, (ρ r).2)) := by
    intro a
    by_cases e : a = r
    · subst e; rw [od_rs_r]; omega
    · rw [od_rs_o e]; exact hb a
  have hx1 : od_hl (od_rs ρ r (0, (ρ r).2)) r [] := by
    refine ⟨?_, fun x hx => (List.not_mem_nil hx).elim⟩
    rw [od_rs_r]
    exact ⟨rfl, tm_at_nil _ _⟩
  have hf1 : ∀ a, a ∉ [r] → od_rs ρ r (0, (ρ r).2) a = ρ a := fun a ha => od_rs_o (fun z => ha (by rw [z]; exact List.mem_singleton.mpr rfl))
  have hy1 := hy.fr (hf1 q (by simpa using Ne.symm hne))
  refine od_W.rn (pc' := 8) (ls' := [some (.ref _), some (.ref _), some (.long _), none]) (st' := [.long _, .ref _, .ref _]) 3 rfl ?_
  refine od_rV (as := [.ref q, .long (lN c)]) rfl rfl rfl rfl (od_cm_r hr) rfl (Nat.le_of_ble_eq_true rfl) (Nat.le_of_ble_eq_true rfl) (lt_putTerm hS hr hq' hne hb1 hx1 hy1 hc) (Nat.le_of_ble_eq_true rfl) (fun o M1 hq => ?_)
  refine od_Re.kp hq rfl (by simp) (hf1) (fun z => z) (fun ρ1 f1 g1 b1 p1 k1 => ?_)
  refine od_W.fin rfl ?_
  exact od_Re.yes g1 b1 k1 p1
theorem lN_pos {c : Nat} (h0 : 0 < c) (hc : c < 2 ^ 63) : ¬ lN c ≤ 0 := fun z => absurd ((pk_lLE (b := 0) hc (by omega)).mp z) (by omega)
/-- a term of q put again, with a coefficient of its own -/
theorem lt_putTermAgain (hS : od_SS S) (hr : S r = true) (hq' : S q = true) (hne : r ≠ q) (hb : od_Bd ρ) (hx : od_hl ρ r xs) {u z : List Nat} {t : tm_T} (hy : od_hl ρ q (u ++ (tm_t t ++ z))) {a b c : Nat} (ha : a = u.length) (hbb : b = a + (tm_t t).length) (h0 : 0 < c) (hc : c < 2 ^ 63) : od_W 2 25 0 (od_ent 25 [.ref r, .ref q, .int (nI a), .int (nI b), .long (lN c)]) [] (od_cm S M ρ) (od_Re S M ρ [r] (tm_ft (xs ++ tm_t (t.1, c))) none (fun ρ' => od_hl ρ' r (xs ++ tm_t (t.1, c)))) := by
  have e0 : od_ent 25 [.ref r, .ref q, .int (nI a), .int (nI b), .long (lN c)] = [some (.ref r), some (.ref q), some (.int (nI a)), some (.int (nI b)), some (.long (lN c)), none] := rfl
  rw [e0]
  have e : xs ++ tm_t (t.1, c) = (xs ++ (1 :: (t.1 ++ [0]))) ++ [c] := by simp [tm_t]
  rw [e]
  rw [tm_t_len] at hbb
  refine od_W.rn (pc' := 4) (ls' := [some (.ref _), some (.ref _), some (.int _), some (.int _), some (.long _), none]) (st' := [.int _]) 3 rfl ?_
  refine od_r1F rfl (of_decide_eq_true rfl) ((od_lc_le _ _).trans (decide_eq_false (lN_pos h0 hc))) ?_
  refine od_W.rn (pc' := 13) (ls' := [some (.ref _), some (.ref _), some (.int _), some (.int _), some (.long _), none]) (st' := [.int _, .int _, .ref _, .ref _]) 6 rfl ?_
  have e2 : nI b - 1 = nI (b - 1) := nI_subI (a := 1) (by omega)
  show od_W 2 25 13 [some (.ref r), some (.ref q), some (.int (nI a)), some (.int (nI b)), some (.long (lN c)), none] [.int (nI b - 1), .int (nI a), .ref q, .ref r] (od_cm S M ρ) _
  rw [e2]
  refine od_rV (as := [.ref q, .int (nI a), .int (nI (b - 1))]) rfl rfl rfl rfl (od_cm_r hr) rfl (Nat.le_of_ble_eq_true rfl) (Nat.le_of_ble_eq_true rfl) (lt_putPart hS hr hq' hne hb hx (u := u) (w := 1 :: (t.1 ++ [0])) (z := [t.2] ++ z) (by simpa [tm_t] using hy) ha (by simp; omega)) (Nat.le_of_ble_eq_true rfl) (fun o M1 hq => ?_)
  refine od_Re.kp hq rfl (by simp) (od_fr0 ρ [r]) (fun z => tm_ft_l z) (fun ρ1 f1 g1 b1 p1 k1 => ?_)
  refine od_W.rn (pc' := 19) (ls' := [some (.ref _), some (.ref _), some (.int _), some (.int _), some (.long _), none]) (st' := [.long _, .ref _]) 2 rfl ?_
  refine od_rV (as := [.long (lN c)]) rfl rfl rfl rfl (od_cm_r hr) rfl (Nat.le_of_ble_eq_true rfl) (Nat.le_of_ble_eq_true rfl) (lt_putCoefficient hS hr b1 p1 hc) (Nat.le_of_ble_eq_true rfl) (fun o M1 hq => ?_)
  refine od_Re.kp hq rfl (by simp) (g1) (fun z => z) (fun ρ2 f2 g2 b2 p2 k2 => ?_)
  refine od_W.fin rfl ?_
  exact od_Re.yes g2 b2 k2 p2
theorem lt_putTermAgain0 {v : Int64} {i j : Int32} (hv : v ≤ 0) (hb : od_Bd ρ) (hx : od_hl ρ r xs) : od_W 0 25 0 (od_ent 25 [.ref r, .ref q, .int i, .int j, .long v]) [] (od_cm S M ρ) (od_Re S M ρ [r] True none (fun ρ' => od_hl ρ' r xs)) := by
  have e0 : od_ent 25 [.ref r, .ref q, .int i, .int j, .long v] = [some (.ref r), some (.ref q), some (.int i), some (.int j), some (.long v), none] := rfl
  rw [e0]
  refine od_W.rn (pc' := 4) (ls' := [some (.ref _), some (.ref _), some (.int _), some (.int _), some (.long _), none]) (st' := [.int _]) 3 rfl ?_
  refine od_r1T rfl rfl ((od_lc_le _ _).trans (decide_eq_true hv)) ?_
  refine od_W.fin rfl ?_
  exact od_Re.yes (od_fr0 ρ _) hb trivial hx
end LT2
