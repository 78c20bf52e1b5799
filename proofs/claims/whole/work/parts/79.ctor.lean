/-! The constructors. -/
def cl_ar (z : Nat) : List od_E := od_ob 1 [.ref (z + 1), .ref (z + 3), .ref (z + 5), .ref (z + 7), .ref (z + 9), .ref (z + 11), .ref (z + 13), .ref (z + 15), .ref (z + 17), .ref (z + 19), .ref (z + 21), .ref (z + 23), .ref (z + 25)] :: rws (z + 1) 13
set_option maxRecDepth 100000 in
theorem ct_arith : ctr 1 29 1 [.null, .null, .null, .null, .null, .null, .null, .null, .null, .null, .null, .null, .null] cl_ar 806 := by
  intro N z h1 h2
  rw [show od_ent 29 [.ref z] = [some (.ref z)] from rfl]
  have e := ly_one h1 h2
  generalize hw : N.2.1 = w at *
  rw [e]
  refine ly_ini rfl rfl rfl ?_
  refine ly_new (n := 1) (W := 62) rfl rfl rfl rfl rfl rfl rfl rfl ct_row (Nat.le_of_ble_eq_true rfl) (Nat.le_of_ble_eq_true rfl) rfl rfl (Nat.le_of_ble_eq_true rfl) (by simp) rfl ?_
  refine ly_new (n := 3) (W := 62) rfl rfl rfl rfl rfl rfl rfl rfl ct_row (Nat.le_of_ble_eq_true rfl) (Nat.le_of_ble_eq_true rfl) rfl rfl (Nat.le_of_ble_eq_true rfl) (by simp) rfl ?_
  refine ly_new (n := 5) (W := 62) rfl rfl rfl rfl rfl rfl rfl rfl ct_row (Nat.le_of_ble_eq_true rfl) (Nat.le_of_ble_eq_true rfl) rfl rfl (Nat.le_of_ble_eq_true rfl) (by simp) rfl ?_
  refine ly_new (n := 7) (W := 62) rfl rfl rfl rfl rfl rfl rfl rfl ct_row (Nat.le_of_ble_eq_true rfl) (Nat.le_of_ble_eq_true rfl) rfl rfl (Nat.le_of_ble_eq_true rfl) (by simp) rfl ?_
  refine ly_new (n := 9) (W := 62) rfl rfl rfl rfl rfl rfl rfl rfl ct_row (Nat.le_of_ble_eq_true rfl) (Nat.le_of_ble_eq_true rfl) rfl rfl (Nat.le_of_ble_eq_true rfl) (by simp) rfl ?_
  refine ly_new (n := 11) (W := 62) rfl rfl rfl rfl rfl rfl rfl rfl ct_row (Nat.le_of_ble_eq_true rfl) (Nat.le_of_ble_eq_true rfl) rfl rfl (Nat.le_of_ble_eq_true rfl) (by simp) rfl ?_
  refine ly_new (n := 13) (W := 62) rfl rfl rfl rfl rfl rfl rfl rfl ct_row (Nat.le_of_ble_eq_true rfl) (Nat.le_of_ble_eq_true rfl) rfl rfl (Nat.le_of_ble_eq_true rfl) (by simp) rfl ?_
  refine ly_new (n := 15) (W := 62) rfl rfl rfl rfl rfl rfl rfl rfl ct_row (Nat.le_of_ble_eq_true rfl) (Nat.le_of_ble_eq_true rfl) rfl rfl (Nat.le_of_ble_eq_true rfl) (by simp) rfl ?_
  refine ly_new (n := 17) (W := 62) rfl rfl rfl rfl rfl rfl rfl rfl ct_row (Nat.le_of_ble_eq_true rfl) (Nat.le_of_ble_eq_true rfl) rfl rfl (Nat.le_of_ble_eq_true rfl) (by simp) rfl ?_
  refine ly_new (n := 19) (W := 62) rfl rfl rfl rfl rfl rfl rfl rfl ct_row (Nat.le_of_ble_eq_true rfl) (Nat.le_of_ble_eq_true rfl) rfl rfl (Nat.le_of_ble_eq_true rfl) (by simp) rfl ?_
  refine ly_new (n := 21) (W := 62) rfl rfl rfl rfl rfl rfl rfl rfl ct_row (Nat.le_of_ble_eq_true rfl) (Nat.le_of_ble_eq_true rfl) rfl rfl (Nat.le_of_ble_eq_true rfl) (by simp) rfl ?_
  refine ly_new (n := 23) (W := 62) rfl rfl rfl rfl rfl rfl rfl rfl ct_row (Nat.le_of_ble_eq_true rfl) (Nat.le_of_ble_eq_true rfl) rfl rfl (Nat.le_of_ble_eq_true rfl) (by simp) rfl ?_
  refine ly_new (n := 25) (W := 62) rfl rfl rfl rfl rfl rfl rfl rfl ct_row (Nat.le_of_ble_eq_true rfl) (Nat.le_of_ble_eq_true rfl) rfl rfl (Nat.le_of_ble_eq_true rfl) (by simp) rfl ?_
  refine od_W.fin rfl ?_
  rw [← e]
  exact ⟨rfl, ly_eq rfl rfl⟩
def cl_dv (z : Nat) : List od_E := od_ob 2 [.ref (z + 1), .ref (z + 3), .ref (z + 5), .ref (z + 7), .ref (z + 9)] :: rws (z + 1) 5
theorem ct_divis : ctr 1 39 2 [.null, .null, .null, .null, .null] cl_dv 310 := by
  intro N z h1 h2
  rw [show od_ent 39 [.ref z] = [some (.ref z)] from rfl]
  have e := ly_one h1 h2
  generalize hw : N.2.1 = w at *
  rw [e]
  refine ly_ini rfl rfl rfl ?_
  refine ly_new (n := 1) (W := 62) rfl rfl rfl rfl rfl rfl rfl rfl ct_row (Nat.le_of_ble_eq_true rfl) (Nat.le_of_ble_eq_true rfl) rfl rfl (Nat.le_of_ble_eq_true rfl) (by simp) rfl ?_
  refine ly_new (n := 3) (W := 62) rfl rfl rfl rfl rfl rfl rfl rfl ct_row (Nat.le_of_ble_eq_true rfl) (Nat.le_of_ble_eq_true rfl) rfl rfl (Nat.le_of_ble_eq_true rfl) (by simp) rfl ?_
  refine ly_new (n := 5) (W := 62) rfl rfl rfl rfl rfl rfl rfl rfl ct_row (Nat.le_of_ble_eq_true rfl) (Nat.le_of_ble_eq_true rfl) rfl rfl (Nat.le_of_ble_eq_true rfl) (by simp) rfl ?_
  refine ly_new (n := 7) (W := 62) rfl rfl rfl rfl rfl rfl rfl rfl ct_row (Nat.le_of_ble_eq_true rfl) (Nat.le_of_ble_eq_true rfl) rfl rfl (Nat.le_of_ble_eq_true rfl) (by simp) rfl ?_
  refine ly_new (n := 9) (W := 62) rfl rfl rfl rfl rfl rfl rfl rfl ct_row (Nat.le_of_ble_eq_true rfl) (Nat.le_of_ble_eq_true rfl) rfl rfl (Nat.le_of_ble_eq_true rfl) (by simp) rfl ?_
  refine od_W.fin rfl ?_
  rw [← e]
  exact ⟨rfl, ly_eq rfl rfl⟩
def cl_de (z : Nat) : List od_E := od_ob 3 [.ref (z + 1), .ref (z + 3)] :: rws (z + 1) 2
theorem ct_desc : ctr 1 43 3 [.null, .null] cl_de 124 := by
  intro N z h1 h2
  rw [show od_ent 43 [.ref z] = [some (.ref z)] from rfl]
  have e := ly_one h1 h2
  generalize hw : N.2.1 = w at *
  rw [e]
  refine ly_ini rfl rfl rfl ?_
  refine ly_new (n := 1) (W := 62) rfl rfl rfl rfl rfl rfl rfl rfl ct_row (Nat.le_of_ble_eq_true rfl) (Nat.le_of_ble_eq_true rfl) rfl rfl (Nat.le_of_ble_eq_true rfl) (by simp) rfl ?_
  refine ly_new (n := 3) (W := 62) rfl rfl rfl rfl rfl rfl rfl rfl ct_row (Nat.le_of_ble_eq_true rfl) (Nat.le_of_ble_eq_true rfl) rfl rfl (Nat.le_of_ble_eq_true rfl) (by simp) rfl ?_
  refine od_W.fin rfl ?_
  rw [← e]
  exact ⟨rfl, ly_eq rfl rfl⟩
def cl_hy (z : Nat) : List od_E := od_ob 4 [.ref (z + 1), .ref (z + 2), .int (nI 0), .ref (z + 3), .ref (z + 5)] :: od_ia 20 (fun _ => 0) :: od_ia 20 (fun _ => 0) :: rws (z + 3) 2
theorem ct_hydra : ctr 1 47 4 [.null, .null, .int 0, .null, .null] cl_hy 164 := by
  intro N z h1 h2
  rw [show od_ent 47 [.ref z] = [some (.ref z)] from rfl]
  have e := ly_one h1 h2
  generalize hw : N.2.1 = w at *
  rw [e]
  refine ly_ini rfl rfl rfl ?_
  refine ly_arr (m := 1) (n := 20) (p2 := 7) (p3 := 9) (E := od_ia 20 (fun _ => 0)) rfl (fun _ _ _ => rfl) (fun _ _ _ => rfl) rfl rfl rfl (by simp) rfl ?_
  refine ly_arr (m := 2) (n := 20) (p2 := 15) (p3 := 17) (E := od_ia 20 (fun _ => 0)) rfl (fun _ _ _ => rfl) (fun _ _ _ => rfl) rfl rfl rfl (by simp) rfl ?_
  refine ly_zero rfl rfl rfl rfl (by simp) ?_
  refine ly_new (n := 3) (W := 62) rfl rfl rfl rfl rfl rfl rfl rfl ct_row (Nat.le_of_ble_eq_true rfl) (Nat.le_of_ble_eq_true rfl) rfl rfl (Nat.le_of_ble_eq_true rfl) (by simp) rfl ?_
  refine ly_new (n := 5) (W := 62) rfl rfl rfl rfl rfl rfl rfl rfl ct_row (Nat.le_of_ble_eq_true rfl) (Nat.le_of_ble_eq_true rfl) rfl rfl (Nat.le_of_ble_eq_true rfl) (by simp) rfl ?_
  refine od_W.fin rfl ?_
  rw [← e]
  exact ⟨rfl, ly_eq rfl rfl⟩
def cl_nu (z : Nat) : List od_E := [od_ob 6 [.ref (z + 1)], od_la 21 (fun _ => 0)]
theorem ct_numb : ctr 0 55 6 [.null] cl_nu 21 := by
  intro N z h1 h2
  rw [show od_ent 55 [.ref z] = [some (.ref z)] from rfl]
  have e := ly_one h1 h2
  generalize hw : N.2.1 = w at *
  rw [e]
  refine ly_ini rfl rfl rfl ?_
  refine ly_arr (m := 1) (n := 21) (p2 := 7) (p3 := 9) (E := od_la 21 (fun _ => 0)) rfl (fun _ _ _ => rfl) (fun _ _ _ => rfl) rfl rfl rfl (by simp) rfl ?_
  refine od_W.fin rfl ?_
  rw [← e]
  exact ⟨rfl, ly_eq rfl rfl⟩
def cl_md (z : Nat) : List od_E := [od_ob 8 [.int 0, .ref (z + 1), .ref (z + 2), .int 0, .int 0, .int 0, .ref (z + 3), .ref (z + 4), .ref (z + 5), .ref (z + 6), .ref (z + 7)], od_ia 7360 (fun _ => 0), od_ia 113 (fun _ => 0), od_ia 12 (fun _ => 0), od_ia 24 (fun _ => 0), od_ia 24 (fun _ => 0), od_ia 24 (fun _ => 0), od_la 24 (fun _ => 0)]
set_option maxRecDepth 100000 in
theorem ct_model : ctr 0 85 8 [.int 0, .null, .null, .int 0, .int 0, .int 0, .null, .null, .null, .null, .null] cl_md 7581 := by
  intro N z h1 h2
  rw [show od_ent 85 [.ref z] = [some (.ref z)] from rfl]
  have e := ly_one h1 h2
  generalize hw : N.2.1 = w at *
  rw [e]
  refine ly_ini rfl rfl rfl ?_
  refine ly_arr (m := 1) (n := 7360) (p2 := 8) (p3 := 10) (E := od_ia 7360 (fun _ => 0)) rfl (fun _ _ _ => rfl) (fun _ _ _ => rfl) rfl rfl rfl (by simp) rfl ?_
  refine ly_arr (m := 2) (n := 113) (p2 := 16) (p3 := 18) (E := od_ia 113 (fun _ => 0)) rfl (fun _ _ _ => rfl) (fun _ _ _ => rfl) rfl rfl rfl (by simp) rfl ?_
  refine ly_arr (m := 3) (n := 12) (p2 := 24) (p3 := 26) (E := od_ia 12 (fun _ => 0)) rfl (fun _ _ _ => rfl) (fun _ _ _ => rfl) rfl rfl rfl (by simp) rfl ?_
  refine ly_arr (m := 4) (n := 24) (p2 := 32) (p3 := 34) (E := od_ia 24 (fun _ => 0)) rfl (fun _ _ _ => rfl) (fun _ _ _ => rfl) rfl rfl rfl (by simp) rfl ?_
  refine ly_arr (m := 5) (n := 24) (p2 := 40) (p3 := 42) (E := od_ia 24 (fun _ => 0)) rfl (fun _ _ _ => rfl) (fun _ _ _ => rfl) rfl rfl rfl (by simp) rfl ?_
  refine ly_arr (m := 6) (n := 24) (p2 := 48) (p3 := 50) (E := od_ia 24 (fun _ => 0)) rfl (fun _ _ _ => rfl) (fun _ _ _ => rfl) rfl rfl rfl (by simp) rfl ?_
  refine ly_arr (m := 7) (n := 24) (p2 := 56) (p3 := 58) (E := od_la 24 (fun _ => 0)) rfl (fun _ _ _ => rfl) (fun _ _ _ => rfl) rfl rfl rfl (by simp) rfl ?_
  refine od_W.fin rfl ?_
  rw [← e]
  exact ⟨rfl, ly_eq rfl rfl⟩
section MKL
variable {d k pc : Nat} {ls : od_L} {st : List Value} {M : od_M} {Q : od_O → od_M → Prop} {x w : Nat} {es : List od_E}
theorem od_rAS {a n j v : Nat} {f : Nat → Option Nat} {i : Int32} {fs : List Value} (h : od_cd k pc = some (.aastore, 1)) (hM : M.2.2 a = some (od_ra n f)) (hv : M.2.2 v = some (od_ob 0 fs)) (hi : i = nI j) (hj : j < n) (hn : n < 2 ^ 31) (kk : od_W d k (pc + 1) ls st (od_set M a (od_ra n (va_up f j (some v)))) Q) : od_W d k pc ls (.ref v :: .int i :: .ref a :: st) M Q := by
  refine od_wX h ?_
  subst hi
  simp only [od_ins, od_aast, hM, hv, od_go, od_X, ↓reduceIte, od_ixN hj hn, nI_clamp (show j < 2 ^ 31 by omega)]
  exact kk
end MKL
def cl_f (z k : Nat) : Nat → Option Nat := fun i => if i < k then some (z + 2 * i) else none
theorem cl_f_s (z k : Nat) : va_up (cl_f z k) k (some (z + 2 * k)) = cl_f z (k + 1) := by
  funext i
  by_cases h : i = k
  · subst h
    rw [va_up_self]
    exact (if_pos (by omega)).symm
  · rw [va_up_ne _ _ h]
    show (if i < k then _ else _) = (if i < k + 1 then _ else _)
    by_cases h2 : i < k
    · rw [if_pos h2, if_pos (by omega)]
    · rw [if_neg h2, if_neg (by omega)]
