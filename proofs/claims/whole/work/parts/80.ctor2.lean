/-! The constructors with loops. -/
theorem cl_pile_loop {M : od_M} {x : Nat} {e0 : List Value} {d : Nat} {mid : List od_E} {z0 : Nat} (hz : 2 + mid.length = z0) (he : e0[0]? = some (.ref (x + 1))) {Q : od_O → od_M → Prop} : ∀ (m k w : Nat), k + m = 12 → od_W (d + 1) 51 69 [some (.ref x), some (.int (nI 12))] [] (ly M x (od_ob 5 e0 :: od_ra 12 (cl_f (x + z0) (12)) :: (mid ++ rws (x + z0) 12)) (w + 62 * m)) Q → od_W (d + 1) 51 44 [some (.ref x), some (.int (nI k))] [] (ly M x (od_ob 5 e0 :: od_ra 12 (cl_f (x + z0) (k)) :: (mid ++ rws (x + z0) k)) w) Q := by
  intro m
  induction m with
  | zero =>
    intro k w hk hQ
    refine od_W.rn (pc' := 47) (ls' := [some (.ref _), some (.int _)]) (st' := [.int _, .int _]) 2 rfl ?_
    refine od_r2T rfl rfl (decide_eq_true (nI_le (a := 12) (by omega) (by omega))) ?_
    rw [show k = 12 by omega]
    exact hQ
  | succ m ih =>
    intro k w hk hQ
    refine od_W.rn (pc' := 47) (ls' := [some (.ref _), some (.int _)]) (st' := [.int _, .int _]) 2 rfl ?_
    refine od_r2F rfl (of_decide_eq_true rfl) (decide_eq_false (nI_ge (b := 12) (by omega) (by omega))) ?_
    refine od_W.rn (pc' := 51) (ls' := [some (.ref _), some (.int _)]) (st' := [.ref _]) 1 rfl ?_
    refine od_rG rfl (ly_at (i := 0) rfl) rfl he ?_
    refine od_W.rn (pc' := 55) (ls' := [some (.ref _), some (.int _)]) (st' := [.int _, .ref _]) 1 rfl ?_
    refine od_rNC (n := z0 + 2 * k) (W := 62) rfl rfl rfl rfl rfl ct_row (Nat.zero_le _) (Nat.le_of_ble_eq_true rfl) (by simp only [List.length_cons, List.length_append, rws_len]; omega) rfl (Nat.le_of_ble_eq_true rfl) (Nat.le_of_ble_eq_true rfl) ?_
    rw [show x + (z0 + 2 * k) = x + z0 + 2 * k by omega]
    have e1 : ∀ A : od_E, (od_ob 5 e0 :: A :: (mid ++ rws (x + z0) k)) ++ rw0 (x + z0 + 2 * k) = od_ob 5 e0 :: A :: (mid ++ rws (x + z0) (k + 1)) := by
      intro A
      rw [rws, ← List.append_assoc]
      rfl
    rw [e1]
    refine od_rAS rfl (j := k) (ly_at (i := 1) rfl) (fs := [.ref (x + z0 + 2 * k + 1), .int (nI 0)]) ?_ rfl (by omega) (by decide) ?_
    · rw [show x + z0 + 2 * k = x + (z0 + 2 * k) by omega]
      refine ly_at ?_
      rw [← e1, List.getElem?_append_right (by simp only [List.length_cons, List.length_append, rws_len]; omega), show z0 + 2 * k - _ = 0 by simp only [List.length_cons, List.length_append, rws_len]; omega]
      rw [show x + (z0 + 2 * k) = x + z0 + 2 * k by omega]
      rfl
    rw [ly_set (i := 1) (by simp), cl_f_s]
    refine od_W.rn (pc' := 44) (ls' := [some (.ref _), some (.int _)]) (st' := []) 2 rfl ?_
    rw [nI_inc k]
    refine ih (k + 1) (w + 62) (by omega) ?_
    rw [show w + 62 + 62 * m = w + 62 * (m + 1) by omega]
    exact hQ
theorem cl_slot_loop {M : od_M} {x : Nat} {e0 : List Value} {d : Nat} {mid : List od_E} {z0 : Nat} (hz : 2 + mid.length = z0) (he : e0[0]? = some (.ref (x + 1))) {Q : od_O → od_M → Prop} : ∀ (m k w : Nat), k + m = 8 → od_W (d + 1) 61 142 [some (.ref x), some (.int (nI 8))] [] (ly M x (od_ob 7 e0 :: od_ra 8 (cl_f (x + z0) (8)) :: (mid ++ rws (x + z0) 8)) (w + 62 * m)) Q → od_W (d + 1) 61 117 [some (.ref x), some (.int (nI k))] [] (ly M x (od_ob 7 e0 :: od_ra 8 (cl_f (x + z0) (k)) :: (mid ++ rws (x + z0) k)) w) Q := by
  intro m
  induction m with
  | zero =>
    intro k w hk hQ
    refine od_W.rn (pc' := 120) (ls' := [some (.ref _), some (.int _)]) (st' := [.int _, .int _]) 2 rfl ?_
    refine od_r2T rfl rfl (decide_eq_true (nI_le (a := 8) (by omega) (by omega))) ?_
    rw [show k = 8 by omega]
    exact hQ
  | succ m ih =>
    intro k w hk hQ
    refine od_W.rn (pc' := 120) (ls' := [some (.ref _), some (.int _)]) (st' := [.int _, .int _]) 2 rfl ?_
    refine od_r2F rfl (of_decide_eq_true rfl) (decide_eq_false (nI_ge (b := 8) (by omega) (by omega))) ?_
    refine od_W.rn (pc' := 124) (ls' := [some (.ref _), some (.int _)]) (st' := [.ref _]) 1 rfl ?_
    refine od_rG rfl (ly_at (i := 0) rfl) rfl he ?_
    refine od_W.rn (pc' := 128) (ls' := [some (.ref _), some (.int _)]) (st' := [.int _, .ref _]) 1 rfl ?_
    refine od_rNC (n := z0 + 2 * k) (W := 62) rfl rfl rfl rfl rfl ct_row (Nat.zero_le _) (Nat.le_of_ble_eq_true rfl) (by simp only [List.length_cons, List.length_append, rws_len]; omega) rfl (Nat.le_of_ble_eq_true rfl) (Nat.le_of_ble_eq_true rfl) ?_
    rw [show x + (z0 + 2 * k) = x + z0 + 2 * k by omega]
    have e1 : ∀ A : od_E, (od_ob 7 e0 :: A :: (mid ++ rws (x + z0) k)) ++ rw0 (x + z0 + 2 * k) = od_ob 7 e0 :: A :: (mid ++ rws (x + z0) (k + 1)) := by
      intro A
      rw [rws, ← List.append_assoc]
      rfl
    rw [e1]
    refine od_rAS rfl (j := k) (ly_at (i := 1) rfl) (fs := [.ref (x + z0 + 2 * k + 1), .int (nI 0)]) ?_ rfl (by omega) (by decide) ?_
    · rw [show x + z0 + 2 * k = x + (z0 + 2 * k) by omega]
      refine ly_at ?_
      rw [← e1, List.getElem?_append_right (by simp only [List.length_cons, List.length_append, rws_len]; omega), show z0 + 2 * k - _ = 0 by simp only [List.length_cons, List.length_append, rws_len]; omega]
      rw [show x + (z0 + 2 * k) = x + z0 + 2 * k by omega]
      rfl
    rw [ly_set (i := 1) (by simp), cl_f_s]
    refine od_W.rn (pc' := 117) (ls' := [some (.ref _), some (.int _)]) (st' := []) 2 rfl ?_
    rw [nI_inc k]
    refine ih (k + 1) (w + 62) (by omega) ?_
    rw [show w + 62 + 62 * m = w + 62 * (m + 1) by omega]
    exact hQ
theorem cl_rec_loop {M : od_M} {x : Nat} {e0 : List Value} {d : Nat} {mid : List od_E} {r2 : od_E} {z0 : Nat} (hz : 3 + mid.length = z0) (he : e0[1]? = some (.ref (x + 2))) {Q : od_O → od_M → Prop} : ∀ (m k w : Nat), k + m = 12 → od_W (d + 1) 61 169 [some (.ref x), some (.int (nI 12))] [] (ly M x (od_ob 7 e0 :: r2 :: od_ra 12 (cl_f (x + z0) (12)) :: (mid ++ rws (x + z0) 12)) (w + 62 * m)) Q → od_W (d + 1) 61 144 [some (.ref x), some (.int (nI k))] [] (ly M x (od_ob 7 e0 :: r2 :: od_ra 12 (cl_f (x + z0) (k)) :: (mid ++ rws (x + z0) k)) w) Q := by
  intro m
  induction m with
  | zero =>
    intro k w hk hQ
    refine od_W.rn (pc' := 147) (ls' := [some (.ref _), some (.int _)]) (st' := [.int _, .int _]) 2 rfl ?_
    refine od_r2T rfl rfl (decide_eq_true (nI_le (a := 12) (by omega) (by omega))) ?_
    rw [show k = 12 by omega]
    exact hQ
  | succ m ih =>
    intro k w hk hQ
    refine od_W.rn (pc' := 147) (ls' := [some (.ref _), some (.int _)]) (st' := [.int _, .int _]) 2 rfl ?_
    refine od_r2F rfl (of_decide_eq_true rfl) (decide_eq_false (nI_ge (b := 12) (by omega) (by omega))) ?_
    refine od_W.rn (pc' := 151) (ls' := [some (.ref _), some (.int _)]) (st' := [.ref _]) 1 rfl ?_
    refine od_rG rfl (ly_at (i := 0) rfl) rfl he ?_
    refine od_W.rn (pc' := 155) (ls' := [some (.ref _), some (.int _)]) (st' := [.int _, .ref _]) 1 rfl ?_
    refine od_rNC (n := z0 + 2 * k) (W := 62) rfl rfl rfl rfl rfl ct_row (Nat.zero_le _) (Nat.le_of_ble_eq_true rfl) (by simp only [List.length_cons, List.length_append, rws_len]; omega) rfl (Nat.le_of_ble_eq_true rfl) (Nat.le_of_ble_eq_true rfl) ?_
    rw [show x + (z0 + 2 * k) = x + z0 + 2 * k by omega]
    have e1 : ∀ A : od_E, (od_ob 7 e0 :: r2 :: A :: (mid ++ rws (x + z0) k)) ++ rw0 (x + z0 + 2 * k) = od_ob 7 e0 :: r2 :: A :: (mid ++ rws (x + z0) (k + 1)) := by
      intro A
      rw [rws, ← List.append_assoc]
      rfl
    rw [e1]
    refine od_rAS rfl (j := k) (ly_at (i := 2) rfl) (fs := [.ref (x + z0 + 2 * k + 1), .int (nI 0)]) ?_ rfl (by omega) (by decide) ?_
    · rw [show x + z0 + 2 * k = x + (z0 + 2 * k) by omega]
      refine ly_at ?_
      rw [← e1, List.getElem?_append_right (by simp only [List.length_cons, List.length_append, rws_len]; omega), show z0 + 2 * k - _ = 0 by simp only [List.length_cons, List.length_append, rws_len]; omega]
      rw [show x + (z0 + 2 * k) = x + z0 + 2 * k by omega]
      rfl
    rw [ly_set (i := 2) (by simp), cl_f_s]
    refine od_W.rn (pc' := 144) (ls' := [some (.ref _), some (.int _)]) (st' := []) 2 rfl ?_
    rw [nI_inc k]
    refine ih (k + 1) (w + 62) (by omega) ?_
    rw [show w + 62 + 62 * m = w + 62 * (m + 1) by omega]
    exact hQ
theorem cl_f_0 (z : Nat) : cl_f z 0 = fun _ => none := funext fun i => if_neg (by omega)
abbrev cl_pm (z : Nat) : List od_E := od_ia 12 (fun _ => 0) :: rw0 (z + 3)
def cl_pi (z : Nat) : List od_E := od_ob 5 [.ref (z + 1), .ref (z + 2), .int (nI 0), .int (nI 0), .ref (z + 3)] :: od_ra 12 (cl_f (z + 5) 12) :: (cl_pm z ++ rws (z + 5) 12)
theorem ct_pile : ctr 1 51 5 [.null, .null, .int 0, .int 0, .null] cl_pi 830 := by
  intro N z h1 h2
  rw [show od_ent 51 [.ref z] = [some (.ref z), none] from rfl]
  have e := ly_one h1 h2
  generalize hw : N.2.1 = w at *
  rw [e]
  refine ly_ini rfl rfl rfl ?_
  refine ly_arr (m := 1) (n := 12) (p2 := 7) (p3 := 10) (E := od_ra 12 (cl_f (z + 5) 0)) rfl (fun _ _ _ => rfl) (fun _ _ _ => by rw [cl_f_0]; rfl) rfl rfl rfl (by simp) rfl ?_
  refine ly_arr (m := 2) (n := 12) (p2 := 16) (p3 := 18) (E := od_ia 12 (fun _ => 0)) rfl (fun _ _ _ => rfl) (fun _ _ _ => rfl) rfl rfl rfl (by simp) rfl ?_
  refine ly_zero rfl rfl rfl rfl (by simp) ?_
  refine ly_zero rfl rfl rfl rfl (by simp) ?_
  refine ly_new (n := 3) (W := 62) rfl rfl rfl rfl rfl rfl rfl rfl ct_row (Nat.le_of_ble_eq_true rfl) (Nat.le_of_ble_eq_true rfl) rfl rfl (Nat.le_of_ble_eq_true rfl) (by simp) rfl ?_
  refine od_W.rn (pc' := 44) (ls' := [some (.ref _), some (.int _)]) (st' := []) 2 rfl ?_
  show od_W (0 + 1) 51 44 [some (.ref z), some (.int (nI 0))] [] (ly N z (od_ob 5 [.ref (z + 1), .ref (z + 2), .int (nI 0), .int (nI 0), .ref (z + 3)] :: od_ra 12 (cl_f (z + 5) 0) :: (cl_pm z ++ rws (z + 5) 0)) (w + 12 + 12 + 62)) _
  refine cl_pile_loop (mid := cl_pm z) (z0 := 5) rfl rfl 12 0 _ rfl ?_
  refine od_W.fin rfl ?_
  rw [← e]
  exact ⟨rfl, ly_eq rfl rfl⟩
theorem cl_ar_len (z : Nat) : (cl_ar z).length = 27 := rfl
theorem cl_dv_len (z : Nat) : (cl_dv z).length = 11 := rfl
theorem cl_de_len (z : Nat) : (cl_de z).length = 5 := rfl
theorem cl_hy_len (z : Nat) : (cl_hy z).length = 7 := rfl
theorem cl_pi_len (z : Nat) : (cl_pi z).length = 29 := rfl
theorem cl_nu_len (z : Nat) : (cl_nu z).length = 2 := rfl
theorem od_ly {d k pc : Nat} {ls : od_L} {st : List Value} {M : od_M} {Q : od_O → od_M → Prop} {x w w' c : Nat} {es es' : List od_E} {fs fs' : List Value} (hf : fs = fs') (he : es = es') (hw : w = w') (kk : od_W d k pc ls st (ly M x (od_ob c fs' :: es') w') Q) : od_W d k pc ls st (ly M x (od_ob c fs :: es) w) Q := by
  subst hf
  subst he
  subst hw
  exact kk
abbrev cl_mi (z : Nat) : List od_E := (rw0 (z + 3) ++ (rw0 (z + 5) ++ (cl_ar (z + 7) ++ (cl_dv (z + 34) ++ (cl_de (z + 45) ++ (cl_hy (z + 50) ++ (cl_pi (z + 57) ++ cl_nu (z + 86))))))))
def cl_dk (z : Nat) : List od_E := dk_ob z 0 :: od_ra 8 (cl_f (z + 88) 8) :: od_ra 12 (cl_f (z + 104) 12) :: ((cl_mi z ++ rws (z + 88) 8) ++ rws (z + 104) 12)
theorem cl_mi_len (z : Nat) : (cl_mi z).length = 85 := by simp only [List.length_append, List.length_cons, List.length_nil, cl_ar_len, cl_dv_len, cl_de_len, cl_hy_len, cl_pi_len, cl_nu_len]
theorem ct_desk : ctr 2 61 7 [.null, .null, .int 0, .null, .null, .null, .null, .null, .null, .null, .null] cl_dk 3670 := by
  intro N z h1 h2
  rw [show od_ent 61 [.ref z] = [some (.ref z), none] from rfl]
  have e := ly_one h1 h2
  generalize hw : N.2.1 = w at *
  rw [e]
  refine ly_ini rfl rfl rfl ?_
  refine ly_arr (m := 1) (n := 8) (p2 := 7) (p3 := 10) (E := od_ra 8 (cl_f (z + 88) 0)) rfl (fun _ _ _ => rfl) (fun _ _ _ => by rw [cl_f_0]; rfl) rfl rfl rfl (by simp) rfl ?_
  refine ly_arr (m := 2) (n := 12) (p2 := 16) (p3 := 19) (E := od_ra 12 (cl_f (z + 104) 0)) rfl (fun _ _ _ => rfl) (fun _ _ _ => by rw [cl_f_0]; rfl) rfl rfl rfl (by simp) rfl ?_
  refine ly_zero rfl rfl rfl rfl (by simp) ?_
  refine ly_new (n := 3) (W := 62) rfl rfl rfl rfl rfl rfl rfl rfl ct_row (Nat.le_of_ble_eq_true rfl) (Nat.le_of_ble_eq_true rfl) rfl rfl (Nat.le_of_ble_eq_true rfl) (by simp) rfl ?_
  refine ly_new (n := 5) (W := 62) rfl rfl rfl rfl rfl rfl rfl rfl ct_row (Nat.le_of_ble_eq_true rfl) (Nat.le_of_ble_eq_true rfl) rfl rfl (Nat.le_of_ble_eq_true rfl) (by simp) rfl ?_
  refine ly_new (n := 7) (W := 819) rfl rfl rfl rfl rfl rfl rfl rfl ct_arith (Nat.le_of_ble_eq_true rfl) (Nat.le_of_ble_eq_true rfl) (by simp only [List.length_append, List.length_cons, List.length_nil, cl_ar_len, cl_dv_len, cl_de_len, cl_hy_len, cl_pi_len, cl_nu_len]) rfl (Nat.le_of_ble_eq_true rfl) (by simp) rfl ?_
  refine ly_new (n := 34) (W := 315) rfl rfl rfl rfl rfl rfl rfl rfl ct_divis (Nat.le_of_ble_eq_true rfl) (Nat.le_of_ble_eq_true rfl) (by simp only [List.length_append, List.length_cons, List.length_nil, cl_ar_len, cl_dv_len, cl_de_len, cl_hy_len, cl_pi_len, cl_nu_len]) rfl (Nat.le_of_ble_eq_true rfl) (by simp) rfl ?_
  refine ly_new (n := 45) (W := 126) rfl rfl rfl rfl rfl rfl rfl rfl ct_desc (Nat.le_of_ble_eq_true rfl) (Nat.le_of_ble_eq_true rfl) (by simp only [List.length_append, List.length_cons, List.length_nil, cl_ar_len, cl_dv_len, cl_de_len, cl_hy_len, cl_pi_len, cl_nu_len]) rfl (Nat.le_of_ble_eq_true rfl) (by simp) rfl ?_
  refine ly_new (n := 50) (W := 169) rfl rfl rfl rfl rfl rfl rfl rfl ct_hydra (Nat.le_of_ble_eq_true rfl) (Nat.le_of_ble_eq_true rfl) (by simp only [List.length_append, List.length_cons, List.length_nil, cl_ar_len, cl_dv_len, cl_de_len, cl_hy_len, cl_pi_len, cl_nu_len]) rfl (Nat.le_of_ble_eq_true rfl) (by simp) rfl ?_
  refine ly_new (n := 57) (W := 835) rfl rfl rfl rfl rfl rfl rfl rfl ct_pile (Nat.le_of_ble_eq_true rfl) (Nat.le_of_ble_eq_true rfl) (by simp only [List.length_append, List.length_cons, List.length_nil, cl_ar_len, cl_dv_len, cl_de_len, cl_hy_len, cl_pi_len, cl_nu_len]) rfl (Nat.le_of_ble_eq_true rfl) (by simp) rfl ?_
  refine ly_new (n := 86) (W := 22) rfl rfl rfl rfl rfl rfl rfl rfl ct_numb (Nat.le_of_ble_eq_true rfl) (Nat.le_of_ble_eq_true rfl) (by simp only [List.length_append, List.length_cons, List.length_nil, cl_ar_len, cl_dv_len, cl_de_len, cl_hy_len, cl_pi_len, cl_nu_len]) rfl (Nat.le_of_ble_eq_true rfl) (by simp) rfl ?_
  refine od_W.rn (pc' := 117) (ls' := [some (.ref _), some (.int _)]) (st' := []) 2 rfl ?_
  refine od_ly (fs' := [.ref (z + 1), .ref (z + 2), .int (nI 0), .ref (z + 3), .ref (z + 5), .ref (z + 7), .ref (z + 34), .ref (z + 45), .ref (z + 50), .ref (z + 57), .ref (z + 86)]) (es' := od_ra 8 (cl_f (z + 88) 0) :: ((od_ra 12 (cl_f (z + 104) 0) :: cl_mi z) ++ rws (z + 88) 0)) (w' := w + 2430) rfl (by simp only [cl_mi, rws, List.nil_append, List.append_nil, List.cons_append, List.append_assoc]) rfl ?_
  refine cl_slot_loop (d := 1) (mid := od_ra 12 (cl_f (z + 104) 0) :: cl_mi z) (z0 := 88) (by rw [List.length_cons, cl_mi_len]) rfl 8 0 _ rfl ?_
  refine od_W.rn (pc' := 144) (ls' := [some (.ref _), some (.int _)]) (st' := []) 2 rfl ?_
  refine od_ly (es' := od_ra 8 (cl_f (z + 88) 8) :: od_ra 12 (cl_f (z + 104) 0) :: ((cl_mi z ++ rws (z + 88) 8) ++ rws (z + 104) 0)) (w' := w + 2926) rfl (by rw [List.cons_append, rws, List.append_nil]) rfl ?_
  refine cl_rec_loop (d := 1) (mid := cl_mi z ++ rws (z + 88) 8) (z0 := 104) (by rw [List.length_append, cl_mi_len, rws_len]) rfl 12 0 _ rfl ?_
  refine od_W.fin rfl ?_
  rw [← e]
  exact ⟨rfl, rfl⟩
