/-! Numbers in a base. -/
def db (b : Nat) : Nat → Nat → List (Nat × Nat)
  | 0, r => if 0 < r / b ^ 0 then [(0, r / b ^ 0)] else []
  | e + 1, r => (if 0 < r / b ^ (e + 1) then [(e + 1, r / b ^ (e + 1))] else []) ++ db b e (r % b ^ (e + 1))
def sp_ibf (b : Nat) : Nat → Nat → List tm_T
  | 0, _ => []
  | f + 1, n => (db b 30 n).map (fun p => (tm_fl (sp_ibf b f p.1), p.2))
def sp_ib (b n : Nat) : List tm_T := sp_ibf b (n + 1) n
theorem db_mem {b : Nat} (hb : 2 ≤ b) : ∀ (e r : Nat) (p : Nat × Nat), p ∈ db b e r → b ^ p.1 ≤ r ∧ 1 ≤ p.2 ∧ p.2 ≤ r := by
  intro e
  induction e with
  | zero =>
    intro r p hp
    unfold db at hp
    split at hp
    · rename_i h
      rw [List.mem_singleton] at hp
      subst hp
      rw [Nat.pow_zero, Nat.div_one] at h
      refine ⟨by rw [Nat.pow_zero]; exact h, by rw [Nat.pow_zero, Nat.div_one]; exact h, by rw [Nat.pow_zero, Nat.div_one]; exact Nat.le_refl _⟩
    · exact absurd hp (by simp)
  | succ e ih =>
    intro r p hp
    unfold db at hp
    rcases List.mem_append.mp hp with h | h
    · split at h
      · rename_i h2
        rw [List.mem_singleton] at h
        subst h
        refine ⟨?_, h2, Nat.div_le_self _ _⟩
        rcases Nat.lt_or_ge r (b ^ (e + 1)) with z | z
        · rw [Nat.div_eq_of_lt z] at h2; omega
        · exact z
      · exact absurd h (by simp)
    · have h3 := ih _ _ h
      have h4 := Nat.mod_le r (b ^ (e + 1))
      exact ⟨Nat.le_trans h3.1 h4, h3.2.1, Nat.le_trans h3.2.2 h4⟩
theorem db_skip {b : Nat} (hb : 2 ≤ b) {k n : Nat} (h : n < b ^ (k + 1)) : ∀ j, db b (k + j) n = db b k n := by
  intro j
  induction j with
  | zero => rfl
  | succ j ih =>
    have h2 : n < b ^ (k + j + 1) := Nat.lt_of_lt_of_le h (Nat.pow_le_pow_right (by omega) (by omega))
    rw [show k + (j + 1) = k + j + 1 by omega]
    conv => lhs; unfold db
    rw [Nat.div_eq_of_lt h2, if_neg (by omega), Nat.mod_eq_of_lt h2, List.nil_append, ih]
theorem sp_ibf_eq {b : Nat} (hb : 2 ≤ b) : ∀ (f f' n : Nat), n < f → n < f' → sp_ibf b f n = sp_ibf b f' n := by
  intro f
  induction f with
  | zero => intro f' n h; omega
  | succ f ih =>
    intro f' n h h'
    obtain ⟨f', rfl⟩ : ∃ g, f' = g + 1 := ⟨f' - 1, by omega⟩
    unfold sp_ibf
    refine List.map_congr_left fun p hp => ?_
    have h1 := (db_mem hb 30 n p hp).1
    have h2 := vl_grow hb p.1
    rw [ih f' p.1 (by omega) (by omega)]
theorem sp_ib_eq {b : Nat} (hb : 2 ≤ b) (n : Nat) : sp_ib b n = (db b 30 n).map (fun p => (tm_fl (sp_ib b p.1), p.2)) := by
  show sp_ibf b (n + 1) n = _
  unfold sp_ibf
  refine List.map_congr_left fun p hp => ?_
  have h1 := (db_mem hb 30 n p hp).1
  have h2 := vl_grow hb p.1
  unfold sp_ib
  rw [sp_ibf_eq hb n (p.1 + 1) p.1 (by omega) (by omega)]
theorem tm_sm_fl {ts : List tm_T} : tm_sm (tm_fl ts) → ∀ t ∈ ts, tm_sm t.1 ∧ t.2 ≤ 1000000 := by
  induction ts with
  | nil => intro _ t ht; exact (List.not_mem_nil ht).elim
  | cons u ts ih =>
    intro h t ht
    rw [tm_fl, tm_sm_app, tm_sm_t] at h
    rcases List.mem_cons.mp ht with rfl | ht
    · exact h.1
    · exact ih h.2 t ht
theorem tm_al_of {ts : List tm_T} : (∀ t ∈ ts, tm_ok t) → tm_al ts := by
  induction ts with
  | nil => intro _; exact trivial
  | cons u ts ih => intro h; exact ⟨h u (List.mem_cons_self ..), ih (fun t ht => h t (List.mem_cons_of_mem _ ht))⟩
theorem sp_ib_al {b : Nat} (hb : 2 ≤ b) : ∀ (f n : Nat), n < f → tm_sm (tm_fl (sp_ib b n)) → tm_al (sp_ib b n) := by
  intro f
  induction f with
  | zero => intro n h; omega
  | succ f ih =>
    intro n hn hs
    rw [sp_ib_eq hb n] at hs ⊢
    refine tm_al_of fun t ht => ?_
    have h3 := tm_sm_fl hs t ht
    obtain ⟨p, hp, rfl⟩ := List.mem_map.mp ht
    have h1 := db_mem hb 30 n p hp
    have h2 := vl_grow hb p.1
    exact ⟨tm_fl_W (ih p.1 (by omega) h3.1), h1.2.1, h3.2⟩
section BASE
variable {S : Nat → Bool} {M : od_M} {ρ0 : od_Rm} {out : Nat}
def ib_mp (b : Nat) (l : List (Nat × Nat)) : List Nat := tm_fl (l.map (fun p => (tm_fl (sp_ib b p.1), p.2)))
theorem od_lc_le0 {c : Nat} (hc : c < 2 ^ 63) : od_cond .le (lg_cmp (lN c) 0) 0 = decide (c = 0) := by
  rw [od_lc_le]
  by_cases h : c = 0
  · rw [decide_eq_true h]; exact decide_eq_true ((pk_lLE (b := 0) hc (by omega)).mpr (by omega))
  · rw [decide_eq_false h]; exact decide_eq_false (fun z => h (by have := (pk_lLE (b := 0) hc (by omega)).mp z; omega))
/-- what putting a number in a base comes to -/
abbrev ib_c (S : Nat → Bool) (M : od_M) (out b D n depth : Nat) : Prop := ∀ (ρ : od_Rm) (zs : List Nat), od_Bd ρ → od_hl ρ out zs → od_W D 57 0 (od_ent 57 [.int (nI n), .int (nI b), .ref out, .int (nI depth)]) [] (od_cm S M ρ) (od_Re S M ρ [out] (tm_ft (zs ++ tm_fl (sp_ib b n))) none (fun ρ' => od_hl ρ' out (zs ++ tm_fl (sp_ib b n))))
set_option maxRecDepth 100000 in
theorem cl_ib_loop (hS : od_SS S) (ho : S out = true) {b n depth D E : Nat} (hb1 : 2 ≤ b) (hb2 : b ≤ 1000) (hn : n ≤ 1000000000) (hdp : depth ≤ 20) (hD : 2 ≤ D) (hE : ∀ e, b ^ e ≤ n → e ≤ E) (hrec : ∀ e, e ≤ E → ib_c S M out b D e (depth + 1)) {w6 : Int32} : ∀ (e r : Nat) (ρ : od_Rm) (zs : List Nat) (w10 w11 : Option Value), e ≤ 30 → r ≤ n → b ^ e ≤ 1000000000 → od_Bd ρ → (∀ q, q ∉ [out] → ρ q = ρ0 q) → od_hl ρ out zs → od_W (D + 1) 57 61 [some (.int (nI n)), some (.int (nI b)), some (.ref out), some (.int (nI depth)), some (.long (lN (b ^ e))), none, some (.int w6), some (.long (lN r)), none, some (.int (nI e)), w10, w11] [] (od_cm S M ρ) (od_Re S M ρ0 [out] (tm_ft (zs ++ ib_mp b (db b e r))) none (fun ρ' => od_hl ρ' out (zs ++ ib_mp b (db b e r)))) := by
  have step : ∀ (e r : Nat) (ρ : od_Rm) (zs : List Nat) (w10 w11 : Option Value) (Q : od_O → od_M → Prop), e ≤ 30 → r ≤ n → b ^ e ≤ 1000000000 → od_Bd ρ → (∀ q, q ∉ [out] → ρ q = ρ0 q) → od_hl ρ out zs → ∀ ok0 P0, Q = od_Re S M ρ0 [out] ok0 none P0 → (ok0 → tm_ft (zs ++ (if 0 < r / b ^ e then tm_t (tm_fl (sp_ib b e), r / b ^ e) else []))) → (∀ ρ1, od_Bd ρ1 → (∀ q, q ∉ [out] → ρ1 q = ρ0 q) → od_hl ρ1 out (zs ++ (if 0 < r / b ^ e then tm_t (tm_fl (sp_ib b e), r / b ^ e) else [])) → tm_ft (zs ++ (if 0 < r / b ^ e then tm_t (tm_fl (sp_ib b e), r / b ^ e) else [])) → od_W (D + 1) 57 61 [some (.int (nI n)), some (.int (nI b)), some (.ref out), some (.int (nI depth)), some (.long (lN (b ^ e / b))), none, some (.int w6), some (.long (lN (r % b ^ e))), none, some (.int (nI e - 1)), some (.long (lN (r / b ^ e))), none] [] (od_cm S M ρ1) Q) → od_W (D + 1) 57 61 [some (.int (nI n)), some (.int (nI b)), some (.ref out), some (.int (nI depth)), some (.long (lN (b ^ e))), none, some (.int w6), some (.long (lN r)), none, some (.int (nI e)), w10, w11] [] (od_cm S M ρ) Q := by
    intro e r ρ zs w10 w11 Q he hr hp hb g hz ok0 P0 hQ hok hk
    subst hQ
    have hpos : 0 < b ^ e := Nat.pow_pos (by omega)
    have hd1 := Nat.div_le_self r (b ^ e)
    have hd2 := Nat.div_mul_le_self r (b ^ e)
    have hmod : r - r / b ^ e * b ^ e = r % b ^ e := by rw [Nat.mul_comm, Nat.mod_eq_sub_mul_div]
    refine od_W.rn (pc' := 63) (ls' := [some (.int _), some (.int _), some (.ref _), some (.int _), some (.long _), none, some (.int _), some (.long _), none, some (.int _), _, _]) (st' := [.int _]) 1 rfl ?_
    refine od_r1F rfl (of_decide_eq_true rfl) (decide_eq_false (nI_pos (by omega))) ?_
    refine od_W.rn (pc' := 70) (ls' := [some (.int _), some (.int _), some (.ref _), some (.int _), some (.long _), none, some (.int _), some (.long _), none, some (.int _), _, _]) (st' := [.int _]) 3 rfl ?_
    refine od_r1F rfl (of_decide_eq_true rfl) ((od_lc_le0 (by omega)).trans (decide_eq_false (by omega))) ?_
    refine od_W.rn (pc' := 77) (ls' := [some (.int _), some (.int _), some (.ref _), some (.int _), some (.long _), none, some (.int _), some (.long _), none, some (.int _), _, _]) (st' := [.long _, .long _]) 2 rfl ?_
    refine od_rDldiv rfl (rfl) (rfl) (hpos) ((by omega)) ((by omega)) ?_
    refine od_W.rn (pc' := 84) (ls' := [some (.int _), some (.int _), some (.ref _), some (.int _), some (.long _), none, some (.int _), some (.long _), none, some (.int _), some (.long _), none]) (st' := [.int _]) 4 rfl ?_
    have tail : ∀ ρ1, od_Bd ρ1 → (∀ q, q ∉ [out] → ρ1 q = ρ0 q) → od_hl ρ1 out (zs ++ (if 0 < r / b ^ e then tm_t (tm_fl (sp_ib b e), r / b ^ e) else [])) → tm_ft (zs ++ (if 0 < r / b ^ e then tm_t (tm_fl (sp_ib b e), r / b ^ e) else [])) → od_W (D + 1) 57 107 [some (.int (nI n)), some (.int (nI b)), some (.ref out), some (.int (nI depth)), some (.long (lN (b ^ e))), none, some (.int w6), some (.long (lN r)), none, some (.int (nI e)), some (.long (lN (r / b ^ e))), none] [] (od_cm S M ρ1) (od_Re S M ρ0 [out] ok0 none P0) := by
      intro ρ1 b1 g1 p1 k1
      refine od_W.rn (pc' := 121) (ls' := [some (.int _), some (.int _), some (.ref _), some (.int _), some (.long _), none, some (.int _), some (.long _), none, some (.int _), some (.long _), none]) (st' := [.long _, .long _]) 9 rfl ?_
      rw [lN_mul, lN_sub hd2, hmod, nI_1000 (by omega)]
      refine od_rDldiv rfl (rfl) (rfl) ((by omega)) ((by omega)) ((by omega)) ?_
      refine od_W.rn (pc' := 61) (ls' := [some (.int _), some (.int _), some (.ref _), some (.int _), some (.long _), none, some (.int _), some (.long _), none, some (.int _), some (.long _), none]) (st' := []) 3 rfl ?_
      rw [show nI e + Int32.ofInt (-1) = nI e - 1 from (Int32.sub_eq_add_neg (nI e) 1).symm]
      exact hk ρ1 b1 g1 p1 k1
    by_cases h0 : r / b ^ e = 0
    · rw [if_neg (by rw [h0]; exact Nat.lt_irrefl 0), List.append_nil] at tail
      refine od_r1T rfl rfl ((od_lc_le0 (by omega)).trans (decide_eq_true h0)) ?_
      exact tail ρ hb g hz ⟨hz.le hb, hz.2⟩
    · rw [if_pos (Nat.pos_of_ne_zero h0)] at tail hok
      have e5 : zs ++ tm_t (tm_fl (sp_ib b e), r / b ^ e) = ((zs ++ [1]) ++ tm_fl (sp_ib b e)) ++ [0, r / b ^ e] := by simp [tm_t]
      rw [e5] at tail hok
      have hbe : b ^ e ≤ n := by
        rcases Nat.lt_or_ge r (b ^ e) with z | z
        · exact absurd (Nat.div_eq_of_lt z) h0
        · omega
      refine od_r1F rfl (of_decide_eq_true rfl) ((od_lc_le0 (by omega)).trans (decide_eq_false h0)) ?_
      refine od_W.rn (pc' := 88) (ls' := [some (.int _), some (.int _), some (.ref _), some (.int _), some (.long _), none, some (.int _), some (.long _), none, some (.int _), some (.long _), none]) (st' := [.ref _]) 1 rfl ?_
      refine od_rV (as := []) rfl rfl rfl rfl (od_cm_r ho) rfl (Nat.le_of_ble_eq_true rfl) (Nat.le_of_ble_eq_true rfl) (lt_openTerm hS ho hb hz) (by omega) (fun o M1 hq => ?_)
      refine od_Re.kp hq rfl (by simp) (g) (fun z => tm_ft_l (tm_ft_l (hok z))) (fun ρ1 f1 g1 b1 p1 k1 => ?_)
      refine od_W.rn (pc' := 98) (ls' := [some (.int _), some (.int _), some (.ref _), some (.int _), some (.long _), none, some (.int _), some (.long _), none, some (.int _), some (.long _), none]) (st' := [.int _, .ref _, .int _, .int _]) 6 rfl ?_
      rw [show nI depth + Int32.ofInt 1 = nI (depth + 1) from nI_inc depth]
      refine od_rSt (as := [.int (nI e), .int (nI b), .ref out, .int (nI (depth + 1))]) rfl rfl rfl rfl (Nat.le_of_ble_eq_true rfl) (Nat.le_of_ble_eq_true rfl) (hrec e (hE e hbe) ρ1 _ b1 p1) (Nat.le_refl _) (fun o M1 hq => ?_)
      refine od_Re.kp hq rfl (by simp) (g1) (fun z => tm_ft_l (hok z)) (fun ρ2 f2 g2 b2 p2 k2 => ?_)
      refine od_W.rn (pc' := 104) (ls' := [some (.int _), some (.int _), some (.ref _), some (.int _), some (.long _), none, some (.int _), some (.long _), none, some (.int _), some (.long _), none]) (st' := [.long _, .ref _]) 2 rfl ?_
      refine od_rV (as := [.long (lN (r / b ^ e))]) rfl rfl rfl rfl (od_cm_r ho) rfl (Nat.le_of_ble_eq_true rfl) (Nat.le_of_ble_eq_true rfl) (lt_closeTerm hS ho b2 p2 (by omega)) hD (fun o M1 hq => ?_)
      refine od_Re.kp hq rfl (by simp) (g2) (hok) (fun ρ3 f3 g3 b3 p3 k3 => ?_)
      exact tail ρ3 b3 g3 p3 k3
  intro e
  induction e with
  | zero =>
    intro r ρ zs w10 w11 he hr hp hb g hz
    have ed : ib_mp b (db b 0 r) = if 0 < r / b ^ 0 then tm_t (tm_fl (sp_ib b 0), r / b ^ 0) else [] := by
      unfold db ib_mp
      split
      · simp [tm_fl]
      · rfl
    rw [ed]
    refine step 0 r ρ zs w10 w11 _ he hr hp hb g hz _ _ rfl (fun z => z) (fun ρ1 b1 g1 p1 k1 => ?_)
    refine od_W.rn (pc' := 63) (ls' := [some (.int _), some (.int _), some (.ref _), some (.int _), some (.long _), none, some (.int _), some (.long _), none, some (.int _), some (.long _), none]) (st' := [.int _]) 1 rfl ?_
    refine od_r1T rfl rfl (rfl) ?_
    refine od_W.fin rfl ?_
    exact od_Re.yes g1 b1 k1 p1
  | succ e ih =>
    intro r ρ zs w10 w11 he hr hp hb g hz
    have ed : ib_mp b (db b (e + 1) r) = (if 0 < r / b ^ (e + 1) then tm_t (tm_fl (sp_ib b (e + 1)), r / b ^ (e + 1)) else []) ++ ib_mp b (db b e (r % b ^ (e + 1))) := by
      unfold ib_mp
      conv => lhs; unfold db
      rw [List.map_append, tm_fl_app]
      congr 1
      split
      · simp [tm_fl]
      · rfl
    rw [ed, ← List.append_assoc]
    refine step (e + 1) r ρ zs w10 w11 _ he hr hp hb g hz _ _ rfl tm_ft_l (fun ρ1 b1 g1 p1 k1 => ?_)
    have e7 : b ^ (e + 1) / b = b ^ e := by rw [Nat.pow_succ, Nat.mul_div_cancel _ (by omega)]
    rw [e7, nI_pred e]
    have hmod := Nat.mod_le r (b ^ (e + 1))
    have hle : b ^ e ≤ b ^ (e + 1) := Nat.pow_le_pow_right (by omega) (by omega)
    exact ih (r % b ^ (e + 1)) ρ1 _ _ _ (by omega) (by omega) (by omega) b1 g1 p1
set_option maxRecDepth 100000 in
theorem cl_ib_up {D n b depth : Nat} {Ms : od_M} {Q : od_O → od_M → Prop} {w7 w8 w9 w10 w11 : Option Value} (hb1 : 2 ≤ b) (hb2 : b ≤ 1000) (hn : n ≤ 1000000000) (hk : ∀ k, k ≤ 30 → b ^ k ≤ 1000000000 → n < b ^ (k + 1) → od_W D 57 53 [some (.int (nI n)), some (.int (nI b)), some (.ref out), some (.int (nI depth)), some (.long (lN (b ^ k))), none, some (.int (nI k)), w7, w8, w9, w10, w11] [] Ms Q) : ∀ (m k : Nat), k + m = 30 → b ^ k ≤ 1000000000 → od_W D 57 22 [some (.int (nI n)), some (.int (nI b)), some (.ref out), some (.int (nI depth)), some (.long (lN (b ^ k))), none, some (.int (nI k)), w7, w8, w9, w10, w11] [] Ms Q := by
  intro m
  induction m with
  | zero =>
    intro k hkm hp
    exfalso
    have h1 : 2 ^ 30 ≤ b ^ 30 := Nat.pow_le_pow_left hb1 30
    rw [show k = 30 by omega] at hp
    omega
  | succ m ih =>
    intro k hkm hp
    have hbb : b ^ k * b ≤ 1000000000 * 1000 := Nat.mul_le_mul hp hb2
    refine od_W.rn (pc' := 26) (ls' := [some (.int _), some (.int _), some (.ref _), some (.int _), some (.long _), none, some (.int _), _, _, _, _, _]) (st' := [.int _, .int _]) 2 rfl ?_
    refine od_r2F rfl (of_decide_eq_true rfl) (decide_eq_false (nI_ge (b := 30) (by omega) (by omega))) ?_
    refine od_W.rn (pc' := 37) (ls' := [some (.int _), some (.int _), some (.ref _), some (.int _), some (.long _), none, some (.int _), _, _, _, _, _]) (st' := [.int _]) 7 rfl ?_
    rw [nI_1000 (by omega), show (nI n).toInt64 = lN n from nI_l (by omega), lN_mul]
    by_cases h : n < b ^ k * b
    · refine od_r1T rfl rfl ((od_lc_gt _ _).trans (decide_eq_true ((pk_lLT (by omega) (by omega)).mpr h))) ?_
      exact hk k (by omega) hp (by rw [Nat.pow_succ]; exact h)
    · refine od_r1F rfl (of_decide_eq_true rfl) ((od_lc_gt _ _).trans (decide_eq_false (fun z => h ((pk_lLT (by omega) (by omega)).mp z)))) ?_
      refine od_W.rn (pc' := 22) (ls' := [some (.int _), some (.int _), some (.ref _), some (.int _), some (.long _), none, some (.int _), _, _, _, _, _]) (st' := []) 7 rfl ?_
      rw [nI_1000 (by omega), lN_mul, nI_inc k, ← Nat.pow_succ]
      exact ih (k + 1) (by omega) (by rw [Nat.pow_succ]; omega)
theorem cl_ib (hS : od_SS S) (ho : S out = true) {b n depth D E : Nat} (hb1 : 2 ≤ b) (hb2 : b ≤ 1000) (hn : n ≤ 1000000000) (hdp : depth ≤ 20) (hD : 2 ≤ D) (hE : ∀ e, b ^ e ≤ n → e ≤ E) (hrec : ∀ e, e ≤ E → ib_c S M out b D e (depth + 1)) : ib_c S M out b (D + 1) n depth := by
  intro ρ zs hb hz
  have e0 : od_ent 57 [.int (nI n), .int (nI b), .ref out, .int (nI depth)] = [some (.int (nI n)), some (.int (nI b)), some (.ref out), some (.int (nI depth)), none, none, none, none, none, none, none, none] := rfl
  rw [e0]
  refine od_W.rn (pc' := 3) (ls' := [some (.int _), some (.int _), some (.ref _), some (.int _), none, none, none, none, none, none, none, none]) (st' := [.int _, .int _]) 2 rfl ?_
  refine od_r2T rfl rfl (decide_eq_true (nI_le (b := 20) hdp (by omega))) ?_
  refine od_W.rn (pc' := 22) (ls' := [some (.int _), some (.int _), some (.ref _), some (.int _), some (.long _), none, some (.int _), none, none, none, none, none]) (st' := []) 4 rfl ?_
  refine cl_ib_up (out := out) hb1 hb2 hn (fun k hk hp hlt => ?_) 30 0 (by omega) (by rw [Nat.pow_zero]; omega)
  have es : sp_ib b n = (db b k n).map (fun p => (tm_fl (sp_ib b p.1), p.2)) := by
    rw [sp_ib_eq hb1 n]
    have := db_skip hb1 hlt (30 - k)
    rw [show k + (30 - k) = 30 by omega] at this
    rw [this]
  rw [es]
  refine od_W.rn (pc' := 61) (ls' := [some (.int _), some (.int _), some (.ref _), some (.int _), some (.long _), none, some (.int _), some (.long _), none, some (.int _), none, none]) (st' := []) 5 rfl ?_
  rw [show (nI n).toInt64 = lN n from nI_l (by omega)]
  exact cl_ib_loop (ρ0 := ρ) hS ho hb1 hb2 hn hdp hD hE hrec k n ρ zs none none hk (Nat.le_refl _) hp hb (od_fr0 ρ _) hz
theorem ib_c.deep {b D D' n depth : Nat} (h : ib_c S M out b D n depth) (hd : D ≤ D') : ib_c S M out b D' n depth := fun ρ zs hb hz => (h ρ zs hb hz).deep hd
theorem lt_ib0 (hS : od_SS S) (ho : S out = true) {b : Nat} (hb1 : 2 ≤ b) (hb2 : b ≤ 1000) {depth : Nat} (hd : depth ≤ 20) : ib_c S M out b 3 0 depth := by
  intro ρ zs hb hz
  have e0 : od_ent 57 [.int (nI 0), .int (nI b), .ref out, .int (nI depth)] = [some (.int (nI 0)), some (.int (nI b)), some (.ref out), some (.int (nI depth)), none, none, none, none, none, none, none, none] := rfl
  rw [e0]
  have es : sp_ib b 0 = [] := by rw [sp_ib_eq hb1 0, show 30 = 0 + 30 from rfl, db_skip hb1 (k := 0) (Nat.pow_pos (by omega)) 30]; simp [db]
  rw [es, show tm_fl ([] : List tm_T) = [] from rfl, List.append_nil]
  refine od_W.rn (pc' := 3) (ls' := [some (.int _), some (.int _), some (.ref _), some (.int _), none, none, none, none, none, none, none, none]) (st' := [.int _, .int _]) 2 rfl ?_
  refine od_r2T rfl rfl (decide_eq_true (nI_le (b := 20) hd (by omega))) ?_
  refine od_W.rn (pc' := 26) (ls' := [some (.int _), some (.int _), some (.ref _), some (.int _), some (.long _), none, some (.int _), none, none, none, none, none]) (st' := [.int _, .int _]) 6 rfl ?_
  refine od_r2F rfl (of_decide_eq_true rfl) (rfl) ?_
  refine od_W.rn (pc' := 37) (ls' := [some (.int _), some (.int _), some (.ref _), some (.int _), some (.long _), none, some (.int _), none, none, none, none, none]) (st' := [.int _]) 7 rfl ?_
  rw [nI_1000 (by omega), show (nI 0).toInt64 = lN 0 from nI_l (by omega)]
  refine od_r1T rfl rfl ((od_lc_gt _ _).trans (decide_eq_true (by show lN 0 < lN 1 * lN b; rw [lN_mul 1 b]; exact (pk_lLT (by omega) (by omega)).mpr (by omega)))) ?_
  refine od_W.rn (pc' := 63) (ls' := [some (.int _), some (.int _), some (.ref _), some (.int _), some (.long _), none, some (.int _), some (.long _), none, some (.int _), none, none]) (st' := [.int _]) 6 rfl ?_
  refine od_r1F rfl (of_decide_eq_true rfl) (rfl) ?_
  refine od_W.rn (pc' := 70) (ls' := [some (.int _), some (.int _), some (.ref _), some (.int _), some (.long _), none, some (.int _), some (.long _), none, some (.int _), none, none]) (st' := [.int _]) 3 rfl ?_
  refine od_r1F rfl (of_decide_eq_true rfl) (rfl) ?_
  refine od_W.rn (pc' := 77) (ls' := [some (.int _), some (.int _), some (.ref _), some (.int _), some (.long _), none, some (.int _), some (.long _), none, some (.int _), none, none]) (st' := [.long _, .long _]) 2 rfl ?_
  refine od_rDldiv rfl ((show _ = lN 0 from rfl)) ((show _ = lN 1 from rfl)) ((by omega)) ((by omega)) ((by omega)) ?_
  refine od_W.rn (pc' := 84) (ls' := [some (.int _), some (.int _), some (.ref _), some (.int _), some (.long _), none, some (.int _), some (.long _), none, some (.int _), some (.long _), none]) (st' := [.int _]) 4 rfl ?_
  refine od_r1T rfl rfl (rfl) ?_
  refine od_W.rn (pc' := 121) (ls' := [some (.int _), some (.int _), some (.ref _), some (.int _), some (.long _), none, some (.int _), some (.long _), none, some (.int _), some (.long _), none]) (st' := [.long _, .long _]) 9 rfl ?_
  rw [nI_1000 (n := b) (by omega)]
  refine od_rDldiv rfl ((show _ = lN 1 from rfl)) (rfl) ((by omega)) ((by omega)) ((by omega)) ?_
  refine od_W.rn (pc' := 63) (ls' := [some (.int _), some (.int _), some (.ref _), some (.int _), some (.long _), none, some (.int _), some (.long _), none, some (.int _), some (.long _), none]) (st' := [.int _]) 4 rfl ?_
  refine od_r1T rfl rfl (rfl) ?_
  refine od_W.fin rfl ?_
  exact od_Re.yes (od_fr0 ρ _) hb ⟨hz.le hb, hz.2⟩ hz
end BASE
