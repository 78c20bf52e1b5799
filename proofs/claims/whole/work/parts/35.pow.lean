/-! Powers. -/
theorem od_lc_gt (x y : Int64) : od_cond .gt (lg_cmp x y) 0 = decide (y < x) := by
  by_cases h : y < x
  · rw [decide_eq_true h]; exact decide_eq_true ((lg_cmp_gt x y).mpr h)
  · rw [decide_eq_false h]; exact decide_eq_false (fun z => h ((lg_cmp_gt x y).mp z))
def sp_pw (a : Nat) : Nat → Nat → Nat
  | 0, v => v
  | m + 1, v => if v ≤ 1000000 then sp_pw a m (v * a) else v
theorem sp_pw_big (a : Nat) : ∀ (m v : Nat), ¬ v ≤ 1000000 → sp_pw a m v = v := by
  intro m v h
  cases m with
  | zero => rfl
  | succ m => exact if_neg h
theorem sp_pw_le {a : Nat} (ha : a ≤ 1000000) : ∀ (m v : Nat), v ≤ 1000000000000 → sp_pw a m v ≤ 1000000000000 := by
  intro m
  induction m with
  | zero => intro v h; exact h
  | succ m ih =>
    intro v h
    unfold sp_pw
    by_cases h1 : v ≤ 1000000
    · rw [if_pos h1]; exact ih _ (Nat.mul_le_mul h1 ha)
    · rw [if_neg h1]; exact h
theorem sp_pw_pos {a : Nat} (ha : 1 ≤ a) : ∀ (m v : Nat), 1 ≤ v → 1 ≤ sp_pw a m v := by
  intro m
  induction m with
  | zero => intro v h; exact h
  | succ m ih =>
    intro v h
    unfold sp_pw
    by_cases h1 : v ≤ 1000000
    · rw [if_pos h1]; exact ih _ (Nat.mul_pos h ha)
    · rw [if_neg h1]; exact h
/-- the exponent that a power of a number has for an exponent of the limit -/
def sp_dn (e : List Nat) : List Nat := if e.length ≤ 3 then tm_num (tm_n (tm_tp e) - 1) else e
def sp_pe (ls : List tm_T) : List tm_T := ls.map fun t => (sp_dn t.1, t.2)
theorem tm_num_W {c : Nat} (h : c ≤ 1000000) : tm_W (tm_num c) := by
  unfold tm_num
  by_cases h0 : c = 0
  · rw [if_pos h0]; exact tm_nil
  · rw [if_neg h0]; exact tm_cons (e := []) tm_nil ⟨by omega, h⟩ tm_nil
theorem tm_n_le {ts : List tm_T} (h : tm_al ts) : tm_n ts ≤ 1000000 := by
  rcases tm_snoc ts with rfl | ⟨us, t, rfl⟩
  · exact Nat.zero_le _
  · rw [tm_n_snoc]
    have := (tm_al_app.mp h).2.1.2.2
    split
    · exact this
    · omega
theorem sp_dn_W {e : List Nat} (h : tm_W e) : tm_W (sp_dn e) := by
  unfold sp_dn
  split
  · have := tm_n_le (tm_al_tp h); exact tm_num_W (by omega)
  · exact h
theorem sp_pe_al {ls : List tm_T} (h : tm_al ls) : tm_al (sp_pe ls) := by
  induction ls with
  | nil => exact trivial
  | cons t ls ih => exact ⟨⟨sp_dn_W h.1.1, h.1.2⟩, ih h.2⟩
/-- the part of an exponent before its number -/
def sp_lim (us : List tm_T) : List tm_T := if tm_n us = 0 then us else us.dropLast
theorem sp_lim_al {us : List tm_T} (h : tm_al us) : tm_al (sp_lim us) := by
  unfold sp_lim
  split
  · exact h
  · rcases tm_snoc us with rfl | ⟨vs, t, rfl⟩
    · exact h
    · rw [List.dropLast_concat]; exact (tm_al_app.mp h).1
def sp_pi (ts : List tm_T) : Nat → List tm_T → List tm_T
  | 0, tot => tot
  | m + 1, tot => sp_pi ts m (sp_mul tot ts)
def ok_pi (ts : List tm_T) : Nat → List tm_T → Prop
  | 0, _ => True
  | m + 1, tot => tm_ft (tm_fl (sp_mul tot ts)) ∧ ok_pi ts m (sp_mul tot ts)
theorem sp_pi_al {ts : List tm_T} (h : tm_al ts) : ∀ (m : Nat) (tot : List tm_T), tm_al tot → ok_pi ts m tot → tm_al (sp_pi ts m tot) := by
  intro m
  induction m with
  | zero => intro tot h2 _; exact h2
  | succ m ih => intro tot h2 h3; exact ih _ (sp_mul_al h2 h h3.1.2) h3.2
def sp_pq (t : tm_T) (ls : List tm_T) : tm_T := (tm_fl (sp_mul (tm_tp t.1) ls), 1)
def sp_pow (ts us : List tm_T) : List tm_T := if us = [] ∨ tm_fl ts = [1, 0, 1] then [([], 1)] else match ts with
  | [] => []
  | t :: ts' => if (tm_fl (t :: ts')).length ≤ 3 then [(tm_fl (sp_pe (sp_lim us)), sp_pw (tm_n (t :: ts')) (tm_n us) 1)] else sp_mul [sp_pq t (sp_lim us)] (sp_pi (t :: ts') (tm_n us) [([], 1)])
def ok_pin (t : tm_T) (ts ls : List tm_T) (m : Nat) : Prop := m ≤ 20 ∧ ok_pi (t :: ts) m [([], 1)] ∧ tm_ft (tm_fl (sp_mul (tm_tp t.1) ls)) ∧ tm_ft (tm_t (sp_pq t ls)) ∧ tm_ft (tm_fl (sp_mul [sp_pq t ls] (sp_pi (t :: ts) m [([], 1)])))
def ok_pow (ts us : List tm_T) : Prop := if us = [] ∨ tm_fl ts = [1, 0, 1] then True else match ts with
  | [] => True
  | t :: ts' => if (tm_fl (t :: ts')).length ≤ 3 then tm_ft (tm_t (tm_fl (sp_pe (sp_lim us)), sp_pw (tm_n (t :: ts')) (tm_n us) 1)) else ok_pin t ts' (sp_lim us) (tm_n us)
theorem sp_pq_ok {t : tm_T} {ls : List tm_T} (h1 : tm_ok t) (h2 : tm_al ls) (hf : tm_ft (tm_fl (sp_mul (tm_tp t.1) ls))) : tm_ok (sp_pq t ls) := ⟨tm_fl_W (sp_mul_al (tm_al_tp h1.1) h2 hf.2), by unfold tm_c sp_pq; dsimp only; omega⟩
theorem tm_al_one : tm_al [([], 1)] := ⟨⟨tm_nil, by unfold tm_c; dsimp only; omega⟩, trivial⟩
theorem tm_fin {t : tm_T} {ts : List tm_T} (h : (tm_fl (t :: ts)).length ≤ 3) : t.1 = [] ∧ ts = [] := by
  rw [tm_fl, List.length_append, tm_t_len] at h
  have := tm_fl_len ts
  exact ⟨List.length_eq_zero_iff.mp (by omega), List.length_eq_zero_iff.mp (by omega)⟩
theorem sp_pow_al {ts us : List tm_T} (h1 : tm_al ts) (h2 : tm_al us) (hf : ok_pow ts us) : tm_al (sp_pow ts us) := by
  unfold sp_pow
  unfold ok_pow at hf
  by_cases h0 : us = [] ∨ tm_fl ts = [1, 0, 1]
  · rw [if_pos h0]; exact tm_al_one
  · rw [if_neg h0] at hf ⊢
    cases ts with
    | nil => exact trivial
    | cons t ts =>
      dsimp only at hf ⊢
      by_cases h3 : (tm_fl (t :: ts)).length ≤ 3
      · rw [if_pos h3] at hf ⊢
        obtain ⟨e1, rfl⟩ := tm_fin h3
        refine ⟨⟨tm_fl_W (sp_pe_al (sp_lim_al h2)), sp_pw_pos ?_ _ _ (by omega), (tm_sm_t.mp hf.2).2⟩, trivial⟩
        show 1 ≤ if t.1 = [] then t.2 else 0
        rw [if_pos e1]
        exact h1.1.2.1
      · rw [if_neg h3] at hf ⊢
        obtain ⟨f1, f2, f3, f4, f5⟩ := hf
        exact sp_mul_al ⟨sp_pq_ok h1.1 (sp_lim_al h2) f3, trivial⟩ (sp_pi_al h1 _ _ tm_al_one f2) f5.2
section POW
variable {S : Nat → Bool} {M : od_M} {ρ0 : od_Rm} {x a b out : Nat}
theorem lt_becomeNumberN {ρ : od_Rm} {r : Nat} (hS : od_SS S) (hr : S r = true) (hb : od_Bd ρ) {v : Int32} (hv : v.toInt64 ≤ 0) : od_W 1 16 0 (od_ent 16 [.ref r, .int v]) [] (od_cm S M ρ) (od_Re S M ρ [r] True none (fun ρ' => od_hl ρ' r [])) := by
  have hnil : tm_sm [] := fun x hx => (List.not_mem_nil hx).elim
  refine (ct_becomeNumber0 (od_cm_Rw hS hr (hb r)) hv).mono fun o M1 h => ?_
  exact (h.ls (xs := []) (ws := []) hS hr hb rfl (tm_at_nil _ _) hnil rfl ⟨fun _ => hnil, fun _ => trivial⟩).mono (fun q h => h) ⟨fun _ => trivial, fun _ => ⟨by simp, hnil⟩⟩ (fun ρ' _ _ h => h)
theorem cl_pw_loop {Ms : od_M} {a m : Nat} (ha : a ≤ 1000000) (hm : m ≤ 1000000) : ∀ (n i v : Nat), i + n = m → v ≤ 1000000000000 → od_W 0 34 5 [some (.int (nI a)), some (.int (nI m)), some (.long (lN v)), none, some (.int (nI i))] [] Ms (fun o M' => o = .inl (some (.long (lN (sp_pw a n v)))) ∧ M' = Ms) := by
  intro n
  induction n with
  | zero =>
    intro i v hi hv
    refine od_W.rn (pc' := 8) (ls' := [some (.int _), some (.int _), some (.long _), none, some (.int _)]) (st' := [.int _, .int _]) 2 rfl ?_
    refine od_r2T rfl rfl (decide_eq_true (nI_le (by omega) (by omega))) ?_
    refine od_W.rn (pc' := 31) (ls' := [some (.int _), some (.int _), some (.long _), none, some (.int _)]) (st' := [.long _]) 1 rfl ?_
    refine od_W.fin rfl ?_
    exact ⟨rfl, rfl⟩
  | succ n ih =>
    intro i v hi hv
    refine od_W.rn (pc' := 8) (ls' := [some (.int _), some (.int _), some (.long _), none, some (.int _)]) (st' := [.int _, .int _]) 2 rfl ?_
    refine od_r2F rfl (of_decide_eq_true rfl) (decide_eq_false (nI_ge (by omega) (by omega))) ?_
    refine od_W.rn (pc' := 16) (ls' := [some (.int _), some (.int _), some (.long _), none, some (.int _)]) (st' := [.int _]) 3 rfl ?_
    by_cases h : v ≤ 1000000
    · refine od_r1F rfl (of_decide_eq_true rfl) ((od_lc_gt _ _).trans (decide_eq_false (fun z => absurd ((pk_lLT (a := 1000000) (by omega) (by omega)).mp z) (by omega)))) ?_
      refine od_W.rn (pc' := 5) (ls' := [some (.int _), some (.int _), some (.long _), none, some (.int _)]) (st' := []) 7 rfl ?_
      rw [nI_1000 ha, lN_mul, nI_inc i, show sp_pw a (n + 1) v = sp_pw a n (v * a) from if_pos h]
      exact ih (i + 1) (v * a) (by omega) (Nat.mul_le_mul h ha)
    · rw [sp_pw_big a _ v h]
      refine od_r1T rfl rfl ((od_lc_gt _ _).trans (decide_eq_true ((pk_lLT (a := 1000000) (by omega) (by omega)).mpr (by omega)))) ?_
      refine od_W.rn (pc' := 31) (ls' := [some (.int _), some (.int _), some (.long _), none, some (.int _)]) (st' := [.long _]) 1 rfl ?_
      refine od_W.fin rfl ?_
      exact ⟨rfl, rfl⟩
theorem ct_powerOfNumber {Ms : od_M} {a m : Nat} (ha : a ≤ 1000000) (hm : m ≤ 1000000) : od_W 0 34 0 (od_ent 34 [.int (nI a), .int (nI m)]) [] Ms (fun o M' => o = .inl (some (.long (lN (sp_pw a m 1)))) ∧ M' = Ms) := by
  have e0 : od_ent 34 [.int (nI a), .int (nI m)] = [some (.int (nI a)), some (.int (nI m)), none, none, none] := rfl
  rw [e0]
  refine od_W.rn (pc' := 5) (ls' := [some (.int _), some (.int _), some (.long _), none, some (.int _)]) (st' := []) 4 rfl ?_
  exact cl_pw_loop ha hm m 0 1 (by omega) (by omega)
end POW
