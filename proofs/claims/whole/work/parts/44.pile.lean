/-! The pile that FAST works off. -/
abbrev fs_S : Type := List (List Nat × Nat)
def fs_pop (xs : List Nat) (c : Nat) (rest : fs_S) : fs_S := if c ≤ 1 then rest else (xs, c - 1) :: rest
def fs_nx (xs : List Nat) (c : Nat) (rest : fs_S) (v : Nat) : Option (fs_S × Nat) :=
  if tm_k (tm_tp xs) = 0 then (if v + 1 ≤ 1000000 then some (fs_pop xs c rest, v + 1) else none)
  else if tm_k (tm_tp xs) = 2 then (if (fs_pop xs c rest).length < 12 then some ((sp_mem v (tm_tp xs), 1) :: fs_pop xs c rest, v) else none)
  else if v = 0 then some (fs_pop xs c rest, v) else if (fs_pop xs c rest).length < 12 then some ((sp_pr (tm_tp xs), v) :: fs_pop xs c rest, v) else none
def fs_run : Nat → fs_S → Nat → Option Nat
  | _, [], v => some v
  | 0, _ :: _, _ => none
  | f + 1, p :: rest, v => match fs_nx p.1 p.2 rest v with
    | none => none
    | some q => fs_run f q.1 q.2
def ok_fs : Nat → fs_S → Nat → Prop
  | _, [], _ => True
  | 0, _ :: _, _ => True
  | f + 1, p :: rest, v => (tm_k (tm_tp p.1) = 2 → tm_ft (sp_mem v (tm_tp p.1))) ∧ (match fs_nx p.1 p.2 rest v with
    | none => True
    | some q => ok_fs f q.1 q.2)
/-- the rows and the times of the pile hold this stack -/
def pl_ok (ρ : od_Rm) (tm : Nat → Int32) (x : Nat) : fs_S → Prop
  | [] => True
  | p :: rest => od_hl ρ (x + 5 + 2 * rest.length) p.1 ∧ tm rest.length = nI p.2 ∧ 1 ≤ p.2 ∧ p.2 ≤ 1000000 ∧ tm_W p.1 ∧ pl_ok ρ tm x rest
theorem pl_ok.fr {ρ ρ' : od_Rm} {tm tm' : Nat → Int32} {x : Nat} : ∀ {s : fs_S}, pl_ok ρ tm x s → (∀ j, j < s.length → ρ' (x + 5 + 2 * j) = ρ (x + 5 + 2 * j) ∧ tm' j = tm j) → pl_ok ρ' tm' x s := by
  intro s
  induction s with
  | nil => intro _ _; exact trivial
  | cons p s ih =>
    intro h hf
    have h1 := hf s.length (by simp)
    exact ⟨h.1.fr h1.1, h1.2.trans h.2.1, h.2.2.1, h.2.2.2.1, h.2.2.2.2.1, ih h.2.2.2.2.2 (fun j hj => hf j (by simp; omega))⟩
abbrev od_PI (M : od_M) (x : Nat) (h n : Int32) : Prop := M.2.2 x = some (od_ob 5 [.ref (x + 1), .ref (x + 2), .int h, .int n, .ref (x + 3)])
/-- the fixed parts of the pile -/
def pl_fx (S : Nat → Bool) (M : od_M) (x : Nat) : Prop := (∃ f, M.2.2 (x + 1) = some (od_ra 12 f) ∧ ∀ i, i < 12 → f i = some (x + 5 + 2 * i)) ∧ od_no S x ∧ od_no S (x + 1) ∧ od_no S (x + 2) ∧ S (x + 3) = true ∧ ∀ i, i < 12 → S (x + 5 + 2 * i) = true
theorem pl_fx.eM {S : Nat → Bool} {M M' : od_M} {x : Nat} (h : pl_fx S M x) (e : od_eM [x, x + 2] M M') : pl_fx S M' x := ⟨⟨h.1.choose, (e.2.2 _ (by simp)).trans h.1.choose_spec.1, h.1.choose_spec.2⟩, h.2⟩
def pl_st (M : od_M) (ρ : od_Rm) (x : Nat) (s : fs_S) (v : Nat) : Prop := od_PI M x (nI s.length) (nI v) ∧ (∃ tm, M.2.2 (x + 2) = some (od_ia 12 tm) ∧ pl_ok ρ tm x s) ∧ s.length ≤ 12 ∧ v ≤ 1000000
def pl_sh (M : od_M) (x : Nat) : Prop := ∃ h n tm, od_PI M x h n ∧ M.2.2 (x + 2) = some (od_ia 12 tm)
theorem pl_st.sh {M : od_M} {ρ : od_Rm} {x : Nat} {s : fs_S} {v : Nat} (h : pl_st M ρ x s v) : pl_sh M x := by
  obtain ⟨h1, ⟨tm, h2, _⟩, _⟩ := h
  exact ⟨_, _, tm, h1, h2⟩
def pl_fr (x : Nat) (ρ ρ' : od_Rm) : Prop := ∀ q, q < x + 3 ∨ x + 28 ≤ q → ρ' q = ρ q
section PILE
variable {S : Nat → Bool} {ρ : od_Rm} {x r : Nat}
theorem ct_pushes0 {M : od_M} {h n c : Int32} (hc : ¬ 0 < c) : od_W 3 54 0 (od_ent 54 [.ref x, .ref r, .int c]) [] (od_cm S M ρ) (fun o M' => o = .inl (some (.int 1)) ∧ M' = od_cm S M ρ) := by
  have e0 : od_ent 54 [.ref x, .ref r, .int c] = [some (.ref x), some (.ref r), some (.int c)] := rfl
  rw [e0]
  refine od_W.rn (pc' := 1) (ls' := [some (.ref _), some (.ref _), some (.int _)]) (st' := [.int _]) 1 rfl ?_
  refine od_r1F rfl (of_decide_eq_true rfl) (decide_eq_false hc) ?_
  refine od_W.rn (pc' := 5) (ls' := [some (.ref _), some (.ref _), some (.int _)]) (st' := [.int _]) 1 rfl ?_
  refine od_W.fin rfl ?_
  exact ⟨rfl, rfl⟩
theorem ct_pushesF {M : od_M} {n : Int32} {c h : Nat} (hx : pl_fx S M x) (hP : od_PI M x (nI h) n) (h12 : 12 ≤ h) (hh : h < 1000) (hc : 0 < c) (hc2 : c ≤ 1000000) : od_W 3 54 0 (od_ent 54 [.ref x, .ref r, .int (nI c)]) [] (od_cm S M ρ) (fun o M' => o = .inl (some (.int 0)) ∧ M' = od_cm S M ρ) := by
  have e0 : od_ent 54 [.ref x, .ref r, .int (nI c)] = [some (.ref x), some (.ref r), some (.int (nI c))] := rfl
  rw [e0]
  refine od_W.rn (pc' := 1) (ls' := [some (.ref _), some (.ref _), some (.int _)]) (st' := [.int _]) 1 rfl ?_
  refine od_r1T rfl rfl (decide_eq_true (nI_lt (a := 0) hc (by omega))) ?_
  refine od_W.rn (pc' := 7) (ls' := [some (.ref _), some (.ref _), some (.int _)]) (st' := [.ref _]) 1 rfl ?_
  refine od_rG rfl (od_cm_o hx.2.1 hP) rfl rfl ?_
  refine od_W.rn (pc' := 12) (ls' := [some (.ref _), some (.ref _), some (.int _)]) (st' := [.int _, .int _]) 1 rfl ?_
  refine od_r2F rfl (of_decide_eq_true rfl) (decide_eq_false (nI_nlt (b := 12) h12 (by omega))) ?_
  refine od_W.rn (pc' := 16) (ls' := [some (.ref _), some (.ref _), some (.int _)]) (st' := [.int _]) 1 rfl ?_
  refine od_W.fin rfl ?_
  exact ⟨rfl, rfl⟩
theorem lt_pushes {M : od_M} {n : Int32} {c h : Nat} {tm : Nat → Int32} (hS : od_SS S) (hx : pl_fx S M x) (hP : od_PI M x (nI h) n) (ht : M.2.2 (x + 2) = some (od_ia 12 tm)) (h12 : h < 12) (hc : 0 < c) (hc2 : c ≤ 1000000) (hr : S r = true) (hne : x + 5 + 2 * h ≠ r) (hb : od_Bd ρ) {xs : List Nat} (hl : od_hl ρ r xs) : od_W 3 54 0 (od_ent 54 [.ref x, .ref r, .int (nI c)]) [] (od_cm S M ρ) (fun o M2 => ∃ M' ρ', od_eM [x, x + 2] M M' ∧ (∀ q, q ≠ x + 5 + 2 * h → ρ' q = ρ q) ∧ od_Bd ρ' ∧ o = .inl (some (.int 1)) ∧ M2 = od_cm S M' ρ' ∧ od_hl ρ' (x + 5 + 2 * h) xs ∧ od_PI M' x (nI (h + 1)) n ∧ M'.2.2 (x + 2) = some (od_ia 12 (upd tm h (nI c)))) := by
  have e0 : od_ent 54 [.ref x, .ref r, .int (nI c)] = [some (.ref x), some (.ref r), some (.int (nI c))] := rfl
  rw [e0]
  obtain ⟨⟨rf, x1, xf⟩, x2, x3, x4, x5, x6⟩ := hx
  have rh := x6 h h12
  refine od_W.rn (pc' := 1) (ls' := [some (.ref _), some (.ref _), some (.int _)]) (st' := [.int _]) 1 rfl ?_
  refine od_r1T rfl rfl (decide_eq_true (nI_lt (a := 0) hc (by omega))) ?_
  refine od_W.rn (pc' := 7) (ls' := [some (.ref _), some (.ref _), some (.int _)]) (st' := [.ref _]) 1 rfl ?_
  refine od_rG rfl (od_cm_o x2 hP) rfl rfl ?_
  refine od_W.rn (pc' := 12) (ls' := [some (.ref _), some (.ref _), some (.int _)]) (st' := [.int _, .int _]) 1 rfl ?_
  refine od_r2T rfl rfl (decide_eq_true (nI_lt (b := 12) h12 (by omega))) ?_
  refine od_W.rn (pc' := 18) (ls' := [some (.ref _), some (.ref _), some (.int _)]) (st' := [.ref _]) 1 rfl ?_
  refine od_rG rfl (od_cm_o x2 hP) rfl rfl ?_
  refine od_W.rn (pc' := 22) (ls' := [some (.ref _), some (.ref _), some (.int _)]) (st' := [.ref _, .ref _]) 1 rfl ?_
  refine od_rG rfl (od_cm_o x2 hP) rfl rfl ?_
  refine od_rAL rfl (od_cm_o x3 x1) (rfl) (h12) (by decide) ?_
  rw [xf h h12]
  refine od_W.rn (pc' := 27) (ls' := [some (.ref _), some (.ref _), some (.int _)]) (st' := [.ref _, .ref _]) 1 rfl ?_
  refine od_rV (as := [.ref r]) rfl rfl rfl rfl (od_cm_r rh) rfl (Nat.le_of_ble_eq_true rfl) (Nat.le_of_ble_eq_true rfl) (lt_become hS rh hr hne hb hl) (Nat.le_of_ble_eq_true rfl) (fun o M1 hq => ?_)
  refine od_Re.kq hq rfl (fun ρ1 f1 b1 k1 => absurd trivial k1) (fun ρ1 f1 b1 p1 k1 => ?_)
  refine od_W.rn (pc' := 31) (ls' := [some (.ref _), some (.ref _), some (.int _)]) (st' := [.ref _]) 1 rfl ?_
  refine od_rG rfl (od_cm_o x2 hP) rfl rfl ?_
  refine od_W.rn (pc' := 35) (ls' := [some (.ref _), some (.ref _), some (.int _)]) (st' := [.ref _, .ref _]) 1 rfl ?_
  refine od_rG rfl (od_cm_o x2 hP) rfl rfl ?_
  refine od_W.rn (pc' := 39) (ls' := [some (.ref _), some (.ref _), some (.int _)]) (st' := [.int _, .int _, .ref _]) 1 rfl ?_
  refine od_rIS rfl (od_cm_o x4 ht) (rfl) (h12) (by decide) ?_
  rw [od_cm_set x4]
  have hP1 : od_PI (od_set M (x + 2) (od_ia 12 (upd tm h (nI c)))) x (nI h) n := (od_set_o (by omega)).trans hP
  refine od_W.rn (pc' := 42) (ls' := [some (.ref _), some (.ref _), some (.int _)]) (st' := [.ref _, .ref _]) 2 rfl ?_
  refine od_rG rfl (od_cm_o x2 hP1) rfl rfl ?_
  refine od_W.rn (pc' := 47) (ls' := [some (.ref _), some (.ref _), some (.int _)]) (st' := [.int _, .ref _]) 2 rfl ?_
  refine od_rP rfl (od_cm_o x2 hP1) rfl (by simp) rfl (by decide) ?_
  rw [od_cm_set x2, show nI h + Int32.ofInt 1 = nI (h + 1) from nI_inc h]
  refine od_W.rn (pc' := 51) (ls' := [some (.ref _), some (.ref _), some (.int _)]) (st' := [.int _]) 1 rfl ?_
  refine od_W.fin rfl ?_
  refine ⟨_, ρ1, ((od_eM.refl _ M).set (a := x + 2) (by simp)).set (a := x) (by simp), fun q hq => f1 q (od_n1 hq), b1, rfl, rfl, p1, od_set_s _ _ _, ?_⟩
  rw [od_set_o (by omega)]
  exact od_set_s _ _ _
end PILE
