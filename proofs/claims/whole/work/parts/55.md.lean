/-! The reference's memory: rows in one array, by numbers. -/
/-- the array: sixty cells a row; the four behind them are g's -/
def rf_fl (g : Nat → Int32) (ρ : od_Rm) : Nat → Int32 := fun a => if a % 64 < 60 then (ρ (a / 64)).2 (a % 64) else g a
def rf_ln (ρ : od_Rm) : Nat → Int32 := fun r => nI (ρ r).1
abbrev rf_B : Type := Int32 × Int32 × Int32 × (Nat → Int32)
abbrev rf_ob (y : Nat) (b : rf_B) (fu : Bool) : od_E := od_ob 8 [.int b.1, .ref (y + 1), .ref (y + 2), .int (if fu = true then 1 else 0), .int b.2.1, .int b.2.2.1, .ref (y + 3), .ref (y + 4), .ref (y + 5), .ref (y + 6), .ref (y + 7)]
/-- the object at y, its rows at y + 1, their lengths at y + 2; all else as in M -/
def md (M : od_M) (y : Nat) (b : rf_B) (fu : Bool) (ρ : od_Rm) : od_M := (M.1, M.2.1, fun a => if a = y then some (rf_ob y b fu) else if a = y + 1 then some (od_ia 7360 (rf_fl b.2.2.2 ρ)) else if a = y + 2 then some (od_ia 113 (rf_ln ρ)) else M.2.2 a)
section MD
variable {M : od_M} {y : Nat} {b : rf_B} {fu : Bool} {ρ : od_Rm}
theorem md_0 : (md M y b fu ρ).2.2 y = some (rf_ob y b fu) := if_pos rfl
theorem md_1 : (md M y b fu ρ).2.2 (y + 1) = some (od_ia 7360 (rf_fl b.2.2.2 ρ)) := by
  show (if y + 1 = y then _ else if y + 1 = y + 1 then _ else _) = _
  rw [if_neg (by omega), if_pos rfl]
theorem md_2 : (md M y b fu ρ).2.2 (y + 2) = some (od_ia 113 (rf_ln ρ)) := by
  show (if y + 2 = y then _ else if y + 2 = y + 1 then _ else if y + 2 = y + 2 then _ else _) = _
  rw [if_neg (by omega), if_neg (by omega), if_pos rfl]
theorem md_o {a : Nat} (h0 : a ≠ y) (h1 : a ≠ y + 1) (h2 : a ≠ y + 2) : (md M y b fu ρ).2.2 a = M.2.2 a := by
  show (if a = y then _ else if a = y + 1 then _ else if a = y + 2 then _ else _) = _
  rw [if_neg h0, if_neg h1, if_neg h2]
theorem md_ob {b' : rf_B} {fu' : Bool} (hg : b'.2.2.2 = b.2.2.2) : od_set (md M y b fu ρ) y (rf_ob y b' fu') = md M y b' fu' ρ := by
  refine od_Meq rfl rfl (fun a => ?_)
  show va_up (md M y b fu ρ).2.2 y _ a = (if a = y then _ else _)
  by_cases h : a = y
  · subst h; rw [va_up_self, if_pos rfl]
  · rw [va_up_ne _ _ h, if_neg h]
    show (if a = y then _ else if a = y + 1 then some (od_ia 7360 (rf_fl b.2.2.2 ρ)) else _) = (if a = y + 1 then some (od_ia 7360 (rf_fl b'.2.2.2 ρ)) else _)
    rw [if_neg h, hg]
theorem md_cells {ρ' : od_Rm} (h2 : rf_ln ρ' = rf_ln ρ) : od_set (md M y b fu ρ) (y + 1) (od_ia 7360 (rf_fl b.2.2.2 ρ')) = md M y b fu ρ' := by
  refine od_Meq rfl rfl (fun a => ?_)
  show va_up (md M y b fu ρ).2.2 (y + 1) _ a = (if a = y then _ else if a = y + 1 then _ else if a = y + 2 then some (od_ia 113 (rf_ln ρ')) else _)
  by_cases h : a = y + 1
  · subst h; rw [va_up_self, if_neg (by omega), if_pos rfl]
  · rw [va_up_ne _ _ h, if_neg h, h2]
    show (if a = y then _ else if a = y + 1 then _ else _) = _
    rw [if_neg h]
theorem md_lens {ρ' : od_Rm} (h2 : rf_fl b.2.2.2 ρ' = rf_fl b.2.2.2 ρ) : od_set (md M y b fu ρ) (y + 2) (od_ia 113 (rf_ln ρ')) = md M y b fu ρ' := by
  refine od_Meq rfl rfl (fun a => ?_)
  show va_up (md M y b fu ρ).2.2 (y + 2) _ a = (if a = y then _ else if a = y + 1 then some (od_ia 7360 (rf_fl b.2.2.2 ρ')) else if a = y + 2 then _ else _)
  by_cases h : a = y + 2
  · subst h; rw [va_up_self, if_neg (by omega), if_neg (by omega), if_pos rfl]
  · rw [va_up_ne _ _ h, if_neg h, h2]
    show (if a = y then _ else if a = y + 1 then _ else if a = y + 2 then _ else _) = _
    rw [if_neg h]
theorem rf_fl_at {g : Nat → Int32} (ρ : od_Rm) {r k : Nat} (h : k < 60) : rf_fl g ρ (64 * r + k) = (ρ r).2 k := by
  unfold rf_fl
  rw [show (64 * r + k) / 64 = r by omega, show (64 * r + k) % 64 = k by omega, if_pos h]
theorem rf_set_cell {g : Nat → Int32} {r k : Nat} {v : Int32} (hk : k < 60) : upd (rf_fl g ρ) (64 * r + k) v = rf_fl g (od_rs ρ r ((ρ r).1, upd (ρ r).2 k v)) := by
  funext a
  show (if a = 64 * r + k then v else rf_fl g ρ a) = (if a % 64 < 60 then (od_rs ρ r _ (a / 64)).2 (a % 64) else g a)
  by_cases h : a / 64 = r
  · rw [h, od_rs_r]
    by_cases h2 : a % 64 = k
    · rw [if_pos (by omega), if_pos (by omega)]
      exact (if_pos h2).symm
    · rw [if_neg (by omega)]
      unfold rf_fl
      rw [h]
      dsimp only
      rw [show (upd (ρ r).2 k v) (a % 64) = (ρ r).2 (a % 64) from if_neg h2]
  · rw [od_rs_o h, if_neg (by omega)]
    rfl
theorem rf_ln_cell {r : Nat} {f : Nat → Int32} : rf_ln (od_rs ρ r ((ρ r).1, f)) = rf_ln ρ := by
  funext a
  unfold rf_ln
  by_cases h : a = r
  · subst h; rw [od_rs_r]
  · rw [od_rs_o h]
theorem rf_set_len {r v : Nat} : upd (rf_ln ρ) r (nI v) = rf_ln (od_rs ρ r (v, (ρ r).2)) := by
  funext a
  show (if a = r then nI v else rf_ln ρ a) = nI (od_rs ρ r (v, (ρ r).2) a).1
  by_cases h : a = r
  · rw [if_pos h, h, od_rs_r]
  · rw [if_neg h, od_rs_o h]
    rfl
theorem rf_fl_len {g : Nat → Int32} {r v : Nat} : rf_fl g (od_rs ρ r (v, (ρ r).2)) = rf_fl g ρ := by
  funext a
  unfold rf_fl
  by_cases h : a / 64 = r
  · rw [h, od_rs_r]
  · rw [od_rs_o h]
theorem od_Bd.set (h : od_Bd ρ) {r : Nat} {v : Nat × (Nat → Int32)} (hv : v.1 ≤ 60) : od_Bd (od_rs ρ r v) := by
  intro q
  by_cases e : q = r
  · subst e; rw [od_rs_r]; exact hv
  · rw [od_rs_o e]; exact h q
/-- what a call of the reference comes to: the flag stays down just where it was down and ok holds; then P -/
def rf_s (M : od_M) (y : Nat) (b : rf_B) (fu : Bool) (ρ : od_Rm) (U : List Nat) (ok : Prop) (P : od_Rm → Prop) : od_O → od_M → Prop := fun o M' => o = .inl none ∧ ∃ fu' ρ', M' = md M y b fu' ρ' ∧ (∀ q, q ∉ U → ρ' q = ρ q) ∧ od_Bd ρ' ∧ (fu' = false ↔ (fu = false ∧ ok)) ∧ (fu' = false → P ρ')
theorem rf_s.mono {U U' : List Nat} {ok ok' : Prop} {P P' : od_Rm → Prop} {o : od_O} {M' : od_M} (h : rf_s M y b fu ρ U ok P o M') (hU : ∀ q, q ∈ U → q ∈ U') (hok : fu = false → (ok ↔ ok')) (hP : ∀ ρ', fu = false → ok → (∀ q, q ∉ U → ρ' q = ρ q) → P ρ' → P' ρ') : rf_s M y b fu ρ U' ok' P' o M' := by
  obtain ⟨h1, fu', ρ', h2, h3, h4, h5, h6⟩ := h
  refine ⟨h1, fu', ρ', h2, fun q hq => h3 q (fun z => hq (hU q z)), h4, ?_, fun z => hP ρ' (h5.mp z).1 (h5.mp z).2 h3 (h6 z)⟩
  rw [h5]
  exact ⟨fun z => ⟨z.1, (hok z.1).mp z.2⟩, fun z => ⟨z.1, (hok z.1).mpr z.2⟩⟩
theorem rf_ix (r k : Nat) : (Int8.ofInt 64).toInt32 * nI r + nI k = nI (64 * r + k) := by
  rw [show (Int8.ofInt 64).toInt32 * nI r = nI (64 * r) from nI_mulN 64 r]
  exact nI_add _ _
theorem rf_ix1 (r k : Nat) (h : 1 ≤ 64 * r + k) : (Int8.ofInt 64).toInt32 * nI r + nI k - 1 = nI (64 * r + k - 1) := by
  rw [rf_ix]
  exact nI_subI (a := 1) h
theorem rt_clear (hb : od_Bd ρ) {r : Nat} (hr : r < 113) : od_W 0 87 0 (od_ent 87 [.ref y, .int (nI r)]) [] (md M y b fu ρ) (rf_s M y b fu ρ [r] True (fun ρ' => od_hl ρ' r [])) := by
  have e0 : od_ent 87 [.ref y, .int (nI r)] = [some (.ref y), some (.int (nI r))] := rfl
  rw [e0]
  refine od_W.rn (pc' := 1) (ls' := [some (.ref _), some (.int _)]) (st' := [.ref _]) 1 rfl ?_
  refine od_rG rfl (md_0) rfl rfl ?_
  refine od_W.rn (pc' := 6) (ls' := [some (.ref _), some (.int _)]) (st' := [.int _, .int _, .ref _]) 2 rfl ?_
  refine od_rIS rfl (md_2) (rfl) (hr) (by decide) ?_
  rw [show upd (rf_ln ρ) r (Int32.ofInt 0) = rf_ln (od_rs ρ r (0, (ρ r).2)) from rf_set_len (v := 0), md_lens rf_fl_len]
  refine od_W.fin rfl ?_
  refine ⟨rfl, fu, _, rfl, fun q hq => od_rs_o (fun z => hq (by rw [z]; exact List.mem_singleton.mpr rfl)), hb.set (by dsimp only; omega), ⟨fun z => ⟨z, trivial⟩, fun z => z.1⟩, fun _ => ?_⟩
  refine ⟨?_, fun x hx => (List.not_mem_nil hx).elim⟩
  rw [od_rs_r]
  exact ⟨rfl, tm_at_nil _ _⟩
theorem ct_append {r : Nat} {v : Int32} (hb : od_Bd ρ) (hr : r < 113) : od_W 0 88 0 (od_ent 88 [.ref y, .int (nI r), .int v]) [] (md M y b fu ρ) (fun o M' => o = .inl none ∧ M' = if (ρ r).1 = 60 then md M y b true ρ else md M y b fu (od_rs ρ r ((ρ r).1 + 1, upd (ρ r).2 (ρ r).1 v))) := by
  have e0 : od_ent 88 [.ref y, .int (nI r), .int v] = [some (.ref y), some (.int (nI r)), some (.int v)] := rfl
  rw [e0]
  have h60 := hb r
  refine od_W.rn (pc' := 1) (ls' := [some (.ref _), some (.int _), some (.int _)]) (st' := [.ref _]) 1 rfl ?_
  refine od_rG rfl (md_0) rfl rfl ?_
  refine od_W.rn (pc' := 5) (ls' := [some (.ref _), some (.int _), some (.int _)]) (st' := [.int _, .ref _]) 1 rfl ?_
  refine od_rIL rfl (md_2) (rfl) (hr) (by decide) ?_
  refine od_W.rn (pc' := 8) (ls' := [some (.ref _), some (.int _), some (.int _)]) (st' := [.int _, .int _]) 1 rfl ?_
  by_cases h : (ρ r).1 = 60
  · rw [if_pos h]
    refine od_r2F rfl (of_decide_eq_true rfl) ((show (!decide (rf_ln ρ r = nI 60)) = false by rw [decide_eq_true (show rf_ln ρ r = nI 60 from congrArg nI h)]; rfl)) ?_
    refine od_W.rn (pc' := 13) (ls' := [some (.ref _), some (.int _), some (.int _)]) (st' := [.int _, .ref _]) 2 rfl ?_
    refine od_rP rfl (md_0) rfl (by simp) rfl (by decide) ?_
    rw [show od_set (md M y b fu ρ) y (od_ob 8 (List.set _ 3 (.int (Int32.ofInt 1)))) = md M y b true ρ from md_ob (b' := b) (fu' := true) rfl]
    refine od_W.rn (pc' := 46) (ls' := [some (.ref _), some (.int _), some (.int _)]) (st' := []) 1 rfl ?_
    refine od_W.fin rfl ?_
    exact ⟨rfl, rfl⟩
  · rw [if_neg h]
    refine od_r2T rfl rfl ((show (!decide (rf_ln ρ r = nI 60)) = true by rw [show rf_ln ρ r = nI (ρ r).1 from rfl, decide_eq_false (fun z => h ((nI_eq (by omega) (by omega)).mp z))]; rfl)) ?_
    refine od_W.rn (pc' := 20) (ls' := [some (.ref _), some (.int _), some (.int _)]) (st' := [.ref _]) 1 rfl ?_
    refine od_rG rfl (md_0) rfl rfl ?_
    refine od_W.rn (pc' := 28) (ls' := [some (.ref _), some (.int _), some (.int _)]) (st' := [.ref _, .int _, .ref _]) 4 rfl ?_
    refine od_rG rfl (md_0) rfl rfl ?_
    refine od_W.rn (pc' := 32) (ls' := [some (.ref _), some (.int _), some (.int _)]) (st' := [.int _, .ref _, .int _, .ref _]) 1 rfl ?_
    refine od_rIL rfl (md_2) (rfl) (hr) (by decide) ?_
    refine od_W.rn (pc' := 35) (ls' := [some (.ref _), some (.int _), some (.int _)]) (st' := [.int _, .int _, .ref _]) 2 rfl ?_
    refine od_rIS rfl (md_1) (rf_ix r (ρ r).1) (by omega) (by decide) ?_
    rw [rf_set_cell (by omega), md_cells rf_ln_cell]
    refine od_W.rn (pc' := 37) (ls' := [some (.ref _), some (.int _), some (.int _)]) (st' := [.ref _]) 1 rfl ?_
    refine od_rG rfl (md_0) rfl rfl ?_
    refine od_W.rn (pc' := 42) (ls' := [some (.ref _), some (.int _), some (.int _)]) (st' := [.int _, .ref _, .int _, .ref _]) 2 rfl ?_
    refine od_rIL rfl (md_2) (rfl) (hr) (by decide) ?_
    refine od_W.rn (pc' := 45) (ls' := [some (.ref _), some (.int _), some (.int _)]) (st' := [.int _, .int _, .ref _]) 2 rfl ?_
    rw [rf_ln_cell, show rf_ln ρ r + Int32.ofInt 1 = nI ((ρ r).1 + 1) from nI_inc _]
    refine od_rIS rfl (md_2) (rfl) (hr) (by decide) ?_
    rw [rf_ln_cell, show upd (rf_ln ρ) r (nI ((ρ r).1 + 1)) = rf_ln (od_rs (od_rs ρ r ((ρ r).1, upd (ρ r).2 (ρ r).1 v)) r ((ρ r).1 + 1, (od_rs ρ r ((ρ r).1, upd (ρ r).2 (ρ r).1 v) r).2)) by rw [← rf_set_len, rf_ln_cell], md_lens rf_fl_len]
    refine od_W.fin rfl ?_
    refine ⟨rfl, ?_⟩
    congr 1
    funext q
    by_cases e : q = r
    · subst e; rw [od_rs_r, od_rs_r, od_rs_r]
    · rw [od_rs_o e, od_rs_o e, od_rs_o e]
end MD
