/-! Puts that fit, whatever the flag says; slots of the reference. -/
def rf_x (M : od_M) (y : Nat) (b : rf_B) (fu : Bool) (ρ : od_Rm) (U : List Nat) (P : od_Rm → Prop) : od_O → od_M → Prop := fun o M' => o = .inl none ∧ ∃ ρ', M' = md M y b fu ρ' ∧ (∀ q, q ∉ U → ρ' q = ρ q) ∧ od_Bd ρ' ∧ P ρ'
section RX
variable {M : od_M} {y : Nat} {b : rf_B} {fu : Bool} {ρ : od_Rm}
theorem ex_append {r c : Nat} {xs : List Nat} (hb : od_Bd ρ) (hr : r < 113) (hx : od_hl ρ r xs) (hl : xs.length < 60) (hc : c ≤ 1000000) : od_W 0 88 0 (od_ent 88 [.ref y, .int (nI r), .int (nI c)]) [] (md M y b fu ρ) (rf_x M y b fu ρ [r] (fun ρ' => od_hl ρ' r (xs ++ [c]))) := by
  refine (ct_append hb hr).mono fun o M' h => ?_
  have h60 := hb r
  have hn := hx.n
  obtain ⟨h1, h2⟩ := h
  rw [if_neg (by omega)] at h2
  refine ⟨h1, _, h2, fun q hq => od_rs_o (fun z => hq (by rw [z]; exact List.mem_singleton.mpr rfl)), hb.set (by dsimp only; omega), ?_, tm_sm_app.mpr ⟨hx.2, tm_sm_one.mpr hc⟩⟩
  rw [od_rs_r]
  refine ⟨by rw [List.length_append, hn]; rfl, ?_⟩
  rw [hn, ← od_ap_one]
  exact od_ap_at (ws := [c]) hx.at
theorem cl_ex_ap {r x j : Nat} (hr : r < 113) (hx : x < 113) (hne : x ≠ r) (hj : j ≤ 60) : ∀ (w : List Nat) (k : Nat) (ρ ρ0 : od_Rm) (xs : List Nat), k + w.length = j → xs.length + w.length ≤ 60 → od_Bd ρ → (∀ q, q ∉ [r] → ρ q = ρ0 q) → tm_at (ρ x).2 k w → tm_sm w → od_hl ρ r xs → ∀ w3 : Int32, od_W 1 89 3 [some (.ref y), some (.int (nI r)), some (.int (nI x)), some (.int w3), some (.int (nI j)), some (.int (nI k))] [] (md M y b fu ρ) (rf_x M y b fu ρ0 [r] (fun ρ' => od_hl ρ' r (xs ++ w))) := by
  intro w
  induction w with
  | nil =>
    intro k ρ ρ0 xs hk hl hb g hat hsm hx w3
    simp at hk
    rw [List.append_nil]
    refine od_W.rn (pc' := 7) (ls' := [some (.ref _), some (.int _), some (.int _), some (.int _), some (.int _), some (.int _)]) (st' := [.int _, .int _]) 2 rfl ?_
    refine od_r2T rfl rfl (decide_eq_true (nI_le (by omega) (by omega))) ?_
    refine od_W.fin rfl ?_
    exact ⟨rfl, ρ, rfl, g, hb, hx⟩
  | cons c w ih =>
    intro k ρ ρ0 xs hk hl hb g hat hsm hx1 w3
    simp at hk hl
    rw [tm_at_cons] at hat
    rw [tm_sm_cons] at hsm
    refine od_W.rn (pc' := 7) (ls' := [some (.ref _), some (.int _), some (.int _), some (.int _), some (.int _), some (.int _)]) (st' := [.int _, .int _]) 2 rfl ?_
    refine od_r2F rfl (of_decide_eq_true rfl) (decide_eq_false (nI_ge (by omega) (by omega))) ?_
    refine od_W.rn (pc' := 13) (ls' := [some (.ref _), some (.int _), some (.int _), some (.int _), some (.int _), some (.int _)]) (st' := [.ref _, .int _, .ref _]) 3 rfl ?_
    refine od_rG rfl (md_0) rfl rfl ?_
    refine od_W.rn (pc' := 23) (ls' := [some (.ref _), some (.int _), some (.int _), some (.int _), some (.int _), some (.int _)]) (st' := [.int _, .ref _, .int _, .ref _]) 5 rfl ?_
    refine od_rIL rfl (md_1) (rf_ix x k) (by omega) (by decide) ?_
    rw [rf_fl_at ρ (by omega), hat.1]
    refine od_rV (as := [.int (nI r), .int (nI c)]) rfl rfl rfl rfl (md_0) rfl (Nat.le_of_ble_eq_true rfl) (Nat.le_of_ble_eq_true rfl) (ex_append hb hr hx1 (by omega) hsm.1) (Nat.le_of_ble_eq_true rfl) (fun o M1 hq => ?_)
    obtain ⟨rfl, ρ1, rfl, f1, b1, p1⟩ := hq
    refine od_K.ret ?_
    refine od_W.rn (pc' := 3) (ls' := [some (.ref _), some (.int _), some (.int _), some (.int _), some (.int _), some (.int _)]) (st' := []) 2 rfl ?_
    rw [nI_inc k, show xs ++ c :: w = (xs ++ [c]) ++ w by simp]
    exact ih (k + 1) ρ1 ρ0 (xs ++ [c]) (by omega) (by simp; omega) b1 (fun q hq => (f1 q hq).trans (g q hq)) (by rw [f1 x (od_n1 hne)]; exact hat.2) hsm.2 p1 w3
theorem ex_clear (hb : od_Bd ρ) {r : Nat} (hr : r < 113) : od_W 0 87 0 (od_ent 87 [.ref y, .int (nI r)]) [] (md M y b fu ρ) (rf_x M y b fu ρ [r] (fun ρ' => od_hl ρ' r [])) := by
  refine (ct_clr hr).mono fun o M' h => ⟨h.1, _, h.2, fun q hq => od_rs_o (fun z => hq (by rw [z]; exact List.mem_singleton.mpr rfl)), hb.set (by dsimp only; omega), ?_, fun x hx => (List.not_mem_nil hx).elim⟩
  rw [od_rs_r]
  exact ⟨rfl, tm_at_nil _ _⟩
theorem ex_copy {r x : Nat} {ys : List Nat} (hb : od_Bd ρ) (hr : r < 113) (hx : x < 113) (hne : x ≠ r) (hy : od_hl ρ x ys) : od_W 2 91 0 (od_ent 91 [.ref y, .int (nI x), .int (nI r)]) [] (md M y b fu ρ) (rf_x M y b fu ρ [r] (fun ρ' => od_hl ρ' r ys)) := by
  have e0 : od_ent 91 [.ref y, .int (nI x), .int (nI r)] = [some (.ref y), some (.int (nI x)), some (.int (nI r))] := rfl
  rw [e0]
  have h60 := hy.le hb
  refine od_W.rn (pc' := 2) (ls' := [some (.ref _), some (.int _), some (.int _)]) (st' := [.int _, .ref _]) 2 rfl ?_
  refine od_rV (as := [.int (nI r)]) rfl rfl rfl rfl (md_0) rfl (Nat.le_of_ble_eq_true rfl) (Nat.le_of_ble_eq_true rfl) (ex_clear hb hr) (Nat.le_of_ble_eq_true rfl) (fun o M1 hq => ?_)
  obtain ⟨rfl, ρ1, rfl, f1, b1, p1⟩ := hq
  refine od_K.ret ?_
  have hy1 := hy.fr (f1 x (od_n1 hne))
  refine od_W.rn (pc' := 10) (ls' := [some (.ref _), some (.int _), some (.int _)]) (st' := [.ref _, .int _, .int _, .int _, .ref _]) 5 rfl ?_
  refine od_rG rfl (md_0) rfl rfl ?_
  refine od_W.rn (pc' := 14) (ls' := [some (.ref _), some (.int _), some (.int _)]) (st' := [.int _, .ref _, .int _, .int _, .int _, .ref _]) 1 rfl ?_
  refine od_rIL rfl (md_2) (rfl) (hx) (by decide) ?_
  rw [rf_row, hy1.n]
  have e1 : od_ent 89 [.ref y, .int (nI r), .int (nI x), .int (nI 0), .int (nI ys.length)] = [some (.ref y), some (.int (nI r)), some (.int (nI x)), some (.int (nI 0)), some (.int (nI ys.length)), none] := rfl
  have hc : od_W 1 89 0 (od_ent 89 [.ref y, .int (nI r), .int (nI x), .int (nI 0), .int (nI ys.length)]) [] (md M y b fu ρ1) (rf_x M y b fu ρ1 [r] (fun ρ' => od_hl ρ' r ([] ++ ys))) := by
    rw [e1]
    refine od_W.rn (pc' := 3) (ls' := [some (.ref _), some (.int _), some (.int _), some (.int _), some (.int _), some (.int _)]) (st' := []) 2 rfl ?_
    exact cl_ex_ap hr hx hne h60 ys 0 ρ1 ρ1 [] (by omega) (by simp; omega) b1 (fun _ _ => rfl) hy1.at hy1.2 p1 _
  refine od_rV (as := [.int (nI r), .int (nI x), .int (nI 0), .int (nI ys.length)]) rfl rfl rfl rfl (md_0) rfl (Nat.le_of_ble_eq_true rfl) (Nat.le_of_ble_eq_true rfl) (hc) (Nat.le_of_ble_eq_true rfl) (fun o M1 hq => ?_)
  obtain ⟨rfl, ρ2, rfl, f2, b2, p2⟩ := hq
  refine od_K.ret ?_
  refine od_W.fin rfl ?_
  exact ⟨rfl, ρ2, rfl, fun q hq => (f2 q hq).trans (f1 q hq), b2, p2⟩
theorem ex_lay {r n : Nat} (hb : od_Bd ρ) (hr : r < 113) (hn : n ≤ 1000000) : od_W 1 100 0 (od_ent 100 [.ref y, .int (nI r), .int (nI n)]) [] (md M y b fu ρ) (rf_x M y b fu ρ [r] (fun ρ' => od_hl ρ' r (tm_num n))) := by
  have e0 : od_ent 100 [.ref y, .int (nI r), .int (nI n)] = [some (.ref y), some (.int (nI r)), some (.int (nI n))] := rfl
  rw [e0]
  unfold tm_num
  refine od_W.rn (pc' := 2) (ls' := [some (.ref _), some (.int _), some (.int _)]) (st' := [.int _, .ref _]) 2 rfl ?_
  refine od_rV (as := [.int (nI r)]) rfl rfl rfl rfl (md_0) rfl (Nat.le_of_ble_eq_true rfl) (Nat.le_of_ble_eq_true rfl) (ex_clear hb hr) (Nat.le_of_ble_eq_true rfl) (fun o M1 hq => ?_)
  obtain ⟨rfl, ρ1, rfl, f1, b1, p1⟩ := hq
  refine od_K.ret ?_
  refine od_W.rn (pc' := 6) (ls' := [some (.ref _), some (.int _), some (.int _)]) (st' := [.int _]) 1 rfl ?_
  by_cases h : n = 0
  · rw [if_pos h]
    refine od_r1T rfl rfl (decide_eq_true (by rw [h]; exact Int32.le_refl _)) ?_
    refine od_W.fin rfl ?_
    exact ⟨rfl, ρ1, rfl, f1, b1, p1⟩
  · rw [if_neg h]
    refine od_r1F rfl (of_decide_eq_true rfl) (decide_eq_false (nI_ge (a := 0) (by omega) (by omega))) ?_
    refine od_W.rn (pc' := 12) (ls' := [some (.ref _), some (.int _), some (.int _)]) (st' := [.int _, .int _, .ref _]) 3 rfl ?_
    refine od_rV (as := [.int (nI r), .int (nI 1)]) rfl rfl rfl rfl (md_0) rfl (Nat.le_of_ble_eq_true rfl) (Nat.le_of_ble_eq_true rfl) (ex_append b1 hr p1 (by simp) (by omega)) (Nat.le_of_ble_eq_true rfl) (fun o M1 hq => ?_)
    obtain ⟨rfl, ρ2, rfl, f2, b2, p2⟩ := hq
    refine od_K.ret ?_
    refine od_W.rn (pc' := 18) (ls' := [some (.ref _), some (.int _), some (.int _)]) (st' := [.int _, .int _, .ref _]) 3 rfl ?_
    refine od_rV (as := [.int (nI r), .int (nI 0)]) rfl rfl rfl rfl (md_0) rfl (Nat.le_of_ble_eq_true rfl) (Nat.le_of_ble_eq_true rfl) (ex_append b2 hr p2 (by simp) (by omega)) (Nat.le_of_ble_eq_true rfl) (fun o M1 hq => ?_)
    obtain ⟨rfl, ρ3, rfl, f3, b3, p3⟩ := hq
    refine od_K.ret ?_
    refine od_W.rn (pc' := 24) (ls' := [some (.ref _), some (.int _), some (.int _)]) (st' := [.int _, .int _, .ref _]) 3 rfl ?_
    refine od_rV (as := [.int (nI r), .int (nI n)]) rfl rfl rfl rfl (md_0) rfl (Nat.le_of_ble_eq_true rfl) (Nat.le_of_ble_eq_true rfl) (ex_append b3 hr p3 (by simp) hn) (Nat.le_of_ble_eq_true rfl) (fun o M1 hq => ?_)
    obtain ⟨rfl, ρ4, rfl, f4, b4, p4⟩ := hq
    refine od_K.ret ?_
    refine od_W.fin rfl ?_
    exact ⟨rfl, ρ4, rfl, fun q hq => (f4 q hq).trans ((f3 q hq).trans ((f2 q hq).trans (f1 q hq))), b4, p4⟩
theorem ct_noSlot {Ms : od_M} (a : Int32) : od_W 0 113 0 (od_ent 113 [.int a]) [] Ms (fun o M' => o = .inl (some (.int (if (sl 8 a).isSome then 0 else 1))) ∧ M' = Ms) := by
  have e0 : od_ent 113 [.int a] = [some (.int a)] := rfl
  rw [e0]
  refine od_W.rn (pc' := 1) (ls' := [some (.int _)]) (st' := [.int _]) 1 rfl ?_
  rcases sl_is (m := 8) (by omega) a with ⟨e1, e2⟩ | ⟨i, hi, rfl, e1⟩
  · rw [e1]
    by_cases h : a < 0
    · refine od_r1T rfl rfl (decide_eq_true h) ?_
      refine od_W.rn (pc' := 15) (ls' := [some (.int _)]) (st' := [.int _]) 2 rfl ?_
      refine od_W.fin rfl ?_
      exact ⟨rfl, rfl⟩
    · have h8 : nI 8 ≤ a := e2.elim (fun z => absurd z h) (fun z => z)
      refine od_r1F rfl (of_decide_eq_true rfl) (decide_eq_false h) ?_
      refine od_W.rn (pc' := 7) (ls' := [some (.int _)]) (st' := [.int _, .int _]) 2 rfl ?_
      refine od_r2F rfl (of_decide_eq_true rfl) (decide_eq_false (fun z => absurd (Int32.lt_of_lt_of_le (Int32.lt_of_le_of_lt z (show (7 : Int32) < nI 8 by decide)) h8) Int32.lt_irrefl)) ?_
      refine od_W.rn (pc' := 15) (ls' := [some (.int _)]) (st' := [.int _]) 2 rfl ?_
      refine od_W.fin rfl ?_
      exact ⟨rfl, rfl⟩
  · rw [e1]
    refine od_r1F rfl (of_decide_eq_true rfl) (decide_eq_false (nI_pos (by omega))) ?_
    refine od_W.rn (pc' := 7) (ls' := [some (.int _)]) (st' := [.int _, .int _]) 2 rfl ?_
    refine od_r2T rfl rfl (decide_eq_true (nI_le (b := 7) (by omega) (by omega))) ?_
    refine od_W.rn (pc' := 15) (ls' := [some (.int _)]) (st' := [.int _]) 1 rfl ?_
    refine od_W.fin rfl ?_
    exact ⟨rfl, rfl⟩
/-- code, records, pile and what lies behind the rows, set anew -/
theorem md_code {c : Int32} : od_set (md M y b fu ρ) y (od_ob 8 [.int c, .ref (y + 1), .ref (y + 2), .int (if fu = true then 1 else 0), .int b.2.1, .int b.2.2.1, .ref (y + 3), .ref (y + 4), .ref (y + 5), .ref (y + 6), .ref (y + 7)]) = md M y (c, b.2) fu ρ := md_ob (b' := (c, b.2)) (fu' := fu) rfl
theorem rt_settle {t : Nat} {xs : List Nat} (ht : t < 8) (hb : od_Bd ρ) (hx : fu = false → od_hl ρ 89 xs) : od_W 3 114 0 (od_ent 114 [.ref y, .int (nI t)]) [] (md M y b fu ρ) (fun o M' => ∃ ρ', od_Bd ρ' ∧ ((fu = true ∧ o = .inl (some (.int 0)) ∧ M' = md M y (nI 3, b.2) true ρ' ∧ ρ' = ρ) ∨ (fu = false ∧ o = .inl (some (.int (nI (xs.length / 3)))) ∧ M' = md M y (nI 0, b.2) false ρ' ∧ (∀ q, q ∉ [t] → ρ' q = ρ q) ∧ od_hl ρ' t xs))) := by
  have e0 : od_ent 114 [.ref y, .int (nI t)] = [some (.ref y), some (.int (nI t))] := rfl
  rw [e0]
  refine od_W.rn (pc' := 2) (ls' := [some (.ref _), some (.int _)]) (st' := [.ref _, .ref _]) 2 rfl ?_
  refine od_rG rfl (md_0) rfl rfl ?_
  cases fu with
  | true =>
    refine od_r1F rfl (of_decide_eq_true rfl) (rfl) ?_
    refine od_W.rn (pc' := 13) (ls' := [some (.ref _), some (.int _)]) (st' := [.int _, .ref _]) 2 rfl ?_
    refine od_rP rfl (md_0) rfl (by simp) rfl (by decide) ?_
    rw [show od_set (md M y b true ρ) y (od_ob 8 (List.set _ 0 (.int (Int32.ofInt 3)))) = md M y (nI 3, b.2) true ρ from md_code]
    refine od_W.rn (pc' := 17) (ls' := [some (.ref _), some (.int _)]) (st' := [.ref _]) 1 rfl ?_
    refine od_rG rfl (md_0) rfl rfl ?_
    refine od_r1F rfl (of_decide_eq_true rfl) (rfl) ?_
    refine od_W.rn (pc' := 24) (ls' := [some (.ref _), some (.int _)]) (st' := [.int _]) 1 rfl ?_
    refine od_W.fin rfl ?_
    exact ⟨ρ, hb, Or.inl ⟨rfl, rfl, rfl, rfl⟩⟩
  | false =>
    have hx1 := hx rfl
    have h60 := hx1.le hb
    refine od_r1T rfl rfl (rfl) ?_
    refine od_W.rn (pc' := 13) (ls' := [some (.ref _), some (.int _)]) (st' := [.int _, .ref _]) 1 rfl ?_
    refine od_rP rfl (md_0) rfl (by simp) rfl (by decide) ?_
    rw [show od_set (md M y b false ρ) y (od_ob 8 (List.set _ 0 (.int (Int32.ofInt 0)))) = md M y (nI 0, b.2) false ρ from md_code]
    refine od_W.rn (pc' := 17) (ls' := [some (.ref _), some (.int _)]) (st' := [.ref _]) 1 rfl ?_
    refine od_rG rfl (md_0) rfl rfl ?_
    refine od_r1T rfl rfl (rfl) ?_
    refine od_W.rn (pc' := 29) (ls' := [some (.ref _), some (.int _)]) (st' := [.int _, .int _, .ref _]) 3 rfl ?_
    refine od_rV (as := [.int (nI 89), .int (nI t)]) rfl rfl rfl rfl (md_0) rfl (Nat.le_of_ble_eq_true rfl) (Nat.le_of_ble_eq_true rfl) (ex_copy hb (by omega) (by omega) (by omega) hx1) (Nat.le_of_ble_eq_true rfl) (fun o M1 hq => ?_)
    obtain ⟨rfl, ρ1, rfl, f1, b1, p1⟩ := hq
    refine od_K.ret ?_
    refine od_W.rn (pc' := 33) (ls' := [some (.ref _), some (.int _)]) (st' := [.ref _]) 1 rfl ?_
    refine od_rG rfl (md_0) rfl rfl ?_
    refine od_W.rn (pc' := 37) (ls' := [some (.ref _), some (.int _)]) (st' := [.int _, .ref _]) 1 rfl ?_
    refine od_rIL rfl (md_2) (rfl) (by omega) (by decide) ?_
    rw [rf_row, p1.n]
    refine od_W.rn (pc' := 39) (ls' := [some (.ref _), some (.int _)]) (st' := [.int _, .int _]) 1 rfl ?_
    refine od_rDidiv rfl (rfl) ((show Int32.ofInt 3 = nI 3 from rfl)) ((by omega)) ((by omega)) ((by omega)) ?_
    refine od_W.fin rfl ?_
    exact ⟨ρ1, b1, Or.inr ⟨rfl, rfl, rfl, f1, p1⟩⟩
end RX
