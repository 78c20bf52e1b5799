/-! The desk: where its rows lie, its slots, its checks. -/
def dk_L : List Nat := [3, 5, 8, 10, 12, 14, 16, 18, 20, 22, 24, 26, 28, 30, 32, 35, 37, 39, 41, 43, 46, 48, 53, 55, 60, 62, 64, 66, 68, 70, 72, 74, 76, 78, 80, 82, 84, 88, 90, 92, 94, 96, 98, 100, 102, 104, 106, 108, 110, 112, 114, 116, 118, 120, 122, 124, 126]
def dk_S (D a : Nat) : Bool := decide (D ≤ a) && dk_L.contains (a - D)
theorem dk_S_k (D k : Nat) : dk_S D (D + k) = dk_L.contains k := by
  unfold dk_S
  rw [decide_eq_true (Nat.le_add_right D k), Nat.add_sub_cancel_left, Bool.true_and]
theorem dk_S_y (D : Nat) {k : Nat} (h : dk_L.contains k = true) : dk_S D (D + k) = true := (dk_S_k D k).trans h
theorem dk_S_lt {D a : Nat} (h : a < D) : dk_S D a = false := by unfold dk_S; rw [decide_eq_false (by omega), Bool.false_and]
theorem dk_no (D : Nat) {k : Nat} (h : dk_L.contains k = false) (h' : dk_L.contains (k - 1) = false) : od_no (dk_S D) (D + k) := by
  refine ⟨(dk_S_k D k).trans h, ?_⟩
  cases k with
  | zero =>
    rcases Nat.eq_zero_or_pos D with z | z
    · subst z; exact (dk_S_k 0 0).trans h
    · exact dk_S_lt (by omega)
  | succ k => rw [show D + (k + 1) - 1 = D + k by omega]; exact (dk_S_k D k).trans h'
theorem dk_ss (D : Nat) : od_SS (dk_S D) := by
  intro r hr
  rcases Nat.lt_or_ge r D with z | z
  · rw [dk_S_lt z] at hr; exact absurd hr (by decide)
  · obtain ⟨k, rfl⟩ : ∃ k, r = D + k := ⟨r - D, by omega⟩
    rw [dk_S_k] at hr
    rw [show D + k + 1 = D + (k + 1) by omega, dk_S_k]
    have h1 : ∀ k, k ∈ dk_L → dk_L.contains (k + 1) = false := by decide
    exact h1 k (List.contains_iff_mem.mp hr)
theorem dk_no_hi {D a : Nat} (h : D + 128 ≤ a) : od_no (dk_S D) a := by
  have h1 : ∀ k, k ∈ dk_L → k < 127 := by decide
  have h2 : ∀ b, D + 127 ≤ b → dk_S D b = false := by
    intro b hb
    obtain ⟨k, rfl⟩ : ∃ k, b = D + k := ⟨b - D, by omega⟩
    rw [dk_S_k]
    rcases hc : dk_L.contains k with _ | _
    · rfl
    · have := h1 k (List.contains_iff_mem.mp hc); omega
  exact ⟨h2 a (by omega), h2 (a - 1) (by omega)⟩
theorem dk_sl (D : Nat) {i : Nat} (h : i < 8) : dk_S D (D + 88 + 2 * i) = true := by
  have h1 : ∀ i, i < 8 → dk_L.contains (88 + 2 * i) = true := by decide
  rw [Nat.add_assoc]
  exact dk_S_y D (h1 i h)
theorem dk_rc (D : Nat) {i : Nat} (h : i < 12) : dk_S D (D + 104 + 2 * i) = true := by
  have h1 : ∀ i, i < 12 → dk_L.contains (104 + 2 * i) = true := by decide
  rw [Nat.add_assoc]
  exact dk_S_y D (h1 i h)
theorem dk_ars (D : Nat) : od_ARs (dk_S D) (D + 7) := by
  have h1 : ∀ i, i < 13 → dk_L.contains (8 + 2 * i) = true := by decide
  refine ⟨dk_no D rfl rfl, fun i hi => ?_⟩
  rw [show D + 7 + 1 + 2 * i = D + (8 + 2 * i) by omega]
  exact dk_S_y D (h1 i hi)
theorem dk_dvs (D : Nat) : od_DVs (dk_S D) (D + 34) := by
  have h1 : ∀ i, i < 5 → dk_L.contains (35 + 2 * i) = true := by decide
  refine ⟨dk_no D rfl rfl, fun i hi => ?_⟩
  rw [show D + 34 + 1 + 2 * i = D + (35 + 2 * i) by omega]
  exact dk_S_y D (h1 i hi)
theorem dk_des (D : Nat) : od_DEs (dk_S D) (D + 45) := ⟨dk_no D rfl rfl, dk_S_y D (k := 46) rfl, dk_S_y D (k := 48) rfl⟩
abbrev dk_ob (D n : Nat) : od_E := od_ob 7 [.ref (D + 1), .ref (D + 2), .int (nI n), .ref (D + 3), .ref (D + 5), .ref (D + 7), .ref (D + 34), .ref (D + 45), .ref (D + 50), .ref (D + 57), .ref (D + 86)]
def dk_fx (D : Nat) (M : od_M) (n : Nat) : Prop := M.2.2 D = some (dk_ob D n) ∧ (∃ f, M.2.2 (D + 1) = some (od_ra 8 f) ∧ ∀ i, i < 8 → f i = some (D + 88 + 2 * i)) ∧ (∃ f, M.2.2 (D + 2) = some (od_ra 12 f) ∧ ∀ i, i < 12 → f i = some (D + 104 + 2 * i)) ∧ od_AR M (D + 7) ∧ od_DV M (D + 34) ∧ od_DE M (D + 45) ∧ (∃ hl st en, od_HY M (D + 50) hl ∧ M.2.2 (D + 50 + 1) = some (od_ia 20 st) ∧ M.2.2 (D + 50 + 2) = some (od_ia 20 en)) ∧ pl_fx (dk_S D) M (D + 57) ∧ pl_sh M (D + 57) ∧ od_NU M (D + 86) ∧ (∃ f, M.2.2 (D + 86 + 1) = some (od_la 21 f))
def dk (D : Nat) (M : od_M) (ρ : od_Rm) (n : Nat) (X R : Nat → List Nat) : Prop := dk_fx D M n ∧ od_Bd ρ ∧ (∀ i, i < 8 → od_hl ρ (D + 88 + 2 * i) (X i) ∧ tm_W (X i)) ∧ (∀ i, i < n → od_hl ρ (D + 104 + 2 * i) (R i) ∧ tm_W (R i)) ∧ n ≤ 12
/-- what a call of the desk comes to: a value, or an exception of a kind; the slots and records then -/
def dk_o (D : Nat) (M : od_M) (r : Option Value ⊕ Nat) (n : Nat) (X R : Nat → List Nat) : od_O → od_M → Prop := fun o M2 => ∃ M' ρ', M'.1 = M.1 ∧ M'.2.1 = M.2.1 ∧ (∀ q, q < D ∨ D + 128 ≤ q → M'.2.2 q = M.2.2 q) ∧ dk D M' ρ' n X R ∧ (match r with
  | .inl v => o = .inl v ∧ M2 = od_cm (dk_S D) M' ρ'
  | .inr k => o = .inr (k, M.1) ∧ M2 = od_xm (od_cm (dk_S D) M' ρ') k)
section DESK
variable {D n : Nat} {M : od_M} {ρ : od_Rm} {X R : Nat → List Nat}
theorem dk.thr (h : dk D M ρ n X R) (k : Nat) : dk_o D M (.inr k) n X R (.inr (k, M.1)) (od_xm (od_cm (dk_S D) M ρ) k) := ⟨M, ρ, rfl, rfl, fun _ _ => rfl, h, rfl, rfl⟩
theorem dk.val (h : dk D M ρ n X R) (v : Option Value) : dk_o D M (.inl v) n X R (.inl v) (od_cm (dk_S D) M ρ) := ⟨M, ρ, rfl, rfl, fun _ _ => rfl, h, rfl, rfl⟩
theorem dk.h0 (h : dk D M ρ n X R) : (od_cm (dk_S D) M ρ).2.2 D = some (dk_ob D n) := od_cm_o (dk_no D (k := 0) rfl rfl) h.1.1
/-- the number of a slot, if it is one -/
def sl (m : Nat) (a : Int32) : Option Nat := if a < 0 ∨ nI m ≤ a then none else some a.toNatClampNeg
theorem sl_is {m : Nat} (hm : m < 2 ^ 31) (a : Int32) : (sl m a = none ∧ (a < 0 ∨ nI m ≤ a)) ∨ ∃ i, i < m ∧ a = nI i ∧ sl m a = some i := by
  rcases pk_ix a hm with h | h | ⟨i, hi, h⟩
  · exact Or.inl ⟨if_pos (Or.inl h), Or.inl h⟩
  · exact Or.inl ⟨if_pos (Or.inr h), Or.inr h⟩
  · refine Or.inr ⟨i, hi, h, ?_⟩
    subst h
    unfold sl
    rw [if_neg (fun z => z.elim (nI_pos (by omega)) (nI_ge hi (by omega))), nI_clamp (by omega)]
theorem ct_slot (h : dk D M ρ n X R) {i : Nat} (hi : i < 8) : od_W 0 80 0 (od_ent 80 [.ref D, .int (nI i)]) [] (od_cm (dk_S D) M ρ) (fun o M' => o = .inl (some (.ref (D + 88 + 2 * i))) ∧ M' = od_cm (dk_S D) M ρ) := by
  have e0 : od_ent 80 [.ref D, .int (nI i)] = [some (.ref D), some (.int (nI i))] := rfl
  rw [e0]
  obtain ⟨f, h1, h2⟩ := h.1.2.1
  refine od_W.rn (pc' := 1) (ls' := [some (.ref _), some (.int _)]) (st' := [.int _]) 1 rfl ?_
  refine od_r1F rfl (of_decide_eq_true rfl) (decide_eq_false (nI_pos (by omega))) ?_
  refine od_W.rn (pc' := 7) (ls' := [some (.ref _), some (.int _)]) (st' := [.int _, .int _]) 2 rfl ?_
  refine od_r2T rfl rfl (decide_eq_true (nI_lt (b := 8) hi (by omega))) ?_
  refine od_W.rn (pc' := 21) (ls' := [some (.ref _), some (.int _)]) (st' := [.ref _]) 1 rfl ?_
  refine od_rG rfl (h.h0) rfl rfl ?_
  refine od_W.rn (pc' := 25) (ls' := [some (.ref _), some (.int _)]) (st' := [.int _, .ref _]) 1 rfl ?_
  refine od_rAL rfl (od_cm_o (dk_no D (k := 1) rfl rfl) h1) (rfl) (hi) (by decide) ?_
  rw [h2 i hi]
  refine od_W.fin rfl ?_
  exact ⟨rfl, rfl⟩
theorem ct_slotX {a : Int32} (ha : a < 0 ∨ nI 8 ≤ a) : od_W 0 80 0 (od_ent 80 [.ref D, .int a]) [] M (fun o M' => o = .inr (0, M.1) ∧ M' = od_xm M 0) := by
  have e0 : od_ent 80 [.ref D, .int a] = [some (.ref D), some (.int a)] := rfl
  rw [e0]
  refine od_W.rn (pc' := 1) (ls' := [some (.ref _), some (.int _)]) (st' := [.int _]) 1 rfl ?_
  by_cases h : a < 0
  · refine od_r1T rfl rfl (decide_eq_true h) ?_
    refine od_rX rfl rfl rfl ?_
    exact ⟨rfl, rfl⟩
  · refine od_r1F rfl (of_decide_eq_true rfl) (decide_eq_false h) ?_
    refine od_W.rn (pc' := 7) (ls' := [some (.ref _), some (.int _)]) (st' := [.int _, .int _]) 2 rfl ?_
    refine od_r2F rfl (of_decide_eq_true rfl) (decide_eq_false (fun z => ha.elim (fun y => h y) (fun y => absurd (Int32.lt_of_lt_of_le z y) Int32.lt_irrefl))) ?_
    refine od_rX rfl rfl rfl ?_
    exact ⟨rfl, rfl⟩
theorem ct_rec (h : dk D M ρ n X R) {i : Nat} (hi : i < n) : od_W 0 81 0 (od_ent 81 [.ref D, .int (nI i)]) [] (od_cm (dk_S D) M ρ) (fun o M' => o = .inl (some (.ref (D + 104 + 2 * i))) ∧ M' = od_cm (dk_S D) M ρ) := by
  have e0 : od_ent 81 [.ref D, .int (nI i)] = [some (.ref D), some (.int (nI i))] := rfl
  rw [e0]
  obtain ⟨f, h1, h2⟩ := h.1.2.2.1
  have hn := h.2.2.2.2
  refine od_W.rn (pc' := 1) (ls' := [some (.ref _), some (.int _)]) (st' := [.int _]) 1 rfl ?_
  refine od_r1F rfl (of_decide_eq_true rfl) (decide_eq_false (nI_pos (by omega))) ?_
  refine od_W.rn (pc' := 6) (ls' := [some (.ref _), some (.int _)]) (st' := [.ref _, .int _]) 2 rfl ?_
  refine od_rG rfl (h.h0) rfl rfl ?_
  refine od_r2T rfl rfl (decide_eq_true (nI_lt hi (by omega))) ?_
  refine od_W.rn (pc' := 23) (ls' := [some (.ref _), some (.int _)]) (st' := [.ref _]) 1 rfl ?_
  refine od_rG rfl (h.h0) rfl rfl ?_
  refine od_W.rn (pc' := 27) (ls' := [some (.ref _), some (.int _)]) (st' := [.int _, .ref _]) 1 rfl ?_
  refine od_rAL rfl (od_cm_o (dk_no D (k := 2) rfl rfl) h1) (rfl) (by omega) (by decide) ?_
  rw [h2 i (by omega)]
  refine od_W.fin rfl ?_
  exact ⟨rfl, rfl⟩
theorem ct_recX (h : dk D M ρ n X R) {a : Int32} (ha : a < 0 ∨ nI n ≤ a) : od_W 0 81 0 (od_ent 81 [.ref D, .int a]) [] (od_cm (dk_S D) M ρ) (fun o M' => o = .inr (0, M.1) ∧ M' = od_xm (od_cm (dk_S D) M ρ) 0) := by
  have e0 : od_ent 81 [.ref D, .int a] = [some (.ref D), some (.int a)] := rfl
  rw [e0]
  refine od_W.rn (pc' := 1) (ls' := [some (.ref _), some (.int _)]) (st' := [.int _]) 1 rfl ?_
  by_cases hl : a < 0
  · refine od_r1T rfl rfl (decide_eq_true hl) ?_
    refine od_rX rfl rfl rfl ?_
    exact ⟨rfl, rfl⟩
  · refine od_r1F rfl (of_decide_eq_true rfl) (decide_eq_false hl) ?_
    refine od_W.rn (pc' := 6) (ls' := [some (.ref _), some (.int _)]) (st' := [.ref _, .int _]) 2 rfl ?_
    refine od_rG rfl (h.h0) rfl rfl ?_
    refine od_r2F rfl (of_decide_eq_true rfl) (decide_eq_false (fun z => ha.elim (fun y => hl y) (fun y => absurd (Int32.lt_of_lt_of_le z y) Int32.lt_irrefl))) ?_
    refine od_rX rfl rfl rfl ?_
    exact ⟨rfl, rfl⟩
theorem ct_isWithin {Ms : od_M} (x lo hi : Int32) : od_W 0 82 0 (od_ent 82 [.int x, .int lo, .int hi]) [] Ms (fun o M' => o = .inl (some (.int (if lo ≤ x ∧ x ≤ hi then 1 else 0))) ∧ M' = Ms) := by
  have e0 : od_ent 82 [.int x, .int lo, .int hi] = [some (.int x), some (.int lo), some (.int hi)] := rfl
  rw [e0]
  refine od_W.rn (pc' := 2) (ls' := [some (.int _), some (.int _), some (.int _)]) (st' := [.int _, .int _]) 2 rfl ?_
  by_cases h1 : x < lo
  · refine od_r2T rfl rfl (decide_eq_true h1) ?_
    refine od_W.rn (pc' := 15) (ls' := [some (.int _), some (.int _), some (.int _)]) (st' := [.int _]) 1 rfl ?_
    refine od_W.fin rfl ?_
    rw [if_neg (fun z => absurd (Int32.lt_of_lt_of_le h1 z.1) Int32.lt_irrefl)]
    exact ⟨rfl, rfl⟩
  · refine od_r2F rfl (of_decide_eq_true rfl) (decide_eq_false h1) ?_
    refine od_W.rn (pc' := 7) (ls' := [some (.int _), some (.int _), some (.int _)]) (st' := [.int _, .int _]) 2 rfl ?_
    by_cases h2 : hi < x
    · refine od_r2T rfl rfl (decide_eq_true h2) ?_
      refine od_W.rn (pc' := 15) (ls' := [some (.int _), some (.int _), some (.int _)]) (st' := [.int _]) 1 rfl ?_
      refine od_W.fin rfl ?_
      rw [if_neg (fun z => absurd (Int32.lt_of_lt_of_le h2 z.2) Int32.lt_irrefl)]
      exact ⟨rfl, rfl⟩
    · refine od_r2F rfl (of_decide_eq_true rfl) (decide_eq_false h2) ?_
      refine od_W.rn (pc' := 15) (ls' := [some (.int _), some (.int _), some (.int _)]) (st' := [.int _]) 2 rfl ?_
      refine od_W.fin rfl ?_
      rw [if_pos ⟨Int32.not_lt.mp h1, Int32.not_lt.mp h2⟩]
      exact ⟨rfl, rfl⟩
theorem ct_refuse {Ms : od_M} (c : Prop) (hd : Decidable c) : od_W 0 83 0 (od_ent 83 [.int (if c then 1 else 0)]) [] Ms (fun o M' => (c ∧ o = .inl none ∧ M' = Ms) ∨ (¬ c ∧ o = .inr (1, Ms.1) ∧ M' = od_xm Ms 1)) := by
  have e0 : od_ent 83 [.int (if c then 1 else 0)] = [some (.int (if c then 1 else 0))] := rfl
  rw [e0]
  by_cases h : c
  · rw [if_pos h]
    refine od_W.rn (pc' := 1) (ls' := [some (.int _)]) (st' := [.int _]) 1 rfl ?_
    refine od_r1T rfl rfl (rfl) ?_
    refine od_W.fin rfl ?_
    exact Or.inl ⟨h, rfl, rfl⟩
  · rw [if_neg h]
    refine od_W.rn (pc' := 1) (ls' := [some (.int _)]) (st' := [.int _]) 1 rfl ?_
    refine od_r1F rfl (of_decide_eq_true rfl) (rfl) ?_
    refine od_rX rfl rfl rfl ?_
    exact Or.inr ⟨h, rfl, rfl⟩
end DESK
