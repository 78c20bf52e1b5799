/-! Reading rows: last terms, kinds, coefficients, the order. -/
theorem tm_sc_le : ∀ (n : Nat) (xs : List Nat), xs.length ≤ n → ∀ d, tm_sc d xs = true → ∀ x ∈ xs, x ≤ 1000000 := by
  intro n
  induction n with
  | zero =>
    intro xs hx d h x hm
    have : xs = [] := List.length_eq_zero_iff.mp (by omega)
    subst this
    cases hm
  | succ n ih =>
    intro xs hx d h x hm
    rcases xs with _ | ⟨t, ys⟩
    · cases hm
    · rcases tm_sc_inv h with ⟨rfl, h1⟩ | ⟨rfl, d', c, zs, rfl, rfl, hc, h1⟩
      · rcases List.mem_cons.mp hm with rfl | hm
        · omega
        · exact ih ys (by simpa using hx) _ h1 x hm
      · rcases List.mem_cons.mp hm with rfl | hm
        · omega
        · rcases List.mem_cons.mp hm with rfl | hm
          · exact hc.2
          · exact ih zs (by simp only [List.length_cons] at hx; omega) _ h1 x hm
/-- cells that are numbers of a row -/
def tm_sm (xs : List Nat) : Prop := ∀ x ∈ xs, x ≤ 1000000
theorem tm_W.sm {xs : List Nat} (h : tm_W xs) : tm_sm xs := tm_sc_le _ xs (Nat.le_refl _) 0 h
theorem tm_sm_cons {x : Nat} {xs : List Nat} : tm_sm (x :: xs) ↔ x ≤ 1000000 ∧ tm_sm xs := by unfold tm_sm; simp
theorem tm_sm_app {xs ys : List Nat} : tm_sm (xs ++ ys) ↔ tm_sm xs ∧ tm_sm ys := by
  unfold tm_sm
  constructor
  · intro h
    exact ⟨fun x hx => h x (List.mem_append_left _ hx), fun x hx => h x (List.mem_append_right _ hx)⟩
  · rintro ⟨h1, h2⟩ x hx
    rcases List.mem_append.mp hx with h | h
    · exact h1 x h
    · exact h2 x h
/-- the order of rows -/
def tm_cmp : List Nat → List Nat → Int32
  | [], [] => 0
  | [], _ :: _ => -1
  | _ :: _, [] => 1
  | a :: x, b :: y => if a < b then -1 else if b < a then 1 else tm_cmp x y
section LT
variable {S : Nat → Bool} {M : od_M} {ρ : od_Rm} {Q : od_O → od_M → Prop} {r n : Nat} {s t l : Int32}
theorem ct_lt_1 (hS : od_SS S) (hr : S r = true) {o i m : Nat} (h60 : m ≤ 60) (ho : o < 1000) (hi : i < m) (hc : (ρ r).2 i = nI 1) (k : od_W 0 10 8 [some (.ref r), some (.int s), some (.int (nI m)), some (.int l), some (.int (nI (o + 2))), some (.int (nI (i + 1)))] [] (od_cm S M ρ) Q) : od_W 0 10 8 [some (.ref r), some (.int s), some (.int (nI m)), some (.int l), some (.int (nI (o + 1))), some (.int (nI i))] [] (od_cm S M ρ) Q := by
  refine od_W.rn (pc' := 11) (ls' := [some (.ref _), some (.int _), some (.int _), some (.int _), some (.int _), some (.int _)]) (st' := [.int _, .int _]) 2 rfl ?_
  refine od_r2F rfl (of_decide_eq_true rfl) (decide_eq_false (nI_ge hi (by omega))) ?_
  refine od_W.rn (pc' := 15) (ls' := [some (.ref _), some (.int _), some (.int _), some (.int _), some (.int _), some (.int _)]) (st' := [.ref _]) 1 rfl ?_
  refine od_gC rfl rfl (hr) ?_
  refine od_W.rn (pc' := 20) (ls' := [some (.ref _), some (.int _), some (.int _), some (.int _), some (.int _), some (.int _)]) (st' := [.int _, .ref _]) 1 rfl ?_
  refine od_gA rfl hS (hr) (rfl) ((by omega)) (hc) ?_
  refine od_W.rn (pc' := 22) (ls' := [some (.ref _), some (.int _), some (.int _), some (.int _), some (.int _), some (.int _)]) (st' := [.int _, .int _]) 1 rfl ?_
  refine od_r2F rfl (of_decide_eq_true rfl) (rfl) ?_
  have c1 : od_cond .ne (nI (o + 1)) 0 = true := by
    show (!decide (nI (o + 1) = 0)) = true
    rw [decide_eq_false (nI_ne0 (by omega) (by omega))]
    rfl
  refine od_W.rn (pc' := 27) (ls' := [some (.ref _), some (.int _), some (.int _), some (.int _), some (.int _), some (.int _)]) (st' := [.int _]) 1 rfl ?_
  refine od_r1T rfl rfl (c1) ?_
  rw [nI_succ, nI_succ] at k
  refine od_W.rn (pc' := 8) (ls' := [some (.ref _), some (.int _), some (.int _), some (.int _), some (.int _), some (.int _)]) (st' := []) 3 rfl ?_
  rw [nI_succ]
  rw [nI_succ] at k
  exact k
theorem ct_lt_b (hS : od_SS S) (hr : S r = true) {i m : Nat} (h60 : m ≤ 60) (hi : i < m) (hc : (ρ r).2 i = nI 1) (k : od_W 0 10 8 [some (.ref r), some (.int s), some (.int (nI m)), some (.int (nI i)), some (.int (nI 1)), some (.int (nI (i + 1)))] [] (od_cm S M ρ) Q) : od_W 0 10 8 [some (.ref r), some (.int s), some (.int (nI m)), some (.int l), some (.int (nI 0)), some (.int (nI i))] [] (od_cm S M ρ) Q := by
  refine od_W.rn (pc' := 11) (ls' := [some (.ref _), some (.int _), some (.int _), some (.int _), some (.int _), some (.int _)]) (st' := [.int _, .int _]) 2 rfl ?_
  refine od_r2F rfl (of_decide_eq_true rfl) (decide_eq_false (nI_ge hi (by omega))) ?_
  refine od_W.rn (pc' := 15) (ls' := [some (.ref _), some (.int _), some (.int _), some (.int _), some (.int _), some (.int _)]) (st' := [.ref _]) 1 rfl ?_
  refine od_gC rfl rfl (hr) ?_
  refine od_W.rn (pc' := 20) (ls' := [some (.ref _), some (.int _), some (.int _), some (.int _), some (.int _), some (.int _)]) (st' := [.int _, .ref _]) 1 rfl ?_
  refine od_gA rfl hS (hr) (rfl) ((by omega)) (hc) ?_
  refine od_W.rn (pc' := 22) (ls' := [some (.ref _), some (.int _), some (.int _), some (.int _), some (.int _), some (.int _)]) (st' := [.int _, .int _]) 1 rfl ?_
  refine od_r2F rfl (of_decide_eq_true rfl) (rfl) ?_
  refine od_W.rn (pc' := 27) (ls' := [some (.ref _), some (.int _), some (.int _), some (.int _), some (.int _), some (.int _)]) (st' := [.int _]) 1 rfl ?_
  refine od_r1F rfl (of_decide_eq_true rfl) (rfl) ?_
  rw [nI_succ i] at k
  refine od_W.rn (pc' := 8) (ls' := [some (.ref _), some (.int _), some (.int _), some (.int _), some (.int _), some (.int _)]) (st' := []) 5 rfl ?_
  exact k
theorem ct_lt_0 (hS : od_SS S) (hr : S r = true) {o i m : Nat} (h60 : m ≤ 60) (ho : o < 1000) (hi : i < m) (hc : (ρ r).2 i = nI 0) (k : od_W 0 10 8 [some (.ref r), some (.int s), some (.int (nI m)), some (.int l), some (.int (nI o)), some (.int (nI (i + 2)))] [] (od_cm S M ρ) Q) : od_W 0 10 8 [some (.ref r), some (.int s), some (.int (nI m)), some (.int l), some (.int (nI (o + 1))), some (.int (nI i))] [] (od_cm S M ρ) Q := by
  refine od_W.rn (pc' := 11) (ls' := [some (.ref _), some (.int _), some (.int _), some (.int _), some (.int _), some (.int _)]) (st' := [.int _, .int _]) 2 rfl ?_
  refine od_r2F rfl (of_decide_eq_true rfl) (decide_eq_false (nI_ge hi (by omega))) ?_
  refine od_W.rn (pc' := 15) (ls' := [some (.ref _), some (.int _), some (.int _), some (.int _), some (.int _), some (.int _)]) (st' := [.ref _]) 1 rfl ?_
  refine od_gC rfl rfl (hr) ?_
  refine od_W.rn (pc' := 20) (ls' := [some (.ref _), some (.int _), some (.int _), some (.int _), some (.int _), some (.int _)]) (st' := [.int _, .ref _]) 1 rfl ?_
  refine od_gA rfl hS (hr) (rfl) ((by omega)) (hc) ?_
  refine od_W.rn (pc' := 22) (ls' := [some (.ref _), some (.int _), some (.int _), some (.int _), some (.int _), some (.int _)]) (st' := [.int _, .int _]) 1 rfl ?_
  refine od_r2T rfl rfl (rfl) ?_
  have e2 : nI i + Int32.ofInt 2 = nI (i + 2) := nI_add i 2
  rw [← e2, ← nI_dec o] at k
  refine od_W.rn (pc' := 8) (ls' := [some (.ref _), some (.int _), some (.int _), some (.int _), some (.int _), some (.int _)]) (st' := []) 3 rfl ?_
  exact k
theorem ct_lt_sc (hS : od_SS S) (hr : S r = true) {m : Nat} (h60 : m ≤ 60) : ∀ (z : Nat) (e : List Nat), e.length ≤ z → tm_W e → ∀ (o i : Nat), o + e.length < 1000 → tm_at (ρ r).2 i e → i + e.length ≤ m → od_W 0 10 8 [some (.ref r), some (.int s), some (.int (nI m)), some (.int l), some (.int (nI (o + 1))), some (.int (nI (i + e.length)))] [] (od_cm S M ρ) Q → od_W 0 10 8 [some (.ref r), some (.int s), some (.int (nI m)), some (.int l), some (.int (nI (o + 1))), some (.int (nI i))] [] (od_cm S M ρ) Q := by
  intro z
  induction z with
  | zero =>
    intro e he _ o i _ _ _ hk
    have : e = [] := List.length_eq_zero_iff.mp (by omega)
    subst this
    exact hk
  | succ z ih =>
    intro e he hW o i ho hat hi hk
    rcases tm_cases hW with rfl | ⟨e1, c, r1, rfl, h1, h2, h3⟩
    · exact hk
    · rw [tm_at_cons, tm_at_app, tm_at_cons, tm_at_cons] at hat
      obtain ⟨a1, a2, a3, a4, a5⟩ := hat
      simp only [List.length_cons, List.length_append] at he ho hi hk
      refine ct_lt_1 hS hr h60 (by omega) (by omega) a1 ?_
      refine ih e1 (by omega) h1 (o + 1) (i + 1) (by omega) a2 (by omega) ?_
      refine ct_lt_0 hS hr h60 (by omega) (by omega) a3 ?_
      refine ih r1 (by omega) h3 o _ (by omega) a5 (by omega) ?_
      rw [show i + 1 + e1.length + 2 + r1.length = i + (e1.length + (r1.length + 1 + 1) + 1) by omega]
      exact hk
theorem ct_lt_t (hS : od_SS S) (hr : S r = true) {m i : Nat} (h60 : m ≤ 60) {t : tm_T} (ht : tm_ok t) (hat : tm_at (ρ r).2 i (tm_t t)) (hi : i + (tm_t t).length ≤ m) (hk : od_W 0 10 8 [some (.ref r), some (.int s), some (.int (nI m)), some (.int (nI i)), some (.int (nI 0)), some (.int (nI (i + (tm_t t).length)))] [] (od_cm S M ρ) Q) : od_W 0 10 8 [some (.ref r), some (.int s), some (.int (nI m)), some (.int l), some (.int (nI 0)), some (.int (nI i))] [] (od_cm S M ρ) Q := by
  unfold tm_t at hat
  rw [tm_at_cons, tm_at_app, tm_at_cons] at hat
  obtain ⟨a1, a2, a3, -⟩ := hat
  rw [tm_t_len] at hi hk
  refine ct_lt_b hS hr h60 (by omega) a1 ?_
  refine ct_lt_sc hS hr h60 _ t.1 (Nat.le_refl _) ht.1 0 (i + 1) (by omega) a2 (by omega) ?_
  refine ct_lt_0 hS hr h60 (by omega) (by omega) a3 ?_
  rw [show i + 1 + t.1.length + 2 = i + (t.1.length + 3) by omega]
  exact hk
theorem ct_lt_ts (hS : od_SS S) (hr : S r = true) {m : Nat} (h60 : m ≤ 60) : ∀ (ts : List tm_T) (i : Nat) (l : Int32) (t : tm_T), tm_al ts → tm_ok t → tm_at (ρ r).2 i (tm_fl ts ++ tm_t t) → i + (tm_fl ts ++ tm_t t).length = m → (∀ l', od_W 0 10 8 [some (.ref r), some (.int s), some (.int (nI m)), some (.int (nI (i + (tm_fl ts).length))), some (.int (nI 0)), some (.int (nI m))] [] (od_cm S M ρ) Q → od_W 0 10 8 [some (.ref r), some (.int s), some (.int (nI m)), some (.int l'), some (.int (nI 0)), some (.int (nI i))] [] (od_cm S M ρ) Q) := by
  intro ts
  induction ts with
  | nil =>
    intro i l t _ ht hat hm l' hk
    rw [tm_fl, List.nil_append] at hat hm
    rw [tm_fl] at hk
    refine ct_lt_t hS hr h60 ht hat (by omega) ?_
    rw [hm]
    exact hk
  | cons u ts ih =>
    intro i l t hal ht hat hm l' hk
    rw [tm_fl, List.append_assoc] at hat hm
    rw [tm_at_app] at hat
    rw [List.length_append] at hm
    refine ct_lt_t hS hr h60 hal.1 hat.1 (by omega) ?_
    refine ih (i + (tm_t u).length) l t hal.2 ht hat.2 (by omega) _ ?_
    rw [tm_fl, List.length_append] at hk
    rw [Nat.add_assoc]
    exact hk
theorem ct_lastTerm (hS : od_SS S) (hr : S r = true) {a m : Nat} (h60 : m ≤ 60) {ts : List tm_T} {t : tm_T} (hal : tm_al ts) (ht : tm_ok t) (hat : tm_at (ρ r).2 a (tm_fl ts ++ tm_t t)) (hm : a + (tm_fl ts ++ tm_t t).length = m) : od_W 0 10 0 (od_ent 10 [.ref r, .int (nI a), .int (nI m)]) [] (od_cm S M ρ) (fun o M' => o = .inl (some (.int (nI (a + (tm_fl ts).length)))) ∧ M' = od_cm S M ρ) := by
  have e0 : od_ent 10 [.ref r, .int (nI a), .int (nI m)] = [some (.ref r), some (.int (nI a)), some (.int (nI m)), none, none, none] := rfl
  rw [e0]
  refine od_W.rn (pc' := 8) (ls' := [some (.ref _), some (.int _), some (.int _), some (.int _), some (.int _), some (.int _)]) (st' := []) 6 rfl ?_
  refine ct_lt_ts hS hr h60 ts a 0 t hal ht hat hm _ ?_
  refine od_W.rn (pc' := 11) (ls' := [some (.ref _), some (.int _), some (.int _), some (.int _), some (.int _), some (.int _)]) (st' := [.int _, .int _]) 2 rfl ?_
  refine od_r2T rfl rfl (decide_eq_true (Int32.le_refl _)) ?_
  refine od_W.rn (pc' := 52) (ls' := [some (.ref _), some (.int _), some (.int _), some (.int _), some (.int _), some (.int _)]) (st' := [.int _]) 1 rfl ?_
  refine od_W.fin rfl ?_
  exact ⟨rfl, rfl⟩
/-- whether a part ends in a number -/
theorem ct_endsInNumber (hS : od_SS S) (hr : S r = true) {a m : Nat} (h60 : m ≤ 60) {ts : List tm_T} {t : tm_T} (hal : tm_al ts) (ht : tm_ok t) (hat : tm_at (ρ r).2 a (tm_fl ts ++ tm_t t)) (hm : a + (tm_fl ts ++ tm_t t).length = m) : od_W 1 6 0 (od_ent 6 [.ref r, .int (nI a), .int (nI m)]) [] (od_cm S M ρ) (fun o M' => o = .inl (some (.int (if t.1 = [] then 1 else 0))) ∧ M' = od_cm S M ρ) := by
  have e0 : od_ent 6 [.ref r, .int (nI a), .int (nI m)] = [some (.ref r), some (.int (nI a)), some (.int (nI m))] := rfl
  rw [e0]
  have hl : (tm_fl ts ++ tm_t t).length = (tm_fl ts).length + (t.1.length + 3) := by rw [List.length_append, tm_t_len]
  refine od_W.rn (pc' := 2) (ls' := [some (.ref _), some (.int _), some (.int _)]) (st' := [.int _, .int _]) 2 rfl ?_
  refine od_r2F rfl (of_decide_eq_true rfl) (decide_eq_false (nI_ge (by omega) (by omega))) ?_
  refine od_W.rn (pc' := 8) (ls' := [some (.ref _), some (.int _), some (.int _)]) (st' := [.int _, .int _, .ref _]) 3 rfl ?_
  refine od_rV (as := [.int (nI a), .int (nI m)]) rfl rfl rfl rfl (od_cm_r hr) rfl (Nat.le_of_ble_eq_true rfl) (Nat.le_of_ble_eq_true rfl) (ct_lastTerm hS hr h60 hal ht hat hm) (Nat.le_of_ble_eq_true rfl) (fun o M1 hq => ?_)
  obtain ⟨rfl, rfl⟩ := hq
  refine od_K.ret ?_
  refine od_W.rn (pc' := 14) (ls' := [some (.ref _), some (.int _), some (.int _)]) (st' := [.int _, .int _]) 3 rfl ?_
  have e1 : nI m - 3 = nI (m - 3) := nI_subI (a := 3) (by omega)
  rw [show (3 : Int32) = 3 from rfl] at e1
  show od_W 1 6 14 [some (.ref r), some (.int (nI a)), some (.int (nI m))] [.int (nI m - 3), .int (nI (a + (tm_fl ts).length))] _ _
  rw [e1]
  by_cases ht0 : t.1 = []
  · have c1 : od_cond .ne (nI (a + (tm_fl ts).length)) (nI (m - 3)) = false := by
      have : a + (tm_fl ts).length = m - 3 := by rw [ht0] at hl; simp only [List.length_nil] at hl; omega
      rw [this]
      show (!decide (nI (m - 3) = nI (m - 3))) = false
      rw [decide_eq_true rfl]
      rfl
    refine od_r2F rfl (of_decide_eq_true rfl) (c1) ?_
    refine od_W.rn (pc' := 22) (ls' := [some (.ref _), some (.int _), some (.int _)]) (st' := [.int _]) 2 rfl ?_
    refine od_W.fin rfl ?_
    rw [if_pos ht0]
    exact ⟨rfl, rfl⟩
  · have c1 : od_cond .ne (nI (a + (tm_fl ts).length)) (nI (m - 3)) = true := by
      have : a + (tm_fl ts).length ≠ m - 3 := by
        have := List.length_pos_iff.mpr ht0
        omega
      show (!decide (nI (a + (tm_fl ts).length) = nI (m - 3))) = true
      rw [decide_eq_false (fun z => this ((nI_eq (by omega) (by omega)).mp z))]
      rfl
    refine od_r2T rfl rfl (c1) ?_
    refine od_W.rn (pc' := 22) (ls' := [some (.ref _), some (.int _), some (.int _)]) (st' := [.int _]) 1 rfl ?_
    refine od_W.fin rfl ?_
    rw [if_neg ht0]
    exact ⟨rfl, rfl⟩
theorem ct_endsInNumber0 (hr : S r = true) {a : Nat} : od_W 0 6 0 (od_ent 6 [.ref r, .int (nI a), .int (nI a)]) [] (od_cm S M ρ) (fun o M' => o = .inl (some (.int 0)) ∧ M' = od_cm S M ρ) := by
  have e0 : od_ent 6 [.ref r, .int (nI a), .int (nI a)] = [some (.ref r), some (.int (nI a)), some (.int (nI a))] := rfl
  rw [e0]
  refine od_W.rn (pc' := 2) (ls' := [some (.ref _), some (.int _), some (.int _)]) (st' := [.int _, .int _]) 2 rfl ?_
  refine od_r2T rfl rfl (decide_eq_true (Int32.le_refl _)) ?_
  refine od_W.rn (pc' := 22) (ls' := [some (.ref _), some (.int _), some (.int _)]) (st' := [.int _]) 1 rfl ?_
  refine od_W.fin rfl ?_
  exact ⟨rfl, rfl⟩
theorem ct_coefficient (hS : od_SS S) (hr : S r = true) (hn : (ρ r).1 = n) (h60 : n ≤ 60) {e c : Nat} (he : e < n) (hc : (ρ r).2 e = nI c) : od_W 0 8 0 (od_ent 8 [.ref r, .int (nI (e + 1))]) [] (od_cm S M ρ) (fun o M' => o = .inl (some (.int (nI c))) ∧ M' = od_cm S M ρ) := by
  have e0 : od_ent 8 [.ref r, .int (nI (e + 1))] = [some (.ref r), some (.int (nI (e + 1)))] := rfl
  rw [e0]
  refine od_W.rn (pc' := 2) (ls' := [some (.ref _), some (.int _)]) (st' := [.int _, .int _]) 2 rfl ?_
  refine od_r2F rfl (of_decide_eq_true rfl) (decide_eq_false (nI_nlt (b := 1) (by omega) (by omega))) ?_
  refine od_W.rn (pc' := 7) (ls' := [some (.ref _), some (.int _)]) (st' := [.ref _, .int _]) 2 rfl ?_
  refine od_gL rfl rfl (hr) (hn) ?_
  refine od_r2T rfl rfl (decide_eq_true (nI_le (by omega) (by omega))) ?_
  refine od_W.rn (pc' := 18) (ls' := [some (.ref _), some (.int _)]) (st' := [.ref _]) 1 rfl ?_
  refine od_gC rfl rfl (hr) ?_
  refine od_W.rn (pc' := 24) (ls' := [some (.ref _), some (.int _)]) (st' := [.int _, .ref _]) 3 rfl ?_
  refine od_gA rfl hS (hr) (nI_pred e) ((by omega)) (hc) ?_
  refine od_W.fin rfl ?_
  exact ⟨rfl, rfl⟩
end LT
/-- the kind of an ordinal: 0, successor, limit; its finite part -/
def tm_k (ts : List tm_T) : Nat := match ts.getLast? with
  | none => 0
  | some t => if t.1 = [] then 1 else 2
def tm_n (ts : List tm_T) : Nat := match ts.getLast? with
  | none => 0
  | some t => if t.1 = [] then t.2 else 0
theorem tm_snoc (ts : List tm_T) : ts = [] ∨ ∃ us t, ts = us ++ [t] := by
  rcases List.eq_nil_or_concat ts with h | ⟨us, t, h⟩
  · exact Or.inl h
  · exact Or.inr ⟨us, t, by rw [h, List.concat_eq_append]⟩
theorem tm_fl_snoc (us : List tm_T) (t : tm_T) : tm_fl (us ++ [t]) = tm_fl us ++ tm_t t := by rw [tm_fl_app, tm_fl, tm_fl, List.append_nil]
theorem tm_k_snoc (us : List tm_T) (t : tm_T) : tm_k (us ++ [t]) = if t.1 = [] then 1 else 2 := by unfold tm_k; rw [List.getLast?_concat]
theorem tm_n_snoc (us : List tm_T) (t : tm_T) : tm_n (us ++ [t]) = if t.1 = [] then t.2 else 0 := by unfold tm_n; rw [List.getLast?_concat]
section SO
variable {S : Nat → Bool} {M : od_M} {ρ : od_Rm} {r : Nat}
theorem ct_sort (hS : od_SS S) (hr : S r = true) (hb : (ρ r).1 ≤ 60) {ts : List tm_T} (hal : tm_al ts) (hl : od_li (ρ r) (tm_fl ts)) : od_W 2 5 0 (od_ent 5 [.ref r]) [] (od_cm S M ρ) (fun o M' => o = .inl (some (.int (nI (tm_k ts)))) ∧ M' = od_cm S M ρ) := by
  have e0 : od_ent 5 [.ref r] = [some (.ref r)] := rfl
  rw [e0]
  obtain ⟨hn, hat⟩ := hl
  refine od_W.rn (pc' := 1) (ls' := [some (.ref _)]) (st' := [.ref _]) 1 rfl ?_
  refine od_gL rfl rfl (hr) (hn) ?_
  rcases tm_snoc ts with rfl | ⟨us, t, rfl⟩
  · refine od_r1F rfl (of_decide_eq_true rfl) (rfl) ?_
    refine od_W.rn (pc' := 8) (ls' := [some (.ref _)]) (st' := [.int _]) 1 rfl ?_
    refine od_W.fin rfl ?_
    exact ⟨rfl, rfl⟩
  · rw [tm_fl_snoc] at hn hat ⊢
    rw [tm_al_app] at hal
    have hl2 : (tm_fl us ++ tm_t t).length = (tm_fl us).length + (t.1.length + 3) := by rw [List.length_append, tm_t_len]
    have c1 : od_cond .ne (nI (tm_fl us ++ tm_t t).length) 0 = true := by
      show (!decide (nI (tm_fl us ++ tm_t t).length = 0)) = true
      rw [decide_eq_false (nI_ne0 (by omega) (by omega))]
      rfl
    refine od_r1T rfl rfl (c1) ?_
    refine od_W.rn (pc' := 12) (ls' := [some (.ref _)]) (st' := [.ref _, .int _, .ref _]) 3 rfl ?_
    refine od_gL rfl rfl (hr) (hn) ?_
    refine od_rV (as := [.int (nI 0), .int (nI (tm_fl us ++ tm_t t).length)]) rfl rfl rfl rfl (od_cm_r hr) rfl (Nat.le_of_ble_eq_true rfl) (Nat.le_of_ble_eq_true rfl) (ct_endsInNumber hS hr (by omega) hal.1 hal.2.1 hat (by omega)) (Nat.le_of_ble_eq_true rfl) (fun o M1 hq => ?_)
    obtain ⟨rfl, rfl⟩ := hq
    refine od_K.ret ?_
    rw [tm_k_snoc]
    by_cases ht0 : t.1 = []
    · rw [if_pos ht0, if_pos ht0]
      refine od_r1F rfl (of_decide_eq_true rfl) (rfl) ?_
      refine od_W.rn (pc' := 26) (ls' := [some (.ref _)]) (st' := [.int _]) 2 rfl ?_
      refine od_W.fin rfl ?_
      exact ⟨rfl, rfl⟩
    · rw [if_neg ht0, if_neg ht0]
      refine od_r1T rfl rfl (rfl) ?_
      refine od_W.rn (pc' := 26) (ls' := [some (.ref _)]) (st' := [.int _]) 1 rfl ?_
      refine od_W.fin rfl ?_
      exact ⟨rfl, rfl⟩
theorem ct_finitePart (hS : od_SS S) (hr : S r = true) (hb : (ρ r).1 ≤ 60) {ts : List tm_T} (hal : tm_al ts) (hl : od_li (ρ r) (tm_fl ts)) : od_W 2 7 0 (od_ent 7 [.ref r]) [] (od_cm S M ρ) (fun o M' => o = .inl (some (.int (nI (tm_n ts)))) ∧ M' = od_cm S M ρ) := by
  have e0 : od_ent 7 [.ref r] = [some (.ref r)] := rfl
  rw [e0]
  obtain ⟨hn, hat⟩ := hl
  refine od_W.rn (pc' := 3) (ls' := [some (.ref _)]) (st' := [.ref _, .int _, .ref _]) 3 rfl ?_
  refine od_gL rfl rfl (hr) (hn) ?_
  rcases tm_snoc ts with rfl | ⟨us, t, rfl⟩
  · refine od_rV (as := [.int (nI 0), .int (nI 0)]) rfl rfl rfl rfl (od_cm_r hr) rfl (Nat.le_of_ble_eq_true rfl) (Nat.le_of_ble_eq_true rfl) (ct_endsInNumber0 hr) (Nat.le_of_ble_eq_true rfl) (fun o M1 hq => ?_)
    obtain ⟨rfl, rfl⟩ := hq
    refine od_K.ret ?_
    refine od_r1T rfl rfl (rfl) ?_
    refine od_W.rn (pc' := 24) (ls' := [some (.ref _)]) (st' := [.int _]) 1 rfl ?_
    refine od_W.fin rfl ?_
    exact ⟨rfl, rfl⟩
  · rw [tm_fl_snoc] at hn hat ⊢
    rw [tm_al_app] at hal
    have hl2 : (tm_fl us ++ tm_t t).length = (tm_fl us).length + (t.1.length + 3) := by rw [List.length_append, tm_t_len]
    refine od_rV (as := [.int (nI 0), .int (nI (tm_fl us ++ tm_t t).length)]) rfl rfl rfl rfl (od_cm_r hr) rfl (Nat.le_of_ble_eq_true rfl) (Nat.le_of_ble_eq_true rfl) (ct_endsInNumber hS hr (by omega) hal.1 hal.2.1 hat (by omega)) (Nat.le_of_ble_eq_true rfl) (fun o M1 hq => ?_)
    obtain ⟨rfl, rfl⟩ := hq
    refine od_K.ret ?_
    rw [tm_n_snoc]
    by_cases ht0 : t.1 = []
    · rw [if_pos ht0, if_pos ht0]
      refine od_r1F rfl (of_decide_eq_true rfl) (rfl) ?_
      refine od_W.rn (pc' := 14) (ls' := [some (.ref _)]) (st' := [.ref _, .ref _]) 2 rfl ?_
      refine od_gL rfl rfl (hr) (hn) ?_
      have hc : (ρ r).2 ((tm_fl us).length + (t.1.length + 2)) = nI t.2 := by
        rw [tm_at_app] at hat
        unfold tm_t at hat
        rw [tm_at_cons, tm_at_app, tm_at_cons, tm_at_cons] at hat
        rw [show (tm_fl us).length + (t.1.length + 2) = 0 + (tm_fl us).length + 1 + t.1.length + 1 by omega]
        exact hat.2.2.2.2.1
      refine od_rV (as := [.int (nI (tm_fl us ++ tm_t t).length)]) rfl rfl rfl rfl (od_cm_r hr) rfl (Nat.le_of_ble_eq_true rfl) (Nat.le_of_ble_eq_true rfl) ((show od_W 0 8 0 (od_ent 8 [.ref r, .int (nI (tm_fl us ++ tm_t t).length)]) [] (od_cm S M ρ) _ by rw [show (tm_fl us ++ tm_t t).length = (tm_fl us).length + (t.1.length + 2) + 1 by omega]; exact ct_coefficient hS hr hn (by omega) (by omega) hc)) (Nat.le_of_ble_eq_true rfl) (fun o M1 hq => ?_)
      obtain ⟨rfl, rfl⟩ := hq
      refine od_K.ret ?_
      refine od_W.rn (pc' := 24) (ls' := [some (.ref _)]) (st' := [.int _]) 1 rfl ?_
      refine od_W.fin rfl ?_
      exact ⟨rfl, rfl⟩
    · rw [if_neg ht0, if_neg ht0]
      refine od_r1T rfl rfl (rfl) ?_
      refine od_W.rn (pc' := 24) (ls' := [some (.ref _)]) (st' := [.int _]) 1 rfl ?_
      refine od_W.fin rfl ?_
      exact ⟨rfl, rfl⟩
theorem ct_isOne (hS : od_SS S) (hr : S r = true) (hb : (ρ r).1 ≤ 60) {xs : List Nat} (hsm : tm_sm xs) (hl : od_li (ρ r) xs) : od_W 0 3 0 (od_ent 3 [.ref r]) [] (od_cm S M ρ) (fun o M' => o = .inl (some (.int (if xs.length = 3 ∧ xs.getD 2 0 = 1 then 1 else 0))) ∧ M' = od_cm S M ρ) := by
  have e0 : od_ent 3 [.ref r] = [some (.ref r)] := rfl
  rw [e0]
  obtain ⟨hn, hat⟩ := hl
  refine od_W.rn (pc' := 1) (ls' := [some (.ref _)]) (st' := [.ref _]) 1 rfl ?_
  refine od_gL rfl rfl (hr) (hn) ?_
  by_cases h3 : xs.length = 3
  · have c1 : od_cond .ne (nI xs.length) 3 = false := by rw [h3]; rfl
    refine od_W.rn (pc' := 5) (ls' := [some (.ref _)]) (st' := [.int _, .int _]) 1 rfl ?_
    refine od_r2F rfl (of_decide_eq_true rfl) (c1) ?_
    refine od_W.rn (pc' := 9) (ls' := [some (.ref _)]) (st' := [.ref _]) 1 rfl ?_
    refine od_gC rfl rfl (hr) ?_
    refine od_W.rn (pc' := 13) (ls' := [some (.ref _)]) (st' := [.int _, .ref _]) 1 rfl ?_
    refine od_gA rfl hS (hr) ((show (2 : Int32) = nI 2 from rfl)) ((by omega)) ((hat 2 (by omega))) ?_
    by_cases h1 : xs.getD 2 0 = 1
    · have c2 : od_cond .ne (nI (xs.getD 2 0)) 1 = false := by rw [h1]; rfl
      refine od_W.rn (pc' := 15) (ls' := [some (.ref _)]) (st' := [.int _, .int _]) 1 rfl ?_
      refine od_r2F rfl (of_decide_eq_true rfl) (c2) ?_
      refine od_W.rn (pc' := 23) (ls' := [some (.ref _)]) (st' := [.int _]) 2 rfl ?_
      refine od_W.fin rfl ?_
      rw [if_pos ⟨h3, h1⟩]
      exact ⟨rfl, rfl⟩
    · have hx : xs.getD 2 0 ≤ 1000000 := by
        refine hsm _ ?_
        rw [List.getD_eq_getElem?_getD, List.getElem?_eq_getElem (by omega), Option.getD_some]
        exact List.getElem_mem _
      have c2 : od_cond .ne (nI (xs.getD 2 0)) 1 = true := by
        show (!decide (nI (xs.getD 2 0) = nI 1)) = true
        rw [decide_eq_false (fun z => h1 ((nI_eq (by omega) (by omega)).mp z))]
        rfl
      refine od_W.rn (pc' := 15) (ls' := [some (.ref _)]) (st' := [.int _, .int _]) 1 rfl ?_
      refine od_r2T rfl rfl (c2) ?_
      refine od_W.rn (pc' := 23) (ls' := [some (.ref _)]) (st' := [.int _]) 1 rfl ?_
      refine od_W.fin rfl ?_
      rw [if_neg (fun z => h1 z.2)]
      exact ⟨rfl, rfl⟩
  · have c1 : od_cond .ne (nI xs.length) 3 = true := by
      show (!decide (nI xs.length = nI 3)) = true
      rw [decide_eq_false (fun z => h3 ((nI_eq (by omega) (by omega)).mp z))]
      rfl
    refine od_W.rn (pc' := 5) (ls' := [some (.ref _)]) (st' := [.int _, .int _]) 1 rfl ?_
    refine od_r2T rfl rfl (c1) ?_
    refine od_W.rn (pc' := 23) (ls' := [some (.ref _)]) (st' := [.int _]) 1 rfl ?_
    refine od_W.fin rfl ?_
    rw [if_neg (fun z => h3 z.1)]
    exact ⟨rfl, rfl⟩
end SO
