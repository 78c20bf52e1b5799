/-! The class's rows as a layer over a memory: S the addresses of rows, ρ what they hold. -/
abbrev od_Rm : Type := Nat → Nat × (Nat → Int32)
def od_cm (S : Nat → Bool) (M : od_M) (ρ : od_Rm) : od_M := (M.1, M.2.1, fun a => if S a = true then some (od_ob 0 [.ref (a + 1), .int (nI (ρ a).1)]) else if S (a - 1) = true then some (od_ia 60 (ρ (a - 1)).2) else M.2.2 a)
def od_SS (S : Nat → Bool) : Prop := ∀ r, S r = true → S (r + 1) = false
def od_no (S : Nat → Bool) (a : Nat) : Prop := S a = false ∧ S (a - 1) = false
def od_Bd (ρ : od_Rm) : Prop := ∀ q, (ρ q).1 ≤ 60
def od_rs (ρ : od_Rm) (r : Nat) (v : Nat × (Nat → Int32)) : od_Rm := fun a => if a = r then v else ρ a
def od_li (p : Nat × (Nat → Int32)) (xs : List Nat) : Prop := p.1 = xs.length ∧ tm_at p.2 0 xs
theorem od_rs_r (ρ : od_Rm) (r : Nat) (v : Nat × (Nat → Int32)) : od_rs ρ r v r = v := if_pos rfl
theorem od_rs_o {ρ : od_Rm} {r q : Nat} {v : Nat × (Nat → Int32)} (h : q ≠ r) : od_rs ρ r v q = ρ q := if_neg h
theorem od_cm_r {S : Nat → Bool} {M : od_M} {ρ : od_Rm} {r : Nat} (h : S r = true) : (od_cm S M ρ).2.2 r = some (od_ob 0 [.ref (r + 1), .int (nI (ρ r).1)]) := if_pos h
theorem od_cm_a {S : Nat → Bool} {M : od_M} {ρ : od_Rm} {r : Nat} (hS : od_SS S) (h : S r = true) : (od_cm S M ρ).2.2 (r + 1) = some (od_ia 60 (ρ r).2) := by
  have h1 : ¬ S (r + 1) = true := by rw [hS r h]; decide
  show (if S (r + 1) = true then _ else if S (r + 1 - 1) = true then _ else _) = _
  rw [if_neg h1, Nat.add_sub_cancel, if_pos h]
theorem od_cm_o {S : Nat → Bool} {M : od_M} {ρ : od_Rm} {a : Nat} {e : Option od_E} (h : od_no S a) (he : M.2.2 a = e) : (od_cm S M ρ).2.2 a = e := by
  have h1 : ¬ S a = true := by rw [h.1]; decide
  have h2 : ¬ S (a - 1) = true := by rw [h.2]; decide
  show (if S a = true then _ else if S (a - 1) = true then _ else _) = _
  rw [if_neg h1, if_neg h2]
  exact he
theorem od_cm_Rw {S : Nat → Bool} {M : od_M} {ρ : od_Rm} {r : Nat} (hS : od_SS S) (h : S r = true) (hb : (ρ r).1 ≤ 60) : od_Rw (od_cm S M ρ) r (ρ r).1 (ρ r).2 := ⟨od_cm_r h, od_cm_a hS h, hb⟩
theorem od_cm_wr {S : Nat → Bool} {M : od_M} {ρ : od_Rm} {r n : Nat} {f : Nat → Int32} (hS : od_SS S) (h : S r = true) : od_wr (od_cm S M ρ) r n f = od_cm S M (od_rs ρ r (n, f)) := by
  refine od_Meq rfl rfl fun a => ?_
  by_cases h1 : a = r
  · subst h1
    rw [od_wr_r, od_cm_r h, od_rs_r]
  · by_cases h2 : a = r + 1
    · subst h2
      rw [od_wr_a, od_cm_a hS h, od_rs_r]
    · rw [od_wr_o _ _ h1 h2]
      show (if S a = true then some (od_ob 0 [.ref (a + 1), .int (nI (ρ a).1)]) else if S (a - 1) = true then some (od_ia 60 (ρ (a - 1)).2) else M.2.2 a) = (if S a = true then some (od_ob 0 [.ref (a + 1), .int (nI (od_rs ρ r (n, f) a).1)]) else if S (a - 1) = true then some (od_ia 60 (od_rs ρ r (n, f) (a - 1)).2) else M.2.2 a)
      rw [od_rs_o h1]
      by_cases h3 : a - 1 = r
      · have h0 : a = 0 := by omega
        subst h0
        exact absurd h3.symm (fun z => h1 (by omega))
      · rw [od_rs_o h3]
theorem od_cm_ap {S : Nat → Bool} {r q : Nat} (hS : od_SS S) (h : S r = true) (h2 : S q = true) (hne : r ≠ q) : od_ap2 r q := by
  refine ⟨hne, fun z => ?_, fun z => ?_⟩
  · subst z
    rw [hS q h2] at h
    cases h
  · subst z
    rw [hS r h] at h2
    cases h2
theorem od_cm_cm (S : Nat → Bool) (M : od_M) (ρ ρ' : od_Rm) : od_cm S (od_cm S M ρ) ρ' = od_cm S M ρ' := by
  refine od_Meq rfl rfl fun a => ?_
  show (if S a = true then _ else if S (a - 1) = true then _ else (if S a = true then _ else if S (a - 1) = true then _ else M.2.2 a)) = (if S a = true then _ else if S (a - 1) = true then _ else M.2.2 a)
  split
  · rfl
  · split <;> rfl
/-- the memory of an exception under the rows -/
theorem od_cm_xm {S : Nat → Bool} {M : od_M} {ρ : od_Rm} {x : Nat} (h : od_no S M.1) : od_xm (od_cm S M ρ) x = od_cm S (od_xm M x) ρ := by
  refine od_Meq rfl rfl fun a => ?_
  show va_up (od_cm S M ρ).2.2 M.1 _ a = (if S a = true then _ else if S (a - 1) = true then _ else va_up M.2.2 M.1 _ a)
  by_cases h1 : a = M.1
  · subst h1
    rw [va_up_self, va_up_self, if_neg (by rw [h.1]; decide), if_neg (by rw [h.2]; decide)]
  · rw [va_up_ne _ _ h1, va_up_ne _ _ h1]
    rfl
theorem od_W.rn {d k : Nat} {Q : od_O → od_M → Prop} (n : Nat) {pc : Nat} {ls : od_L} {st : List Value} {M : od_M} {pc' : Nat} {ls' : od_L} {st' : List Value} (h : od_run n k (pc, ls, st, M) = some (pc', ls', st', M)) (hk : od_W d k pc' ls' st' M Q) : od_W d k pc ls st M Q := od_W.run n h hk
theorem nI_dec (n : Nat) : nI (n + 1) + Int32.ofInt (-1) = nI n := by
  rw [show Int32.ofInt (-1) = -1 from rfl, ← Int32.sub_eq_add_neg]
  exact nI_pred n
section RUL2
variable {d k pc : Nat} {ls : od_L} {st : List Value} {S : Nat → Bool} {M : od_M} {ρ : od_Rm} {Q : od_O → od_M → Prop}
theorem od_gL {ix r n t : Nat} (h : od_cd k pc = some (.getfield ix, 3)) (hf : od_fd (od_ow k) ix = some (0, 1, t)) (hr : S r = true) (hn : (ρ r).1 = n) (kk : od_W d k (pc + 3) ls (.int (nI n) :: st) (od_cm S M ρ) Q) : od_W d k pc ls (.ref r :: st) (od_cm S M ρ) Q := by
  subst hn
  exact od_rG h (od_cm_r hr) hf rfl kk
theorem od_gC {ix r t : Nat} (h : od_cd k pc = some (.getfield ix, 3)) (hf : od_fd (od_ow k) ix = some (0, 0, t)) (hr : S r = true) (kk : od_W d k (pc + 3) ls (.ref (r + 1) :: st) (od_cm S M ρ) Q) : od_W d k pc ls (.ref r :: st) (od_cm S M ρ) Q := od_rG h (od_cm_r hr) hf rfl kk
theorem od_gA {r j : Nat} {i v : Int32} (h : od_cd k pc = some (.iaload, 1)) (hS : od_SS S) (hr : S r = true) (hi : i = nI j) (hj : j < 60) (hv : (ρ r).2 j = v) (kk : od_W d k (pc + 1) ls (.int v :: st) (od_cm S M ρ) Q) : od_W d k pc ls (.int i :: .ref (r + 1) :: st) (od_cm S M ρ) Q := by
  subst hv
  exact od_rIL h (od_cm_a hS hr) hi hj (by decide) kk
end RUL2
section TE
variable {S : Nat → Bool} {M : od_M} {ρ : od_Rm} {Q : od_O → od_M → Prop} {r n : Nat} {s : Int32}
theorem ct_te_1 (hS : od_SS S) (hr : S r = true) (hn : (ρ r).1 = n) (h60 : n ≤ 60) {o i : Nat} (hi : i < n) (hc : (ρ r).2 i = nI 1) (k : od_W 0 9 4 [some (.ref r), some (.int s), some (.int (nI (o + 1))), some (.int (nI (i + 1)))] [] (od_cm S M ρ) Q) : od_W 0 9 4 [some (.ref r), some (.int s), some (.int (nI o)), some (.int (nI i))] [] (od_cm S M ρ) Q := by
  refine od_W.rn (pc' := 6) (ls' := [some (.ref _), some (.int _), some (.int _), some (.int _)]) (st' := [.ref _, .int _]) 2 rfl ?_
  refine od_gL rfl rfl (hr) (hn) ?_
  refine od_r2F rfl (of_decide_eq_true rfl) (decide_eq_false (nI_ge hi (by omega))) ?_
  refine od_W.rn (pc' := 13) (ls' := [some (.ref _), some (.int _), some (.int _), some (.int _)]) (st' := [.ref _]) 1 rfl ?_
  refine od_gC rfl rfl (hr) ?_
  refine od_W.rn (pc' := 17) (ls' := [some (.ref _), some (.int _), some (.int _), some (.int _)]) (st' := [.int _, .ref _]) 1 rfl ?_
  refine od_gA rfl hS (hr) (rfl) ((by omega)) (hc) ?_
  refine od_W.rn (pc' := 19) (ls' := [some (.ref _), some (.int _), some (.int _), some (.int _)]) (st' := [.int _, .int _]) 1 rfl ?_
  refine od_r2F rfl (of_decide_eq_true rfl) (rfl) ?_
  rw [nI_succ, nI_succ] at k
  refine od_W.rn (pc' := 4) (ls' := [some (.ref _), some (.int _), some (.int _), some (.int _)]) (st' := []) 3 rfl ?_
  exact k
theorem ct_te_0 (hS : od_SS S) (hr : S r = true) (hn : (ρ r).1 = n) (h60 : n ≤ 60) {o i : Nat} (hi : i < n) (ho : o < 1000) (hc : (ρ r).2 i = nI 0) (k : od_W 0 9 4 [some (.ref r), some (.int s), some (.int (nI (o + 1))), some (.int (nI (i + 2)))] [] (od_cm S M ρ) Q) : od_W 0 9 4 [some (.ref r), some (.int s), some (.int (nI (o + 2))), some (.int (nI i))] [] (od_cm S M ρ) Q := by
  refine od_W.rn (pc' := 6) (ls' := [some (.ref _), some (.int _), some (.int _), some (.int _)]) (st' := [.ref _, .int _]) 2 rfl ?_
  refine od_gL rfl rfl (hr) (hn) ?_
  refine od_r2F rfl (of_decide_eq_true rfl) (decide_eq_false (nI_ge hi (by omega))) ?_
  refine od_W.rn (pc' := 13) (ls' := [some (.ref _), some (.int _), some (.int _), some (.int _)]) (st' := [.ref _]) 1 rfl ?_
  refine od_gC rfl rfl (hr) ?_
  refine od_W.rn (pc' := 17) (ls' := [some (.ref _), some (.int _), some (.int _), some (.int _)]) (st' := [.int _, .ref _]) 1 rfl ?_
  refine od_gA rfl hS (hr) (rfl) ((by omega)) (hc) ?_
  refine od_W.rn (pc' := 19) (ls' := [some (.ref _), some (.int _), some (.int _), some (.int _)]) (st' := [.int _, .int _]) 1 rfl ?_
  refine od_r2T rfl rfl (rfl) ?_
  refine od_W.rn (pc' := 38) (ls' := [some (.ref _), some (.int _), some (.int _), some (.int _)]) (st' := [.int _]) 3 rfl ?_
  have e1 : nI (o + 2) + Int32.ofInt (-1) = nI (o + 1) := nI_dec (o + 1)
  have e2 : nI i + Int32.ofInt 2 = nI (i + 2) := nI_add i 2
  show od_W 0 9 38 [some (.ref r), some (.int s), some (.int (nI (o + 2) + Int32.ofInt (-1))), some (.int (nI i + Int32.ofInt 2))] [.int (nI (o + 2) + Int32.ofInt (-1))] _ Q
  rw [e1, e2]
  refine od_r1T rfl rfl (decide_eq_true (nI_lt (a := 0) (by omega) (by omega))) ?_
  exact k
theorem ct_te_sc (hS : od_SS S) (hr : S r = true) (hn : (ρ r).1 = n) (h60 : n ≤ 60) : ∀ (m : Nat) (e : List Nat), e.length ≤ m → tm_W e → ∀ (o i : Nat), o + e.length < 1000 → tm_at (ρ r).2 i e → i + e.length ≤ n → od_W 0 9 4 [some (.ref r), some (.int s), some (.int (nI (o + 1))), some (.int (nI (i + e.length)))] [] (od_cm S M ρ) Q → od_W 0 9 4 [some (.ref r), some (.int s), some (.int (nI (o + 1))), some (.int (nI i))] [] (od_cm S M ρ) Q := by
  intro m
  induction m with
  | zero =>
    intro e he _ o i _ _ _ hk
    have : e = [] := List.length_eq_zero_iff.mp (by omega)
    subst this
    exact hk
  | succ m ih =>
    intro e he hW o i ho hat hi hk
    rcases tm_cases hW with rfl | ⟨e1, c, r1, rfl, h1, h2, h3⟩
    · exact hk
    · rw [tm_at_cons, tm_at_app, tm_at_cons, tm_at_cons] at hat
      obtain ⟨a1, a2, a3, a4, a5⟩ := hat
      simp only [List.length_cons, List.length_append] at he ho hi hk
      refine ct_te_1 hS hr hn h60 (by omega) a1 ?_
      refine ih e1 (by omega) h1 (o + 1) (i + 1) (by omega) a2 (by omega) ?_
      refine ct_te_0 hS hr hn h60 (by omega) (by omega) a3 ?_
      refine ih r1 (by omega) h3 o _ (by omega) a5 (by omega) ?_
      rw [show i + 1 + e1.length + 2 + r1.length = i + (e1.length + (r1.length + 1 + 1) + 1) by omega]
      exact hk
theorem ct_termEnd (hS : od_SS S) (hr : S r = true) (hn : (ρ r).1 = n) (h60 : n ≤ 60) {a c : Nat} {e : List Nat} (he : tm_W e) (hat : tm_at (ρ r).2 a (1 :: (e ++ [0, c]))) (hle : a + e.length + 3 ≤ n) : od_W 0 9 0 (od_ent 9 [.ref r, .int (nI a)]) [] (od_cm S M ρ) (fun o M' => o = .inl (some (.int (nI (a + e.length + 3)))) ∧ M' = od_cm S M ρ) := by
  have e0 : od_ent 9 [.ref r, .int (nI a)] = [some (.ref r), some (.int (nI a)), none, none] := rfl
  rw [e0]
  rw [tm_at_cons, tm_at_app, tm_at_cons] at hat
  obtain ⟨a1, a2, a3, -⟩ := hat
  refine od_W.rn (pc' := 4) (ls' := [some (.ref _), some (.int _), some (.int _), some (.int _)]) (st' := []) 4 rfl ?_
  refine ct_te_1 (o := 0) hS hr hn h60 (by omega) a1 ?_
  refine ct_te_sc hS hr hn h60 e.length e (Nat.le_refl _) he 0 (a + 1) (by omega) a2 (by omega) ?_
  refine od_W.rn (pc' := 6) (ls' := [some (.ref _), some (.int _), some (.int _), some (.int _)]) (st' := [.ref _, .int _]) 2 rfl ?_
  refine od_gL rfl rfl (hr) (hn) ?_
  refine od_r2F rfl (of_decide_eq_true rfl) (decide_eq_false (nI_ge (by omega) (by omega))) ?_
  refine od_W.rn (pc' := 13) (ls' := [some (.ref _), some (.int _), some (.int _), some (.int _)]) (st' := [.ref _]) 1 rfl ?_
  refine od_gC rfl rfl (hr) ?_
  refine od_W.rn (pc' := 17) (ls' := [some (.ref _), some (.int _), some (.int _), some (.int _)]) (st' := [.int _, .ref _]) 1 rfl ?_
  refine od_gA rfl hS (hr) (rfl) ((by omega)) (a3) ?_
  refine od_W.rn (pc' := 19) (ls' := [some (.ref _), some (.int _), some (.int _), some (.int _)]) (st' := [.int _, .int _]) 1 rfl ?_
  refine od_r2T rfl rfl (rfl) ?_
  refine od_W.rn (pc' := 38) (ls' := [some (.ref _), some (.int _), some (.int _), some (.int _)]) (st' := [.int _]) 3 rfl ?_
  refine od_r1F rfl (of_decide_eq_true rfl) (rfl) ?_
  refine od_W.rn (pc' := 42) (ls' := [some (.ref _), some (.int _), some (.int _), some (.int _)]) (st' := [.int _]) 1 rfl ?_
  refine od_W.fin rfl ?_
  refine ⟨?_, rfl⟩
  have e2 : nI (a + 1 + e.length) + Int32.ofInt 2 = nI (a + e.length + 3) := by
    rw [show a + e.length + 3 = a + 1 + e.length + 2 by omega]
    exact nI_add _ 2
  rw [← e2]
end TE
