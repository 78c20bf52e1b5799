/-! The order of rows and parts. -/
theorem ct_compare {M : od_M} (x y : Nat) (hx : x < 2 ^ 31) (hy : y < 2 ^ 31) : od_W 0 157 0 (od_ent 157 [.int (nI x), .int (nI y)]) [] M (fun o M' => o = .inl (some (.int (if x < y then -1 else if y < x then 1 else 0))) ∧ M' = M) := by
  have e0 : od_ent 157 [.int (nI x), .int (nI y)] = [some (.int (nI x)), some (.int (nI y))] := rfl
  rw [e0]
  by_cases h1 : x < y
  · refine od_W.rn (pc' := 2) (ls' := [some (.int _), some (.int _)]) (st' := [.int _, .int _]) 2 rfl ?_
    refine od_r2F rfl (of_decide_eq_true rfl) (decide_eq_false (nI_ge h1 hy)) ?_
    refine od_W.rn (pc' := 19) (ls' := [some (.int _), some (.int _)]) (st' := [.int _]) 2 rfl ?_
    refine od_W.fin rfl ?_
    rw [if_pos h1]
    exact ⟨rfl, rfl⟩
  · rw [if_neg h1]
    refine od_W.rn (pc' := 2) (ls' := [some (.int _), some (.int _)]) (st' := [.int _, .int _]) 2 rfl ?_
    refine od_r2T rfl rfl (decide_eq_true (nI_le (by omega) hx)) ?_
    by_cases h2 : y < x
    · have c1 : od_cond .ne (nI x) (nI y) = true := by
        show (!decide (nI x = nI y)) = true
        rw [decide_eq_false (fun z => absurd ((nI_eq hx hy).mp z) (by omega))]
        rfl
      refine od_W.rn (pc' := 11) (ls' := [some (.int _), some (.int _)]) (st' := [.int _, .int _]) 2 rfl ?_
      refine od_r2T rfl rfl (c1) ?_
      refine od_W.rn (pc' := 19) (ls' := [some (.int _), some (.int _)]) (st' := [.int _]) 1 rfl ?_
      refine od_W.fin rfl ?_
      rw [if_pos h2]
      exact ⟨rfl, rfl⟩
    · have hxy : x = y := by omega
      subst hxy
      rw [if_neg h2]
      have c1 : od_cond .ne (nI x) (nI x) = false := by
        show (!decide (nI x = nI x)) = false
        rw [decide_eq_true rfl]
        rfl
      refine od_W.rn (pc' := 11) (ls' := [some (.int _), some (.int _)]) (st' := [.int _, .int _]) 2 rfl ?_
      refine od_r2F rfl (of_decide_eq_true rfl) (c1) ?_
      refine od_W.rn (pc' := 19) (ls' := [some (.int _), some (.int _)]) (st' := [.int _]) 2 rfl ?_
      refine od_W.fin rfl ?_
      exact ⟨rfl, rfl⟩
theorem ct_minI {M : od_M} (x y : Nat) (hx : x < 2 ^ 31) (hy : y < 2 ^ 31) : od_W 0 154 0 (od_ent 154 [.int (nI x), .int (nI y)]) [] M (fun o M' => o = .inl (some (.int (nI (min x y)))) ∧ M' = M) := by
  have e0 : od_ent 154 [.int (nI x), .int (nI y)] = [some (.int (nI x)), some (.int (nI y))] := rfl
  rw [e0]
  by_cases h1 : y < x
  · refine od_W.rn (pc' := 2) (ls' := [some (.int _), some (.int _)]) (st' := [.int _, .int _]) 2 rfl ?_
    refine od_r2T rfl rfl (decide_eq_true (nI_lt h1 hx)) ?_
    refine od_W.rn (pc' := 10) (ls' := [some (.int _), some (.int _)]) (st' := [.int _]) 1 rfl ?_
    refine od_W.fin rfl ?_
    rw [Nat.min_eq_right (by omega)]
    exact ⟨rfl, rfl⟩
  · refine od_W.rn (pc' := 2) (ls' := [some (.int _), some (.int _)]) (st' := [.int _, .int _]) 2 rfl ?_
    refine od_r2F rfl (of_decide_eq_true rfl) (decide_eq_false (nI_nlt (by omega) hy)) ?_
    refine od_W.rn (pc' := 10) (ls' := [some (.int _), some (.int _)]) (st' := [.int _]) 2 rfl ?_
    refine od_W.fin rfl ?_
    rw [Nat.min_eq_left (by omega)]
    exact ⟨rfl, rfl⟩
theorem tm_cmp_len (i : Nat) (us vs : List Nat) (h : us = [] ∨ vs = []) : tm_cmp us vs = (if i + us.length < i + vs.length then -1 else if i + vs.length < i + us.length then 1 else 0) := by
  rcases us with _ | ⟨u, us⟩
  · rcases vs with _ | ⟨v, vs⟩
    · simp [tm_cmp]
    · rw [tm_cmp, if_pos (by simp)]
  · rcases vs with _ | ⟨v, vs⟩
    · rw [tm_cmp, if_neg (by simp), if_pos (by simp)]
    · simp at h
section OP
variable {S : Nat → Bool} {M : od_M} {ρ : od_Rm} {p q : Nat}
theorem ct_op_loop (hS : od_SS S) (hp : S p = true) (hq' : S q = true) {a b : Nat} : ∀ (us vs : List Nat) (i : Nat) (w : Option Value), a + i + us.length ≤ 60 → b + i + vs.length ≤ 60 → tm_sm us → tm_sm vs → tm_at (ρ p).2 (a + i) us → tm_at (ρ q).2 (b + i) vs → od_W 1 28 16 [some (.ref p), some (.int (nI a)), some (.int (nI (a + i + us.length))), some (.ref q), some (.int (nI b)), some (.int (nI (b + i + vs.length))), some (.int (nI (i + min us.length vs.length))), some (.int (nI i)), w] [] (od_cm S M ρ) (fun o M' => o = .inl (some (.int (tm_cmp us vs))) ∧ M' = od_cm S M ρ) := by
  have fin : ∀ (us vs : List Nat) (i : Nat) (w : Option Value), (us = [] ∨ vs = []) → a + i + us.length ≤ 60 → b + i + vs.length ≤ 60 → od_W 1 28 16 [some (.ref p), some (.int (nI a)), some (.int (nI (a + i + us.length))), some (.ref q), some (.int (nI b)), some (.int (nI (b + i + vs.length))), some (.int (nI (i + min us.length vs.length))), some (.int (nI i)), w] [] (od_cm S M ρ) (fun o M' => o = .inl (some (.int (tm_cmp us vs))) ∧ M' = od_cm S M ρ) := by
    intro us vs i w h h1 h2
    have hm : min us.length vs.length = 0 := by
      rcases h with rfl | rfl <;> simp
    rw [hm, Nat.add_zero]
    refine od_W.rn (pc' := 20) (ls' := [some (.ref _), some (.int _), some (.int _), some (.ref _), some (.int _), some (.int _), some (.int _), some (.int _), _]) (st' := [.int _, .int _]) 2 rfl ?_
    refine od_r2T rfl rfl (decide_eq_true (Int32.le_refl _)) ?_
    refine od_W.rn (pc' := 69) (ls' := [some (.ref _), some (.int _), some (.int _), some (.ref _), some (.int _), some (.int _), some (.int _), some (.int _), _]) (st' := [.int _, .int _]) 6 rfl ?_
    have e1 : nI (a + i + us.length) - nI a = nI (i + us.length) := by rw [nI_subI (by omega)]; congr 1; omega
    have e2 : nI (b + i + vs.length) - nI b = nI (i + vs.length) := by rw [nI_subI (by omega)]; congr 1; omega
    rw [e1, e2]
    refine od_rSt (as := [.int (nI (i + us.length)), .int (nI (i + vs.length))]) rfl rfl rfl rfl (Nat.le_of_ble_eq_true rfl) (Nat.le_of_ble_eq_true rfl) (ct_compare (i + us.length) (i + vs.length) (by omega) (by omega)) (Nat.le_of_ble_eq_true rfl) (fun o M1 hq => ?_)
    obtain ⟨rfl, rfl⟩ := hq
    refine od_K.ret ?_
    refine od_W.fin rfl ?_
    rw [tm_cmp_len i us vs h]
    exact ⟨rfl, rfl⟩
  intro us
  induction us with
  | nil => intro vs i w h1 h2 _ _ _ _; exact fin [] vs i w (Or.inl rfl) h1 h2
  | cons u us ih =>
    intro vs i w h1 h2 s1 s2 a1 a2
    rcases vs with _ | ⟨v, vs⟩
    · exact fin (u :: us) [] i w (Or.inr rfl) h1 h2
    · rw [tm_at_cons] at a1 a2
      rw [tm_sm_cons] at s1 s2
      rw [List.length_cons] at h1 h2
      have hmin : min (u :: us).length (v :: vs).length = min us.length vs.length + 1 := by simp only [List.length_cons]; omega
      rw [hmin]
      refine od_W.rn (pc' := 20) (ls' := [some (.ref _), some (.int _), some (.int _), some (.ref _), some (.int _), some (.int _), some (.int _), some (.int _), _]) (st' := [.int _, .int _]) 2 rfl ?_
      refine od_r2F rfl (of_decide_eq_true rfl) (decide_eq_false (nI_ge (by omega) (by omega))) ?_
      refine od_W.rn (pc' := 24) (ls' := [some (.ref _), some (.int _), some (.int _), some (.ref _), some (.int _), some (.int _), some (.int _), some (.int _), _]) (st' := [.ref _]) 1 rfl ?_
      refine od_gC rfl rfl (hp) ?_
      refine od_W.rn (pc' := 31) (ls' := [some (.ref _), some (.int _), some (.int _), some (.ref _), some (.int _), some (.int _), some (.int _), some (.int _), _]) (st' := [.int _, .ref _]) 3 rfl ?_
      refine od_gA rfl hS (hp) (nI_add a i) ((by omega)) (a1.1) ?_
      refine od_W.rn (pc' := 33) (ls' := [some (.ref _), some (.int _), some (.int _), some (.ref _), some (.int _), some (.int _), some (.int _), some (.int _), _]) (st' := [.ref _, .int _]) 1 rfl ?_
      refine od_gC rfl rfl (hq') ?_
      refine od_W.rn (pc' := 41) (ls' := [some (.ref _), some (.int _), some (.int _), some (.ref _), some (.int _), some (.int _), some (.int _), some (.int _), _]) (st' := [.int _, .ref _, .int _]) 3 rfl ?_
      refine od_gA rfl hS (hq') (nI_add b i) ((by omega)) (a2.1) ?_
      refine od_rSt (as := [.int (nI u), .int (nI v)]) rfl rfl rfl rfl (Nat.le_of_ble_eq_true rfl) (Nat.le_of_ble_eq_true rfl) (ct_compare u v (by omega) (by omega)) (Nat.le_of_ble_eq_true rfl) (fun o M1 hq => ?_)
      obtain ⟨rfl, rfl⟩ := hq
      refine od_K.ret ?_
      refine od_W.rn (pc' := 49) (ls' := [some (.ref _), some (.int _), some (.int _), some (.ref _), some (.int _), some (.int _), some (.int _), some (.int _), some (.int _)]) (st' := [.int _]) 2 rfl ?_
      by_cases h3 : u < v
      · rw [if_pos h3]
        refine od_r1F rfl (of_decide_eq_true rfl) (rfl) ?_
        refine od_W.rn (pc' := 54) (ls' := [some (.ref _), some (.int _), some (.int _), some (.ref _), some (.int _), some (.int _), some (.int _), some (.int _), some (.int _)]) (st' := [.int _]) 1 rfl ?_
        refine od_W.fin rfl ?_
        rw [tm_cmp, if_pos h3]
        exact ⟨rfl, rfl⟩
      · rw [if_neg h3]
        by_cases h4 : v < u
        · rw [if_pos h4]
          refine od_r1F rfl (of_decide_eq_true rfl) (rfl) ?_
          refine od_W.rn (pc' := 54) (ls' := [some (.ref _), some (.int _), some (.int _), some (.ref _), some (.int _), some (.int _), some (.int _), some (.int _), some (.int _)]) (st' := [.int _]) 1 rfl ?_
          refine od_W.fin rfl ?_
          rw [tm_cmp, if_neg h3, if_pos h4]
          exact ⟨rfl, rfl⟩
        · rw [if_neg h4]
          refine od_r1T rfl rfl (rfl) ?_
          refine od_W.rn (pc' := 16) (ls' := [some (.ref _), some (.int _), some (.int _), some (.ref _), some (.int _), some (.int _), some (.int _), some (.int _), some (.int _)]) (st' := []) 2 rfl ?_
          have hk := ih vs (i + 1) (some (.int 0)) (by omega) (by omega) s1.2 s2.2 (by rw [← Nat.add_assoc]; exact a1.2) (by rw [← Nat.add_assoc]; exact a2.2)
          rw [tm_cmp, if_neg h3, if_neg h4]
          rw [show a + (i + 1) + us.length = a + i + (u :: us).length by simp only [List.length_cons]; omega, show b + (i + 1) + vs.length = b + i + (v :: vs).length by simp only [List.length_cons]; omega, show i + 1 + min us.length vs.length = i + (min us.length vs.length + 1) by omega, nI_succ i] at hk
          exact hk
theorem ct_orderOfParts (hS : od_SS S) (hp : S p = true) (hq' : S q = true) {a b : Nat} {us vs : List Nat} (h1 : a + us.length ≤ 60) (h2 : b + vs.length ≤ 60) (s1 : tm_sm us) (s2 : tm_sm vs) (a1 : tm_at (ρ p).2 a us) (a2 : tm_at (ρ q).2 b vs) : od_W 1 28 0 (od_ent 28 [.ref p, .int (nI a), .int (nI (a + us.length)), .ref q, .int (nI b), .int (nI (b + vs.length))]) [] (od_cm S M ρ) (fun o M' => o = .inl (some (.int (tm_cmp us vs))) ∧ M' = od_cm S M ρ) := by
  have e0 : od_ent 28 [.ref p, .int (nI a), .int (nI (a + us.length)), .ref q, .int (nI b), .int (nI (b + vs.length))] = [some (.ref p), some (.int (nI a)), some (.int (nI (a + us.length))), some (.ref q), some (.int (nI b)), some (.int (nI (b + vs.length))), none, none, none] := rfl
  rw [e0]
  refine od_W.rn (pc' := 8) (ls' := [some (.ref _), some (.int _), some (.int _), some (.ref _), some (.int _), some (.int _), none, none, none]) (st' := [.int _, .int _]) 6 rfl ?_
  rw [nI_subI (show a ≤ a + us.length by omega), nI_subI (show b ≤ b + vs.length by omega), Nat.add_sub_cancel_left, Nat.add_sub_cancel_left]
  refine od_rSt (as := [.int (nI us.length), .int (nI vs.length)]) rfl rfl rfl rfl (Nat.le_of_ble_eq_true rfl) (Nat.le_of_ble_eq_true rfl) (ct_minI us.length vs.length (by omega) (by omega)) (Nat.le_of_ble_eq_true rfl) (fun o M1 hq => ?_)
  obtain ⟨rfl, rfl⟩ := hq
  refine od_K.ret ?_
  refine od_W.rn (pc' := 16) (ls' := [some (.ref _), some (.int _), some (.int _), some (.ref _), some (.int _), some (.int _), some (.int _), some (.int _), none]) (st' := []) 3 rfl ?_
  have hk := ct_op_loop (M := M) hS hp hq' (a := a) (b := b) us vs 0 none (by omega) (by omega) s1 s2 a1 a2
  rw [Nat.zero_add, Nat.add_zero, Nat.add_zero] at hk
  exact hk
theorem ct_order (hS : od_SS S) (hp : S p = true) (hq' : S q = true) (hb : od_Bd ρ) {us vs : List Nat} (s1 : tm_sm us) (s2 : tm_sm vs) (a1 : od_li (ρ p) us) (a2 : od_li (ρ q) vs) : od_W 2 26 0 (od_ent 26 [.ref p, .ref q]) [] (od_cm S M ρ) (fun o M' => o = .inl (some (.int (tm_cmp us vs))) ∧ M' = od_cm S M ρ) := by
  have e0 : od_ent 26 [.ref p, .ref q] = [some (.ref p), some (.ref q)] := rfl
  rw [e0]
  have h1 := hb p
  have h2 := hb q
  rw [a1.1] at h1
  rw [a2.1] at h2
  refine od_W.rn (pc' := 3) (ls' := [some (.ref _), some (.ref _)]) (st' := [.ref _, .int _, .ref _]) 3 rfl ?_
  refine od_gL rfl rfl (hp) (a1.1) ?_
  refine od_W.rn (pc' := 9) (ls' := [some (.ref _), some (.ref _)]) (st' := [.ref _, .int _, .ref _, .int _, .int _, .ref _]) 3 rfl ?_
  refine od_gL rfl rfl (hq') (a2.1) ?_
  have hk := ct_orderOfParts (M := M) hS hp hq' (a := 0) (b := 0) (by omega) (by omega) s1 s2 a1.2 a2.2
  rw [Nat.zero_add, Nat.zero_add] at hk
  refine od_rSt (as := [.ref p, .int (nI 0), .int (nI us.length), .ref q, .int (nI 0), .int (nI vs.length)]) rfl rfl rfl rfl (Nat.le_of_ble_eq_true rfl) (Nat.le_of_ble_eq_true rfl) (hk) (Nat.le_of_ble_eq_true rfl) (fun o M1 hq => ?_)
  obtain ⟨rfl, rfl⟩ := hq
  refine od_K.ret ?_
  refine od_W.fin rfl ?_
  exact ⟨rfl, rfl⟩
/-- exponents of terms that stand at a and b -/
theorem ct_orderOfExponents (hS : od_SS S) (hp : S p = true) (hq' : S q = true) {a b c1 c2 : Nat} {us vs : List Nat} (h1 : a + us.length + 3 ≤ 60) (h2 : b + vs.length + 3 ≤ 60) (s1 : tm_sm us) (s2 : tm_sm vs) (a1 : tm_at (ρ p).2 a (1 :: (us ++ [0, c1]))) (a2 : tm_at (ρ q).2 b (1 :: (vs ++ [0, c2]))) : od_W 2 27 0 (od_ent 27 [.ref p, .int (nI a), .int (nI (a + us.length + 3)), .ref q, .int (nI b), .int (nI (b + vs.length + 3))]) [] (od_cm S M ρ) (fun o M' => o = .inl (some (.int (tm_cmp us vs))) ∧ M' = od_cm S M ρ) := by
  have e0 : od_ent 27 [.ref p, .int (nI a), .int (nI (a + us.length + 3)), .ref q, .int (nI b), .int (nI (b + vs.length + 3))] = [some (.ref p), some (.int (nI a)), some (.int (nI (a + us.length + 3))), some (.ref q), some (.int (nI b)), some (.int (nI (b + vs.length + 3)))] := rfl
  rw [e0]
  rw [tm_at_cons, tm_at_app] at a1 a2
  have g1 : nI a + 1 = nI (a + 1) := nI_add a 1
  have g2 : nI b + 1 = nI (b + 1) := nI_add b 1
  have g3 : nI (a + us.length + 3) - 2 = nI (a + 1 + us.length) := by
    have := nI_subI (show 2 ≤ a + us.length + 3 by omega)
    rw [show a + 1 + us.length = a + us.length + 3 - 2 by omega]
    exact this
  have g4 : nI (b + vs.length + 3) - 2 = nI (b + 1 + vs.length) := by
    have := nI_subI (show 2 ≤ b + vs.length + 3 by omega)
    rw [show b + 1 + vs.length = b + vs.length + 3 - 2 by omega]
    exact this
  refine od_W.rn (pc' := 16) (ls' := [some (.ref _), some (.int _), some (.int _), some (.ref _), some (.int _), some (.int _)]) (st' := [.int _, .int _, .ref _, .int _, .int _, .ref _]) 14 rfl ?_
  show od_W 2 27 16 _ [.int (nI (b + vs.length + 3) - 2), .int (nI b + 1), .ref q, .int (nI (a + us.length + 3) - 2), .int (nI a + 1), .ref p] _ _
  rw [g1, g2, g3, g4]
  refine od_rSt (as := [.ref p, .int (nI (a + 1)), .int (nI (a + 1 + us.length)), .ref q, .int (nI (b + 1)), .int (nI (b + 1 + vs.length))]) rfl rfl rfl rfl (Nat.le_of_ble_eq_true rfl) (Nat.le_of_ble_eq_true rfl) (ct_orderOfParts hS hp hq' (by omega) (by omega) s1 s2 a1.2.1 a2.2.1) (Nat.le_of_ble_eq_true rfl) (fun o M1 hq => ?_)
  obtain ⟨rfl, rfl⟩ := hq
  refine od_K.ret ?_
  refine od_W.fin rfl ?_
  exact ⟨rfl, rfl⟩
end OP
