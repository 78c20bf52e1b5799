/-! What an ordinal is worth as a number. -/
theorem ct_minJ {M : od_M} (x y : Nat) (hx : x < 2 ^ 63) (hy : y < 2 ^ 63) : od_W 0 156 0 (od_ent 156 [.long (lN x), .long (lN y)]) [] M (fun o M' => o = .inl (some (.long (lN (min x y)))) ∧ M' = M) := by
  have e0 : od_ent 156 [.long (lN x), .long (lN y)] = [some (.long (lN x)), none, some (.long (lN y)), none] := rfl
  rw [e0]
  refine od_W.rn (pc' := 3) (ls' := [some (.long _), none, some (.long _), none]) (st' := [.int _]) 3 rfl ?_
  by_cases h1 : y < x
  · refine od_r1T rfl rfl ((od_lc_gt _ _).trans (decide_eq_true ((pk_lLT hy hx).mpr h1))) ?_
    refine od_W.rn (pc' := 11) (ls' := [some (.long _), none, some (.long _), none]) (st' := [.long _]) 1 rfl ?_
    refine od_W.fin rfl ?_
    rw [Nat.min_eq_right (by omega)]
    exact ⟨rfl, rfl⟩
  · refine od_r1F rfl (of_decide_eq_true rfl) ((od_lc_gt _ _).trans (decide_eq_false (fun z => h1 ((pk_lLT hy hx).mp z)))) ?_
    refine od_W.rn (pc' := 11) (ls' := [some (.long _), none, some (.long _), none]) (st' := [.long _]) 2 rfl ?_
    refine od_W.fin rfl ?_
    rw [Nat.min_eq_left (by omega)]
    exact ⟨rfl, rfl⟩
theorem ct_max0 {M : od_M} (x : Nat) (hx : x < 2 ^ 31) : od_W 0 155 0 (od_ent 155 [.int (nI x), .int (nI 0)]) [] M (fun o M' => o = .inl (some (.int (nI x))) ∧ M' = M) := by
  have e0 : od_ent 155 [.int (nI x), .int (nI 0)] = [some (.int (nI x)), some (.int (nI 0))] := rfl
  rw [e0]
  refine od_W.rn (pc' := 2) (ls' := [some (.int _), some (.int _)]) (st' := [.int _, .int _]) 2 rfl ?_
  refine od_r2F rfl (of_decide_eq_true rfl) (decide_eq_false (nI_nlt (b := 0) (by omega) hx)) ?_
  refine od_W.rn (pc' := 10) (ls' := [some (.int _), some (.int _)]) (st' := [.int _]) 2 rfl ?_
  refine od_W.fin rfl ?_
  exact ⟨rfl, rfl⟩
abbrev vl_B : Nat := 1000000001
theorem ct_atMost {M : od_M} (x : Nat) (hx : x < 2 ^ 63) : od_W 1 60 0 (od_ent 60 [.long (lN x)]) [] M (fun o M' => o = .inl (some (.long (lN (min x vl_B)))) ∧ M' = M) := by
  have e0 : od_ent 60 [.long (lN x)] = [some (.long (lN x)), none] := rfl
  rw [e0]
  refine od_W.rn (pc' := 4) (ls' := [some (.long _), none]) (st' := [.long _, .long _]) 2 rfl ?_
  refine od_rSt (as := [.long (lN x), .long (lN vl_B)]) rfl rfl rfl rfl (Nat.le_of_ble_eq_true rfl) (Nat.le_of_ble_eq_true rfl) (ct_minJ x vl_B hx (by decide)) (Nat.le_of_ble_eq_true rfl) (fun o M1 hq => ?_)
  obtain ⟨rfl, rfl⟩ := hq
  refine od_K.ret ?_
  refine od_W.fin rfl ?_
  exact ⟨rfl, rfl⟩
theorem vl_grow {n : Nat} (hn : 2 ≤ n) : ∀ e, e < n ^ e := by
  intro e
  exact Nat.lt_of_lt_of_le (Nat.lt_two_pow_self) (Nat.pow_le_pow_left hn e)
theorem od_lc_ge (x y : Int64) : od_cond .ge (lg_cmp x y) 0 = decide (y ≤ x) := by
  by_cases h : y ≤ x
  · rw [decide_eq_true h]; exact decide_eq_true ((lg_cmp_ge x y).mpr h)
  · rw [decide_eq_false h]; exact decide_eq_false (fun z => h ((lg_cmp_ge x y).mp z))
theorem od_lc_ne (x y : Int64) : od_cond .ne (lg_cmp x y) 0 = !decide (x = y) := by
  show (!decide (lg_cmp x y = 0)) = _
  by_cases h : x = y
  · rw [decide_eq_true h, decide_eq_true ((lg_cmp_eq x y).mpr h)]
  · rw [decide_eq_false h, decide_eq_false (fun z => h ((lg_cmp_eq x y).mp z))]
theorem cl_po_loop {M : od_M} {n e : Nat} (hn : 2 ≤ n) (hn2 : n ≤ 1000) (he : e ≤ vl_B) : ∀ (m i : Nat), i + m = e → od_W 2 59 27 [some (.int (nI n)), some (.long (lN e)), none, some (.long (lN (min (n ^ i) vl_B))), none, some (.long (lN i)), none] [] M (fun o M' => o = .inl (some (.long (lN (min (n ^ e) vl_B)))) ∧ M' = M) := by
  have vB : vl_B = 1000000001 := rfl
  intro m
  induction m with
  | zero =>
    intro i hi
    have : i = e := by omega
    subst this
    refine od_W.rn (pc' := 31) (ls' := [some (.int _), some (.long _), none, some (.long _), none, some (.long _), none]) (st' := [.int _]) 3 rfl ?_
    refine od_r1T rfl rfl ((od_lc_ge _ _).trans (decide_eq_true (Int64.le_refl _))) ?_
    refine od_W.rn (pc' := 60) (ls' := [some (.int _), some (.long _), none, some (.long _), none, some (.long _), none]) (st' := [.long _]) 1 rfl ?_
    refine od_W.fin rfl ?_
    exact ⟨rfl, rfl⟩
  | succ m ih =>
    intro i hi
    refine od_W.rn (pc' := 31) (ls' := [some (.int _), some (.long _), none, some (.long _), none, some (.long _), none]) (st' := [.int _]) 3 rfl ?_
    refine od_r1F rfl (of_decide_eq_true rfl) ((od_lc_ge _ _).trans (decide_eq_false (fun z => absurd ((pk_lLE (by omega) (by omega)).mp z) (by omega)))) ?_
    refine od_W.rn (pc' := 39) (ls' := [some (.int _), some (.long _), none, some (.long _), none, some (.long _), none]) (st' := [.int _]) 3 rfl ?_
    by_cases hp : n ^ i < vl_B
    · have e1 : min (n ^ i) vl_B = n ^ i := Nat.min_eq_left (by omega)
      rw [e1]
      have hm : n ^ i * n < 2 ^ 63 := Nat.lt_of_le_of_lt (Nat.mul_le_mul (Nat.le_of_lt hp) hn2) (by decide)
      refine od_r1F rfl (of_decide_eq_true rfl) ((od_lc_gt _ _).trans (decide_eq_false (fun z => absurd ((pk_lLT (a := 1000000000) (by omega) (by omega)).mp z) (by omega)))) ?_
      refine od_W.rn (pc' := 46) (ls' := [some (.int _), some (.long _), none, some (.long _), none, some (.long _), none]) (st' := [.long _]) 4 rfl ?_
      rw [nI_1000 (by omega), lN_mul]
      refine od_rSt (as := [.long (lN (n ^ i * n))]) rfl rfl rfl rfl (Nat.le_of_ble_eq_true rfl) (Nat.le_of_ble_eq_true rfl) (ct_atMost _ hm) (Nat.le_of_ble_eq_true rfl) (fun o M1 hq => ?_)
      obtain ⟨rfl, rfl⟩ := hq
      refine od_K.ret ?_
      refine od_W.rn (pc' := 27) (ls' := [some (.int _), some (.long _), none, some (.long _), none, some (.long _), none]) (st' := []) 6 rfl ?_
      show od_W 2 59 27 [some (.int (nI n)), some (.long (lN e)), none, some (.long (lN (min (n ^ i * n) vl_B))), none, some (.long (lN i + lN 1)), none] [] _ _
      rw [lN_add i 1, ← Nat.pow_succ]
      exact ih (i + 1) (by omega)
    · have e1 : min (n ^ i) vl_B = vl_B := Nat.min_eq_right (by omega)
      have h2 : n ^ i ≤ n ^ e := Nat.pow_le_pow_right (by omega) (by omega)
      have e2 : min (n ^ e) vl_B = vl_B := Nat.min_eq_right (by omega)
      rw [e1, e2]
      refine od_r1T rfl rfl ((od_lc_gt _ _).trans (decide_eq_true ((pk_lLT (a := 1000000000) (b := vl_B) (by omega) (by omega)).mpr (by omega)))) ?_
      refine od_W.rn (pc' := 60) (ls' := [some (.int _), some (.long _), none, some (.long _), none, some (.long _), none]) (st' := [.long _]) 1 rfl ?_
      refine od_W.fin rfl ?_
      exact ⟨rfl, rfl⟩
theorem ct_powerOf {M : od_M} (n e : Nat) (hn2 : n ≤ 1000) : od_W 2 59 0 (od_ent 59 [.int (nI n), .long (lN (min e vl_B))]) [] M (fun o M' => o = .inl (some (.long (lN (min (n ^ e) vl_B)))) ∧ M' = M) := by
  have e0 : od_ent 59 [.int (nI n), .long (lN (min e vl_B))] = [some (.int (nI n)), some (.long (lN (min e vl_B))), none, none, none, none, none] := rfl
  rw [e0]
  have vB : vl_B = 1000000001 := rfl
  have hmb : min e vl_B ≤ vl_B := Nat.min_le_right _ _
  refine od_W.rn (pc' := 2) (ls' := [some (.int _), some (.long _), none, none, none, none, none]) (st' := [.int _, .int _]) 2 rfl ?_
  by_cases h2 : n < 2
  · refine od_r2F rfl (of_decide_eq_true rfl) (decide_eq_false (nI_ge (b := 2) h2 (by omega))) ?_
    refine od_W.rn (pc' := 7) (ls' := [some (.int _), some (.long _), none, none, none, none, none]) (st' := [.int _, .int _]) 2 rfl ?_
    by_cases h1 : n = 1
    · subst h1
      refine od_r2T rfl rfl (rfl) ?_
      refine od_W.rn (pc' := 21) (ls' := [some (.int _), some (.long _), none, none, none, none, none]) (st' := [.long _]) 2 rfl ?_
      refine od_W.fin rfl ?_
      refine ⟨?_, rfl⟩
      rw [Nat.one_pow]
      rfl
    · have h0 : n = 0 := by omega
      subst h0
      refine od_r2F rfl (of_decide_eq_true rfl) (rfl) ?_
      refine od_W.rn (pc' := 13) (ls' := [some (.int _), some (.long _), none, none, none, none, none]) (st' := [.int _]) 3 rfl ?_
      by_cases he : e = 0
      · subst he
        refine od_r1F rfl (of_decide_eq_true rfl) (rfl) ?_
        refine od_W.rn (pc' := 21) (ls' := [some (.int _), some (.long _), none, none, none, none, none]) (st' := [.long _]) 2 rfl ?_
        refine od_W.fin rfl ?_
        exact ⟨rfl, rfl⟩
      · refine od_r1T rfl rfl ((od_lc_ne _ _).trans (by show (!decide (lN (min e vl_B) = 0)) = true; rw [decide_eq_false (lN_ne0 (n := min e vl_B) (by omega) (by omega))]; rfl)) ?_
        refine od_W.rn (pc' := 21) (ls' := [some (.int _), some (.long _), none, none, none, none, none]) (st' := [.long _]) 1 rfl ?_
        refine od_W.fin rfl ?_
        refine ⟨?_, rfl⟩
        rw [Nat.zero_pow (by omega)]
        rfl
  · refine od_r2T rfl rfl (decide_eq_true (nI_le (a := 2) (by omega) (by omega))) ?_
    refine od_W.rn (pc' := 27) (ls' := [some (.int _), some (.long _), none, some (.long _), none, some (.long _), none]) (st' := []) 4 rfl ?_
    have := cl_po_loop (M := M) (n := n) (e := min e vl_B) (by omega) hn2 hmb (min e vl_B) 0 (by omega)
    rw [Nat.pow_zero, show min 1 vl_B = 1 from rfl] at this
    refine this.mono fun o M' h => ⟨?_, h.2⟩
    rw [h.1]
    by_cases he : e ≤ vl_B
    · rw [Nat.min_eq_left he]
    · rw [show min e vl_B = vl_B from Nat.min_eq_right (by omega)]
      have g1 := vl_grow (n := n) (by omega) vl_B
      have g2 := vl_grow (n := n) (by omega) e
      rw [show min (n ^ vl_B) vl_B = vl_B from Nat.min_eq_right (Nat.le_of_lt g1), show min (n ^ e) vl_B = vl_B from Nat.min_eq_right (by omega)]
/-- the scan that values a row: a stack of sums -/
def vl_sc (n : Nat) : List Nat → List Nat → Nat
  | 1 :: r, s => vl_sc n r (0 :: s)
  | 0 :: c :: r, a :: b :: s => vl_sc n r ((b + c * n ^ a) :: s)
  | _, s => s.headD 0
def vl_ok (f : Nat → Int64) (B : Nat) : List Nat → Prop
  | [] => True
  | a :: s => f s.length = lN (min a B) ∧ vl_ok f B s
theorem vl_ok.up {f : Nat → Int64} {B : Nat} {v : Int64} : ∀ {s : List Nat} {k : Nat}, vl_ok f B s → s.length ≤ k → vl_ok (vp_updL f k v) B s := by
  intro s
  induction s with
  | nil => intro _ _ _; exact trivial
  | cons a s ih =>
    intro k h hk
    simp at hk
    refine ⟨?_, ih h.2 (by omega)⟩
    rw [show vp_updL f k v s.length = f s.length from if_neg (by omega)]
    exact h.1
theorem tm_sc_len : ∀ (n : Nat) (xs : List Nat), xs.length ≤ n → ∀ d, tm_sc d xs = true → 2 * d ≤ xs.length := by
  intro n
  induction n with
  | zero =>
    intro xs h d hs
    rw [List.length_eq_zero_iff.mp (by omega : xs.length = 0)] at hs
    cases d with
    | zero => omega
    | succ d => exact absurd hs (by simp [tm_sc])
  | succ n ih =>
    intro xs h d hs
    rcases xs with _ | ⟨t, xs⟩
    · cases d with
      | zero => omega
      | succ d => exact absurd hs (by simp [tm_sc])
    · simp at h
      rcases tm_sc_inv hs with ⟨rfl, h2⟩ | ⟨rfl, d', c, ys, rfl, rfl, h3, h4⟩
      · have := ih xs (by omega) (d + 1) h2
        simp; omega
      · simp at h
        have := ih ys (by omega) d' h4
        simp; omega
theorem vl_cap (a b c p : Nat) (hc : 1 ≤ c) : min (min b vl_B + c * min p vl_B) vl_B = min (b + c * p) vl_B := by
  have vB : vl_B = 1000000001 := rfl
  by_cases hb : b ≤ vl_B
  · rw [Nat.min_eq_left hb]
    by_cases hp : p ≤ vl_B
    · rw [Nat.min_eq_left hp]
    · rw [Nat.min_eq_right (show vl_B ≤ p by omega)]
      have h1 : vl_B ≤ c * vl_B := Nat.le_mul_of_pos_left _ hc
      have h2 : p ≤ c * p := Nat.le_mul_of_pos_left _ hc
      omega
  · rw [Nat.min_eq_right (show vl_B ≤ b by omega)]
    omega
section VAL
variable {S : Nat → Bool} {ρ : od_Rm} {x a : Nat}
abbrev od_NU (M : od_M) (x : Nat) : Prop := M.2.2 x = some (od_ob 6 [.ref (x + 1)])
def vl_o (S : Nat → Bool) (M : od_M) (ρ : od_Rm) (x : Nat) (v : Nat) : od_O → od_M → Prop := fun o M2 => ∃ M' f, od_eM [x + 1] M M' ∧ M'.2.2 (x + 1) = some (od_la 21 f) ∧ M2 = od_cm S M' ρ ∧ o = .inl (some (.long (lN (min v vl_B))))
set_option maxRecDepth 100000 in
theorem cl_wr_loop (hS : od_SS S) (ha : S a = true) (hb : od_Bd ρ) (n0 : od_no S x) (n1 : od_no S (x + 1)) {n : Nat} (hn : n ≤ 1000) : ∀ (m : Nat) (todo done : List Nat) (s : List Nat) (M : od_M) (f : Nat → Int64) (w5 w6 : Option Value), todo.length ≤ m → ∀ d, tm_sc d todo = true → s.length = d + 1 → d ≤ done.length → (∀ y ∈ todo, y ≤ 1000000) → od_hl ρ a (done ++ todo) → od_NU M x → M.2.2 (x + 1) = some (od_la 21 f) → vl_ok f vl_B s → (w5 = none ∨ ∃ z, w5 = some (.long z)) → w6 = none → od_W 3 58 12 [some (.ref x), some (.ref a), some (.int (nI n)), some (.int (nI d)), some (.int (nI done.length)), w5, w6] [] (od_cm S M ρ) (vl_o S M ρ x (vl_sc n todo s)) := by
  have vB : vl_B = 1000000001 := rfl
  intro m
  induction m with
  | zero =>
    intro todo done s M f w5 w6 hm d hd hs hdl hsm hx hN hf hok hw5 hw6
    have e : todo = [] := List.length_eq_zero_iff.mp (by omega)
    subst e
    have hl := hx.n
    rw [List.append_nil] at hl
    have h60 := hx.le hb
    rw [List.append_nil] at h60
    have hd0 : d = 0 := by
      cases d with
      | zero => rfl
      | succ d => exact absurd hd (by simp [tm_sc])
    subst hd0
    obtain ⟨a0, rfl⟩ : ∃ a0, s = [a0] := List.length_eq_one_iff.mp hs
    refine od_W.rn (pc' := 15) (ls' := [some (.ref _), some (.ref _), some (.int _), some (.int _), some (.int _), _, _]) (st' := [.ref _, .int _]) 2 rfl ?_
    refine od_gL rfl rfl (ha) (hl) ?_
    refine od_r2T rfl rfl (decide_eq_true (nI_le (Nat.le_refl _) (by omega))) ?_
    refine od_W.rn (pc' := 109) (ls' := [some (.ref _), some (.ref _), some (.int _), some (.int _), some (.int _), _, _]) (st' := [.ref _]) 1 rfl ?_
    refine od_rG rfl (od_cm_o n0 hN) rfl rfl ?_
    refine od_W.rn (pc' := 113) (ls' := [some (.ref _), some (.ref _), some (.int _), some (.int _), some (.int _), _, _]) (st' := [.int _, .ref _]) 1 rfl ?_
    refine od_rLL rfl (od_cm_o n1 hf) ((show Int32.ofInt 0 = nI 0 from rfl)) ((by omega)) (by decide) ?_
    refine od_W.fin rfl ?_
    have h1 : f 0 = lN (min a0 vl_B) := hok.1
    exact ⟨M, f, od_eM.refl _ _, hf, rfl, by rw [h1]; rfl⟩
  | succ m ih =>
    intro todo done s M f w5 w6 hm d hd hs hdl hsm hx hN hf hok hw5 hw6
    rcases todo with _ | ⟨t, todo⟩
    · have hl := hx.n
      rw [List.append_nil] at hl
      have h60 := hx.le hb
      rw [List.append_nil] at h60
      have hd0 : d = 0 := by
        cases d with
        | zero => rfl
        | succ d => exact absurd hd (by simp [tm_sc])
      subst hd0
      obtain ⟨a0, rfl⟩ : ∃ a0, s = [a0] := List.length_eq_one_iff.mp hs
      refine od_W.rn (pc' := 15) (ls' := [some (.ref _), some (.ref _), some (.int _), some (.int _), some (.int _), _, _]) (st' := [.ref _, .int _]) 2 rfl ?_
      refine od_gL rfl rfl (ha) (hl) ?_
      refine od_r2T rfl rfl (decide_eq_true (nI_le (Nat.le_refl _) (by omega))) ?_
      refine od_W.rn (pc' := 109) (ls' := [some (.ref _), some (.ref _), some (.int _), some (.int _), some (.int _), _, _]) (st' := [.ref _]) 1 rfl ?_
      refine od_rG rfl (od_cm_o n0 hN) rfl rfl ?_
      refine od_W.rn (pc' := 113) (ls' := [some (.ref _), some (.ref _), some (.int _), some (.int _), some (.int _), _, _]) (st' := [.int _, .ref _]) 1 rfl ?_
      refine od_rLL rfl (od_cm_o n1 hf) ((show Int32.ofInt 0 = nI 0 from rfl)) ((by omega)) (by decide) ?_
      refine od_W.fin rfl ?_
      have h1 : f 0 = lN (min a0 vl_B) := hok.1
      exact ⟨M, f, od_eM.refl _ _, hf, rfl, by rw [h1]; rfl⟩
    · have hl := hx.n
      have h60 := hx.le hb
      have hat := hx.at
      rw [tm_at_app, Nat.zero_add, tm_at_cons] at hat
      rw [List.length_append] at hl h60
      simp only [List.length_cons] at hl h60 hm
      rcases tm_sc_inv hd with ⟨rfl, h2⟩ | ⟨rfl, d', c, ys, rfl, rfl, h3, h4⟩
      · have hlen := tm_sc_len _ todo (Nat.le_refl _) (d + 1) h2
        refine od_W.rn (pc' := 15) (ls' := [some (.ref _), some (.ref _), some (.int _), some (.int _), some (.int _), _, _]) (st' := [.ref _, .int _]) 2 rfl ?_
        refine od_gL rfl rfl (ha) (hl) ?_
        refine od_r2F rfl (of_decide_eq_true rfl) (decide_eq_false (nI_ge (by omega) (by omega))) ?_
        refine od_W.rn (pc' := 22) (ls' := [some (.ref _), some (.ref _), some (.int _), some (.int _), some (.int _), _, _]) (st' := [.ref _]) 1 rfl ?_
        refine od_gC rfl rfl (ha) ?_
        refine od_W.rn (pc' := 27) (ls' := [some (.ref _), some (.ref _), some (.int _), some (.int _), some (.int _), _, _]) (st' := [.int _, .ref _]) 1 rfl ?_
        refine od_gA rfl hS (ha) (rfl) (by omega) (hat.2.1) ?_
        refine od_W.rn (pc' := 29) (ls' := [some (.ref _), some (.ref _), some (.int _), some (.int _), some (.int _), _, _]) (st' := [.int _, .int _]) 1 rfl ?_
        refine od_r2F rfl (of_decide_eq_true rfl) (rfl) ?_
        refine od_W.rn (pc' := 35) (ls' := [some (.ref _), some (.ref _), some (.int _), some (.int _), some (.int _), _, _]) (st' := [.int _, .int _]) 2 rfl ?_
        refine od_r2F rfl (of_decide_eq_true rfl) (decide_eq_false (nI_ge (b := 20) (by omega) (by omega))) ?_
        refine od_W.rn (pc' := 42) (ls' := [some (.ref _), some (.ref _), some (.int _), some (.int _), some (.int _), _, _]) (st' := [.ref _]) 2 rfl ?_
        rw [nI_inc d]
        refine od_rG rfl (od_cm_o n0 hN) rfl rfl ?_
        refine od_W.rn (pc' := 47) (ls' := [some (.ref _), some (.ref _), some (.int _), some (.int _), some (.int _), _, _]) (st' := [.long _, .int _, .ref _]) 2 rfl ?_
        refine od_rLS rfl (od_cm_o n1 hf) (rfl) (by omega) (by decide) ?_
        rw [od_cm_set n1]
        have hN1 : od_NU (od_set M (x + 1) (od_la 21 (vp_updL f (d + 1) (lN 0)))) x := (od_set_o (by omega)).trans hN
        refine od_W.rn (pc' := 12) (ls' := [some (.ref _), some (.ref _), some (.int _), some (.int _), some (.int _), _, _]) (st' := []) 2 rfl ?_
        rw [nI_inc done.length, show done.length + 1 = (done ++ [1]).length by simp]
        refine (ih todo (done ++ [1]) (0 :: s) _ (vp_updL f (d + 1) (lN 0)) _ _ (by omega) (d + 1) h2 (by simp [hs]) (by simp; omega) (fun y hy => hsm y (List.mem_cons_of_mem _ hy)) (by simpa using hx) hN1 (od_set_s _ _ _) ⟨?_, hok.up (by omega)⟩ hw5 hw6).mono fun o M3 hh => ?_
        · rw [hs]; exact if_pos rfl
        · obtain ⟨M', f', q1, q2, q3, q4⟩ := hh
          exact ⟨M', f', ((od_eM.refl _ M).set (by simp)).tr q1, q2, q3, q4⟩
      · rw [tm_at_cons] at hat
        have hlen := tm_sc_len _ ys (Nat.le_refl _) d' h4
        obtain ⟨a0, s1, rfl⟩ : ∃ a0 s1, s = a0 :: s1 := by
          rcases s with _ | ⟨a0, s1⟩
          · simp at hs
          · exact ⟨a0, s1, rfl⟩
        obtain ⟨b0, s2, rfl⟩ : ∃ b0 s2, s1 = b0 :: s2 := by
          rcases s1 with _ | ⟨b0, s2⟩
          · simp at hs
          · exact ⟨b0, s2, rfl⟩
        simp only [List.length_cons] at hs hl h60 hm
        have hs2 : s2.length = d' := by omega
        obtain ⟨k1, k2, k3⟩ := hok
        simp only [List.length_cons, hs2] at k1 k2
        have hcc := h3
        unfold tm_c at hcc
        have hmp : min (n ^ a0) vl_B ≤ vl_B := Nat.min_le_right _ _
        have hmb : min b0 vl_B ≤ vl_B := Nat.min_le_right _ _
        have hmul : c * min (n ^ a0) vl_B ≤ 1000000 * vl_B := Nat.mul_le_mul hcc.2 hmp
        have eX : vl_sc n (0 :: c :: ys) (a0 :: b0 :: s2) = vl_sc n ys ((b0 + c * n ^ a0) :: s2) := rfl
        rw [eX]
        refine od_W.rn (pc' := 15) (ls' := [some (.ref _), some (.ref _), some (.int _), some (.int _), some (.int _), _, _]) (st' := [.ref _, .int _]) 2 rfl ?_
        refine od_gL rfl rfl (ha) (hl) ?_
        refine od_r2F rfl (of_decide_eq_true rfl) (decide_eq_false (nI_ge (by omega) (by omega))) ?_
        refine od_W.rn (pc' := 22) (ls' := [some (.ref _), some (.ref _), some (.int _), some (.int _), some (.int _), _, _]) (st' := [.ref _]) 1 rfl ?_
        refine od_gC rfl rfl (ha) ?_
        refine od_W.rn (pc' := 27) (ls' := [some (.ref _), some (.ref _), some (.int _), some (.int _), some (.int _), _, _]) (st' := [.int _, .ref _]) 1 rfl ?_
        refine od_gA rfl hS (ha) (rfl) (by omega) (hat.2.1) ?_
        refine od_W.rn (pc' := 29) (ls' := [some (.ref _), some (.ref _), some (.int _), some (.int _), some (.int _), _, _]) (st' := [.int _, .int _]) 1 rfl ?_
        refine od_r2T rfl rfl (rfl) ?_
        refine od_W.rn (pc' := 59) (ls' := [some (.ref _), some (.ref _), some (.int _), some (.int _), some (.int _), _, _]) (st' := [.int _, .ref _]) 4 rfl ?_
        rw [show nI done.length + Int32.ofInt 2 = nI (done.length + 1 + 1) from nI_add done.length 2]
        refine od_rV (as := [.int (nI (done.length + 1 + 1))]) rfl rfl rfl rfl (od_cm_r ha) rfl (Nat.le_of_ble_eq_true rfl) (Nat.le_of_ble_eq_true rfl) (ct_coefficient hS ha hl (by omega) (by omega) hat.2.2.1) (Nat.le_of_ble_eq_true rfl) (fun o M1 hq => ?_)
        obtain ⟨rfl, rfl⟩ := hq
        refine od_K.ret ?_
        refine od_W.rn (pc' := 65) (ls' := [some (.ref _), some (.ref _), some (.int _), some (.int _), some (.int _), _, _]) (st' := [.ref _, .int _, .long _]) 3 rfl ?_
        refine od_rG rfl (od_cm_o n0 hN) rfl rfl ?_
        refine od_W.rn (pc' := 69) (ls' := [some (.ref _), some (.ref _), some (.int _), some (.int _), some (.int _), _, _]) (st' := [.int _, .ref _, .int _, .long _]) 1 rfl ?_
        refine od_rLL rfl (od_cm_o n1 hf) (rfl) ((by omega)) (by decide) ?_
        rw [k1]
        refine od_rSt (as := [.int (nI n), .long (lN (min a0 vl_B))]) rfl rfl rfl rfl (Nat.le_of_ble_eq_true rfl) (Nat.le_of_ble_eq_true rfl) (ct_powerOf n a0 hn) (Nat.le_of_ble_eq_true rfl) (fun o M1 hq => ?_)
        obtain ⟨rfl, rfl⟩ := hq
        refine od_K.ret ?_
        rcases hw5 with rfl | ⟨z5, rfl⟩
        · subst hw6
          refine od_W.rn (pc' := 80) (ls' := [some (.ref _), some (.ref _), some (.int _), some (.int _), some (.int _), some (.long _), none]) (st' := [.int _, .int _]) 6 rfl ?_
          rw [nI_1000 hcc.2, lN_mul, show nI (d' + 1) - Int32.ofInt 1 = nI d' from nI_pred d']
          refine od_rSt (as := [.int (nI d'), .int (nI 0)]) rfl rfl rfl rfl (Nat.le_of_ble_eq_true rfl) (Nat.le_of_ble_eq_true rfl) (ct_max0 d' (by omega)) (Nat.le_of_ble_eq_true rfl) (fun o M1 hq => ?_)
          obtain ⟨rfl, rfl⟩ := hq
          refine od_K.ret ?_
          refine od_W.rn (pc' := 85) (ls' := [some (.ref _), some (.ref _), some (.int _), some (.int _), some (.int _), some (.long _), none]) (st' := [.ref _]) 2 rfl ?_
          refine od_rG rfl (od_cm_o n0 hN) rfl rfl ?_
          refine od_W.rn (pc' := 90) (ls' := [some (.ref _), some (.ref _), some (.int _), some (.int _), some (.int _), some (.long _), none]) (st' := [.ref _, .int _, .ref _]) 2 rfl ?_
          refine od_rG rfl (od_cm_o n0 hN) rfl rfl ?_
          refine od_W.rn (pc' := 94) (ls' := [some (.ref _), some (.ref _), some (.int _), some (.int _), some (.int _), some (.long _), none]) (st' := [.int _, .ref _, .int _, .ref _]) 1 rfl ?_
          refine od_rLL rfl (od_cm_o n1 hf) (rfl) ((by omega)) (by decide) ?_
          refine od_W.rn (pc' := 98) (ls' := [some (.ref _), some (.ref _), some (.int _), some (.int _), some (.int _), some (.long _), none]) (st' := [.long _, .int _, .ref _]) 2 rfl ?_
          rw [k2, lN_add]
          refine od_rSt (as := [.long (lN (min b0 vl_B + c * min (n ^ a0) vl_B))]) rfl rfl rfl rfl (Nat.le_of_ble_eq_true rfl) (Nat.le_of_ble_eq_true rfl) (ct_atMost _ (by omega)) (Nat.le_of_ble_eq_true rfl) (fun o M1 hq => ?_)
          obtain ⟨rfl, rfl⟩ := hq
          refine od_K.ret ?_
          refine od_rLS rfl (od_cm_o n1 hf) (rfl) ((by omega)) (by decide) ?_
          rw [od_cm_set n1, vl_cap a0 b0 c (n ^ a0) hcc.1]
          have hN1 : od_NU (od_set M (x + 1) (od_la 21 (vp_updL f d' (lN (min (b0 + c * n ^ a0) vl_B))))) x := (od_set_o (by omega)).trans hN
          refine od_W.rn (pc' := 12) (ls' := [some (.ref _), some (.ref _), some (.int _), some (.int _), some (.int _), some (.long _), none]) (st' := []) 2 rfl ?_
          rw [show nI done.length + Int32.ofInt 2 = nI (done ++ [0, c]).length by rw [List.length_append]; exact nI_add done.length 2]
          refine (ih ys (done ++ [0, c]) ((b0 + c * n ^ a0) :: s2) _ _ _ _ (by omega) d' h4 (by simp [hs2]) (by simp; omega) (fun y hy => hsm y (List.mem_cons_of_mem _ (List.mem_cons_of_mem _ hy))) (by simpa using hx) hN1 (od_set_s _ _ _) ⟨?_, k3.up (by omega)⟩ (Or.inr ⟨_, rfl⟩) rfl).mono fun o M3 hh => ?_
          · rw [hs2]; exact if_pos rfl
          · obtain ⟨M', f', q1, q2, q3, q4⟩ := hh
            exact ⟨M', f', ((od_eM.refl _ M).set (by simp)).tr q1, q2, q3, q4⟩
        · subst hw6
          refine od_W.rn (pc' := 80) (ls' := [some (.ref _), some (.ref _), some (.int _), some (.int _), some (.int _), some (.long _), none]) (st' := [.int _, .int _]) 6 rfl ?_
          rw [nI_1000 hcc.2, lN_mul, show nI (d' + 1) - Int32.ofInt 1 = nI d' from nI_pred d']
          refine od_rSt (as := [.int (nI d'), .int (nI 0)]) rfl rfl rfl rfl (Nat.le_of_ble_eq_true rfl) (Nat.le_of_ble_eq_true rfl) (ct_max0 d' (by omega)) (Nat.le_of_ble_eq_true rfl) (fun o M1 hq => ?_)
          obtain ⟨rfl, rfl⟩ := hq
          refine od_K.ret ?_
          refine od_W.rn (pc' := 85) (ls' := [some (.ref _), some (.ref _), some (.int _), some (.int _), some (.int _), some (.long _), none]) (st' := [.ref _]) 2 rfl ?_
          refine od_rG rfl (od_cm_o n0 hN) rfl rfl ?_
          refine od_W.rn (pc' := 90) (ls' := [some (.ref _), some (.ref _), some (.int _), some (.int _), some (.int _), some (.long _), none]) (st' := [.ref _, .int _, .ref _]) 2 rfl ?_
          refine od_rG rfl (od_cm_o n0 hN) rfl rfl ?_
          refine od_W.rn (pc' := 94) (ls' := [some (.ref _), some (.ref _), some (.int _), some (.int _), some (.int _), some (.long _), none]) (st' := [.int _, .ref _, .int _, .ref _]) 1 rfl ?_
          refine od_rLL rfl (od_cm_o n1 hf) (rfl) ((by omega)) (by decide) ?_
          refine od_W.rn (pc' := 98) (ls' := [some (.ref _), some (.ref _), some (.int _), some (.int _), some (.int _), some (.long _), none]) (st' := [.long _, .int _, .ref _]) 2 rfl ?_
          rw [k2, lN_add]
          refine od_rSt (as := [.long (lN (min b0 vl_B + c * min (n ^ a0) vl_B))]) rfl rfl rfl rfl (Nat.le_of_ble_eq_true rfl) (Nat.le_of_ble_eq_true rfl) (ct_atMost _ (by omega)) (Nat.le_of_ble_eq_true rfl) (fun o M1 hq => ?_)
          obtain ⟨rfl, rfl⟩ := hq
          refine od_K.ret ?_
          refine od_rLS rfl (od_cm_o n1 hf) (rfl) ((by omega)) (by decide) ?_
          rw [od_cm_set n1, vl_cap a0 b0 c (n ^ a0) hcc.1]
          have hN1 : od_NU (od_set M (x + 1) (od_la 21 (vp_updL f d' (lN (min (b0 + c * n ^ a0) vl_B))))) x := (od_set_o (by omega)).trans hN
          refine od_W.rn (pc' := 12) (ls' := [some (.ref _), some (.ref _), some (.int _), some (.int _), some (.int _), some (.long _), none]) (st' := []) 2 rfl ?_
          rw [show nI done.length + Int32.ofInt 2 = nI (done ++ [0, c]).length by rw [List.length_append]; exact nI_add done.length 2]
          refine (ih ys (done ++ [0, c]) ((b0 + c * n ^ a0) :: s2) _ _ _ _ (by omega) d' h4 (by simp [hs2]) (by simp; omega) (fun y hy => hsm y (List.mem_cons_of_mem _ (List.mem_cons_of_mem _ hy))) (by simpa using hx) hN1 (od_set_s _ _ _) ⟨?_, k3.up (by omega)⟩ (Or.inr ⟨_, rfl⟩) rfl).mono fun o M3 hh => ?_
          · rw [hs2]; exact if_pos rfl
          · obtain ⟨M', f', q1, q2, q3, q4⟩ := hh
            exact ⟨M', f', ((od_eM.refl _ M).set (by simp)).tr q1, q2, q3, q4⟩
theorem lt_worth {M : od_M} (hS : od_SS S) (ha : S a = true) (hb : od_Bd ρ) (n0 : od_no S x) (n1 : od_no S (x + 1)) {n : Nat} (hn : n ≤ 1000) {xs : List Nat} (hW : tm_W xs) (hx : od_hl ρ a xs) {f : Nat → Int64} (hN : od_NU M x) (hf : M.2.2 (x + 1) = some (od_la 21 f)) : od_W 3 58 0 (od_ent 58 [.ref x, .ref a, .int (nI n)]) [] (od_cm S M ρ) (vl_o S M ρ x (vl_sc n xs [0])) := by
  have e0 : od_ent 58 [.ref x, .ref a, .int (nI n)] = [some (.ref x), some (.ref a), some (.int (nI n)), none, none, none, none] := rfl
  rw [e0]
  refine od_W.rn (pc' := 3) (ls' := [some (.ref _), some (.ref _), some (.int _), some (.int _), none, none, none]) (st' := [.ref _]) 3 rfl ?_
  refine od_rG rfl (od_cm_o n0 hN) rfl rfl ?_
  refine od_W.rn (pc' := 8) (ls' := [some (.ref _), some (.ref _), some (.int _), some (.int _), none, none, none]) (st' := [.long _, .int _, .ref _]) 2 rfl ?_
  refine od_rLS rfl (od_cm_o n1 hf) ((show Int32.ofInt 0 = nI 0 from rfl)) (by omega) (by decide) ?_
  rw [od_cm_set n1]
  have hN1 : od_NU (od_set M (x + 1) (od_la 21 (vp_updL f 0 (lN 0)))) x := (od_set_o (by omega)).trans hN
  refine od_W.rn (pc' := 12) (ls' := [some (.ref _), some (.ref _), some (.int _), some (.int _), some (.int _), none, none]) (st' := []) 2 rfl ?_
  refine (cl_wr_loop hS ha hb n0 n1 hn xs.length xs [] [0] _ (vp_updL f 0 (lN 0)) none none (Nat.le_refl _) 0 hW rfl (by simp) (hW.sm) hx hN1 (od_set_s _ _ _) ⟨if_pos rfl, trivial⟩ (Or.inl rfl) rfl).mono fun o M3 hh => ?_
  obtain ⟨M', f', q1, q2, q3, q4⟩ := hh
  exact ⟨M', f', ((od_eM.refl _ M).set (by simp)).tr q1, q2, q3, q4⟩
end VAL
