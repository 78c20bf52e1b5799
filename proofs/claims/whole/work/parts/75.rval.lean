/-! The reference's VALUE. -/
abbrev vl_C : Nat := 2000000000
theorem vl_capC (b c p : Nat) (hc : 1 ≤ c) : min (min b vl_C + min p vl_C * c) vl_C = min (b + c * p) vl_C := by
  have vC : vl_C = 2000000000 := rfl
  rw [Nat.mul_comm (min p vl_C) c]
  by_cases hb : b ≤ vl_C
  · rw [Nat.min_eq_left hb]
    by_cases hp : p ≤ vl_C
    · rw [Nat.min_eq_left hp]
    · rw [Nat.min_eq_right (show vl_C ≤ p by omega)]
      have h1 : vl_C ≤ c * vl_C := Nat.le_mul_of_pos_left _ hc
      have h2 : p ≤ c * p := Nat.le_mul_of_pos_left _ hc
      omega
  · rw [Nat.min_eq_right (show vl_C ≤ b by omega)]
    omega
theorem cl_ri_loop {M : od_M} {n e : Nat} (hn : 2 ≤ n) (hn2 : n ≤ 1000) (he : e ≤ vl_C) : ∀ (m i : Nat), i + m = e → n ^ i ≤ vl_C * 1000 → od_W 0 128 27 [some (.int (nI n)), some (.long (lN e)), none, some (.long (lN (n ^ i))), none, some (.long (lN i)), none] [] M (fun o M' => o = .inl (some (.long (lN (min (n ^ e) vl_C)))) ∧ M' = M) := by
  have vC : vl_C = 2000000000 := rfl
  have fin : ∀ v i, v ≤ vl_C * 1000 → i ≤ vl_C → od_W 0 128 56 [some (.int (nI n)), some (.long (lN e)), none, some (.long (lN v)), none, some (.long (lN i)), none] [] M (fun o M' => o = .inl (some (.long (lN (min v vl_C)))) ∧ M' = M) := by
    intro v i hv hi
    refine od_W.rn (pc' := 61) (ls' := [some (.int _), some (.long _), none, some (.long _), none, some (.long _), none]) (st' := [.int _]) 3 rfl ?_
    by_cases h : v ≤ vl_C
    · refine od_r1T rfl rfl ((od_lc_le _ _).trans (decide_eq_true ((pk_lLE (b := vl_C) (by omega) (by omega)).mpr h))) ?_
      refine od_W.rn (pc' := 71) (ls' := [some (.int _), some (.long _), none, some (.long _), none, some (.long _), none]) (st' := [.long _]) 1 rfl ?_
      refine od_W.fin rfl ?_
      rw [Nat.min_eq_left h]
      exact ⟨rfl, rfl⟩
    · refine od_r1F rfl (of_decide_eq_true rfl) ((od_lc_le _ _).trans (decide_eq_false (fun z => h ((pk_lLE (b := vl_C) (by omega) (by omega)).mp z)))) ?_
      refine od_W.rn (pc' := 71) (ls' := [some (.int _), some (.long _), none, some (.long _), none, some (.long _), none]) (st' := [.long _]) 2 rfl ?_
      refine od_W.fin rfl ?_
      rw [Nat.min_eq_right (by omega)]
      exact ⟨rfl, rfl⟩
  intro m
  induction m with
  | zero =>
    intro i hi hv
    have : i = e := by omega
    subst this
    refine od_W.rn (pc' := 31) (ls' := [some (.int _), some (.long _), none, some (.long _), none, some (.long _), none]) (st' := [.int _]) 3 rfl ?_
    refine od_r1T rfl rfl ((od_lc_ge _ _).trans (decide_eq_true (Int64.le_refl _))) ?_
    exact fin _ _ hv he
  | succ m ih =>
    intro i hi hv
    refine od_W.rn (pc' := 31) (ls' := [some (.int _), some (.long _), none, some (.long _), none, some (.long _), none]) (st' := [.int _]) 3 rfl ?_
    refine od_r1F rfl (of_decide_eq_true rfl) ((od_lc_ge _ _).trans (decide_eq_false (fun z => absurd ((pk_lLE (by omega) (by omega)).mp z) (by omega)))) ?_
    refine od_W.rn (pc' := 39) (ls' := [some (.int _), some (.long _), none, some (.long _), none, some (.long _), none]) (st' := [.int _]) 3 rfl ?_
    by_cases hp : n ^ i < vl_C
    · have hm : n ^ i * n ≤ vl_C * 1000 := Nat.mul_le_mul (Nat.le_of_lt hp) hn2
      refine od_r1F rfl (of_decide_eq_true rfl) ((od_lc_ge _ _).trans (decide_eq_false (fun z => absurd ((pk_lLE (a := vl_C) (by omega) (by omega)).mp z) (by omega)))) ?_
      refine od_W.rn (pc' := 27) (ls' := [some (.int _), some (.long _), none, some (.long _), none, some (.long _), none]) (st' := []) 10 rfl ?_
      rw [nI_1000 (by omega), lN_mul]
      show od_W 0 128 27 [some (.int (nI n)), some (.long (lN e)), none, some (.long (lN (n ^ i * n))), none, some (.long (lN i + lN 1)), none] [] _ _
      rw [lN_add i 1, ← Nat.pow_succ]
      exact ih (i + 1) (by omega) (by rw [Nat.pow_succ]; exact hm)
    · have h2 : n ^ i ≤ n ^ e := Nat.pow_le_pow_right (by omega) (by omega)
      refine od_r1T rfl rfl ((od_lc_ge _ _).trans (decide_eq_true ((pk_lLE (a := vl_C) (by omega) (by omega)).mpr (by omega)))) ?_
      refine (fin (n ^ i) i hv (by omega)).mono fun o M' h => ⟨?_, h.2⟩
      rw [h.1, Nat.min_eq_right (by omega), Nat.min_eq_right (by omega)]
theorem ct_risen {M : od_M} (n e : Nat) (hn2 : n ≤ 1000) : od_W 0 128 0 (od_ent 128 [.int (nI n), .long (lN (min e vl_C))]) [] M (fun o M' => o = .inl (some (.long (lN (min (n ^ e) vl_C)))) ∧ M' = M) := by
  have e0 : od_ent 128 [.int (nI n), .long (lN (min e vl_C))] = [some (.int (nI n)), some (.long (lN (min e vl_C))), none, none, none, none, none] := rfl
  rw [e0]
  have vC : vl_C = 2000000000 := rfl
  have hmb : min e vl_C ≤ vl_C := Nat.min_le_right _ _
  refine od_W.rn (pc' := 2) (ls' := [some (.int _), some (.long _), none, none, none, none, none]) (st' := [.int _, .int _]) 2 rfl ?_
  by_cases h2 : n < 2
  · refine od_r2F rfl (of_decide_eq_true rfl) (decide_eq_false (nI_ge (b := 2) h2 (by omega))) ?_
    refine od_W.rn (pc' := 7) (ls' := [some (.int _), some (.long _), none, none, none, none, none]) (st' := [.int _, .int _]) 2 rfl ?_
    by_cases h1 : n = 1
    · subst h1
      refine od_r2T rfl rfl (rfl) ?_
      refine od_W.rn (pc' := 21) (ls' := [some (.int _), some (.long _), none, none, none, none, none]) (st' := [.long _]) 2 rfl ?_
      refine od_W.fin rfl ?_
      refine ⟨?_, rfl⟩
      rw [Nat.one_pow]
      rfl
    · have h0 : n = 0 := by omega
      subst h0
      refine od_r2F rfl (of_decide_eq_true rfl) (rfl) ?_
      refine od_W.rn (pc' := 13) (ls' := [some (.int _), some (.long _), none, none, none, none, none]) (st' := [.int _]) 3 rfl ?_
      by_cases he : e = 0
      · subst he
        refine od_r1F rfl (of_decide_eq_true rfl) (rfl) ?_
        refine od_W.rn (pc' := 21) (ls' := [some (.int _), some (.long _), none, none, none, none, none]) (st' := [.long _]) 2 rfl ?_
        refine od_W.fin rfl ?_
        exact ⟨rfl, rfl⟩
      · refine od_r1T rfl rfl ((od_lc_ne _ _).trans (by show (!decide (lN (min e vl_C) = 0)) = true; rw [decide_eq_false (lN_ne0 (n := min e vl_C) (by omega) (by omega))]; rfl)) ?_
        refine od_W.rn (pc' := 21) (ls' := [some (.int _), some (.long _), none, none, none, none, none]) (st' := [.long _]) 1 rfl ?_
        refine od_W.fin rfl ?_
        refine ⟨?_, rfl⟩
        rw [Nat.zero_pow (by omega)]
        rfl
  · refine od_r2T rfl rfl (decide_eq_true (nI_le (a := 2) (by omega) (by omega))) ?_
    refine od_W.rn (pc' := 27) (ls' := [some (.int _), some (.long _), none, some (.long _), none, some (.long _), none]) (st' := []) 4 rfl ?_
    have := cl_ri_loop (M := M) (n := n) (e := min e vl_C) (by omega) hn2 hmb (min e vl_C) 0 (by omega) (by rw [Nat.pow_zero]; omega)
    rw [Nat.pow_zero] at this
    refine this.mono fun o M' h => ⟨?_, h.2⟩
    rw [h.1]
    by_cases he : e ≤ vl_C
    · rw [Nat.min_eq_left he]
    · rw [show min e vl_C = vl_C from Nat.min_eq_right (by omega)]
      have g1 := vl_grow (n := n) (by omega) vl_C
      have g2 := vl_grow (n := n) (by omega) e
      rw [show min (n ^ vl_C) vl_C = vl_C from Nat.min_eq_right (Nat.le_of_lt g1), show min (n ^ e) vl_C = vl_C from Nat.min_eq_right (by omega)]
section RVAL
variable {y : Nat} {b : rf_B} {fu : Bool} {ρ : od_Rm} {a : Nat}
def vl_ro (M : od_M) (y : Nat) (b : rf_B) (fu : Bool) (ρ : od_Rm) (v : Nat) : od_O → od_M → Prop := fun o M2 => ∃ M' f, od_eM [y + 7] M M' ∧ M'.2.2 (y + 7) = some (od_la 24 f) ∧ M2 = md M' y b fu ρ ∧ o = .inl (some (.int (if v ≤ 1000000000 then nI v else -1)))
set_option maxRecDepth 100000 in
theorem cl_rv_loop (ha : a < 8) (hb : od_Bd ρ) {n : Nat} (hn : n ≤ 1000) : ∀ (m : Nat) (todo done : List Nat) (s : List Nat) (M : od_M) (f : Nat → Int64) (w5 w6 : Option Value), todo.length ≤ m → ∀ d, tm_sc d todo = true → s.length = d + 1 → d ≤ done.length → od_hl ρ a (done ++ todo) → M.2.2 (y + 7) = some (od_la 24 f) → vl_ok f vl_C s → od_W 2 129 52 [some (.ref y), some (.int (nI a)), some (.int (nI n)), some (.int (nI d)), some (.int (nI done.length)), w5, w6] [] (md M y b fu ρ) (vl_ro M y b fu ρ (vl_sc n todo s)) := by
  have vC : vl_C = 2000000000 := rfl
  have fin : ∀ (done s : List Nat) (M : od_M) (f : Nat → Int64) (w5 w6 : Option Value) (d : Nat), tm_sc d [] = true → s.length = d + 1 → od_hl ρ a (done ++ []) → M.2.2 (y + 7) = some (od_la 24 f) → vl_ok f vl_C s → od_W 2 129 52 [some (.ref y), some (.int (nI a)), some (.int (nI n)), some (.int (nI d)), some (.int (nI done.length)), w5, w6] [] (md M y b fu ρ) (vl_ro M y b fu ρ (vl_sc n [] s)) := by
    intro done s M f w5 w6 d hd hs hx hf hok
    have hl := hx.n
    rw [List.append_nil] at hl
    have h60 := hx.le hb
    rw [List.append_nil] at h60
    have hd0 : d = 0 := by
      cases d with
      | zero => rfl
      | succ d => exact absurd hd (by simp [tm_sc])
    subst hd0
    obtain ⟨a0, rfl⟩ : ∃ a0, s = [a0] := List.length_eq_one_iff.mp hs
    have h1 : f 0 = lN (min a0 vl_C) := hok.1
    have hm := Nat.min_le_right a0 vl_C
    refine od_W.rn (pc' := 55) (ls' := [some (.ref _), some (.int _), some (.int _), some (.int _), some (.int _), _, _]) (st' := [.ref _, .int _]) 2 rfl ?_
    refine od_rG rfl (md_0) rfl rfl ?_
    refine od_W.rn (pc' := 59) (ls' := [some (.ref _), some (.int _), some (.int _), some (.int _), some (.int _), _, _]) (st' := [.int _, .ref _, .int _]) 1 rfl ?_
    refine od_rIL rfl (md_2) (rfl) (by omega) (by decide) ?_
    rw [rf_row, hl]
    refine od_r2T rfl rfl (decide_eq_true (nI_le (Nat.le_refl _) (by omega))) ?_
    refine od_W.rn (pc' := 170) (ls' := [some (.ref _), some (.int _), some (.int _), some (.int _), some (.int _), _, _]) (st' := [.ref _]) 1 rfl ?_
    refine od_rG rfl (md_0) rfl rfl ?_
    refine od_W.rn (pc' := 174) (ls' := [some (.ref _), some (.int _), some (.int _), some (.int _), some (.int _), _, _]) (st' := [.int _, .ref _]) 1 rfl ?_
    refine od_rLL rfl ((md_o (by omega) (by omega) (by omega)).trans hf) ((show Int32.ofInt 0 = nI 0 from rfl)) ((by omega)) (by decide) ?_
    rw [h1]
    refine od_W.rn (pc' := 179) (ls' := [some (.ref _), some (.int _), some (.int _), some (.int _), some (.int _), _, _]) (st' := [.int _]) 2 rfl ?_
    have ev : vl_sc n [] [a0] = a0 := rfl
    rw [ev]
    by_cases hv : a0 ≤ 1000000000
    · have em : min a0 vl_C = a0 := Nat.min_eq_left (by omega)
      refine od_r1T rfl rfl ((od_lc_le _ _).trans (decide_eq_true ((pk_lLE (b := 1000000000) (by omega) (by omega)).mpr (by omega)))) ?_
      refine od_W.rn (pc' := 187) (ls' := [some (.ref _), some (.int _), some (.int _), some (.int _), some (.int _), _, _]) (st' := [.ref _]) 1 rfl ?_
      refine od_rG rfl (md_0) rfl rfl ?_
      refine od_W.rn (pc' := 191) (ls' := [some (.ref _), some (.int _), some (.int _), some (.int _), some (.int _), _, _]) (st' := [.int _, .ref _]) 1 rfl ?_
      refine od_rLL rfl ((md_o (by omega) (by omega) (by omega)).trans hf) ((show Int32.ofInt 0 = nI 0 from rfl)) ((by omega)) (by decide) ?_
      rw [h1, em]
      refine od_W.rn (pc' := 193) (ls' := [some (.ref _), some (.int _), some (.int _), some (.int _), some (.int _), _, _]) (st' := [.int _]) 1 rfl ?_
      rw [lN_i]
      refine od_W.fin rfl ?_
      exact ⟨M, f, od_eM.refl _ _, hf, rfl, by rw [if_pos hv]⟩
    · refine od_r1F rfl (of_decide_eq_true rfl) ((od_lc_le _ _).trans (decide_eq_false (fun z => absurd ((pk_lLE (b := 1000000000) (by omega) (by omega)).mp z) (by omega)))) ?_
      refine od_W.rn (pc' := 193) (ls' := [some (.ref _), some (.int _), some (.int _), some (.int _), some (.int _), _, _]) (st' := [.int _]) 2 rfl ?_
      refine od_W.fin rfl ?_
      exact ⟨M, f, od_eM.refl _ _, hf, rfl, by rw [if_neg hv]; rfl⟩
  intro m
  induction m with
  | zero =>
    intro todo done s M f w5 w6 hm d hd hs hdl hx hf hok
    have e : todo = [] := List.length_eq_zero_iff.mp (by omega)
    subst e
    exact fin done s M f w5 w6 d hd hs hx hf hok
  | succ m ih =>
    intro todo done s M f w5 w6 hm d hd hs hdl hx hf hok
    rcases todo with _ | ⟨t, todo⟩
    · exact fin done s M f w5 w6 d hd hs hx hf hok
    · have hl := hx.n
      have h60 := hx.le hb
      have hat := hx.at
      rw [tm_at_app, Nat.zero_add, tm_at_cons] at hat
      rw [List.length_append] at hl h60
      simp only [List.length_cons] at hl h60 hm
      rcases tm_sc_inv hd with ⟨rfl, h2⟩ | ⟨rfl, d', c, ys, rfl, rfl, h3, h4⟩
      · have hlen := tm_sc_len _ todo (Nat.le_refl _) (d + 1) h2
        refine od_W.rn (pc' := 55) (ls' := [some (.ref _), some (.int _), some (.int _), some (.int _), some (.int _), _, _]) (st' := [.ref _, .int _]) 2 rfl ?_
        refine od_rG rfl (md_0) rfl rfl ?_
        refine od_W.rn (pc' := 59) (ls' := [some (.ref _), some (.int _), some (.int _), some (.int _), some (.int _), _, _]) (st' := [.int _, .ref _, .int _]) 1 rfl ?_
        refine od_rIL rfl (md_2) (rfl) (by omega) (by decide) ?_
        rw [rf_row, hl]
        refine od_r2F rfl (of_decide_eq_true rfl) (decide_eq_false (nI_ge (by omega) (by omega))) ?_
        refine od_W.rn (pc' := 64) (ls' := [some (.ref _), some (.int _), some (.int _), some (.int _), some (.int _), _, _]) (st' := [.ref _]) 1 rfl ?_
        refine od_rG rfl (md_0) rfl rfl ?_
        refine od_W.rn (pc' := 74) (ls' := [some (.ref _), some (.int _), some (.int _), some (.int _), some (.int _), _, _]) (st' := [.int _, .ref _]) 5 rfl ?_
        refine od_rIL rfl (md_1) (rf_ix a done.length) (by omega) (by decide) ?_
        rw [rf_fl_at ρ (by omega), hat.2.1]
        refine od_W.rn (pc' := 76) (ls' := [some (.ref _), some (.int _), some (.int _), some (.int _), some (.int _), _, _]) (st' := [.int _, .int _]) 1 rfl ?_
        refine od_r2F rfl (of_decide_eq_true rfl) (rfl) ?_
        refine od_W.rn (pc' := 83) (ls' := [some (.ref _), some (.int _), some (.int _), some (.int _), some (.int _), _, _]) (st' := [.ref _]) 2 rfl ?_
        rw [nI_inc d]
        refine od_rG rfl (md_0) rfl rfl ?_
        refine od_W.rn (pc' := 88) (ls' := [some (.ref _), some (.int _), some (.int _), some (.int _), some (.int _), _, _]) (st' := [.long _, .int _, .ref _]) 2 rfl ?_
        refine od_rLS rfl ((md_o (by omega) (by omega) (by omega)).trans hf) (rfl) (by omega) (by decide) ?_
        rw [md_set (by omega) (by omega) (by omega)]
        refine od_W.rn (pc' := 52) (ls' := [some (.ref _), some (.int _), some (.int _), some (.int _), some (.int _), _, _]) (st' := []) 2 rfl ?_
        rw [nI_inc done.length, show done.length + 1 = (done ++ [1]).length by simp]
        refine (ih todo (done ++ [1]) (0 :: s) _ (vp_updL f (d + 1) (lN 0)) _ _ (by omega) (d + 1) h2 (by simp [hs]) (by simp; omega) (by simpa using hx) (od_set_s _ _ _) ⟨?_, hok.up (by omega)⟩).mono fun o M3 hh => ?_
        · rw [hs]; exact if_pos rfl
        · obtain ⟨M', f', q1, q2, q3, q4⟩ := hh
          exact ⟨M', f', ((od_eM.refl _ M).set (by simp)).tr q1, q2, q3, q4⟩
      · rw [tm_at_cons] at hat
        have hlen := tm_sc_len _ ys (Nat.le_refl _) d' h4
        obtain ⟨a0, s1, rfl⟩ : ∃ a0 s1, s = a0 :: s1 := by
          rcases s with _ | ⟨a0, s1⟩
          · simp at hs
          · exact ⟨a0, s1, rfl⟩
        obtain ⟨b0, s2, rfl⟩ : ∃ b0 s2, s1 = b0 :: s2 := by
          rcases s1 with _ | ⟨b0, s2⟩
          · simp at hs
          · exact ⟨b0, s2, rfl⟩
        simp only [List.length_cons] at hs hl h60 hm
        have hs2 : s2.length = d' := by omega
        obtain ⟨k1, k2, k3⟩ := hok
        simp only [List.length_cons, hs2] at k1 k2
        have hcc := h3
        unfold tm_c at hcc
        have hmp : min (n ^ a0) vl_C ≤ vl_C := Nat.min_le_right _ _
        have hmb : min b0 vl_C ≤ vl_C := Nat.min_le_right _ _
        have hmul : min (n ^ a0) vl_C * c ≤ vl_C * 1000000 := Nat.mul_le_mul hmp hcc.2
        have eX : vl_sc n (0 :: c :: ys) (a0 :: b0 :: s2) = vl_sc n ys ((b0 + c * n ^ a0) :: s2) := rfl
        rw [eX]
        refine od_W.rn (pc' := 55) (ls' := [some (.ref _), some (.int _), some (.int _), some (.int _), some (.int _), _, _]) (st' := [.ref _, .int _]) 2 rfl ?_
        refine od_rG rfl (md_0) rfl rfl ?_
        refine od_W.rn (pc' := 59) (ls' := [some (.ref _), some (.int _), some (.int _), some (.int _), some (.int _), _, _]) (st' := [.int _, .ref _, .int _]) 1 rfl ?_
        refine od_rIL rfl (md_2) (rfl) (by omega) (by decide) ?_
        rw [rf_row, hl]
        refine od_r2F rfl (of_decide_eq_true rfl) (decide_eq_false (nI_ge (by omega) (by omega))) ?_
        refine od_W.rn (pc' := 64) (ls' := [some (.ref _), some (.int _), some (.int _), some (.int _), some (.int _), _, _]) (st' := [.ref _]) 1 rfl ?_
        refine od_rG rfl (md_0) rfl rfl ?_
        refine od_W.rn (pc' := 74) (ls' := [some (.ref _), some (.int _), some (.int _), some (.int _), some (.int _), _, _]) (st' := [.int _, .ref _]) 5 rfl ?_
        refine od_rIL rfl (md_1) (rf_ix a done.length) (by omega) (by decide) ?_
        rw [rf_fl_at ρ (by omega), hat.2.1]
        refine od_W.rn (pc' := 76) (ls' := [some (.ref _), some (.int _), some (.int _), some (.int _), some (.int _), _, _]) (st' := [.int _, .int _]) 1 rfl ?_
        refine od_r2T rfl rfl (rfl) ?_
        refine od_W.rn (pc' := 97) (ls' := [some (.ref _), some (.int _), some (.int _), some (.int _), some (.int _), _, _]) (st' := [.ref _, .int _]) 2 rfl ?_
        refine od_rG rfl (md_0) rfl rfl ?_
        refine od_W.rn (pc' := 101) (ls' := [some (.ref _), some (.int _), some (.int _), some (.int _), some (.int _), _, _]) (st' := [.int _, .ref _, .int _]) 1 rfl ?_
        refine od_rLL rfl ((md_o (by omega) (by omega) (by omega)).trans hf) (rfl) ((by omega)) (by decide) ?_
        rw [k1]
        refine od_rSt (as := [.int (nI n), .long (lN (min a0 vl_C))]) rfl rfl rfl rfl (Nat.le_of_ble_eq_true rfl) (Nat.le_of_ble_eq_true rfl) (ct_risen n a0 hn) (Nat.le_of_ble_eq_true rfl) (fun o M1 hq => ?_)
        obtain ⟨rfl, rfl⟩ := hq
        refine od_K.ret ?_
        refine od_W.rn (pc' := 106) (ls' := [some (.ref _), some (.int _), some (.int _), some (.int _), some (.int _), _, _]) (st' := [.ref _, .long _]) 1 rfl ?_
        refine od_rG rfl (md_0) rfl rfl ?_
        refine od_W.rn (pc' := 118) (ls' := [some (.ref _), some (.int _), some (.int _), some (.int _), some (.int _), _, _]) (st' := [.int _, .ref _, .long _]) 7 rfl ?_
        refine od_rIL rfl (md_1) ((show (Int8.ofInt 64).toInt32 * nI a + nI done.length + 1 = nI (64 * a + (done.length + 1)) by rw [rf_ix]; exact nI_1 _)) (by omega) (by decide) ?_
        rw [rf_fl_at ρ (by omega), hat.2.2.1]
        refine od_W.rn (pc' := 127) (ls' := [some (.ref _), some (.int _), some (.int _), some (.int _), some (.int _), some (.long _), none]) (st' := [.ref _]) 5 rfl ?_
        rw [nI_1000 hcc.2, lN_mul, show nI (d' + 1) + Int32.ofInt (-1) = nI d' from nI_dec d']
        refine od_rG rfl (md_0) rfl rfl ?_
        refine od_W.rn (pc' := 132) (ls' := [some (.ref _), some (.int _), some (.int _), some (.int _), some (.int _), some (.long _), none]) (st' := [.ref _, .int _, .ref _]) 2 rfl ?_
        refine od_rG rfl (md_0) rfl rfl ?_
        refine od_W.rn (pc' := 136) (ls' := [some (.ref _), some (.int _), some (.int _), some (.int _), some (.int _), some (.long _), none]) (st' := [.int _, .ref _, .int _, .ref _]) 1 rfl ?_
        refine od_rLL rfl ((md_o (by omega) (by omega) (by omega)).trans hf) (rfl) ((by omega)) (by decide) ?_
        refine od_W.rn (pc' := 144) (ls' := [some (.ref _), some (.int _), some (.int _), some (.int _), some (.int _), some (.long _), none]) (st' := [.int _, .int _, .ref _]) 4 rfl ?_
        rw [k2, lN_add]
        have done2 : ∀ v : Int64, v = lN (min (b0 + c * n ^ a0) vl_C) → od_W 2 129 162 [some (.ref y), some (.int (nI a)), some (.int (nI n)), some (.int (nI d')), some (.int (nI done.length)), some (.long (lN (min (n ^ a0) vl_C * c))), none] [.long v, .int (nI d'), .ref (y + 7)] (md M y b fu ρ) (vl_ro M y b fu ρ (vl_sc n ys ((b0 + c * n ^ a0) :: s2))) := by
          intro v hv
          subst hv
          refine od_rLS rfl ((md_o (by omega) (by omega) (by omega)).trans hf) (rfl) ((by omega)) (by decide) ?_
          rw [md_set (by omega) (by omega) (by omega)]
          refine od_W.rn (pc' := 52) (ls' := [some (.ref _), some (.int _), some (.int _), some (.int _), some (.int _), some (.long _), none]) (st' := []) 2 rfl ?_
          rw [show nI done.length + Int32.ofInt 2 = nI (done ++ [0, c]).length by rw [List.length_append]; exact nI_add done.length 2]
          refine (ih ys (done ++ [0, c]) ((b0 + c * n ^ a0) :: s2) _ _ _ _ (by omega) d' h4 (by simp [hs2]) (by simp; omega) (by simpa using hx) (od_set_s _ _ _) ⟨?_, k3.up (by omega)⟩).mono fun o M3 hh => ?_
          · rw [hs2]; exact if_pos rfl
          · obtain ⟨M', f', q1, q2, q3, q4⟩ := hh
            exact ⟨M', f', ((od_eM.refl _ M).set (by simp)).tr q1, q2, q3, q4⟩
        have hcap := vl_capC b0 c (n ^ a0) hcc.1
        by_cases hle : min b0 vl_C + min (n ^ a0) vl_C * c ≤ vl_C
        · rw [Nat.min_eq_left hle] at hcap
          refine od_r1T rfl rfl ((od_lc_le _ _).trans (decide_eq_true ((pk_lLE (b := vl_C) (by omega) (by omega)).mpr hle))) ?_
          refine od_W.rn (pc' := 154) (ls' := [some (.ref _), some (.int _), some (.int _), some (.int _), some (.int _), some (.long _), none]) (st' := [.ref _, .int _, .ref _]) 1 rfl ?_
          refine od_rG rfl (md_0) rfl rfl ?_
          refine od_W.rn (pc' := 158) (ls' := [some (.ref _), some (.int _), some (.int _), some (.int _), some (.int _), some (.long _), none]) (st' := [.int _, .ref _, .int _, .ref _]) 1 rfl ?_
          refine od_rLL rfl ((md_o (by omega) (by omega) (by omega)).trans hf) (rfl) ((by omega)) (by decide) ?_
          refine od_W.rn (pc' := 162) (ls' := [some (.ref _), some (.int _), some (.int _), some (.int _), some (.int _), some (.long _), none]) (st' := [.long _, .int _, .ref _]) 2 rfl ?_
          rw [k2, lN_add]
          exact done2 _ (by rw [hcap])
        · rw [Nat.min_eq_right (by omega)] at hcap
          refine od_r1F rfl (of_decide_eq_true rfl) ((od_lc_le _ _).trans (decide_eq_false (fun z => hle ((pk_lLE (b := vl_C) (by omega) (by omega)).mp z)))) ?_
          refine od_W.rn (pc' := 162) (ls' := [some (.ref _), some (.int _), some (.int _), some (.int _), some (.int _), some (.long _), none]) (st' := [.long _, .int _, .ref _]) 2 rfl ?_
          exact done2 _ (by rw [← hcap]; rfl)
end RVAL
section RVAL2
variable {y n d : Nat} {M : od_M} {b : rf_B} {fu : Bool} {ρ : od_Rm} {X R : Nat → List Nat}
theorem ref_value (h : rd y M b ρ n X R d) (a m : Int32) : od_W 3 129 0 (od_ent 129 [.ref y, .int a, .int m]) [] (md M y b fu ρ) (rd_o y M d (cs_code (cs_value X a m)) n X R (rd_a (cs_value X a m))) := by
  have e0 : od_ent 129 [.ref y, .int a, .int m] = [some (.ref y), some (.int a), some (.int m), none, none, none, none] := rfl
  rw [e0]
  unfold cs_value
  have bad2 : od_W 3 129 23 [some (.ref y), some (.int a), some (.int m), none, none, none, none] [.ref y] (md M y b fu ρ) (rd_o y M d 2 n X R (rd_a (.inr 1))) := by
    refine od_W.rn (pc' := 28) (ls' := [some (.ref _), some (.int _), some (.int _), none, none, none, none]) (st' := [.int _, .ref _]) 2 rfl ?_
    refine od_rP rfl (md_0) rfl (by simp) rfl (by decide) ?_
    rw [show od_set (md M y b fu ρ) y (od_ob 8 (List.set _ 0 (.int (Int32.ofInt 2)))) = md M y (nI 2, b.2) fu ρ from md_code]
    refine od_W.rn (pc' := 32) (ls' := [some (.ref _), some (.int _), some (.int _), none, none, none, none]) (st' := [.ref _]) 1 rfl ?_
    refine od_rG rfl (md_0) rfl rfl ?_
    refine od_r1F rfl (of_decide_eq_true rfl) (rfl) ?_
    refine od_W.rn (pc' := 39) (ls' := [some (.ref _), some (.int _), some (.int _), none, none, none, none]) (st' := [.int _]) 1 rfl ?_
    refine od_W.fin rfl ?_
    exact (h.cd _).o rfl ⟨_, rfl, fun w z => absurd z (by simp)⟩
  refine od_W.rn (pc' := 2) (ls' := [some (.ref _), some (.int _), some (.int _), none, none, none, none]) (st' := [.int _, .ref _]) 2 rfl ?_
  refine od_rSt (as := [.int a]) rfl rfl rfl rfl (Nat.le_of_ble_eq_true rfl) (Nat.le_of_ble_eq_true rfl) (ct_noSlot a) (Nat.le_of_ble_eq_true rfl) (fun o M1 hq => ?_)
  obtain ⟨rfl, rfl⟩ := hq
  refine od_K.ret ?_
  rcases sl_is (m := 8) (by omega) a with ⟨e1, _⟩ | ⟨i, hi, rfl, e1⟩
  · rw [e1]
    refine od_r1F rfl (of_decide_eq_true rfl) (rfl) ?_
    refine od_W.rn (pc' := 28) (ls' := [some (.ref _), some (.int _), some (.int _), none, none, none, none]) (st' := [.int _, .ref _]) 2 rfl ?_
    refine od_rP rfl (md_0) rfl (by simp) rfl (by decide) ?_
    rw [show od_set (md M y b fu ρ) y (od_ob 8 (List.set _ 0 (.int (Int32.ofInt 1)))) = md M y (nI 1, b.2) fu ρ from md_code]
    refine od_W.rn (pc' := 32) (ls' := [some (.ref _), some (.int _), some (.int _), none, none, none, none]) (st' := [.ref _]) 1 rfl ?_
    refine od_rG rfl (md_0) rfl rfl ?_
    refine od_r1F rfl (of_decide_eq_true rfl) (rfl) ?_
    refine od_W.rn (pc' := 39) (ls' := [some (.ref _), some (.int _), some (.int _), none, none, none, none]) (st' := [.int _]) 1 rfl ?_
    refine od_W.fin rfl ?_
    exact (h.cd _).o rfl ⟨_, rfl, fun w z => absurd z (by simp)⟩
  · rw [e1]
    dsimp only
    refine od_r1T rfl rfl (rfl) ?_
    refine od_W.rn (pc' := 13) (ls' := [some (.ref _), some (.int _), some (.int _), none, none, none, none]) (st' := [.int _, .ref _]) 1 rfl ?_
    by_cases h0 : m < 0
    · rw [if_neg (fun z => absurd (Int32.lt_of_lt_of_le h0 z.1) Int32.lt_irrefl)]
      refine od_r1T rfl rfl (decide_eq_true h0) ?_
      exact bad2
    · refine od_r1F rfl (of_decide_eq_true rfl) (decide_eq_false h0) ?_
      refine od_W.rn (pc' := 20) (ls' := [some (.ref _), some (.int _), some (.int _), none, none, none, none]) (st' := [.int _, .int _, .ref _]) 2 rfl ?_
      by_cases h1 : m ≤ 1000
      · have hc : 0 ≤ m ∧ m ≤ 1000 := ⟨Int32.not_lt.mp h0, h1⟩
        rw [if_pos hc]
        obtain ⟨c, hc2, rfl⟩ := nI_in0 (n := 1000) (by decide) hc
        rw [nI_clamp (by omega)]
        have hsi := h.2.2.2.2.1 i hi
        obtain ⟨f, hf⟩ := h.2.2.1
        refine od_r2T rfl rfl (decide_eq_true h1) ?_
        refine od_W.rn (pc' := 28) (ls' := [some (.ref _), some (.int _), some (.int _), none, none, none, none]) (st' := [.int _, .ref _]) 1 rfl ?_
        refine od_rP rfl (md_0) rfl (by simp) rfl (by decide) ?_
        rw [show od_set (md M y b fu ρ) y (od_ob 8 (List.set _ 0 (.int (Int32.ofInt 0)))) = md M y (nI 0, b.2) fu ρ from md_code]
        refine od_W.rn (pc' := 32) (ls' := [some (.ref _), some (.int _), some (.int _), none, none, none, none]) (st' := [.ref _]) 1 rfl ?_
        refine od_rG rfl (md_0) rfl rfl ?_
        refine od_r1T rfl rfl (rfl) ?_
        refine od_W.rn (pc' := 43) (ls' := [some (.ref _), some (.int _), some (.int _), some (.int _), none, none, none]) (st' := [.ref _]) 3 rfl ?_
        refine od_rG rfl (md_0) rfl rfl ?_
        refine od_W.rn (pc' := 48) (ls' := [some (.ref _), some (.int _), some (.int _), some (.int _), none, none, none]) (st' := [.long _, .int _, .ref _]) 2 rfl ?_
        refine od_rLS rfl ((md_o (by omega) (by omega) (by omega)).trans hf) ((show Int32.ofInt 0 = nI 0 from rfl)) (by omega) (by decide) ?_
        rw [md_set (by omega) (by omega) (by omega)]
        refine od_W.rn (pc' := 52) (ls' := [some (.ref _), some (.int _), some (.int _), some (.int _), some (.int _), none, none]) (st' := []) 2 rfl ?_
        refine ((cl_rv_loop (b := (nI 0, b.2)) (fu := fu) hi h.2.2.2.1 hc2 (X i).length (X i) [] [0] _ (vp_updL f 0 (lN 0)) none none (Nat.le_refl _) 0 hsi.2 rfl (by simp) hsi.1 (od_set_s _ _ _) ⟨if_pos rfl, trivial⟩).deep (by omega)).mono fun o M3 hh => ?_
        obtain ⟨M', f', q1, q2, q3, q4⟩ := hh
        have eV : od_eM [y + 7] M M' := ((od_eM.refl _ M).set (by simp)).tr q1
        have h' : rd y M' (nI 0, b.2) ρ n X R d := by
          obtain ⟨z1, z2, z3, z4⟩ := h.cd (nI 0)
          obtain ⟨bg, st, en, y1, y2, y3⟩ := z1
          exact ⟨⟨bg, st, en, (eV.2.2 _ (by simp)).trans y1, (eV.2.2 _ (by simp)).trans y2, (eV.2.2 _ (by simp)).trans y3⟩, ⟨z2.choose, (eV.2.2 _ (by simp)).trans z2.choose_spec⟩, ⟨f', q2⟩, z4⟩
        exact ⟨M', _, fu, ρ, d, q3, eV.up (by simp), rfl, h', by omega, _, q4, fun w z => Sum.inl.inj z⟩
      · rw [if_neg (fun z => h1 z.2)]
        refine od_r2F rfl (of_decide_eq_true rfl) (decide_eq_false h1) ?_
        exact bad2
end RVAL2
