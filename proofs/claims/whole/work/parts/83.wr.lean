/-! The law's wrappers. -/
def wu (D : Nat) (W : od_M) (c : Nat) (n : Nat) (X R : Nat → List Nat) : od_O → od_M → Prop := fun o W' => o = .inl (some (.int (nI c))) ∧ cw D W' n X R ∧ (∀ a, a < D ∨ D + 128 ≤ a → a ≠ W.1 → W'.2.2 a = W.2.2 a) ∧ W.1 ≤ W'.1 ∧ W'.1 ≤ W.1 + 1 ∧ W'.2.1 ≤ W.2.1 + 6
section WR
variable {D q n : Nat} {W : od_M} {X R : Nat → List Nat} {f : Nat → Int64}
theorem ki_finite {a to : Int32} {k : Nat} (h : (cs_finite X a to).1 = .inr k) : k = 0 ∨ k = 1 := by
  unfold cs_finite at h
  repeat' split at h
  all_goals first
    | (cases h; done)
    | (cases h; simp; done)
    | (have z := cs_keep_k h; omega)
theorem wr_finite (h : cw D W n X R) (hW : D + 128 ≤ W.1) (a to : Int32) : od_W 7 137 0 (od_ent 137 [.ref D, .int a, .int to]) [] W (wu D W (cs_code (cs_finite X a to).1) n (cs_finite X a to).2 R) := by
  have e0 : od_ent 137 [.ref D, .int a, .int to] = [some (.ref D), some (.int a), some (.int to), none] := rfl
  rw [e0]
  have h0 := h.h0
  obtain ⟨ρ, h1, h2⟩ := h
  have hc := lt_finite h2 a to
  rw [← h1] at hc
  refine od_W.rn (pc' := 3) (ls' := [some (.ref _), some (.int _), some (.int _), none]) (st' := [.int _, .int _, .ref _]) 3 rfl ?_
  refine od_rV (as := [.int a, .int to]) rfl rfl rfl rfl (h0) rfl (Nat.le_of_ble_eq_true rfl) (Nat.le_of_ble_eq_true rfl) (hc) (Nat.le_of_ble_eq_true rfl) (fun o M1 hq => ?_)
  obtain ⟨w1, w2, w3⟩ := dk_o.w hW hq
  rcases hr : (cs_finite X a to).1 with v | k
  · rw [hr] at w3
    obtain ⟨rfl, w4, w5⟩ := w3
    refine od_K.ret ?_
    refine od_W.rn (pc' := 16) (ls' := [some (.ref _), some (.int _), some (.int _), none]) (st' := [.int _]) 2 rfl ?_
    refine od_W.fin rfl ?_
    exact ⟨rfl, w1, w2, by omega, by omega, by omega⟩
  · rw [hr] at w3
    obtain ⟨rfl, w4, w5⟩ := w3
    rcases ki_finite hr with rfl | rfl
    · refine od_K.cat (h := 9) rfl ?_
      refine od_W.rn (pc' := 11) (ls' := [some (.ref _), some (.int _), some (.int _), some (.ref _)]) (st' := [.int _]) 2 rfl ?_
      refine od_W.fin rfl ?_
      exact ⟨rfl, w1, w2, by omega, by omega, by omega⟩
    · refine od_K.cat (h := 12) rfl ?_
      refine od_W.rn (pc' := 14) (ls' := [some (.ref _), some (.int _), some (.int _), some (.ref _)]) (st' := [.int _]) 2 rfl ?_
      refine od_W.fin rfl ?_
      exact ⟨rfl, w1, w2, by omega, by omega, by omega⟩
theorem ki_raise {e c to : Int32} {k : Nat} (h : (cs_raise X e c to).1 = .inr k) : k = 0 ∨ k = 1 ∨ k = 2 := by
  unfold cs_raise at h
  repeat' split at h
  all_goals first
    | (cases h; done)
    | (cases h; simp; done)
    | (have z := cs_keep_k h; omega)
theorem wr_raise (h : cw D W n X R) (hW : D + 128 ≤ W.1) (e c to : Int32) : od_W 7 138 0 (od_ent 138 [.ref D, .int e, .int c, .int to]) [] W (wu D W (cs_code (cs_raise X e c to).1) n (cs_raise X e c to).2 R) := by
  have e0 : od_ent 138 [.ref D, .int e, .int c, .int to] = [some (.ref D), some (.int e), some (.int c), some (.int to), none] := rfl
  rw [e0]
  have h0 := h.h0
  obtain ⟨ρ, h1, h2⟩ := h
  have hc := lt_raise h2 e c to
  rw [← h1] at hc
  refine od_W.rn (pc' := 4) (ls' := [some (.ref _), some (.int _), some (.int _), some (.int _), none]) (st' := [.int _, .int _, .int _, .ref _]) 4 rfl ?_
  refine od_rV (as := [.int e, .int c, .int to]) rfl rfl rfl rfl (h0) rfl (Nat.le_of_ble_eq_true rfl) (Nat.le_of_ble_eq_true rfl) (hc) (Nat.le_of_ble_eq_true rfl) (fun o M1 hq => ?_)
  obtain ⟨w1, w2, w3⟩ := dk_o.w hW hq
  rcases hr : (cs_raise X e c to).1 with v | k
  · rw [hr] at w3
    obtain ⟨rfl, w4, w5⟩ := w3
    refine od_K.ret ?_
    refine od_W.rn (pc' := 23) (ls' := [some (.ref _), some (.int _), some (.int _), some (.int _), none]) (st' := [.int _]) 2 rfl ?_
    refine od_W.fin rfl ?_
    exact ⟨rfl, w1, w2, by omega, by omega, by omega⟩
  · rw [hr] at w3
    obtain ⟨rfl, w4, w5⟩ := w3
    rcases ki_raise hr with rfl | rfl | rfl
    · refine od_K.cat (h := 10) rfl ?_
      refine od_W.rn (pc' := 13) (ls' := [some (.ref _), some (.int _), some (.int _), some (.int _), some (.ref _)]) (st' := [.int _]) 2 rfl ?_
      refine od_W.fin rfl ?_
      exact ⟨rfl, w1, w2, by omega, by omega, by omega⟩
    · refine od_K.cat (h := 14) rfl ?_
      refine od_W.rn (pc' := 17) (ls' := [some (.ref _), some (.int _), some (.int _), some (.int _), some (.ref _)]) (st' := [.int _]) 2 rfl ?_
      refine od_W.fin rfl ?_
      exact ⟨rfl, w1, w2, by omega, by omega, by omega⟩
    · refine od_K.cat (h := 18) rfl ?_
      refine od_W.rn (pc' := 21) (ls' := [some (.ref _), some (.int _), some (.int _), some (.int _), some (.ref _)]) (st' := [.int _]) 2 rfl ?_
      refine od_W.fin rfl ?_
      exact ⟨rfl, w1, w2, by omega, by omega, by omega⟩
theorem ki_op {kind a b to : Int32} {k : Nat} (h : (cs_op X kind a b to).1 = .inr k) : k = 0 ∨ k = 1 ∨ k = 2 := by
  unfold cs_op at h
  repeat' split at h
  all_goals first
    | (cases h; done)
    | (cases h; simp; done)
    | (have z := cs_keep_k h; omega)
theorem wr_op (h : cw D W n X R) (hW : D + 128 ≤ W.1) (hq1 : D + 128 ≤ q) (hq2 : q < W.1) (hf : W.2.2 q = some (od_la 1 f)) (kind a b to : Int32) : od_W 9 139 0 (od_ent 139 [.ref D, .int kind, .int a, .int b, .int to, .ref q]) [] W (wr D q W (cs_code (cs_op X kind a b to).1) (cs_op X kind a b to).1 n (cs_op X kind a b to).2 R) := by
  have e0 : od_ent 139 [.ref D, .int kind, .int a, .int b, .int to, .ref q] = [some (.ref D), some (.int kind), some (.int a), some (.int b), some (.int to), some (.ref q), none] := rfl
  rw [e0]
  have h0 := h.h0
  obtain ⟨ρ, h1, h2⟩ := h
  have hc := lt_op64 h2 kind a b to
  rw [← h1] at hc
  refine od_W.rn (pc' := 9) (ls' := [some (.ref _), some (.int _), some (.int _), some (.int _), some (.int _), some (.ref _), none]) (st' := [.int _, .int _, .int _, .int _, .ref _, .int _, .ref _]) 7 rfl ?_
  refine od_rV (as := [.int kind, .int a, .int b, .int to]) rfl rfl rfl rfl (h0) rfl (Nat.le_of_ble_eq_true rfl) (Nat.le_of_ble_eq_true rfl) (hc) (Nat.le_of_ble_eq_true rfl) (fun o M1 hq => ?_)
  obtain ⟨w1, w2, w3⟩ := dk_o.w hW hq
  rcases hr : (cs_op X kind a b to).1 with v | k
  · rw [hr] at w3
    obtain ⟨rfl, w4, w5⟩ := w3
    refine od_K.ret ?_
    refine od_W.rn (pc' := 13) (ls' := [some (.ref _), some (.int _), some (.int _), some (.int _), some (.int _), some (.ref _), none]) (st' := [.long _, .int _, .ref _]) 1 rfl ?_
    refine od_rLS rfl ((w2 q (Or.inr hq1) (by omega)).trans hf) ((show Int32.ofInt 0 = nI 0 from rfl)) (by omega) (by decide) ?_
    refine od_W.rn (pc' := 30) (ls' := [some (.ref _), some (.int _), some (.int _), some (.int _), some (.int _), some (.ref _), none]) (st' := [.int _]) 2 rfl ?_
    refine od_W.fin rfl ?_
    refine ⟨rfl, w1.tr (fun a _ h2 => od_set_o (by omega)), fun a ha n1 n2 => (od_set_o n2).trans (w2 a ha n1), ?_, ?_, ?_, _, od_set_s _ _ _, fun u hu => ?_⟩
    · show W.1 ≤ M1.1; omega
    · show M1.1 ≤ W.1 + 1; omega
    · show M1.2.1 ≤ W.2.1 + 6; omega
    · cases hu; rfl
  · rw [hr] at w3
    obtain ⟨rfl, w4, w5⟩ := w3
    rcases ki_op hr with rfl | rfl | rfl
    · refine od_K.cat (h := 17) rfl ?_
      refine od_W.rn (pc' := 20) (ls' := [some (.ref _), some (.int _), some (.int _), some (.int _), some (.int _), some (.ref _), some (.ref _)]) (st' := [.int _]) 2 rfl ?_
      refine od_W.fin rfl ?_
      exact ⟨rfl, w1, fun a ha n1 _ => w2 a ha n1, by omega, by omega, by omega, _, (w2 q (Or.inr hq1) (by omega)).trans hf, fun u hu => absurd hu (by simp)⟩
    · refine od_K.cat (h := 21) rfl ?_
      refine od_W.rn (pc' := 24) (ls' := [some (.ref _), some (.int _), some (.int _), some (.int _), some (.int _), some (.ref _), some (.ref _)]) (st' := [.int _]) 2 rfl ?_
      refine od_W.fin rfl ?_
      exact ⟨rfl, w1, fun a ha n1 _ => w2 a ha n1, by omega, by omega, by omega, _, (w2 q (Or.inr hq1) (by omega)).trans hf, fun u hu => absurd hu (by simp)⟩
    · refine od_K.cat (h := 25) rfl ?_
      refine od_W.rn (pc' := 28) (ls' := [some (.ref _), some (.int _), some (.int _), some (.int _), some (.int _), some (.ref _), some (.ref _)]) (st' := [.int _]) 2 rfl ?_
      refine od_W.fin rfl ?_
      exact ⟨rfl, w1, fun a ha n1 _ => w2 a ha n1, by omega, by omega, by omega, _, (w2 q (Or.inr hq1) (by omega)).trans hf, fun u hu => absurd hu (by simp)⟩
theorem ki_member {a m to : Int32} {k : Nat} (h : (cs_member X a m to).1 = .inr k) : k = 0 ∨ k = 1 ∨ k = 2 := by
  unfold cs_member at h
  repeat' split at h
  all_goals first
    | (cases h; done)
    | (cases h; simp; done)
    | (have z := cs_keep_k h; omega)
theorem wr_member (h : cw D W n X R) (hW : D + 128 ≤ W.1) (hq1 : D + 128 ≤ q) (hq2 : q < W.1) (hf : W.2.2 q = some (od_la 1 f)) (a m to : Int32) : od_W 9 140 0 (od_ent 140 [.ref D, .int a, .int m, .int to, .ref q]) [] W (wr D q W (cs_code (cs_member X a m to).1) (cs_member X a m to).1 n (cs_member X a m to).2 R) := by
  have e0 : od_ent 140 [.ref D, .int a, .int m, .int to, .ref q] = [some (.ref D), some (.int a), some (.int m), some (.int to), some (.ref q), none] := rfl
  rw [e0]
  have h0 := h.h0
  obtain ⟨ρ, h1, h2⟩ := h
  have hc := lt_member h2 a m to
  rw [← h1] at hc
  refine od_W.rn (pc' := 7) (ls' := [some (.ref _), some (.int _), some (.int _), some (.int _), some (.ref _), none]) (st' := [.int _, .int _, .int _, .ref _, .int _, .ref _]) 6 rfl ?_
  refine od_rV (as := [.int a, .int m, .int to]) rfl rfl rfl rfl (h0) rfl (Nat.le_of_ble_eq_true rfl) (Nat.le_of_ble_eq_true rfl) (hc) (Nat.le_of_ble_eq_true rfl) (fun o M1 hq => ?_)
  obtain ⟨w1, w2, w3⟩ := dk_o.w hW hq
  rcases hr : (cs_member X a m to).1 with v | k
  · rw [hr] at w3
    obtain ⟨rfl, w4, w5⟩ := w3
    refine od_K.ret ?_
    refine od_W.rn (pc' := 11) (ls' := [some (.ref _), some (.int _), some (.int _), some (.int _), some (.ref _), none]) (st' := [.long _, .int _, .ref _]) 1 rfl ?_
    refine od_rLS rfl ((w2 q (Or.inr hq1) (by omega)).trans hf) ((show Int32.ofInt 0 = nI 0 from rfl)) (by omega) (by decide) ?_
    refine od_W.rn (pc' := 28) (ls' := [some (.ref _), some (.int _), some (.int _), some (.int _), some (.ref _), none]) (st' := [.int _]) 2 rfl ?_
    refine od_W.fin rfl ?_
    refine ⟨rfl, w1.tr (fun a _ h2 => od_set_o (by omega)), fun a ha n1 n2 => (od_set_o n2).trans (w2 a ha n1), ?_, ?_, ?_, _, od_set_s _ _ _, fun u hu => ?_⟩
    · show W.1 ≤ M1.1; omega
    · show M1.1 ≤ W.1 + 1; omega
    · show M1.2.1 ≤ W.2.1 + 6; omega
    · cases hu; rfl
  · rw [hr] at w3
    obtain ⟨rfl, w4, w5⟩ := w3
    rcases ki_member hr with rfl | rfl | rfl
    · refine od_K.cat (h := 15) rfl ?_
      refine od_W.rn (pc' := 18) (ls' := [some (.ref _), some (.int _), some (.int _), some (.int _), some (.ref _), some (.ref _)]) (st' := [.int _]) 2 rfl ?_
      refine od_W.fin rfl ?_
      exact ⟨rfl, w1, fun a ha n1 _ => w2 a ha n1, by omega, by omega, by omega, _, (w2 q (Or.inr hq1) (by omega)).trans hf, fun u hu => absurd hu (by simp)⟩
    · refine od_K.cat (h := 19) rfl ?_
      refine od_W.rn (pc' := 22) (ls' := [some (.ref _), some (.int _), some (.int _), some (.int _), some (.ref _), some (.ref _)]) (st' := [.int _]) 2 rfl ?_
      refine od_W.fin rfl ?_
      exact ⟨rfl, w1, fun a ha n1 _ => w2 a ha n1, by omega, by omega, by omega, _, (w2 q (Or.inr hq1) (by omega)).trans hf, fun u hu => absurd hu (by simp)⟩
    · refine od_K.cat (h := 23) rfl ?_
      refine od_W.rn (pc' := 26) (ls' := [some (.ref _), some (.int _), some (.int _), some (.int _), some (.ref _), some (.ref _)]) (st' := [.int _]) 2 rfl ?_
      refine od_W.fin rfl ?_
      exact ⟨rfl, w1, fun a ha n1 _ => w2 a ha n1, by omega, by omega, by omega, _, (w2 q (Or.inr hq1) (by omega)).trans hf, fun u hu => absurd hu (by simp)⟩
theorem ki_step {a m to : Int32} {k : Nat} (h : (cs_step X a m to).1 = .inr k) : k = 0 ∨ k = 1 ∨ k = 2 := by
  unfold cs_step at h
  repeat' split at h
  all_goals first
    | (cases h; done)
    | (cases h; simp; done)
    | (have z := cs_keep_k h; omega)
theorem wr_step (h : cw D W n X R) (hW : D + 128 ≤ W.1) (hq1 : D + 128 ≤ q) (hq2 : q < W.1) (hf : W.2.2 q = some (od_la 1 f)) (a m to : Int32) : od_W 9 141 0 (od_ent 141 [.ref D, .int a, .int m, .int to, .ref q]) [] W (wr D q W (cs_code (cs_step X a m to).1) (cs_step X a m to).1 n (cs_step X a m to).2 R) := by
  have e0 : od_ent 141 [.ref D, .int a, .int m, .int to, .ref q] = [some (.ref D), some (.int a), some (.int m), some (.int to), some (.ref q), none] := rfl
  rw [e0]
  have h0 := h.h0
  obtain ⟨ρ, h1, h2⟩ := h
  have hc := lt_step h2 a m to
  rw [← h1] at hc
  refine od_W.rn (pc' := 7) (ls' := [some (.ref _), some (.int _), some (.int _), some (.int _), some (.ref _), none]) (st' := [.int _, .int _, .int _, .ref _, .int _, .ref _]) 6 rfl ?_
  refine od_rV (as := [.int a, .int m, .int to]) rfl rfl rfl rfl (h0) rfl (Nat.le_of_ble_eq_true rfl) (Nat.le_of_ble_eq_true rfl) (hc) (Nat.le_of_ble_eq_true rfl) (fun o M1 hq => ?_)
  obtain ⟨w1, w2, w3⟩ := dk_o.w hW hq
  rcases hr : (cs_step X a m to).1 with v | k
  · rw [hr] at w3
    obtain ⟨rfl, w4, w5⟩ := w3
    refine od_K.ret ?_
    refine od_W.rn (pc' := 11) (ls' := [some (.ref _), some (.int _), some (.int _), some (.int _), some (.ref _), none]) (st' := [.long _, .int _, .ref _]) 1 rfl ?_
    refine od_rLS rfl ((w2 q (Or.inr hq1) (by omega)).trans hf) ((show Int32.ofInt 0 = nI 0 from rfl)) (by omega) (by decide) ?_
    refine od_W.rn (pc' := 28) (ls' := [some (.ref _), some (.int _), some (.int _), some (.int _), some (.ref _), none]) (st' := [.int _]) 2 rfl ?_
    refine od_W.fin rfl ?_
    refine ⟨rfl, w1.tr (fun a _ h2 => od_set_o (by omega)), fun a ha n1 n2 => (od_set_o n2).trans (w2 a ha n1), ?_, ?_, ?_, _, od_set_s _ _ _, fun u hu => ?_⟩
    · show W.1 ≤ M1.1; omega
    · show M1.1 ≤ W.1 + 1; omega
    · show M1.2.1 ≤ W.2.1 + 6; omega
    · cases hu; rfl
  · rw [hr] at w3
    obtain ⟨rfl, w4, w5⟩ := w3
    rcases ki_step hr with rfl | rfl | rfl
    · refine od_K.cat (h := 15) rfl ?_
      refine od_W.rn (pc' := 18) (ls' := [some (.ref _), some (.int _), some (.int _), some (.int _), some (.ref _), some (.ref _)]) (st' := [.int _]) 2 rfl ?_
      refine od_W.fin rfl ?_
      exact ⟨rfl, w1, fun a ha n1 _ => w2 a ha n1, by omega, by omega, by omega, _, (w2 q (Or.inr hq1) (by omega)).trans hf, fun u hu => absurd hu (by simp)⟩
    · refine od_K.cat (h := 19) rfl ?_
      refine od_W.rn (pc' := 22) (ls' := [some (.ref _), some (.int _), some (.int _), some (.int _), some (.ref _), some (.ref _)]) (st' := [.int _]) 2 rfl ?_
      refine od_W.fin rfl ?_
      exact ⟨rfl, w1, fun a ha n1 _ => w2 a ha n1, by omega, by omega, by omega, _, (w2 q (Or.inr hq1) (by omega)).trans hf, fun u hu => absurd hu (by simp)⟩
    · refine od_K.cat (h := 23) rfl ?_
      refine od_W.rn (pc' := 26) (ls' := [some (.ref _), some (.int _), some (.int _), some (.int _), some (.ref _), some (.ref _)]) (st' := [.int _]) 2 rfl ?_
      refine od_W.fin rfl ?_
      exact ⟨rfl, w1, fun a ha n1 _ => w2 a ha n1, by omega, by omega, by omega, _, (w2 q (Or.inr hq1) (by omega)).trans hf, fun u hu => absurd hu (by simp)⟩
theorem ki_chop {a w c to : Int32} {k : Nat} (h : (cs_chop X a w c to).1 = .inr k) : k = 0 ∨ k = 1 ∨ k = 2 := by
  unfold cs_chop at h
  repeat' split at h
  all_goals first
    | (cases h; done)
    | (cases h; simp; done)
    | (have z := cs_keep_k h; omega)
theorem wr_chop (h : cw D W n X R) (hW : D + 128 ≤ W.1) (hq1 : D + 128 ≤ q) (hq2 : q < W.1) (hf : W.2.2 q = some (od_la 1 f)) (a w c to : Int32) : od_W 9 142 0 (od_ent 142 [.ref D, .int a, .int w, .int c, .int to, .ref q]) [] W (wr D q W (cs_code (cs_chop X a w c to).1) (cs_chop X a w c to).1 n (cs_chop X a w c to).2 R) := by
  have e0 : od_ent 142 [.ref D, .int a, .int w, .int c, .int to, .ref q] = [some (.ref D), some (.int a), some (.int w), some (.int c), some (.int to), some (.ref q), none] := rfl
  rw [e0]
  have h0 := h.h0
  obtain ⟨ρ, h1, h2⟩ := h
  have hc := lt_chop h2 a w c to
  rw [← h1] at hc
  refine od_W.rn (pc' := 9) (ls' := [some (.ref _), some (.int _), some (.int _), some (.int _), some (.int _), some (.ref _), none]) (st' := [.int _, .int _, .int _, .int _, .ref _, .int _, .ref _]) 7 rfl ?_
  refine od_rV (as := [.int a, .int w, .int c, .int to]) rfl rfl rfl rfl (h0) rfl (Nat.le_of_ble_eq_true rfl) (Nat.le_of_ble_eq_true rfl) (hc) (Nat.le_of_ble_eq_true rfl) (fun o M1 hq => ?_)
  obtain ⟨w1, w2, w3⟩ := dk_o.w hW hq
  rcases hr : (cs_chop X a w c to).1 with v | k
  · rw [hr] at w3
    obtain ⟨rfl, w4, w5⟩ := w3
    refine od_K.ret ?_
    refine od_W.rn (pc' := 13) (ls' := [some (.ref _), some (.int _), some (.int _), some (.int _), some (.int _), some (.ref _), none]) (st' := [.long _, .int _, .ref _]) 1 rfl ?_
    refine od_rLS rfl ((w2 q (Or.inr hq1) (by omega)).trans hf) ((show Int32.ofInt 0 = nI 0 from rfl)) (by omega) (by decide) ?_
    refine od_W.rn (pc' := 30) (ls' := [some (.ref _), some (.int _), some (.int _), some (.int _), some (.int _), some (.ref _), none]) (st' := [.int _]) 2 rfl ?_
    refine od_W.fin rfl ?_
    refine ⟨rfl, w1.tr (fun a _ h2 => od_set_o (by omega)), fun a ha n1 n2 => (od_set_o n2).trans (w2 a ha n1), ?_, ?_, ?_, _, od_set_s _ _ _, fun u hu => ?_⟩
    · show W.1 ≤ M1.1; omega
    · show M1.1 ≤ W.1 + 1; omega
    · show M1.2.1 ≤ W.2.1 + 6; omega
    · cases hu; rfl
  · rw [hr] at w3
    obtain ⟨rfl, w4, w5⟩ := w3
    rcases ki_chop hr with rfl | rfl | rfl
    · refine od_K.cat (h := 17) rfl ?_
      refine od_W.rn (pc' := 20) (ls' := [some (.ref _), some (.int _), some (.int _), some (.int _), some (.int _), some (.ref _), some (.ref _)]) (st' := [.int _]) 2 rfl ?_
      refine od_W.fin rfl ?_
      exact ⟨rfl, w1, fun a ha n1 _ => w2 a ha n1, by omega, by omega, by omega, _, (w2 q (Or.inr hq1) (by omega)).trans hf, fun u hu => absurd hu (by simp)⟩
    · refine od_K.cat (h := 21) rfl ?_
      refine od_W.rn (pc' := 24) (ls' := [some (.ref _), some (.int _), some (.int _), some (.int _), some (.int _), some (.ref _), some (.ref _)]) (st' := [.int _]) 2 rfl ?_
      refine od_W.fin rfl ?_
      exact ⟨rfl, w1, fun a ha n1 _ => w2 a ha n1, by omega, by omega, by omega, _, (w2 q (Or.inr hq1) (by omega)).trans hf, fun u hu => absurd hu (by simp)⟩
    · refine od_K.cat (h := 25) rfl ?_
      refine od_W.rn (pc' := 28) (ls' := [some (.ref _), some (.int _), some (.int _), some (.int _), some (.int _), some (.ref _), some (.ref _)]) (st' := [.int _]) 2 rfl ?_
      refine od_W.fin rfl ?_
      exact ⟨rfl, w1, fun a ha n1 _ => w2 a ha n1, by omega, by omega, by omega, _, (w2 q (Or.inr hq1) (by omega)).trans hf, fun u hu => absurd hu (by simp)⟩
theorem ki_start {m b to : Int32} {k : Nat} (h : (cs_start X m b to).1 = .inr k) : k = 0 ∨ k = 1 ∨ k = 2 := by
  unfold cs_start at h
  repeat' split at h
  all_goals first
    | (cases h; done)
    | (cases h; simp; done)
    | (have z := cs_keep_k h; omega)
theorem wr_start (h : cw D W n X R) (hW : D + 128 ≤ W.1) (hq1 : D + 128 ≤ q) (hq2 : q < W.1) (hf : W.2.2 q = some (od_la 1 f)) (m b to : Int32) : od_W 14 143 0 (od_ent 143 [.ref D, .int m, .int b, .int to, .ref q]) [] W (wr D q W (cs_code (cs_start X m b to).1) (cs_start X m b to).1 n (cs_start X m b to).2 R) := by
  have e0 : od_ent 143 [.ref D, .int m, .int b, .int to, .ref q] = [some (.ref D), some (.int m), some (.int b), some (.int to), some (.ref q), none] := rfl
  rw [e0]
  have h0 := h.h0
  obtain ⟨ρ, h1, h2⟩ := h
  have hc := lt_start h2 m b to
  rw [← h1] at hc
  refine od_W.rn (pc' := 7) (ls' := [some (.ref _), some (.int _), some (.int _), some (.int _), some (.ref _), none]) (st' := [.int _, .int _, .int _, .ref _, .int _, .ref _]) 6 rfl ?_
  refine od_rV (as := [.int m, .int b, .int to]) rfl rfl rfl rfl (h0) rfl (Nat.le_of_ble_eq_true rfl) (Nat.le_of_ble_eq_true rfl) (hc) (Nat.le_of_ble_eq_true rfl) (fun o M1 hq => ?_)
  obtain ⟨w1, w2, w3⟩ := dk_o.w hW hq
  rcases hr : (cs_start X m b to).1 with v | k
  · rw [hr] at w3
    obtain ⟨rfl, w4, w5⟩ := w3
    refine od_K.ret ?_
    refine od_W.rn (pc' := 11) (ls' := [some (.ref _), some (.int _), some (.int _), some (.int _), some (.ref _), none]) (st' := [.long _, .int _, .ref _]) 1 rfl ?_
    refine od_rLS rfl ((w2 q (Or.inr hq1) (by omega)).trans hf) ((show Int32.ofInt 0 = nI 0 from rfl)) (by omega) (by decide) ?_
    refine od_W.rn (pc' := 28) (ls' := [some (.ref _), some (.int _), some (.int _), some (.int _), some (.ref _), none]) (st' := [.int _]) 2 rfl ?_
    refine od_W.fin rfl ?_
    refine ⟨rfl, w1.tr (fun a _ h2 => od_set_o (by omega)), fun a ha n1 n2 => (od_set_o n2).trans (w2 a ha n1), ?_, ?_, ?_, _, od_set_s _ _ _, fun u hu => ?_⟩
    · show W.1 ≤ M1.1; omega
    · show M1.1 ≤ W.1 + 1; omega
    · show M1.2.1 ≤ W.2.1 + 6; omega
    · cases hu; rfl
  · rw [hr] at w3
    obtain ⟨rfl, w4, w5⟩ := w3
    rcases ki_start hr with rfl | rfl | rfl
    · refine od_K.cat (h := 15) rfl ?_
      refine od_W.rn (pc' := 18) (ls' := [some (.ref _), some (.int _), some (.int _), some (.int _), some (.ref _), some (.ref _)]) (st' := [.int _]) 2 rfl ?_
      refine od_W.fin rfl ?_
      exact ⟨rfl, w1, fun a ha n1 _ => w2 a ha n1, by omega, by omega, by omega, _, (w2 q (Or.inr hq1) (by omega)).trans hf, fun u hu => absurd hu (by simp)⟩
    · refine od_K.cat (h := 19) rfl ?_
      refine od_W.rn (pc' := 22) (ls' := [some (.ref _), some (.int _), some (.int _), some (.int _), some (.ref _), some (.ref _)]) (st' := [.int _]) 2 rfl ?_
      refine od_W.fin rfl ?_
      exact ⟨rfl, w1, fun a ha n1 _ => w2 a ha n1, by omega, by omega, by omega, _, (w2 q (Or.inr hq1) (by omega)).trans hf, fun u hu => absurd hu (by simp)⟩
    · refine od_K.cat (h := 23) rfl ?_
      refine od_W.rn (pc' := 26) (ls' := [some (.ref _), some (.int _), some (.int _), some (.int _), some (.ref _), some (.ref _)]) (st' := [.int _]) 2 rfl ?_
      refine od_W.fin rfl ?_
      exact ⟨rfl, w1, fun a ha n1 _ => w2 a ha n1, by omega, by omega, by omega, _, (w2 q (Or.inr hq1) (by omega)).trans hf, fun u hu => absurd hu (by simp)⟩
theorem ki_compare {a b : Int32} {k : Nat} (h : (cs_compare X a b) = .inr k) : k = 0 := by
  unfold cs_compare at h
  repeat' split at h
  all_goals first
    | (cases h; done)
    | (cases h; simp; done)
    | (have z := cs_keep_k h; omega)
theorem wr_compare (h : cw D W n X R) (hW : D + 128 ≤ W.1) (hq1 : D + 128 ≤ q) (hq2 : q < W.1) (hf : W.2.2 q = some (od_la 1 f)) (a b : Int32) : od_W 5 144 0 (od_ent 144 [.ref D, .int a, .int b, .ref q]) [] W (wr D q W (cs_code (cs_compare X a b)) (cs_compare X a b) n X R) := by
  have e0 : od_ent 144 [.ref D, .int a, .int b, .ref q] = [some (.ref D), some (.int a), some (.int b), some (.ref q), none] := rfl
  rw [e0]
  have h0 := h.h0
  obtain ⟨ρ, h1, h2⟩ := h
  have hc := lt_compare h2 a b
  rw [← h1] at hc
  refine od_W.rn (pc' := 5) (ls' := [some (.ref _), some (.int _), some (.int _), some (.ref _), none]) (st' := [.int _, .int _, .ref _, .int _, .ref _]) 5 rfl ?_
  refine od_rV (as := [.int a, .int b]) rfl rfl rfl rfl (h0) rfl (Nat.le_of_ble_eq_true rfl) (Nat.le_of_ble_eq_true rfl) (hc) (Nat.le_of_ble_eq_true rfl) (fun o M1 hq => ?_)
  obtain ⟨w1, w2, w3⟩ := dk_o.w hW hq
  rcases hr : (cs_compare X a b) with v | k
  · rw [hr] at w3
    obtain ⟨rfl, w4, w5⟩ := w3
    refine od_K.ret ?_
    refine od_W.rn (pc' := 9) (ls' := [some (.ref _), some (.int _), some (.int _), some (.ref _), none]) (st' := [.long _, .int _, .ref _]) 1 rfl ?_
    refine od_rLS rfl ((w2 q (Or.inr hq1) (by omega)).trans hf) ((show Int32.ofInt 0 = nI 0 from rfl)) (by omega) (by decide) ?_
    refine od_W.rn (pc' := 18) (ls' := [some (.ref _), some (.int _), some (.int _), some (.ref _), none]) (st' := [.int _]) 2 rfl ?_
    refine od_W.fin rfl ?_
    refine ⟨rfl, w1.tr (fun a _ h2 => od_set_o (by omega)), fun a ha n1 n2 => (od_set_o n2).trans (w2 a ha n1), ?_, ?_, ?_, _, od_set_s _ _ _, fun u hu => ?_⟩
    · show W.1 ≤ M1.1; omega
    · show M1.1 ≤ W.1 + 1; omega
    · show M1.2.1 ≤ W.2.1 + 6; omega
    · cases hu; rfl
  · rw [hr] at w3
    obtain ⟨rfl, w4, w5⟩ := w3
    rcases ki_compare hr with rfl
    · refine od_K.cat (h := 13) rfl ?_
      refine od_W.rn (pc' := 16) (ls' := [some (.ref _), some (.int _), some (.int _), some (.ref _), some (.ref _)]) (st' := [.int _]) 2 rfl ?_
      refine od_W.fin rfl ?_
      exact ⟨rfl, w1, fun a ha n1 _ => w2 a ha n1, by omega, by omega, by omega, _, (w2 q (Or.inr hq1) (by omega)).trans hf, fun u hu => absurd hu (by simp)⟩
theorem ki_kind {a : Int32} {k : Nat} (h : (cs_kind X a) = .inr k) : k = 0 := by
  unfold cs_kind at h
  unfold cs_get at h
  repeat' split at h
  all_goals first
    | (cases h; done)
    | (cases h; simp; done)
    | (have z := cs_keep_k h; omega)
theorem wr_kind (h : cw D W n X R) (hW : D + 128 ≤ W.1) (hq1 : D + 128 ≤ q) (hq2 : q < W.1) (hf : W.2.2 q = some (od_la 1 f)) (a : Int32) : od_W 5 145 0 (od_ent 145 [.ref D, .int a, .ref q]) [] W (wr D q W (cs_code (cs_kind X a)) (cs_kind X a) n X R) := by
  have e0 : od_ent 145 [.ref D, .int a, .ref q] = [some (.ref D), some (.int a), some (.ref q), none] := rfl
  rw [e0]
  have h0 := h.h0
  obtain ⟨ρ, h1, h2⟩ := h
  have hc := lt_kind h2 a
  rw [← h1] at hc
  refine od_W.rn (pc' := 4) (ls' := [some (.ref _), some (.int _), some (.ref _), none]) (st' := [.int _, .ref _, .int _, .ref _]) 4 rfl ?_
  refine od_rV (as := [.int a]) rfl rfl rfl rfl (h0) rfl (Nat.le_of_ble_eq_true rfl) (Nat.le_of_ble_eq_true rfl) (hc) (Nat.le_of_ble_eq_true rfl) (fun o M1 hq => ?_)
  obtain ⟨w1, w2, w3⟩ := dk_o.w hW hq
  rcases hr : (cs_kind X a) with v | k
  · rw [hr] at w3
    obtain ⟨rfl, w4, w5⟩ := w3
    refine od_K.ret ?_
    refine od_W.rn (pc' := 8) (ls' := [some (.ref _), some (.int _), some (.ref _), none]) (st' := [.long _, .int _, .ref _]) 1 rfl ?_
    refine od_rLS rfl ((w2 q (Or.inr hq1) (by omega)).trans hf) ((show Int32.ofInt 0 = nI 0 from rfl)) (by omega) (by decide) ?_
    refine od_W.rn (pc' := 16) (ls' := [some (.ref _), some (.int _), some (.ref _), none]) (st' := [.int _]) 2 rfl ?_
    refine od_W.fin rfl ?_
    refine ⟨rfl, w1.tr (fun a _ h2 => od_set_o (by omega)), fun a ha n1 n2 => (od_set_o n2).trans (w2 a ha n1), ?_, ?_, ?_, _, od_set_s _ _ _, fun u hu => ?_⟩
    · show W.1 ≤ M1.1; omega
    · show M1.1 ≤ W.1 + 1; omega
    · show M1.2.1 ≤ W.2.1 + 6; omega
    · cases hu; rfl
  · rw [hr] at w3
    obtain ⟨rfl, w4, w5⟩ := w3
    rcases ki_kind hr with rfl
    · refine od_K.cat (h := 12) rfl ?_
      refine od_W.rn (pc' := 14) (ls' := [some (.ref _), some (.int _), some (.ref _), some (.ref _)]) (st' := [.int _]) 2 rfl ?_
      refine od_W.fin rfl ?_
      exact ⟨rfl, w1, fun a ha n1 _ => w2 a ha n1, by omega, by omega, by omega, _, (w2 q (Or.inr hq1) (by omega)).trans hf, fun u hu => absurd hu (by simp)⟩
theorem ki_size {a : Int32} {k : Nat} (h : (cs_size X a) = .inr k) : k = 0 := by
  unfold cs_size at h
  unfold cs_get at h
  repeat' split at h
  all_goals first
    | (cases h; done)
    | (cases h; simp; done)
    | (have z := cs_keep_k h; omega)
theorem wr_size (h : cw D W n X R) (hW : D + 128 ≤ W.1) (hq1 : D + 128 ≤ q) (hq2 : q < W.1) (hf : W.2.2 q = some (od_la 1 f)) (a : Int32) : od_W 5 146 0 (od_ent 146 [.ref D, .int a, .ref q]) [] W (wr D q W (cs_code (cs_size X a)) (cs_size X a) n X R) := by
  have e0 : od_ent 146 [.ref D, .int a, .ref q] = [some (.ref D), some (.int a), some (.ref q), none] := rfl
  rw [e0]
  have h0 := h.h0
  obtain ⟨ρ, h1, h2⟩ := h
  have hc := lt_size h2 a
  rw [← h1] at hc
  refine od_W.rn (pc' := 4) (ls' := [some (.ref _), some (.int _), some (.ref _), none]) (st' := [.int _, .ref _, .int _, .ref _]) 4 rfl ?_
  refine od_rV (as := [.int a]) rfl rfl rfl rfl (h0) rfl (Nat.le_of_ble_eq_true rfl) (Nat.le_of_ble_eq_true rfl) (hc) (Nat.le_of_ble_eq_true rfl) (fun o M1 hq => ?_)
  obtain ⟨w1, w2, w3⟩ := dk_o.w hW hq
  rcases hr : (cs_size X a) with v | k
  · rw [hr] at w3
    obtain ⟨rfl, w4, w5⟩ := w3
    refine od_K.ret ?_
    refine od_W.rn (pc' := 8) (ls' := [some (.ref _), some (.int _), some (.ref _), none]) (st' := [.long _, .int _, .ref _]) 1 rfl ?_
    refine od_rLS rfl ((w2 q (Or.inr hq1) (by omega)).trans hf) ((show Int32.ofInt 0 = nI 0 from rfl)) (by omega) (by decide) ?_
    refine od_W.rn (pc' := 16) (ls' := [some (.ref _), some (.int _), some (.ref _), none]) (st' := [.int _]) 2 rfl ?_
    refine od_W.fin rfl ?_
    refine ⟨rfl, w1.tr (fun a _ h2 => od_set_o (by omega)), fun a ha n1 n2 => (od_set_o n2).trans (w2 a ha n1), ?_, ?_, ?_, _, od_set_s _ _ _, fun u hu => ?_⟩
    · show W.1 ≤ M1.1; omega
    · show M1.1 ≤ W.1 + 1; omega
    · show M1.2.1 ≤ W.2.1 + 6; omega
    · cases hu; rfl
  · rw [hr] at w3
    obtain ⟨rfl, w4, w5⟩ := w3
    rcases ki_size hr with rfl
    · refine od_K.cat (h := 12) rfl ?_
      refine od_W.rn (pc' := 14) (ls' := [some (.ref _), some (.int _), some (.ref _), some (.ref _)]) (st' := [.int _]) 2 rfl ?_
      refine od_W.fin rfl ?_
      exact ⟨rfl, w1, fun a ha n1 _ => w2 a ha n1, by omega, by omega, by omega, _, (w2 q (Or.inr hq1) (by omega)).trans hf, fun u hu => absurd hu (by simp)⟩
theorem ki_at {a j : Int32} {k : Nat} (h : (cs_at X a j) = .inr k) : k = 0 := by
  unfold cs_at at h
  unfold cs_get at h
  repeat' split at h
  all_goals first
    | (cases h; done)
    | (cases h; simp; done)
    | (have z := cs_keep_k h; omega)
theorem wr_at (h : cw D W n X R) (hW : D + 128 ≤ W.1) (hq1 : D + 128 ≤ q) (hq2 : q < W.1) (hf : W.2.2 q = some (od_la 1 f)) (a j : Int32) : od_W 5 147 0 (od_ent 147 [.ref D, .int a, .int j, .ref q]) [] W (wr D q W (cs_code (cs_at X a j)) (cs_at X a j) n X R) := by
  have e0 : od_ent 147 [.ref D, .int a, .int j, .ref q] = [some (.ref D), some (.int a), some (.int j), some (.ref q), none] := rfl
  rw [e0]
  have h0 := h.h0
  obtain ⟨ρ, h1, h2⟩ := h
  have hc := lt_at h2 a j
  rw [← h1] at hc
  refine od_W.rn (pc' := 5) (ls' := [some (.ref _), some (.int _), some (.int _), some (.ref _), none]) (st' := [.int _, .int _, .ref _, .int _, .ref _]) 5 rfl ?_
  refine od_rV (as := [.int a, .int j]) rfl rfl rfl rfl (h0) rfl (Nat.le_of_ble_eq_true rfl) (Nat.le_of_ble_eq_true rfl) (hc) (Nat.le_of_ble_eq_true rfl) (fun o M1 hq => ?_)
  obtain ⟨w1, w2, w3⟩ := dk_o.w hW hq
  rcases hr : (cs_at X a j) with v | k
  · rw [hr] at w3
    obtain ⟨rfl, w4, w5⟩ := w3
    refine od_K.ret ?_
    refine od_W.rn (pc' := 9) (ls' := [some (.ref _), some (.int _), some (.int _), some (.ref _), none]) (st' := [.long _, .int _, .ref _]) 1 rfl ?_
    refine od_rLS rfl ((w2 q (Or.inr hq1) (by omega)).trans hf) ((show Int32.ofInt 0 = nI 0 from rfl)) (by omega) (by decide) ?_
    refine od_W.rn (pc' := 18) (ls' := [some (.ref _), some (.int _), some (.int _), some (.ref _), none]) (st' := [.int _]) 2 rfl ?_
    refine od_W.fin rfl ?_
    refine ⟨rfl, w1.tr (fun a _ h2 => od_set_o (by omega)), fun a ha n1 n2 => (od_set_o n2).trans (w2 a ha n1), ?_, ?_, ?_, _, od_set_s _ _ _, fun u hu => ?_⟩
    · show W.1 ≤ M1.1; omega
    · show M1.1 ≤ W.1 + 1; omega
    · show M1.2.1 ≤ W.2.1 + 6; omega
    · cases hu; rfl
  · rw [hr] at w3
    obtain ⟨rfl, w4, w5⟩ := w3
    rcases ki_at hr with rfl
    · refine od_K.cat (h := 13) rfl ?_
      refine od_W.rn (pc' := 16) (ls' := [some (.ref _), some (.int _), some (.int _), some (.ref _), some (.ref _)]) (st' := [.int _]) 2 rfl ?_
      refine od_W.fin rfl ?_
      exact ⟨rfl, w1, fun a ha n1 _ => w2 a ha n1, by omega, by omega, by omega, _, (w2 q (Or.inr hq1) (by omega)).trans hf, fun u hu => absurd hu (by simp)⟩
theorem ki_value {a m : Int32} {k : Nat} (h : (cs_value X a m) = .inr k) : k = 0 ∨ k = 1 := by
  unfold cs_value at h
  repeat' split at h
  all_goals first
    | (cases h; done)
    | (cases h; simp; done)
    | (have z := cs_keep_k h; omega)
theorem wr_value (h : cw D W n X R) (hW : D + 128 ≤ W.1) (hq1 : D + 128 ≤ q) (hq2 : q < W.1) (hf : W.2.2 q = some (od_la 1 f)) (a m : Int32) : od_W 6 148 0 (od_ent 148 [.ref D, .int a, .int m, .ref q]) [] W (wr D q W (cs_code (cs_value X a m)) (cs_value X a m) n X R) := by
  have e0 : od_ent 148 [.ref D, .int a, .int m, .ref q] = [some (.ref D), some (.int a), some (.int m), some (.ref q), none] := rfl
  rw [e0]
  have h0 := h.h0
  obtain ⟨ρ, h1, h2⟩ := h
  have hc := lt_value h2 a m
  rw [← h1] at hc
  refine od_W.rn (pc' := 5) (ls' := [some (.ref _), some (.int _), some (.int _), some (.ref _), none]) (st' := [.int _, .int _, .ref _, .int _, .ref _]) 5 rfl ?_
  refine od_rV (as := [.int a, .int m]) rfl rfl rfl rfl (h0) rfl (Nat.le_of_ble_eq_true rfl) (Nat.le_of_ble_eq_true rfl) (hc) (Nat.le_of_ble_eq_true rfl) (fun o M1 hq => ?_)
  obtain ⟨w1, w2, w3⟩ := dk_o.w hW hq
  rcases hr : (cs_value X a m) with v | k
  · rw [hr] at w3
    obtain ⟨rfl, w4, w5⟩ := w3
    refine od_K.ret ?_
    refine od_W.rn (pc' := 9) (ls' := [some (.ref _), some (.int _), some (.int _), some (.ref _), none]) (st' := [.long _, .int _, .ref _]) 1 rfl ?_
    refine od_rLS rfl ((w2 q (Or.inr hq1) (by omega)).trans hf) ((show Int32.ofInt 0 = nI 0 from rfl)) (by omega) (by decide) ?_
    refine od_W.rn (pc' := 22) (ls' := [some (.ref _), some (.int _), some (.int _), some (.ref _), none]) (st' := [.int _]) 2 rfl ?_
    refine od_W.fin rfl ?_
    refine ⟨rfl, w1.tr (fun a _ h2 => od_set_o (by omega)), fun a ha n1 n2 => (od_set_o n2).trans (w2 a ha n1), ?_, ?_, ?_, _, od_set_s _ _ _, fun u hu => ?_⟩
    · show W.1 ≤ M1.1; omega
    · show M1.1 ≤ W.1 + 1; omega
    · show M1.2.1 ≤ W.2.1 + 6; omega
    · cases hu; rfl
  · rw [hr] at w3
    obtain ⟨rfl, w4, w5⟩ := w3
    rcases ki_value hr with rfl | rfl
    · refine od_K.cat (h := 13) rfl ?_
      refine od_W.rn (pc' := 16) (ls' := [some (.ref _), some (.int _), some (.int _), some (.ref _), some (.ref _)]) (st' := [.int _]) 2 rfl ?_
      refine od_W.fin rfl ?_
      exact ⟨rfl, w1, fun a ha n1 _ => w2 a ha n1, by omega, by omega, by omega, _, (w2 q (Or.inr hq1) (by omega)).trans hf, fun u hu => absurd hu (by simp)⟩
    · refine od_K.cat (h := 17) rfl ?_
      refine od_W.rn (pc' := 20) (ls' := [some (.ref _), some (.int _), some (.int _), some (.ref _), some (.ref _)]) (st' := [.int _]) 2 rfl ?_
      refine od_W.fin rfl ?_
      exact ⟨rfl, w1, fun a ha n1 _ => w2 a ha n1, by omega, by omega, by omega, _, (w2 q (Or.inr hq1) (by omega)).trans hf, fun u hu => absurd hu (by simp)⟩
theorem ki_fast {a m g : Int32} {k : Nat} (h : (cs_fast X a m g) = .inr k) : k = 0 ∨ k = 1 ∨ k = 2 := by
  unfold cs_fast at h
  split at h
  · cases h; simp
  · split at h
    · split at h
      · rename_i z _ _ _
        by_cases y : ok_fs g.toNatClampNeg [(X z, 1)] m.toNatClampNeg
        · rw [cif_pos y] at h; cases h
        · rw [cif_neg y] at h; cases h; simp
      · cases h; simp
    · cases h; simp
theorem wr_fast (h : cw D W n X R) (hW : D + 128 ≤ W.1) (hq1 : D + 128 ≤ q) (hq2 : q < W.1) (hf : W.2.2 q = some (od_la 1 f)) (a m g : Int32) : od_W 9 149 0 (od_ent 149 [.ref D, .int a, .int m, .int g, .ref q]) [] W (wr D q W (cs_code (cs_fast X a m g)) (cs_fast X a m g) n X R) := by
  have e0 : od_ent 149 [.ref D, .int a, .int m, .int g, .ref q] = [some (.ref D), some (.int a), some (.int m), some (.int g), some (.ref q), none] := rfl
  rw [e0]
  have h0 := h.h0
  obtain ⟨ρ, h1, h2⟩ := h
  have hc := lt_fast h2 a m g
  rw [← h1] at hc
  refine od_W.rn (pc' := 7) (ls' := [some (.ref _), some (.int _), some (.int _), some (.int _), some (.ref _), none]) (st' := [.int _, .int _, .int _, .ref _, .int _, .ref _]) 6 rfl ?_
  refine od_rV (as := [.int a, .int m, .int g]) rfl rfl rfl rfl (h0) rfl (Nat.le_of_ble_eq_true rfl) (Nat.le_of_ble_eq_true rfl) (hc) (Nat.le_of_ble_eq_true rfl) (fun o M1 hq => ?_)
  obtain ⟨w1, w2, w3⟩ := dk_o.w hW hq
  rcases hr : (cs_fast X a m g) with v | k
  · rw [hr] at w3
    obtain ⟨rfl, w4, w5⟩ := w3
    refine od_K.ret ?_
    refine od_W.rn (pc' := 11) (ls' := [some (.ref _), some (.int _), some (.int _), some (.int _), some (.ref _), none]) (st' := [.long _, .int _, .ref _]) 1 rfl ?_
    refine od_rLS rfl ((w2 q (Or.inr hq1) (by omega)).trans hf) ((show Int32.ofInt 0 = nI 0 from rfl)) (by omega) (by decide) ?_
    refine od_W.rn (pc' := 28) (ls' := [some (.ref _), some (.int _), some (.int _), some (.int _), some (.ref _), none]) (st' := [.int _]) 2 rfl ?_
    refine od_W.fin rfl ?_
    refine ⟨rfl, w1.tr (fun a _ h2 => od_set_o (by omega)), fun a ha n1 n2 => (od_set_o n2).trans (w2 a ha n1), ?_, ?_, ?_, _, od_set_s _ _ _, fun u hu => ?_⟩
    · show W.1 ≤ M1.1; omega
    · show M1.1 ≤ W.1 + 1; omega
    · show M1.2.1 ≤ W.2.1 + 6; omega
    · cases hu; rfl
  · rw [hr] at w3
    obtain ⟨rfl, w4, w5⟩ := w3
    rcases ki_fast hr with rfl | rfl | rfl
    · refine od_K.cat (h := 15) rfl ?_
      refine od_W.rn (pc' := 18) (ls' := [some (.ref _), some (.int _), some (.int _), some (.int _), some (.ref _), some (.ref _)]) (st' := [.int _]) 2 rfl ?_
      refine od_W.fin rfl ?_
      exact ⟨rfl, w1, fun a ha n1 _ => w2 a ha n1, by omega, by omega, by omega, _, (w2 q (Or.inr hq1) (by omega)).trans hf, fun u hu => absurd hu (by simp)⟩
    · refine od_K.cat (h := 19) rfl ?_
      refine od_W.rn (pc' := 22) (ls' := [some (.ref _), some (.int _), some (.int _), some (.int _), some (.ref _), some (.ref _)]) (st' := [.int _]) 2 rfl ?_
      refine od_W.fin rfl ?_
      exact ⟨rfl, w1, fun a ha n1 _ => w2 a ha n1, by omega, by omega, by omega, _, (w2 q (Or.inr hq1) (by omega)).trans hf, fun u hu => absurd hu (by simp)⟩
    · refine od_K.cat (h := 23) rfl ?_
      refine od_W.rn (pc' := 26) (ls' := [some (.ref _), some (.int _), some (.int _), some (.int _), some (.ref _), some (.ref _)]) (st' := [.int _]) 2 rfl ?_
      refine od_W.fin rfl ?_
      exact ⟨rfl, w1, fun a ha n1 _ => w2 a ha n1, by omega, by omega, by omega, _, (w2 q (Or.inr hq1) (by omega)).trans hf, fun u hu => absurd hu (by simp)⟩
theorem ki_record {a : Int32} {k : Nat} (h : (cs_record n X R a).1 = .inr k) : k = 0 ∨ k = 2 := by
  unfold cs_record at h
  repeat' split at h
  all_goals first
    | (cases h; done)
    | (cases h; simp; done)
    | (have z := cs_keep_k h; omega)
theorem wr_record (h : cw D W n X R) (hW : D + 128 ≤ W.1) (hq1 : D + 128 ≤ q) (hq2 : q < W.1) (hf : W.2.2 q = some (od_la 1 f)) (a : Int32) : od_W 5 150 0 (od_ent 150 [.ref D, .int a, .ref q]) [] W (wr D q W (cs_rcode (cs_record n X R a).1) (cs_record n X R a).1 (cs_record n X R a).2.1 X (cs_record n X R a).2.2) := by
  have e0 : od_ent 150 [.ref D, .int a, .ref q] = [some (.ref D), some (.int a), some (.ref q), none] := rfl
  rw [e0]
  have h0 := h.h0
  obtain ⟨ρ, h1, h2⟩ := h
  have hc := lt_record h2 a
  rw [← h1] at hc
  refine od_W.rn (pc' := 4) (ls' := [some (.ref _), some (.int _), some (.ref _), none]) (st' := [.int _, .ref _, .int _, .ref _]) 4 rfl ?_
  refine od_rV (as := [.int a]) rfl rfl rfl rfl (h0) rfl (Nat.le_of_ble_eq_true rfl) (Nat.le_of_ble_eq_true rfl) (hc) (Nat.le_of_ble_eq_true rfl) (fun o M1 hq => ?_)
  obtain ⟨w1, w2, w3⟩ := dk_o.w hW hq
  rcases hr : (cs_record n X R a).1 with v | k
  · rw [hr] at w3
    obtain ⟨rfl, w4, w5⟩ := w3
    refine od_K.ret ?_
    refine od_W.rn (pc' := 8) (ls' := [some (.ref _), some (.int _), some (.ref _), none]) (st' := [.long _, .int _, .ref _]) 1 rfl ?_
    refine od_rLS rfl ((w2 q (Or.inr hq1) (by omega)).trans hf) ((show Int32.ofInt 0 = nI 0 from rfl)) (by omega) (by decide) ?_
    refine od_W.rn (pc' := 19) (ls' := [some (.ref _), some (.int _), some (.ref _), none]) (st' := [.int _]) 2 rfl ?_
    refine od_W.fin rfl ?_
    refine ⟨rfl, w1.tr (fun a _ h2 => od_set_o (by omega)), fun a ha n1 n2 => (od_set_o n2).trans (w2 a ha n1), ?_, ?_, ?_, _, od_set_s _ _ _, fun u hu => ?_⟩
    · show W.1 ≤ M1.1; omega
    · show M1.1 ≤ W.1 + 1; omega
    · show M1.2.1 ≤ W.2.1 + 6; omega
    · cases hu; rfl
  · rw [hr] at w3
    obtain ⟨rfl, w4, w5⟩ := w3
    rcases ki_record hr with rfl | rfl
    · refine od_K.cat (h := 12) rfl ?_
      refine od_W.rn (pc' := 14) (ls' := [some (.ref _), some (.int _), some (.ref _), some (.ref _)]) (st' := [.int _]) 2 rfl ?_
      refine od_W.fin rfl ?_
      exact ⟨rfl, w1, fun a ha n1 _ => w2 a ha n1, by omega, by omega, by omega, _, (w2 q (Or.inr hq1) (by omega)).trans hf, fun u hu => absurd hu (by simp)⟩
    · refine od_K.cat (h := 15) rfl ?_
      refine od_W.rn (pc' := 17) (ls' := [some (.ref _), some (.int _), some (.ref _), some (.ref _)]) (st' := [.int _]) 2 rfl ?_
      refine od_W.fin rfl ?_
      exact ⟨rfl, w1, fun a ha n1 _ => w2 a ha n1, by omega, by omega, by omega, _, (w2 q (Or.inr hq1) (by omega)).trans hf, fun u hu => absurd hu (by simp)⟩
theorem ki_replace {i a : Int32} {k : Nat} (h : (cs_replace n X R i a).1 = .inr k) : k = 0 := by
  unfold cs_replace at h
  repeat' split at h
  all_goals first
    | (cases h; done)
    | (cases h; simp; done)
    | (have z := cs_keep_k h; omega)
theorem wr_replace (h : cw D W n X R) (hW : D + 128 ≤ W.1) (i a : Int32) : od_W 5 151 0 (od_ent 151 [.ref D, .int i, .int a]) [] W (wu D W (cs_code (cs_replace n X R i a).1) n X (cs_replace n X R i a).2) := by
  have e0 : od_ent 151 [.ref D, .int i, .int a] = [some (.ref D), some (.int i), some (.int a), none] := rfl
  rw [e0]
  have h0 := h.h0
  obtain ⟨ρ, h1, h2⟩ := h
  have hc := lt_replace h2 i a
  rw [← h1] at hc
  refine od_W.rn (pc' := 3) (ls' := [some (.ref _), some (.int _), some (.int _), none]) (st' := [.int _, .int _, .ref _]) 3 rfl ?_
  refine od_rV (as := [.int i, .int a]) rfl rfl rfl rfl (h0) rfl (Nat.le_of_ble_eq_true rfl) (Nat.le_of_ble_eq_true rfl) (hc) (Nat.le_of_ble_eq_true rfl) (fun o M1 hq => ?_)
  obtain ⟨w1, w2, w3⟩ := dk_o.w hW hq
  rcases hr : (cs_replace n X R i a).1 with v | k
  · rw [hr] at w3
    obtain ⟨rfl, w4, w5⟩ := w3
    refine od_K.ret ?_
    refine od_W.rn (pc' := 13) (ls' := [some (.ref _), some (.int _), some (.int _), none]) (st' := [.int _]) 2 rfl ?_
    refine od_W.fin rfl ?_
    exact ⟨rfl, w1, w2, by omega, by omega, by omega⟩
  · rw [hr] at w3
    obtain ⟨rfl, w4, w5⟩ := w3
    rcases ki_replace hr with rfl
    · refine od_K.cat (h := 9) rfl ?_
      refine od_W.rn (pc' := 11) (ls' := [some (.ref _), some (.int _), some (.int _), some (.ref _)]) (st' := [.int _]) 2 rfl ?_
      refine od_W.fin rfl ?_
      exact ⟨rfl, w1, w2, by omega, by omega, by omega⟩
theorem ki_recall {i to : Int32} {k : Nat} (h : (cs_recall n X R i to).1 = .inr k) : k = 0 := by
  unfold cs_recall at h
  repeat' split at h
  all_goals first
    | (cases h; done)
    | (cases h; simp; done)
    | (have z := cs_keep_k h; omega)
theorem wr_recall (h : cw D W n X R) (hW : D + 128 ≤ W.1) (i to : Int32) : od_W 5 152 0 (od_ent 152 [.ref D, .int i, .int to]) [] W (wu D W (cs_code (cs_recall n X R i to).1) n (cs_recall n X R i to).2 R) := by
  have e0 : od_ent 152 [.ref D, .int i, .int to] = [some (.ref D), some (.int i), some (.int to), none] := rfl
  rw [e0]
  have h0 := h.h0
  obtain ⟨ρ, h1, h2⟩ := h
  have hc := lt_recall h2 i to
  rw [← h1] at hc
  refine od_W.rn (pc' := 3) (ls' := [some (.ref _), some (.int _), some (.int _), none]) (st' := [.int _, .int _, .ref _]) 3 rfl ?_
  refine od_rV (as := [.int i, .int to]) rfl rfl rfl rfl (h0) rfl (Nat.le_of_ble_eq_true rfl) (Nat.le_of_ble_eq_true rfl) (hc) (Nat.le_of_ble_eq_true rfl) (fun o M1 hq => ?_)
  obtain ⟨w1, w2, w3⟩ := dk_o.w hW hq
  rcases hr : (cs_recall n X R i to).1 with v | k
  · rw [hr] at w3
    obtain ⟨rfl, w4, w5⟩ := w3
    refine od_K.ret ?_
    refine od_W.rn (pc' := 13) (ls' := [some (.ref _), some (.int _), some (.int _), none]) (st' := [.int _]) 2 rfl ?_
    refine od_W.fin rfl ?_
    exact ⟨rfl, w1, w2, by omega, by omega, by omega⟩
  · rw [hr] at w3
    obtain ⟨rfl, w4, w5⟩ := w3
    rcases ki_recall hr with rfl
    · refine od_K.cat (h := 9) rfl ?_
      refine od_W.rn (pc' := 11) (ls' := [some (.ref _), some (.int _), some (.int _), some (.ref _)]) (st' := [.int _]) 2 rfl ?_
      refine od_W.fin rfl ?_
      exact ⟨rfl, w1, w2, by omega, by omega, by omega⟩
end WR
