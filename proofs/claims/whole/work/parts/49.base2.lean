/-! Numbers in a base, of all sizes. -/
section BASE2
variable {S : Nat → Bool} {M : od_M} {out : Nat}
theorem lt_ib3 (hS : od_SS S) (ho : S out = true) {b : Nat} (hb1 : 2 ≤ b) (hb2 : b ≤ 1000) : ∀ (m n depth : Nat), n ≤ m → depth + n ≤ 20 → ib_c S M out b (n + 4) n depth := by
  intro m
  induction m with
  | zero =>
    intro n depth hn hd
    have : n = 0 := by omega
    subst this
    exact (lt_ib0 hS ho hb1 hb2 (by omega)).deep (by omega)
  | succ m ih =>
    intro n depth hn hd
    rcases Nat.eq_zero_or_pos n with h0 | h0
    · subst h0
      exact (lt_ib0 hS ho hb1 hb2 (by omega)).deep (by omega)
    · refine cl_ib (D := n + 3) (E := n - 1) hS ho hb1 hb2 (by omega) (by omega) (by omega) (fun e he => ?_) (fun e he => ?_)
      · have := vl_grow hb1 e
        omega
      · exact (ih e (depth + 1) (by omega) (by omega)).deep (by omega)
theorem pow_lt_of {b e k n : Nat} (hb1 : 2 ≤ b) (h : b ^ e ≤ n) (hk : n < 2 ^ (k + 1)) : e ≤ k := by
  rcases Nat.lt_or_ge k e with z | z
  · have h1 : 2 ^ (k + 1) ≤ 2 ^ e := Nat.pow_le_pow_right (by omega) z
    have h2 : 2 ^ e ≤ b ^ e := Nat.pow_le_pow_left hb1 e
    omega
  · exact z
theorem lt_ib2 (hS : od_SS S) (ho : S out = true) {b n depth : Nat} (hb1 : 2 ≤ b) (hb2 : b ≤ 1000) (hn : n ≤ 30) (hd : depth ≤ 1) : ib_c S M out b 9 n depth :=
  cl_ib (D := 8) (E := 4) hS ho hb1 hb2 (by omega) (by omega) (by omega) (fun e he => pow_lt_of hb1 he (by omega)) (fun e he => (lt_ib3 hS ho hb1 hb2 e e (depth + 1) (Nat.le_refl _) (by omega)).deep (by omega))
theorem lt_ib1 (hS : od_SS S) (ho : S out = true) {b n : Nat} (hb1 : 2 ≤ b) (hb2 : b ≤ 1000) (hn : n ≤ 1000000000) : ib_c S M out b 10 n 0 :=
  cl_ib (D := 9) (E := 29) hS ho hb1 hb2 hn (by omega) (by omega) (fun e he => pow_lt_of hb1 he (by omega)) (fun e he => lt_ib2 hS ho hb1 hb2 (by omega) (by omega))
theorem lt_makeInBase {ρ : od_Rm} (hS : od_SS S) (ho : S out = true) (hb : od_Bd ρ) {b n : Nat} (hb1 : 2 ≤ b) (hb2 : b ≤ 1000) (hn : n ≤ 1000000000) : od_W 11 56 0 (od_ent 56 [.int (nI n), .int (nI b), .ref out]) [] (od_cm S M ρ) (od_Re S M ρ [out] (tm_ft (tm_fl (sp_ib b n))) none (fun ρ' => od_hl ρ' out (tm_fl (sp_ib b n)))) := by
  have e0 : od_ent 56 [.int (nI n), .int (nI b), .ref out] = [some (.int (nI n)), some (.int (nI b)), some (.ref out)] := rfl
  rw [e0]
  refine od_W.rn (pc' := 1) (ls' := [some (.int _), some (.int _), some (.ref _)]) (st' := [.ref _]) 1 rfl ?_
  refine od_rV (as := []) rfl rfl rfl rfl (od_cm_r ho) rfl (Nat.le_of_ble_eq_true rfl) (Nat.le_of_ble_eq_true rfl) (lt_clear hS ho hb) (Nat.le_of_ble_eq_true rfl) (fun o M1 hq => ?_)
  refine od_Re.kp hq rfl (by simp) (od_fr0 ρ _) (fun _ => trivial) (fun ρ1 f1 g1 b1 p1 k1 => ?_)
  refine od_W.rn (pc' := 8) (ls' := [some (.int _), some (.int _), some (.ref _)]) (st' := [.int _, .ref _, .int _, .int _]) 4 rfl ?_
  refine od_rSt (as := [.int (nI n), .int (nI b), .ref out, .int (nI 0)]) rfl rfl rfl rfl (Nat.le_of_ble_eq_true rfl) (Nat.le_of_ble_eq_true rfl) (lt_ib1 hS ho hb1 hb2 hn ρ1 [] b1 p1) (Nat.le_of_ble_eq_true rfl) (fun o M1 hq => ?_)
  rw [List.nil_append] at hq
  refine od_Re.kp hq rfl (by simp) (g1) (fun z => z) (fun ρ2 f2 g2 b2 p2 k2 => ?_)
  refine od_W.fin rfl ?_
  exact od_Re.yes g2 b2 k2 p2
end BASE2
