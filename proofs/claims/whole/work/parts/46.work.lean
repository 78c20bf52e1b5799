/-! FAST's work. -/
def fs_v (r : Option Nat) : Int32 := match r with
  | none => -1
  | some v => nI v
def pl_wo (S : Nat → Bool) (M : od_M) (ρ : od_Rm) (x f : Nat) (s : fs_S) (v : Nat) : od_O → od_M → Prop := fun o M2 => ∃ M' ρ', od_eM [x, x + 2] M M' ∧ pl_fr x ρ ρ' ∧ od_Bd ρ' ∧ pl_sh M' x ∧ ((¬ ok_fs f s v ∧ o = .inr (2, M.1) ∧ M2 = od_xm (od_cm S M' ρ') 2) ∨ (ok_fs f s v ∧ M2 = od_cm S M' ρ' ∧ o = .inl (some (.int (fs_v (fs_run f s v))))))
section WORK
variable {S : Nat → Bool} {x r : Nat}
set_option maxRecDepth 100000 in
theorem cl_wo_loop (hS : od_SS S) {fuel : Nat} (hf : fuel ≤ 2000) {w1 w2 : Option Value} : ∀ (f : Nat) (s : fs_S) (v used : Nat) (M : od_M) (ρ : od_Rm), used + f = fuel → pl_fx S M x → od_Bd ρ → pl_st M ρ x s v → od_W 6 52 20 [some (.ref x), w1, w2, some (.int (nI fuel)), some (.int (nI used))] [] (od_cm S M ρ) (pl_wo S M ρ x f s v) := by
  intro f
  induction f with
  | zero =>
    intro s v used M ρ hu hx hb hst
    have hsh := hst.sh
    obtain ⟨hP, _, h12, hv⟩ := hst
    refine od_W.rn (pc' := 23) (ls' := [some (.ref _), _, _, some (.int _), some (.int _)]) (st' := [.int _, .int _]) 2 rfl ?_
    refine od_r2T rfl rfl (decide_eq_true (nI_le (by omega) (by omega))) ?_
    refine od_W.rn (pc' := 49) (ls' := [some (.ref _), _, _, some (.int _), some (.int _)]) (st' := [.ref _]) 1 rfl ?_
    refine od_rG rfl (od_cm_o hx.2.1 hP) rfl rfl ?_
    cases s with
    | nil =>
      refine od_r1T rfl rfl (rfl) ?_
      refine od_W.rn (pc' := 60) (ls' := [some (.ref _), _, _, some (.int _), some (.int _)]) (st' := [.ref _]) 1 rfl ?_
      refine od_rG rfl (od_cm_o hx.2.1 hP) rfl rfl ?_
      refine od_W.fin rfl ?_
      exact ⟨M, ρ, od_eM.refl _ _, fun _ _ => rfl, hb, hsh, Or.inr ⟨trivial, rfl, rfl⟩⟩
    | cons p s =>
      refine od_r1F rfl (of_decide_eq_true rfl) (decide_eq_false (nI_ge (a := 0) (by simp) (by omega))) ?_
      refine od_W.rn (pc' := 63) (ls' := [some (.ref _), _, _, some (.int _), some (.int _)]) (st' := [.int _]) 2 rfl ?_
      refine od_W.fin rfl ?_
      exact ⟨M, ρ, od_eM.refl _ _, fun _ _ => rfl, hb, hsh, Or.inr ⟨trivial, rfl, rfl⟩⟩
  | succ f ih =>
    intro s v used M ρ hu hx hb hst
    have hsh := hst.sh
    have hst' := hst
    obtain ⟨hP, _, h12, hv⟩ := hst
    refine od_W.rn (pc' := 23) (ls' := [some (.ref _), _, _, some (.int _), some (.int _)]) (st' := [.int _, .int _]) 2 rfl ?_
    refine od_r2F rfl (of_decide_eq_true rfl) (decide_eq_false (nI_ge (by omega) (by omega))) ?_
    refine od_W.rn (pc' := 27) (ls' := [some (.ref _), _, _, some (.int _), some (.int _)]) (st' := [.ref _]) 1 rfl ?_
    refine od_rG rfl (od_cm_o hx.2.1 hP) rfl rfl ?_
    cases s with
    | nil =>
      refine od_r1T rfl rfl (rfl) ?_
      refine od_W.rn (pc' := 49) (ls' := [some (.ref _), _, _, some (.int _), some (.int _)]) (st' := [.ref _]) 1 rfl ?_
      refine od_rG rfl (od_cm_o hx.2.1 hP) rfl rfl ?_
      refine od_r1T rfl rfl (rfl) ?_
      refine od_W.rn (pc' := 60) (ls' := [some (.ref _), _, _, some (.int _), some (.int _)]) (st' := [.ref _]) 1 rfl ?_
      refine od_rG rfl (od_cm_o hx.2.1 hP) rfl rfl ?_
      refine od_W.fin rfl ?_
      exact ⟨M, ρ, od_eM.refl _ _, fun _ _ => rfl, hb, hsh, Or.inr ⟨trivial, rfl, rfl⟩⟩
    | cons p s =>
      refine od_r1F rfl (of_decide_eq_true rfl) (decide_eq_false (nI_ge (a := 0) (by simp) (by omega))) ?_
      refine od_W.rn (pc' := 34) (ls' := [some (.ref _), _, _, some (.int _), some (.int _)]) (st' := [.ref _]) 1 rfl ?_
      refine od_rV (as := []) rfl rfl rfl rfl (od_cm_o hx.2.1 hP) rfl (Nat.le_of_ble_eq_true rfl) (Nat.le_of_ble_eq_true rfl) (lt_appliesTop hS hx hb (xs := p.1) (c := p.2) hst') (Nat.le_of_ble_eq_true rfl) (fun o M1 hq => ?_)
      obtain ⟨M', ρ', q1, q2, q3, q4, q5⟩ := hq
      rcases q5 with ⟨k, rfl, rfl⟩ | ⟨k, rfl, q6⟩
      · refine od_K.out rfl ⟨M', ρ', q1, q2, q3, q4, Or.inl ⟨fun z => k z.1, rfl, rfl⟩⟩
      · rcases q6 with ⟨hn, rfl⟩ | ⟨q, hn, rfl, hst2⟩
        · refine od_K.ret ?_
          refine od_r1F rfl (of_decide_eq_true rfl) (rfl) ?_
          refine od_W.rn (pc' := 41) (ls' := [some (.ref _), _, _, some (.int _), some (.int _)]) (st' := [.int _]) 1 rfl ?_
          refine od_W.fin rfl ?_
          have er : fs_run (f + 1) (p :: s) v = none := by conv => lhs; unfold fs_run; rw [hn]
          exact ⟨M', ρ', q1, q2, q3, q4, Or.inr ⟨⟨k, by rw [hn]; exact trivial⟩, rfl, by rw [er]; rfl⟩⟩
        · refine od_K.ret ?_
          refine od_r1T rfl rfl (rfl) ?_
          refine od_W.rn (pc' := 20) (ls' := [some (.ref _), _, _, some (.int _), some (.int _)]) (st' := []) 2 rfl ?_
          rw [nI_inc used]
          have er : fs_run (f + 1) (p :: s) v = fs_run f q.1 q.2 := by conv => lhs; unfold fs_run; rw [hn]
          have eo : ok_fs (f + 1) (p :: s) v ↔ ok_fs f q.1 q.2 := by
            conv => lhs; unfold ok_fs; rw [hn]
            exact ⟨fun z => z.2, fun z => ⟨k, z⟩⟩
          refine (ih q.1 q.2 (used + 1) M' ρ' (by omega) (hx.eM q1) q3 hst2).mono fun o M3 hh => ?_
          obtain ⟨M4, ρ4, y1, y2, y3, y4, y5⟩ := hh
          refine ⟨M4, ρ4, q1.tr y1, fun q hq => (y2 q hq).trans (q2 q hq), y3, y4, ?_⟩
          rw [er, eo]
          rcases y5 with ⟨z1, z2, z3⟩ | ⟨z1, z2, z3⟩
          · exact Or.inl ⟨z1, by rw [z2, q1.1], z3⟩
          · exact Or.inr ⟨z1, z2, z3⟩
theorem lt_workOff {M : od_M} {ρ : od_Rm} (hS : od_SS S) (hx : pl_fx S M x) (hsh : pl_sh M x) (hb : od_Bd ρ) {n fuel : Nat} (hn : n ≤ 1000) (hf : fuel ≤ 2000) (hr : S r = true) (hne : r < x + 3 ∨ x + 28 ≤ r) {xs : List Nat} (hW : tm_W xs) (hl : od_hl ρ r xs) : od_W 6 52 0 (od_ent 52 [.ref x, .ref r, .int (nI n), .int (nI fuel)]) [] (od_cm S M ρ) (pl_wo S M ρ x fuel [(xs, 1)] n) := by
  have e0 : od_ent 52 [.ref x, .ref r, .int (nI n), .int (nI fuel)] = [some (.ref x), some (.ref r), some (.int (nI n)), some (.int (nI fuel)), none] := rfl
  rw [e0]
  obtain ⟨h0, n0, tm, hP, ht⟩ := hsh
  have x2 := hx.2.1
  refine od_W.rn (pc' := 2) (ls' := [some (.ref _), some (.ref _), some (.int _), some (.int _), none]) (st' := [.int _, .ref _]) 2 rfl ?_
  refine od_rP rfl (od_cm_o x2 hP) rfl (by simp) rfl (by decide) ?_
  rw [od_cm_set x2]
  have hP1 : od_PI (od_set M x (od_ob 5 ([Value.ref (x + 1), .ref (x + 2), .int h0, .int n0, .ref (x + 3)].set 3 (.int (nI n))))) x h0 (nI n) := od_set_s _ _ _
  have ht1 : (od_set M x (od_ob 5 ([Value.ref (x + 1), .ref (x + 2), .int h0, .int n0, .ref (x + 3)].set 3 (.int (nI n))))).2.2 (x + 2) = _ := (od_set_o (by omega)).trans ht
  have eM1 : od_eM [x, x + 2] M (od_set M x (od_ob 5 ([Value.ref (x + 1), .ref (x + 2), .int h0, .int n0, .ref (x + 3)].set 3 (.int (nI n))))) := (od_eM.refl _ _).set (by simp)
  generalize hM1 : od_set M x (od_ob 5 ([Value.ref (x + 1), .ref (x + 2), .int h0, .int n0, .ref (x + 3)].set 3 (.int (nI n)))) = M1 at *
  refine od_W.rn (pc' := 7) (ls' := [some (.ref _), some (.ref _), some (.int _), some (.int _), none]) (st' := [.int _, .ref _]) 2 rfl ?_
  refine od_rP rfl (od_cm_o x2 hP1) rfl (by simp) rfl (by decide) ?_
  rw [od_cm_set x2, show Int32.ofInt 0 = nI 0 from rfl]
  have hP2 : od_PI (od_set M1 x (od_ob 5 ([Value.ref (x + 1), .ref (x + 2), .int h0, .int (nI n), .ref (x + 3)].set 2 (.int (nI 0))))) x (nI 0) (nI n) := od_set_s _ _ _
  have ht2 : (od_set M1 x (od_ob 5 ([Value.ref (x + 1), .ref (x + 2), .int h0, .int (nI n), .ref (x + 3)].set 2 (.int (nI 0))))).2.2 (x + 2) = _ := (od_set_o (by omega)).trans ht1
  have eM2 := eM1.set (a := x) (e := od_ob 5 ([Value.ref (x + 1), .ref (x + 2), .int h0, .int (nI n), .ref (x + 3)].set 2 (.int (nI 0)))) (by simp)
  generalize hM2 : od_set M1 x (od_ob 5 ([Value.ref (x + 1), .ref (x + 2), .int h0, .int (nI n), .ref (x + 3)].set 2 (.int (nI 0)))) = M2 at *
  refine od_W.rn (pc' := 13) (ls' := [some (.ref _), some (.ref _), some (.int _), some (.int _), none]) (st' := [.int _, .ref _, .ref _]) 3 rfl ?_
  refine od_rV (as := [.ref r, .int (nI 1)]) rfl rfl rfl rfl (od_cm_o x2 hP2) rfl (Nat.le_of_ble_eq_true rfl) (Nat.le_of_ble_eq_true rfl) (lt_pushes (h := 0) hS (hx.eM eM2) hP2 ht2 (by omega) (by omega) (by omega) hr (by omega) hb hl) (Nat.le_of_ble_eq_true rfl) (fun o M1 hq => ?_)
  obtain ⟨M5, ρ5, q1, q2, q3, rfl, rfl, q6, q7, q8⟩ := hq
  refine od_K.ret ?_
  refine od_W.rn (pc' := 20) (ls' := [some (.ref _), some (.ref _), some (.int _), some (.int _), some (.int _)]) (st' := []) 3 rfl ?_
  have eM3 := eM2.tr q1
  have hst : pl_st M5 ρ5 x [(xs, 1)] n := ⟨q7, ⟨_, q8, q6, upd_s _ _ _, by dsimp only; omega, by dsimp only; omega, hW, trivial⟩, by simp, by omega⟩
  refine (cl_wo_loop hS hf fuel [(xs, 1)] n 0 M5 ρ5 (by omega) (hx.eM eM3) q3 hst).mono fun o M3 hh => ?_
  obtain ⟨M4, ρ4, y1, y2, y3, y4, y5⟩ := hh
  refine ⟨M4, ρ4, eM3.tr y1, fun q hq => (y2 q hq).trans (q2 q (by omega)), y3, y4, ?_⟩
  rcases y5 with ⟨z1, z2, z3⟩ | ⟨z1, z2, z3⟩
  · exact Or.inl ⟨z1, by rw [z2, eM3.1], z3⟩
  · exact Or.inr ⟨z1, z2, z3⟩
end WORK
