/-! CHOP, FAST, the records. -/
theorem dk_fx.hyd {D n : Nat} {M M' : od_M} (h : dk_fx D M n) (e : od_eM [D + 50, D + 50 + 1, D + 50 + 2] M M') (hh : ∃ hl st en, od_HY M' (D + 50) hl ∧ M'.2.2 (D + 50 + 1) = some (od_ia 20 st) ∧ M'.2.2 (D + 50 + 2) = some (od_ia 20 en)) : dk_fx D M' n := by
  obtain ⟨d1, d2, d3, d4, d5, d6, d7, d8, d9, d10, d11⟩ := h
  have g : ∀ k, k ≠ 50 → k ≠ 51 → k ≠ 52 → M'.2.2 (D + k) = M.2.2 (D + k) := fun k h1 h2 h3 => e.2.2 _ (by simp; omega)
  refine ⟨?_, ?_, ?_, ?_, ?_, ?_, hh, ?_, ?_, ?_, ?_⟩
  · exact (g 0 (by omega) (by omega) (by omega)).trans d1
  · exact ⟨d2.choose, (g 1 (by omega) (by omega) (by omega)).trans d2.choose_spec.1, d2.choose_spec.2⟩
  · exact ⟨d3.choose, (g 2 (by omega) (by omega) (by omega)).trans d3.choose_spec.1, d3.choose_spec.2⟩
  · exact (g 7 (by omega) (by omega) (by omega)).trans d4
  · exact (g 34 (by omega) (by omega) (by omega)).trans d5
  · exact (g 45 (by omega) (by omega) (by omega)).trans d6
  · exact ⟨⟨d8.1.choose, (g 58 (by omega) (by omega) (by omega)).trans d8.1.choose_spec.1, d8.1.choose_spec.2⟩, d8.2⟩
  · obtain ⟨z1, z2, z3, z4, z5⟩ := d9
    exact ⟨z1, z2, z3, (g 57 (by omega) (by omega) (by omega)).trans z4, (g 59 (by omega) (by omega) (by omega)).trans z5⟩
  · exact (g 86 (by omega) (by omega) (by omega)).trans d10
  · exact ⟨d11.choose, (g 87 (by omega) (by omega) (by omega)).trans d11.choose_spec⟩
theorem dk_fx.pil {D n : Nat} {M M' : od_M} (h : dk_fx D M n) (e : od_eM [D + 57, D + 57 + 2] M M') (hh : pl_sh M' (D + 57)) : dk_fx D M' n := by
  obtain ⟨d1, d2, d3, d4, d5, d6, d7, d8, d9, d10, d11⟩ := h
  have g : ∀ k, k ≠ 57 → k ≠ 59 → M'.2.2 (D + k) = M.2.2 (D + k) := fun k h1 h2 => e.2.2 _ (by simp; omega)
  refine ⟨?_, ?_, ?_, ?_, ?_, ?_, ?_, ?_, hh, ?_, ?_⟩
  · exact (g 0 (by omega) (by omega)).trans d1
  · exact ⟨d2.choose, (g 1 (by omega) (by omega)).trans d2.choose_spec.1, d2.choose_spec.2⟩
  · exact ⟨d3.choose, (g 2 (by omega) (by omega)).trans d3.choose_spec.1, d3.choose_spec.2⟩
  · exact (g 7 (by omega) (by omega)).trans d4
  · exact (g 34 (by omega) (by omega)).trans d5
  · exact (g 45 (by omega) (by omega)).trans d6
  · obtain ⟨z1, z2, z3, z4, z5, z6⟩ := d7
    exact ⟨z1, z2, z3, (g 50 (by omega) (by omega)).trans z4, (g 51 (by omega) (by omega)).trans z5, (g 52 (by omega) (by omega)).trans z6⟩
  · exact ⟨⟨d8.1.choose, (g 58 (by omega) (by omega)).trans d8.1.choose_spec.1, d8.1.choose_spec.2⟩, d8.2⟩
  · exact (g 86 (by omega) (by omega)).trans d10
  · exact ⟨d11.choose, (g 87 (by omega) (by omega)).trans d11.choose_spec⟩
theorem dk_fx.num {D n m : Nat} {M : od_M} (h : dk_fx D M n) : dk_fx D (od_set M D (dk_ob D m)) m := by
  obtain ⟨d1, d2, d3, d4, d5, d6, d7, d8, d9, d10, d11⟩ := h
  have g : ∀ k, 1 ≤ k → (od_set M D (dk_ob D m)).2.2 (D + k) = M.2.2 (D + k) := fun k h1 => od_set_o (by omega)
  refine ⟨od_set_s _ _ _, ?_, ?_, ?_, ?_, ?_, ?_, ?_, ?_, ?_, ?_⟩
  · exact ⟨d2.choose, (g 1 (by omega)).trans d2.choose_spec.1, d2.choose_spec.2⟩
  · exact ⟨d3.choose, (g 2 (by omega)).trans d3.choose_spec.1, d3.choose_spec.2⟩
  · exact (g 7 (by omega)).trans d4
  · exact (g 34 (by omega)).trans d5
  · exact (g 45 (by omega)).trans d6
  · obtain ⟨z1, z2, z3, z4, z5, z6⟩ := d7
    exact ⟨z1, z2, z3, (g 50 (by omega)).trans z4, (g 51 (by omega)).trans z5, (g 52 (by omega)).trans z6⟩
  · exact ⟨⟨d8.1.choose, (g 58 (by omega)).trans d8.1.choose_spec.1, d8.1.choose_spec.2⟩, d8.2⟩
  · obtain ⟨z1, z2, z3, z4, z5⟩ := d9
    exact ⟨z1, z2, z3, (g 57 (by omega)).trans z4, (g 59 (by omega)).trans z5⟩
  · exact (g 86 (by omega)).trans d10
  · exact ⟨d11.choose, (g 87 (by omega)).trans d11.choose_spec⟩
/-- a result reached over another memory of the desk -/
theorem dk_o.tr {D n : Nat} {M M' : od_M} {r : Option Value ⊕ Nat} {X R : Nat → List Nat} {o : od_O} {M2 : od_M} (e1 : M'.1 = M.1) (e2 : M'.2.1 = M.2.1) (e3 : ∀ q, q < D ∨ D + 128 ≤ q → M'.2.2 q = M.2.2 q) (h : dk_o D M' r n X R o M2) : dk_o D M r n X R o M2 := by
  obtain ⟨M3, ρ3, a1, a2, a3, a4, a5⟩ := h
  refine ⟨M3, ρ3, a1.trans e1, a2.trans e2, fun q hq => (a3 q hq).trans (e3 q hq), a4, ?_⟩
  rw [← e1]
  exact a5
noncomputable def cs_chop (X : Nat → List Nat) (a w c to : Int32) : cs_T := match sl 8 a with
  | none => (.inr 0, X)
  | some i => match sl 8 to with
    | none => (.inr 0, X)
    | some t => if 0 ≤ c ∧ c ≤ 1000 then (if w < 0 then (.inr 1, X) else match hy_fd 61 w.toNatClampNeg (tm_tp (X i)) with
      | none => (.inr 1, X)
      | some p => cs_keep X t (ok_cut c.toNatClampNeg p) (sp_cut c.toNatClampNeg p)) else (.inr 1, X)
noncomputable def cs_fast (X : Nat → List Nat) (a m f : Int32) : Int32 ⊕ Nat := match sl 8 a with
  | none => .inr 0
  | some i => if 0 ≤ m ∧ m ≤ 1000 then (if 0 ≤ f ∧ f ≤ 2000 then cif (ok_fs f.toNatClampNeg [(X i, 1)] m.toNatClampNeg) (.inl (fs_v (fs_run f.toNatClampNeg [(X i, 1)] m.toNatClampNeg))) (.inr 2) else .inr 1) else .inr 1
def cs_rs (R : Nat → List Nat) : Nat → Nat → Int32
  | 0, _ => -1
  | m + 1, i => if tm_cmp (R i) (R (i - 1)) = -1 then cs_rs R m (i + 1) else nI i
def cs_rise (n : Nat) (R : Nat → List Nat) : Int32 := cs_rs R (n - 1) 1
section CALLS3
variable {D n : Nat} {M : od_M} {ρ : od_Rm} {X R : Nat → List Nat}
set_option maxRecDepth 100000 in
theorem lt_chop (h : dk D M ρ n X R) (a w c to : Int32) : od_W 8 67 0 (od_ent 67 [.ref D, .int a, .int w, .int c, .int to]) [] (od_cm (dk_S D) M ρ) (dk_o D M (cs_v (cs_chop X a w c to).1) n (cs_chop X a w c to).2 R) := by
  have e0 : od_ent 67 [.ref D, .int a, .int w, .int c, .int to] = [some (.ref D), some (.int a), some (.int w), some (.int c), some (.int to), none, none] := rfl
  rw [e0]
  have hS := dk_ss D
  unfold cs_chop
  refine od_W.rn (pc' := 2) (ls' := [some (.ref _), some (.int _), some (.int _), some (.int _), some (.int _), none, none]) (st' := [.int _, .ref _]) 2 rfl ?_
  rcases sl_is (m := 8) (by omega) a with ⟨e1, e2⟩ | ⟨i, hi, rfl, e1⟩
  · rw [e1]
    refine od_rV (as := [.int a]) rfl rfl rfl rfl (h.h0) rfl (Nat.le_of_ble_eq_true rfl) (Nat.le_of_ble_eq_true rfl) (ct_slotX e2) (Nat.le_of_ble_eq_true rfl) (fun o M1 hq => ?_)
    obtain ⟨rfl, rfl⟩ := hq
    exact od_K.out rfl (h.thr 0)
  · rw [e1]
    dsimp only
    refine od_rV (as := [.int (nI i)]) rfl rfl rfl rfl (h.h0) rfl (Nat.le_of_ble_eq_true rfl) (Nat.le_of_ble_eq_true rfl) (ct_slot h hi) (Nat.le_of_ble_eq_true rfl) (fun o M1 hq => ?_)
    obtain ⟨rfl, rfl⟩ := hq
    refine od_K.ret ?_
    refine od_W.rn (pc' := 10) (ls' := [some (.ref _), some (.int _), some (.int _), some (.int _), some (.int _), some (.ref _), none]) (st' := [.int _, .ref _]) 3 rfl ?_
    rcases sl_is (m := 8) (by omega) to with ⟨e1, e2⟩ | ⟨t, ht, rfl, e1⟩
    · rw [e1]
      refine od_rV (as := [.int to]) rfl rfl rfl rfl (h.h0) rfl (Nat.le_of_ble_eq_true rfl) (Nat.le_of_ble_eq_true rfl) (ct_slotX e2) (Nat.le_of_ble_eq_true rfl) (fun o M1 hq => ?_)
      obtain ⟨rfl, rfl⟩ := hq
      exact od_K.out rfl (h.thr 0)
    · rw [e1]
      dsimp only
      refine od_rV (as := [.int (nI t)]) rfl rfl rfl rfl (h.h0) rfl (Nat.le_of_ble_eq_true rfl) (Nat.le_of_ble_eq_true rfl) (ct_slot h ht) (Nat.le_of_ble_eq_true rfl) (fun o M1 hq => ?_)
      obtain ⟨rfl, rfl⟩ := hq
      refine od_K.ret ?_
      have hsi := h.2.2.1 i hi
      have ai := tm_al_tp hsi.2
      have xi : od_hl ρ (D + 88 + 2 * i) (tm_fl (tm_tp (X i))) := by rw [tm_fl_tp hsi.2]; exact hsi.1
      refine od_W.rn (pc' := 20) (ls' := [some (.ref _), some (.int _), some (.int _), some (.int _), some (.int _), some (.ref _), some (.ref _)]) (st' := [.int _, .int _, .int _]) 4 rfl ?_
      refine od_rSt (as := [.int c, .int 0, .int 1000]) rfl rfl rfl rfl (Nat.le_of_ble_eq_true rfl) (Nat.le_of_ble_eq_true rfl) (ct_isWithin c 0 1000) (Nat.le_of_ble_eq_true rfl) (fun o M1 hq => ?_)
      obtain ⟨rfl, rfl⟩ := hq
      refine od_K.ret ?_
      refine od_rSt (as := [.int (if 0 ≤ c ∧ c ≤ 1000 then 1 else 0)]) rfl rfl rfl rfl (Nat.le_of_ble_eq_true rfl) (Nat.le_of_ble_eq_true rfl) (ct_refuse (0 ≤ c ∧ c ≤ 1000) inferInstance) (Nat.le_of_ble_eq_true rfl) (fun o M1 hq => ?_)
      rcases hq with ⟨hc, rfl, rfl⟩ | ⟨hc, rfl, rfl⟩
      · refine od_K.ret ?_
        obtain ⟨cc, hc2, rfl⟩ := nI_in0 (n := 1000) (by decide) hc
        rw [if_pos hc, nI_clamp (by omega)]
        refine od_W.rn (pc' := 27) (ls' := [some (.ref _), some (.int _), some (.int _), some (.int _), some (.int _), some (.ref _), some (.ref _)]) (st' := [.int _]) 1 rfl ?_
        by_cases hw : w < 0
        · rw [if_pos hw]
          refine od_r1T rfl rfl (decide_eq_true hw) ?_
          refine od_W.rn (pc' := 48) (ls' := [some (.ref _), some (.int _), some (.int _), some (.int _), some (.int _), some (.ref _), some (.ref _)]) (st' := [.int _]) 1 rfl ?_
          refine od_rSt (as := [.int (if False then 1 else 0)]) rfl rfl rfl rfl (Nat.le_of_ble_eq_true rfl) (Nat.le_of_ble_eq_true rfl) (ct_refuse False inferInstance) (Nat.le_of_ble_eq_true rfl) (fun o M1 hq => ?_)
          obtain ⟨hc, _⟩ | ⟨hc, rfl, rfl⟩ := hq
          · exact hc.elim
          · exact od_K.out rfl (h.thr 1)
        · obtain ⟨ww, hww, rfl⟩ := nI_of hw
          rw [if_neg hw, nI_clamp hww]
          have n50 : od_no (dk_S D) (D + 50) := dk_no D rfl rfl
          have n51 : od_no (dk_S D) (D + 50 + 1) := dk_no D (k := 51) rfl rfl
          have n52 : od_no (dk_S D) (D + 50 + 2) := dk_no D (k := 52) rfl rfl
          have r53 : dk_S D (D + 50 + 3) = true := dk_S_y D (k := 53) rfl
          have r55 : dk_S D (D + 50 + 5) = true := dk_S_y D (k := 55) rfl
          obtain ⟨hl, st, en, d7, d71, d72⟩ := h.1.2.2.2.2.2.2.1
          refine od_r1F rfl (of_decide_eq_true rfl) (decide_eq_false hw) ?_
          refine od_W.rn (pc' := 31) (ls' := [some (.ref _), some (.int _), some (.int _), some (.int _), some (.int _), some (.ref _), some (.ref _)]) (st' := [.ref _]) 1 rfl ?_
          refine od_rG rfl (h.h0) rfl rfl ?_
          refine od_W.rn (pc' := 37) (ls' := [some (.ref _), some (.int _), some (.int _), some (.int _), some (.int _), some (.ref _), some (.ref _)]) (st' := [.int _, .ref _, .ref _]) 2 rfl ?_
          refine od_rV (as := [.ref (D + 88 + 2 * i), .int (nI ww)]) rfl rfl rfl rfl (od_cm_o n50 d7) rfl (Nat.le_of_ble_eq_true rfl) (Nat.le_of_ble_eq_true rfl) (lt_findsHead hS (dk_sl D hi) h.2.1 n50 n51 n52 ai hww xi d7 d71 d72) (Nat.le_of_ble_eq_true rfl) (fun o M1 hq => ?_)
          obtain ⟨M', hl', st', en', rfl, q2, q3, q4, q5, q6, rfl, q8⟩ := hq
          have h1 : dk D M' ρ n X R := ⟨h.1.hyd q2 ⟨_, _, _, q3, q4, q5⟩, h.2⟩
          have tr : ∀ {r : Option Value ⊕ Nat} {n' : Nat} {X' R' : Nat → List Nat} {o : od_O} {M2 : od_M}, dk_o D M' r n' X' R' o M2 → dk_o D M r n' X' R' o M2 := fun z => dk_o.tr q2.1 q2.2.1 (fun q hq => q2.2.2 q (by simp; omega)) z
          refine od_K.ret ?_
          rcases hf : hy_fd 61 ww (tm_tp (X i)) with _ | p
          · dsimp only
            refine od_r1T rfl rfl (rfl) ?_
            refine od_W.rn (pc' := 48) (ls' := [some (.ref _), some (.int _), some (.int _), some (.int _), some (.int _), some (.ref _), some (.ref _)]) (st' := [.int _]) 1 rfl ?_
            refine od_rSt (as := [.int (if False then 1 else 0)]) rfl rfl rfl rfl (Nat.le_of_ble_eq_true rfl) (Nat.le_of_ble_eq_true rfl) (ct_refuse False inferInstance) (Nat.le_of_ble_eq_true rfl) (fun o M1 hq => ?_)
            obtain ⟨hc, _⟩ | ⟨hc, rfl, rfl⟩ := hq
            · exact hc.elim
            · exact od_K.out rfl (tr (h1.thr 1))
          · dsimp only
            obtain ⟨y1, y2⟩ := q8 p hf
            rw [y1] at q3
            have hlen := hy_fd_len _ _ _ _ hf
            refine od_r1F rfl (of_decide_eq_true rfl) (rfl) ?_
            refine od_W.rn (pc' := 48) (ls' := [some (.ref _), some (.int _), some (.int _), some (.int _), some (.int _), some (.ref _), some (.ref _)]) (st' := [.int _]) 2 rfl ?_
            refine od_rSt (as := [.int (if True then 1 else 0)]) rfl rfl rfl rfl (Nat.le_of_ble_eq_true rfl) (Nat.le_of_ble_eq_true rfl) (ct_refuse True inferInstance) (Nat.le_of_ble_eq_true rfl) (fun o M1 hq => ?_)
            obtain ⟨_, rfl, rfl⟩ | ⟨hc, _⟩ := hq
            · refine od_K.ret ?_
              refine od_W.rn (pc' := 52) (ls' := [some (.ref _), some (.int _), some (.int _), some (.int _), some (.int _), some (.ref _), some (.ref _)]) (st' := [.ref _]) 1 rfl ?_
              refine od_rG rfl (h1.h0) rfl rfl ?_
              refine od_W.rn (pc' := 59) (ls' := [some (.ref _), some (.int _), some (.int _), some (.int _), some (.int _), some (.ref _), some (.ref _)]) (st' := [.ref _, .int _, .ref _, .ref _]) 3 rfl ?_
              refine od_rG rfl (h1.h0) rfl rfl ?_
              refine od_rV (as := [.ref (D + 88 + 2 * i), .int (nI cc), .ref (D + 3)]) rfl rfl rfl rfl (od_cm_o n50 q3) rfl (Nat.le_of_ble_eq_true rfl) (Nat.le_of_ble_eq_true rfl) (lt_cutHead (L := p.length - 1) hS (dk_sl D hi) (dk_r3 D) r53 r55 (od_nlt (by simp; omega)) (by simp) n50 n51 n52 h1.2.1 hc2 (by omega) (by rw [show 0 + p.length - 1 = p.length - 1 by omega] at q3; exact q3) q4 q5 rfl y2 ai xi) (Nat.le_of_ble_eq_true rfl) (fun o M1 hq => ?_)
              refine od_Re.kq hq rfl (fun ρ1 f1 b1 k1 => ?_) (fun ρ1 f1 b1 p1 k1 => ?_)
              · exact tr ((h1.low b1 (fun q hq => f1 q (od_nlt (by simp; omega)))).keepX k1)
              · have h2 := h1.low b1 (fun q hq => f1 q (od_nlt (by simp; omega)))
                refine od_W.rn (pc' := 68) (ls' := [some (.ref _), some (.int _), some (.int _), some (.int _), some (.int _), some (.ref _), some (.ref _)]) (st' := [.ref _, .ref _]) 2 rfl ?_
                refine od_rV (as := [.ref (D + 88 + 2 * t)]) rfl rfl rfl rfl (h2.h0) rfl (Nat.le_of_ble_eq_true rfl) (Nat.le_of_ble_eq_true rfl) (lt_keepResult h2 ht p1) (Nat.le_of_ble_eq_true rfl) (fun o M1 hq => ?_)
                refine od_Re.kq hq rfl (fun ρ1 f1 b1 k1 => absurd trivial k1) (fun ρ2 f2 b2 p2 k2 => ?_)
                refine od_W.fin rfl ?_
                exact tr (h2.keep ht k1 (sp_cut_W hc2 p st' en' [] 0 _ ai y2 k1) b2 f2 p2)
            · exact absurd trivial hc
      · rw [if_neg hc]
        exact od_K.out rfl (h.thr 1)
theorem lt_fast (h : dk D M ρ n X R) (a m f : Int32) : od_W 8 74 0 (od_ent 74 [.ref D, .int a, .int m, .int f]) [] (od_cm (dk_S D) M ρ) (dk_o D M (cs_v (cs_fast X a m f)) n X R) := by
  have e0 : od_ent 74 [.ref D, .int a, .int m, .int f] = [some (.ref D), some (.int a), some (.int m), some (.int f), none] := rfl
  rw [e0]
  have hS := dk_ss D
  unfold cs_fast
  refine od_W.rn (pc' := 2) (ls' := [some (.ref _), some (.int _), some (.int _), some (.int _), none]) (st' := [.int _, .ref _]) 2 rfl ?_
  rcases sl_is (m := 8) (by omega) a with ⟨e1, e2⟩ | ⟨i, hi, rfl, e1⟩
  · rw [e1]
    refine od_rV (as := [.int a]) rfl rfl rfl rfl (h.h0) rfl (Nat.le_of_ble_eq_true rfl) (Nat.le_of_ble_eq_true rfl) (ct_slotX e2) (Nat.le_of_ble_eq_true rfl) (fun o M1 hq => ?_)
    obtain ⟨rfl, rfl⟩ := hq
    exact od_K.out rfl (h.thr 0)
  · rw [e1]
    dsimp only
    refine od_rV (as := [.int (nI i)]) rfl rfl rfl rfl (h.h0) rfl (Nat.le_of_ble_eq_true rfl) (Nat.le_of_ble_eq_true rfl) (ct_slot h hi) (Nat.le_of_ble_eq_true rfl) (fun o M1 hq => ?_)
    obtain ⟨rfl, rfl⟩ := hq
    refine od_K.ret ?_
    refine od_W.rn (pc' := 12) (ls' := [some (.ref _), some (.int _), some (.int _), some (.int _), some (.ref _)]) (st' := [.int _, .int _, .int _]) 4 rfl ?_
    refine od_rSt (as := [.int m, .int 0, .int 1000]) rfl rfl rfl rfl (Nat.le_of_ble_eq_true rfl) (Nat.le_of_ble_eq_true rfl) (ct_isWithin m 0 1000) (Nat.le_of_ble_eq_true rfl) (fun o M1 hq => ?_)
    obtain ⟨rfl, rfl⟩ := hq
    refine od_K.ret ?_
    refine od_rSt (as := [.int (if 0 ≤ m ∧ m ≤ 1000 then 1 else 0)]) rfl rfl rfl rfl (Nat.le_of_ble_eq_true rfl) (Nat.le_of_ble_eq_true rfl) (ct_refuse (0 ≤ m ∧ m ≤ 1000) inferInstance) (Nat.le_of_ble_eq_true rfl) (fun o M1 hq => ?_)
    rcases hq with ⟨hc, rfl, rfl⟩ | ⟨hc, rfl, rfl⟩
    · refine od_K.ret ?_
      obtain ⟨c, hc2, rfl⟩ := nI_in0 (n := 1000) (by decide) hc
      rw [if_pos hc, nI_clamp (by omega)]
      refine od_W.rn (pc' := 23) (ls' := [some (.ref _), some (.int _), some (.int _), some (.int _), some (.ref _)]) (st' := [.int _, .int _, .int _]) 3 rfl ?_
      refine od_rSt (as := [.int f, .int 0, .int 2000]) rfl rfl rfl rfl (Nat.le_of_ble_eq_true rfl) (Nat.le_of_ble_eq_true rfl) (ct_isWithin f 0 2000) (Nat.le_of_ble_eq_true rfl) (fun o M1 hq => ?_)
      obtain ⟨rfl, rfl⟩ := hq
      refine od_K.ret ?_
      refine od_rSt (as := [.int (if 0 ≤ f ∧ f ≤ 2000 then 1 else 0)]) rfl rfl rfl rfl (Nat.le_of_ble_eq_true rfl) (Nat.le_of_ble_eq_true rfl) (ct_refuse (0 ≤ f ∧ f ≤ 2000) inferInstance) (Nat.le_of_ble_eq_true rfl) (fun o M1 hq => ?_)
      rcases hq with ⟨hf, rfl, rfl⟩ | ⟨hf, rfl, rfl⟩
      · refine od_K.ret ?_
        obtain ⟨g, hg2, rfl⟩ := nI_in0 (n := 2000) (by decide) hf
        rw [if_pos hf, nI_clamp (by omega)]
        have hsi := h.2.2.1 i hi
        obtain ⟨d1, d2, d3, d4, d5, d6, d7, d8, d9, d10, d11⟩ := id h.1
        obtain ⟨z1, z2, z3, z4, z5⟩ := id d9
        refine od_W.rn (pc' := 30) (ls' := [some (.ref _), some (.int _), some (.int _), some (.int _), some (.ref _)]) (st' := [.ref _]) 1 rfl ?_
        refine od_rG rfl (h.h0) rfl rfl ?_
        refine od_W.rn (pc' := 37) (ls' := [some (.ref _), some (.int _), some (.int _), some (.int _), some (.ref _)]) (st' := [.int _, .int _, .ref _, .ref _]) 3 rfl ?_
        refine od_rV (as := [.ref (D + 88 + 2 * i), .int (nI c), .int (nI g)]) rfl rfl rfl rfl (od_cm_o d8.2.1 z4) rfl (Nat.le_of_ble_eq_true rfl) (Nat.le_of_ble_eq_true rfl) (lt_workOff hS d8 d9 h.2.1 hc2 hg2 (dk_sl D hi) (by omega) hsi.2 hsi.1) (Nat.le_of_ble_eq_true rfl) (fun o M1 hq => ?_)
        obtain ⟨M', ρ', q1, q2, q3, q4, q5⟩ := hq
        have h1 : dk D M' ρ' n X R := by
          have h2 : dk D M ρ' n X R := h.low q3 (fun q hq => q2 q (by omega))
          exact ⟨h2.1.pil q1 q4, h2.2⟩
        have fr : ∀ q, q < D ∨ D + 128 ≤ q → M'.2.2 q = M.2.2 q := fun q hq => q1.2.2 q (by simp; omega)
        rcases q5 with ⟨k1, rfl, rfl⟩ | ⟨k1, rfl, rfl⟩
        · rw [cif_neg k1]
          exact od_K.out rfl ⟨M', ρ', q1.1, q1.2.1, fr, h1, rfl, rfl⟩
        · rw [cif_pos k1]
          refine od_K.ret ?_
          refine od_W.fin rfl ?_
          exact ⟨M', ρ', q1.1, q1.2.1, fr, h1, rfl, rfl⟩
      · rw [if_neg hf]
        exact od_K.out rfl (h.thr 1)
    · rw [if_neg hc]
      exact od_K.out rfl (h.thr 1)
theorem dk.rec (h : dk D M ρ n X R) {ρ' : od_Rm} {k m : Nat} {xs : List Nat} (hk : k < 12) (hm : m ≤ 12) (hmn : ∀ i, i < m → i ≠ k → i < n) (hb : od_Bd ρ') (hf : ∀ q, q ∉ [D + 104 + 2 * k] → ρ' q = ρ q) (hx : od_hl ρ' (D + 104 + 2 * k) xs) (hW : tm_W xs) {M' : od_M} (hM : dk_fx D M' m) : dk D M' ρ' m X (va_up R k xs) := by
  refine ⟨hM, hb, fun i hi => ⟨(h.2.2.1 i hi).1.fr (hf _ (od_n1 (by omega))), (h.2.2.1 i hi).2⟩, fun i hi => ?_, hm⟩
  by_cases e : i = k
  · subst e; rw [va_up_self]; exact ⟨hx, hW⟩
  · rw [va_up_ne _ _ e]; exact ⟨(h.2.2.2.1 i (hmn i hi e)).1.fr (hf _ (od_n1 (by omega))), (h.2.2.2.1 i (hmn i hi e)).2⟩
def cs_record (n : Nat) (X R : Nat → List Nat) (a : Int32) : (Int32 ⊕ Nat) × Nat × (Nat → List Nat) := match sl 8 a with
  | none => (.inr 0, n, R)
  | some i => if n < 12 then (.inl (nI (n + 1)), n + 1, va_up R n (X i)) else (.inr 2, n, R)
theorem lt_record (h : dk D M ρ n X R) (a : Int32) : od_W 4 75 0 (od_ent 75 [.ref D, .int a]) [] (od_cm (dk_S D) M ρ) (dk_o D M (cs_v (cs_record n X R a).1) (cs_record n X R a).2.1 X (cs_record n X R a).2.2) := by
  have e0 : od_ent 75 [.ref D, .int a] = [some (.ref D), some (.int a), none] := rfl
  rw [e0]
  have hS := dk_ss D
  unfold cs_record
  refine od_W.rn (pc' := 2) (ls' := [some (.ref _), some (.int _), none]) (st' := [.int _, .ref _]) 2 rfl ?_
  rcases sl_is (m := 8) (by omega) a with ⟨e1, e2⟩ | ⟨i, hi, rfl, e1⟩
  · rw [e1]
    refine od_rV (as := [.int a]) rfl rfl rfl rfl (h.h0) rfl (Nat.le_of_ble_eq_true rfl) (Nat.le_of_ble_eq_true rfl) (ct_slotX e2) (Nat.le_of_ble_eq_true rfl) (fun o M1 hq => ?_)
    obtain ⟨rfl, rfl⟩ := hq
    exact od_K.out rfl (h.thr 0)
  · rw [e1]
    dsimp only
    refine od_rV (as := [.int (nI i)]) rfl rfl rfl rfl (h.h0) rfl (Nat.le_of_ble_eq_true rfl) (Nat.le_of_ble_eq_true rfl) (ct_slot h hi) (Nat.le_of_ble_eq_true rfl) (fun o M1 hq => ?_)
    obtain ⟨rfl, rfl⟩ := hq
    refine od_K.ret ?_
    have hsi := h.2.2.1 i hi
    have hn := h.2.2.2.2
    refine od_W.rn (pc' := 7) (ls' := [some (.ref _), some (.int _), some (.ref _)]) (st' := [.ref _]) 2 rfl ?_
    refine od_rG rfl (h.h0) rfl rfl ?_
    refine od_W.rn (pc' := 12) (ls' := [some (.ref _), some (.int _), some (.ref _)]) (st' := [.int _, .int _]) 1 rfl ?_
    by_cases h12 : n < 12
    · rw [if_pos h12]
      obtain ⟨f, f1, f2⟩ := h.1.2.2.1
      refine od_r2T rfl rfl (decide_eq_true (nI_lt (b := 12) h12 (by omega))) ?_
      refine od_W.rn (pc' := 26) (ls' := [some (.ref _), some (.int _), some (.ref _)]) (st' := [.ref _]) 1 rfl ?_
      refine od_rG rfl (h.h0) rfl rfl ?_
      refine od_W.rn (pc' := 30) (ls' := [some (.ref _), some (.int _), some (.ref _)]) (st' := [.ref _, .ref _]) 1 rfl ?_
      refine od_rG rfl (h.h0) rfl rfl ?_
      refine od_rAL rfl (od_cm_o (dk_no D (k := 2) rfl rfl) f1) (rfl) (h12) (by decide) ?_
      rw [f2 n h12]
      refine od_W.rn (pc' := 35) (ls' := [some (.ref _), some (.int _), some (.ref _)]) (st' := [.ref _, .ref _]) 1 rfl ?_
      refine od_rV (as := [.ref (D + 88 + 2 * i)]) rfl rfl rfl rfl (od_cm_r (dk_rc D h12)) rfl (Nat.le_of_ble_eq_true rfl) (Nat.le_of_ble_eq_true rfl) (lt_become hS (dk_rc D h12) (dk_sl D hi) (by omega) h.2.1 hsi.1) (Nat.le_of_ble_eq_true rfl) (fun o M1 hq => ?_)
      refine od_Re.kq hq rfl (fun ρ1 f1 b1 k1 => absurd trivial k1) (fun ρ1 f1 b1 p1 k1 => ?_)
      have d0 : (od_cm (dk_S D) M ρ1).2.2 D = some (dk_ob D n) := od_cm_o (dk_no D (k := 0) rfl rfl) h.1.1
      refine od_W.rn (pc' := 40) (ls' := [some (.ref _), some (.int _), some (.ref _)]) (st' := [.ref _, .ref _]) 2 rfl ?_
      refine od_rG rfl (d0) rfl rfl ?_
      refine od_W.rn (pc' := 45) (ls' := [some (.ref _), some (.int _), some (.ref _)]) (st' := [.int _, .ref _]) 2 rfl ?_
      refine od_rP rfl (d0) rfl (by simp) rfl (by decide) ?_
      rw [od_cm_set (a := D) (dk_no D (k := 0) rfl rfl), show nI n + Int32.ofInt 1 = nI (n + 1) from nI_inc n]
      have hfx := h.1.num (m := n + 1)
      have d1 : (od_cm (dk_S D) (od_set M D (dk_ob D (n + 1))) ρ1).2.2 D = some (dk_ob D (n + 1)) := od_cm_o (dk_no D (k := 0) rfl rfl) hfx.1
      refine od_W.rn (pc' := 49) (ls' := [some (.ref _), some (.int _), some (.ref _)]) (st' := [.ref _]) 1 rfl ?_
      refine od_rG rfl (d1) rfl rfl ?_
      refine od_W.fin rfl ?_
      have hrec : dk D (od_set M D (dk_ob D (n + 1))) ρ1 (n + 1) X (va_up R n (X i)) := h.rec h12 (by omega) (fun j hj hne => by omega) b1 f1 p1 hsi.2 hfx
      exact ⟨od_set M D (dk_ob D (n + 1)), ρ1, rfl, rfl, fun q hq => od_set_o (by omega), hrec, rfl, rfl⟩
    · rw [if_neg h12]
      refine od_r2F rfl (of_decide_eq_true rfl) (decide_eq_false (nI_nlt (b := 12) (by omega) (by omega))) ?_
      refine od_rX rfl rfl rfl ?_
      exact h.thr 2
theorem cl_rise (h : dk D M ρ n X R) : ∀ (m i : Nat), i + m = n → 1 ≤ i → od_W 4 76 2 [some (.ref D), some (.int (nI i))] [] (od_cm (dk_S D) M ρ) (dk_o D M (.inl (some (.int (cs_rs R m i)))) n X R) := by
  have hn := h.2.2.2.2
  obtain ⟨f, f1, f2⟩ := h.1.2.2.1
  intro m
  induction m with
  | zero =>
    intro i hi h1
    refine od_W.rn (pc' := 4) (ls' := [some (.ref _), some (.int _)]) (st' := [.ref _, .int _]) 2 rfl ?_
    refine od_rG rfl (h.h0) rfl rfl ?_
    refine od_r2T rfl rfl (decide_eq_true (nI_le (by omega) (by omega))) ?_
    refine od_W.rn (pc' := 39) (ls' := [some (.ref _), some (.int _)]) (st' := [.int _]) 1 rfl ?_
    refine od_W.fin rfl ?_
    exact h.val _
  | succ m ih =>
    intro i hi h1
    have hri := h.2.2.2.1 i (by omega)
    have hrj := h.2.2.2.1 (i - 1) (by omega)
    refine od_W.rn (pc' := 4) (ls' := [some (.ref _), some (.int _)]) (st' := [.ref _, .int _]) 2 rfl ?_
    refine od_rG rfl (h.h0) rfl rfl ?_
    refine od_r2F rfl (of_decide_eq_true rfl) (decide_eq_false (nI_ge (by omega) (by omega))) ?_
    refine od_W.rn (pc' := 11) (ls' := [some (.ref _), some (.int _)]) (st' := [.ref _]) 1 rfl ?_
    refine od_rG rfl (h.h0) rfl rfl ?_
    refine od_W.rn (pc' := 15) (ls' := [some (.ref _), some (.int _)]) (st' := [.int _, .ref _]) 1 rfl ?_
    refine od_rAL rfl (od_cm_o (dk_no D (k := 2) rfl rfl) f1) (rfl) (by omega) (by decide) ?_
    rw [f2 i (by omega)]
    refine od_W.rn (pc' := 17) (ls' := [some (.ref _), some (.int _)]) (st' := [.ref _, .ref _]) 1 rfl ?_
    refine od_rG rfl (h.h0) rfl rfl ?_
    refine od_W.rn (pc' := 23) (ls' := [some (.ref _), some (.int _)]) (st' := [.int _, .ref _, .ref _]) 3 rfl ?_
    refine od_rAL rfl (od_cm_o (dk_no D (k := 2) rfl rfl) f1) ((show nI i - Int32.ofInt 1 = nI (i - 1) from nI_subI (a := 1) h1)) (by omega) (by decide) ?_
    rw [f2 (i - 1) (by omega)]
    refine od_rSt (as := [.ref (D + 104 + 2 * i), .ref (D + 104 + 2 * (i - 1))]) rfl rfl rfl rfl (Nat.le_of_ble_eq_true rfl) (Nat.le_of_ble_eq_true rfl) (ct_order (dk_ss D) (dk_rc D (by omega)) (dk_rc D (by omega)) h.2.1 hri.1.2 hrj.1.2 hri.1.1 hrj.1.1) (Nat.le_of_ble_eq_true rfl) (fun o M1 hq => ?_)
    obtain ⟨rfl, rfl⟩ := hq
    refine od_K.ret ?_
    by_cases hc : tm_cmp (R i) (R (i - 1)) = -1
    · rw [show cs_rs R (m + 1) i = cs_rs R m (i + 1) from if_pos hc, hc]
      refine od_r1T rfl rfl (rfl) ?_
      refine od_W.rn (pc' := 2) (ls' := [some (.ref _), some (.int _)]) (st' := []) 2 rfl ?_
      rw [nI_inc i]
      exact ih (i + 1) (by omega) (by omega)
    · have hge : od_cond .lt (tm_cmp (R i) (R (i - 1))) 0 = false := by rcases tm_cmp_is (R i) (R (i - 1)) with z | z | z; exact absurd z hc; rw [z]; rfl; rw [z]; rfl
      rw [show cs_rs R (m + 1) i = nI i from if_neg hc]
      refine od_r1F rfl (of_decide_eq_true rfl) (hge) ?_
      refine od_W.rn (pc' := 31) (ls' := [some (.ref _), some (.int _)]) (st' := [.int _]) 1 rfl ?_
      refine od_W.fin rfl ?_
      exact h.val _
theorem lt_rise (h : dk D M ρ n X R) : od_W 4 76 0 (od_ent 76 [.ref D]) [] (od_cm (dk_S D) M ρ) (dk_o D M (.inl (some (.int (cs_rise n R)))) n X R) := by
  have e0 : od_ent 76 [.ref D] = [some (.ref D), none] := rfl
  rw [e0]
  refine od_W.rn (pc' := 2) (ls' := [some (.ref _), some (.int _)]) (st' := []) 2 rfl ?_
  rcases Nat.eq_zero_or_pos n with z | z
  · subst z
    refine od_W.rn (pc' := 4) (ls' := [some (.ref _), some (.int _)]) (st' := [.ref _, .int _]) 2 rfl ?_
    refine od_rG rfl (h.h0) rfl rfl ?_
    refine od_r2T rfl rfl (rfl) ?_
    refine od_W.rn (pc' := 39) (ls' := [some (.ref _), some (.int _)]) (st' := [.int _]) 1 rfl ?_
    refine od_W.fin rfl ?_
    exact h.val _
  · exact cl_rise h (n - 1) 1 (by omega) (by omega)
def cs_replace (n : Nat) (X R : Nat → List Nat) (i a : Int32) : (Int32 ⊕ Nat) × (Nat → List Nat) := match sl n i with
  | none => (.inr 0, R)
  | some k => match sl 8 a with
    | none => (.inr 0, R)
    | some j => (.inl 0, va_up R k (X j))
def cs_recall (n : Nat) (X R : Nat → List Nat) (i to : Int32) : cs_T := match sl 8 to with
  | none => (.inr 0, X)
  | some t => match sl n i with
    | none => (.inr 0, X)
    | some k => (.inl 0, va_up X t (R k))
theorem lt_replace (h : dk D M ρ n X R) (i a : Int32) : od_W 4 77 0 (od_ent 77 [.ref D, .int i, .int a]) [] (od_cm (dk_S D) M ρ) (dk_o D M (cs_u (cs_replace n X R i a).1) n X (cs_replace n X R i a).2) := by
  have e0 : od_ent 77 [.ref D, .int i, .int a] = [some (.ref D), some (.int i), some (.int a)] := rfl
  rw [e0]
  have hn := h.2.2.2.2
  unfold cs_replace
  refine od_W.rn (pc' := 2) (ls' := [some (.ref _), some (.int _), some (.int _)]) (st' := [.int _, .ref _]) 2 rfl ?_
  rcases sl_is (m := n) (by omega) i with ⟨e1, e2⟩ | ⟨k, hk, rfl, e1⟩
  · rw [e1]
    refine od_rV (as := [.int i]) rfl rfl rfl rfl (h.h0) rfl (Nat.le_of_ble_eq_true rfl) (Nat.le_of_ble_eq_true rfl) (ct_recX h e2) (Nat.le_of_ble_eq_true rfl) (fun o M1 hq => ?_)
    obtain ⟨rfl, rfl⟩ := hq
    exact od_K.out rfl (h.thr 0)
  · rw [e1]
    dsimp only
    refine od_rV (as := [.int (nI k)]) rfl rfl rfl rfl (h.h0) rfl (Nat.le_of_ble_eq_true rfl) (Nat.le_of_ble_eq_true rfl) (ct_rec h hk) (Nat.le_of_ble_eq_true rfl) (fun o M1 hq => ?_)
    obtain ⟨rfl, rfl⟩ := hq
    refine od_K.ret ?_
    refine od_W.rn (pc' := 7) (ls' := [some (.ref _), some (.int _), some (.int _)]) (st' := [.int _, .ref _, .ref _]) 2 rfl ?_
    rcases sl_is (m := 8) (by omega) a with ⟨e1, e2⟩ | ⟨j, hj, rfl, e1⟩
    · rw [e1]
      refine od_rV (as := [.int a]) rfl rfl rfl rfl (h.h0) rfl (Nat.le_of_ble_eq_true rfl) (Nat.le_of_ble_eq_true rfl) (ct_slotX e2) (Nat.le_of_ble_eq_true rfl) (fun o M1 hq => ?_)
      obtain ⟨rfl, rfl⟩ := hq
      exact od_K.out rfl (h.thr 0)
    · rw [e1]
      dsimp only
      refine od_rV (as := [.int (nI j)]) rfl rfl rfl rfl (h.h0) rfl (Nat.le_of_ble_eq_true rfl) (Nat.le_of_ble_eq_true rfl) (ct_slot h hj) (Nat.le_of_ble_eq_true rfl) (fun o M1 hq => ?_)
      obtain ⟨rfl, rfl⟩ := hq
      refine od_K.ret ?_
      have hsj := h.2.2.1 j hj
      refine od_rV (as := [.ref (D + 88 + 2 * j)]) rfl rfl rfl rfl (od_cm_r (dk_rc D (by omega))) rfl (Nat.le_of_ble_eq_true rfl) (Nat.le_of_ble_eq_true rfl) (lt_become (dk_ss D) (dk_rc D (by omega)) (dk_sl D hj) (by omega) h.2.1 hsj.1) (Nat.le_of_ble_eq_true rfl) (fun o M1 hq => ?_)
      refine od_Re.kq hq rfl (fun ρ1 f1 b1 k1 => absurd trivial k1) (fun ρ1 f1 b1 p1 k1 => ?_)
      refine od_W.fin rfl ?_
      exact ⟨M, ρ1, rfl, rfl, fun _ _ => rfl, h.rec (by omega) hn (fun j hj _ => hj) b1 f1 p1 hsj.2 h.1, rfl, rfl⟩
theorem lt_recall (h : dk D M ρ n X R) (i to : Int32) : od_W 4 78 0 (od_ent 78 [.ref D, .int i, .int to]) [] (od_cm (dk_S D) M ρ) (dk_o D M (cs_u (cs_recall n X R i to).1) n (cs_recall n X R i to).2 R) := by
  have e0 : od_ent 78 [.ref D, .int i, .int to] = [some (.ref D), some (.int i), some (.int to)] := rfl
  rw [e0]
  have hn := h.2.2.2.2
  unfold cs_recall
  refine od_W.rn (pc' := 2) (ls' := [some (.ref _), some (.int _), some (.int _)]) (st' := [.int _, .ref _]) 2 rfl ?_
  rcases sl_is (m := 8) (by omega) to with ⟨e1, e2⟩ | ⟨t, ht, rfl, e1⟩
  · rw [e1]
    refine od_rV (as := [.int to]) rfl rfl rfl rfl (h.h0) rfl (Nat.le_of_ble_eq_true rfl) (Nat.le_of_ble_eq_true rfl) (ct_slotX e2) (Nat.le_of_ble_eq_true rfl) (fun o M1 hq => ?_)
    obtain ⟨rfl, rfl⟩ := hq
    exact od_K.out rfl (h.thr 0)
  · rw [e1]
    dsimp only
    refine od_rV (as := [.int (nI t)]) rfl rfl rfl rfl (h.h0) rfl (Nat.le_of_ble_eq_true rfl) (Nat.le_of_ble_eq_true rfl) (ct_slot h ht) (Nat.le_of_ble_eq_true rfl) (fun o M1 hq => ?_)
    obtain ⟨rfl, rfl⟩ := hq
    refine od_K.ret ?_
    refine od_W.rn (pc' := 7) (ls' := [some (.ref _), some (.int _), some (.int _)]) (st' := [.int _, .ref _, .ref _]) 2 rfl ?_
    rcases sl_is (m := n) (by omega) i with ⟨e1, e2⟩ | ⟨k, hk, rfl, e1⟩
    · rw [e1]
      refine od_rV (as := [.int i]) rfl rfl rfl rfl (h.h0) rfl (Nat.le_of_ble_eq_true rfl) (Nat.le_of_ble_eq_true rfl) (ct_recX h e2) (Nat.le_of_ble_eq_true rfl) (fun o M1 hq => ?_)
      obtain ⟨rfl, rfl⟩ := hq
      exact od_K.out rfl (h.thr 0)
    · rw [e1]
      dsimp only
      refine od_rV (as := [.int (nI k)]) rfl rfl rfl rfl (h.h0) rfl (Nat.le_of_ble_eq_true rfl) (Nat.le_of_ble_eq_true rfl) (ct_rec h hk) (Nat.le_of_ble_eq_true rfl) (fun o M1 hq => ?_)
      obtain ⟨rfl, rfl⟩ := hq
      refine od_K.ret ?_
      have hrk := h.2.2.2.1 k hk
      refine od_rV (as := [.ref (D + 104 + 2 * k)]) rfl rfl rfl rfl (od_cm_r (dk_sl D ht)) rfl (Nat.le_of_ble_eq_true rfl) (Nat.le_of_ble_eq_true rfl) (lt_become (dk_ss D) (dk_sl D ht) (dk_rc D (by omega)) (by omega) h.2.1 hrk.1) (Nat.le_of_ble_eq_true rfl) (fun o M1 hq => ?_)
      refine od_Re.kq hq rfl (fun ρ1 f1 b1 k1 => absurd trivial k1) (fun ρ1 f1 b1 p1 k1 => ?_)
      refine od_W.fin rfl ?_
      exact ⟨M, ρ1, rfl, rfl, fun _ _ => rfl, h.set ht b1 f1 p1 hrk.2, rfl, rfl⟩
theorem lt_wipe (h : dk D M ρ n X R) : od_W 4 79 0 (od_ent 79 [.ref D]) [] (od_cm (dk_S D) M ρ) (dk_o D M (.inl (some (.int (nI n)))) 0 X R) := by
  have e0 : od_ent 79 [.ref D] = [some (.ref D), none] := rfl
  rw [e0]
  refine od_W.rn (pc' := 1) (ls' := [some (.ref _), none]) (st' := [.ref _]) 1 rfl ?_
  refine od_rG rfl (h.h0) rfl rfl ?_
  refine od_W.rn (pc' := 7) (ls' := [some (.ref _), some (.int _)]) (st' := [.int _, .ref _]) 3 rfl ?_
  refine od_rP rfl (h.h0) rfl (by simp) rfl (by decide) ?_
  rw [od_cm_set (a := D) (dk_no D (k := 0) rfl rfl)]
  refine od_W.rn (pc' := 11) (ls' := [some (.ref _), some (.int _)]) (st' := [.int _]) 1 rfl ?_
  refine od_W.fin rfl ?_
  exact ⟨od_set M D (dk_ob D 0), ρ, rfl, rfl, fun q hq => od_set_o (by omega), ⟨h.1.num, h.2.1, h.2.2.1, fun i hi => by omega, by omega⟩, rfl, rfl⟩
end CALLS3
