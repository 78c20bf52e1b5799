/-! MEMBER, STEP, START, VALUE. -/
noncomputable def cs_member (X : Nat → List Nat) (a m to : Int32) : cs_T := match sl 8 a with
  | none => (.inr 0, X)
  | some i => match sl 8 to with
    | none => (.inr 0, X)
    | some t => if tm_k (tm_tp (X i)) = 2 then (if 0 ≤ m ∧ m ≤ 1000000 then cs_keep X t (tm_ft (sp_mem m.toNatClampNeg (tm_tp (X i)))) (sp_mem m.toNatClampNeg (tm_tp (X i))) else (.inr 1, X)) else (.inr 1, X)
noncomputable def cs_step (X : Nat → List Nat) (a m to : Int32) : cs_T := match sl 8 a with
  | none => (.inr 0, X)
  | some i => match sl 8 to with
    | none => (.inr 0, X)
    | some t => if X i = [] then (.inr 1, X) else if 2 ≤ m ∧ m ≤ 1000000 then cs_keep X t (ok_st m.toNatClampNeg 200 (X i)) (sp_pr (tm_tp (sp_st m.toNatClampNeg 200 (X i)))) else (.inr 1, X)
noncomputable def cs_start (X : Nat → List Nat) (m b to : Int32) : cs_T := match sl 8 to with
  | none => (.inr 0, X)
  | some t => if 0 ≤ m ∧ m ≤ 1000000000 then (if 2 ≤ b ∧ b ≤ 1000 then cs_keep X t (tm_ft (tm_fl (sp_ib b.toNatClampNeg m.toNatClampNeg))) (tm_fl (sp_ib b.toNatClampNeg m.toNatClampNeg)) else (.inr 1, X)) else (.inr 1, X)
def cs_value (X : Nat → List Nat) (a m : Int32) : Int32 ⊕ Nat := match sl 8 a with
  | none => .inr 0
  | some i => if 0 ≤ m ∧ m ≤ 1000 then .inl (if vl_sc m.toNatClampNeg (X i) [0] ≤ 1000000000 then nI (vl_sc m.toNatClampNeg (X i) [0]) else -1) else .inr 1
theorem nI_in0 {x M : Int32} {n : Nat} (hM : M.toInt = n) (hc : 0 ≤ x ∧ x ≤ M) : ∃ j : Nat, j ≤ n ∧ x = nI j := nI_of2 hM (fun z => absurd (Int32.lt_of_lt_of_le z hc.1) Int32.lt_irrefl) hc.2
theorem nI_in2 {x M : Int32} {n : Nat} (hM : M.toInt = n) (hn : n < 2 ^ 31) (hc : 2 ≤ x ∧ x ≤ M) : ∃ j : Nat, 2 ≤ j ∧ j ≤ n ∧ x = nI j := by
  obtain ⟨j, hj, rfl⟩ := nI_in0 hM ⟨Int32.le_trans (by decide) hc.1, hc.2⟩
  exact ⟨j, (nI_leI (a := 2) (by omega) (by omega)).mp hc.1, hj, rfl⟩
theorem tm_k_le2 (ts : List tm_T) : tm_k ts ≤ 2 := by rcases tm_k_le ts with y | y | y <;> omega
section CALLS2
variable {D n : Nat} {M : od_M} {ρ : od_Rm} {X R : Nat → List Nat}
theorem lt_member (h : dk D M ρ n X R) (a m to : Int32) : od_W 8 65 0 (od_ent 65 [.ref D, .int a, .int m, .int to]) [] (od_cm (dk_S D) M ρ) (dk_o D M (cs_v (cs_member X a m to).1) n (cs_member X a m to).2 R) := by
  have e0 : od_ent 65 [.ref D, .int a, .int m, .int to] = [some (.ref D), some (.int a), some (.int m), some (.int to), none, none] := rfl
  rw [e0]
  have hS := dk_ss D
  unfold cs_member
  refine od_W.rn (pc' := 2) (ls' := [some (.ref _), some (.int _), some (.int _), some (.int _), none, none]) (st' := [.int _, .ref _]) 2 rfl ?_
  rcases sl_is (m := 8) (by omega) a with ⟨e1, e2⟩ | ⟨i, hi, rfl, e1⟩
  · rw [e1]
    refine od_rV (as := [.int a]) rfl rfl rfl rfl (h.h0) rfl (Nat.le_of_ble_eq_true rfl) (Nat.le_of_ble_eq_true rfl) (ct_slotX e2) (Nat.le_of_ble_eq_true rfl) (fun o M1 hq => ?_)
    obtain ⟨rfl, rfl⟩ := hq
    exact od_K.out rfl (h.thr 0)
  · rw [e1]
    dsimp only
    refine od_rV (as := [.int (nI i)]) rfl rfl rfl rfl (h.h0) rfl (Nat.le_of_ble_eq_true rfl) (Nat.le_of_ble_eq_true rfl) (ct_slot h hi) (Nat.le_of_ble_eq_true rfl) (fun o M1 hq => ?_)
    obtain ⟨rfl, rfl⟩ := hq
    refine od_K.ret ?_
    refine od_W.rn (pc' := 9) (ls' := [some (.ref _), some (.int _), some (.int _), some (.int _), some (.ref _), none]) (st' := [.int _, .ref _]) 3 rfl ?_
    rcases sl_is (m := 8) (by omega) to with ⟨e1, e2⟩ | ⟨t, ht, rfl, e1⟩
    · rw [e1]
      refine od_rV (as := [.int to]) rfl rfl rfl rfl (h.h0) rfl (Nat.le_of_ble_eq_true rfl) (Nat.le_of_ble_eq_true rfl) (ct_slotX e2) (Nat.le_of_ble_eq_true rfl) (fun o M1 hq => ?_)
      obtain ⟨rfl, rfl⟩ := hq
      exact od_K.out rfl (h.thr 0)
    · rw [e1]
      dsimp only
      refine od_rV (as := [.int (nI t)]) rfl rfl rfl rfl (h.h0) rfl (Nat.le_of_ble_eq_true rfl) (Nat.le_of_ble_eq_true rfl) (ct_slot h ht) (Nat.le_of_ble_eq_true rfl) (fun o M1 hq => ?_)
      obtain ⟨rfl, rfl⟩ := hq
      refine od_K.ret ?_
      have hsi := h.2.2.1 i hi
      have ai := tm_al_tp hsi.2
      have xi : od_hl ρ (D + 88 + 2 * i) (tm_fl (tm_tp (X i))) := by rw [tm_fl_tp hsi.2]; exact hsi.1
      refine od_W.rn (pc' := 16) (ls' := [some (.ref _), some (.int _), some (.int _), some (.int _), some (.ref _), some (.ref _)]) (st' := [.ref _]) 2 rfl ?_
      refine od_rV (as := []) rfl rfl rfl rfl (od_cm_r (dk_sl D hi)) rfl (Nat.le_of_ble_eq_true rfl) (Nat.le_of_ble_eq_true rfl) (ct_sort hS (dk_sl D hi) (h.2.1 _) ai xi.1) (Nat.le_of_ble_eq_true rfl) (fun o M1 hq => ?_)
      obtain ⟨rfl, rfl⟩ := hq
      refine od_K.ret ?_
      refine od_W.rn (pc' := 20) (ls' := [some (.ref _), some (.int _), some (.int _), some (.int _), some (.ref _), some (.ref _)]) (st' := [.int _, .int _]) 1 rfl ?_
      by_cases hk : tm_k (tm_tp (X i)) = 2
      · rw [if_pos hk, hk]
        refine od_r2F rfl (of_decide_eq_true rfl) (rfl) ?_
        refine od_W.rn (pc' := 28) (ls' := [some (.ref _), some (.int _), some (.int _), some (.int _), some (.ref _), some (.ref _)]) (st' := [.int _]) 2 rfl ?_
        refine od_rSt (as := [.int (if True then 1 else 0)]) rfl rfl rfl rfl (Nat.le_of_ble_eq_true rfl) (Nat.le_of_ble_eq_true rfl) (ct_refuse True inferInstance) (Nat.le_of_ble_eq_true rfl) (fun o M1 hq => ?_)
        obtain ⟨_, rfl, rfl⟩ | ⟨hc, _⟩ := hq
        · refine od_K.ret ?_
          refine od_W.rn (pc' := 35) (ls' := [some (.ref _), some (.int _), some (.int _), some (.int _), some (.ref _), some (.ref _)]) (st' := [.int _, .int _, .int _]) 3 rfl ?_
          refine od_rSt (as := [.int m, .int 0, .int 1000000]) rfl rfl rfl rfl (Nat.le_of_ble_eq_true rfl) (Nat.le_of_ble_eq_true rfl) (ct_isWithin m 0 1000000) (Nat.le_of_ble_eq_true rfl) (fun o M1 hq => ?_)
          obtain ⟨rfl, rfl⟩ := hq
          refine od_K.ret ?_
          refine od_rSt (as := [.int (if 0 ≤ m ∧ m ≤ 1000000 then 1 else 0)]) rfl rfl rfl rfl (Nat.le_of_ble_eq_true rfl) (Nat.le_of_ble_eq_true rfl) (ct_refuse (0 ≤ m ∧ m ≤ 1000000) inferInstance) (Nat.le_of_ble_eq_true rfl) (fun o M1 hq => ?_)
          rcases hq with ⟨hc, rfl, rfl⟩ | ⟨hc, rfl, rfl⟩
          · refine od_K.ret ?_
            obtain ⟨c, hc2, rfl⟩ := nI_in0 (n := 1000000) (by decide) hc
            rw [if_pos hc, nI_clamp (by omega)]
            refine od_W.rn (pc' := 45) (ls' := [some (.ref _), some (.int _), some (.int _), some (.int _), some (.ref _), some (.ref _)]) (st' := [.ref _, .int _, .ref _]) 3 rfl ?_
            refine od_rG rfl (h.h0) rfl rfl ?_
            refine od_rSt (as := [.ref (D + 88 + 2 * i), .int (nI c), .ref (D + 3)]) rfl rfl rfl rfl (Nat.le_of_ble_eq_true rfl) (Nat.le_of_ble_eq_true rfl) (lt_makeMember hS (dk_r3 D) (dk_sl D hi) (by omega) hc2 h.2.1 ai hk xi) (Nat.le_of_ble_eq_true rfl) (fun o M1 hq => ?_)
            refine od_Re.kq hq rfl (fun ρ1 f1 b1 k1 => ?_) (fun ρ1 f1 b1 p1 k1 => ?_)
            · exact (h.low b1 (fun q hq => f1 q (od_nlt (by simp; omega)))).keepX k1
            · have h1 := h.low b1 (fun q hq => f1 q (od_nlt (by simp; omega)))
              refine od_W.rn (pc' := 54) (ls' := [some (.ref _), some (.int _), some (.int _), some (.int _), some (.ref _), some (.ref _)]) (st' := [.ref _, .ref _]) 2 rfl ?_
              refine od_rV (as := [.ref (D + 88 + 2 * t)]) rfl rfl rfl rfl (h1.h0) rfl (Nat.le_of_ble_eq_true rfl) (Nat.le_of_ble_eq_true rfl) (lt_keepResult h1 ht p1) (Nat.le_of_ble_eq_true rfl) (fun o M1 hq => ?_)
              refine od_Re.kq hq rfl (fun ρ1 f1 b1 k1 => absurd trivial k1) (fun ρ2 f2 b2 p2 k2 => ?_)
              refine od_W.fin rfl ?_
              exact h1.keep ht k1 (sp_mem_W hc2 ai) b2 f2 p2
          · rw [if_neg hc]
            exact od_K.out rfl (h.thr 1)
        · exact absurd trivial hc
      · rw [if_neg hk]
        refine od_r2T rfl rfl ((show (!decide (nI (tm_k (tm_tp (X i))) = nI 2)) = true by rw [decide_eq_false (fun z => hk ((nI_eq (Nat.lt_of_le_of_lt (tm_k_le2 _) (by omega)) (by omega)).mp z))]; rfl)) ?_
        refine od_W.rn (pc' := 28) (ls' := [some (.ref _), some (.int _), some (.int _), some (.int _), some (.ref _), some (.ref _)]) (st' := [.int _]) 1 rfl ?_
        refine od_rSt (as := [.int (if False then 1 else 0)]) rfl rfl rfl rfl (Nat.le_of_ble_eq_true rfl) (Nat.le_of_ble_eq_true rfl) (ct_refuse False inferInstance) (Nat.le_of_ble_eq_true rfl) (fun o M1 hq => ?_)
        obtain ⟨hc, _⟩ | ⟨hc, rfl, rfl⟩ := hq
        · exact hc.elim
        · exact od_K.out rfl (h.thr 1)
theorem lt_step (h : dk D M ρ n X R) (a m to : Int32) : od_W 8 66 0 (od_ent 66 [.ref D, .int a, .int m, .int to]) [] (od_cm (dk_S D) M ρ) (dk_o D M (cs_v (cs_step X a m to).1) n (cs_step X a m to).2 R) := by
  have e0 : od_ent 66 [.ref D, .int a, .int m, .int to] = [some (.ref D), some (.int a), some (.int m), some (.int to), none, none] := rfl
  rw [e0]
  have hS := dk_ss D
  unfold cs_step
  refine od_W.rn (pc' := 2) (ls' := [some (.ref _), some (.int _), some (.int _), some (.int _), none, none]) (st' := [.int _, .ref _]) 2 rfl ?_
  rcases sl_is (m := 8) (by omega) a with ⟨e1, e2⟩ | ⟨i, hi, rfl, e1⟩
  · rw [e1]
    refine od_rV (as := [.int a]) rfl rfl rfl rfl (h.h0) rfl (Nat.le_of_ble_eq_true rfl) (Nat.le_of_ble_eq_true rfl) (ct_slotX e2) (Nat.le_of_ble_eq_true rfl) (fun o M1 hq => ?_)
    obtain ⟨rfl, rfl⟩ := hq
    exact od_K.out rfl (h.thr 0)
  · rw [e1]
    dsimp only
    refine od_rV (as := [.int (nI i)]) rfl rfl rfl rfl (h.h0) rfl (Nat.le_of_ble_eq_true rfl) (Nat.le_of_ble_eq_true rfl) (ct_slot h hi) (Nat.le_of_ble_eq_true rfl) (fun o M1 hq => ?_)
    obtain ⟨rfl, rfl⟩ := hq
    refine od_K.ret ?_
    refine od_W.rn (pc' := 9) (ls' := [some (.ref _), some (.int _), some (.int _), some (.int _), some (.ref _), none]) (st' := [.int _, .ref _]) 3 rfl ?_
    rcases sl_is (m := 8) (by omega) to with ⟨e1, e2⟩ | ⟨t, ht, rfl, e1⟩
    · rw [e1]
      refine od_rV (as := [.int to]) rfl rfl rfl rfl (h.h0) rfl (Nat.le_of_ble_eq_true rfl) (Nat.le_of_ble_eq_true rfl) (ct_slotX e2) (Nat.le_of_ble_eq_true rfl) (fun o M1 hq => ?_)
      obtain ⟨rfl, rfl⟩ := hq
      exact od_K.out rfl (h.thr 0)
    · rw [e1]
      dsimp only
      refine od_rV (as := [.int (nI t)]) rfl rfl rfl rfl (h.h0) rfl (Nat.le_of_ble_eq_true rfl) (Nat.le_of_ble_eq_true rfl) (ct_slot h ht) (Nat.le_of_ble_eq_true rfl) (fun o M1 hq => ?_)
      obtain ⟨rfl, rfl⟩ := hq
      refine od_K.ret ?_
      have hsi := h.2.2.1 i hi
      refine od_W.rn (pc' := 16) (ls' := [some (.ref _), some (.int _), some (.int _), some (.int _), some (.ref _), some (.ref _)]) (st' := [.ref _]) 2 rfl ?_
      refine od_rV (as := []) rfl rfl rfl rfl (od_cm_r (dk_sl D hi)) rfl (Nat.le_of_ble_eq_true rfl) (Nat.le_of_ble_eq_true rfl) (lt_isZero hS (dk_sl D hi) h.2.1 hsi.1) (Nat.le_of_ble_eq_true rfl) (fun o M1 hq => ?_)
      obtain ⟨rfl, rfl⟩ := hq
      refine od_K.ret ?_
      by_cases hz : X i = []
      · rw [if_pos hz, if_pos hz]
        refine od_r1T rfl rfl (rfl) ?_
        refine od_W.rn (pc' := 27) (ls' := [some (.ref _), some (.int _), some (.int _), some (.int _), some (.ref _), some (.ref _)]) (st' := [.int _]) 1 rfl ?_
        refine od_rSt (as := [.int (if False then 1 else 0)]) rfl rfl rfl rfl (Nat.le_of_ble_eq_true rfl) (Nat.le_of_ble_eq_true rfl) (ct_refuse False inferInstance) (Nat.le_of_ble_eq_true rfl) (fun o M1 hq => ?_)
        obtain ⟨hc, _⟩ | ⟨hc, rfl, rfl⟩ := hq
        · exact hc.elim
        · exact od_K.out rfl (h.thr 1)
      · rw [if_neg hz, if_neg hz]
        have hk0 : tm_k (tm_tp (X i)) ≠ 0 := fun z => hz ((tm_fl_tp hsi.2).symm.trans (by rw [tm_k_0 z]; rfl))
        refine od_r1F rfl (of_decide_eq_true rfl) (rfl) ?_
        refine od_W.rn (pc' := 27) (ls' := [some (.ref _), some (.int _), some (.int _), some (.int _), some (.ref _), some (.ref _)]) (st' := [.int _]) 2 rfl ?_
        refine od_rSt (as := [.int (if True then 1 else 0)]) rfl rfl rfl rfl (Nat.le_of_ble_eq_true rfl) (Nat.le_of_ble_eq_true rfl) (ct_refuse True inferInstance) (Nat.le_of_ble_eq_true rfl) (fun o M1 hq => ?_)
        obtain ⟨_, rfl, rfl⟩ | ⟨hc, _⟩ := hq
        · refine od_K.ret ?_
          refine od_W.rn (pc' := 34) (ls' := [some (.ref _), some (.int _), some (.int _), some (.int _), some (.ref _), some (.ref _)]) (st' := [.int _, .int _, .int _]) 3 rfl ?_
          refine od_rSt (as := [.int m, .int 2, .int 1000000]) rfl rfl rfl rfl (Nat.le_of_ble_eq_true rfl) (Nat.le_of_ble_eq_true rfl) (ct_isWithin m 2 1000000) (Nat.le_of_ble_eq_true rfl) (fun o M1 hq => ?_)
          obtain ⟨rfl, rfl⟩ := hq
          refine od_K.ret ?_
          refine od_rSt (as := [.int (if 2 ≤ m ∧ m ≤ 1000000 then 1 else 0)]) rfl rfl rfl rfl (Nat.le_of_ble_eq_true rfl) (Nat.le_of_ble_eq_true rfl) (ct_refuse (2 ≤ m ∧ m ≤ 1000000) inferInstance) (Nat.le_of_ble_eq_true rfl) (fun o M1 hq => ?_)
          rcases hq with ⟨hc, rfl, rfl⟩ | ⟨hc, rfl, rfl⟩
          · refine od_K.ret ?_
            obtain ⟨c, hc1, hc2, rfl⟩ := nI_in2 (n := 1000000) (by decide) (by omega) hc
            rw [if_pos hc, nI_clamp (by omega)]
            have d6 := h.1.2.2.2.2.2.1
            refine od_W.rn (pc' := 41) (ls' := [some (.ref _), some (.int _), some (.int _), some (.int _), some (.ref _), some (.ref _)]) (st' := [.ref _]) 1 rfl ?_
            refine od_rG rfl (h.h0) rfl rfl ?_
            refine od_W.rn (pc' := 48) (ls' := [some (.ref _), some (.int _), some (.int _), some (.int _), some (.ref _), some (.ref _)]) (st' := [.ref _, .int _, .ref _, .ref _]) 3 rfl ?_
            refine od_rG rfl (h.h0) rfl rfl ?_
            refine od_rV (as := [.ref (D + 88 + 2 * i), .int (nI c), .ref (D + 3)]) rfl rfl rfl rfl (od_cm_o (dk_des D).1 d6) rfl (Nat.le_of_ble_eq_true rfl) (Nat.le_of_ble_eq_true rfl) (lt_stepDown hS d6 (dk_des D) (dk_r3 D) (dk_sl D hi) (od_nlt (by simp; omega)) (by simp) hc1 hc2 h.2.1 hsi.2 hk0 hsi.1) (Nat.le_of_ble_eq_true rfl) (fun o M1 hq => ?_)
            refine od_Re.kq hq rfl (fun ρ1 f1 b1 k1 => ?_) (fun ρ1 f1 b1 p1 k1 => ?_)
            · exact (h.low b1 (fun q hq => f1 q (od_nlt (by simp; omega)))).keepX k1
            · have h1 := h.low b1 (fun q hq => f1 q (od_nlt (by simp; omega)))
              refine od_W.rn (pc' := 57) (ls' := [some (.ref _), some (.int _), some (.int _), some (.int _), some (.ref _), some (.ref _)]) (st' := [.ref _, .ref _]) 2 rfl ?_
              refine od_rV (as := [.ref (D + 88 + 2 * t)]) rfl rfl rfl rfl (h1.h0) rfl (Nat.le_of_ble_eq_true rfl) (Nat.le_of_ble_eq_true rfl) (lt_keepResult h1 ht p1) (Nat.le_of_ble_eq_true rfl) (fun o M1 hq => ?_)
              refine od_Re.kq hq rfl (fun ρ1 f1 b1 k1 => absurd trivial k1) (fun ρ2 f2 b2 p2 k2 => ?_)
              refine od_W.fin rfl ?_
              exact h1.keep ht k1 (sp_pr_W (tm_al_tp (st_nz hc1 hc2 200 _ hsi.2 hk0).2)) b2 f2 p2
          · rw [if_neg hc]
            exact od_K.out rfl (h.thr 1)
        · exact absurd trivial hc
theorem lt_start (h : dk D M ρ n X R) (m b to : Int32) : od_W 13 68 0 (od_ent 68 [.ref D, .int m, .int b, .int to]) [] (od_cm (dk_S D) M ρ) (dk_o D M (cs_v (cs_start X m b to).1) n (cs_start X m b to).2 R) := by
  have e0 : od_ent 68 [.ref D, .int m, .int b, .int to] = [some (.ref D), some (.int m), some (.int b), some (.int to), none] := rfl
  rw [e0]
  have hS := dk_ss D
  unfold cs_start
  refine od_W.rn (pc' := 2) (ls' := [some (.ref _), some (.int _), some (.int _), some (.int _), none]) (st' := [.int _, .ref _]) 2 rfl ?_
  rcases sl_is (m := 8) (by omega) to with ⟨e1, e2⟩ | ⟨t, ht, rfl, e1⟩
  · rw [e1]
    refine od_rV (as := [.int to]) rfl rfl rfl rfl (h.h0) rfl (Nat.le_of_ble_eq_true rfl) (Nat.le_of_ble_eq_true rfl) (ct_slotX e2) (Nat.le_of_ble_eq_true rfl) (fun o M1 hq => ?_)
    obtain ⟨rfl, rfl⟩ := hq
    exact od_K.out rfl (h.thr 0)
  · rw [e1]
    dsimp only
    refine od_rV (as := [.int (nI t)]) rfl rfl rfl rfl (h.h0) rfl (Nat.le_of_ble_eq_true rfl) (Nat.le_of_ble_eq_true rfl) (ct_slot h ht) (Nat.le_of_ble_eq_true rfl) (fun o M1 hq => ?_)
    obtain ⟨rfl, rfl⟩ := hq
    refine od_K.ret ?_
    refine od_W.rn (pc' := 11) (ls' := [some (.ref _), some (.int _), some (.int _), some (.int _), some (.ref _)]) (st' := [.int _, .int _, .int _]) 4 rfl ?_
    refine od_rSt (as := [.int m, .int 0, .int 1000000000]) rfl rfl rfl rfl (Nat.le_of_ble_eq_true rfl) (Nat.le_of_ble_eq_true rfl) (ct_isWithin m 0 1000000000) (Nat.le_of_ble_eq_true rfl) (fun o M1 hq => ?_)
    obtain ⟨rfl, rfl⟩ := hq
    refine od_K.ret ?_
    refine od_rSt (as := [.int (if 0 ≤ m ∧ m ≤ 1000000000 then 1 else 0)]) rfl rfl rfl rfl (Nat.le_of_ble_eq_true rfl) (Nat.le_of_ble_eq_true rfl) (ct_refuse (0 ≤ m ∧ m ≤ 1000000000) inferInstance) (Nat.le_of_ble_eq_true rfl) (fun o M1 hq => ?_)
    rcases hq with ⟨hc, rfl, rfl⟩ | ⟨hc, rfl, rfl⟩
    · refine od_K.ret ?_
      obtain ⟨c, hc2, rfl⟩ := nI_in0 (n := 1000000000) (by decide) hc
      rw [if_pos hc, nI_clamp (by omega)]
      refine od_W.rn (pc' := 22) (ls' := [some (.ref _), some (.int _), some (.int _), some (.int _), some (.ref _)]) (st' := [.int _, .int _, .int _]) 3 rfl ?_
      refine od_rSt (as := [.int b, .int 2, .int 1000]) rfl rfl rfl rfl (Nat.le_of_ble_eq_true rfl) (Nat.le_of_ble_eq_true rfl) (ct_isWithin b 2 1000) (Nat.le_of_ble_eq_true rfl) (fun o M1 hq => ?_)
      obtain ⟨rfl, rfl⟩ := hq
      refine od_K.ret ?_
      refine od_rSt (as := [.int (if 2 ≤ b ∧ b ≤ 1000 then 1 else 0)]) rfl rfl rfl rfl (Nat.le_of_ble_eq_true rfl) (Nat.le_of_ble_eq_true rfl) (ct_refuse (2 ≤ b ∧ b ≤ 1000) inferInstance) (Nat.le_of_ble_eq_true rfl) (fun o M1 hq => ?_)
      rcases hq with ⟨hb, rfl, rfl⟩ | ⟨hb, rfl, rfl⟩
      · refine od_K.ret ?_
        obtain ⟨g, hg1, hg2, rfl⟩ := nI_in2 (n := 1000) (by decide) (by omega) hb
        rw [if_pos hb, nI_clamp (by omega)]
        refine od_W.rn (pc' := 31) (ls' := [some (.ref _), some (.int _), some (.int _), some (.int _), some (.ref _)]) (st' := [.ref _, .int _, .int _]) 3 rfl ?_
        refine od_rG rfl (h.h0) rfl rfl ?_
        refine od_rSt (as := [.int (nI c), .int (nI g), .ref (D + 3)]) rfl rfl rfl rfl (Nat.le_of_ble_eq_true rfl) (Nat.le_of_ble_eq_true rfl) (lt_makeInBase hS (dk_r3 D) h.2.1 hg1 hg2 hc2) (Nat.le_of_ble_eq_true rfl) (fun o M1 hq => ?_)
        refine od_Re.kq hq rfl (fun ρ1 f1 b1 k1 => ?_) (fun ρ1 f1 b1 p1 k1 => ?_)
        · exact (h.low b1 (fun q hq => f1 q (od_nlt (by simp; omega)))).keepX k1
        · have h1 := h.low b1 (fun q hq => f1 q (od_nlt (by simp; omega)))
          refine od_W.rn (pc' := 40) (ls' := [some (.ref _), some (.int _), some (.int _), some (.int _), some (.ref _)]) (st' := [.ref _, .ref _]) 2 rfl ?_
          refine od_rV (as := [.ref (D + 88 + 2 * t)]) rfl rfl rfl rfl (h1.h0) rfl (Nat.le_of_ble_eq_true rfl) (Nat.le_of_ble_eq_true rfl) (lt_keepResult h1 ht p1) (Nat.le_of_ble_eq_true rfl) (fun o M1 hq => ?_)
          refine od_Re.kq hq rfl (fun ρ1 f1 b1 k1 => absurd trivial k1) (fun ρ2 f2 b2 p2 k2 => ?_)
          refine od_W.fin rfl ?_
          exact h1.keep ht k1 (tm_fl_W (sp_ib_al hg1 (c + 1) c (by omega) k1.2)) b2 f2 p2
      · rw [if_neg hb]
        exact od_K.out rfl (h.thr 1)
    · rw [if_neg hc]
      exact od_K.out rfl (h.thr 1)
theorem lt_value (h : dk D M ρ n X R) (a m : Int32) : od_W 5 73 0 (od_ent 73 [.ref D, .int a, .int m]) [] (od_cm (dk_S D) M ρ) (dk_o D M (cs_v (cs_value X a m)) n X R) := by
  have e0 : od_ent 73 [.ref D, .int a, .int m] = [some (.ref D), some (.int a), some (.int m), none, none, none] := rfl
  rw [e0]
  have hS := dk_ss D
  unfold cs_value
  refine od_W.rn (pc' := 2) (ls' := [some (.ref _), some (.int _), some (.int _), none, none, none]) (st' := [.int _, .ref _]) 2 rfl ?_
  rcases sl_is (m := 8) (by omega) a with ⟨e1, e2⟩ | ⟨i, hi, rfl, e1⟩
  · rw [e1]
    refine od_rV (as := [.int a]) rfl rfl rfl rfl (h.h0) rfl (Nat.le_of_ble_eq_true rfl) (Nat.le_of_ble_eq_true rfl) (ct_slotX e2) (Nat.le_of_ble_eq_true rfl) (fun o M1 hq => ?_)
    obtain ⟨rfl, rfl⟩ := hq
    exact od_K.out rfl (h.thr 0)
  · rw [e1]
    dsimp only
    refine od_rV (as := [.int (nI i)]) rfl rfl rfl rfl (h.h0) rfl (Nat.le_of_ble_eq_true rfl) (Nat.le_of_ble_eq_true rfl) (ct_slot h hi) (Nat.le_of_ble_eq_true rfl) (fun o M1 hq => ?_)
    obtain ⟨rfl, rfl⟩ := hq
    refine od_K.ret ?_
    refine od_W.rn (pc' := 11) (ls' := [some (.ref _), some (.int _), some (.int _), some (.ref _), none, none]) (st' := [.int _, .int _, .int _]) 4 rfl ?_
    refine od_rSt (as := [.int m, .int 0, .int 1000]) rfl rfl rfl rfl (Nat.le_of_ble_eq_true rfl) (Nat.le_of_ble_eq_true rfl) (ct_isWithin m 0 1000) (Nat.le_of_ble_eq_true rfl) (fun o M1 hq => ?_)
    obtain ⟨rfl, rfl⟩ := hq
    refine od_K.ret ?_
    refine od_rSt (as := [.int (if 0 ≤ m ∧ m ≤ 1000 then 1 else 0)]) rfl rfl rfl rfl (Nat.le_of_ble_eq_true rfl) (Nat.le_of_ble_eq_true rfl) (ct_refuse (0 ≤ m ∧ m ≤ 1000) inferInstance) (Nat.le_of_ble_eq_true rfl) (fun o M1 hq => ?_)
    rcases hq with ⟨hc, rfl, rfl⟩ | ⟨hc, rfl, rfl⟩
    · refine od_K.ret ?_
      obtain ⟨c, hc2, rfl⟩ := nI_in0 (n := 1000) (by decide) hc
      rw [if_pos hc, nI_clamp (by omega)]
      have hsi := h.2.2.1 i hi
      have n86 : od_no (dk_S D) (D + 86) := dk_no D rfl rfl
      have n87 : od_no (dk_S D) (D + 86 + 1) := dk_no D (k := 87) rfl rfl
      obtain ⟨d1, d2, d3, d4, d5, d6, d7, d8, d9, d10, ⟨f, d11⟩⟩ := id h.1
      have vB : vl_B = 1000000001 := rfl
      refine od_W.rn (pc' := 18) (ls' := [some (.ref _), some (.int _), some (.int _), some (.ref _), none, none]) (st' := [.ref _]) 1 rfl ?_
      refine od_rG rfl (h.h0) rfl rfl ?_
      refine od_W.rn (pc' := 23) (ls' := [some (.ref _), some (.int _), some (.int _), some (.ref _), none, none]) (st' := [.int _, .ref _, .ref _]) 2 rfl ?_
      refine od_rV (as := [.ref (D + 88 + 2 * i), .int (nI c)]) rfl rfl rfl rfl (od_cm_o n86 d10) rfl (Nat.le_of_ble_eq_true rfl) (Nat.le_of_ble_eq_true rfl) (lt_worth hS (dk_sl D hi) h.2.1 n86 n87 hc2 hsi.2 hsi.1 d10 d11) (Nat.le_of_ble_eq_true rfl) (fun o M1 hq => ?_)
      obtain ⟨M', f', q1, q2, rfl, rfl⟩ := hq
      have h1 : dk D M' ρ n X R := by
        refine ⟨⟨?_, ?_, ?_, ?_, ?_, ?_, ?_, ?_, ?_, ?_, f', q2⟩, h.2⟩
        · exact (q1.2.2 _ (od_n1 (by omega))).trans d1
        · exact ⟨d2.choose, (q1.2.2 _ (od_n1 (by omega))).trans d2.choose_spec.1, d2.choose_spec.2⟩
        · exact ⟨d3.choose, (q1.2.2 _ (od_n1 (by omega))).trans d3.choose_spec.1, d3.choose_spec.2⟩
        · exact (q1.2.2 _ (od_n1 (by omega))).trans d4
        · exact (q1.2.2 _ (od_n1 (by omega))).trans d5
        · exact (q1.2.2 _ (od_n1 (by omega))).trans d6
        · obtain ⟨z1, z2, z3, z4, z5, z6⟩ := d7
          exact ⟨z1, z2, z3, (q1.2.2 _ (od_n1 (by omega))).trans z4, (q1.2.2 _ (od_n1 (by omega))).trans z5, (q1.2.2 _ (od_n1 (by omega))).trans z6⟩
        · exact ⟨⟨d8.1.choose, (q1.2.2 _ (od_n1 (by omega))).trans d8.1.choose_spec.1, d8.1.choose_spec.2⟩, d8.2⟩
        · obtain ⟨z1, z2, z3, z4, z5⟩ := d9
          exact ⟨z1, z2, z3, (q1.2.2 _ (od_n1 (by omega))).trans z4, (q1.2.2 _ (od_n1 (by omega))).trans z5⟩
        · exact (q1.2.2 _ (od_n1 (by omega))).trans d10
      have fin : ∀ v, dk_o D M (.inl v) n X R (.inl v) (od_cm (dk_S D) M' ρ) := fun v => ⟨M', ρ, q1.1, q1.2.1, fun q hq => q1.2.2 q (by simp; omega), h1, rfl, rfl⟩
      refine od_K.ret ?_
      refine od_W.rn (pc' := 34) (ls' := [some (.ref _), some (.int _), some (.int _), some (.ref _), some (.long _), none]) (st' := [.int _]) 4 rfl ?_
      by_cases hv : vl_sc c (X i) [0] ≤ 1000000000
      · rw [if_pos hv]
        have em : min (vl_sc c (X i) [0]) vl_B = vl_sc c (X i) [0] := Nat.min_eq_left (by omega)
        rw [em]
        refine od_r1T rfl rfl ((od_lc_le _ _).trans (decide_eq_true ((pk_lLE (b := 1000000000) (by omega) (by omega)).mpr hv))) ?_
        refine od_W.rn (pc' := 44) (ls' := [some (.ref _), some (.int _), some (.int _), some (.ref _), some (.long _), none]) (st' := [.int _]) 2 rfl ?_
        rw [lN_i]
        refine od_W.fin rfl ?_
        exact fin _
      · rw [if_neg hv]
        have em : min (vl_sc c (X i) [0]) vl_B = vl_B := Nat.min_eq_right (by omega)
        rw [em]
        refine od_r1F rfl (of_decide_eq_true rfl) ((od_lc_le _ _).trans (decide_eq_false (fun z => absurd ((pk_lLE (a := vl_B) (b := 1000000000) (by omega) (by omega)).mp z) (by omega)))) ?_
        refine od_W.rn (pc' := 44) (ls' := [some (.ref _), some (.int _), some (.int _), some (.ref _), some (.long _), none]) (st' := [.int _]) 2 rfl ?_
        refine od_W.fin rfl ?_
        exact fin _
    · rw [if_neg hc]
      exact od_K.out rfl (h.thr 1)
end CALLS2
