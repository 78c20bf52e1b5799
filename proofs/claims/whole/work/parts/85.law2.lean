/-! The law, call by call: the rest. -/
section LAWD
variable {b L D n d i : Nat} {xs : Nat → Int32} {W : od_M} {X R : Nat → List Nat} {Q : od_O → od_M → Prop} {w5 w6 : Option Value}
set_option maxRecDepth 100000 in
theorem la_compare (h : lw b L xs D W n X R d) (hi : i + 5 ≤ L) (hL : L ≤ 2560) (hK : lw_K b L xs D W d i Q) : od_W 60 153 656 (lw_ls b D i w5 w6) [] W Q := by
  have hh := h
  obtain ⟨hb, hs, hc, hr, ⟨f, hf⟩, hW⟩ := hh
  refine od_W.rn (pc' := 662) (ls' := [some (.ref _), some (.ref _), some (.ref _), some (.ref _), some (.int _), _, _]) (st' := [.int _, .ref _, .ref _]) 5 rfl ?_
  refine od_rXL rfl (hs) ((nI_inc i)) (by omega) (by omega) ?_
  refine od_W.rn (pc' := 668) (ls' := [some (.ref _), some (.ref _), some (.ref _), some (.ref _), some (.int _), _, _]) (st' := [.int _, .ref _, .int _, .ref _]) 4 rfl ?_
  refine od_rXL rfl (hs) ((nI_add i 2)) (by omega) (by omega) ?_
  refine od_W.rn (pc' := 670) (ls' := [some (.ref _), some (.ref _), some (.ref _), some (.ref _), some (.int _), _, _]) (st' := [.ref _, .int _, .int _, .ref _]) 1 rfl ?_
  refine od_rSt (as := [.ref D, .int (xs (i + 1)), .int (xs (i + 2)), .ref (D + 136)]) rfl rfl rfl rfl (Nat.le_of_ble_eq_true rfl) (Nat.le_of_ble_eq_true rfl) (wr_compare (f := f) hc (by omega) (by omega) (by omega) hf (xs (i + 1)) (xs (i + 2))) (Nat.le_of_ble_eq_true rfl) (fun o M1 hq => ?_)
  obtain ⟨rfl, c1, k2, c3, c4, c5, f1, c6, c7⟩ := hq
  have k4 : ∃ f, M1.2.2 (D + 136) = some (od_la 1 f) := ⟨f1, c6⟩
  refine od_K.ret ?_
  refine od_W.rn (pc' := 681) (ls' := [some (.ref _), some (.ref _), some (.ref _), some (.ref _), some (.int _), some (.int _), _]) (st' := [.int _, .ref _, .ref _]) 6 rfl ?_
  have hs1 := h.sc k2
  obtain ⟨bb, fu, ρr, e1, e2, e3⟩ := h.rf k2
  have hrc := ref_compare (fu := fu) e2 (xs (i + 1)) (xs (i + 2))
  rw [← e1] at hrc
  refine od_rXL rfl (hs1) ((nI_inc i)) (by omega) (by omega) ?_
  refine od_W.rn (pc' := 687) (ls' := [some (.ref _), some (.ref _), some (.ref _), some (.ref _), some (.int _), some (.int _), _]) (st' := [.int _, .ref _, .int _, .ref _]) 4 rfl ?_
  refine od_rXL rfl (hs1) ((nI_add i 2)) (by omega) (by omega) ?_
  refine od_rV (as := [.int (xs (i + 1)), .int (xs (i + 2))]) rfl rfl rfl rfl (e3) rfl (Nat.le_of_ble_eq_true rfl) (Nat.le_of_ble_eq_true rfl) (hrc) (Nat.le_of_ble_eq_true rfl) (fun o M1 hq => ?_)
  obtain ⟨⟨d2, hd2, r1⟩, r2, r3, r4, u, rfl, hu⟩ := rd_o.w hq
  refine od_K.ret ?_
  refine od_W.rn (pc' := 694) (ls' := [some (.ref _), some (.ref _), some (.ref _), some (.ref _), some (.int _), some (.int _), some (.int _)]) (st' := [.ref _]) 2 rfl ?_
  obtain ⟨b2, fu2, t1, t2⟩ := r1.h0
  have fin := fun w5 w6 => hK _ _ _ _ d2 w5 w6 (h.af c1 k2 (by omega) k4 r1 r2 r3) hd2 (by omega) (by omega)
  refine od_rV (as := []) rfl rfl rfl rfl (t1) rfl (Nat.le_of_ble_eq_true rfl) (Nat.le_of_ble_eq_true rfl) (ct_thrown t1) (Nat.le_of_ble_eq_true rfl) (fun o M1 hq => ?_)
  obtain ⟨rfl, rfl⟩ := hq
  refine od_K.ret ?_
  refine od_W.rn (pc' := 699) (ls' := [some (.ref _), some (.ref _), some (.ref _), some (.ref _), some (.int _), some (.int _), some (.int _)]) (st' := [.int _, .int _]) 1 rfl ?_
  refine od_r2T rfl rfl (decide_eq_true t2) ?_
  refine od_W.rn (pc' := 706) (ls' := [some (.ref _), some (.ref _), some (.ref _), some (.ref _), some (.int _), some (.int _), some (.int _)]) (st' := [.int _]) 1 rfl ?_
  rcases hrr : (cs_compare X (xs (i + 1)) (xs (i + 2))) with v | k
  · rw [hrr] at c7 hu
    refine od_r1F rfl (of_decide_eq_true rfl) (rfl) ?_
    refine od_W.rn (pc' := 711) (ls' := [some (.ref _), some (.ref _), some (.ref _), some (.ref _), some (.int _), some (.int _), some (.int _)]) (st' := [.int _, .ref _]) 2 rfl ?_
    refine od_rLL rfl ((r2 _ (by omega)).trans c6) ((show Int32.ofInt 0 = nI 0 from rfl)) (by omega) (by decide) ?_
    refine od_W.rn (pc' := 716) (ls' := [some (.ref _), some (.ref _), some (.ref _), some (.ref _), some (.int _), some (.int _), some (.int _)]) (st' := [.int _]) 3 rfl ?_
    refine od_r1T rfl rfl ((by rw [c7 v rfl, hu v rfl, lg_cmp_self]; rfl)) ?_
    refine od_W.rn (pc' := 1230) (ls' := [some (.ref _), some (.ref _), some (.ref _), some (.ref _), some (.int _), some (.int _), some (.int _)]) (st' := []) 1 rfl ?_
    exact fin _ _
  · have hk := ki_compare hrr
    have hz : (!decide (nI (cs_code (.inr k)) = 0)) = true := by rcases hk with rfl <;> rfl
    refine od_r1T rfl rfl (hz) ?_
    refine od_W.rn (pc' := 1230) (ls' := [some (.ref _), some (.ref _), some (.ref _), some (.ref _), some (.int _), some (.int _), some (.int _)]) (st' := []) 1 rfl ?_
    exact fin _ _
set_option maxRecDepth 100000 in
theorem la_kind (h : lw b L xs D W n X R d) (hi : i + 5 ≤ L) (hL : L ≤ 2560) (hK : lw_K b L xs D W d i Q) : od_W 60 153 724 (lw_ls b D i w5 w6) [] W Q := by
  have hh := h
  obtain ⟨hb, hs, hc, hr, ⟨f, hf⟩, hW⟩ := hh
  refine od_W.rn (pc' := 730) (ls' := [some (.ref _), some (.ref _), some (.ref _), some (.ref _), some (.int _), _, _]) (st' := [.int _, .ref _, .ref _]) 5 rfl ?_
  refine od_rXL rfl (hs) ((nI_inc i)) (by omega) (by omega) ?_
  refine od_W.rn (pc' := 732) (ls' := [some (.ref _), some (.ref _), some (.ref _), some (.ref _), some (.int _), _, _]) (st' := [.ref _, .int _, .ref _]) 1 rfl ?_
  refine od_rSt (as := [.ref D, .int (xs (i + 1)), .ref (D + 136)]) rfl rfl rfl rfl (Nat.le_of_ble_eq_true rfl) (Nat.le_of_ble_eq_true rfl) (wr_kind (f := f) hc (by omega) (by omega) (by omega) hf (xs (i + 1))) (Nat.le_of_ble_eq_true rfl) (fun o M1 hq => ?_)
  obtain ⟨rfl, c1, k2, c3, c4, c5, f1, c6, c7⟩ := hq
  have k4 : ∃ f, M1.2.2 (D + 136) = some (od_la 1 f) := ⟨f1, c6⟩
  refine od_K.ret ?_
  refine od_W.rn (pc' := 743) (ls' := [some (.ref _), some (.ref _), some (.ref _), some (.ref _), some (.int _), some (.int _), _]) (st' := [.int _, .ref _, .ref _]) 6 rfl ?_
  have hs1 := h.sc k2
  obtain ⟨bb, fu, ρr, e1, e2, e3⟩ := h.rf k2
  have hrc := ref_kind (fu := fu) e2 (xs (i + 1))
  rw [← e1] at hrc
  refine od_rXL rfl (hs1) ((nI_inc i)) (by omega) (by omega) ?_
  refine od_rV (as := [.int (xs (i + 1))]) rfl rfl rfl rfl (e3) rfl (Nat.le_of_ble_eq_true rfl) (Nat.le_of_ble_eq_true rfl) (hrc) (Nat.le_of_ble_eq_true rfl) (fun o M1 hq => ?_)
  obtain ⟨⟨d2, hd2, r1⟩, r2, r3, r4, u, rfl, hu⟩ := rd_o.w hq
  refine od_K.ret ?_
  refine od_W.rn (pc' := 750) (ls' := [some (.ref _), some (.ref _), some (.ref _), some (.ref _), some (.int _), some (.int _), some (.int _)]) (st' := [.ref _]) 2 rfl ?_
  obtain ⟨b2, fu2, t1, t2⟩ := r1.h0
  have fin := fun w5 w6 => hK _ _ _ _ d2 w5 w6 (h.af c1 k2 (by omega) k4 r1 r2 r3) hd2 (by omega) (by omega)
  refine od_rV (as := []) rfl rfl rfl rfl (t1) rfl (Nat.le_of_ble_eq_true rfl) (Nat.le_of_ble_eq_true rfl) (ct_thrown t1) (Nat.le_of_ble_eq_true rfl) (fun o M1 hq => ?_)
  obtain ⟨rfl, rfl⟩ := hq
  refine od_K.ret ?_
  refine od_W.rn (pc' := 755) (ls' := [some (.ref _), some (.ref _), some (.ref _), some (.ref _), some (.int _), some (.int _), some (.int _)]) (st' := [.int _, .int _]) 1 rfl ?_
  refine od_r2T rfl rfl (decide_eq_true t2) ?_
  refine od_W.rn (pc' := 762) (ls' := [some (.ref _), some (.ref _), some (.ref _), some (.ref _), some (.int _), some (.int _), some (.int _)]) (st' := [.int _]) 1 rfl ?_
  rcases hrr : (cs_kind X (xs (i + 1))) with v | k
  · rw [hrr] at c7 hu
    refine od_r1F rfl (of_decide_eq_true rfl) (rfl) ?_
    refine od_W.rn (pc' := 767) (ls' := [some (.ref _), some (.ref _), some (.ref _), some (.ref _), some (.int _), some (.int _), some (.int _)]) (st' := [.int _, .ref _]) 2 rfl ?_
    refine od_rLL rfl ((r2 _ (by omega)).trans c6) ((show Int32.ofInt 0 = nI 0 from rfl)) (by omega) (by decide) ?_
    refine od_W.rn (pc' := 772) (ls' := [some (.ref _), some (.ref _), some (.ref _), some (.ref _), some (.int _), some (.int _), some (.int _)]) (st' := [.int _]) 3 rfl ?_
    refine od_r1T rfl rfl ((by rw [c7 v rfl, hu v rfl, lg_cmp_self]; rfl)) ?_
    refine od_W.rn (pc' := 1230) (ls' := [some (.ref _), some (.ref _), some (.ref _), some (.ref _), some (.int _), some (.int _), some (.int _)]) (st' := []) 1 rfl ?_
    exact fin _ _
  · have hk := ki_kind hrr
    have hz : (!decide (nI (cs_code (.inr k)) = 0)) = true := by rcases hk with rfl <;> rfl
    refine od_r1T rfl rfl (hz) ?_
    refine od_W.rn (pc' := 1230) (ls' := [some (.ref _), some (.ref _), some (.ref _), some (.ref _), some (.int _), some (.int _), some (.int _)]) (st' := []) 1 rfl ?_
    exact fin _ _
set_option maxRecDepth 100000 in
theorem la_size (h : lw b L xs D W n X R d) (hi : i + 5 ≤ L) (hL : L ≤ 2560) (hK : lw_K b L xs D W d i Q) : od_W 60 153 780 (lw_ls b D i w5 w6) [] W Q := by
  have hh := h
  obtain ⟨hb, hs, hc, hr, ⟨f, hf⟩, hW⟩ := hh
  refine od_W.rn (pc' := 786) (ls' := [some (.ref _), some (.ref _), some (.ref _), some (.ref _), some (.int _), _, _]) (st' := [.int _, .ref _, .ref _]) 5 rfl ?_
  refine od_rXL rfl (hs) ((nI_inc i)) (by omega) (by omega) ?_
  refine od_W.rn (pc' := 788) (ls' := [some (.ref _), some (.ref _), some (.ref _), some (.ref _), some (.int _), _, _]) (st' := [.ref _, .int _, .ref _]) 1 rfl ?_
  refine od_rSt (as := [.ref D, .int (xs (i + 1)), .ref (D + 136)]) rfl rfl rfl rfl (Nat.le_of_ble_eq_true rfl) (Nat.le_of_ble_eq_true rfl) (wr_size (f := f) hc (by omega) (by omega) (by omega) hf (xs (i + 1))) (Nat.le_of_ble_eq_true rfl) (fun o M1 hq => ?_)
  obtain ⟨rfl, c1, k2, c3, c4, c5, f1, c6, c7⟩ := hq
  have k4 : ∃ f, M1.2.2 (D + 136) = some (od_la 1 f) := ⟨f1, c6⟩
  refine od_K.ret ?_
  refine od_W.rn (pc' := 799) (ls' := [some (.ref _), some (.ref _), some (.ref _), some (.ref _), some (.int _), some (.int _), _]) (st' := [.int _, .ref _, .ref _]) 6 rfl ?_
  have hs1 := h.sc k2
  obtain ⟨bb, fu, ρr, e1, e2, e3⟩ := h.rf k2
  have hrc := ref_size (fu := fu) e2 (xs (i + 1))
  rw [← e1] at hrc
  refine od_rXL rfl (hs1) ((nI_inc i)) (by omega) (by omega) ?_
  refine od_rV (as := [.int (xs (i + 1))]) rfl rfl rfl rfl (e3) rfl (Nat.le_of_ble_eq_true rfl) (Nat.le_of_ble_eq_true rfl) (hrc) (Nat.le_of_ble_eq_true rfl) (fun o M1 hq => ?_)
  obtain ⟨⟨d2, hd2, r1⟩, r2, r3, r4, u, rfl, hu⟩ := rd_o.w hq
  refine od_K.ret ?_
  refine od_W.rn (pc' := 806) (ls' := [some (.ref _), some (.ref _), some (.ref _), some (.ref _), some (.int _), some (.int _), some (.int _)]) (st' := [.ref _]) 2 rfl ?_
  obtain ⟨b2, fu2, t1, t2⟩ := r1.h0
  have fin := fun w5 w6 => hK _ _ _ _ d2 w5 w6 (h.af c1 k2 (by omega) k4 r1 r2 r3) hd2 (by omega) (by omega)
  refine od_rV (as := []) rfl rfl rfl rfl (t1) rfl (Nat.le_of_ble_eq_true rfl) (Nat.le_of_ble_eq_true rfl) (ct_thrown t1) (Nat.le_of_ble_eq_true rfl) (fun o M1 hq => ?_)
  obtain ⟨rfl, rfl⟩ := hq
  refine od_K.ret ?_
  refine od_W.rn (pc' := 811) (ls' := [some (.ref _), some (.ref _), some (.ref _), some (.ref _), some (.int _), some (.int _), some (.int _)]) (st' := [.int _, .int _]) 1 rfl ?_
  refine od_r2T rfl rfl (decide_eq_true t2) ?_
  refine od_W.rn (pc' := 818) (ls' := [some (.ref _), some (.ref _), some (.ref _), some (.ref _), some (.int _), some (.int _), some (.int _)]) (st' := [.int _]) 1 rfl ?_
  rcases hrr : (cs_size X (xs (i + 1))) with v | k
  · rw [hrr] at c7 hu
    refine od_r1F rfl (of_decide_eq_true rfl) (rfl) ?_
    refine od_W.rn (pc' := 823) (ls' := [some (.ref _), some (.ref _), some (.ref _), some (.ref _), some (.int _), some (.int _), some (.int _)]) (st' := [.int _, .ref _]) 2 rfl ?_
    refine od_rLL rfl ((r2 _ (by omega)).trans c6) ((show Int32.ofInt 0 = nI 0 from rfl)) (by omega) (by decide) ?_
    refine od_W.rn (pc' := 828) (ls' := [some (.ref _), some (.ref _), some (.ref _), some (.ref _), some (.int _), some (.int _), some (.int _)]) (st' := [.int _]) 3 rfl ?_
    refine od_r1T rfl rfl ((by rw [c7 v rfl, hu v rfl, lg_cmp_self]; rfl)) ?_
    refine od_W.rn (pc' := 1230) (ls' := [some (.ref _), some (.ref _), some (.ref _), some (.ref _), some (.int _), some (.int _), some (.int _)]) (st' := []) 1 rfl ?_
    exact fin _ _
  · have hk := ki_size hrr
    have hz : (!decide (nI (cs_code (.inr k)) = 0)) = true := by rcases hk with rfl <;> rfl
    refine od_r1T rfl rfl (hz) ?_
    refine od_W.rn (pc' := 1230) (ls' := [some (.ref _), some (.ref _), some (.ref _), some (.ref _), some (.int _), some (.int _), some (.int _)]) (st' := []) 1 rfl ?_
    exact fin _ _
set_option maxRecDepth 100000 in
theorem la_at (h : lw b L xs D W n X R d) (hi : i + 5 ≤ L) (hL : L ≤ 2560) (hK : lw_K b L xs D W d i Q) : od_W 60 153 836 (lw_ls b D i w5 w6) [] W Q := by
  have hh := h
  obtain ⟨hb, hs, hc, hr, ⟨f, hf⟩, hW⟩ := hh
  refine od_W.rn (pc' := 842) (ls' := [some (.ref _), some (.ref _), some (.ref _), some (.ref _), some (.int _), _, _]) (st' := [.int _, .ref _, .ref _]) 5 rfl ?_
  refine od_rXL rfl (hs) ((nI_inc i)) (by omega) (by omega) ?_
  refine od_W.rn (pc' := 848) (ls' := [some (.ref _), some (.ref _), some (.ref _), some (.ref _), some (.int _), _, _]) (st' := [.int _, .ref _, .int _, .ref _]) 4 rfl ?_
  refine od_rXL rfl (hs) ((nI_add i 2)) (by omega) (by omega) ?_
  refine od_W.rn (pc' := 850) (ls' := [some (.ref _), some (.ref _), some (.ref _), some (.ref _), some (.int _), _, _]) (st' := [.ref _, .int _, .int _, .ref _]) 1 rfl ?_
  refine od_rSt (as := [.ref D, .int (xs (i + 1)), .int (xs (i + 2)), .ref (D + 136)]) rfl rfl rfl rfl (Nat.le_of_ble_eq_true rfl) (Nat.le_of_ble_eq_true rfl) (wr_at (f := f) hc (by omega) (by omega) (by omega) hf (xs (i + 1)) (xs (i + 2))) (Nat.le_of_ble_eq_true rfl) (fun o M1 hq => ?_)
  obtain ⟨rfl, c1, k2, c3, c4, c5, f1, c6, c7⟩ := hq
  have k4 : ∃ f, M1.2.2 (D + 136) = some (od_la 1 f) := ⟨f1, c6⟩
  refine od_K.ret ?_
  refine od_W.rn (pc' := 861) (ls' := [some (.ref _), some (.ref _), some (.ref _), some (.ref _), some (.int _), some (.int _), _]) (st' := [.int _, .ref _, .ref _]) 6 rfl ?_
  have hs1 := h.sc k2
  obtain ⟨bb, fu, ρr, e1, e2, e3⟩ := h.rf k2
  have hrc := ref_at (fu := fu) e2 (xs (i + 1)) (xs (i + 2))
  rw [← e1] at hrc
  refine od_rXL rfl (hs1) ((nI_inc i)) (by omega) (by omega) ?_
  refine od_W.rn (pc' := 867) (ls' := [some (.ref _), some (.ref _), some (.ref _), some (.ref _), some (.int _), some (.int _), _]) (st' := [.int _, .ref _, .int _, .ref _]) 4 rfl ?_
  refine od_rXL rfl (hs1) ((nI_add i 2)) (by omega) (by omega) ?_
  refine od_rV (as := [.int (xs (i + 1)), .int (xs (i + 2))]) rfl rfl rfl rfl (e3) rfl (Nat.le_of_ble_eq_true rfl) (Nat.le_of_ble_eq_true rfl) (hrc) (Nat.le_of_ble_eq_true rfl) (fun o M1 hq => ?_)
  obtain ⟨⟨d2, hd2, r1⟩, r2, r3, r4, u, rfl, hu⟩ := rd_o.w hq
  refine od_K.ret ?_
  refine od_W.rn (pc' := 874) (ls' := [some (.ref _), some (.ref _), some (.ref _), some (.ref _), some (.int _), some (.int _), some (.int _)]) (st' := [.ref _]) 2 rfl ?_
  obtain ⟨b2, fu2, t1, t2⟩ := r1.h0
  have fin := fun w5 w6 => hK _ _ _ _ d2 w5 w6 (h.af c1 k2 (by omega) k4 r1 r2 r3) hd2 (by omega) (by omega)
  refine od_rV (as := []) rfl rfl rfl rfl (t1) rfl (Nat.le_of_ble_eq_true rfl) (Nat.le_of_ble_eq_true rfl) (ct_thrown t1) (Nat.le_of_ble_eq_true rfl) (fun o M1 hq => ?_)
  obtain ⟨rfl, rfl⟩ := hq
  refine od_K.ret ?_
  refine od_W.rn (pc' := 879) (ls' := [some (.ref _), some (.ref _), some (.ref _), some (.ref _), some (.int _), some (.int _), some (.int _)]) (st' := [.int _, .int _]) 1 rfl ?_
  refine od_r2T rfl rfl (decide_eq_true t2) ?_
  refine od_W.rn (pc' := 886) (ls' := [some (.ref _), some (.ref _), some (.ref _), some (.ref _), some (.int _), some (.int _), some (.int _)]) (st' := [.int _]) 1 rfl ?_
  rcases hrr : (cs_at X (xs (i + 1)) (xs (i + 2))) with v | k
  · rw [hrr] at c7 hu
    refine od_r1F rfl (of_decide_eq_true rfl) (rfl) ?_
    refine od_W.rn (pc' := 891) (ls' := [some (.ref _), some (.ref _), some (.ref _), some (.ref _), some (.int _), some (.int _), some (.int _)]) (st' := [.int _, .ref _]) 2 rfl ?_
    refine od_rLL rfl ((r2 _ (by omega)).trans c6) ((show Int32.ofInt 0 = nI 0 from rfl)) (by omega) (by decide) ?_
    refine od_W.rn (pc' := 896) (ls' := [some (.ref _), some (.ref _), some (.ref _), some (.ref _), some (.int _), some (.int _), some (.int _)]) (st' := [.int _]) 3 rfl ?_
    refine od_r1T rfl rfl ((by rw [c7 v rfl, hu v rfl, lg_cmp_self]; rfl)) ?_
    refine od_W.rn (pc' := 1230) (ls' := [some (.ref _), some (.ref _), some (.ref _), some (.ref _), some (.int _), some (.int _), some (.int _)]) (st' := []) 1 rfl ?_
    exact fin _ _
  · have hk := ki_at hrr
    have hz : (!decide (nI (cs_code (.inr k)) = 0)) = true := by rcases hk with rfl <;> rfl
    refine od_r1T rfl rfl (hz) ?_
    refine od_W.rn (pc' := 1230) (ls' := [some (.ref _), some (.ref _), some (.ref _), some (.ref _), some (.int _), some (.int _), some (.int _)]) (st' := []) 1 rfl ?_
    exact fin _ _
set_option maxRecDepth 100000 in
theorem la_value (h : lw b L xs D W n X R d) (hi : i + 5 ≤ L) (hL : L ≤ 2560) (hK : lw_K b L xs D W d i Q) : od_W 60 153 904 (lw_ls b D i w5 w6) [] W Q := by
  have hh := h
  obtain ⟨hb, hs, hc, hr, ⟨f, hf⟩, hW⟩ := hh
  refine od_W.rn (pc' := 910) (ls' := [some (.ref _), some (.ref _), some (.ref _), some (.ref _), some (.int _), _, _]) (st' := [.int _, .ref _, .ref _]) 5 rfl ?_
  refine od_rXL rfl (hs) ((nI_inc i)) (by omega) (by omega) ?_
  refine od_W.rn (pc' := 916) (ls' := [some (.ref _), some (.ref _), some (.ref _), some (.ref _), some (.int _), _, _]) (st' := [.int _, .ref _, .int _, .ref _]) 4 rfl ?_
  refine od_rXL rfl (hs) ((nI_add i 2)) (by omega) (by omega) ?_
  refine od_W.rn (pc' := 918) (ls' := [some (.ref _), some (.ref _), some (.ref _), some (.ref _), some (.int _), _, _]) (st' := [.ref _, .int _, .int _, .ref _]) 1 rfl ?_
  refine od_rSt (as := [.ref D, .int (xs (i + 1)), .int (xs (i + 2)), .ref (D + 136)]) rfl rfl rfl rfl (Nat.le_of_ble_eq_true rfl) (Nat.le_of_ble_eq_true rfl) (wr_value (f := f) hc (by omega) (by omega) (by omega) hf (xs (i + 1)) (xs (i + 2))) (Nat.le_of_ble_eq_true rfl) (fun o M1 hq => ?_)
  obtain ⟨rfl, c1, k2, c3, c4, c5, f1, c6, c7⟩ := hq
  have k4 : ∃ f, M1.2.2 (D + 136) = some (od_la 1 f) := ⟨f1, c6⟩
  refine od_K.ret ?_
  refine od_W.rn (pc' := 929) (ls' := [some (.ref _), some (.ref _), some (.ref _), some (.ref _), some (.int _), some (.int _), _]) (st' := [.int _, .ref _, .ref _]) 6 rfl ?_
  have hs1 := h.sc k2
  obtain ⟨bb, fu, ρr, e1, e2, e3⟩ := h.rf k2
  have hrc := ref_value (fu := fu) e2 (xs (i + 1)) (xs (i + 2))
  rw [← e1] at hrc
  refine od_rXL rfl (hs1) ((nI_inc i)) (by omega) (by omega) ?_
  refine od_W.rn (pc' := 935) (ls' := [some (.ref _), some (.ref _), some (.ref _), some (.ref _), some (.int _), some (.int _), _]) (st' := [.int _, .ref _, .int _, .ref _]) 4 rfl ?_
  refine od_rXL rfl (hs1) ((nI_add i 2)) (by omega) (by omega) ?_
  refine od_rV (as := [.int (xs (i + 1)), .int (xs (i + 2))]) rfl rfl rfl rfl (e3) rfl (Nat.le_of_ble_eq_true rfl) (Nat.le_of_ble_eq_true rfl) (hrc) (Nat.le_of_ble_eq_true rfl) (fun o M1 hq => ?_)
  obtain ⟨⟨d2, hd2, r1⟩, r2, r3, r4, u, rfl, hu⟩ := rd_o.w hq
  refine od_K.ret ?_
  refine od_W.rn (pc' := 942) (ls' := [some (.ref _), some (.ref _), some (.ref _), some (.ref _), some (.int _), some (.int _), some (.int _)]) (st' := [.ref _]) 2 rfl ?_
  obtain ⟨b2, fu2, t1, t2⟩ := r1.h0
  have fin := fun w5 w6 => hK _ _ _ _ d2 w5 w6 (h.af c1 k2 (by omega) k4 r1 r2 r3) hd2 (by omega) (by omega)
  refine od_rV (as := []) rfl rfl rfl rfl (t1) rfl (Nat.le_of_ble_eq_true rfl) (Nat.le_of_ble_eq_true rfl) (ct_thrown t1) (Nat.le_of_ble_eq_true rfl) (fun o M1 hq => ?_)
  obtain ⟨rfl, rfl⟩ := hq
  refine od_K.ret ?_
  refine od_W.rn (pc' := 947) (ls' := [some (.ref _), some (.ref _), some (.ref _), some (.ref _), some (.int _), some (.int _), some (.int _)]) (st' := [.int _, .int _]) 1 rfl ?_
  refine od_r2T rfl rfl (decide_eq_true t2) ?_
  refine od_W.rn (pc' := 954) (ls' := [some (.ref _), some (.ref _), some (.ref _), some (.ref _), some (.int _), some (.int _), some (.int _)]) (st' := [.int _]) 1 rfl ?_
  rcases hrr : (cs_value X (xs (i + 1)) (xs (i + 2))) with v | k
  · rw [hrr] at c7 hu
    refine od_r1F rfl (of_decide_eq_true rfl) (rfl) ?_
    refine od_W.rn (pc' := 959) (ls' := [some (.ref _), some (.ref _), some (.ref _), some (.ref _), some (.int _), some (.int _), some (.int _)]) (st' := [.int _, .ref _]) 2 rfl ?_
    refine od_rLL rfl ((r2 _ (by omega)).trans c6) ((show Int32.ofInt 0 = nI 0 from rfl)) (by omega) (by decide) ?_
    refine od_W.rn (pc' := 964) (ls' := [some (.ref _), some (.ref _), some (.ref _), some (.ref _), some (.int _), some (.int _), some (.int _)]) (st' := [.int _]) 3 rfl ?_
    refine od_r1T rfl rfl ((by rw [c7 v rfl, hu v rfl, lg_cmp_self]; rfl)) ?_
    refine od_W.rn (pc' := 1230) (ls' := [some (.ref _), some (.ref _), some (.ref _), some (.ref _), some (.int _), some (.int _), some (.int _)]) (st' := []) 1 rfl ?_
    exact fin _ _
  · have hk := ki_value hrr
    have hz : (!decide (nI (cs_code (.inr k)) = 0)) = true := by rcases hk with rfl | rfl <;> rfl
    refine od_r1T rfl rfl (hz) ?_
    refine od_W.rn (pc' := 1230) (ls' := [some (.ref _), some (.ref _), some (.ref _), some (.ref _), some (.int _), some (.int _), some (.int _)]) (st' := []) 1 rfl ?_
    exact fin _ _
set_option maxRecDepth 100000 in
theorem la_fast (h : lw b L xs D W n X R d) (hi : i + 5 ≤ L) (hL : L ≤ 2560) (hK : lw_K b L xs D W d i Q) : od_W 60 153 972 (lw_ls b D i w5 w6) [] W Q := by
  have hh := h
  obtain ⟨hb, hs, hc, hr, ⟨f, hf⟩, hW⟩ := hh
  refine od_W.rn (pc' := 978) (ls' := [some (.ref _), some (.ref _), some (.ref _), some (.ref _), some (.int _), _, _]) (st' := [.int _, .ref _, .ref _]) 5 rfl ?_
  refine od_rXL rfl (hs) ((nI_inc i)) (by omega) (by omega) ?_
  refine od_W.rn (pc' := 984) (ls' := [some (.ref _), some (.ref _), some (.ref _), some (.ref _), some (.int _), _, _]) (st' := [.int _, .ref _, .int _, .ref _]) 4 rfl ?_
  refine od_rXL rfl (hs) ((nI_add i 2)) (by omega) (by omega) ?_
  refine od_W.rn (pc' := 990) (ls' := [some (.ref _), some (.ref _), some (.ref _), some (.ref _), some (.int _), _, _]) (st' := [.int _, .ref _, .int _, .int _, .ref _]) 4 rfl ?_
  refine od_rXL rfl (hs) ((nI_add i 3)) (by omega) (by omega) ?_
  refine od_W.rn (pc' := 992) (ls' := [some (.ref _), some (.ref _), some (.ref _), some (.ref _), some (.int _), _, _]) (st' := [.ref _, .int _, .int _, .int _, .ref _]) 1 rfl ?_
  refine od_rSt (as := [.ref D, .int (xs (i + 1)), .int (xs (i + 2)), .int (xs (i + 3)), .ref (D + 136)]) rfl rfl rfl rfl (Nat.le_of_ble_eq_true rfl) (Nat.le_of_ble_eq_true rfl) (wr_fast (f := f) hc (by omega) (by omega) (by omega) hf (xs (i + 1)) (xs (i + 2)) (xs (i + 3))) (Nat.le_of_ble_eq_true rfl) (fun o M1 hq => ?_)
  obtain ⟨rfl, c1, k2, c3, c4, c5, f1, c6, c7⟩ := hq
  have k4 : ∃ f, M1.2.2 (D + 136) = some (od_la 1 f) := ⟨f1, c6⟩
  refine od_K.ret ?_
  refine od_W.rn (pc' := 1003) (ls' := [some (.ref _), some (.ref _), some (.ref _), some (.ref _), some (.int _), some (.int _), _]) (st' := [.int _, .ref _, .ref _]) 6 rfl ?_
  have hs1 := h.sc k2
  obtain ⟨bb, fu, ρr, e1, e2, e3⟩ := h.rf k2
  have hrc := ref_fast (fu := fu) e2 (xs (i + 1)) (xs (i + 2)) (xs (i + 3))
  rw [← e1] at hrc
  refine od_rXL rfl (hs1) ((nI_inc i)) (by omega) (by omega) ?_
  refine od_W.rn (pc' := 1009) (ls' := [some (.ref _), some (.ref _), some (.ref _), some (.ref _), some (.int _), some (.int _), _]) (st' := [.int _, .ref _, .int _, .ref _]) 4 rfl ?_
  refine od_rXL rfl (hs1) ((nI_add i 2)) (by omega) (by omega) ?_
  refine od_W.rn (pc' := 1015) (ls' := [some (.ref _), some (.ref _), some (.ref _), some (.ref _), some (.int _), some (.int _), _]) (st' := [.int _, .ref _, .int _, .int _, .ref _]) 4 rfl ?_
  refine od_rXL rfl (hs1) ((nI_add i 3)) (by omega) (by omega) ?_
  refine od_rV (as := [.int (xs (i + 1)), .int (xs (i + 2)), .int (xs (i + 3))]) rfl rfl rfl rfl (e3) rfl (Nat.le_of_ble_eq_true rfl) (Nat.le_of_ble_eq_true rfl) (hrc) (Nat.le_of_ble_eq_true rfl) (fun o M1 hq => ?_)
  obtain ⟨⟨d2, hd2, r1⟩, r2, r3, r4, u, rfl, hu⟩ := rd_o.w hq
  refine od_K.ret ?_
  refine od_W.rn (pc' := 1022) (ls' := [some (.ref _), some (.ref _), some (.ref _), some (.ref _), some (.int _), some (.int _), some (.int _)]) (st' := [.ref _]) 2 rfl ?_
  obtain ⟨b2, fu2, t1, t2⟩ := r1.h0
  have fin := fun w5 w6 => hK _ _ _ _ d2 w5 w6 (h.af c1 k2 (by omega) k4 r1 r2 r3) hd2 (by omega) (by omega)
  refine od_rV (as := []) rfl rfl rfl rfl (t1) rfl (Nat.le_of_ble_eq_true rfl) (Nat.le_of_ble_eq_true rfl) (ct_thrown t1) (Nat.le_of_ble_eq_true rfl) (fun o M1 hq => ?_)
  obtain ⟨rfl, rfl⟩ := hq
  refine od_K.ret ?_
  refine od_W.rn (pc' := 1027) (ls' := [some (.ref _), some (.ref _), some (.ref _), some (.ref _), some (.int _), some (.int _), some (.int _)]) (st' := [.int _, .int _]) 1 rfl ?_
  refine od_r2T rfl rfl (decide_eq_true t2) ?_
  refine od_W.rn (pc' := 1034) (ls' := [some (.ref _), some (.ref _), some (.ref _), some (.ref _), some (.int _), some (.int _), some (.int _)]) (st' := [.int _]) 1 rfl ?_
  rcases hrr : (cs_fast X (xs (i + 1)) (xs (i + 2)) (xs (i + 3))) with v | k
  · rw [hrr] at c7 hu
    refine od_r1F rfl (of_decide_eq_true rfl) (rfl) ?_
    refine od_W.rn (pc' := 1039) (ls' := [some (.ref _), some (.ref _), some (.ref _), some (.ref _), some (.int _), some (.int _), some (.int _)]) (st' := [.int _, .ref _]) 2 rfl ?_
    refine od_rLL rfl ((r2 _ (by omega)).trans c6) ((show Int32.ofInt 0 = nI 0 from rfl)) (by omega) (by decide) ?_
    refine od_W.rn (pc' := 1044) (ls' := [some (.ref _), some (.ref _), some (.ref _), some (.ref _), some (.int _), some (.int _), some (.int _)]) (st' := [.int _]) 3 rfl ?_
    refine od_r1T rfl rfl ((by rw [c7 v rfl, hu v rfl, lg_cmp_self]; rfl)) ?_
    refine od_W.rn (pc' := 1230) (ls' := [some (.ref _), some (.ref _), some (.ref _), some (.ref _), some (.int _), some (.int _), some (.int _)]) (st' := []) 1 rfl ?_
    exact fin _ _
  · have hk := ki_fast hrr
    have hz : (!decide (nI (cs_code (.inr k)) = 0)) = true := by rcases hk with rfl | rfl | rfl <;> rfl
    refine od_r1T rfl rfl (hz) ?_
    refine od_W.rn (pc' := 1230) (ls' := [some (.ref _), some (.ref _), some (.ref _), some (.ref _), some (.int _), some (.int _), some (.int _)]) (st' := []) 1 rfl ?_
    exact fin _ _
set_option maxRecDepth 100000 in
theorem la_record (h : lw b L xs D W n X R d) (hi : i + 5 ≤ L) (hL : L ≤ 2560) (hK : lw_K b L xs D W d i Q) : od_W 60 153 1052 (lw_ls b D i w5 w6) [] W Q := by
  have hh := h
  obtain ⟨hb, hs, hc, hr, ⟨f, hf⟩, hW⟩ := hh
  refine od_W.rn (pc' := 1058) (ls' := [some (.ref _), some (.ref _), some (.ref _), some (.ref _), some (.int _), _, _]) (st' := [.int _, .ref _, .ref _]) 5 rfl ?_
  refine od_rXL rfl (hs) ((nI_inc i)) (by omega) (by omega) ?_
  refine od_W.rn (pc' := 1060) (ls' := [some (.ref _), some (.ref _), some (.ref _), some (.ref _), some (.int _), _, _]) (st' := [.ref _, .int _, .ref _]) 1 rfl ?_
  refine od_rSt (as := [.ref D, .int (xs (i + 1)), .ref (D + 136)]) rfl rfl rfl rfl (Nat.le_of_ble_eq_true rfl) (Nat.le_of_ble_eq_true rfl) (wr_record (f := f) hc (by omega) (by omega) (by omega) hf (xs (i + 1))) (Nat.le_of_ble_eq_true rfl) (fun o M1 hq => ?_)
  obtain ⟨rfl, c1, k2, c3, c4, c5, f1, c6, c7⟩ := hq
  have k4 : ∃ f, M1.2.2 (D + 136) = some (od_la 1 f) := ⟨f1, c6⟩
  refine od_K.ret ?_
  refine od_W.rn (pc' := 1071) (ls' := [some (.ref _), some (.ref _), some (.ref _), some (.ref _), some (.int _), some (.int _), _]) (st' := [.int _, .ref _, .ref _]) 6 rfl ?_
  have hs1 := h.sc k2
  obtain ⟨bb, fu, ρr, e1, e2, e3⟩ := h.rf k2
  have hrc := ref_record (fu := fu) e2 (xs (i + 1))
  rw [← e1] at hrc
  refine od_rXL rfl (hs1) ((nI_inc i)) (by omega) (by omega) ?_
  refine od_rV (as := [.int (xs (i + 1))]) rfl rfl rfl rfl (e3) rfl (Nat.le_of_ble_eq_true rfl) (Nat.le_of_ble_eq_true rfl) (hrc) (Nat.le_of_ble_eq_true rfl) (fun o M1 hq => ?_)
  obtain ⟨⟨d2, hd2, r1⟩, r2, r3, r4, u, rfl, hu⟩ := rd_o.w hq
  refine od_K.ret ?_
  refine od_W.rn (pc' := 1078) (ls' := [some (.ref _), some (.ref _), some (.ref _), some (.ref _), some (.int _), some (.int _), some (.int _)]) (st' := [.ref _]) 2 rfl ?_
  obtain ⟨b2, fu2, t1, t2⟩ := r1.h0
  have fin := fun w5 w6 => hK _ _ _ _ d2 w5 w6 (h.af c1 k2 (by omega) k4 r1 r2 r3) hd2 (by omega) (by omega)
  refine od_rV (as := []) rfl rfl rfl rfl (t1) rfl (Nat.le_of_ble_eq_true rfl) (Nat.le_of_ble_eq_true rfl) (ct_thrown t1) (Nat.le_of_ble_eq_true rfl) (fun o M1 hq => ?_)
  obtain ⟨rfl, rfl⟩ := hq
  refine od_K.ret ?_
  refine od_W.rn (pc' := 1083) (ls' := [some (.ref _), some (.ref _), some (.ref _), some (.ref _), some (.int _), some (.int _), some (.int _)]) (st' := [.int _, .int _]) 1 rfl ?_
  refine od_r2T rfl rfl (decide_eq_true t2) ?_
  refine od_W.rn (pc' := 1090) (ls' := [some (.ref _), some (.ref _), some (.ref _), some (.ref _), some (.int _), some (.int _), some (.int _)]) (st' := [.int _]) 1 rfl ?_
  rcases hrr : (cs_record n X R (xs (i + 1))).1 with v | k
  · rw [hrr] at c7 hu
    refine od_r1F rfl (of_decide_eq_true rfl) (rfl) ?_
    refine od_W.rn (pc' := 1095) (ls' := [some (.ref _), some (.ref _), some (.ref _), some (.ref _), some (.int _), some (.int _), some (.int _)]) (st' := [.int _, .ref _]) 2 rfl ?_
    refine od_rLL rfl ((r2 _ (by omega)).trans c6) ((show Int32.ofInt 0 = nI 0 from rfl)) (by omega) (by decide) ?_
    refine od_W.rn (pc' := 1100) (ls' := [some (.ref _), some (.ref _), some (.ref _), some (.ref _), some (.int _), some (.int _), some (.int _)]) (st' := [.int _]) 3 rfl ?_
    refine od_r1T rfl rfl ((by rw [c7 v rfl, hu v rfl, lg_cmp_self]; rfl)) ?_
    refine od_W.rn (pc' := 1230) (ls' := [some (.ref _), some (.ref _), some (.ref _), some (.ref _), some (.int _), some (.int _), some (.int _)]) (st' := []) 1 rfl ?_
    exact fin _ _
  · have hk := ki_record hrr
    have hz : (!decide (nI (cs_rcode (.inr k)) = 0)) = true := by rcases hk with rfl | rfl <;> rfl
    refine od_r1T rfl rfl (hz) ?_
    refine od_W.rn (pc' := 1230) (ls' := [some (.ref _), some (.ref _), some (.ref _), some (.ref _), some (.int _), some (.int _), some (.int _)]) (st' := []) 1 rfl ?_
    exact fin _ _
set_option maxRecDepth 100000 in
theorem la_rise (h : lw b L xs D W n X R d) (hi : i + 5 ≤ L) (hL : L ≤ 2560) (hK : lw_K b L xs D W d i Q) : od_W 60 153 1108 (lw_ls b D i w5 w6) [] W Q := by
  have hh := h
  obtain ⟨hb, hs, hc, hr, ⟨f, hf⟩, hW⟩ := hh
  have h0 := hc.h0
  obtain ⟨ρ, g1, g2⟩ := hc
  have hcc := lt_rise g2
  rw [← g1] at hcc
  refine od_W.rn (pc' := 1109) (ls' := [some (.ref _), some (.ref _), some (.ref _), some (.ref _), some (.int _), _, _]) (st' := [.ref _]) 1 rfl ?_
  refine od_rV (as := []) rfl rfl rfl rfl (h0) rfl (Nat.le_of_ble_eq_true rfl) (Nat.le_of_ble_eq_true rfl) (hcc) (Nat.le_of_ble_eq_true rfl) (fun o M1 hq => ?_)
  obtain ⟨c1, c2, rfl, c3, c4⟩ := dk_o.w (by omega) hq
  have k2 : ∀ a, a < D ∨ D + 128 ≤ a → a ≠ W.1 → a ≠ D + 136 → M1.2.2 a = W.2.2 a := fun a ha n1 _ => c2 a ha n1
  refine od_K.ret ?_
  obtain ⟨bb, fu, ρr, e1, e2, e3⟩ := h.rf k2
  have hrc := ref_rise (fu := fu) e2
  rw [← e1] at hrc
  refine od_W.rn (pc' := 1113) (ls' := [some (.ref _), some (.ref _), some (.ref _), some (.ref _), some (.int _), _, _]) (st' := [.ref _, .int _]) 1 rfl ?_
  refine od_rV (as := []) rfl rfl rfl rfl (e3) rfl (Nat.le_of_ble_eq_true rfl) (Nat.le_of_ble_eq_true rfl) (hrc) (Nat.le_of_ble_eq_true rfl) (fun o M1 hq => ?_)
  obtain ⟨⟨d', hd', r1⟩, r2, r3, r4, rfl⟩ := rd_o.w hq
  refine od_K.ret ?_
  refine od_r2T rfl rfl (decide_eq_true rfl) ?_
  exact hK _ _ _ _ d' _ _ (h.af c1 k2 (by omega) ⟨f, (c2 _ (by omega) (by omega)).trans hf⟩ r1 r2 r3) hd' (by omega) (by omega)
set_option maxRecDepth 100000 in
theorem la_replace (h : lw b L xs D W n X R d) (hi : i + 5 ≤ L) (hL : L ≤ 2560) (hK : lw_K b L xs D W d i Q) : od_W 60 153 1121 (lw_ls b D i w5 w6) [] W Q := by
  have hh := h
  obtain ⟨hb, hs, hc, hr, ⟨f, hf⟩, hW⟩ := hh
  refine od_W.rn (pc' := 1127) (ls' := [some (.ref _), some (.ref _), some (.ref _), some (.ref _), some (.int _), _, _]) (st' := [.int _, .ref _, .ref _]) 5 rfl ?_
  refine od_rXL rfl (hs) ((nI_inc i)) (by omega) (by omega) ?_
  refine od_W.rn (pc' := 1133) (ls' := [some (.ref _), some (.ref _), some (.ref _), some (.ref _), some (.int _), _, _]) (st' := [.int _, .ref _, .int _, .ref _]) 4 rfl ?_
  refine od_rXL rfl (hs) ((nI_add i 2)) (by omega) (by omega) ?_
  refine od_rSt (as := [.ref D, .int (xs (i + 1)), .int (xs (i + 2))]) rfl rfl rfl rfl (Nat.le_of_ble_eq_true rfl) (Nat.le_of_ble_eq_true rfl) (wr_replace hc (by omega) (xs (i + 1)) (xs (i + 2))) (Nat.le_of_ble_eq_true rfl) (fun o M1 hq => ?_)
  obtain ⟨rfl, c1, c2, c3, c4, c5⟩ := hq
  have k2 : ∀ a, a < D ∨ D + 128 ≤ a → a ≠ W.1 → a ≠ D + 136 → M1.2.2 a = W.2.2 a := fun a ha n1 _ => c2 a ha n1
  have k4 : ∃ f, M1.2.2 (D + 136) = some (od_la 1 f) := ⟨f, (c2 _ (by omega) (by omega)).trans hf⟩
  refine od_K.ret ?_
  refine od_W.rn (pc' := 1145) (ls' := [some (.ref _), some (.ref _), some (.ref _), some (.ref _), some (.int _), some (.int _), _]) (st' := [.int _, .ref _, .ref _]) 6 rfl ?_
  have hs1 := h.sc k2
  obtain ⟨bb, fu, ρr, e1, e2, e3⟩ := h.rf k2
  have hrc := ref_replace (fu := fu) e2 (xs (i + 1)) (xs (i + 2))
  rw [← e1] at hrc
  refine od_rXL rfl (hs1) ((nI_inc i)) (by omega) (by omega) ?_
  refine od_W.rn (pc' := 1151) (ls' := [some (.ref _), some (.ref _), some (.ref _), some (.ref _), some (.int _), some (.int _), _]) (st' := [.int _, .ref _, .int _, .ref _]) 4 rfl ?_
  refine od_rXL rfl (hs1) ((nI_add i 2)) (by omega) (by omega) ?_
  refine od_rV (as := [.int (xs (i + 1)), .int (xs (i + 2))]) rfl rfl rfl rfl (e3) rfl (Nat.le_of_ble_eq_true rfl) (Nat.le_of_ble_eq_true rfl) (hrc) (Nat.le_of_ble_eq_true rfl) (fun o M1 hq => ?_)
  obtain ⟨⟨d2, hd2, r1⟩, r2, r3, r4, rfl⟩ := rd_o.w hq
  refine od_K.ret ?_
  obtain ⟨b2, fu2, t1, t2⟩ := r1.h0
  have fin := fun w5 w6 => hK _ _ _ _ d2 w5 w6 (h.af c1 k2 (by omega) k4 r1 r2 r3) hd2 (by omega) (by omega)
  refine od_W.rn (pc' := 1156) (ls' := [some (.ref _), some (.ref _), some (.ref _), some (.ref _), some (.int _), some (.int _), _]) (st' := [.ref _]) 1 rfl ?_
  refine od_rV (as := []) rfl rfl rfl rfl (t1) rfl (Nat.le_of_ble_eq_true rfl) (Nat.le_of_ble_eq_true rfl) (ct_thrown t1) (Nat.le_of_ble_eq_true rfl) (fun o M1 hq => ?_)
  obtain ⟨rfl, rfl⟩ := hq
  refine od_K.ret ?_
  refine od_W.rn (pc' := 1161) (ls' := [some (.ref _), some (.ref _), some (.ref _), some (.ref _), some (.int _), some (.int _), _]) (st' := [.int _, .int _]) 1 rfl ?_
  refine od_r2T rfl rfl (decide_eq_true t2) ?_
  refine od_W.rn (pc' := 1230) (ls' := [some (.ref _), some (.ref _), some (.ref _), some (.ref _), some (.int _), some (.int _), _]) (st' := []) 1 rfl ?_
  exact fin _ _
set_option maxRecDepth 100000 in
theorem la_recall (h : lw b L xs D W n X R d) (hi : i + 5 ≤ L) (hL : L ≤ 2560) (hK : lw_K b L xs D W d i Q) : od_W 60 153 1169 (lw_ls b D i w5 w6) [] W Q := by
  have hh := h
  obtain ⟨hb, hs, hc, hr, ⟨f, hf⟩, hW⟩ := hh
  refine od_W.rn (pc' := 1175) (ls' := [some (.ref _), some (.ref _), some (.ref _), some (.ref _), some (.int _), _, _]) (st' := [.int _, .ref _, .ref _]) 5 rfl ?_
  refine od_rXL rfl (hs) ((nI_inc i)) (by omega) (by omega) ?_
  refine od_W.rn (pc' := 1181) (ls' := [some (.ref _), some (.ref _), some (.ref _), some (.ref _), some (.int _), _, _]) (st' := [.int _, .ref _, .int _, .ref _]) 4 rfl ?_
  refine od_rXL rfl (hs) ((nI_add i 2)) (by omega) (by omega) ?_
  refine od_rSt (as := [.ref D, .int (xs (i + 1)), .int (xs (i + 2))]) rfl rfl rfl rfl (Nat.le_of_ble_eq_true rfl) (Nat.le_of_ble_eq_true rfl) (wr_recall hc (by omega) (xs (i + 1)) (xs (i + 2))) (Nat.le_of_ble_eq_true rfl) (fun o M1 hq => ?_)
  obtain ⟨rfl, c1, c2, c3, c4, c5⟩ := hq
  have k2 : ∀ a, a < D ∨ D + 128 ≤ a → a ≠ W.1 → a ≠ D + 136 → M1.2.2 a = W.2.2 a := fun a ha n1 _ => c2 a ha n1
  have k4 : ∃ f, M1.2.2 (D + 136) = some (od_la 1 f) := ⟨f, (c2 _ (by omega) (by omega)).trans hf⟩
  refine od_K.ret ?_
  refine od_W.rn (pc' := 1193) (ls' := [some (.ref _), some (.ref _), some (.ref _), some (.ref _), some (.int _), some (.int _), _]) (st' := [.int _, .ref _, .ref _]) 6 rfl ?_
  have hs1 := h.sc k2
  obtain ⟨bb, fu, ρr, e1, e2, e3⟩ := h.rf k2
  have hrc := ref_recall (fu := fu) e2 (xs (i + 1)) (xs (i + 2))
  rw [← e1] at hrc
  refine od_rXL rfl (hs1) ((nI_inc i)) (by omega) (by omega) ?_
  refine od_W.rn (pc' := 1199) (ls' := [some (.ref _), some (.ref _), some (.ref _), some (.ref _), some (.int _), some (.int _), _]) (st' := [.int _, .ref _, .int _, .ref _]) 4 rfl ?_
  refine od_rXL rfl (hs1) ((nI_add i 2)) (by omega) (by omega) ?_
  refine od_rV (as := [.int (xs (i + 1)), .int (xs (i + 2))]) rfl rfl rfl rfl (e3) rfl (Nat.le_of_ble_eq_true rfl) (Nat.le_of_ble_eq_true rfl) (hrc) (Nat.le_of_ble_eq_true rfl) (fun o M1 hq => ?_)
  obtain ⟨⟨d2, hd2, r1⟩, r2, r3, r4, rfl⟩ := rd_o.w hq
  refine od_K.ret ?_
  obtain ⟨b2, fu2, t1, t2⟩ := r1.h0
  have fin := fun w5 w6 => hK _ _ _ _ d2 w5 w6 (h.af c1 k2 (by omega) k4 r1 r2 r3) hd2 (by omega) (by omega)
  refine od_W.rn (pc' := 1204) (ls' := [some (.ref _), some (.ref _), some (.ref _), some (.ref _), some (.int _), some (.int _), _]) (st' := [.ref _]) 1 rfl ?_
  refine od_rV (as := []) rfl rfl rfl rfl (t1) rfl (Nat.le_of_ble_eq_true rfl) (Nat.le_of_ble_eq_true rfl) (ct_thrown t1) (Nat.le_of_ble_eq_true rfl) (fun o M1 hq => ?_)
  obtain ⟨rfl, rfl⟩ := hq
  refine od_K.ret ?_
  refine od_W.rn (pc' := 1209) (ls' := [some (.ref _), some (.ref _), some (.ref _), some (.ref _), some (.int _), some (.int _), _]) (st' := [.int _, .int _]) 1 rfl ?_
  refine od_r2T rfl rfl (decide_eq_true t2) ?_
  refine od_W.rn (pc' := 1230) (ls' := [some (.ref _), some (.ref _), some (.ref _), some (.ref _), some (.int _), some (.int _), _]) (st' := []) 1 rfl ?_
  exact fin _ _
set_option maxRecDepth 100000 in
theorem la_wipe (h : lw b L xs D W n X R d) (hi : i + 5 ≤ L) (hL : L ≤ 2560) (hK : lw_K b L xs D W d i Q) : od_W 60 153 1217 (lw_ls b D i w5 w6) [] W Q := by
  have hh := h
  obtain ⟨hb, hs, hc, hr, ⟨f, hf⟩, hW⟩ := hh
  have h0 := hc.h0
  obtain ⟨ρ, g1, g2⟩ := hc
  have hcc := lt_wipe g2
  rw [← g1] at hcc
  refine od_W.rn (pc' := 1218) (ls' := [some (.ref _), some (.ref _), some (.ref _), some (.ref _), some (.int _), _, _]) (st' := [.ref _]) 1 rfl ?_
  refine od_rV (as := []) rfl rfl rfl rfl (h0) rfl (Nat.le_of_ble_eq_true rfl) (Nat.le_of_ble_eq_true rfl) (hcc) (Nat.le_of_ble_eq_true rfl) (fun o M1 hq => ?_)
  obtain ⟨c1, c2, rfl, c3, c4⟩ := dk_o.w (by omega) hq
  have k2 : ∀ a, a < D ∨ D + 128 ≤ a → a ≠ W.1 → a ≠ D + 136 → M1.2.2 a = W.2.2 a := fun a ha n1 _ => c2 a ha n1
  refine od_K.ret ?_
  obtain ⟨bb, fu, ρr, e1, e2, e3⟩ := h.rf k2
  have hrc := ref_wipe (fu := fu) e2
  rw [← e1] at hrc
  refine od_W.rn (pc' := 1222) (ls' := [some (.ref _), some (.ref _), some (.ref _), some (.ref _), some (.int _), _, _]) (st' := [.ref _, .int _]) 1 rfl ?_
  refine od_rV (as := []) rfl rfl rfl rfl (e3) rfl (Nat.le_of_ble_eq_true rfl) (Nat.le_of_ble_eq_true rfl) (hrc) (Nat.le_of_ble_eq_true rfl) (fun o M1 hq => ?_)
  obtain ⟨⟨d', hd', r1⟩, r2, r3, r4, rfl⟩ := rd_o.w hq
  refine od_K.ret ?_
  refine od_r2T rfl rfl (decide_eq_true rfl) ?_
  exact hK _ _ _ _ d' _ _ (h.af c1 k2 (by omega) ⟨f, (c2 _ (by omega) (by omega)).trans hf⟩ r1 r2 r3) hd' (by omega) (by omega)
end LAWD
