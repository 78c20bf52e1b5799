/-! The law, call by call. -/
section LAWR
variable {d k pc : Nat} {ls : od_L} {st : List Value} {M : od_M} {Q : od_O → od_M → Prop}
theorem od_rXL {a n j : Nat} {f : Nat → Int32} {i : Int32} (h : od_cd k pc = some (.iaload, 1)) (hM : M.2.2 a = some (od_sc n f)) (hi : i = nI j) (hj : j < n) (hn : n < 2 ^ 31) (kk : od_W d k (pc + 1) ls (.int (f j) :: st) M Q) : od_W d k pc ls (.int i :: .ref a :: st) M Q := by
  refine od_wX h ?_
  subst hi
  simp only [od_ins, od_iald, hM, od_go, od_X, ↓reduceIte, od_ixN hj hn, nI_clamp (show j < 2 ^ 31 by omega)]
  exact kk
theorem od_rLen {a n : Nat} {f : Nat → Int32} (h : od_cd k pc = some (.arraylength, 1)) (hM : M.2.2 a = some (od_sc n f)) (kk : od_W d k (pc + 1) ls (.int (nI n) :: st) M Q) : od_W d k pc ls (.ref a :: st) M Q := by
  refine od_wX h ?_
  simp only [od_ins, od_alen, hM, od_go, od_X, ↓reduceIte]
  exact kk
end LAWR
theorem ct_thrown {W : od_M} {y : Nat} {b : rf_B} {fu : Bool} (h : W.2.2 y = some (rf_ob y b fu)) : od_W 0 86 0 (od_ent 86 [.ref y]) [] W (fun o M' => o = .inl (some (.int b.1)) ∧ M' = W) := by
  have e0 : od_ent 86 [.ref y] = [some (.ref y)] := rfl
  rw [e0]
  refine od_W.rn (pc' := 1) (ls' := [some (.ref _)]) (st' := [.ref _]) 1 rfl ?_
  refine od_rG rfl (h) rfl rfl ?_
  refine od_W.fin rfl ?_
  exact ⟨rfl, rfl⟩
theorem rv.h0 {y n d c : Nat} {W : od_M} {X R : Nat → List Nat} (h : rv y W n X R d c) : ∃ b fu, W.2.2 y = some (rf_ob y b fu) ∧ b.1 = nI c := by
  obtain ⟨b, fu, ρ, h1, h2, h3⟩ := h
  exact ⟨b, fu, (congrArg (fun m : od_M => m.2.2 y) h1).trans md_0, h3⟩
/-- the law's memory between two calls: the script at b, the desk at D, the reference behind it, then the array -/
def lw (b L : Nat) (xs : Nat → Int32) (D : Nat) (W : od_M) (n : Nat) (X R : Nat → List Nat) (d : Nat) : Prop := b < D ∧ W.2.2 b = some (od_sc L xs) ∧ cw D W n X R ∧ (∃ c, rv (D + 128) W n X R d c) ∧ (∃ f, W.2.2 (D + 136) = some (od_la 1 f)) ∧ D + 137 ≤ W.1
abbrev lw_ls (b D i : Nat) (w5 w6 : Option Value) : od_L := [some (.ref b), some (.ref D), some (.ref (D + 128)), some (.ref (D + 136)), some (.int (nI i)), w5, w6]
/-- what a case leads to -/
def lw_K (b L : Nat) (xs : Nat → Int32) (D : Nat) (W : od_M) (d i : Nat) (Q : od_O → od_M → Prop) : Prop := ∀ (W' : od_M) (n' : Nat) (X' R' : Nat → List Nat) (d' : Nat) (w5 w6 : Option Value), lw b L xs D W' n' X' R' d' → d' ≤ d + 20 → W'.1 ≤ W.1 + 1 → W'.2.1 ≤ W.2.1 + 6 → od_W 60 153 1230 (lw_ls b D i w5 w6) [] W' Q
section LAWC
variable {b L D n d i : Nat} {xs : Nat → Int32} {W : od_M} {X R : Nat → List Nat} {Q : od_O → od_M → Prop} {w5 w6 : Option Value}
/-- the sides after a class's call and the reference's -/
theorem lw.af {W1 W2 : od_M} {n1 d1 c1 : Nat} {X1 R1 : Nat → List Nat} (h : lw b L xs D W n X R d) (k1 : cw D W1 n1 X1 R1) (k2 : ∀ a, a < D ∨ D + 128 ≤ a → a ≠ W.1 → a ≠ D + 136 → W1.2.2 a = W.2.2 a) (k3 : W.1 ≤ W1.1) (k4 : ∃ f, W1.2.2 (D + 136) = some (od_la 1 f)) (r1 : rv (D + 128) W2 n1 X1 R1 d1 c1) (r2 : ∀ a, a < D + 128 ∨ D + 128 + 8 ≤ a → W2.2.2 a = W1.2.2 a) (r3 : W2.1 = W1.1) : lw b L xs D W2 n1 X1 R1 d1 := by
  obtain ⟨h1, h2, h3, h4, h5, h6⟩ := h
  refine ⟨h1, ?_, k1.tr (fun a _ ha => r2 a (by omega)), ⟨c1, r1⟩, ⟨k4.choose, (r2 _ (by omega)).trans k4.choose_spec⟩, by omega⟩
  rw [r2 b (by omega), k2 b (by omega) (by omega) (by omega)]
  exact h2
theorem lw.sc {W1 : od_M} (h : lw b L xs D W n X R d) (k2 : ∀ a, a < D ∨ D + 128 ≤ a → a ≠ W.1 → a ≠ D + 136 → W1.2.2 a = W.2.2 a) : W1.2.2 b = some (od_sc L xs) := by
  obtain ⟨h1, h2, h3, h4, h5, h6⟩ := h
  rw [k2 b (by omega) (by omega) (by omega)]
  exact h2
theorem lw.rf {W1 : od_M} (h : lw b L xs D W n X R d) (k2 : ∀ a, a < D ∨ D + 128 ≤ a → a ≠ W.1 → a ≠ D + 136 → W1.2.2 a = W.2.2 a) : ∃ b fu ρ, W1 = md W1 (D + 128) b fu ρ ∧ rd (D + 128) W1 b ρ n X R d ∧ W1.2.2 (D + 128) = some (rf_ob (D + 128) b fu) := by
  obtain ⟨h1, h2, h3, ⟨c, h4⟩, h5, h6⟩ := h
  have h7 := h4.tr (W' := W1) (fun a ha hb => k2 a (by omega) (by omega) (by omega))
  obtain ⟨b, fu, ρ, e1, e2, e3⟩ := h7
  exact ⟨b, fu, ρ, e1, e2, (congrArg (fun m : od_M => m.2.2 (D + 128)) e1).trans md_0⟩
theorem lg_cmp_self (x : Int64) : lg_cmp x x = 0 := by
  rw [lg_cmp_eq]
set_option maxRecDepth 100000 in
theorem la_finite (h : lw b L xs D W n X R d) (hi : i + 5 ≤ L) (hL : L ≤ 2560) (hK : lw_K b L xs D W d i Q) : od_W 60 153 124 (lw_ls b D i w5 w6) [] W Q := by
  have hh := h
  obtain ⟨hb, hs, hc, hr, ⟨f, hf⟩, hW⟩ := hh
  refine od_W.rn (pc' := 130) (ls' := [some (.ref _), some (.ref _), some (.ref _), some (.ref _), some (.int _), _, _]) (st' := [.int _, .ref _, .ref _]) 5 rfl ?_
  refine od_rXL rfl (hs) ((nI_inc i)) (by omega) (by omega) ?_
  refine od_W.rn (pc' := 136) (ls' := [some (.ref _), some (.ref _), some (.ref _), some (.ref _), some (.int _), _, _]) (st' := [.int _, .ref _, .int _, .ref _]) 4 rfl ?_
  refine od_rXL rfl (hs) ((nI_add i 2)) (by omega) (by omega) ?_
  refine od_rSt (as := [.ref D, .int (xs (i + 1)), .int (xs (i + 2))]) rfl rfl rfl rfl (Nat.le_of_ble_eq_true rfl) (Nat.le_of_ble_eq_true rfl) (wr_finite hc (by omega) (xs (i + 1)) (xs (i + 2))) (Nat.le_of_ble_eq_true rfl) (fun o M1 hq => ?_)
  obtain ⟨rfl, c1, c2, c3, c4, c5⟩ := hq
  have k2 : ∀ a, a < D ∨ D + 128 ≤ a → a ≠ W.1 → a ≠ D + 136 → M1.2.2 a = W.2.2 a := fun a ha n1 _ => c2 a ha n1
  have k4 : ∃ f, M1.2.2 (D + 136) = some (od_la 1 f) := ⟨f, (c2 _ (by omega) (by omega)).trans hf⟩
  refine od_K.ret ?_
  refine od_W.rn (pc' := 148) (ls' := [some (.ref _), some (.ref _), some (.ref _), some (.ref _), some (.int _), some (.int _), _]) (st' := [.int _, .ref _, .ref _]) 6 rfl ?_
  have hs1 := h.sc k2
  obtain ⟨bb, fu, ρr, e1, e2, e3⟩ := h.rf k2
  have hrc := ref_finite (fu := fu) e2 (xs (i + 1)) (xs (i + 2))
  rw [← e1] at hrc
  refine od_rXL rfl (hs1) ((nI_inc i)) (by omega) (by omega) ?_
  refine od_W.rn (pc' := 154) (ls' := [some (.ref _), some (.ref _), some (.ref _), some (.ref _), some (.int _), some (.int _), _]) (st' := [.int _, .ref _, .int _, .ref _]) 4 rfl ?_
  refine od_rXL rfl (hs1) ((nI_add i 2)) (by omega) (by omega) ?_
  refine od_rV (as := [.int (xs (i + 1)), .int (xs (i + 2))]) rfl rfl rfl rfl (e3) rfl (Nat.le_of_ble_eq_true rfl) (Nat.le_of_ble_eq_true rfl) (hrc) (Nat.le_of_ble_eq_true rfl) (fun o M1 hq => ?_)
  obtain ⟨⟨d2, hd2, r1⟩, r2, r3, r4, rfl⟩ := rd_o.w hq
  refine od_K.ret ?_
  obtain ⟨b2, fu2, t1, t2⟩ := r1.h0
  have fin := fun w5 w6 => hK _ _ _ _ d2 w5 w6 (h.af c1 k2 (by omega) k4 r1 r2 r3) hd2 (by omega) (by omega)
  refine od_W.rn (pc' := 159) (ls' := [some (.ref _), some (.ref _), some (.ref _), some (.ref _), some (.int _), some (.int _), _]) (st' := [.ref _]) 1 rfl ?_
  refine od_rV (as := []) rfl rfl rfl rfl (t1) rfl (Nat.le_of_ble_eq_true rfl) (Nat.le_of_ble_eq_true rfl) (ct_thrown t1) (Nat.le_of_ble_eq_true rfl) (fun o M1 hq => ?_)
  obtain ⟨rfl, rfl⟩ := hq
  refine od_K.ret ?_
  refine od_W.rn (pc' := 164) (ls' := [some (.ref _), some (.ref _), some (.ref _), some (.ref _), some (.int _), some (.int _), _]) (st' := [.int _, .int _]) 1 rfl ?_
  refine od_r2T rfl rfl (decide_eq_true t2) ?_
  refine od_W.rn (pc' := 1230) (ls' := [some (.ref _), some (.ref _), some (.ref _), some (.ref _), some (.int _), some (.int _), _]) (st' := []) 1 rfl ?_
  exact fin _ _
set_option maxRecDepth 100000 in
theorem la_raise (h : lw b L xs D W n X R d) (hi : i + 5 ≤ L) (hL : L ≤ 2560) (hK : lw_K b L xs D W d i Q) : od_W 60 153 172 (lw_ls b D i w5 w6) [] W Q := by
  have hh := h
  obtain ⟨hb, hs, hc, hr, ⟨f, hf⟩, hW⟩ := hh
  refine od_W.rn (pc' := 178) (ls' := [some (.ref _), some (.ref _), some (.ref _), some (.ref _), some (.int _), _, _]) (st' := [.int _, .ref _, .ref _]) 5 rfl ?_
  refine od_rXL rfl (hs) ((nI_inc i)) (by omega) (by omega) ?_
  refine od_W.rn (pc' := 184) (ls' := [some (.ref _), some (.ref _), some (.ref _), some (.ref _), some (.int _), _, _]) (st' := [.int _, .ref _, .int _, .ref _]) 4 rfl ?_
  refine od_rXL rfl (hs) ((nI_add i 2)) (by omega) (by omega) ?_
  refine od_W.rn (pc' := 190) (ls' := [some (.ref _), some (.ref _), some (.ref _), some (.ref _), some (.int _), _, _]) (st' := [.int _, .ref _, .int _, .int _, .ref _]) 4 rfl ?_
  refine od_rXL rfl (hs) ((nI_add i 3)) (by omega) (by omega) ?_
  refine od_rSt (as := [.ref D, .int (xs (i + 1)), .int (xs (i + 2)), .int (xs (i + 3))]) rfl rfl rfl rfl (Nat.le_of_ble_eq_true rfl) (Nat.le_of_ble_eq_true rfl) (wr_raise hc (by omega) (xs (i + 1)) (xs (i + 2)) (xs (i + 3))) (Nat.le_of_ble_eq_true rfl) (fun o M1 hq => ?_)
  obtain ⟨rfl, c1, c2, c3, c4, c5⟩ := hq
  have k2 : ∀ a, a < D ∨ D + 128 ≤ a → a ≠ W.1 → a ≠ D + 136 → M1.2.2 a = W.2.2 a := fun a ha n1 _ => c2 a ha n1
  have k4 : ∃ f, M1.2.2 (D + 136) = some (od_la 1 f) := ⟨f, (c2 _ (by omega) (by omega)).trans hf⟩
  refine od_K.ret ?_
  refine od_W.rn (pc' := 202) (ls' := [some (.ref _), some (.ref _), some (.ref _), some (.ref _), some (.int _), some (.int _), _]) (st' := [.int _, .ref _, .ref _]) 6 rfl ?_
  have hs1 := h.sc k2
  obtain ⟨bb, fu, ρr, e1, e2, e3⟩ := h.rf k2
  have hrc := ref_raise (fu := fu) e2 (xs (i + 1)) (xs (i + 2)) (xs (i + 3))
  rw [← e1] at hrc
  refine od_rXL rfl (hs1) ((nI_inc i)) (by omega) (by omega) ?_
  refine od_W.rn (pc' := 208) (ls' := [some (.ref _), some (.ref _), some (.ref _), some (.ref _), some (.int _), some (.int _), _]) (st' := [.int _, .ref _, .int _, .ref _]) 4 rfl ?_
  refine od_rXL rfl (hs1) ((nI_add i 2)) (by omega) (by omega) ?_
  refine od_W.rn (pc' := 214) (ls' := [some (.ref _), some (.ref _), some (.ref _), some (.ref _), some (.int _), some (.int _), _]) (st' := [.int _, .ref _, .int _, .int _, .ref _]) 4 rfl ?_
  refine od_rXL rfl (hs1) ((nI_add i 3)) (by omega) (by omega) ?_
  refine od_rV (as := [.int (xs (i + 1)), .int (xs (i + 2)), .int (xs (i + 3))]) rfl rfl rfl rfl (e3) rfl (Nat.le_of_ble_eq_true rfl) (Nat.le_of_ble_eq_true rfl) (hrc) (Nat.le_of_ble_eq_true rfl) (fun o M1 hq => ?_)
  obtain ⟨⟨d2, hd2, r1⟩, r2, r3, r4, rfl⟩ := rd_o.w hq
  refine od_K.ret ?_
  obtain ⟨b2, fu2, t1, t2⟩ := r1.h0
  have fin := fun w5 w6 => hK _ _ _ _ d2 w5 w6 (h.af c1 k2 (by omega) k4 r1 r2 r3) hd2 (by omega) (by omega)
  refine od_W.rn (pc' := 219) (ls' := [some (.ref _), some (.ref _), some (.ref _), some (.ref _), some (.int _), some (.int _), _]) (st' := [.ref _]) 1 rfl ?_
  refine od_rV (as := []) rfl rfl rfl rfl (t1) rfl (Nat.le_of_ble_eq_true rfl) (Nat.le_of_ble_eq_true rfl) (ct_thrown t1) (Nat.le_of_ble_eq_true rfl) (fun o M1 hq => ?_)
  obtain ⟨rfl, rfl⟩ := hq
  refine od_K.ret ?_
  refine od_W.rn (pc' := 224) (ls' := [some (.ref _), some (.ref _), some (.ref _), some (.ref _), some (.int _), some (.int _), _]) (st' := [.int _, .int _]) 1 rfl ?_
  refine od_r2T rfl rfl (decide_eq_true t2) ?_
  refine od_W.rn (pc' := 1230) (ls' := [some (.ref _), some (.ref _), some (.ref _), some (.ref _), some (.int _), some (.int _), _]) (st' := []) 1 rfl ?_
  exact fin _ _
set_option maxRecDepth 100000 in
theorem la_op (h : lw b L xs D W n X R d) (hd : d + 20 ≤ 1000000) (hi : i + 5 ≤ L) (hL : L ≤ 2560) (hK : lw_K b L xs D W d i Q) : od_W 60 153 232 (lw_ls b D i w5 w6) [] W Q := by
  have hh := h
  obtain ⟨hb, hs, hc, hr, ⟨f, hf⟩, hW⟩ := hh
  refine od_W.rn (pc' := 238) (ls' := [some (.ref _), some (.ref _), some (.ref _), some (.ref _), some (.int _), _, _]) (st' := [.int _, .ref _, .ref _]) 5 rfl ?_
  refine od_rXL rfl (hs) ((nI_inc i)) (by omega) (by omega) ?_
  refine od_W.rn (pc' := 244) (ls' := [some (.ref _), some (.ref _), some (.ref _), some (.ref _), some (.int _), _, _]) (st' := [.int _, .ref _, .int _, .ref _]) 4 rfl ?_
  refine od_rXL rfl (hs) ((nI_add i 2)) (by omega) (by omega) ?_
  refine od_W.rn (pc' := 250) (ls' := [some (.ref _), some (.ref _), some (.ref _), some (.ref _), some (.int _), _, _]) (st' := [.int _, .ref _, .int _, .int _, .ref _]) 4 rfl ?_
  refine od_rXL rfl (hs) ((nI_add i 3)) (by omega) (by omega) ?_
  refine od_W.rn (pc' := 256) (ls' := [some (.ref _), some (.ref _), some (.ref _), some (.ref _), some (.int _), _, _]) (st' := [.int _, .ref _, .int _, .int _, .int _, .ref _]) 4 rfl ?_
  refine od_rXL rfl (hs) ((nI_add i 4)) (by omega) (by omega) ?_
  refine od_W.rn (pc' := 258) (ls' := [some (.ref _), some (.ref _), some (.ref _), some (.ref _), some (.int _), _, _]) (st' := [.ref _, .int _, .int _, .int _, .int _, .ref _]) 1 rfl ?_
  refine od_rSt (as := [.ref D, .int (xs (i + 1)), .int (xs (i + 2)), .int (xs (i + 3)), .int (xs (i + 4)), .ref (D + 136)]) rfl rfl rfl rfl (Nat.le_of_ble_eq_true rfl) (Nat.le_of_ble_eq_true rfl) (wr_op (f := f) hc (by omega) (by omega) (by omega) hf (xs (i + 1)) (xs (i + 2)) (xs (i + 3)) (xs (i + 4))) (Nat.le_of_ble_eq_true rfl) (fun o M1 hq => ?_)
  obtain ⟨rfl, c1, k2, c3, c4, c5, f1, c6, c7⟩ := hq
  have k4 : ∃ f, M1.2.2 (D + 136) = some (od_la 1 f) := ⟨f1, c6⟩
  refine od_K.ret ?_
  refine od_W.rn (pc' := 269) (ls' := [some (.ref _), some (.ref _), some (.ref _), some (.ref _), some (.int _), some (.int _), _]) (st' := [.int _, .ref _, .ref _]) 6 rfl ?_
  have hs1 := h.sc k2
  obtain ⟨bb, fu, ρr, e1, e2, e3⟩ := h.rf k2
  have hrc := ref_op (fu := fu) e2 hd (xs (i + 1)) (xs (i + 2)) (xs (i + 3)) (xs (i + 4))
  rw [← e1] at hrc
  refine od_rXL rfl (hs1) ((nI_inc i)) (by omega) (by omega) ?_
  refine od_W.rn (pc' := 275) (ls' := [some (.ref _), some (.ref _), some (.ref _), some (.ref _), some (.int _), some (.int _), _]) (st' := [.int _, .ref _, .int _, .ref _]) 4 rfl ?_
  refine od_rXL rfl (hs1) ((nI_add i 2)) (by omega) (by omega) ?_
  refine od_W.rn (pc' := 281) (ls' := [some (.ref _), some (.ref _), some (.ref _), some (.ref _), some (.int _), some (.int _), _]) (st' := [.int _, .ref _, .int _, .int _, .ref _]) 4 rfl ?_
  refine od_rXL rfl (hs1) ((nI_add i 3)) (by omega) (by omega) ?_
  refine od_W.rn (pc' := 287) (ls' := [some (.ref _), some (.ref _), some (.ref _), some (.ref _), some (.int _), some (.int _), _]) (st' := [.int _, .ref _, .int _, .int _, .int _, .ref _]) 4 rfl ?_
  refine od_rXL rfl (hs1) ((nI_add i 4)) (by omega) (by omega) ?_
  refine od_rV (as := [.int (xs (i + 1)), .int (xs (i + 2)), .int (xs (i + 3)), .int (xs (i + 4))]) rfl rfl rfl rfl (e3) rfl (Nat.le_of_ble_eq_true rfl) (Nat.le_of_ble_eq_true rfl) (hrc) (Nat.le_of_ble_eq_true rfl) (fun o M1 hq => ?_)
  obtain ⟨⟨d2, hd2, r1⟩, r2, r3, r4, u, rfl, hu⟩ := rd_o.w hq
  refine od_K.ret ?_
  refine od_W.rn (pc' := 294) (ls' := [some (.ref _), some (.ref _), some (.ref _), some (.ref _), some (.int _), some (.int _), some (.int _)]) (st' := [.ref _]) 2 rfl ?_
  obtain ⟨b2, fu2, t1, t2⟩ := r1.h0
  have fin := fun w5 w6 => hK _ _ _ _ d2 w5 w6 (h.af c1 k2 (by omega) k4 r1 r2 r3) hd2 (by omega) (by omega)
  refine od_rV (as := []) rfl rfl rfl rfl (t1) rfl (Nat.le_of_ble_eq_true rfl) (Nat.le_of_ble_eq_true rfl) (ct_thrown t1) (Nat.le_of_ble_eq_true rfl) (fun o M1 hq => ?_)
  obtain ⟨rfl, rfl⟩ := hq
  refine od_K.ret ?_
  refine od_W.rn (pc' := 299) (ls' := [some (.ref _), some (.ref _), some (.ref _), some (.ref _), some (.int _), some (.int _), some (.int _)]) (st' := [.int _, .int _]) 1 rfl ?_
  refine od_r2T rfl rfl (decide_eq_true t2) ?_
  refine od_W.rn (pc' := 306) (ls' := [some (.ref _), some (.ref _), some (.ref _), some (.ref _), some (.int _), some (.int _), some (.int _)]) (st' := [.int _]) 1 rfl ?_
  rcases hrr : (cs_op X (xs (i + 1)) (xs (i + 2)) (xs (i + 3)) (xs (i + 4))).1 with v | k
  · rw [hrr] at c7 hu
    refine od_r1F rfl (of_decide_eq_true rfl) (rfl) ?_
    refine od_W.rn (pc' := 311) (ls' := [some (.ref _), some (.ref _), some (.ref _), some (.ref _), some (.int _), some (.int _), some (.int _)]) (st' := [.int _, .ref _]) 2 rfl ?_
    refine od_rLL rfl ((r2 _ (by omega)).trans c6) ((show Int32.ofInt 0 = nI 0 from rfl)) (by omega) (by decide) ?_
    refine od_W.rn (pc' := 316) (ls' := [some (.ref _), some (.ref _), some (.ref _), some (.ref _), some (.int _), some (.int _), some (.int _)]) (st' := [.int _]) 3 rfl ?_
    refine od_r1T rfl rfl ((by rw [c7 v rfl, hu v rfl, lg_cmp_self]; rfl)) ?_
    refine od_W.rn (pc' := 1230) (ls' := [some (.ref _), some (.ref _), some (.ref _), some (.ref _), some (.int _), some (.int _), some (.int _)]) (st' := []) 1 rfl ?_
    exact fin _ _
  · have hk := ki_op hrr
    have hz : (!decide (nI (cs_code (.inr k)) = 0)) = true := by rcases hk with rfl | rfl | rfl <;> rfl
    refine od_r1T rfl rfl (hz) ?_
    refine od_W.rn (pc' := 1230) (ls' := [some (.ref _), some (.ref _), some (.ref _), some (.ref _), some (.int _), some (.int _), some (.int _)]) (st' := []) 1 rfl ?_
    exact fin _ _
set_option maxRecDepth 100000 in
theorem la_member (h : lw b L xs D W n X R d) (hi : i + 5 ≤ L) (hL : L ≤ 2560) (hK : lw_K b L xs D W d i Q) : od_W 60 153 324 (lw_ls b D i w5 w6) [] W Q := by
  have hh := h
  obtain ⟨hb, hs, hc, hr, ⟨f, hf⟩, hW⟩ := hh
  refine od_W.rn (pc' := 330) (ls' := [some (.ref _), some (.ref _), some (.ref _), some (.ref _), some (.int _), _, _]) (st' := [.int _, .ref _, .ref _]) 5 rfl ?_
  refine od_rXL rfl (hs) ((nI_inc i)) (by omega) (by omega) ?_
  refine od_W.rn (pc' := 336) (ls' := [some (.ref _), some (.ref _), some (.ref _), some (.ref _), some (.int _), _, _]) (st' := [.int _, .ref _, .int _, .ref _]) 4 rfl ?_
  refine od_rXL rfl (hs) ((nI_add i 2)) (by omega) (by omega) ?_
  refine od_W.rn (pc' := 342) (ls' := [some (.ref _), some (.ref _), some (.ref _), some (.ref _), some (.int _), _, _]) (st' := [.int _, .ref _, .int _, .int _, .ref _]) 4 rfl ?_
  refine od_rXL rfl (hs) ((nI_add i 3)) (by omega) (by omega) ?_
  refine od_W.rn (pc' := 344) (ls' := [some (.ref _), some (.ref _), some (.ref _), some (.ref _), some (.int _), _, _]) (st' := [.ref _, .int _, .int _, .int _, .ref _]) 1 rfl ?_
  refine od_rSt (as := [.ref D, .int (xs (i + 1)), .int (xs (i + 2)), .int (xs (i + 3)), .ref (D + 136)]) rfl rfl rfl rfl (Nat.le_of_ble_eq_true rfl) (Nat.le_of_ble_eq_true rfl) (wr_member (f := f) hc (by omega) (by omega) (by omega) hf (xs (i + 1)) (xs (i + 2)) (xs (i + 3))) (Nat.le_of_ble_eq_true rfl) (fun o M1 hq => ?_)
  obtain ⟨rfl, c1, k2, c3, c4, c5, f1, c6, c7⟩ := hq
  have k4 : ∃ f, M1.2.2 (D + 136) = some (od_la 1 f) := ⟨f1, c6⟩
  refine od_K.ret ?_
  refine od_W.rn (pc' := 355) (ls' := [some (.ref _), some (.ref _), some (.ref _), some (.ref _), some (.int _), some (.int _), _]) (st' := [.int _, .ref _, .ref _]) 6 rfl ?_
  have hs1 := h.sc k2
  obtain ⟨bb, fu, ρr, e1, e2, e3⟩ := h.rf k2
  have hrc := ref_member (fu := fu) e2 (xs (i + 1)) (xs (i + 2)) (xs (i + 3))
  rw [← e1] at hrc
  refine od_rXL rfl (hs1) ((nI_inc i)) (by omega) (by omega) ?_
  refine od_W.rn (pc' := 361) (ls' := [some (.ref _), some (.ref _), some (.ref _), some (.ref _), some (.int _), some (.int _), _]) (st' := [.int _, .ref _, .int _, .ref _]) 4 rfl ?_
  refine od_rXL rfl (hs1) ((nI_add i 2)) (by omega) (by omega) ?_
  refine od_W.rn (pc' := 367) (ls' := [some (.ref _), some (.ref _), some (.ref _), some (.ref _), some (.int _), some (.int _), _]) (st' := [.int _, .ref _, .int _, .int _, .ref _]) 4 rfl ?_
  refine od_rXL rfl (hs1) ((nI_add i 3)) (by omega) (by omega) ?_
  refine od_rV (as := [.int (xs (i + 1)), .int (xs (i + 2)), .int (xs (i + 3))]) rfl rfl rfl rfl (e3) rfl (Nat.le_of_ble_eq_true rfl) (Nat.le_of_ble_eq_true rfl) (hrc) (Nat.le_of_ble_eq_true rfl) (fun o M1 hq => ?_)
  obtain ⟨⟨d2, hd2, r1⟩, r2, r3, r4, u, rfl, hu⟩ := rd_o.w hq
  refine od_K.ret ?_
  refine od_W.rn (pc' := 374) (ls' := [some (.ref _), some (.ref _), some (.ref _), some (.ref _), some (.int _), some (.int _), some (.int _)]) (st' := [.ref _]) 2 rfl ?_
  obtain ⟨b2, fu2, t1, t2⟩ := r1.h0
  have fin := fun w5 w6 => hK _ _ _ _ d2 w5 w6 (h.af c1 k2 (by omega) k4 r1 r2 r3) hd2 (by omega) (by omega)
  refine od_rV (as := []) rfl rfl rfl rfl (t1) rfl (Nat.le_of_ble_eq_true rfl) (Nat.le_of_ble_eq_true rfl) (ct_thrown t1) (Nat.le_of_ble_eq_true rfl) (fun o M1 hq => ?_)
  obtain ⟨rfl, rfl⟩ := hq
  refine od_K.ret ?_
  refine od_W.rn (pc' := 379) (ls' := [some (.ref _), some (.ref _), some (.ref _), some (.ref _), some (.int _), some (.int _), some (.int _)]) (st' := [.int _, .int _]) 1 rfl ?_
  refine od_r2T rfl rfl (decide_eq_true t2) ?_
  refine od_W.rn (pc' := 386) (ls' := [some (.ref _), some (.ref _), some (.ref _), some (.ref _), some (.int _), some (.int _), some (.int _)]) (st' := [.int _]) 1 rfl ?_
  rcases hrr : (cs_member X (xs (i + 1)) (xs (i + 2)) (xs (i + 3))).1 with v | k
  · rw [hrr] at c7 hu
    refine od_r1F rfl (of_decide_eq_true rfl) (rfl) ?_
    refine od_W.rn (pc' := 391) (ls' := [some (.ref _), some (.ref _), some (.ref _), some (.ref _), some (.int _), some (.int _), some (.int _)]) (st' := [.int _, .ref _]) 2 rfl ?_
    refine od_rLL rfl ((r2 _ (by omega)).trans c6) ((show Int32.ofInt 0 = nI 0 from rfl)) (by omega) (by decide) ?_
    refine od_W.rn (pc' := 396) (ls' := [some (.ref _), some (.ref _), some (.ref _), some (.ref _), some (.int _), some (.int _), some (.int _)]) (st' := [.int _]) 3 rfl ?_
    refine od_r1T rfl rfl ((by rw [c7 v rfl, hu v rfl, lg_cmp_self]; rfl)) ?_
    refine od_W.rn (pc' := 1230) (ls' := [some (.ref _), some (.ref _), some (.ref _), some (.ref _), some (.int _), some (.int _), some (.int _)]) (st' := []) 1 rfl ?_
    exact fin _ _
  · have hk := ki_member hrr
    have hz : (!decide (nI (cs_code (.inr k)) = 0)) = true := by rcases hk with rfl | rfl | rfl <;> rfl
    refine od_r1T rfl rfl (hz) ?_
    refine od_W.rn (pc' := 1230) (ls' := [some (.ref _), some (.ref _), some (.ref _), some (.ref _), some (.int _), some (.int _), some (.int _)]) (st' := []) 1 rfl ?_
    exact fin _ _
set_option maxRecDepth 100000 in
theorem la_step (h : lw b L xs D W n X R d) (hi : i + 5 ≤ L) (hL : L ≤ 2560) (hK : lw_K b L xs D W d i Q) : od_W 60 153 404 (lw_ls b D i w5 w6) [] W Q := by
  have hh := h
  obtain ⟨hb, hs, hc, hr, ⟨f, hf⟩, hW⟩ := hh
  refine od_W.rn (pc' := 410) (ls' := [some (.ref _), some (.ref _), some (.ref _), some (.ref _), some (.int _), _, _]) (st' := [.int _, .ref _, .ref _]) 5 rfl ?_
  refine od_rXL rfl (hs) ((nI_inc i)) (by omega) (by omega) ?_
  refine od_W.rn (pc' := 416) (ls' := [some (.ref _), some (.ref _), some (.ref _), some (.ref _), some (.int _), _, _]) (st' := [.int _, .ref _, .int _, .ref _]) 4 rfl ?_
  refine od_rXL rfl (hs) ((nI_add i 2)) (by omega) (by omega) ?_
  refine od_W.rn (pc' := 422) (ls' := [some (.ref _), some (.ref _), some (.ref _), some (.ref _), some (.int _), _, _]) (st' := [.int _, .ref _, .int _, .int _, .ref _]) 4 rfl ?_
  refine od_rXL rfl (hs) ((nI_add i 3)) (by omega) (by omega) ?_
  refine od_W.rn (pc' := 424) (ls' := [some (.ref _), some (.ref _), some (.ref _), some (.ref _), some (.int _), _, _]) (st' := [.ref _, .int _, .int _, .int _, .ref _]) 1 rfl ?_
  refine od_rSt (as := [.ref D, .int (xs (i + 1)), .int (xs (i + 2)), .int (xs (i + 3)), .ref (D + 136)]) rfl rfl rfl rfl (Nat.le_of_ble_eq_true rfl) (Nat.le_of_ble_eq_true rfl) (wr_step (f := f) hc (by omega) (by omega) (by omega) hf (xs (i + 1)) (xs (i + 2)) (xs (i + 3))) (Nat.le_of_ble_eq_true rfl) (fun o M1 hq => ?_)
  obtain ⟨rfl, c1, k2, c3, c4, c5, f1, c6, c7⟩ := hq
  have k4 : ∃ f, M1.2.2 (D + 136) = some (od_la 1 f) := ⟨f1, c6⟩
  refine od_K.ret ?_
  refine od_W.rn (pc' := 435) (ls' := [some (.ref _), some (.ref _), some (.ref _), some (.ref _), some (.int _), some (.int _), _]) (st' := [.int _, .ref _, .ref _]) 6 rfl ?_
  have hs1 := h.sc k2
  obtain ⟨bb, fu, ρr, e1, e2, e3⟩ := h.rf k2
  have hrc := ref_step (fu := fu) e2 (xs (i + 1)) (xs (i + 2)) (xs (i + 3))
  rw [← e1] at hrc
  refine od_rXL rfl (hs1) ((nI_inc i)) (by omega) (by omega) ?_
  refine od_W.rn (pc' := 441) (ls' := [some (.ref _), some (.ref _), some (.ref _), some (.ref _), some (.int _), some (.int _), _]) (st' := [.int _, .ref _, .int _, .ref _]) 4 rfl ?_
  refine od_rXL rfl (hs1) ((nI_add i 2)) (by omega) (by omega) ?_
  refine od_W.rn (pc' := 447) (ls' := [some (.ref _), some (.ref _), some (.ref _), some (.ref _), some (.int _), some (.int _), _]) (st' := [.int _, .ref _, .int _, .int _, .ref _]) 4 rfl ?_
  refine od_rXL rfl (hs1) ((nI_add i 3)) (by omega) (by omega) ?_
  refine od_rV (as := [.int (xs (i + 1)), .int (xs (i + 2)), .int (xs (i + 3))]) rfl rfl rfl rfl (e3) rfl (Nat.le_of_ble_eq_true rfl) (Nat.le_of_ble_eq_true rfl) (hrc) (Nat.le_of_ble_eq_true rfl) (fun o M1 hq => ?_)
  obtain ⟨⟨d2, hd2, r1⟩, r2, r3, r4, u, rfl, hu⟩ := rd_o.w hq
  refine od_K.ret ?_
  refine od_W.rn (pc' := 454) (ls' := [some (.ref _), some (.ref _), some (.ref _), some (.ref _), some (.int _), some (.int _), some (.int _)]) (st' := [.ref _]) 2 rfl ?_
  obtain ⟨b2, fu2, t1, t2⟩ := r1.h0
  have fin := fun w5 w6 => hK _ _ _ _ d2 w5 w6 (h.af c1 k2 (by omega) k4 r1 r2 r3) hd2 (by omega) (by omega)
  refine od_rV (as := []) rfl rfl rfl rfl (t1) rfl (Nat.le_of_ble_eq_true rfl) (Nat.le_of_ble_eq_true rfl) (ct_thrown t1) (Nat.le_of_ble_eq_true rfl) (fun o M1 hq => ?_)
  obtain ⟨rfl, rfl⟩ := hq
  refine od_K.ret ?_
  refine od_W.rn (pc' := 459) (ls' := [some (.ref _), some (.ref _), some (.ref _), some (.ref _), some (.int _), some (.int _), some (.int _)]) (st' := [.int _, .int _]) 1 rfl ?_
  refine od_r2T rfl rfl (decide_eq_true t2) ?_
  refine od_W.rn (pc' := 466) (ls' := [some (.ref _), some (.ref _), some (.ref _), some (.ref _), some (.int _), some (.int _), some (.int _)]) (st' := [.int _]) 1 rfl ?_
  rcases hrr : (cs_step X (xs (i + 1)) (xs (i + 2)) (xs (i + 3))).1 with v | k
  · rw [hrr] at c7 hu
    refine od_r1F rfl (of_decide_eq_true rfl) (rfl) ?_
    refine od_W.rn (pc' := 471) (ls' := [some (.ref _), some (.ref _), some (.ref _), some (.ref _), some (.int _), some (.int _), some (.int _)]) (st' := [.int _, .ref _]) 2 rfl ?_
    refine od_rLL rfl ((r2 _ (by omega)).trans c6) ((show Int32.ofInt 0 = nI 0 from rfl)) (by omega) (by decide) ?_
    refine od_W.rn (pc' := 476) (ls' := [some (.ref _), some (.ref _), some (.ref _), some (.ref _), some (.int _), some (.int _), some (.int _)]) (st' := [.int _]) 3 rfl ?_
    refine od_r1T rfl rfl ((by rw [c7 v rfl, hu v rfl, lg_cmp_self]; rfl)) ?_
    refine od_W.rn (pc' := 1230) (ls' := [some (.ref _), some (.ref _), some (.ref _), some (.ref _), some (.int _), some (.int _), some (.int _)]) (st' := []) 1 rfl ?_
    exact fin _ _
  · have hk := ki_step hrr
    have hz : (!decide (nI (cs_code (.inr k)) = 0)) = true := by rcases hk with rfl | rfl | rfl <;> rfl
    refine od_r1T rfl rfl (hz) ?_
    refine od_W.rn (pc' := 1230) (ls' := [some (.ref _), some (.ref _), some (.ref _), some (.ref _), some (.int _), some (.int _), some (.int _)]) (st' := []) 1 rfl ?_
    exact fin _ _
set_option maxRecDepth 100000 in
theorem la_chop (h : lw b L xs D W n X R d) (hi : i + 5 ≤ L) (hL : L ≤ 2560) (hK : lw_K b L xs D W d i Q) : od_W 60 153 484 (lw_ls b D i w5 w6) [] W Q := by
  have hh := h
  obtain ⟨hb, hs, hc, hr, ⟨f, hf⟩, hW⟩ := hh
  refine od_W.rn (pc' := 490) (ls' := [some (.ref _), some (.ref _), some (.ref _), some (.ref _), some (.int _), _, _]) (st' := [.int _, .ref _, .ref _]) 5 rfl ?_
  refine od_rXL rfl (hs) ((nI_inc i)) (by omega) (by omega) ?_
  refine od_W.rn (pc' := 496) (ls' := [some (.ref _), some (.ref _), some (.ref _), some (.ref _), some (.int _), _, _]) (st' := [.int _, .ref _, .int _, .ref _]) 4 rfl ?_
  refine od_rXL rfl (hs) ((nI_add i 2)) (by omega) (by omega) ?_
  refine od_W.rn (pc' := 502) (ls' := [some (.ref _), some (.ref _), some (.ref _), some (.ref _), some (.int _), _, _]) (st' := [.int _, .ref _, .int _, .int _, .ref _]) 4 rfl ?_
  refine od_rXL rfl (hs) ((nI_add i 3)) (by omega) (by omega) ?_
  refine od_W.rn (pc' := 508) (ls' := [some (.ref _), some (.ref _), some (.ref _), some (.ref _), some (.int _), _, _]) (st' := [.int _, .ref _, .int _, .int _, .int _, .ref _]) 4 rfl ?_
  refine od_rXL rfl (hs) ((nI_add i 4)) (by omega) (by omega) ?_
  refine od_W.rn (pc' := 510) (ls' := [some (.ref _), some (.ref _), some (.ref _), some (.ref _), some (.int _), _, _]) (st' := [.ref _, .int _, .int _, .int _, .int _, .ref _]) 1 rfl ?_
  refine od_rSt (as := [.ref D, .int (xs (i + 1)), .int (xs (i + 2)), .int (xs (i + 3)), .int (xs (i + 4)), .ref (D + 136)]) rfl rfl rfl rfl (Nat.le_of_ble_eq_true rfl) (Nat.le_of_ble_eq_true rfl) (wr_chop (f := f) hc (by omega) (by omega) (by omega) hf (xs (i + 1)) (xs (i + 2)) (xs (i + 3)) (xs (i + 4))) (Nat.le_of_ble_eq_true rfl) (fun o M1 hq => ?_)
  obtain ⟨rfl, c1, k2, c3, c4, c5, f1, c6, c7⟩ := hq
  have k4 : ∃ f, M1.2.2 (D + 136) = some (od_la 1 f) := ⟨f1, c6⟩
  refine od_K.ret ?_
  refine od_W.rn (pc' := 521) (ls' := [some (.ref _), some (.ref _), some (.ref _), some (.ref _), some (.int _), some (.int _), _]) (st' := [.int _, .ref _, .ref _]) 6 rfl ?_
  have hs1 := h.sc k2
  obtain ⟨bb, fu, ρr, e1, e2, e3⟩ := h.rf k2
  have hrc := ref_chop (fu := fu) e2 (xs (i + 1)) (xs (i + 2)) (xs (i + 3)) (xs (i + 4))
  rw [← e1] at hrc
  refine od_rXL rfl (hs1) ((nI_inc i)) (by omega) (by omega) ?_
  refine od_W.rn (pc' := 527) (ls' := [some (.ref _), some (.ref _), some (.ref _), some (.ref _), some (.int _), some (.int _), _]) (st' := [.int _, .ref _, .int _, .ref _]) 4 rfl ?_
  refine od_rXL rfl (hs1) ((nI_add i 2)) (by omega) (by omega) ?_
  refine od_W.rn (pc' := 533) (ls' := [some (.ref _), some (.ref _), some (.ref _), some (.ref _), some (.int _), some (.int _), _]) (st' := [.int _, .ref _, .int _, .int _, .ref _]) 4 rfl ?_
  refine od_rXL rfl (hs1) ((nI_add i 3)) (by omega) (by omega) ?_
  refine od_W.rn (pc' := 539) (ls' := [some (.ref _), some (.ref _), some (.ref _), some (.ref _), some (.int _), some (.int _), _]) (st' := [.int _, .ref _, .int _, .int _, .int _, .ref _]) 4 rfl ?_
  refine od_rXL rfl (hs1) ((nI_add i 4)) (by omega) (by omega) ?_
  refine od_rV (as := [.int (xs (i + 1)), .int (xs (i + 2)), .int (xs (i + 3)), .int (xs (i + 4))]) rfl rfl rfl rfl (e3) rfl (Nat.le_of_ble_eq_true rfl) (Nat.le_of_ble_eq_true rfl) (hrc) (Nat.le_of_ble_eq_true rfl) (fun o M1 hq => ?_)
  obtain ⟨⟨d2, hd2, r1⟩, r2, r3, r4, u, rfl, hu⟩ := rd_o.w hq
  refine od_K.ret ?_
  refine od_W.rn (pc' := 546) (ls' := [some (.ref _), some (.ref _), some (.ref _), some (.ref _), some (.int _), some (.int _), some (.int _)]) (st' := [.ref _]) 2 rfl ?_
  obtain ⟨b2, fu2, t1, t2⟩ := r1.h0
  have fin := fun w5 w6 => hK _ _ _ _ d2 w5 w6 (h.af c1 k2 (by omega) k4 r1 r2 r3) hd2 (by omega) (by omega)
  refine od_rV (as := []) rfl rfl rfl rfl (t1) rfl (Nat.le_of_ble_eq_true rfl) (Nat.le_of_ble_eq_true rfl) (ct_thrown t1) (Nat.le_of_ble_eq_true rfl) (fun o M1 hq => ?_)
  obtain ⟨rfl, rfl⟩ := hq
  refine od_K.ret ?_
  refine od_W.rn (pc' := 551) (ls' := [some (.ref _), some (.ref _), some (.ref _), some (.ref _), some (.int _), some (.int _), some (.int _)]) (st' := [.int _, .int _]) 1 rfl ?_
  refine od_r2T rfl rfl (decide_eq_true t2) ?_
  refine od_W.rn (pc' := 558) (ls' := [some (.ref _), some (.ref _), some (.ref _), some (.ref _), some (.int _), some (.int _), some (.int _)]) (st' := [.int _]) 1 rfl ?_
  rcases hrr : (cs_chop X (xs (i + 1)) (xs (i + 2)) (xs (i + 3)) (xs (i + 4))).1 with v | k
  · rw [hrr] at c7 hu
    refine od_r1F rfl (of_decide_eq_true rfl) (rfl) ?_
    refine od_W.rn (pc' := 563) (ls' := [some (.ref _), some (.ref _), some (.ref _), some (.ref _), some (.int _), some (.int _), some (.int _)]) (st' := [.int _, .ref _]) 2 rfl ?_
    refine od_rLL rfl ((r2 _ (by omega)).trans c6) ((show Int32.ofInt 0 = nI 0 from rfl)) (by omega) (by decide) ?_
    refine od_W.rn (pc' := 568) (ls' := [some (.ref _), some (.ref _), some (.ref _), some (.ref _), some (.int _), some (.int _), some (.int _)]) (st' := [.int _]) 3 rfl ?_
    refine od_r1T rfl rfl ((by rw [c7 v rfl, hu v rfl, lg_cmp_self]; rfl)) ?_
    refine od_W.rn (pc' := 1230) (ls' := [some (.ref _), some (.ref _), some (.ref _), some (.ref _), some (.int _), some (.int _), some (.int _)]) (st' := []) 1 rfl ?_
    exact fin _ _
  · have hk := ki_chop hrr
    have hz : (!decide (nI (cs_code (.inr k)) = 0)) = true := by rcases hk with rfl | rfl | rfl <;> rfl
    refine od_r1T rfl rfl (hz) ?_
    refine od_W.rn (pc' := 1230) (ls' := [some (.ref _), some (.ref _), some (.ref _), some (.ref _), some (.int _), some (.int _), some (.int _)]) (st' := []) 1 rfl ?_
    exact fin _ _
set_option maxRecDepth 100000 in
theorem la_start (h : lw b L xs D W n X R d) (hi : i + 5 ≤ L) (hL : L ≤ 2560) (hK : lw_K b L xs D W d i Q) : od_W 60 153 576 (lw_ls b D i w5 w6) [] W Q := by
  have hh := h
  obtain ⟨hb, hs, hc, hr, ⟨f, hf⟩, hW⟩ := hh
  refine od_W.rn (pc' := 582) (ls' := [some (.ref _), some (.ref _), some (.ref _), some (.ref _), some (.int _), _, _]) (st' := [.int _, .ref _, .ref _]) 5 rfl ?_
  refine od_rXL rfl (hs) ((nI_inc i)) (by omega) (by omega) ?_
  refine od_W.rn (pc' := 588) (ls' := [some (.ref _), some (.ref _), some (.ref _), some (.ref _), some (.int _), _, _]) (st' := [.int _, .ref _, .int _, .ref _]) 4 rfl ?_
  refine od_rXL rfl (hs) ((nI_add i 2)) (by omega) (by omega) ?_
  refine od_W.rn (pc' := 594) (ls' := [some (.ref _), some (.ref _), some (.ref _), some (.ref _), some (.int _), _, _]) (st' := [.int _, .ref _, .int _, .int _, .ref _]) 4 rfl ?_
  refine od_rXL rfl (hs) ((nI_add i 3)) (by omega) (by omega) ?_
  refine od_W.rn (pc' := 596) (ls' := [some (.ref _), some (.ref _), some (.ref _), some (.ref _), some (.int _), _, _]) (st' := [.ref _, .int _, .int _, .int _, .ref _]) 1 rfl ?_
  refine od_rSt (as := [.ref D, .int (xs (i + 1)), .int (xs (i + 2)), .int (xs (i + 3)), .ref (D + 136)]) rfl rfl rfl rfl (Nat.le_of_ble_eq_true rfl) (Nat.le_of_ble_eq_true rfl) (wr_start (f := f) hc (by omega) (by omega) (by omega) hf (xs (i + 1)) (xs (i + 2)) (xs (i + 3))) (Nat.le_of_ble_eq_true rfl) (fun o M1 hq => ?_)
  obtain ⟨rfl, c1, k2, c3, c4, c5, f1, c6, c7⟩ := hq
  have k4 : ∃ f, M1.2.2 (D + 136) = some (od_la 1 f) := ⟨f1, c6⟩
  refine od_K.ret ?_
  refine od_W.rn (pc' := 607) (ls' := [some (.ref _), some (.ref _), some (.ref _), some (.ref _), some (.int _), some (.int _), _]) (st' := [.int _, .ref _, .ref _]) 6 rfl ?_
  have hs1 := h.sc k2
  obtain ⟨bb, fu, ρr, e1, e2, e3⟩ := h.rf k2
  have hrc := ref_start (fu := fu) e2 (xs (i + 1)) (xs (i + 2)) (xs (i + 3))
  rw [← e1] at hrc
  refine od_rXL rfl (hs1) ((nI_inc i)) (by omega) (by omega) ?_
  refine od_W.rn (pc' := 613) (ls' := [some (.ref _), some (.ref _), some (.ref _), some (.ref _), some (.int _), some (.int _), _]) (st' := [.int _, .ref _, .int _, .ref _]) 4 rfl ?_
  refine od_rXL rfl (hs1) ((nI_add i 2)) (by omega) (by omega) ?_
  refine od_W.rn (pc' := 619) (ls' := [some (.ref _), some (.ref _), some (.ref _), some (.ref _), some (.int _), some (.int _), _]) (st' := [.int _, .ref _, .int _, .int _, .ref _]) 4 rfl ?_
  refine od_rXL rfl (hs1) ((nI_add i 3)) (by omega) (by omega) ?_
  refine od_rV (as := [.int (xs (i + 1)), .int (xs (i + 2)), .int (xs (i + 3))]) rfl rfl rfl rfl (e3) rfl (Nat.le_of_ble_eq_true rfl) (Nat.le_of_ble_eq_true rfl) (hrc) (Nat.le_of_ble_eq_true rfl) (fun o M1 hq => ?_)
  obtain ⟨⟨d2, hd2, r1⟩, r2, r3, r4, u, rfl, hu⟩ := rd_o.w hq
  refine od_K.ret ?_
  refine od_W.rn (pc' := 626) (ls' := [some (.ref _), some (.ref _), some (.ref _), some (.ref _), some (.int _), some (.int _), some (.int _)]) (st' := [.ref _]) 2 rfl ?_
  obtain ⟨b2, fu2, t1, t2⟩ := r1.h0
  have fin := fun w5 w6 => hK _ _ _ _ d2 w5 w6 (h.af c1 k2 (by omega) k4 r1 r2 r3) hd2 (by omega) (by omega)
  refine od_rV (as := []) rfl rfl rfl rfl (t1) rfl (Nat.le_of_ble_eq_true rfl) (Nat.le_of_ble_eq_true rfl) (ct_thrown t1) (Nat.le_of_ble_eq_true rfl) (fun o M1 hq => ?_)
  obtain ⟨rfl, rfl⟩ := hq
  refine od_K.ret ?_
  refine od_W.rn (pc' := 631) (ls' := [some (.ref _), some (.ref _), some (.ref _), some (.ref _), some (.int _), some (.int _), some (.int _)]) (st' := [.int _, .int _]) 1 rfl ?_
  refine od_r2T rfl rfl (decide_eq_true t2) ?_
  refine od_W.rn (pc' := 638) (ls' := [some (.ref _), some (.ref _), some (.ref _), some (.ref _), some (.int _), some (.int _), some (.int _)]) (st' := [.int _]) 1 rfl ?_
  rcases hrr : (cs_start X (xs (i + 1)) (xs (i + 2)) (xs (i + 3))).1 with v | k
  · rw [hrr] at c7 hu
    refine od_r1F rfl (of_decide_eq_true rfl) (rfl) ?_
    refine od_W.rn (pc' := 643) (ls' := [some (.ref _), some (.ref _), some (.ref _), some (.ref _), some (.int _), some (.int _), some (.int _)]) (st' := [.int _, .ref _]) 2 rfl ?_
    refine od_rLL rfl ((r2 _ (by omega)).trans c6) ((show Int32.ofInt 0 = nI 0 from rfl)) (by omega) (by decide) ?_
    refine od_W.rn (pc' := 648) (ls' := [some (.ref _), some (.ref _), some (.ref _), some (.ref _), some (.int _), some (.int _), some (.int _)]) (st' := [.int _]) 3 rfl ?_
    refine od_r1T rfl rfl ((by rw [c7 v rfl, hu v rfl, lg_cmp_self]; rfl)) ?_
    refine od_W.rn (pc' := 1230) (ls' := [some (.ref _), some (.ref _), some (.ref _), some (.ref _), some (.int _), some (.int _), some (.int _)]) (st' := []) 1 rfl ?_
    exact fin _ _
  · have hk := ki_start hrr
    have hz : (!decide (nI (cs_code (.inr k)) = 0)) = true := by rcases hk with rfl | rfl | rfl <;> rfl
    refine od_r1T rfl rfl (hz) ?_
    refine od_W.rn (pc' := 1230) (ls' := [some (.ref _), some (.ref _), some (.ref _), some (.ref _), some (.int _), some (.int _), some (.int _)]) (st' := []) 1 rfl ?_
    exact fin _ _
end LAWC
