/-! The law: its loop, its start. -/
theorem pk_31 (x : Int32) : ∃ s, s < 32 ∧ x &&& (Int8.ofInt 31).toInt32 = nI s := ⟨x.toBitVec.toNat % 2 ^ 5, Nat.mod_lt _ (by decide), pk_and x 5 (by decide)⟩
theorem la_cmp {L i : Nat} (hL : L ≤ 2560) (hi : i ≤ 2570) (h : L < i + 5) : nI L - Int32.ofInt 5 < nI i := by
  by_cases h5 : 5 ≤ L
  · rw [show nI L - Int32.ofInt 5 = nI (L - 5) from nI_subI (a := 5) h5]
    exact nI_lt (by omega) (by omega)
  · have hn : nI L - Int32.ofInt 5 < 0 := by
      have hc : L = 0 ∨ L = 1 ∨ L = 2 ∨ L = 3 ∨ L = 4 := by omega
      rcases hc with rfl | rfl | rfl | rfl | rfl <;> decide
    exact Int32.lt_of_lt_of_le hn (nI_le (a := 0) (by omega) (by omega))
theorem la_ncmp {L i : Nat} (hL : L ≤ 2560) (h : i + 5 ≤ L) : ¬ nI L - Int32.ofInt 5 < nI i := by
  rw [show nI L - Int32.ofInt 5 = nI (L - 5) from nI_subI (a := 5) (by omega)]
  exact nI_nlt (by omega) (by omega)
section LOOP
variable {b L D : Nat} {xs : Nat → Int32}
set_option maxRecDepth 100000 in
theorem la_loop (hL : L ≤ 2560) : ∀ (m j : Nat) (W : od_M) (n : Nat) (X R : Nat → List Nat) (d : Nat) (w5 w6 : Option Value), L < 5 * j + 5 * m + 5 → 5 * j ≤ L + 5 → lw b L xs D W n X R d → d ≤ 20 * j → W.1 ≤ D + 137 + j → W.2.1 ≤ 11274 + 6 * j → od_W 60 153 23 (lw_ls b D (5 * j) w5 w6) [] W (fun o M' => o = .inl (some (.int 1)) ∧ M'.1 ≤ D + 601024 ∧ M'.2.1 ≤ 7293034) := by
  intro m
  induction m with
  | zero =>
    intro j W n X R d w5 w6 h1 h2 h hd hw hz
    refine od_W.rn (pc' := 26) (ls' := [some (.ref _), some (.ref _), some (.ref _), some (.ref _), some (.int _), _, _]) (st' := [.ref _, .int _]) 2 rfl ?_
    refine od_rLen rfl (h.2.1) ?_
    refine od_W.rn (pc' := 29) (ls' := [some (.ref _), some (.ref _), some (.ref _), some (.ref _), some (.int _), _, _]) (st' := [.int _, .int _]) 2 rfl ?_
    refine od_r2T rfl rfl (decide_eq_true (la_cmp hL (by omega) (by omega))) ?_
    refine od_W.rn (pc' := 1237) (ls' := [some (.ref _), some (.ref _), some (.ref _), some (.ref _), some (.int _), _, _]) (st' := [.int _]) 1 rfl ?_
    refine od_W.fin rfl ?_
    exact ⟨rfl, by omega, by omega⟩
  | succ m ih =>
    intro j W n X R d w5 w6 h1 h2 h hd hw hz
    refine od_W.rn (pc' := 26) (ls' := [some (.ref _), some (.ref _), some (.ref _), some (.ref _), some (.int _), _, _]) (st' := [.ref _, .int _]) 2 rfl ?_
    refine od_rLen rfl (h.2.1) ?_
    refine od_W.rn (pc' := 29) (ls' := [some (.ref _), some (.ref _), some (.ref _), some (.ref _), some (.int _), _, _]) (st' := [.int _, .int _]) 2 rfl ?_
    by_cases hx : 5 * j + 5 ≤ L
    · refine od_r2F rfl (of_decide_eq_true rfl) (decide_eq_false (la_ncmp hL hx)) ?_
      refine od_W.rn (pc' := 35) (ls' := [some (.ref _), some (.ref _), some (.ref _), some (.ref _), some (.int _), _, _]) (st' := [.int _, .ref _]) 2 rfl ?_
      refine od_rXL rfl (h.2.1) (rfl) (by omega) (by omega) ?_
      refine od_W.rn (pc' := 39) (ls' := [some (.ref _), some (.ref _), some (.ref _), some (.ref _), some (.int _), _, _]) (st' := [.int _]) 2 rfl ?_
      have hK : lw_K b L xs D W d (5 * j) (fun o M' => o = .inl (some (.int 1)) ∧ M'.1 ≤ D + 601024 ∧ M'.2.1 ≤ 7293034) := by
        intro W' n' X' R' d' w5 w6 g1 g2 g3 g4
        refine od_W.rn (pc' := 23) (ls' := [some (.ref _), some (.ref _), some (.ref _), some (.ref _), some (.int _), _, _]) (st' := []) 2 rfl ?_
        rw [show nI (5 * j) + Int32.ofInt 5 = nI (5 * (j + 1)) by rw [show 5 * (j + 1) = 5 * j + 5 by omega]; exact nI_add (5 * j) 5]
        exact ih (j + 1) W' n' X' R' d' w5 w6 (by omega) (by omega) g1 (by omega) (by omega) (by omega)
      obtain ⟨s, hs, es⟩ := pk_31 (xs (5 * j))
      rw [es]
      have hc : s = 0 ∨ s = 1 ∨ s = 2 ∨ s = 3 ∨ s = 4 ∨ s = 5 ∨ s = 6 ∨ s = 7 ∨ s = 8 ∨ s = 9 ∨ s = 10 ∨ s = 11 ∨ s = 12 ∨ s = 13 ∨ s = 14 ∨ s = 15 ∨ s = 16 ∨ s = 17 ∨ s = 18 ∨ s = 19 ∨ s = 20 ∨ s = 21 ∨ s = 22 ∨ s = 23 ∨ s = 24 ∨ s = 25 ∨ s = 26 ∨ s = 27 ∨ s = 28 ∨ s = 29 ∨ s = 30 ∨ s = 31 := by omega
      rcases hc with rfl | rfl | rfl | rfl | rfl | rfl | rfl | rfl | rfl | rfl | rfl | rfl | rfl | rfl | rfl | rfl | rfl | rfl | rfl | rfl | rfl | rfl | rfl | rfl | rfl | rfl | rfl | rfl | rfl | rfl | rfl | rfl
      · refine od_W.rn (pc' := 124) (ls' := lw_ls b D (5 * j) w5 w6) (st' := []) 1 rfl ?_
        exact la_finite h hx hL hK
      · refine od_W.rn (pc' := 172) (ls' := lw_ls b D (5 * j) w5 w6) (st' := []) 1 rfl ?_
        exact la_raise h hx hL hK
      · refine od_W.rn (pc' := 232) (ls' := lw_ls b D (5 * j) w5 w6) (st' := []) 1 rfl ?_
        exact la_op h (by omega) hx hL hK
      · refine od_W.rn (pc' := 324) (ls' := lw_ls b D (5 * j) w5 w6) (st' := []) 1 rfl ?_
        exact la_member h hx hL hK
      · refine od_W.rn (pc' := 404) (ls' := lw_ls b D (5 * j) w5 w6) (st' := []) 1 rfl ?_
        exact la_step h hx hL hK
      · refine od_W.rn (pc' := 484) (ls' := lw_ls b D (5 * j) w5 w6) (st' := []) 1 rfl ?_
        exact la_chop h hx hL hK
      · refine od_W.rn (pc' := 576) (ls' := lw_ls b D (5 * j) w5 w6) (st' := []) 1 rfl ?_
        exact la_start h hx hL hK
      · refine od_W.rn (pc' := 656) (ls' := lw_ls b D (5 * j) w5 w6) (st' := []) 1 rfl ?_
        exact la_compare h hx hL hK
      · refine od_W.rn (pc' := 724) (ls' := lw_ls b D (5 * j) w5 w6) (st' := []) 1 rfl ?_
        exact la_kind h hx hL hK
      · refine od_W.rn (pc' := 780) (ls' := lw_ls b D (5 * j) w5 w6) (st' := []) 1 rfl ?_
        exact la_size h hx hL hK
      · refine od_W.rn (pc' := 836) (ls' := lw_ls b D (5 * j) w5 w6) (st' := []) 1 rfl ?_
        exact la_at h hx hL hK
      · refine od_W.rn (pc' := 904) (ls' := lw_ls b D (5 * j) w5 w6) (st' := []) 1 rfl ?_
        exact la_value h hx hL hK
      · refine od_W.rn (pc' := 972) (ls' := lw_ls b D (5 * j) w5 w6) (st' := []) 1 rfl ?_
        exact la_fast h hx hL hK
      · refine od_W.rn (pc' := 1052) (ls' := lw_ls b D (5 * j) w5 w6) (st' := []) 1 rfl ?_
        exact la_record h hx hL hK
      · refine od_W.rn (pc' := 1108) (ls' := lw_ls b D (5 * j) w5 w6) (st' := []) 1 rfl ?_
        exact la_rise h hx hL hK
      · refine od_W.rn (pc' := 1121) (ls' := lw_ls b D (5 * j) w5 w6) (st' := []) 1 rfl ?_
        exact la_replace h hx hL hK
      · refine od_W.rn (pc' := 1169) (ls' := lw_ls b D (5 * j) w5 w6) (st' := []) 1 rfl ?_
        exact la_recall h hx hL hK
      · refine od_W.rn (pc' := 1217) (ls' := lw_ls b D (5 * j) w5 w6) (st' := []) 1 rfl ?_
        exact la_wipe h hx hL hK
      · refine od_W.rn (pc' := 1230) (ls' := lw_ls b D (5 * j) w5 w6) (st' := []) 1 rfl ?_
        exact hK W n X R d w5 w6 h (by omega) (by omega) (by omega)
      · refine od_W.rn (pc' := 1230) (ls' := lw_ls b D (5 * j) w5 w6) (st' := []) 1 rfl ?_
        exact hK W n X R d w5 w6 h (by omega) (by omega) (by omega)
      · refine od_W.rn (pc' := 1230) (ls' := lw_ls b D (5 * j) w5 w6) (st' := []) 1 rfl ?_
        exact hK W n X R d w5 w6 h (by omega) (by omega) (by omega)
      · refine od_W.rn (pc' := 1230) (ls' := lw_ls b D (5 * j) w5 w6) (st' := []) 1 rfl ?_
        exact hK W n X R d w5 w6 h (by omega) (by omega) (by omega)
      · refine od_W.rn (pc' := 1230) (ls' := lw_ls b D (5 * j) w5 w6) (st' := []) 1 rfl ?_
        exact hK W n X R d w5 w6 h (by omega) (by omega) (by omega)
      · refine od_W.rn (pc' := 1230) (ls' := lw_ls b D (5 * j) w5 w6) (st' := []) 1 rfl ?_
        exact hK W n X R d w5 w6 h (by omega) (by omega) (by omega)
      · refine od_W.rn (pc' := 1230) (ls' := lw_ls b D (5 * j) w5 w6) (st' := []) 1 rfl ?_
        exact hK W n X R d w5 w6 h (by omega) (by omega) (by omega)
      · refine od_W.rn (pc' := 1230) (ls' := lw_ls b D (5 * j) w5 w6) (st' := []) 1 rfl ?_
        exact hK W n X R d w5 w6 h (by omega) (by omega) (by omega)
      · refine od_W.rn (pc' := 1230) (ls' := lw_ls b D (5 * j) w5 w6) (st' := []) 1 rfl ?_
        exact hK W n X R d w5 w6 h (by omega) (by omega) (by omega)
      · refine od_W.rn (pc' := 1230) (ls' := lw_ls b D (5 * j) w5 w6) (st' := []) 1 rfl ?_
        exact hK W n X R d w5 w6 h (by omega) (by omega) (by omega)
      · refine od_W.rn (pc' := 1230) (ls' := lw_ls b D (5 * j) w5 w6) (st' := []) 1 rfl ?_
        exact hK W n X R d w5 w6 h (by omega) (by omega) (by omega)
      · refine od_W.rn (pc' := 1230) (ls' := lw_ls b D (5 * j) w5 w6) (st' := []) 1 rfl ?_
        exact hK W n X R d w5 w6 h (by omega) (by omega) (by omega)
      · refine od_W.rn (pc' := 1230) (ls' := lw_ls b D (5 * j) w5 w6) (st' := []) 1 rfl ?_
        exact hK W n X R d w5 w6 h (by omega) (by omega) (by omega)
      · refine od_W.rn (pc' := 1230) (ls' := lw_ls b D (5 * j) w5 w6) (st' := []) 1 rfl ?_
        exact hK W n X R d w5 w6 h (by omega) (by omega) (by omega)
    · refine od_r2T rfl rfl (decide_eq_true (la_cmp hL (by omega) (by omega))) ?_
      refine od_W.rn (pc' := 1237) (ls' := [some (.ref _), some (.ref _), some (.ref _), some (.ref _), some (.int _), _, _]) (st' := [.int _]) 1 rfl ?_
      refine od_W.fin rfl ?_
      exact ⟨rfl, by omega, by omega⟩
end LOOP
section START
variable {d k pc : Nat} {ls : od_L} {st : List Value} {M : od_M} {Q : od_O → od_M → Prop}
theorem ly_nil : M = ly M M.1 [] M.2.1 := by
  refine od_Meq rfl rfl (fun a => ?_)
  show M.2.2 a = (if M.1 ≤ a ∧ a < M.1 + 0 then _ else M.2.2 a)
  rw [if_neg (by omega)]
theorem od_rN0 {ix im j c K W x w : Nat} {fs : List Value} {cl : Nat → List od_E} {d' : Nat} (hx : M.1 = x) (hw0 : M.2.1 = w) (h1 : od_cd k pc = some (.new ix, 3)) (h2 : od_cd k (pc + 3) = some (.dup, 1)) (h3 : od_cd k (pc + 4) = some (.invokespecial im, 3)) (hn : od_nw (od_ow k) ix = some (c, fs)) (hm : od_md (od_ow k) im = some (j, 2, 1)) (hc : ctr d' j c fs cl K) (hd : d' ≤ d) (hcl : 1 ≤ (cl x).length) (hW : fs.length + K = W) (hw : ((Value.ref x :: st).map fun v => v.category).sum ≤ 30) (hnl : 1 ≤ od_nl j) (kk : od_W (d + 1) k (pc + 7) ls (.ref x :: st) (ly M x (cl x) (w + W)) Q) : od_W (d + 1) k pc ls st M Q := by
  subst hx
  subst hw0
  rw [ly_nil (M := M)]
  refine od_rNC (n := 0) h1 h2 h3 hn hm hc hd hcl rfl hW hw hnl ?_
  exact kk
theorem od_rNl {n : Nat} (h : od_cd k pc = some (.newarray .long, 2)) (hn : n ≤ 100) (kk : od_W d k (pc + 2) ls (.ref M.1 :: st) (od_add M n (od_la n (fun _ => 0))) Q) : od_W d k pc ls (.int (nI n) :: st) M Q := by
  refine od_wX h ?_
  have h1 : (0 : Int32) ≤ nI n ∧ (nI n).toNatClampNeg ≤ 100000 := ⟨nI_le (a := 0) (by omega) (by omega), by rw [nI_clamp (by omega)]; omega⟩
  simp only [od_ins, od_newa, od_go, od_X, ↓reduceIte]
  rw [if_pos h1, nI_clamp (by omega)]
  exact kk
end START
theorem la_all (b B L : Nat) (xs : Nat → Int32) (hb : b < B) (hL : L ≤ 2560) : od_W 60 153 0 (od_ent 153 [.ref b]) [] (B, 0, va_up (fun _ => none) b (some (od_sc L xs))) (fun o M' => o = .inl (some (.int 1)) ∧ M'.1 ≤ B + 601024 ∧ M'.2.1 ≤ 7293034) := by
  rw [show od_ent 153 [.ref b] = [some (.ref b), none, none, none, none, none, none] from rfl]
  have hs0 : ((B, 0, va_up (fun _ => none) b (some (od_sc L xs))) : od_M).2.2 b = some (od_sc L xs) := by
    show va_up (fun _ => none) b (some (od_sc L xs)) b = _
    exact va_up_self _ _ _
  have hB0 : ((B, 0, va_up (fun _ => none) b (some (od_sc L xs))) : od_M).1 = B := rfl
  have hZ0 : ((B, 0, va_up (fun _ => none) b (some (od_sc L xs))) : od_M).2.1 = 0 := rfl
  generalize ((B, 0, va_up (fun _ => none) b (some (od_sc L xs))) : od_M) = M0 at *
  refine od_rN0 (d := 59) (W := 3681) hB0 hZ0 rfl rfl rfl rfl rfl ct_desk (Nat.le_of_ble_eq_true rfl) (by rw [cl_dk_len]; omega) rfl (Nat.le_of_ble_eq_true rfl) (Nat.le_of_ble_eq_true rfl) ?_
  have c1 : cw B (ly M0 B (cl_dk B) (0 + 3681)) 0 (fun _ => []) (fun _ => []) := ⟨ro0, dk_cm0 _ _ _, dk_new _ _ _ _⟩
  have s1 : (ly M0 B (cl_dk B) (0 + 3681)).2.2 b = some (od_sc L xs) := (ly_lo hb).trans hs0
  have n1 : (ly M0 B (cl_dk B) (0 + 3681)).1 = B + 128 := by show B + (cl_dk B).length = _; rw [cl_dk_len]
  have z1 : (ly M0 B (cl_dk B) (0 + 3681)).2.1 = 3681 := rfl
  generalize ly M0 B (cl_dk B) (0 + 3681) = M1 at *
  refine od_W.rn (pc' := 8) (ls' := [some (.ref _), some (.ref _), none, none, none, none, none]) (st' := []) 1 rfl ?_
  refine od_rN0 (d := 59) (W := 7592) n1 z1 rfl rfl rfl rfl rfl ct_model (Nat.le_of_ble_eq_true rfl) (Nat.le_of_ble_eq_true rfl) rfl (Nat.le_of_ble_eq_true rfl) (Nat.le_of_ble_eq_true rfl) ?_
  have c2 : cw B (ly M1 (B + 128) (cl_md (B + 128)) (3681 + 7592)) 0 (fun _ => []) (fun _ => []) := c1.tr (fun a _ ha => ly_lo ha)
  have r2 : rv (B + 128) (ly M1 (B + 128) (cl_md (B + 128)) (3681 + 7592)) 0 (fun _ => []) (fun _ => []) 0 0 := ⟨_, _, _, md_new _ _ _, rd_new _ _ _ _, rfl⟩
  have s2 : (ly M1 (B + 128) (cl_md (B + 128)) (3681 + 7592)).2.2 b = some (od_sc L xs) := (ly_lo (by omega)).trans s1
  have n2 : (ly M1 (B + 128) (cl_md (B + 128)) (3681 + 7592)).1 = B + 136 := rfl
  have z2 : (ly M1 (B + 128) (cl_md (B + 128)) (3681 + 7592)).2.1 = 11273 := rfl
  generalize ly M1 (B + 128) (cl_md (B + 128)) (3681 + 7592) = M2 at *
  refine od_W.rn (pc' := 17) (ls' := [some (.ref _), some (.ref _), some (.ref _), none, none, none, none]) (st' := [.int _]) 2 rfl ?_
  refine od_rNl (n := 1) rfl (by omega) ?_
  have fr : ∀ a, a ≠ B + 136 → (od_add M2 1 (od_la 1 (fun _ => 0))).2.2 a = M2.2.2 a := fun a ha => va_up_ne _ _ (by rw [n2]; exact ha)
  have h3 : lw b L xs B (od_add M2 1 (od_la 1 (fun _ => 0))) 0 (fun _ => []) (fun _ => []) 0 := by
    refine ⟨hb, (fr b (by omega)).trans s2, c2.tr (fun a _ ha => fr a (by omega)), ⟨0, r2.tr (fun a _ ha => fr a (by omega))⟩, ⟨fun _ => 0, ?_⟩, ?_⟩
    · rw [← n2]; exact va_up_self _ _ _
    · show B + 137 ≤ M2.1 + 1
      omega
  have n3 : (od_add M2 1 (od_la 1 (fun _ => 0))).1 = B + 137 := by show M2.1 + 1 = _; omega
  have z3 : (od_add M2 1 (od_la 1 (fun _ => 0))).2.1 = 11274 := by show M2.2.1 + 1 = _; omega
  generalize od_add M2 1 (od_la 1 (fun _ => 0)) = M3 at *
  rw [n2]
  refine od_W.rn (pc' := 23) (ls' := [some (.ref _), some (.ref _), some (.ref _), some (.ref _), some (.int _), none, none]) (st' := []) 3 rfl ?_
  exact la_loop hL (L + 1) 0 M3 0 _ _ 0 none none (by omega) (by omega) h3 (by omega) (by omega) (by omega)
