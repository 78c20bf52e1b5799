/-! The reference's calls: RAISE, OP, MEMBER, STEP. -/
def rd_z (y : Nat) (M : od_M) (d c n : Nat) (X R : Nat → List Nat) (A : od_O → Prop) : od_O → od_M → Prop := fun o M2 => ∃ M' b' fu' ρ', M2 = md M' y b' fu' ρ' ∧ od_eM (rd_V y) M M' ∧ b'.1 = nI c ∧ rd y M' b' ρ' n X R d ∧ A o
theorem rd_z.o {y d d0 c n : Nat} {M M0 : od_M} {X R : Nat → List Nat} {A : od_O → Prop} {o : od_O} {M2 : od_M} (h : rd_z y M d c n X R A o M2) (e : od_eM (rd_V y) M0 M) (hd : d ≤ d0 + 20) : rd_o y M0 d0 c n X R A o M2 := by
  obtain ⟨M', b', fu', ρ', h1, h2, h3, h4, h5⟩ := h
  exact ⟨M', b', fu', ρ', d, h1, e.tr h2, h3, h4, hd, h5⟩
def rd_set (M : od_M) (y : Nat) (b : rf_B) (fu : Bool) (ρ : od_Rm) (t : Nat) (xs : List Nat) : od_O → od_M → Prop := fun o M' => ∃ ρ', od_Bd ρ' ∧ ((fu = true ∧ o = .inl (some (.int 0)) ∧ M' = md M y (nI 3, b.2) true ρ' ∧ ρ' = ρ) ∨ (fu = false ∧ o = .inl (some (.int (nI (xs.length / 3)))) ∧ M' = md M y (nI 0, b.2) false ρ' ∧ (∀ q, q ∉ [t] → ρ' q = ρ q) ∧ od_hl ρ' t xs))
section RC2
variable {y n d : Nat} {M : od_M} {b : rf_B} {fu : Bool} {ρ : od_Rm} {X R : Nat → List Nat}
theorem rd.st (h : rd y M b ρ n X R d) {t : Nat} {xs : List Nat} {ok : Prop} {o : od_O} {M2 : od_M} (ht : t < 8) (hok : fu = false ↔ ok) (hW : ok → tm_W xs) (hq : rd_set M y b fu ρ t xs o M2) : ∃ v : Int32, o = .inl (some (.int v)) ∧ rd_z y M d (cs_code (cs_keep X t ok xs).1) n (cs_keep X t ok xs).2 R (rd_a (cs_keep X t ok xs).1) (.inl (some (.int v))) M2 := by
  obtain ⟨ρ', hb, ⟨z1, rfl, rfl, rfl⟩ | ⟨z1, rfl, rfl, z4, z5⟩⟩ := hq
  · have hn : ¬ ok := fun z => by rw [hok.mpr z] at z1; exact absurd z1 (by decide)
    rw [show cs_keep X t ok xs = (.inr 2, X) from cif_neg hn _ _]
    exact ⟨_, rfl, M, _, _, _, rfl, od_eM.refl _ _, rfl, h.cd _, _, rfl, fun w z => absurd z (by simp)⟩
  · have hy : ok := hok.mp z1
    rw [show cs_keep X t ok xs = (.inl (nI (xs.length / 3)), va_up X t xs) from cif_pos hy _ _]
    exact ⟨_, rfl, M, _, _, _, rfl, od_eM.refl _ _, rfl, (h.cd _).set ht hb z4 z5 (hW hy), _, rfl, fun w z => Sum.inl.inj z⟩
theorem md_ful : od_set (md M y b fu ρ) y (od_ob 8 [.int b.1, .ref (y + 1), .ref (y + 2), .int 0, .int b.2.1, .int b.2.2.1, .ref (y + 3), .ref (y + 4), .ref (y + 5), .ref (y + 6), .ref (y + 7)]) = md M y b false ρ := md_ob (b' := b) (fu' := false) rfl
theorem ref_raise (h : rd y M b ρ n X R d) (e c to : Int32) : od_W 4 116 0 (od_ent 116 [.ref y, .int e, .int c, .int to]) [] (md M y b fu ρ) (rd_o y M d (cs_code (cs_raise X e c to).1) n (cs_raise X e c to).2 R (fun o => o = .inl none)) := by
  have e0 : od_ent 116 [.ref y, .int e, .int c, .int to] = [some (.ref y), some (.int e), some (.int c), some (.int to), none] := rfl
  rw [e0]
  unfold cs_raise
  have bad1 : od_W 4 116 15 [some (.ref y), some (.int e), some (.int c), some (.int to), none] [.ref y] (md M y b fu ρ) (rd_o y M d 1 n X R (fun o => o = .inl none)) := by
    refine od_W.rn (pc' := 35) (ls' := [some (.ref _), some (.int _), some (.int _), some (.int _), none]) (st' := [.int _, .ref _]) 2 rfl ?_
    refine od_rP rfl (md_0) rfl (by simp) rfl (by decide) ?_
    rw [show od_set (md M y b fu ρ) y (od_ob 8 (List.set _ 0 (.int (Int32.ofInt 1)))) = md M y (nI 1, b.2) fu ρ from md_code]
    refine od_W.rn (pc' := 39) (ls' := [some (.ref _), some (.int _), some (.int _), some (.int _), none]) (st' := [.ref _]) 1 rfl ?_
    refine od_rG rfl (md_0) rfl rfl ?_
    refine od_r1F rfl (of_decide_eq_true rfl) (rfl) ?_
    refine od_W.fin rfl ?_
    exact (h.cd _).o rfl rfl
  have bad2 : od_W 4 116 30 [some (.ref y), some (.int e), some (.int c), some (.int to), none] [.ref y] (md M y b fu ρ) (rd_o y M d 2 n X R (fun o => o = .inl none)) := by
    refine od_W.rn (pc' := 35) (ls' := [some (.ref _), some (.int _), some (.int _), some (.int _), none]) (st' := [.int _, .ref _]) 2 rfl ?_
    refine od_rP rfl (md_0) rfl (by simp) rfl (by decide) ?_
    rw [show od_set (md M y b fu ρ) y (od_ob 8 (List.set _ 0 (.int (Int32.ofInt 2)))) = md M y (nI 2, b.2) fu ρ from md_code]
    refine od_W.rn (pc' := 39) (ls' := [some (.ref _), some (.int _), some (.int _), some (.int _), none]) (st' := [.ref _]) 1 rfl ?_
    refine od_rG rfl (md_0) rfl rfl ?_
    refine od_r1F rfl (of_decide_eq_true rfl) (rfl) ?_
    refine od_W.fin rfl ?_
    exact (h.cd _).o rfl rfl
  refine od_W.rn (pc' := 2) (ls' := [some (.ref _), some (.int _), some (.int _), some (.int _), none]) (st' := [.int _, .ref _]) 2 rfl ?_
  refine od_rSt (as := [.int e]) rfl rfl rfl rfl (Nat.le_of_ble_eq_true rfl) (Nat.le_of_ble_eq_true rfl) (ct_noSlot e) (Nat.le_of_ble_eq_true rfl) (fun o M1 hq => ?_)
  obtain ⟨rfl, rfl⟩ := hq
  refine od_K.ret ?_
  rcases sl_is (m := 8) (by omega) e with ⟨e1, _⟩ | ⟨i, hi, rfl, e1⟩
  · rw [e1]
    refine od_r1T rfl rfl (rfl) ?_
    exact bad1
  · rw [e1]
    dsimp only
    refine od_r1F rfl (of_decide_eq_true rfl) (rfl) ?_
    refine od_W.rn (pc' := 9) (ls' := [some (.ref _), some (.int _), some (.int _), some (.int _), none]) (st' := [.int _, .ref _]) 1 rfl ?_
    refine od_rSt (as := [.int to]) rfl rfl rfl rfl (Nat.le_of_ble_eq_true rfl) (Nat.le_of_ble_eq_true rfl) (ct_noSlot to) (Nat.le_of_ble_eq_true rfl) (fun o M1 hq => ?_)
    obtain ⟨rfl, rfl⟩ := hq
    refine od_K.ret ?_
    rcases sl_is (m := 8) (by omega) to with ⟨e1, _⟩ | ⟨t, ht, rfl, e1⟩
    · rw [e1]
      refine od_r1F rfl (of_decide_eq_true rfl) (rfl) ?_
      exact bad1
    · rw [e1]
      dsimp only
      refine od_r1T rfl rfl (rfl) ?_
      refine od_W.rn (pc' := 21) (ls' := [some (.ref _), some (.int _), some (.int _), some (.int _), none]) (st' := [.int _, .int _, .ref _]) 2 rfl ?_
      by_cases h0 : c < 1
      · rw [if_neg (fun z => absurd (Int32.lt_of_lt_of_le h0 z.1) Int32.lt_irrefl)]
        refine od_r2T rfl rfl (decide_eq_true h0) ?_
        exact bad2
      · refine od_r2F rfl (of_decide_eq_true rfl) (decide_eq_false h0) ?_
        refine od_W.rn (pc' := 27) (ls' := [some (.ref _), some (.int _), some (.int _), some (.int _), none]) (st' := [.int _, .int _, .ref _]) 2 rfl ?_
        by_cases h1 : c ≤ 1000000
        · have hc : 1 ≤ c ∧ c ≤ 1000000 := ⟨Int32.not_lt.mp h0, h1⟩
          rw [if_pos hc]
          obtain ⟨c, hc2, rfl⟩ := nI_in0 (n := 1000000) (by decide) ⟨Int32.le_trans (by decide) hc.1, hc.2⟩
          have hc1 : 1 ≤ c := (nI_leI (a := 1) (by omega) (by omega)).mp hc.1
          rw [nI_clamp (by omega)]
          have hsi := h.2.2.2.2.1 i hi
          refine od_r2T rfl rfl (decide_eq_true h1) ?_
          refine od_W.rn (pc' := 35) (ls' := [some (.ref _), some (.int _), some (.int _), some (.int _), none]) (st' := [.int _, .ref _]) 1 rfl ?_
          refine od_rP rfl (md_0) rfl (by simp) rfl (by decide) ?_
          rw [show od_set (md M y b fu ρ) y (od_ob 8 (List.set _ 0 (.int (Int32.ofInt 0)))) = md M y (nI 0, b.2) fu ρ from md_code]
          refine od_W.rn (pc' := 39) (ls' := [some (.ref _), some (.int _), some (.int _), some (.int _), none]) (st' := [.ref _]) 1 rfl ?_
          refine od_rG rfl (md_0) rfl rfl ?_
          refine od_r1T rfl rfl (rfl) ?_
          refine od_W.rn (pc' := 48) (ls' := [some (.ref _), some (.int _), some (.int _), some (.int _), none]) (st' := [.int _, .ref _]) 2 rfl ?_
          refine od_rP rfl (md_0) rfl (by simp) rfl (by decide) ?_
          rw [show od_set (md M y (nI 0, b.2) fu ρ) y (od_ob 8 (List.set _ 3 (.int (Int32.ofInt 0)))) = md M y (nI 0, b.2) false ρ from md_ful]
          refine od_W.rn (pc' := 54) (ls' := [some (.ref _), some (.int _), some (.int _), some (.int _), none]) (st' := [.int _, .ref _]) 2 rfl ?_
          refine od_rV (as := [.int (nI 89)]) rfl rfl rfl rfl (md_0) rfl (Nat.le_of_ble_eq_true rfl) (Nat.le_of_ble_eq_true rfl) (rt_clear h.2.2.2.1 (by omega)) (Nat.le_of_ble_eq_true rfl) (fun o M1 hq => ?_)
          obtain ⟨rfl, fu1, ρ1, rfl, f1, b1, k1, p1⟩ := hq
          refine od_K.ret ?_
          have hf1 : fu1 = false := k1.mpr ⟨rfl, trivial⟩
          subst hf1
          have hs1 := hsi.1.fr (f1 i (od_n1 (by omega)))
          refine od_W.rn (pc' := 63) (ls' := [some (.ref _), some (.int _), some (.int _), some (.int _), none]) (st' := [.long _, .int _, .int _, .ref _]) 5 rfl ?_
          rw [nI_1000 hc2]
          refine od_rV (as := [.int (nI 89), .int (nI i), .long (lN c)]) rfl rfl rfl rfl (md_0) rfl (Nat.le_of_ble_eq_true rfl) (Nat.le_of_ble_eq_true rfl) (rc_appendTerm (xs := []) b1 (by omega) (by omega) (by omega) (fun _ => ⟨hs1, rfl, by omega⟩) p1) (Nat.le_of_ble_eq_true rfl) (fun o M1 hq => ?_)
          rw [List.nil_append] at hq
          obtain ⟨rfl, fu2, ρ2, rfl, f2, b2, k2, p2⟩ := hq
          refine od_K.ret ?_
          have h2 : rd y M (nI 0, b.2) ρ2 n X R d := (h.cd _).hi b2 (fun q hq => (f2 q (od_n1 (by omega))).trans (f1 q (od_n1 (by omega))))
          refine od_W.rn (pc' := 68) (ls' := [some (.ref _), some (.int _), some (.int _), some (.int _), none]) (st' := [.int _, .ref _]) 2 rfl ?_
          refine od_rV (as := [.int (nI t)]) rfl rfl rfl rfl (md_0) rfl (Nat.le_of_ble_eq_true rfl) (Nat.le_of_ble_eq_true rfl) (rt_settle ht b2 p2) (Nat.le_of_ble_eq_true rfl) (fun o M1 hq => ?_)
          obtain ⟨v, rfl, hz⟩ := h2.st (ok := tm_ft (tm_t (X i, c))) ht (by rw [k2]; exact ⟨fun z => z.2, fun z => ⟨rfl, z⟩⟩) (fun z => tm_t_W ⟨hsi.2, hc1, hc2⟩) hq
          refine od_K.ret ?_
          refine od_W.rn (pc' := 73) (ls' := [some (.ref _), some (.int _), some (.int _), some (.int _), some (.int _)]) (st' := []) 1 rfl ?_
          refine od_W.fin rfl ?_
          obtain ⟨M', b', fu', ρ', q1, q2, q3, q4, q5⟩ := hz
          exact ⟨M', b', fu', ρ', d, q1, q2, q3, q4, by omega, rfl⟩
        · rw [if_neg (fun z => h1 z.2)]
          refine od_r2F rfl (of_decide_eq_true rfl) (decide_eq_false h1) ?_
          exact bad2
set_option maxRecDepth 100000 in
theorem ref_op_set (h : rd y M b ρ n X R d) {M0 : od_M} {d0 t : Nat} {k a c : Int32} {xs : List Nat} {ok : Prop} (ht : t < 8) (e : od_eM (rd_V y) M0 M) (hd : d ≤ d0 + 20) (hok : fu = false ↔ ok) (hW : ok → tm_W xs) (hx : fu = false → od_hl ρ 89 xs) : od_W 8 117 235 [some (.ref y), some (.int k), some (.int a), some (.int c), some (.int (nI t))] [] (md M y b fu ρ) (rd_o y M0 d0 (cs_code (cs_keep X t ok xs).1) n (cs_keep X t ok xs).2 R (rd_a (cs_keep X t ok xs).1)) := by
  refine od_W.rn (pc' := 238) (ls' := [some (.ref _), some (.int _), some (.int _), some (.int _), some (.int _)]) (st' := [.int _, .ref _]) 2 rfl ?_
  refine od_rV (as := [.int (nI t)]) rfl rfl rfl rfl (md_0) rfl (Nat.le_of_ble_eq_true rfl) (Nat.le_of_ble_eq_true rfl) (rt_settle ht h.2.2.2.1 hx) (Nat.le_of_ble_eq_true rfl) (fun o M1 hq => ?_)
  obtain ⟨v, rfl, hz⟩ := h.st ht hok hW hq
  refine od_K.ret ?_
  refine od_W.fin rfl ?_
  exact hz.o e hd
set_option maxRecDepth 100000 in
theorem ref_op_sw (h : rd y M b ρ n X R d) {i j t k : Nat} (hi : i < 8) (hj : j < 8) (ht : t < 8) (hk : k ≤ 7) (hj0 : 6 ≤ k → X j ≠ []) (h5 : k = 5 → tm_cmp (X i) (X j) ≠ -1) (hd : d + 20 ≤ 1000000) : od_W 8 117 105 [some (.ref y), some (.int (nI k)), some (.int (nI i)), some (.int (nI j)), some (.int (nI t))] [] (md M y b false ρ) (rd_o y M d (cs_code (cs_keep X t (op_ok k (X i) (X j)) (op_v k (X i) (X j))).1) n (cs_keep X t (op_ok k (X i) (X j)) (op_v k (X i) (X j))).2 R (rd_a (cs_keep X t (op_ok k (X i) (X j)) (op_v k (X i) (X j))).1)) := by
  have hb := h.2.2.2.1
  have hsi := h.2.2.2.2.1 i hi
  have hsj := h.2.2.2.2.1 j hj
  have ai := tm_al_tp hsi.2
  have aj := tm_al_tp hsj.2
  have xi : od_hl ρ i (tm_fl (tm_tp (X i))) := by rw [tm_fl_tp hsi.2]; exact hsi.1
  have xj : od_hl ρ j (tm_fl (tm_tp (X j))) := by rw [tm_fl_tp hsj.2]; exact hsj.1
  have rf := od_eM.refl (rd_V y) M
  obtain rfl | rfl | rfl | rfl | rfl | rfl | hk67 : k = 0 ∨ k = 1 ∨ k = 2 ∨ k = 3 ∨ k = 4 ∨ k = 5 ∨ 6 ≤ k := by omega
  · refine od_W.rn (pc' := 144) (ls' := [some (.ref _), some (.int _), some (.int _), some (.int _), some (.int _)]) (st' := []) 2 rfl ?_
    refine od_W.rn (pc' := 149) (ls' := [some (.ref _), some (.int _), some (.int _), some (.int _), some (.int _)]) (st' := [.int _, .int _, .int _, .ref _]) 4 rfl ?_
    refine od_rV (as := [.int (nI i), .int (nI j), .int (nI 89)]) rfl rfl rfl rfl (md_0) rfl (Nat.le_of_ble_eq_true rfl) (Nat.le_of_ble_eq_true rfl) (rc_sum (by omega) (by omega) (by omega) (by simp; omega) (by simp; omega) (by simp) hb (fun _ => ⟨⟨xi, ai⟩, xj, aj⟩)) (Nat.le_of_ble_eq_true rfl) (fun o M1 hq => ?_)
    obtain ⟨rfl, fu1, ρ1, rfl, f1, b1, k1, p1⟩ := hq
    refine od_K.ret ?_
    refine od_W.rn (pc' := 235) (ls' := [some (.ref _), some (.int _), some (.int _), some (.int _), some (.int _)]) (st' := []) 1 rfl ?_
    exact ref_op_set (h.hi b1 (fun q hq => f1 q (by simp; omega))) ht rf (by omega) (by rw [k1]; exact ⟨fun z => z.2, fun z => ⟨rfl, z⟩⟩) (fun z => tm_fl_W (sp_sum_al ai aj z.2)) p1
  · refine od_W.rn (pc' := 155) (ls' := [some (.ref _), some (.int _), some (.int _), some (.int _), some (.int _)]) (st' := []) 2 rfl ?_
    refine od_W.rn (pc' := 160) (ls' := [some (.ref _), some (.int _), some (.int _), some (.int _), some (.int _)]) (st' := [.int _, .int _, .int _, .ref _]) 4 rfl ?_
    refine od_rV (as := [.int (nI i), .int (nI j), .int (nI 89)]) rfl rfl rfl rfl (md_0) rfl (Nat.le_of_ble_eq_true rfl) (Nat.le_of_ble_eq_true rfl) (rc_prd (by omega) (by omega) (by omega) (by simp) (by simp; omega) (by simp; omega) hb (fun _ => ⟨⟨xi, ai⟩, xj, aj⟩)) (Nat.le_of_ble_eq_true rfl) (fun o M1 hq => ?_)
    obtain ⟨rfl, fu1, ρ1, rfl, f1, b1, k1, p1⟩ := hq
    refine od_K.ret ?_
    refine od_W.rn (pc' := 235) (ls' := [some (.ref _), some (.int _), some (.int _), some (.int _), some (.int _)]) (st' := []) 1 rfl ?_
    exact ref_op_set (h.hi b1 (fun q hq => f1 q (by simp; omega))) ht rf (by omega) (by rw [k1]; exact ⟨fun z => z.2, fun z => ⟨rfl, z⟩⟩) (fun z => tm_fl_W (sp_mul_al ai aj z.2)) p1
  · refine od_W.rn (pc' := 166) (ls' := [some (.ref _), some (.int _), some (.int _), some (.int _), some (.int _)]) (st' := []) 2 rfl ?_
    refine od_W.rn (pc' := 171) (ls' := [some (.ref _), some (.int _), some (.int _), some (.int _), some (.int _)]) (st' := [.int _, .int _, .int _, .ref _]) 4 rfl ?_
    refine od_rV (as := [.int (nI i), .int (nI j), .int (nI 89)]) rfl rfl rfl rfl (md_0) rfl (Nat.le_of_ble_eq_true rfl) (Nat.le_of_ble_eq_true rfl) (rt_power (by omega) (by omega) (by omega) (by simp) (by simp; omega) (by simp; omega) h.2.2.2.2.2.2.2.2 hd hb ai aj xi xj) (Nat.le_of_ble_eq_true rfl) (fun o M1 hq => ?_)
    obtain ⟨g', d', w1, w2, hq⟩ := hq
    obtain ⟨rfl, fu1, ρ1, rfl, f1, b1, k1, p1⟩ := hq
    refine od_K.ret ?_
    refine od_W.rn (pc' := 235) (ls' := [some (.ref _), some (.int _), some (.int _), some (.int _), some (.int _)]) (st' := []) 1 rfl ?_
    have h1 : rd y M (rf_bg b g') ρ1 n X R d' := by
      have h2 := h.hi b1 (fun q hq => f1 q (by simp; omega))
      obtain ⟨z1, z2, z3, z4, z5, z6, z7, z8, z9⟩ := h2
      exact ⟨z1, z2, z3, z4, z5, z6, z7, z8, w1⟩
    exact ref_op_set h1 ht rf w2 (by rw [k1]; exact ⟨fun z => z.2, fun z => ⟨rfl, z⟩⟩) (fun z => tm_fl_W (sp_pow_al ai aj z)) p1
  · refine od_W.rn (pc' := 177) (ls' := [some (.ref _), some (.int _), some (.int _), some (.int _), some (.int _)]) (st' := []) 2 rfl ?_
    refine od_W.rn (pc' := 182) (ls' := [some (.ref _), some (.int _), some (.int _), some (.int _), some (.int _)]) (st' := [.int _, .int _, .int _, .ref _]) 4 rfl ?_
    refine od_rV (as := [.int (nI i), .int (nI j), .int (nI 89)]) rfl rfl rfl rfl (md_0) rfl (Nat.le_of_ble_eq_true rfl) (Nat.le_of_ble_eq_true rfl) (rc_mrg (by omega) (by omega) (by omega) (by simp; omega) (by simp; omega) (by simp) hb (fun _ => ⟨⟨xi, ai⟩, xj, aj⟩)) (Nat.le_of_ble_eq_true rfl) (fun o M1 hq => ?_)
    obtain ⟨rfl, fu1, ρ1, rfl, f1, b1, k1, p1⟩ := hq
    refine od_K.ret ?_
    refine od_W.rn (pc' := 235) (ls' := [some (.ref _), some (.int _), some (.int _), some (.int _), some (.int _)]) (st' := []) 1 rfl ?_
    exact ref_op_set (h.hi b1 (fun q hq => f1 q (by simp; omega))) ht rf (by omega) (by rw [k1]; exact ⟨fun z => z.2, fun z => ⟨rfl, z⟩⟩) (fun z => tm_fl_W (sp_nat_al ai aj z.2)) p1
  · refine od_W.rn (pc' := 188) (ls' := [some (.ref _), some (.int _), some (.int _), some (.int _), some (.int _)]) (st' := []) 2 rfl ?_
    refine od_W.rn (pc' := 193) (ls' := [some (.ref _), some (.int _), some (.int _), some (.int _), some (.int _)]) (st' := [.int _, .int _, .int _, .ref _]) 4 rfl ?_
    refine od_rV (as := [.int (nI i), .int (nI j), .int (nI 89)]) rfl rfl rfl rfl (md_0) rfl (Nat.le_of_ble_eq_true rfl) (Nat.le_of_ble_eq_true rfl) (rt_crs (by omega) (by omega) (by omega) (by simp) (by simp; omega) (by simp; omega) hb xi ai xj aj) (Nat.le_of_ble_eq_true rfl) (fun o M1 hq => ?_)
    obtain ⟨rfl, fu1, ρ1, rfl, f1, b1, k1, p1⟩ := hq
    refine od_K.ret ?_
    refine od_W.rn (pc' := 235) (ls' := [some (.ref _), some (.int _), some (.int _), some (.int _), some (.int _)]) (st' := []) 1 rfl ?_
    exact ref_op_set (h.hi b1 (fun q hq => f1 q (by simp; omega))) ht rf (by omega) (by rw [k1]; exact ⟨fun z => z.2, fun z => ⟨rfl, z⟩⟩) (fun z => tm_fl_W (sp_np_al (tot := []) aj ai trivial z)) p1
  · refine od_W.rn (pc' := 199) (ls' := [some (.ref _), some (.int _), some (.int _), some (.int _), some (.int _)]) (st' := []) 2 rfl ?_
    refine od_W.rn (pc' := 204) (ls' := [some (.ref _), some (.int _), some (.int _), some (.int _), some (.int _)]) (st' := [.int _, .int _, .int _, .ref _]) 4 rfl ?_
    refine od_rV (as := [.int (nI i), .int (nI j), .int (nI 89)]) rfl rfl rfl rfl (md_0) rfl (Nat.le_of_ble_eq_true rfl) (Nat.le_of_ble_eq_true rfl) (rt_dif (by omega) (by omega) (by omega) (by simp) (by simp; omega) (by simp; omega) hb xi ai xj aj (by rw [tm_fl_tp hsi.2, tm_fl_tp hsj.2]; exact h5 rfl)) (Nat.le_of_ble_eq_true rfl) (fun o M1 hq => ?_)
    obtain ⟨rfl, fu1, ρ1, rfl, f1, b1, k1, p1⟩ := hq
    refine od_K.ret ?_
    refine od_W.rn (pc' := 235) (ls' := [some (.ref _), some (.int _), some (.int _), some (.int _), some (.int _)]) (st' := []) 1 rfl ?_
    exact ref_op_set (h.hi b1 (fun q hq => f1 q (by simp; omega))) ht rf (by omega) (by rw [k1]; exact ⟨fun z => z.2, fun z => ⟨rfl, z⟩⟩) (fun z => tm_fl_W (sp_dif_al ai)) p1
  · have hne := hj0 hk67
    obtain ⟨u, us, hus⟩ : ∃ u us, tm_tp (X j) = u :: us := by
      rcases hz : tm_tp (X j) with _ | ⟨u, us⟩
      · exact absurd ((tm_fl_tp hsj.2).symm.trans (by rw [hz]; rfl)) hne
      · exact ⟨u, us, rfl⟩
    have hftq := sp_quo_ft (us := us) (u := u) ai ⟨xi.le hb, xi.2⟩
    rw [hus] at aj xj
    have sw : od_W 8 117 210 [some (.ref y), some (.int (nI k)), some (.int (nI i)), some (.int (nI j)), some (.int (nI t))] [] (md M y b false ρ) (rd_o y M d (cs_code (cs_keep X t (op_ok k (X i) (X j)) (op_v k (X i) (X j))).1) n (cs_keep X t (op_ok k (X i) (X j)) (op_v k (X i) (X j))).2 R (rd_a (cs_keep X t (op_ok k (X i) (X j)) (op_v k (X i) (X j))).1)) := by
      refine od_W.rn (pc' := 213) (ls' := [some (.ref _), some (.int _), some (.int _), some (.int _), some (.int _)]) (st' := [.int _, .int _, .ref _]) 3 rfl ?_
      refine od_rV (as := [.int (nI i), .int (nI j)]) rfl rfl rfl rfl (md_0) rfl (Nat.le_of_ble_eq_true rfl) (Nat.le_of_ble_eq_true rfl) (rt_divide (by omega) (by omega) (by simp; omega) (by simp; omega) hb ai aj xi xj) (Nat.le_of_ble_eq_true rfl) (fun o M1 hq => ?_)
      obtain ⟨rfl, fu1, ρ1, rfl, f1, b1, k1, p1⟩ := hq
      refine od_K.ret ?_
      have hf1 : fu1 = false := k1.mpr ⟨rfl, trivial⟩
      subst hf1
      obtain ⟨p79, p80⟩ := p1 rfl
      refine od_W.rn (pc' := 220) (ls' := [some (.ref _), some (.int _), some (.int _), some (.int _), some (.int _)]) (st' := [.int _, .int _, .ref _]) 3 rfl ?_
      have hm : k = 6 ∨ k = 7 := by omega
      rcases hm with rfl | rfl
      · have ev : op_v 6 (X i) (X j) = tm_fl (sp_quo (tm_tp (X i)) u us) := by show (match tm_tp (X j) with | [] => [] | u :: us => tm_fl (sp_quo (tm_tp (X i)) u us)) = _; rw [hus]
        have eo : op_ok 6 (X i) (X j) = tm_ft (tm_fl (sp_quo (tm_tp (X i)) u us)) := by show (match tm_tp (X j) with | [] => True | u :: us => tm_ft (tm_fl (sp_quo (tm_tp (X i)) u us))) = _; rw [hus]
        rw [ev, eo]
        refine od_r2F rfl (of_decide_eq_true rfl) (rfl) ?_
        refine od_W.rn (pc' := 232) (ls' := [some (.ref _), some (.int _), some (.int _), some (.int _), some (.int _)]) (st' := [.int _, .int _, .ref _]) 3 rfl ?_
        refine od_rV (as := [.int (nI 79), .int (nI 89)]) rfl rfl rfl rfl (md_0) rfl (Nat.le_of_ble_eq_true rfl) (Nat.le_of_ble_eq_true rfl) (ex_copy b1 (by omega) (by omega) (by omega) p79) (Nat.le_of_ble_eq_true rfl) (fun o M1 hq => ?_)
        obtain ⟨rfl, ρ2, rfl, f2, b2, p2⟩ := hq
        refine od_K.ret ?_
        exact ref_op_set (h.hi b2 (fun q hq => (f2 q (by simp; omega)).trans (f1 q (by simp; omega)))) ht rf (by omega) ⟨fun _ => hftq, fun _ => rfl⟩ (fun z => tm_fl_W (sp_quo_al ai)) (fun _ => p2)
      · have ev : op_v 7 (X i) (X j) = tm_fl (sp_rem (tm_tp (X i)) u us) := by show (match tm_tp (X j) with | [] => [] | u :: us => tm_fl (sp_rem (tm_tp (X i)) u us)) = _; rw [hus]
        have eo : op_ok 7 (X i) (X j) = tm_ft (tm_fl (sp_quo (tm_tp (X i)) u us)) := by show (match tm_tp (X j) with | [] => True | u :: us => tm_ft (tm_fl (sp_quo (tm_tp (X i)) u us))) = _; rw [hus]
        rw [ev, eo]
        refine od_r2T rfl rfl (rfl) ?_
        refine od_W.rn (pc' := 232) (ls' := [some (.ref _), some (.int _), some (.int _), some (.int _), some (.int _)]) (st' := [.int _, .int _, .ref _]) 2 rfl ?_
        refine od_rV (as := [.int (nI 80), .int (nI 89)]) rfl rfl rfl rfl (md_0) rfl (Nat.le_of_ble_eq_true rfl) (Nat.le_of_ble_eq_true rfl) (ex_copy b1 (by omega) (by omega) (by omega) p80) (Nat.le_of_ble_eq_true rfl) (fun o M1 hq => ?_)
        obtain ⟨rfl, ρ2, rfl, f2, b2, p2⟩ := hq
        refine od_K.ret ?_
        exact ref_op_set (h.hi b2 (fun q hq => (f2 q (by simp; omega)).trans (f1 q (by simp; omega)))) ht rf (by omega) ⟨fun _ => hftq, fun _ => rfl⟩ (fun z => tm_fl_W (sp_rem_al ai)) (fun _ => p2)
    have hm : k = 6 ∨ k = 7 := by omega
    rcases hm with rfl | rfl
    · exact od_W.rn (pc' := 210) (ls' := [some (.ref _), some (.int _), some (.int _), some (.int _), some (.int _)]) (st' := []) 2 rfl sw
    · exact od_W.rn (pc' := 210) (ls' := [some (.ref _), some (.int _), some (.int _), some (.int _), some (.int _)]) (st' := []) 2 rfl sw
set_option maxRecDepth 100000 in
theorem ref_op (h : rd y M b ρ n X R d) (hd : d + 20 ≤ 1000000) (kind a c to : Int32) : od_W 8 117 0 (od_ent 117 [.ref y, .int kind, .int a, .int c, .int to]) [] (md M y b fu ρ) (rd_o y M d (cs_code (cs_op X kind a c to).1) n (cs_op X kind a c to).2 R (rd_a (cs_op X kind a c to).1)) := by
  have e0 : od_ent 117 [.ref y, .int kind, .int a, .int c, .int to] = [some (.ref y), some (.int kind), some (.int a), some (.int c), some (.int to)] := rfl
  rw [e0]
  unfold cs_op
  have bad1 : od_W 8 117 23 [some (.ref y), some (.int kind), some (.int a), some (.int c), some (.int to)] [.ref y] (md M y b fu ρ) (rd_o y M d 1 n X R (rd_a (.inr 0))) := by
    refine od_W.rn (pc' := 42) (ls' := [some (.ref _), some (.int _), some (.int _), some (.int _), some (.int _)]) (st' := [.int _, .ref _]) 2 rfl ?_
    refine od_rP rfl (md_0) rfl (by simp) rfl (by decide) ?_
    rw [show od_set (md M y b fu ρ) y (od_ob 8 (List.set _ 0 (.int (Int32.ofInt 1)))) = md M y (nI 1, b.2) fu ρ from md_code]
    refine od_W.rn (pc' := 46) (ls' := [some (.ref _), some (.int _), some (.int _), some (.int _), some (.int _)]) (st' := [.ref _]) 1 rfl ?_
    refine od_rG rfl (md_0) rfl rfl ?_
    refine od_r1F rfl (of_decide_eq_true rfl) (rfl) ?_
    refine od_W.rn (pc' := 53) (ls' := [some (.ref _), some (.int _), some (.int _), some (.int _), some (.int _)]) (st' := [.int _]) 1 rfl ?_
    refine od_W.fin rfl ?_
    exact (h.cd _).o rfl ⟨_, rfl, fun w z => absurd z (by simp)⟩
  have bad2 : od_W 8 117 37 [some (.ref y), some (.int kind), some (.int a), some (.int c), some (.int to)] [.ref y] (md M y b fu ρ) (rd_o y M d 2 n X R (rd_a (.inr 1))) := by
    refine od_W.rn (pc' := 42) (ls' := [some (.ref _), some (.int _), some (.int _), some (.int _), some (.int _)]) (st' := [.int _, .ref _]) 2 rfl ?_
    refine od_rP rfl (md_0) rfl (by simp) rfl (by decide) ?_
    rw [show od_set (md M y b fu ρ) y (od_ob 8 (List.set _ 0 (.int (Int32.ofInt 2)))) = md M y (nI 2, b.2) fu ρ from md_code]
    refine od_W.rn (pc' := 46) (ls' := [some (.ref _), some (.int _), some (.int _), some (.int _), some (.int _)]) (st' := [.ref _]) 1 rfl ?_
    refine od_rG rfl (md_0) rfl rfl ?_
    refine od_r1F rfl (of_decide_eq_true rfl) (rfl) ?_
    refine od_W.rn (pc' := 53) (ls' := [some (.ref _), some (.int _), some (.int _), some (.int _), some (.int _)]) (st' := [.int _]) 1 rfl ?_
    refine od_W.fin rfl ?_
    exact (h.cd _).o rfl ⟨_, rfl, fun w z => absurd z (by simp)⟩
  refine od_W.rn (pc' := 2) (ls' := [some (.ref _), some (.int _), some (.int _), some (.int _), some (.int _)]) (st' := [.int _, .ref _]) 2 rfl ?_
  refine od_rSt (as := [.int a]) rfl rfl rfl rfl (Nat.le_of_ble_eq_true rfl) (Nat.le_of_ble_eq_true rfl) (ct_noSlot a) (Nat.le_of_ble_eq_true rfl) (fun o M1 hq => ?_)
  obtain ⟨rfl, rfl⟩ := hq
  refine od_K.ret ?_
  rcases sl_is (m := 8) (by omega) a with ⟨e1, _⟩ | ⟨i, hi, rfl, e1⟩
  · rw [e1]
    refine od_r1T rfl rfl (rfl) ?_
    exact bad1
  · rw [e1]
    dsimp only
    refine od_r1F rfl (of_decide_eq_true rfl) (rfl) ?_
    refine od_W.rn (pc' := 9) (ls' := [some (.ref _), some (.int _), some (.int _), some (.int _), some (.int _)]) (st' := [.int _, .ref _]) 1 rfl ?_
    refine od_rSt (as := [.int c]) rfl rfl rfl rfl (Nat.le_of_ble_eq_true rfl) (Nat.le_of_ble_eq_true rfl) (ct_noSlot c) (Nat.le_of_ble_eq_true rfl) (fun o M1 hq => ?_)
    obtain ⟨rfl, rfl⟩ := hq
    refine od_K.ret ?_
    rcases sl_is (m := 8) (by omega) c with ⟨e1, _⟩ | ⟨j, hj, rfl, e1⟩
    · rw [e1]
      refine od_r1T rfl rfl (rfl) ?_
      exact bad1
    · rw [e1]
      dsimp only
      refine od_r1F rfl (of_decide_eq_true rfl) (rfl) ?_
      refine od_W.rn (pc' := 17) (ls' := [some (.ref _), some (.int _), some (.int _), some (.int _), some (.int _)]) (st' := [.int _, .ref _]) 1 rfl ?_
      refine od_rSt (as := [.int to]) rfl rfl rfl rfl (Nat.le_of_ble_eq_true rfl) (Nat.le_of_ble_eq_true rfl) (ct_noSlot to) (Nat.le_of_ble_eq_true rfl) (fun o M1 hq => ?_)
      obtain ⟨rfl, rfl⟩ := hq
      refine od_K.ret ?_
      rcases sl_is (m := 8) (by omega) to with ⟨e1, _⟩ | ⟨t, ht, rfl, e1⟩
      · rw [e1]
        refine od_r1F rfl (of_decide_eq_true rfl) (rfl) ?_
        exact bad1
      · rw [e1]
        dsimp only
        refine od_r1T rfl rfl (rfl) ?_
        refine od_W.rn (pc' := 28) (ls' := [some (.ref _), some (.int _), some (.int _), some (.int _), some (.int _)]) (st' := [.int _, .ref _]) 1 rfl ?_
        by_cases h0 : kind < 0
        · rw [if_neg (fun z => absurd (Int32.lt_of_lt_of_le h0 z.1) Int32.lt_irrefl)]
          refine od_r1T rfl rfl (decide_eq_true h0) ?_
          exact bad2
        · refine od_r1F rfl (of_decide_eq_true rfl) (decide_eq_false h0) ?_
          refine od_W.rn (pc' := 34) (ls' := [some (.ref _), some (.int _), some (.int _), some (.int _), some (.int _)]) (st' := [.int _, .int _, .ref _]) 2 rfl ?_
          by_cases h1 : kind ≤ 7
          · have hc : 0 ≤ kind ∧ kind ≤ 7 := ⟨Int32.not_lt.mp h0, h1⟩
            rw [if_pos hc]
            obtain ⟨k, hk, rfl⟩ := nI_in0 (n := 7) (by decide) hc
            rw [nI_clamp (by omega)]
            have hsi := h.2.2.2.2.1 i hi
            have hsj := h.2.2.2.2.1 j hj
            have h60 := hsj.1.le h.2.2.2.1
            have h' := h.cd (nI 0)
            refine od_r2T rfl rfl (decide_eq_true h1) ?_
            refine od_W.rn (pc' := 42) (ls' := [some (.ref _), some (.int _), some (.int _), some (.int _), some (.int _)]) (st' := [.int _, .ref _]) 1 rfl ?_
            refine od_rP rfl (md_0) rfl (by simp) rfl (by decide) ?_
            rw [show od_set (md M y b fu ρ) y (od_ob 8 (List.set _ 0 (.int (Int32.ofInt 0)))) = md M y (nI 0, b.2) fu ρ from md_code]
            refine od_W.rn (pc' := 46) (ls' := [some (.ref _), some (.int _), some (.int _), some (.int _), some (.int _)]) (st' := [.ref _]) 1 rfl ?_
            refine od_rG rfl (md_0) rfl rfl ?_
            refine od_r1T rfl rfl (rfl) ?_
            refine od_W.rn (pc' := 57) (ls' := [some (.ref _), some (.int _), some (.int _), some (.int _), some (.int _)]) (st' := [.int _, .int _, .ref _]) 3 rfl ?_
            have badz : (k = 5 ∧ tm_cmp (X i) (X j) = -1 ∨ 6 ≤ k ∧ X j = []) → od_W 8 117 83 [some (.ref y), some (.int (nI k)), some (.int (nI i)), some (.int (nI j)), some (.int (nI t))] [.ref y] (md M y (nI 0, b.2) fu ρ) (rd_o y M d (cs_code (if k = 5 ∧ tm_cmp (X i) (X j) = -1 ∨ 6 ≤ k ∧ X j = [] then ((.inr 1, X) : cs_T) else cs_keep X t (op_ok k (X i) (X j)) (op_v k (X i) (X j))).1) n (if k = 5 ∧ tm_cmp (X i) (X j) = -1 ∨ 6 ≤ k ∧ X j = [] then ((.inr 1, X) : cs_T) else cs_keep X t (op_ok k (X i) (X j)) (op_v k (X i) (X j))).2 R (rd_a (if k = 5 ∧ tm_cmp (X i) (X j) = -1 ∨ 6 ≤ k ∧ X j = [] then ((.inr 1, X) : cs_T) else cs_keep X t (op_ok k (X i) (X j)) (op_v k (X i) (X j))).1)) := by
              intro hz
              rw [if_pos hz]
              refine od_W.rn (pc' := 88) (ls' := [some (.ref _), some (.int _), some (.int _), some (.int _), some (.int _)]) (st' := [.int _, .ref _]) 2 rfl ?_
              refine od_rP rfl (md_0) rfl (by simp) rfl (by decide) ?_
              rw [show od_set (md M y (nI 0, b.2) fu ρ) y (od_ob 8 (List.set _ 0 (.int (Int32.ofInt 2)))) = md M y (nI 2, b.2) fu ρ from md_code (b := (nI 0, b.2))]
              refine od_W.rn (pc' := 92) (ls' := [some (.ref _), some (.int _), some (.int _), some (.int _), some (.int _)]) (st' := [.ref _]) 1 rfl ?_
              refine od_rG rfl (md_0) rfl rfl ?_
              refine od_r1F rfl (of_decide_eq_true rfl) (rfl) ?_
              refine od_W.rn (pc' := 99) (ls' := [some (.ref _), some (.int _), some (.int _), some (.int _), some (.int _)]) (st' := [.int _]) 1 rfl ?_
              refine od_W.fin rfl ?_
              exact (h'.cd _).o rfl ⟨_, rfl, fun w z => absurd z (by simp)⟩
            have good : ¬ (k = 5 ∧ tm_cmp (X i) (X j) = -1 ∨ 6 ≤ k ∧ X j = []) → od_W 8 117 87 [some (.ref y), some (.int (nI k)), some (.int (nI i)), some (.int (nI j)), some (.int (nI t))] [.ref y] (md M y (nI 0, b.2) fu ρ) (rd_o y M d (cs_code (if k = 5 ∧ tm_cmp (X i) (X j) = -1 ∨ 6 ≤ k ∧ X j = [] then ((.inr 1, X) : cs_T) else cs_keep X t (op_ok k (X i) (X j)) (op_v k (X i) (X j))).1) n (if k = 5 ∧ tm_cmp (X i) (X j) = -1 ∨ 6 ≤ k ∧ X j = [] then ((.inr 1, X) : cs_T) else cs_keep X t (op_ok k (X i) (X j)) (op_v k (X i) (X j))).2 R (rd_a (if k = 5 ∧ tm_cmp (X i) (X j) = -1 ∨ 6 ≤ k ∧ X j = [] then ((.inr 1, X) : cs_T) else cs_keep X t (op_ok k (X i) (X j)) (op_v k (X i) (X j))).1)) := by
              intro hz
              rw [if_neg hz]
              refine od_W.rn (pc' := 88) (ls' := [some (.ref _), some (.int _), some (.int _), some (.int _), some (.int _)]) (st' := [.int _, .ref _]) 1 rfl ?_
              refine od_rP rfl (md_0) rfl (by simp) rfl (by decide) ?_
              rw [show od_set (md M y (nI 0, b.2) fu ρ) y (od_ob 8 (List.set _ 0 (.int (Int32.ofInt 0)))) = md M y (nI 0, b.2) fu ρ from md_code (b := (nI 0, b.2))]
              refine od_W.rn (pc' := 92) (ls' := [some (.ref _), some (.int _), some (.int _), some (.int _), some (.int _)]) (st' := [.ref _]) 1 rfl ?_
              refine od_rG rfl (md_0) rfl rfl ?_
              refine od_r1T rfl rfl (rfl) ?_
              refine od_W.rn (pc' := 102) (ls' := [some (.ref _), some (.int _), some (.int _), some (.int _), some (.int _)]) (st' := [.int _, .ref _]) 2 rfl ?_
              refine od_rP rfl (md_0) rfl (by simp) rfl (by decide) ?_
              rw [show od_set (md M y (nI 0, b.2) fu ρ) y (od_ob 8 (List.set _ 3 (.int (Int32.ofInt 0)))) = md M y (nI 0, b.2) false ρ from md_ful]
              exact ref_op_sw h' hi hj ht hk (fun z1 z2 => hz (Or.inr ⟨z1, z2⟩)) (fun z1 z2 => hz (Or.inl ⟨z1, z2⟩)) hd
            have second : ¬ (k = 5 ∧ tm_cmp (X i) (X j) = -1) → od_W 8 117 69 [some (.ref y), some (.int (nI k)), some (.int (nI i)), some (.int (nI j)), some (.int (nI t))] [.ref y] (md M y (nI 0, b.2) fu ρ) (rd_o y M d (cs_code (if k = 5 ∧ tm_cmp (X i) (X j) = -1 ∨ 6 ≤ k ∧ X j = [] then ((.inr 1, X) : cs_T) else cs_keep X t (op_ok k (X i) (X j)) (op_v k (X i) (X j))).1) n (if k = 5 ∧ tm_cmp (X i) (X j) = -1 ∨ 6 ≤ k ∧ X j = [] then ((.inr 1, X) : cs_T) else cs_keep X t (op_ok k (X i) (X j)) (op_v k (X i) (X j))).2 R (rd_a (if k = 5 ∧ tm_cmp (X i) (X j) = -1 ∨ 6 ≤ k ∧ X j = [] then ((.inr 1, X) : cs_T) else cs_keep X t (op_ok k (X i) (X j)) (op_v k (X i) (X j))).1)) := by
              intro h5
              refine od_W.rn (pc' := 71) (ls' := [some (.ref _), some (.int _), some (.int _), some (.int _), some (.int _)]) (st' := [.int _, .int _, .ref _]) 2 rfl ?_
              by_cases h6 : k ≤ 5
              · refine od_r2T rfl rfl (decide_eq_true (nI_le (b := 5) h6 (by omega))) ?_
                exact good (fun z => z.elim h5 (fun z => absurd z.1 (by omega)))
              · refine od_r2F rfl (of_decide_eq_true rfl) (decide_eq_false (nI_ge (a := 5) (by omega) (by omega))) ?_
                refine od_W.rn (pc' := 75) (ls' := [some (.ref _), some (.int _), some (.int _), some (.int _), some (.int _)]) (st' := [.ref _, .ref _]) 1 rfl ?_
                refine od_rG rfl (md_0) rfl rfl ?_
                refine od_W.rn (pc' := 79) (ls' := [some (.ref _), some (.int _), some (.int _), some (.int _), some (.int _)]) (st' := [.int _, .ref _, .ref _]) 1 rfl ?_
                refine od_rIL rfl (md_2) (rfl) (by omega) (by decide) ?_
                rw [rf_row, hsj.1.n]
                by_cases hz : X j = []
                · refine od_r1F rfl (of_decide_eq_true rfl) ((show (!decide (nI (X j).length = 0)) = false by rw [hz]; rfl)) ?_
                  exact badz (Or.inr ⟨by omega, hz⟩)
                · have hp : 0 < (X j).length := List.length_pos_iff.mpr hz
                  refine od_r1T rfl rfl ((show (!decide (nI (X j).length = 0)) = true by rw [decide_eq_false (nI_ne0 hp (by omega))]; rfl)) ?_
                  exact good (fun z => z.elim h5 (fun z => hz z.2))
            by_cases k5 : k = 5
            · refine od_r2F rfl (of_decide_eq_true rfl) ((show (!decide (nI k = nI 5)) = false by rw [k5, decide_eq_true rfl]; rfl)) ?_
              refine od_W.rn (pc' := 63) (ls' := [some (.ref _), some (.int _), some (.int _), some (.int _), some (.int _)]) (st' := [.int _, .int _, .ref _, .ref _]) 3 rfl ?_
              refine od_rV (as := [.int (nI i), .int (nI j)]) rfl rfl rfl rfl (md_0) rfl (Nat.le_of_ble_eq_true rfl) (Nat.le_of_ble_eq_true rfl) (rt_order h.2.2.2.1 (by omega) (by omega) hsi.2 hsj.2 hsi.1 hsj.1) (Nat.le_of_ble_eq_true rfl) (fun o M1 hq => ?_)
              obtain ⟨rfl, rfl⟩ := hq
              refine od_K.ret ?_
              by_cases hc1 : tm_cmp (X i) (X j) = -1
              · refine od_r1T rfl rfl ((by rw [hc1]; rfl)) ?_
                exact badz (Or.inl ⟨k5, hc1⟩)
              · have hge : od_cond .lt (tm_cmp (X i) (X j)) 0 = false := by rcases tm_cmp_is (X i) (X j) with z | z | z; exact absurd z hc1; rw [z]; rfl; rw [z]; rfl
                refine od_r1F rfl (of_decide_eq_true rfl) (hge) ?_
                exact second (fun z => hc1 z.2)
            · refine od_r2T rfl rfl ((show (!decide (nI k = nI 5)) = true by rw [decide_eq_false (fun z => k5 ((nI_eq (by omega) (by omega)).mp z))]; rfl)) ?_
              exact second (fun z => k5 z.1)
          · rw [if_neg (fun z => h1 z.2)]
            refine od_r2F rfl (of_decide_eq_true rfl) (decide_eq_false h1) ?_
            exact bad2
end RC2
