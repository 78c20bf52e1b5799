/-! The reference's FAST: the call. -/
section RFC
variable {y n d : Nat} {X R : Nat → List Nat}
noncomputable def rfs (f : Nat) (s : fs_S) (v : Nat) : Int32 ⊕ Nat := cif (ok_fs f s v) (.inl (fs_v (fs_run f s v))) (.inr 2)
theorem rp_loop {M0 : od_M} {c0 n0 : Int32} {g : Nat → Int32} (hc0 : c0 = nI 0) {fuel : Nat} (hf : fuel ≤ 2000) {w1 w2 : Int32} : ∀ (f : Nat) (s : fs_S) (v used : Nat) (M : od_M) (ρ : od_Rm) (tm : Nat → Int32), used + f = fuel → od_eM (rd_V y) M0 M → rd y M (c0, n0, nI s.length, g) ρ n X R d → M.2.2 (y + 3) = some (od_ia 12 tm) → rp_ok ρ tm s → s.length ≤ 12 → v ≤ 1000000 → od_W 8 131 81 [some (.ref y), some (.int w1), some (.int w2), some (.int (nI fuel)), some (.int (nI v)), some (.int (nI used))] [] (md M y (c0, n0, nI s.length, g) false ρ) (rd_o y M0 d (cs_code (rfs f s v)) n X R (rd_a (rfs f s v))) := by
  subst hc0
  intro f
  induction f with
  | zero =>
    intro s v used M ρ tm hu he h ht hok h12 hv
    refine od_W.rn (pc' := 82) (ls' := [some (.ref _), some (.int _), some (.int _), some (.int _), some (.int _), some (.int _)]) (st' := [.ref _]) 1 rfl ?_
    refine od_rG rfl (md_0) rfl rfl ?_
    cases s with
    | nil =>
      have er : rfs 0 [] v = .inl (nI v) := cif_pos (show ok_fs 0 [] v from trivial) _ _
      rw [er]
      refine od_r1T rfl rfl (rfl) ?_
      refine od_W.rn (pc' := 143) (ls' := [some (.ref _), some (.int _), some (.int _), some (.int _), some (.int _), some (.int _)]) (st' := [.int _, .int _]) 2 rfl ?_
      refine od_r2T rfl rfl (decide_eq_true (nI_le (b := 1000000) hv (by omega))) ?_
      refine od_W.rn (pc' := 152) (ls' := [some (.ref _), some (.int _), some (.int _), some (.int _), some (.int _), some (.int _)]) (st' := [.int _]) 1 rfl ?_
      refine od_W.fin rfl ?_
      exact ⟨M, _, _, ρ, d, rfl, he, rfl, h, by omega, _, rfl, fun w z => Sum.inl.inj z⟩
    | cons p s =>
      have er : rfs 0 (p :: s) v = .inl (-1) := cif_pos (show ok_fs 0 (p :: s) v from trivial) _ _
      rw [er]
      refine od_r1F rfl (of_decide_eq_true rfl) (decide_eq_false (nI_ge (a := 0) (by simp) (by omega))) ?_
      refine od_W.rn (pc' := 91) (ls' := [some (.ref _), some (.int _), some (.int _), some (.int _), some (.int _), some (.int _)]) (st' := [.int _, .int _]) 2 rfl ?_
      refine od_r2T rfl rfl (decide_eq_true (by rw [show used = fuel by omega])) ?_
      refine od_W.rn (pc' := 102) (ls' := [some (.ref _), some (.int _), some (.int _), some (.int _), some (.int _), some (.int _)]) (st' := [.int _]) 1 rfl ?_
      refine od_W.fin rfl ?_
      exact ⟨M, _, _, ρ, d, rfl, he, rfl, h, by omega, _, rfl, fun w z => Sum.inl.inj z⟩
  | succ f ih =>
    intro s v used M ρ tm hu he h ht hok h12 hv
    refine od_W.rn (pc' := 82) (ls' := [some (.ref _), some (.int _), some (.int _), some (.int _), some (.int _), some (.int _)]) (st' := [.ref _]) 1 rfl ?_
    refine od_rG rfl (md_0) rfl rfl ?_
    cases s with
    | nil =>
      have er : rfs (f + 1) [] v = .inl (nI v) := cif_pos (show ok_fs (f + 1) [] v from trivial) _ _
      rw [er]
      refine od_r1T rfl rfl (rfl) ?_
      refine od_W.rn (pc' := 143) (ls' := [some (.ref _), some (.int _), some (.int _), some (.int _), some (.int _), some (.int _)]) (st' := [.int _, .int _]) 2 rfl ?_
      refine od_r2T rfl rfl (decide_eq_true (nI_le (b := 1000000) hv (by omega))) ?_
      refine od_W.rn (pc' := 152) (ls' := [some (.ref _), some (.int _), some (.int _), some (.int _), some (.int _), some (.int _)]) (st' := [.int _]) 1 rfl ?_
      refine od_W.fin rfl ?_
      exact ⟨M, _, _, ρ, d, rfl, he, rfl, h, by omega, _, rfl, fun w z => Sum.inl.inj z⟩
    | cons p s =>
      simp only [List.length_cons] at h12
      refine od_r1F rfl (of_decide_eq_true rfl) (decide_eq_false (nI_ge (a := 0) (by simp) (by simp only [List.length_cons]; omega))) ?_
      refine od_W.rn (pc' := 91) (ls' := [some (.ref _), some (.int _), some (.int _), some (.int _), some (.int _), some (.int _)]) (st' := [.int _, .int _]) 2 rfl ?_
      refine od_r2F rfl (of_decide_eq_true rfl) (decide_eq_false (fun z => absurd ((nI_eq (by omega) (by omega)).mp z) (by omega))) ?_
      refine od_W.rn (pc' := 98) (ls' := [some (.ref _), some (.int _), some (.int _), some (.int _), some (.int _), some (.int _)]) (st' := [.int _, .int _]) 2 rfl ?_
      refine od_r2T rfl rfl (decide_eq_true (nI_le (b := 1000000) hv (by omega))) ?_
      refine od_W.rn (pc' := 109) (ls' := [some (.ref _), some (.int _), some (.int _), some (.int _), some (.int _), some (.int _)]) (st' := [.int _, .ref _]) 3 rfl ?_
      refine od_rV (as := [.int (nI v)]) rfl rfl rfl rfl (md_0) rfl (Nat.le_of_ble_eq_true rfl) (Nat.le_of_ble_eq_true rfl) (rt_apply (xs := p.1) (c := p.2) (rest := s) hv h.2.2.2.1 h.1 ht rfl h12 hok) (Nat.le_of_ble_eq_true rfl) (fun o M1 hq => ?_)
      obtain ⟨M', pl, fu', ρ', w, tm', rfl, rfl, q1, q2, q3, q4, q5, q6, q7⟩ := hq
      have h' : rd y M' (nI 0, n0, pl, g) ρ' n X R d := rd.hi (ρ := ρ) (rd.eP (M := M) h q1 q2 ⟨_, q3⟩) q4 q5
      have he' : od_eM (rd_V y) M0 M' := he.tr (q1.up (by simp))
      refine od_K.ret ?_
      refine od_W.rn (pc' := 115) (ls' := [some (.ref _), some (.int _), some (.int _), some (.int _), some (.int _), some (.int _)]) (st' := [.ref _]) 2 rfl ?_
      refine od_rG rfl (md_0) rfl rfl ?_
      cases fu' with
      | true =>
        have hn : ¬ ok_fs (f + 1) (p :: s) v := fun z => absurd (q6.mpr z.1) (by decide)
        rw [show rfs (f + 1) (p :: s) v = .inr 2 from cif_neg hn _ _]
        refine od_r1F rfl (of_decide_eq_true rfl) (rfl) ?_
        refine od_W.rn (pc' := 123) (ls' := [some (.ref _), some (.int _), some (.int _), some (.int _), some (.int _), some (.int _)]) (st' := [.int _, .ref _]) 2 rfl ?_
        refine od_rP rfl (md_0) rfl (by simp) rfl (by decide) ?_
        rw [show od_set (md M' y (nI 0, n0, pl, g) true ρ') y (od_ob 8 (List.set _ 0 (.int (Int32.ofInt 3)))) = md M' y (nI 3, n0, pl, g) true ρ' from md_code (b := (nI 0, n0, pl, g))]
        refine od_W.rn (pc' := 127) (ls' := [some (.ref _), some (.int _), some (.int _), some (.int _), some (.int _), some (.int _)]) (st' := [.int _]) 1 rfl ?_
        refine od_W.fin rfl ?_
        exact ⟨M', _, _, ρ', d, rfl, he', rfl, h', by omega, _, rfl, fun w z => absurd z (by simp)⟩
      | false =>
        have k := q6.mp rfl
        refine od_r1T rfl rfl (rfl) ?_
        refine od_W.rn (pc' := 129) (ls' := [some (.ref _), some (.int _), some (.int _), some (.int _), some (.int _), some (.int _)]) (st' := [.ref _]) 1 rfl ?_
        refine od_rG rfl (md_0) rfl rfl ?_
        refine od_W.rn (pc' := 134) (ls' := [some (.ref _), some (.int _), some (.int _), some (.int _), some (.int _), some (.int _)]) (st' := [.int _, .int _]) 1 rfl ?_
        rcases q7 rfl with ⟨hn, q8⟩ | ⟨q, hn, rfl, rfl, hst, hq12, hq2⟩
        · have er : rfs (f + 1) (p :: s) v = .inl (-1) := by
            have er0 : fs_run (f + 1) (p :: s) v = none := by conv => lhs; unfold fs_run; rw [hn]
            unfold rfs
            rw [er0]
            exact cif_pos (show ok_fs (f + 1) (p :: s) v from ⟨k, by rw [hn]; exact trivial⟩) _ _
          rw [er]
          have fin : ∀ u, od_W 8 131 81 [some (.ref y), some (.int w1), some (.int w2), some (.int (nI fuel)), some (.int (nI 1000001)), some (.int u)] [] (md M' y (nI 0, n0, pl, g) false ρ') (rd_o y M0 d 0 n X R (rd_a (.inl (-1)))) := by
            intro u
            refine od_W.rn (pc' := 82) (ls' := [some (.ref _), some (.int _), some (.int _), some (.int _), some (.int _), some (.int _)]) (st' := [.ref _]) 1 rfl ?_
            refine od_rG rfl (md_0) rfl rfl ?_
            by_cases hl : pl ≤ 0
            · refine od_r1T rfl rfl (decide_eq_true hl) ?_
              refine od_W.rn (pc' := 143) (ls' := [some (.ref _), some (.int _), some (.int _), some (.int _), some (.int _), some (.int _)]) (st' := [.int _, .int _]) 2 rfl ?_
              refine od_r2F rfl (of_decide_eq_true rfl) (rfl) ?_
              refine od_W.rn (pc' := 152) (ls' := [some (.ref _), some (.int _), some (.int _), some (.int _), some (.int _), some (.int _)]) (st' := [.int _]) 2 rfl ?_
              refine od_W.fin rfl ?_
              exact ⟨M', _, _, ρ', d, rfl, he', rfl, h', by omega, _, rfl, fun w z => Sum.inl.inj z⟩
            · refine od_r1F rfl (of_decide_eq_true rfl) (decide_eq_false hl) ?_
              by_cases hu2 : u = nI fuel
              · refine od_W.rn (pc' := 91) (ls' := [some (.ref _), some (.int _), some (.int _), some (.int _), some (.int _), some (.int _)]) (st' := [.int _, .int _]) 2 rfl ?_
                refine od_r2T rfl rfl (decide_eq_true hu2) ?_
                refine od_W.rn (pc' := 102) (ls' := [some (.ref _), some (.int _), some (.int _), some (.int _), some (.int _), some (.int _)]) (st' := [.int _]) 1 rfl ?_
                refine od_W.fin rfl ?_
                exact ⟨M', _, _, ρ', d, rfl, he', rfl, h', by omega, _, rfl, fun w z => Sum.inl.inj z⟩
              · refine od_W.rn (pc' := 91) (ls' := [some (.ref _), some (.int _), some (.int _), some (.int _), some (.int _), some (.int _)]) (st' := [.int _, .int _]) 2 rfl ?_
                refine od_r2F rfl (of_decide_eq_true rfl) (decide_eq_false hu2) ?_
                refine od_W.rn (pc' := 98) (ls' := [some (.ref _), some (.int _), some (.int _), some (.int _), some (.int _), some (.int _)]) (st' := [.int _, .int _]) 2 rfl ?_
                refine od_r2F rfl (of_decide_eq_true rfl) (rfl) ?_
                refine od_W.rn (pc' := 102) (ls' := [some (.ref _), some (.int _), some (.int _), some (.int _), some (.int _), some (.int _)]) (st' := [.int _]) 1 rfl ?_
                refine od_W.fin rfl ?_
                exact ⟨M', _, _, ρ', d, rfl, he', rfl, h', by omega, _, rfl, fun w z => Sum.inl.inj z⟩
          rcases q8 with ⟨rfl, l, hl, rfl⟩ | rfl
          · refine od_r2T rfl rfl (decide_eq_true (nI_le (b := 12) hl (by omega))) ?_
            exact fin _
          · refine od_r2F rfl (of_decide_eq_true rfl) (rfl) ?_
            refine od_W.rn (pc' := 138) (ls' := [some (.ref _), some (.int _), some (.int _), some (.int _), some (.int _), some (.int _)]) (st' := [.int _]) 1 rfl ?_
            refine od_W.fin rfl ?_
            exact ⟨M', _, _, ρ', d, rfl, he', rfl, h', by omega, _, rfl, fun w z => Sum.inl.inj z⟩
        · refine od_r2T rfl rfl (decide_eq_true (nI_le (b := 12) hq12 (by omega))) ?_
          rw [nI_inc used]
          have er : fs_run (f + 1) (p :: s) v = fs_run f q.1 q.2 := by conv => lhs; unfold fs_run; rw [hn]
          have eo : ok_fs (f + 1) (p :: s) v ↔ ok_fs f q.1 q.2 := by
            conv => lhs; unfold ok_fs; rw [hn]
            exact ⟨fun z => z.2, fun z => ⟨k, z⟩⟩
          have ef : rfs (f + 1) (p :: s) v = rfs f q.1 q.2 := by
            unfold rfs
            rw [er]
            by_cases z : ok_fs f q.1 q.2
            · rw [cif_pos z, cif_pos (eo.mpr z)]
            · rw [cif_neg z, cif_neg (fun w => z (eo.mp w))]
          rw [ef]
          exact ih q.1 q.2 (used + 1) M' ρ' tm' (by omega) he' h' q3 hst hq12 hq2
set_option maxRecDepth 100000 in
theorem ref_fast {M : od_M} {b : rf_B} {fu : Bool} {ρ : od_Rm} (h : rd y M b ρ n X R d) (a m f : Int32) : od_W 8 131 0 (od_ent 131 [.ref y, .int a, .int m, .int f]) [] (md M y b fu ρ) (rd_o y M d (cs_code (cs_fast X a m f)) n X R (rd_a (cs_fast X a m f))) := by
  have e0 : od_ent 131 [.ref y, .int a, .int m, .int f] = [some (.ref y), some (.int a), some (.int m), some (.int f), none, none] := rfl
  rw [e0]
  unfold cs_fast
  have bad2 : od_W 8 131 34 [some (.ref y), some (.int a), some (.int m), some (.int f), none, none] [.ref y] (md M y b fu ρ) (rd_o y M d 2 n X R (rd_a (.inr 1))) := by
    refine od_W.rn (pc' := 39) (ls' := [some (.ref _), some (.int _), some (.int _), some (.int _), none, none]) (st' := [.int _, .ref _]) 2 rfl ?_
    refine od_rP rfl (md_0) rfl (by simp) rfl (by decide) ?_
    rw [show od_set (md M y b fu ρ) y (od_ob 8 (List.set _ 0 (.int (Int32.ofInt 2)))) = md M y (nI 2, b.2) fu ρ from md_code]
    refine od_W.rn (pc' := 43) (ls' := [some (.ref _), some (.int _), some (.int _), some (.int _), none, none]) (st' := [.ref _]) 1 rfl ?_
    refine od_rG rfl (md_0) rfl rfl ?_
    refine od_r1F rfl (of_decide_eq_true rfl) (rfl) ?_
    refine od_W.rn (pc' := 50) (ls' := [some (.ref _), some (.int _), some (.int _), some (.int _), none, none]) (st' := [.int _]) 1 rfl ?_
    refine od_W.fin rfl ?_
    exact (h.cd _).o rfl ⟨_, rfl, fun w z => absurd z (by simp)⟩
  refine od_W.rn (pc' := 2) (ls' := [some (.ref _), some (.int _), some (.int _), some (.int _), none, none]) (st' := [.int _, .ref _]) 2 rfl ?_
  refine od_rSt (as := [.int a]) rfl rfl rfl rfl (Nat.le_of_ble_eq_true rfl) (Nat.le_of_ble_eq_true rfl) (ct_noSlot a) (Nat.le_of_ble_eq_true rfl) (fun o M1 hq => ?_)
  obtain ⟨rfl, rfl⟩ := hq
  refine od_K.ret ?_
  rcases sl_is (m := 8) (by omega) a with ⟨e1, _⟩ | ⟨i, hi, rfl, e1⟩
  · rw [e1]
    refine od_r1F rfl (of_decide_eq_true rfl) (rfl) ?_
    refine od_W.rn (pc' := 39) (ls' := [some (.ref _), some (.int _), some (.int _), some (.int _), none, none]) (st' := [.int _, .ref _]) 2 rfl ?_
    refine od_rP rfl (md_0) rfl (by simp) rfl (by decide) ?_
    rw [show od_set (md M y b fu ρ) y (od_ob 8 (List.set _ 0 (.int (Int32.ofInt 1)))) = md M y (nI 1, b.2) fu ρ from md_code]
    refine od_W.rn (pc' := 43) (ls' := [some (.ref _), some (.int _), some (.int _), some (.int _), none, none]) (st' := [.ref _]) 1 rfl ?_
    refine od_rG rfl (md_0) rfl rfl ?_
    refine od_r1F rfl (of_decide_eq_true rfl) (rfl) ?_
    refine od_W.rn (pc' := 50) (ls' := [some (.ref _), some (.int _), some (.int _), some (.int _), none, none]) (st' := [.int _]) 1 rfl ?_
    refine od_W.fin rfl ?_
    exact (h.cd _).o rfl ⟨_, rfl, fun w z => absurd z (by simp)⟩
  · rw [e1]
    dsimp only
    have hsi := h.2.2.2.2.1 i hi
    refine od_r1T rfl rfl (rfl) ?_
    refine od_W.rn (pc' := 13) (ls' := [some (.ref _), some (.int _), some (.int _), some (.int _), none, none]) (st' := [.int _, .ref _]) 1 rfl ?_
    by_cases h0 : m < 0
    · rw [if_neg (fun z => absurd (Int32.lt_of_lt_of_le h0 z.1) Int32.lt_irrefl)]
      refine od_r1T rfl rfl (decide_eq_true h0) ?_
      exact bad2
    · refine od_r1F rfl (of_decide_eq_true rfl) (decide_eq_false h0) ?_
      refine od_W.rn (pc' := 20) (ls' := [some (.ref _), some (.int _), some (.int _), some (.int _), none, none]) (st' := [.int _, .int _, .ref _]) 2 rfl ?_
      by_cases h1 : m ≤ 1000
      · have hc : 0 ≤ m ∧ m ≤ 1000 := ⟨Int32.not_lt.mp h0, h1⟩
        rw [if_pos hc]
        refine od_r2F rfl (of_decide_eq_true rfl) (decide_eq_false (Int32.not_lt.mpr h1)) ?_
        refine od_W.rn (pc' := 24) (ls' := [some (.ref _), some (.int _), some (.int _), some (.int _), none, none]) (st' := [.int _, .ref _]) 1 rfl ?_
        by_cases g0 : f < 0
        · rw [if_neg (fun z => absurd (Int32.lt_of_lt_of_le g0 z.1) Int32.lt_irrefl)]
          refine od_r1T rfl rfl (decide_eq_true g0) ?_
          exact bad2
        · refine od_r1F rfl (of_decide_eq_true rfl) (decide_eq_false g0) ?_
          refine od_W.rn (pc' := 31) (ls' := [some (.ref _), some (.int _), some (.int _), some (.int _), none, none]) (st' := [.int _, .int _, .ref _]) 2 rfl ?_
          by_cases g1 : f ≤ 2000
          · have hg : 0 ≤ f ∧ f ≤ 2000 := ⟨Int32.not_lt.mp g0, g1⟩
            rw [if_pos hg]
            obtain ⟨v, hv, rfl⟩ := nI_in0 (n := 1000) (by decide) hc
            obtain ⟨fl, hfl, rfl⟩ := nI_in0 (n := 2000) (by decide) hg
            rw [nI_clamp (by omega), nI_clamp (by omega)]
            refine od_r2T rfl rfl (decide_eq_true g1) ?_
            refine od_W.rn (pc' := 39) (ls' := [some (.ref _), some (.int _), some (.int _), some (.int _), none, none]) (st' := [.int _, .ref _]) 1 rfl ?_
            refine od_rP rfl (md_0) rfl (by simp) rfl (by decide) ?_
            rw [show od_set (md M y b fu ρ) y (od_ob 8 (List.set _ 0 (.int (Int32.ofInt 0)))) = md M y (nI 0, b.2) fu ρ from md_code]
            refine od_W.rn (pc' := 43) (ls' := [some (.ref _), some (.int _), some (.int _), some (.int _), none, none]) (st' := [.ref _]) 1 rfl ?_
            refine od_rG rfl (md_0) rfl rfl ?_
            refine od_r1T rfl rfl (rfl) ?_
            refine od_W.rn (pc' := 53) (ls' := [some (.ref _), some (.int _), some (.int _), some (.int _), none, none]) (st' := [.int _, .ref _]) 2 rfl ?_
            refine od_rP rfl (md_0) rfl (by simp) rfl (by decide) ?_
            rw [show od_set (md M y (nI 0, b.2) fu ρ) y (od_ob 8 (List.set _ 3 (.int (Int32.ofInt 0)))) = md M y (nI 0, b.2) false ρ from md_ful]
            refine od_W.rn (pc' := 58) (ls' := [some (.ref _), some (.int _), some (.int _), some (.int _), none, none]) (st' := [.int _, .ref _]) 2 rfl ?_
            refine od_rP rfl (md_0) rfl (by simp) rfl (by decide) ?_
            rw [show od_set (md M y (nI 0, b.2) false ρ) y (od_ob 8 (List.set _ 5 (.int (Int32.ofInt 1)))) = md M y (nI 0, b.2.1, nI 1, b.2.2.2) false ρ from md_pile (b := (nI 0, b.2))]
            refine od_W.rn (pc' := 65) (ls' := [some (.ref _), some (.int _), some (.int _), some (.int _), none, none]) (st' := [.int _, .int _, .ref _]) 3 rfl ?_
            refine od_rV (as := [.int (nI i), .int (nI 20)]) rfl rfl rfl rfl (md_0) rfl (Nat.le_of_ble_eq_true rfl) (Nat.le_of_ble_eq_true rfl) (ex_copy h.2.2.2.1 (by omega) (by omega) (by omega) hsi.1) (Nat.le_of_ble_eq_true rfl) (fun o M1 hq => ?_)
            obtain ⟨rfl, ρ1, rfl, f1, b1, p1⟩ := hq
            obtain ⟨tm, ht⟩ := h.2.1
            refine od_K.ret ?_
            refine od_W.rn (pc' := 69) (ls' := [some (.ref _), some (.int _), some (.int _), some (.int _), none, none]) (st' := [.ref _]) 1 rfl ?_
            refine od_rG rfl (md_0) rfl rfl ?_
            refine od_W.rn (pc' := 74) (ls' := [some (.ref _), some (.int _), some (.int _), some (.int _), none, none]) (st' := [.int _, .int _, .ref _]) 2 rfl ?_
            refine od_rIS rfl ((md_o (by omega) (by omega) (by omega)).trans ht) ((show Int32.ofInt 0 = nI 0 from rfl)) (by omega) (by decide) ?_
            rw [md_set (by omega) (by omega) (by omega)]
            refine od_W.rn (pc' := 81) (ls' := [some (.ref _), some (.int _), some (.int _), some (.int _), some (.int _), some (.int _)]) (st' := []) 4 rfl ?_
            have eM1 : od_eM (rp_V y) M (od_set M (y + 3) (od_ia 12 (upd tm 0 (Int32.ofInt 1)))) := (od_eM.refl _ _).set (by simp)
            have ha1 : me_as (od_set M (y + 3) (od_ia 12 (upd tm 0 (Int32.ofInt 1)))) y := by
              obtain ⟨bg, st, en, a1, a2, a3⟩ := h.1
              exact ⟨bg, st, en, (od_set_o (by omega)).trans a1, (od_set_o (by omega)).trans a2, (od_set_o (by omega)).trans a3⟩
            have h' : rd y (od_set M (y + 3) (od_ia 12 (upd tm 0 (Int32.ofInt 1)))) (nI 0, b.2.1, nI 1, b.2.2.2) ρ1 n X R d := rd.hi (ρ := ρ) (rd.eP (M := M) h eM1 ha1 ⟨_, od_set_s _ _ _⟩) b1 (fun q hq => f1 q (od_n1 (by omega)))
            exact rp_loop (M0 := M) rfl hfl fl [(X i, 1)] v 0 _ ρ1 _ (by omega) (eM1.up (by simp)) h' (od_set_s _ _ _) ⟨p1, upd_s _ _ _, by dsimp only; omega, by dsimp only; omega, hsi.2, trivial⟩ (by simp) (by omega)
          · rw [if_neg (fun z => g1 z.2)]
            refine od_r2F rfl (of_decide_eq_true rfl) (decide_eq_false g1) ?_
            exact bad2
      · rw [if_neg (fun z => h1 z.2)]
        refine od_r2T rfl rfl (decide_eq_true (Int32.not_le.mp h1)) ?_
        exact bad2
end RFC
