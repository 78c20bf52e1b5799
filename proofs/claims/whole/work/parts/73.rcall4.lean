/-! The reference's calls: STEP, CHOP. -/
section RC4
variable {y n d : Nat} {M : od_M} {b : rf_B} {fu : Bool} {ρ : od_Rm} {X R : Nat → List Nat}
theorem ref_step (h : rd y M b ρ n X R d) (a m to : Int32) : od_W 8 119 0 (od_ent 119 [.ref y, .int a, .int m, .int to]) [] (md M y b fu ρ) (rd_o y M d (cs_code (cs_step X a m to).1) n (cs_step X a m to).2 R (rd_a (cs_step X a m to).1)) := by
  have e0 : od_ent 119 [.ref y, .int a, .int m, .int to] = [some (.ref y), some (.int a), some (.int m), some (.int to)] := rfl
  rw [e0]
  unfold cs_step
  have bad1 : od_W 8 119 15 [some (.ref y), some (.int a), some (.int m), some (.int to)] [.ref y] (md M y b fu ρ) (rd_o y M d 1 n X R (rd_a (.inr 0))) := by
    refine od_W.rn (pc' := 44) (ls' := [some (.ref _), some (.int _), some (.int _), some (.int _)]) (st' := [.int _, .ref _]) 2 rfl ?_
    refine od_rP rfl (md_0) rfl (by simp) rfl (by decide) ?_
    rw [show od_set (md M y b fu ρ) y (od_ob 8 (List.set _ 0 (.int (Int32.ofInt 1)))) = md M y (nI 1, b.2) fu ρ from md_code]
    refine od_W.rn (pc' := 48) (ls' := [some (.ref _), some (.int _), some (.int _), some (.int _)]) (st' := [.ref _]) 1 rfl ?_
    refine od_rG rfl (md_0) rfl rfl ?_
    refine od_r1F rfl (of_decide_eq_true rfl) (rfl) ?_
    refine od_W.rn (pc' := 55) (ls' := [some (.ref _), some (.int _), some (.int _), some (.int _)]) (st' := [.int _]) 1 rfl ?_
    refine od_W.fin rfl ?_
    exact (h.cd _).o rfl ⟨_, rfl, fun w z => absurd z (by simp)⟩
  have bad2 : od_W 8 119 39 [some (.ref y), some (.int a), some (.int m), some (.int to)] [.ref y] (md M y b fu ρ) (rd_o y M d 2 n X R (rd_a (.inr 1))) := by
    refine od_W.rn (pc' := 44) (ls' := [some (.ref _), some (.int _), some (.int _), some (.int _)]) (st' := [.int _, .ref _]) 2 rfl ?_
    refine od_rP rfl (md_0) rfl (by simp) rfl (by decide) ?_
    rw [show od_set (md M y b fu ρ) y (od_ob 8 (List.set _ 0 (.int (Int32.ofInt 2)))) = md M y (nI 2, b.2) fu ρ from md_code]
    refine od_W.rn (pc' := 48) (ls' := [some (.ref _), some (.int _), some (.int _), some (.int _)]) (st' := [.ref _]) 1 rfl ?_
    refine od_rG rfl (md_0) rfl rfl ?_
    refine od_r1F rfl (of_decide_eq_true rfl) (rfl) ?_
    refine od_W.rn (pc' := 55) (ls' := [some (.ref _), some (.int _), some (.int _), some (.int _)]) (st' := [.int _]) 1 rfl ?_
    refine od_W.fin rfl ?_
    exact (h.cd _).o rfl ⟨_, rfl, fun w z => absurd z (by simp)⟩
  refine od_W.rn (pc' := 2) (ls' := [some (.ref _), some (.int _), some (.int _), some (.int _)]) (st' := [.int _, .ref _]) 2 rfl ?_
  refine od_rSt (as := [.int a]) rfl rfl rfl rfl (Nat.le_of_ble_eq_true rfl) (Nat.le_of_ble_eq_true rfl) (ct_noSlot a) (Nat.le_of_ble_eq_true rfl) (fun o M1 hq => ?_)
  obtain ⟨rfl, rfl⟩ := hq
  refine od_K.ret ?_
  rcases sl_is (m := 8) (by omega) a with ⟨e1, _⟩ | ⟨i, hi, rfl, e1⟩
  · rw [e1]
    refine od_r1T rfl rfl (rfl) ?_
    exact bad1
  · rw [e1]
    dsimp only
    refine od_r1F rfl (of_decide_eq_true rfl) (rfl) ?_
    refine od_W.rn (pc' := 9) (ls' := [some (.ref _), some (.int _), some (.int _), some (.int _)]) (st' := [.int _, .ref _]) 1 rfl ?_
    refine od_rSt (as := [.int to]) rfl rfl rfl rfl (Nat.le_of_ble_eq_true rfl) (Nat.le_of_ble_eq_true rfl) (ct_noSlot to) (Nat.le_of_ble_eq_true rfl) (fun o M1 hq => ?_)
    obtain ⟨rfl, rfl⟩ := hq
    refine od_K.ret ?_
    rcases sl_is (m := 8) (by omega) to with ⟨e1, _⟩ | ⟨t, ht, rfl, e1⟩
    · rw [e1]
      refine od_r1F rfl (of_decide_eq_true rfl) (rfl) ?_
      exact bad1
    · rw [e1]
      dsimp only
      have hsi := h.2.2.2.2.1 i hi
      have h60 := hsi.1.le h.2.2.2.1
      refine od_r1T rfl rfl (rfl) ?_
      refine od_W.rn (pc' := 20) (ls' := [some (.ref _), some (.int _), some (.int _), some (.int _)]) (st' := [.ref _, .ref _]) 1 rfl ?_
      refine od_rG rfl (md_0) rfl rfl ?_
      refine od_W.rn (pc' := 24) (ls' := [some (.ref _), some (.int _), some (.int _), some (.int _)]) (st' := [.int _, .ref _, .ref _]) 1 rfl ?_
      refine od_rIL rfl (md_2) (rfl) (by omega) (by decide) ?_
      rw [rf_row, hsi.1.n]
      by_cases hz : X i = []
      · rw [if_pos hz]
        refine od_r1T rfl rfl (decide_eq_true (by rw [hz]; rfl)) ?_
        exact bad2
      · rw [if_neg hz]
        have hpos : 0 < (X i).length := List.length_pos_iff.mpr hz
        have hk0 : tm_k (tm_tp (X i)) ≠ 0 := fun z => hz ((tm_fl_tp hsi.2).symm.trans (by rw [tm_k_0 z]; rfl))
        refine od_r1F rfl (of_decide_eq_true rfl) (decide_eq_false (nI_ne0 hpos (by omega))) ?_
        refine od_W.rn (pc' := 30) (ls' := [some (.ref _), some (.int _), some (.int _), some (.int _)]) (st' := [.int _, .int _, .ref _]) 2 rfl ?_
        by_cases h0 : m < 2
        · rw [if_neg (fun z => absurd (Int32.lt_of_lt_of_le h0 z.1) Int32.lt_irrefl)]
          refine od_r2T rfl rfl (decide_eq_true h0) ?_
          exact bad2
        · refine od_r2F rfl (of_decide_eq_true rfl) (decide_eq_false h0) ?_
          refine od_W.rn (pc' := 36) (ls' := [some (.ref _), some (.int _), some (.int _), some (.int _)]) (st' := [.int _, .int _, .ref _]) 2 rfl ?_
          by_cases h1 : m ≤ 1000000
          · have hc : 2 ≤ m ∧ m ≤ 1000000 := ⟨Int32.not_lt.mp h0, h1⟩
            rw [if_pos hc]
            obtain ⟨c, hc1, hc2, rfl⟩ := nI_in2 (n := 1000000) (by decide) (by omega) hc
            rw [nI_clamp (by omega)]
            refine od_r2T rfl rfl (decide_eq_true h1) ?_
            refine od_W.rn (pc' := 44) (ls' := [some (.ref _), some (.int _), some (.int _), some (.int _)]) (st' := [.int _, .ref _]) 1 rfl ?_
            refine od_rP rfl (md_0) rfl (by simp) rfl (by decide) ?_
            rw [show od_set (md M y b fu ρ) y (od_ob 8 (List.set _ 0 (.int (Int32.ofInt 0)))) = md M y (nI 0, b.2) fu ρ from md_code]
            refine od_W.rn (pc' := 48) (ls' := [some (.ref _), some (.int _), some (.int _), some (.int _)]) (st' := [.ref _]) 1 rfl ?_
            refine od_rG rfl (md_0) rfl rfl ?_
            refine od_r1T rfl rfl (rfl) ?_
            refine od_W.rn (pc' := 58) (ls' := [some (.ref _), some (.int _), some (.int _), some (.int _)]) (st' := [.int _, .ref _]) 2 rfl ?_
            refine od_rP rfl (md_0) rfl (by simp) rfl (by decide) ?_
            rw [show od_set (md M y (nI 0, b.2) fu ρ) y (od_ob 8 (List.set _ 3 (.int (Int32.ofInt 0)))) = md M y (nI 0, b.2) false ρ from md_ful]
            refine od_W.rn (pc' := 65) (ls' := [some (.ref _), some (.int _), some (.int _), some (.int _)]) (st' := [.int _, .int _, .ref _]) 3 rfl ?_
            refine od_rV (as := [.int (nI i), .int (nI 89)]) rfl rfl rfl rfl (md_0) rfl (Nat.le_of_ble_eq_true rfl) (Nat.le_of_ble_eq_true rfl) (ex_copy h.2.2.2.1 (by omega) (by omega) (by omega) hsi.1) (Nat.le_of_ble_eq_true rfl) (fun o M1 hq => ?_)
            obtain ⟨rfl, ρ1, rfl, f1, b1, p1⟩ := hq
            refine od_K.ret ?_
            exact ref_st_loop (M0 := M) (ok0 := ok_st c 200 (X i)) (zs := sp_pr (tm_tp (sp_st c 200 (X i)))) ht hc1 hc2 (fun _ => sp_pr_W (tm_al_tp (st_nz hc1 hc2 200 _ hsi.2 hk0).2)) 200 (X i) false M ρ1 ((h.cd _).hi b1 (fun q hq => f1 q (od_n1 (by omega)))) (od_eM.refl _ _) hsi.2 hk0 (fun _ z => st_fin hc1 hc2 hsi.2 hk0 z) (fun _ => p1) ⟨fun z => z.2, fun z => ⟨rfl, z⟩⟩ (fun _ _ => rfl)
          · rw [if_neg (fun z => h1 z.2)]
            refine od_r2F rfl (of_decide_eq_true rfl) (decide_eq_false h1) ?_
            exact bad2
set_option maxRecDepth 100000 in
theorem cl_rcut {c L t : Nat} {a0 w0 : Int32} (ht : t < 8) (hc : c ≤ 1000) (hL : L ≤ 20) {st en : Nat → Int32} (hst : M.2.2 (y + 5) = some (od_ia 24 st)) (hen : M.2.2 (y + 6) = some (od_ia 24 en)) (hb : od_Bd ρ) {Q : od_O → od_M → Prop} : ∀ (p : hy_P) (ts : List tm_T) (i : Nat), fo_p ρ st en i ts p → tm_al ts → i + p.length = L → (∀ (fu1 : Bool) (ρ1 : od_Rm), od_Bd ρ1 → (∀ a, a ∉ [89, 87, 88, 66, 67] → ρ1 a = ρ a) → (fu1 = false ↔ ok_cut c p) → (fu1 = false → od_hl ρ1 89 (sp_cut c p)) → od_W 6 121 125 [some (.ref y), some (.int a0), some (.int w0), some (.int (nI c)), some (.int (nI t)), some (.int (nI L)), some (.int (nI i - 1))] [] (md M y b fu1 ρ1) Q) → od_W 6 121 88 [some (.ref y), some (.int a0), some (.int w0), some (.int (nI c)), some (.int (nI t)), some (.int (nI L)), none] [] (md M y b false ρ) Q := by
  intro p
  induction p with
  | nil => intro ts i h; exact h.elim
  | cons p r ih =>
    intro ts i hp hal hiL hK
    cases r with
    | nil =>
      obtain ⟨h1, h2, h3, h4, h5⟩ := hp
      subst h1
      simp only [List.length_cons, List.length_nil] at hiL
      have ha2 := tm_al_app.mp hal
      have hx : od_hl ρ (90 + i) (tm_fl p.1 ++ (tm_t p.2.1 ++ tm_fl p.2.2)) := by rw [tm_fl_app, tm_fl] at h2; exact h2
      have eL : nI L - Int32.ofInt 1 = nI i := by rw [← hiL]; exact nI_pred i
      have eL2 : nI L - Int32.ofInt 2 = nI i - 1 := by
        rw [← hiL, show nI (i + (0 + 1)) = nI i + 1 from (nI_1 i).symm]
        rw [Int32.sub_eq_add_neg, Int32.sub_eq_add_neg, Int32.add_assoc]
        congr 1
      refine od_W.rn (pc' := 97) (ls' := [some (.ref _), some (.int _), some (.int _), some (.int _), some (.int _), some (.int _), none]) (st' := [.ref _, .int _, .ref _]) 7 rfl ?_
      rw [show (Int8.ofInt 90).toInt32 + nI L = nI (90 + L) from nI_add 90 L, show nI (90 + L) - Int32.ofInt 1 = nI (90 + i) by rw [show 90 + i = 90 + L - 1 by omega]; exact nI_subI (a := 1) (by omega)]
      refine od_rG rfl (md_0) rfl rfl ?_
      refine od_W.rn (pc' := 104) (ls' := [some (.ref _), some (.int _), some (.int _), some (.int _), some (.int _), some (.int _), none]) (st' := [.int _, .ref _, .int _, .ref _]) 3 rfl ?_
      refine od_rIL rfl ((md_o (by omega) (by omega) (by omega)).trans hst) (eL) (by omega) (by decide) ?_
      rw [h3]
      refine od_W.rn (pc' := 106) (ls' := [some (.ref _), some (.int _), some (.int _), some (.int _), some (.int _), some (.int _), none]) (st' := [.ref _, .int _, .int _, .ref _]) 1 rfl ?_
      refine od_rG rfl (md_0) rfl rfl ?_
      refine od_W.rn (pc' := 113) (ls' := [some (.ref _), some (.int _), some (.int _), some (.int _), some (.int _), some (.int _), none]) (st' := [.int _, .ref _, .int _, .int _, .ref _]) 3 rfl ?_
      refine od_rIL rfl ((md_o (by omega) (by omega) (by omega)).trans hen) (eL) (by omega) (by decide) ?_
      rw [h4]
      refine od_W.rn (pc' := 116) (ls' := [some (.ref _), some (.int _), some (.int _), some (.int _), some (.int _), some (.int _), none]) (st' := [.int _, .int _, .int _, .int _, .ref _]) 1 rfl ?_
      refine od_rV (as := [.int (nI (90 + i)), .int (nI (tm_fl p.1).length), .int (nI ((tm_fl p.1).length + (tm_t p.2.1).length)), .int (nI 89)]) rfl rfl rfl rfl (md_0) rfl (Nat.le_of_ble_eq_true rfl) (Nat.le_of_ble_eq_true rfl) (rc_thin (by omega) (by omega) (by omega) hb ha2.2.1 hx rfl rfl) (Nat.le_of_ble_eq_true rfl) (fun o M1 hq => ?_)
      obtain ⟨rfl, fu1, ρ1, rfl, f1, b1, k1, p1⟩ := hq
      refine od_K.ret ?_
      refine od_W.rn (pc' := 125) (ls' := [some (.ref _), some (.int _), some (.int _), some (.int _), some (.int _), some (.int _), some (.int _)]) (st' := []) 4 rfl ?_
      rw [eL2]
      refine hK fu1 ρ1 b1 (fun a ha => f1 a (od_nn ha (by simp))) ?_ p1
      rw [k1]
      exact ⟨fun _ => trivial, fun _ => ⟨rfl, trivial⟩⟩
    | cons q r =>
      obtain ⟨h1, h2, h3, h4, h5, h6⟩ := hp
      subst h1
      simp only [List.length_cons] at hiL
      have ha2 := tm_al_app.mp hal
      have hW := ha2.2.1.1
      have hx : od_hl ρ (90 + i) (tm_fl p.1 ++ (tm_t p.2.1 ++ tm_fl p.2.2)) := by rw [tm_fl_app, tm_fl] at h2; exact h2
      have hcc : hy_cc c r ≤ 1001 ∧ 1 ≤ hy_cc c r := by unfold hy_cc; split <;> omega
      refine ih (tm_tp p.2.1.1) (i + 1) h6 (tm_al_tp hW) (by simp only [List.length_cons]; omega) (fun fu1 ρ1 b1 fr1 k1 p1 => ?_)
      rw [nI_pred i]
      have hx1 := hx.fr (fr1 (90 + i) (by simp; omega))
      have hWc : ok_cut c (q :: r) → tm_W (sp_cut c (q :: r)) := by
        intro z
        have gen : ∀ (p : hy_P) (i : Nat) (ts : List tm_T), tm_al ts → fo_p ρ st en i ts p → ok_cut c p → tm_W (sp_cut c p) := by
          intro p
          induction p with
          | nil => intro i ts _ h; exact h.elim
          | cons p r ih =>
            intro i ts hal h hok
            cases r with
            | nil => have e1 : ts = p.1 ++ p.2.1 :: p.2.2 := h.1; exact tm_fl_W (hy_th_al (e1 ▸ hal))
            | cons q r =>
              have e1 : ts = p.1 ++ p.2.1 :: p.2.2 := h.1
              have halx := hal
              rw [e1] at halx
              have hW := ih _ _ (tm_al_tp (tm_al_app.mp halx).2.1.1) h.2.2.2.2.2 hok.1
              refine tm_fl_W (sp_nat_al (hy_th_al halx) ?_ hok.2.2.2)
              refine ⟨⟨hW, ?_⟩, trivial⟩
              unfold tm_c hy_cc
              dsimp only
              split <;> omega
        exact gen (q :: r) _ _ (tm_al_tp hW) h6 z
      refine od_W.rn (pc' := 127) (ls' := [some (.ref _), some (.int _), some (.int _), some (.int _), some (.int _), some (.int _), some (.int _)]) (st' := [.int _]) 1 rfl ?_
      refine od_r1F rfl (of_decide_eq_true rfl) (decide_eq_false (nI_pos (by omega))) ?_
      refine od_W.rn (pc' := 137) (ls' := [some (.ref _), some (.int _), some (.int _), some (.int _), some (.int _), some (.int _), some (.int _)]) (st' := [.ref _, .int _, .ref _]) 5 rfl ?_
      rw [show (Int8.ofInt 90).toInt32 + nI i = nI (90 + i) from nI_add 90 i]
      refine od_rG rfl (md_0) rfl rfl ?_
      refine od_W.rn (pc' := 142) (ls' := [some (.ref _), some (.int _), some (.int _), some (.int _), some (.int _), some (.int _), some (.int _)]) (st' := [.int _, .ref _, .int _, .ref _]) 1 rfl ?_
      refine od_rIL rfl ((md_o (by omega) (by omega) (by omega)).trans hst) (rfl) (by omega) (by decide) ?_
      rw [h3]
      refine od_W.rn (pc' := 144) (ls' := [some (.ref _), some (.int _), some (.int _), some (.int _), some (.int _), some (.int _), some (.int _)]) (st' := [.ref _, .int _, .int _, .ref _]) 1 rfl ?_
      refine od_rG rfl (md_0) rfl rfl ?_
      refine od_W.rn (pc' := 149) (ls' := [some (.ref _), some (.int _), some (.int _), some (.int _), some (.int _), some (.int _), some (.int _)]) (st' := [.int _, .ref _, .int _, .int _, .ref _]) 1 rfl ?_
      refine od_rIL rfl ((md_o (by omega) (by omega) (by omega)).trans hen) (rfl) (by omega) (by decide) ?_
      rw [h4]
      refine od_W.rn (pc' := 152) (ls' := [some (.ref _), some (.int _), some (.int _), some (.int _), some (.int _), some (.int _), some (.int _)]) (st' := [.int _, .int _, .int _, .int _, .ref _]) 1 rfl ?_
      refine od_rV (as := [.int (nI (90 + i)), .int (nI (tm_fl p.1).length), .int (nI ((tm_fl p.1).length + (tm_t p.2.1).length)), .int (nI 87)]) rfl rfl rfl rfl (md_0) rfl (Nat.le_of_ble_eq_true rfl) (Nat.le_of_ble_eq_true rfl) (rc_thin (by omega) (by omega) (by omega) b1 ha2.2.1 hx1 rfl rfl) (Nat.le_of_ble_eq_true rfl) (fun o M1 hq => ?_)
      obtain ⟨rfl, fu2, ρ2, rfl, f2, b2, k2, p2⟩ := hq
      refine od_K.ret ?_
      refine od_W.rn (pc' := 158) (ls' := [some (.ref _), some (.int _), some (.int _), some (.int _), some (.int _), some (.int _), some (.int _)]) (st' := [.int _, .ref _]) 2 rfl ?_
      refine od_rV (as := [.int (nI 88)]) rfl rfl rfl rfl (md_0) rfl (Nat.le_of_ble_eq_true rfl) (Nat.le_of_ble_eq_true rfl) (rt_clear b2 (by omega)) (Nat.le_of_ble_eq_true rfl) (fun o M1 hq => ?_)
      obtain ⟨rfl, fu3, ρ3, rfl, f3, b3, k3, p3⟩ := hq
      refine od_K.ret ?_
      have h89 : fu3 = false → od_hl ρ3 89 (sp_cut c (q :: r)) := fun z => by
        have z2 := (k3.mp z).1
        exact ((p1 (k2.mp z2).1).fr (f2 89 (by simp))).fr (f3 89 (by simp))
      have tail : ∀ cl : Int64, cl = lN (hy_cc c r) → od_W 6 121 183 [some (.ref y), some (.int a0), some (.int w0), some (.int (nI c)), some (.int (nI t)), some (.int (nI L)), some (.int (nI i))] [.long cl, .int (nI 89), .int (nI 88), .ref y] (md M y b fu3 ρ3) Q := by
        intro cl hcl
        subst hcl
        refine od_rV (as := [.int (nI 88), .int (nI 89), .long (lN (hy_cc c r))]) rfl rfl rfl rfl (md_0) rfl (Nat.le_of_ble_eq_true rfl) (Nat.le_of_ble_eq_true rfl) (rc_appendTerm (xs := []) b3 (by omega) (by omega) (by omega) (fun z => ⟨h89 z, rfl, by omega⟩) p3) (Nat.le_of_ble_eq_true rfl) (fun o M1 hq => ?_)
        rw [List.nil_append] at hq
        obtain ⟨rfl, fu4, ρ4, rfl, f4, b4, k4, p4⟩ := hq
        refine od_K.ret ?_
        have all : fu4 = false → ok_cut c (q :: r) := fun z => k1.mp (k2.mp (k3.mp (k4.mp z).1).1).1
        have h87 : fu4 = false → od_hl ρ4 87 (tm_fl (hy_th p)) := fun z => ((p2 (k3.mp (k4.mp z).1).1).fr (f3 87 (by simp))).fr (f4 87 (by simp))
        refine od_W.rn (pc' := 193) (ls' := [some (.ref _), some (.int _), some (.int _), some (.int _), some (.int _), some (.int _), some (.int _)]) (st' := [.int _, .int _, .int _, .ref _]) 4 rfl ?_
        refine od_rV (as := [.int (nI 87), .int (nI 88), .int (nI 89)]) rfl rfl rfl rfl (md_0) rfl (Nat.le_of_ble_eq_true rfl) (Nat.le_of_ble_eq_true rfl) (rc_mrg (ts := hy_th p) (us := [(sp_cut c (q :: r), hy_cc c r)]) (by omega) (by omega) (by omega) (by simp) (by simp) (by simp) b4 (fun z => ⟨⟨h87 z, hy_th_al hal⟩, by rw [tm_fl_one]; exact p4 z, ⟨hWc (all z), hcc.2, by omega⟩, trivial⟩)) (Nat.le_of_ble_eq_true rfl) (fun o M1 hq => ?_)
        obtain ⟨rfl, fu5, ρ5, rfl, f5, b5, k5, p5⟩ := hq
        refine od_K.ret ?_
        refine od_W.rn (pc' := 125) (ls' := [some (.ref _), some (.int _), some (.int _), some (.int _), some (.int _), some (.int _), some (.int _)]) (st' := []) 2 rfl ?_
        rw [show nI i + Int32.ofInt (-1) = nI i - 1 from (Int32.sub_eq_add_neg (nI i) 1).symm]
        refine hK fu5 ρ5 b5 (fun a ha => (f5 a (od_nn ha (by simp))).trans ((f4 a (od_nn ha (by simp))).trans ((f3 a (od_nn ha (by simp))).trans ((f2 a (od_nn ha (by simp))).trans (fr1 a ha))))) ?_ p5
        rw [k5, k4, k3, k2, k1]
        constructor
        · rintro ⟨⟨⟨⟨z1, _⟩, _⟩, z2⟩, z3⟩; exact ⟨z1, z2, z3⟩
        · rintro ⟨z1, z2, z3⟩; exact ⟨⟨⟨⟨z1, trivial⟩, trivial⟩, z2⟩, z3⟩
      refine od_W.rn (pc' := 172) (ls' := [some (.ref _), some (.int _), some (.int _), some (.int _), some (.int _), some (.int _), some (.int _)]) (st' := [.int _, .int _, .int _, .int _, .ref _]) 7 rfl ?_
      rw [show nI L - Int32.ofInt 2 = nI (L - 2) from nI_subI (a := 2) (by omega)]
      by_cases hr0 : r.length = 0
      · have hcc0 : hy_cc c r = c + 1 := if_pos hr0
        refine od_r2F rfl (of_decide_eq_true rfl) ((show (!decide (nI i = nI (L - 2))) = false by rw [show L - 2 = i by omega, decide_eq_true rfl]; rfl)) ?_
        refine od_W.rn (pc' := 183) (ls' := [some (.ref _), some (.int _), some (.int _), some (.int _), some (.int _), some (.int _), some (.int _)]) (st' := [.long _, .int _, .int _, .ref _]) 5 rfl ?_
        refine tail _ ?_
        rw [hcc0]
        exact (congrArg Int32.toInt64 (nI_1 c)).trans (nI_1000 (by omega))
      · have hcc0 : hy_cc c r = 1 := if_neg hr0
        refine od_r2T rfl rfl ((show (!decide (nI i = nI (L - 2))) = true by rw [decide_eq_false (fun z => absurd ((nI_eq (by omega) (by omega)).mp z) (by omega))]; rfl)) ?_
        refine od_W.rn (pc' := 183) (ls' := [some (.ref _), some (.int _), some (.int _), some (.int _), some (.int _), some (.int _), some (.int _)]) (st' := [.long _, .int _, .int _, .ref _]) 1 rfl ?_
        exact tail _ (by rw [hcc0]; rfl)
set_option maxRecDepth 100000 in
theorem ref_chop (h : rd y M b ρ n X R d) (a w c to : Int32) : od_W 8 121 0 (od_ent 121 [.ref y, .int a, .int w, .int c, .int to]) [] (md M y b fu ρ) (rd_o y M d (cs_code (cs_chop X a w c to).1) n (cs_chop X a w c to).2 R (rd_a (cs_chop X a w c to).1)) := by
  have e0 : od_ent 121 [.ref y, .int a, .int w, .int c, .int to] = [some (.ref y), some (.int a), some (.int w), some (.int c), some (.int to), none, none] := rfl
  rw [e0]
  unfold cs_chop
  have bad1 : od_W 8 121 16 [some (.ref y), some (.int a), some (.int w), some (.int c), some (.int to), none, none] [.ref y] (md M y b fu ρ) (rd_o y M d 1 n X R (rd_a (.inr 0))) := by
    refine od_W.rn (pc' := 29) (ls' := [some (.ref _), some (.int _), some (.int _), some (.int _), some (.int _), none, none]) (st' := [.int _, .ref _]) 2 rfl ?_
    refine od_rP rfl (md_0) rfl (by simp) rfl (by decide) ?_
    rw [show od_set (md M y b fu ρ) y (od_ob 8 (List.set _ 0 (.int (Int32.ofInt 1)))) = md M y (nI 1, b.2) fu ρ from md_code]
    refine od_W.rn (pc' := 33) (ls' := [some (.ref _), some (.int _), some (.int _), some (.int _), some (.int _), none, none]) (st' := [.ref _]) 1 rfl ?_
    refine od_rG rfl (md_0) rfl rfl ?_
    refine od_r1F rfl (of_decide_eq_true rfl) (rfl) ?_
    refine od_W.rn (pc' := 40) (ls' := [some (.ref _), some (.int _), some (.int _), some (.int _), some (.int _), none, none]) (st' := [.int _]) 1 rfl ?_
    refine od_W.fin rfl ?_
    exact (h.cd _).o rfl ⟨_, rfl, fun w z => absurd z (by simp)⟩
  refine od_W.rn (pc' := 2) (ls' := [some (.ref _), some (.int _), some (.int _), some (.int _), some (.int _), none, none]) (st' := [.int _, .ref _]) 2 rfl ?_
  refine od_rSt (as := [.int a]) rfl rfl rfl rfl (Nat.le_of_ble_eq_true rfl) (Nat.le_of_ble_eq_true rfl) (ct_noSlot a) (Nat.le_of_ble_eq_true rfl) (fun o M1 hq => ?_)
  obtain ⟨rfl, rfl⟩ := hq
  refine od_K.ret ?_
  rcases sl_is (m := 8) (by omega) a with ⟨e1, _⟩ | ⟨i, hi, rfl, e1⟩
  · rw [e1]
    refine od_r1T rfl rfl (rfl) ?_
    exact bad1
  · rw [e1]
    dsimp only
    refine od_r1F rfl (of_decide_eq_true rfl) (rfl) ?_
    refine od_W.rn (pc' := 10) (ls' := [some (.ref _), some (.int _), some (.int _), some (.int _), some (.int _), none, none]) (st' := [.int _, .ref _]) 1 rfl ?_
    refine od_rSt (as := [.int to]) rfl rfl rfl rfl (Nat.le_of_ble_eq_true rfl) (Nat.le_of_ble_eq_true rfl) (ct_noSlot to) (Nat.le_of_ble_eq_true rfl) (fun o M1 hq => ?_)
    obtain ⟨rfl, rfl⟩ := hq
    refine od_K.ret ?_
    rcases sl_is (m := 8) (by omega) to with ⟨e1, _⟩ | ⟨t, ht, rfl, e1⟩
    · rw [e1]
      refine od_r1F rfl (of_decide_eq_true rfl) (rfl) ?_
      exact bad1
    · rw [e1]
      dsimp only
      have hsi := h.2.2.2.2.1 i hi
      have ai := tm_al_tp hsi.2
      have xi : od_hl ρ i (tm_fl (tm_tp (X i))) := by rw [tm_fl_tp hsi.2]; exact hsi.1
      refine od_r1T rfl rfl (rfl) ?_
      refine od_W.rn (pc' := 21) (ls' := [some (.ref _), some (.int _), some (.int _), some (.int _), some (.int _), none, none]) (st' := [.int _, .ref _]) 1 rfl ?_
      by_cases hw : w < 0
      · have er : (if 0 ≤ c ∧ c ≤ 1000 then (if w < 0 then ((.inr 1, X) : cs_T) else match hy_fd 61 w.toNatClampNeg (tm_tp (X i)) with | none => (.inr 1, X) | some p => cs_keep X t (ok_cut c.toNatClampNeg p) (sp_cut c.toNatClampNeg p)) else (.inr 1, X)) = (.inr 1, X) := by rw [if_pos hw]; split <;> rfl
        simp only [if_pos hw, ite_self]
        refine od_r1F rfl (of_decide_eq_true rfl) (decide_eq_false (fun z => absurd (Int32.lt_of_lt_of_le hw z) Int32.lt_irrefl)) ?_
        refine od_W.rn (pc' := 29) (ls' := [some (.ref _), some (.int _), some (.int _), some (.int _), some (.int _), none, none]) (st' := [.int _, .ref _]) 2 rfl ?_
        refine od_rP rfl (md_0) rfl (by simp) rfl (by decide) ?_
        rw [show od_set (md M y b fu ρ) y (od_ob 8 (List.set _ 0 (.int (Int32.ofInt 2)))) = md M y (nI 2, b.2) fu ρ from md_code]
        refine od_W.rn (pc' := 33) (ls' := [some (.ref _), some (.int _), some (.int _), some (.int _), some (.int _), none, none]) (st' := [.ref _]) 1 rfl ?_
        refine od_rG rfl (md_0) rfl rfl ?_
        refine od_r1F rfl (of_decide_eq_true rfl) (rfl) ?_
        refine od_W.rn (pc' := 40) (ls' := [some (.ref _), some (.int _), some (.int _), some (.int _), some (.int _), none, none]) (st' := [.int _]) 1 rfl ?_
        refine od_W.fin rfl ?_
        exact (h.cd _).o rfl ⟨_, rfl, fun w z => absurd z (by simp)⟩
      · obtain ⟨ww, hww, rfl⟩ := nI_of hw
        rw [if_neg hw, nI_clamp hww]
        obtain ⟨bg, st, en, har⟩ := h.1
        refine od_r1T rfl rfl (decide_eq_true (Int32.not_lt.mp hw)) ?_
        refine od_W.rn (pc' := 29) (ls' := [some (.ref _), some (.int _), some (.int _), some (.int _), some (.int _), none, none]) (st' := [.int _, .ref _]) 1 rfl ?_
        refine od_rP rfl (md_0) rfl (by simp) rfl (by decide) ?_
        rw [show od_set (md M y b fu ρ) y (od_ob 8 (List.set _ 0 (.int (Int32.ofInt 0)))) = md M y (nI 0, b.2) fu ρ from md_code]
        refine od_W.rn (pc' := 33) (ls' := [some (.ref _), some (.int _), some (.int _), some (.int _), some (.int _), none, none]) (st' := [.ref _]) 1 rfl ?_
        refine od_rG rfl (md_0) rfl rfl ?_
        refine od_r1T rfl rfl (rfl) ?_
        refine od_W.rn (pc' := 43) (ls' := [some (.ref _), some (.int _), some (.int _), some (.int _), some (.int _), none, none]) (st' := [.int _, .ref _]) 2 rfl ?_
        refine od_rP rfl (md_0) rfl (by simp) rfl (by decide) ?_
        rw [show od_set (md M y (nI 0, b.2) fu ρ) y (od_ob 8 (List.set _ 3 (.int (Int32.ofInt 0)))) = md M y (nI 0, b.2) false ρ from md_ful]
        refine od_W.rn (pc' := 49) (ls' := [some (.ref _), some (.int _), some (.int _), some (.int _), some (.int _), none, none]) (st' := [.int _, .int _, .ref _]) 3 rfl ?_
        refine od_rV (as := [.int (nI i), .int (nI ww)]) rfl rfl rfl rfl (md_0) rfl (Nat.le_of_ble_eq_true rfl) (Nat.le_of_ble_eq_true rfl) (rt_follow (by omega) hww h.2.2.2.1 ai xi har.2.1 har.2.2) (Nat.le_of_ble_eq_true rfl) (fun o M1 hq => ?_)
        obtain ⟨ρ0, fr0, M', st', en', ρ1, q1, q2, q3, rfl, q5, q6, q7, q8⟩ := hq
        have h1 : rd y M' (nI 0, b.2) ρ1 n X R d := by
          have h2 : rd y M' (nI 0, b.2) ρ n X R d := (h.cd (nI 0)).eM (q1.up (by simp)) ⟨bg, st', en', (q1.2.2 _ (by simp)).trans har.1, q2, q3⟩
          exact h2.hi q5 (fun q hq => (q6 q (by omega)).trans (fr0 q (od_n1 (by omega))))
        have eV : od_eM (rd_V y) M M' := q1.up (by simp)
        have bad3 : ∀ dp : Int32, od_W 8 121 71 [some (.ref y), some (.int (nI i)), some (.int (nI ww)), some (.int c), some (.int (nI t)), some (.int dp), none] [.ref y] (md M' y (nI 0, b.2) false ρ1) (rd_o y M d 2 n X R (rd_a (.inr 1))) := by
          intro dp
          refine od_W.rn (pc' := 76) (ls' := [some (.ref _), some (.int _), some (.int _), some (.int _), some (.int _), some (.int _), none]) (st' := [.int _, .ref _]) 2 rfl ?_
          refine od_rP rfl (md_0) rfl (by simp) rfl (by decide) ?_
          rw [show od_set (md M' y (nI 0, b.2) false ρ1) y (od_ob 8 (List.set _ 0 (.int (Int32.ofInt 2)))) = md M' y (nI 2, b.2) false ρ1 from md_code (b := (nI 0, b.2))]
          refine od_W.rn (pc' := 80) (ls' := [some (.ref _), some (.int _), some (.int _), some (.int _), some (.int _), some (.int _), none]) (st' := [.ref _]) 1 rfl ?_
          refine od_rG rfl (md_0) rfl rfl ?_
          refine od_r1F rfl (of_decide_eq_true rfl) (rfl) ?_
          refine od_W.rn (pc' := 87) (ls' := [some (.ref _), some (.int _), some (.int _), some (.int _), some (.int _), some (.int _), none]) (st' := [.int _]) 1 rfl ?_
          refine od_W.fin rfl ?_
          exact ⟨M', _, _, ρ1, d, rfl, eV, rfl, h1.cd _, by omega, _, rfl, fun w z => absurd z (by simp)⟩
        rcases q8 with ⟨hf, rfl⟩ | ⟨p, hf, rfl, hfo, hpl⟩
        · refine od_K.ret ?_
          have er : (match hy_fd 61 ww (tm_tp (X i)) with | none => ((.inr 1, X) : cs_T) | some p => cs_keep X t (ok_cut c.toNatClampNeg p) (sp_cut c.toNatClampNeg p)) = (.inr 1, X) := by rw [hf]
          rw [hf]
          simp only [ite_self]
          refine od_W.rn (pc' := 57) (ls' := [some (.ref _), some (.int _), some (.int _), some (.int _), some (.int _), some (.int _), none]) (st' := [.int _, .ref _]) 3 rfl ?_
          refine od_r1T rfl rfl (rfl) ?_
          exact bad3 _
        · refine od_K.ret ?_
          rw [hf]
          dsimp only
          rw [Nat.zero_add]
          have hplen : 0 < p.length := by
            rcases p with _ | ⟨p1, pr⟩
            · exact hfo.elim
            · simp
          rw [Nat.zero_add] at hpl
          refine od_W.rn (pc' := 57) (ls' := [some (.ref _), some (.int _), some (.int _), some (.int _), some (.int _), some (.int _), none]) (st' := [.int _, .ref _]) 3 rfl ?_
          refine od_r1F rfl (of_decide_eq_true rfl) (decide_eq_false (nI_ne0 hplen (by omega))) ?_
          refine od_W.rn (pc' := 61) (ls' := [some (.ref _), some (.int _), some (.int _), some (.int _), some (.int _), some (.int _), none]) (st' := [.int _, .ref _]) 1 rfl ?_
          by_cases h0 : c < 0
          · rw [if_neg (fun z => absurd (Int32.lt_of_lt_of_le h0 z.1) Int32.lt_irrefl)]
            refine od_r1T rfl rfl (decide_eq_true h0) ?_
            exact bad3 _
          · refine od_r1F rfl (of_decide_eq_true rfl) (decide_eq_false h0) ?_
            refine od_W.rn (pc' := 68) (ls' := [some (.ref _), some (.int _), some (.int _), some (.int _), some (.int _), some (.int _), none]) (st' := [.int _, .int _, .ref _]) 2 rfl ?_
            by_cases h1c : c ≤ 1000
            · have hc : 0 ≤ c ∧ c ≤ 1000 := ⟨Int32.not_lt.mp h0, h1c⟩
              rw [if_pos hc]
              obtain ⟨cc, hc2, rfl⟩ := nI_in0 (n := 1000) (by decide) hc
              rw [nI_clamp (by omega)]
              refine od_r2T rfl rfl (decide_eq_true h1c) ?_
              refine od_W.rn (pc' := 76) (ls' := [some (.ref _), some (.int _), some (.int _), some (.int _), some (.int _), some (.int _), none]) (st' := [.int _, .ref _]) 1 rfl ?_
              refine od_rP rfl (md_0) rfl (by simp) rfl (by decide) ?_
              rw [show od_set (md M' y (nI 0, b.2) false ρ1) y (od_ob 8 (List.set _ 0 (.int (Int32.ofInt 0)))) = md M' y (nI 0, b.2) false ρ1 from md_code (b := (nI 0, b.2))]
              refine od_W.rn (pc' := 80) (ls' := [some (.ref _), some (.int _), some (.int _), some (.int _), some (.int _), some (.int _), none]) (st' := [.ref _]) 1 rfl ?_
              refine od_rG rfl (md_0) rfl rfl ?_
              refine od_r1T rfl rfl (rfl) ?_
              have gen : ∀ (p : hy_P) (i : Nat) (ts : List tm_T), tm_al ts → fo_p ρ1 st' en' i ts p → ok_cut cc p → tm_W (sp_cut cc p) := by
                intro p
                induction p with
                | nil => intro i ts _ h; exact h.elim
                | cons p r ih =>
                  intro i ts hal h hok
                  cases r with
                  | nil => have e1 : ts = p.1 ++ p.2.1 :: p.2.2 := h.1; exact tm_fl_W (hy_th_al (e1 ▸ hal))
                  | cons q r =>
                    have e1 : ts = p.1 ++ p.2.1 :: p.2.2 := h.1
                    have halx := hal
                    rw [e1] at halx
                    have hW := ih _ _ (tm_al_tp (tm_al_app.mp halx).2.1.1) h.2.2.2.2.2 hok.1
                    refine tm_fl_W (sp_nat_al (hy_th_al halx) ?_ hok.2.2.2)
                    refine ⟨⟨hW, ?_⟩, trivial⟩
                    unfold tm_c hy_cc
                    dsimp only
                    split <;> omega
              refine (cl_rcut (b := (nI 0, b.2)) (L := p.length) (c := cc) (t := t) ht hc2 hpl q2 q3 q5 p _ 0 hfo ai (by omega) (fun fu2 ρ2 b2 fr2 k2 p2 => ?_)).deep (by omega)
              refine od_W.rn (pc' := 127) (ls' := [some (.ref _), some (.int _), some (.int _), some (.int _), some (.int _), some (.int _), some (.int _)]) (st' := [.int _]) 1 rfl ?_
              refine od_r1T rfl rfl (rfl) ?_
              have h3 := h1.hi b2 (fun q hq => fr2 q (by simp; omega))
              refine od_W.rn (pc' := 205) (ls' := [some (.ref _), some (.int _), some (.int _), some (.int _), some (.int _), some (.int _), some (.int _)]) (st' := [.int _, .ref _]) 2 rfl ?_
              refine od_rV (as := [.int (nI t)]) rfl rfl rfl rfl (md_0) rfl (Nat.le_of_ble_eq_true rfl) (Nat.le_of_ble_eq_true rfl) (rt_settle ht b2 p2) (Nat.le_of_ble_eq_true rfl) (fun o M1 hq => ?_)
              obtain ⟨v, rfl, hz⟩ := h3.st ht k2 (gen p _ _ ai hfo) hq
              refine od_K.ret ?_
              refine od_W.fin rfl ?_
              exact hz.o eV (by omega)
            · rw [if_neg (fun z => h1c z.2)]
              refine od_r2F rfl (of_decide_eq_true rfl) (decide_eq_false h1c) ?_
              exact bad3 _
end RC4
