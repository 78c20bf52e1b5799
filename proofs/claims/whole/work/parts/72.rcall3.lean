/-! The reference's calls: MEMBER, STEP, CHOP. -/
theorem rd.eM {y n d : Nat} {M M' : od_M} {b : rf_B} {ρ : od_Rm} {X R : Nat → List Nat} (h : rd y M b ρ n X R d) (e : od_eM [y + 4, y + 5, y + 6] M M') (ha : me_as M' y) : rd y M' b ρ n X R d := by
  obtain ⟨h1, h2, h3, h4⟩ := h
  exact ⟨ha, ⟨h2.choose, (e.2.2 _ (by simp)).trans h2.choose_spec⟩, ⟨h3.choose, (e.2.2 _ (by simp)).trans h3.choose_spec⟩, h4⟩
theorem od_eM.up {V V' : List Nat} {M M' : od_M} (h : od_eM V M M') (hV : ∀ q, q ∈ V → q ∈ V') : od_eM V' M M' := ⟨h.1, h.2.1, fun q hq => h.2.2 q (fun z => hq (hV q z))⟩
section RC3
variable {y n d : Nat} {M : od_M} {b : rf_B} {fu : Bool} {ρ : od_Rm} {X R : Nat → List Nat}
theorem ref_member (h : rd y M b ρ n X R d) (a m to : Int32) : od_W 8 118 0 (od_ent 118 [.ref y, .int a, .int m, .int to]) [] (md M y b fu ρ) (rd_o y M d (cs_code (cs_member X a m to).1) n (cs_member X a m to).2 R (rd_a (cs_member X a m to).1)) := by
  have e0 : od_ent 118 [.ref y, .int a, .int m, .int to] = [some (.ref y), some (.int a), some (.int m), some (.int to)] := rfl
  rw [e0]
  unfold cs_member
  have bad1 : od_W 8 118 15 [some (.ref y), some (.int a), some (.int m), some (.int to)] [.ref y] (md M y b fu ρ) (rd_o y M d 1 n X R (rd_a (.inr 0))) := by
    refine od_W.rn (pc' := 43) (ls' := [some (.ref _), some (.int _), some (.int _), some (.int _)]) (st' := [.int _, .ref _]) 2 rfl ?_
    refine od_rP rfl (md_0) rfl (by simp) rfl (by decide) ?_
    rw [show od_set (md M y b fu ρ) y (od_ob 8 (List.set _ 0 (.int (Int32.ofInt 1)))) = md M y (nI 1, b.2) fu ρ from md_code]
    refine od_W.rn (pc' := 47) (ls' := [some (.ref _), some (.int _), some (.int _), some (.int _)]) (st' := [.ref _]) 1 rfl ?_
    refine od_rG rfl (md_0) rfl rfl ?_
    refine od_r1F rfl (of_decide_eq_true rfl) (rfl) ?_
    refine od_W.rn (pc' := 54) (ls' := [some (.ref _), some (.int _), some (.int _), some (.int _)]) (st' := [.int _]) 1 rfl ?_
    refine od_W.fin rfl ?_
    exact (h.cd _).o rfl ⟨_, rfl, fun w z => absurd z (by simp)⟩
  have bad2 : od_W 8 118 38 [some (.ref y), some (.int a), some (.int m), some (.int to)] [.ref y] (md M y b fu ρ) (rd_o y M d 2 n X R (rd_a (.inr 1))) := by
    refine od_W.rn (pc' := 43) (ls' := [some (.ref _), some (.int _), some (.int _), some (.int _)]) (st' := [.int _, .ref _]) 2 rfl ?_
    refine od_rP rfl (md_0) rfl (by simp) rfl (by decide) ?_
    rw [show od_set (md M y b fu ρ) y (od_ob 8 (List.set _ 0 (.int (Int32.ofInt 2)))) = md M y (nI 2, b.2) fu ρ from md_code]
    refine od_W.rn (pc' := 47) (ls' := [some (.ref _), some (.int _), some (.int _), some (.int _)]) (st' := [.ref _]) 1 rfl ?_
    refine od_rG rfl (md_0) rfl rfl ?_
    refine od_r1F rfl (of_decide_eq_true rfl) (rfl) ?_
    refine od_W.rn (pc' := 54) (ls' := [some (.ref _), some (.int _), some (.int _), some (.int _)]) (st' := [.int _]) 1 rfl ?_
    refine od_W.fin rfl ?_
    exact (h.cd _).o rfl ⟨_, rfl, fun w z => absurd z (by simp)⟩
  refine od_W.rn (pc' := 2) (ls' := [some (.ref _), some (.int _), some (.int _), some (.int _)]) (st' := [.int _, .ref _]) 2 rfl ?_
  refine od_rSt (as := [.int a]) rfl rfl rfl rfl (Nat.le_of_ble_eq_true rfl) (Nat.le_of_ble_eq_true rfl) (ct_noSlot a) (Nat.le_of_ble_eq_true rfl) (fun o M1 hq => ?_)
  obtain ⟨rfl, rfl⟩ := hq
  refine od_K.ret ?_
  rcases sl_is (m := 8) (by omega) a with ⟨e1, _⟩ | ⟨i, hi, rfl, e1⟩
  · rw [e1]
    refine od_r1T rfl rfl (rfl) ?_
    exact bad1
  · rw [e1]
    dsimp only
    refine od_r1F rfl (of_decide_eq_true rfl) (rfl) ?_
    refine od_W.rn (pc' := 9) (ls' := [some (.ref _), some (.int _), some (.int _), some (.int _)]) (st' := [.int _, .ref _]) 1 rfl ?_
    refine od_rSt (as := [.int to]) rfl rfl rfl rfl (Nat.le_of_ble_eq_true rfl) (Nat.le_of_ble_eq_true rfl) (ct_noSlot to) (Nat.le_of_ble_eq_true rfl) (fun o M1 hq => ?_)
    obtain ⟨rfl, rfl⟩ := hq
    refine od_K.ret ?_
    rcases sl_is (m := 8) (by omega) to with ⟨e1, _⟩ | ⟨t, ht, rfl, e1⟩
    · rw [e1]
      refine od_r1F rfl (of_decide_eq_true rfl) (rfl) ?_
      exact bad1
    · rw [e1]
      dsimp only
      have hsi := h.2.2.2.2.1 i hi
      have ai := tm_al_tp hsi.2
      have xi : od_hl ρ i (tm_fl (tm_tp (X i))) := by rw [tm_fl_tp hsi.2]; exact hsi.1
      refine od_r1T rfl rfl (rfl) ?_
      refine od_W.rn (pc' := 21) (ls' := [some (.ref _), some (.int _), some (.int _), some (.int _)]) (st' := [.int _, .ref _, .ref _]) 2 rfl ?_
      refine od_rV (as := [.int (nI i)]) rfl rfl rfl rfl (md_0) rfl (Nat.le_of_ble_eq_true rfl) (Nat.le_of_ble_eq_true rfl) (rt_sort h.2.2.2.1 (by omega) ai xi) (Nat.le_of_ble_eq_true rfl) (fun o M1 hq => ?_)
      obtain ⟨rfl, rfl⟩ := hq
      refine od_K.ret ?_
      refine od_W.rn (pc' := 25) (ls' := [some (.ref _), some (.int _), some (.int _), some (.int _)]) (st' := [.int _, .int _, .ref _]) 1 rfl ?_
      by_cases hk : tm_k (tm_tp (X i)) = 2
      · rw [if_pos hk, hk]
        refine od_r2F rfl (of_decide_eq_true rfl) (rfl) ?_
        refine od_W.rn (pc' := 29) (ls' := [some (.ref _), some (.int _), some (.int _), some (.int _)]) (st' := [.int _, .ref _]) 1 rfl ?_
        by_cases h0 : m < 0
        · rw [if_neg (fun z => absurd (Int32.lt_of_lt_of_le h0 z.1) Int32.lt_irrefl)]
          refine od_r1T rfl rfl (decide_eq_true h0) ?_
          exact bad2
        · refine od_r1F rfl (of_decide_eq_true rfl) (decide_eq_false h0) ?_
          refine od_W.rn (pc' := 35) (ls' := [some (.ref _), some (.int _), some (.int _), some (.int _)]) (st' := [.int _, .int _, .ref _]) 2 rfl ?_
          by_cases h1 : m ≤ 1000000
          · have hc : 0 ≤ m ∧ m ≤ 1000000 := ⟨Int32.not_lt.mp h0, h1⟩
            rw [if_pos hc]
            obtain ⟨c, hc2, rfl⟩ := nI_in0 (n := 1000000) (by decide) hc
            rw [nI_clamp (by omega)]
            refine od_r2T rfl rfl (decide_eq_true h1) ?_
            refine od_W.rn (pc' := 43) (ls' := [some (.ref _), some (.int _), some (.int _), some (.int _)]) (st' := [.int _, .ref _]) 1 rfl ?_
            refine od_rP rfl (md_0) rfl (by simp) rfl (by decide) ?_
            rw [show od_set (md M y b fu ρ) y (od_ob 8 (List.set _ 0 (.int (Int32.ofInt 0)))) = md M y (nI 0, b.2) fu ρ from md_code]
            refine od_W.rn (pc' := 47) (ls' := [some (.ref _), some (.int _), some (.int _), some (.int _)]) (st' := [.ref _]) 1 rfl ?_
            refine od_rG rfl (md_0) rfl rfl ?_
            refine od_r1T rfl rfl (rfl) ?_
            refine od_W.rn (pc' := 57) (ls' := [some (.ref _), some (.int _), some (.int _), some (.int _)]) (st' := [.int _, .ref _]) 2 rfl ?_
            refine od_rP rfl (md_0) rfl (by simp) rfl (by decide) ?_
            rw [show od_set (md M y (nI 0, b.2) fu ρ) y (od_ob 8 (List.set _ 3 (.int (Int32.ofInt 0)))) = md M y (nI 0, b.2) false ρ from md_ful]
            refine od_W.rn (pc' := 65) (ls' := [some (.ref _), some (.int _), some (.int _), some (.int _)]) (st' := [.int _, .int _, .int _, .ref _]) 4 rfl ?_
            refine od_rV (as := [.int (nI i), .int (nI c), .int (nI 89)]) rfl rfl rfl rfl (md_0) rfl (Nat.le_of_ble_eq_true rfl) (Nat.le_of_ble_eq_true rfl) (rt_memberOf (by omega) (by omega) (by simp; omega) (by omega) hc2 h.2.2.2.1 h.1 ai hk xi) (Nat.le_of_ble_eq_true rfl) (fun o M1 hq => ?_)
            obtain ⟨M', w1, w2, hq⟩ := hq
            obtain ⟨rfl, fu1, ρ1, rfl, f1, b1, k1, p1⟩ := hq
            refine od_K.ret ?_
            have h1' : rd y M' (nI 0, b.2) ρ1 n X R d := ((h.cd (nI 0)).eM w1 w2).hi b1 (fun q hq => f1 q (by simp; omega))
            refine od_W.rn (pc' := 70) (ls' := [some (.ref _), some (.int _), some (.int _), some (.int _)]) (st' := [.int _, .ref _]) 2 rfl ?_
            refine od_rV (as := [.int (nI t)]) rfl rfl rfl rfl (md_0) rfl (Nat.le_of_ble_eq_true rfl) (Nat.le_of_ble_eq_true rfl) (rt_settle ht b1 p1) (Nat.le_of_ble_eq_true rfl) (fun o M1 hq => ?_)
            obtain ⟨v, rfl, hz⟩ := h1'.st (ok := tm_ft (sp_mem c (tm_tp (X i)))) ht (by rw [k1]; exact ⟨fun z => z.2, fun z => ⟨rfl, z⟩⟩) (fun z => sp_mem_W hc2 ai) hq
            refine od_K.ret ?_
            refine od_W.fin rfl ?_
            exact hz.o (w1.up (by simp)) (by omega)
          · rw [if_neg (fun z => h1 z.2)]
            refine od_r2F rfl (of_decide_eq_true rfl) (decide_eq_false h1) ?_
            exact bad2
      · rw [if_neg hk]
        refine od_r2T rfl rfl ((show (!decide (nI (tm_k (tm_tp (X i))) = nI 2)) = true by rw [decide_eq_false (fun z => hk ((nI_eq (Nat.lt_of_le_of_lt (tm_k_le2 _) (by omega)) (by omega)).mp z))]; rfl)) ?_
        exact bad2
set_option maxRecDepth 100000 in
theorem ref_st_loop {t a0 : Nat} {m : Nat} (ht : t < 8) (h2 : 2 ≤ m) (hm : m ≤ 1000000) {M0 : od_M} {ok0 : Prop} {zs : List Nat} (hW0 : ok0 → tm_W zs) : ∀ (f : Nat) (xs : List Nat) (fu : Bool) (M : od_M) (ρ : od_Rm), rd y M b ρ n X R d → od_eM (rd_V y) M0 M → tm_W xs → tm_k (tm_tp xs) ≠ 0 → (fu = false → ok_st m f xs → tm_k (tm_tp (sp_st m f xs)) = 1) → (fu = false → od_hl ρ 89 xs) → (fu = false ∧ ok_st m f xs ↔ ok0) → (fu = false → ok_st m f xs → zs = sp_pr (tm_tp (sp_st m f xs))) → od_W 8 119 68 [some (.ref y), some (.int (nI a0)), some (.int (nI m)), some (.int (nI t))] [] (md M y b fu ρ) (rd_o y M0 d (cs_code (cs_keep X t ok0 zs).1) n (cs_keep X t ok0 zs).2 R (rd_a (cs_keep X t ok0 zs).1)) := by
  have fin : ∀ (fu : Bool) (M : od_M) (ρ : od_Rm), rd y M b ρ n X R d → od_eM (rd_V y) M0 M → (fu = false ↔ ok0) → (fu = false → od_hl ρ 89 zs) → od_W 8 119 118 [some (.ref y), some (.int (nI a0)), some (.int (nI m)), some (.int (nI t))] [] (md M y b fu ρ) (rd_o y M0 d (cs_code (cs_keep X t ok0 zs).1) n (cs_keep X t ok0 zs).2 R (rd_a (cs_keep X t ok0 zs).1)) := by
    intro fu M ρ h e hok hx
    refine od_W.rn (pc' := 120) (ls' := [some (.ref _), some (.int _), some (.int _), some (.int _)]) (st' := [.int _, .ref _]) 2 rfl ?_
    refine od_rV (as := [.int (nI t)]) rfl rfl rfl rfl (md_0) rfl (Nat.le_of_ble_eq_true rfl) (Nat.le_of_ble_eq_true rfl) (rt_settle ht h.2.2.2.1 hx) (Nat.le_of_ble_eq_true rfl) (fun o M1 hq => ?_)
    obtain ⟨v, rfl, hz⟩ := h.st ht hok hW0 hq
    refine od_K.ret ?_
    refine od_W.fin rfl ?_
    exact hz.o e (by omega)
  have up : ∀ (f : Nat) (xs : List Nat) (M : od_M) (ρ : od_Rm), rd y M b ρ n X R d → od_eM (rd_V y) M0 M → (true = false ∧ ok_st m f xs ↔ ok0) → od_W 8 119 68 [some (.ref y), some (.int (nI a0)), some (.int (nI m)), some (.int (nI t))] [] (md M y b true ρ) (rd_o y M0 d (cs_code (cs_keep X t ok0 zs).1) n (cs_keep X t ok0 zs).2 R (rd_a (cs_keep X t ok0 zs).1)) := by
    intro f xs M ρ h e hok
    refine od_W.rn (pc' := 69) (ls' := [some (.ref _), some (.int _), some (.int _), some (.int _)]) (st' := [.ref _]) 1 rfl ?_
    refine od_rG rfl (md_0) rfl rfl ?_
    refine od_r1T rfl rfl (rfl) ?_
    refine od_W.rn (pc' := 106) (ls' := [some (.ref _), some (.int _), some (.int _), some (.int _)]) (st' := [.ref _]) 1 rfl ?_
    refine od_rG rfl (md_0) rfl rfl ?_
    refine od_r1T rfl rfl (rfl) ?_
    refine fin true M ρ h e ?_ (fun z => absurd z (by decide))
    rw [← hok]
    exact ⟨fun z => absurd z (by decide), fun z => absurd z.1 (by decide)⟩
  intro f
  induction f with
  | zero =>
    intro xs fu M ρ h e hW h0 hfin hx hok hz
    cases fu with
    | true => exact up 0 xs M ρ h e hok
    | false =>
      have hk := hfin rfl trivial
      have hx1 := hx rfl
      have hz1 := hz rfl trivial
      rw [show sp_st m 0 xs = xs from rfl] at hk hz1
      have hal := tm_al_tp hW
      have hx2 : od_hl ρ 89 (tm_fl (tm_tp xs)) := by rw [tm_fl_tp hW]; exact hx1
      obtain ⟨es, s, hes, hs0⟩ := tm_k_snoc1 hk
      have hal2 := hal
      rw [hes] at hal2
      refine od_W.rn (pc' := 69) (ls' := [some (.ref _), some (.int _), some (.int _), some (.int _)]) (st' := [.ref _]) 1 rfl ?_
      refine od_rG rfl (md_0) rfl rfl ?_
      refine od_r1F rfl (of_decide_eq_true rfl) (rfl) ?_
      refine od_W.rn (pc' := 78) (ls' := [some (.ref _), some (.int _), some (.int _), some (.int _)]) (st' := [.int _, .ref _]) 2 rfl ?_
      refine od_rV (as := [.int (nI 89)]) rfl rfl rfl rfl (md_0) rfl (Nat.le_of_ble_eq_true rfl) (Nat.le_of_ble_eq_true rfl) (rt_sort h.2.2.2.1 (by omega) hal hx2) (Nat.le_of_ble_eq_true rfl) (fun o M1 hq => ?_)
      obtain ⟨rfl, rfl⟩ := hq
      refine od_K.ret ?_
      rw [hk]
      refine od_W.rn (pc' := 82) (ls' := [some (.ref _), some (.int _), some (.int _), some (.int _)]) (st' := [.int _, .int _]) 1 rfl ?_
      refine od_r2T rfl rfl (rfl) ?_
      refine od_W.rn (pc' := 106) (ls' := [some (.ref _), some (.int _), some (.int _), some (.int _)]) (st' := [.ref _]) 1 rfl ?_
      refine od_rG rfl (md_0) rfl rfl ?_
      refine od_r1F rfl (of_decide_eq_true rfl) (rfl) ?_
      refine od_W.rn (pc' := 115) (ls' := [some (.ref _), some (.int _), some (.int _), some (.int _)]) (st' := [.int _, .ref _]) 2 rfl ?_
      refine od_rV (as := [.int (nI 89)]) rfl rfl rfl rfl (md_0) rfl (Nat.le_of_ble_eq_true rfl) (Nat.le_of_ble_eq_true rfl) (rt_lower h.2.2.2.1 (by omega) (tm_al_app.mp hal2).2.1 hs0 (by rw [← hes]; exact hx2)) (Nat.le_of_ble_eq_true rfl) (fun o M1 hq => ?_)
      obtain ⟨rfl, fu1, ρ1, rfl, f1, b1, k1, p1⟩ := hq
      refine od_K.ret ?_
      refine fin fu1 M ρ1 (h.hi b1 (fun q hq => f1 q (od_n1 (by omega)))) e ?_ (fun z => by rw [hz1, hes]; exact p1 z)
      rw [k1, ← hok]
      exact Iff.rfl
  | succ f ih =>
    intro xs fu M ρ h e hW h0 hfin hx hok hz
    cases fu with
    | true => exact up (f + 1) xs M ρ h e hok
    | false =>
      have hx1 := hx rfl
      have hal := tm_al_tp hW
      have hx2 : od_hl ρ 89 (tm_fl (tm_tp xs)) := by rw [tm_fl_tp hW]; exact hx1
      refine od_W.rn (pc' := 69) (ls' := [some (.ref _), some (.int _), some (.int _), some (.int _)]) (st' := [.ref _]) 1 rfl ?_
      refine od_rG rfl (md_0) rfl rfl ?_
      refine od_r1F rfl (of_decide_eq_true rfl) (rfl) ?_
      refine od_W.rn (pc' := 78) (ls' := [some (.ref _), some (.int _), some (.int _), some (.int _)]) (st' := [.int _, .ref _]) 2 rfl ?_
      refine od_rV (as := [.int (nI 89)]) rfl rfl rfl rfl (md_0) rfl (Nat.le_of_ble_eq_true rfl) (Nat.le_of_ble_eq_true rfl) (rt_sort h.2.2.2.1 (by omega) hal hx2) (Nat.le_of_ble_eq_true rfl) (fun o M1 hq => ?_)
      obtain ⟨rfl, rfl⟩ := hq
      refine od_K.ret ?_
      by_cases hk : tm_k (tm_tp xs) = 2
      · rw [show sp_st m (f + 1) xs = sp_st m f (sp_mem m (tm_tp xs)) from if_pos hk] at hfin hz
        have hW2 := sp_mem_W hm hal
        have h02 : tm_k (tm_tp (sp_mem m (tm_tp xs))) ≠ 0 := by
          show tm_k (tm_tp (sp_mb m (tm_fl (tm_tp xs)).length (tm_tp xs))) ≠ 0
          rcases st_1 h2 hm (tm_fl (tm_tp xs)).length (tm_tp xs) hal hk (Nat.le_refl _) with ⟨z, _⟩ | ⟨_, z⟩ | ⟨_, z⟩
          · omega
          · rw [st_G_k z]; decide
          · rw [st_H_k z]; decide
        rw [hk]
        refine od_W.rn (pc' := 82) (ls' := [some (.ref _), some (.int _), some (.int _), some (.int _)]) (st' := [.int _, .int _]) 1 rfl ?_
        refine od_r2F rfl (of_decide_eq_true rfl) (rfl) ?_
        refine od_W.rn (pc' := 90) (ls' := [some (.ref _), some (.int _), some (.int _), some (.int _)]) (st' := [.int _, .int _, .ref _]) 3 rfl ?_
        refine od_rV (as := [.int (nI 89), .int (nI 87)]) rfl rfl rfl rfl (md_0) rfl (Nat.le_of_ble_eq_true rfl) (Nat.le_of_ble_eq_true rfl) (ex_copy h.2.2.2.1 (by omega) (by omega) (by omega) hx2) (Nat.le_of_ble_eq_true rfl) (fun o M1 hq => ?_)
        obtain ⟨rfl, ρ1, rfl, f1, b1, p1⟩ := hq
        refine od_K.ret ?_
        refine od_W.rn (pc' := 99) (ls' := [some (.ref _), some (.int _), some (.int _), some (.int _)]) (st' := [.int _, .int _, .int _, .ref _]) 4 rfl ?_
        refine od_rV (as := [.int (nI 87), .int (nI m), .int (nI 89)]) rfl rfl rfl rfl (md_0) rfl (Nat.le_of_ble_eq_true rfl) (Nat.le_of_ble_eq_true rfl) (rt_memberOf (by omega) (by omega) (by simp) (by omega) hm b1 h.1 hal hk p1) (Nat.le_of_ble_eq_true rfl) (fun o M1 hq => ?_)
        obtain ⟨M', w1, w2, hq⟩ := hq
        obtain ⟨rfl, fu2, ρ2, rfl, f2, b2, k2, p2⟩ := hq
        refine od_K.ret ?_
        refine od_W.rn (pc' := 68) (ls' := [some (.ref _), some (.int _), some (.int _), some (.int _)]) (st' := []) 1 rfl ?_
        have k2' : fu2 = false ↔ tm_ft (sp_mem m (tm_tp xs)) := by rw [k2]; exact ⟨fun z => z.2, fun z => ⟨rfl, z⟩⟩
        refine ih (sp_mem m (tm_tp xs)) fu2 M' ρ2 ((h.eM w1 w2).hi b2 (fun q hq => (f2 q (by simp; omega)).trans (f1 q (od_n1 (by omega))))) (e.tr (w1.up (by simp))) hW2 h02 (fun z1 z2 => hfin rfl (fun _ => ⟨k2'.mp z1, z2⟩)) p2 ?_ (fun z1 z2 => hz rfl (fun _ => ⟨k2'.mp z1, z2⟩))
        · rw [← hok, k2']
          exact ⟨fun z => ⟨rfl, fun _ => z⟩, fun z => z.2 hk⟩
      · rw [show sp_st m (f + 1) xs = xs from if_neg hk] at hfin hz
        have hk1 : tm_k (tm_tp xs) = 1 := hfin rfl (fun z => absurd z hk)
        have hz1 := hz rfl (fun z => absurd z hk)
        obtain ⟨es, s, hes, hs0⟩ := tm_k_snoc1 hk1
        have hal2 := hal
        rw [hes] at hal2
        rw [hk1]
        refine od_W.rn (pc' := 82) (ls' := [some (.ref _), some (.int _), some (.int _), some (.int _)]) (st' := [.int _, .int _]) 1 rfl ?_
        refine od_r2T rfl rfl (rfl) ?_
        refine od_W.rn (pc' := 106) (ls' := [some (.ref _), some (.int _), some (.int _), some (.int _)]) (st' := [.ref _]) 1 rfl ?_
        refine od_rG rfl (md_0) rfl rfl ?_
        refine od_r1F rfl (of_decide_eq_true rfl) (rfl) ?_
        refine od_W.rn (pc' := 115) (ls' := [some (.ref _), some (.int _), some (.int _), some (.int _)]) (st' := [.int _, .ref _]) 2 rfl ?_
        refine od_rV (as := [.int (nI 89)]) rfl rfl rfl rfl (md_0) rfl (Nat.le_of_ble_eq_true rfl) (Nat.le_of_ble_eq_true rfl) (rt_lower h.2.2.2.1 (by omega) (tm_al_app.mp hal2).2.1 hs0 (by rw [← hes]; exact hx2)) (Nat.le_of_ble_eq_true rfl) (fun o M1 hq => ?_)
        obtain ⟨rfl, fu1, ρ1, rfl, f1, b1, k1, p1⟩ := hq
        refine od_K.ret ?_
        refine fin fu1 M ρ1 (h.hi b1 (fun q hq => f1 q (od_n1 (by omega)))) e ?_ (fun z => by rw [hz1, hes]; exact p1 z)
        rw [k1, ← hok]
        exact ⟨fun z => ⟨rfl, fun y => absurd y hk⟩, fun z => ⟨rfl, trivial⟩⟩
end RC3
