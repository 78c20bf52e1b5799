/-! The reference's START. -/
theorem sp_ib_s1 : ∀ b, b < 30 → 2 ≤ b → ∀ k, k < 30 → (tm_fl (sp_ib b k)).length ≤ 60 ∧ ((tm_fl (sp_ib b k)).all fun c => decide (c ≤ 1000000)) = true := by decide +kernel
theorem sp_ib_s {b k : Nat} (hb : 2 ≤ b) (hk : k < 30) : tm_ft (tm_fl (sp_ib b k)) := by
  rcases Nat.lt_or_ge b 30 with h | h
  · have h1 := sp_ib_s1 b h hb k hk
    exact ⟨h1.1, fun x hx => of_decide_eq_true (List.all_eq_true.mp h1.2 x hx)⟩
  · have es : ∀ j, j < 30 → sp_ib b j = (db b 0 j).map (fun p => (tm_fl (sp_ib b p.1), p.2)) := by
      intro j hj
      rw [sp_ib_eq hb j]
      have := db_skip hb (k := 0) (n := j) (by rw [Nat.zero_add, Nat.pow_one]; omega) 30
      rw [Nat.zero_add] at this
      rw [this]
    have e0 : sp_ib b 0 = [] := by rw [es 0 (by omega)]; simp [db]
    rw [es k hk]
    unfold db
    split
    · rw [List.map_cons, List.map_nil, tm_fl_one]
      dsimp only
      rw [e0, Nat.pow_zero, Nat.div_one]
      exact ⟨by rw [tm_t_len]; show ([] : List Nat).length + 3 ≤ 60; simp, tm_sm_t.mpr ⟨fun x hx => (List.not_mem_nil hx).elim, by dsimp only; omega⟩⟩
    · exact ⟨by simp [tm_fl], fun x hx => (List.not_mem_nil hx).elim⟩
section RST
variable {M : od_M} {y : Nat} {b : rf_B}
set_option maxRecDepth 100000 in
theorem cl_bs_loop {r bs n0 : Nat} {nn : Int32} (hr : r < 113) (hb1 : 2 ≤ bs) (hb2 : bs ≤ 1000) {fu0 : Bool} {ρ0 : od_Rm} {ok0 : Prop} {P0 : od_Rm → Prop} : ∀ (e : Nat) (l : Nat) (fu : Bool) (ρ : od_Rm) (zs : List Nat) (w8 : Option Value), e ≤ 30 → l ≤ n0 → n0 ≤ 1000000000 → bs ^ e ≤ 1000000000 → od_Bd ρ → (∀ a, a ∉ [r] → ρ a = ρ0 a) → (∀ j, bs ^ j ≤ n0 → 32 + j ≠ r ∧ j ≤ 29) → (fu = false → od_hl ρ r zs ∧ ∀ j, bs ^ j ≤ n0 → od_hl ρ (32 + j) (tm_fl (sp_ib bs j))) → (fu = false ∧ tm_ft (zs ++ ib_mp bs (db bs e l)) ↔ fu0 = false ∧ ok0) → (fu = false → ∀ ρ', od_hl ρ' r (zs ++ ib_mp bs (db bs e l)) → P0 ρ') → od_W 3 122 38 [some (.ref y), some (.int nn), some (.int (nI bs)), some (.int (nI r)), some (.long (lN (bs ^ e))), none, some (.int (nI e)), some (.int (nI l)), w8] [] (md M y b fu ρ) (rf_s M y b fu0 ρ0 [r] ok0 P0) := by
  have step : ∀ (e l : Nat) (fu : Bool) (ρ : od_Rm) (zs : List Nat) (w8 : Option Value) (Q : od_O → od_M → Prop), e ≤ 30 → l ≤ n0 → n0 ≤ 1000000000 → bs ^ e ≤ 1000000000 → od_Bd ρ → (∀ j, bs ^ j ≤ n0 → 32 + j ≠ r ∧ j ≤ 29) → (fu = false → od_hl ρ r zs ∧ ∀ j, bs ^ j ≤ n0 → od_hl ρ (32 + j) (tm_fl (sp_ib bs j))) → (∀ (fu1 : Bool) (ρ1 : od_Rm) (w8 : Option Value), od_Bd ρ1 → (∀ a, a ∉ [r] → ρ1 a = ρ a) → (fu1 = false ↔ fu = false ∧ tm_ft (zs ++ (if 0 < l / bs ^ e then tm_t (tm_fl (sp_ib bs e), l / bs ^ e) else []))) → (fu1 = false → od_hl ρ1 r (zs ++ (if 0 < l / bs ^ e then tm_t (tm_fl (sp_ib bs e), l / bs ^ e) else []))) → od_W 3 122 38 [some (.ref y), some (.int nn), some (.int (nI bs)), some (.int (nI r)), some (.long (lN (bs ^ e / bs))), none, some (.int (nI e - 1)), some (.int (nI (l % bs ^ e))), w8] [] (md M y b fu1 ρ1) Q) → od_W 3 122 38 [some (.ref y), some (.int nn), some (.int (nI bs)), some (.int (nI r)), some (.long (lN (bs ^ e))), none, some (.int (nI e)), some (.int (nI l)), w8] [] (md M y b fu ρ) Q := by
    intro e l fu ρ zs w8 Q he hl hn hp hb hjr hz hK
    have hpos : 0 < bs ^ e := Nat.pow_pos (by omega)
    have hd1 := Nat.div_le_self l (bs ^ e)
    have hm1 := Nat.mod_le l (bs ^ e)
    refine od_W.rn (pc' := 40) (ls' := [some (.ref _), some (.int _), some (.int _), some (.int _), some (.long _), none, some (.int _), some (.int _), _]) (st' := [.int _]) 1 rfl ?_
    refine od_r1F rfl (of_decide_eq_true rfl) (decide_eq_false (nI_pos (by omega))) ?_
    refine od_W.rn (pc' := 48) (ls' := [some (.ref _), some (.int _), some (.int _), some (.int _), some (.long _), none, some (.int _), some (.int _), _]) (st' := [.long _, .long _]) 3 rfl ?_
    rw [show (nI l).toInt64 = lN l from nI_l (by omega)]
    refine od_rDldiv rfl (rfl) (rfl) (hpos) ((by omega)) ((by omega)) ?_
    refine od_W.rn (pc' := 57) (ls' := [some (.ref _), some (.int _), some (.int _), some (.int _), some (.long _), none, some (.int _), some (.int _), some (.int _)]) (st' := [.long _, .long _]) 5 rfl ?_
    rw [lN_i, show (nI l).toInt64 = lN l from nI_l (by omega)]
    refine od_rDlrem rfl (rfl) (rfl) (hpos) ((by omega)) ((by omega)) ?_
    refine od_W.rn (pc' := 63) (ls' := [some (.ref _), some (.int _), some (.int _), some (.int _), some (.long _), none, some (.int _), some (.int _), some (.int _)]) (st' := [.int _]) 3 rfl ?_
    rw [lN_i]
    have tail : ∀ (fu1 : Bool) (ρ1 : od_Rm), od_Bd ρ1 → (∀ a, a ∉ [r] → ρ1 a = ρ a) → (fu1 = false ↔ fu = false ∧ tm_ft (zs ++ (if 0 < l / bs ^ e then tm_t (tm_fl (sp_ib bs e), l / bs ^ e) else []))) → (fu1 = false → od_hl ρ1 r (zs ++ (if 0 < l / bs ^ e then tm_t (tm_fl (sp_ib bs e), l / bs ^ e) else []))) → od_W 3 122 79 [some (.ref y), some (.int nn), some (.int (nI bs)), some (.int (nI r)), some (.long (lN (bs ^ e))), none, some (.int (nI e)), some (.int (nI (l % bs ^ e))), some (.int (nI (l / bs ^ e)))] [] (md M y b fu1 ρ1) Q := by
      intro fu1 ρ1 b1 fr1 k1 p1
      refine od_W.rn (pc' := 83) (ls' := [some (.ref _), some (.int _), some (.int _), some (.int _), some (.long _), none, some (.int _), some (.int _), some (.int _)]) (st' := [.long _, .long _]) 3 rfl ?_
      rw [nI_1000 (n := bs) (by omega)]
      refine od_rDldiv rfl (rfl) (rfl) ((by omega)) ((by omega)) ((by omega)) ?_
      refine od_W.rn (pc' := 38) (ls' := [some (.ref _), some (.int _), some (.int _), some (.int _), some (.long _), none, some (.int _), some (.int _), some (.int _)]) (st' := []) 3 rfl ?_
      rw [show nI e + Int32.ofInt (-1) = nI e - 1 from (Int32.sub_eq_add_neg (nI e) 1).symm]
      exact hK fu1 ρ1 _ b1 fr1 k1 p1
    by_cases h0 : l / bs ^ e = 0
    · rw [if_neg (by rw [h0]; exact Nat.lt_irrefl 0), List.append_nil] at tail
      refine od_r1T rfl rfl (decide_eq_true (by rw [h0]; exact Int32.le_refl _)) ?_
      exact tail fu ρ hb (fun _ _ => rfl) ⟨fun z => ⟨z, (hz z).1.le hb, (hz z).1.2⟩, fun z => z.1⟩ (fun z => (hz z).1)
    · rw [if_pos (Nat.pos_of_ne_zero h0)] at tail
      have hbe : bs ^ e ≤ n0 := by
        rcases Nat.lt_or_ge l (bs ^ e) with z | z
        · exact absurd (Nat.div_eq_of_lt z) h0
        · omega
      obtain ⟨j1, j2⟩ := hjr e hbe
      refine od_r1F rfl (of_decide_eq_true rfl) (decide_eq_false (nI_ge (a := 0) (Nat.pos_of_ne_zero h0) (by omega))) ?_
      refine od_W.rn (pc' := 76) (ls' := [some (.ref _), some (.int _), some (.int _), some (.int _), some (.long _), none, some (.int _), some (.int _), some (.int _)]) (st' := [.long _, .int _, .int _, .ref _]) 7 rfl ?_
      rw [show (Int8.ofInt 32).toInt32 + nI e = nI (32 + e) from nI_add 32 e, show (nI (l / bs ^ e)).toInt64 = lN (l / bs ^ e) from nI_l (by omega)]
      refine od_rV (as := [.int (nI r), .int (nI (32 + e)), .long (lN (l / bs ^ e))]) rfl rfl rfl rfl (md_0) rfl (Nat.le_of_ble_eq_true rfl) (Nat.le_of_ble_eq_true rfl) (rc_appendTerm hb hr (by omega) j1 (fun z => ⟨(hz z).2 e hbe, rfl, by omega⟩) (fun z => (hz z).1)) (Nat.le_of_ble_eq_true rfl) (fun o M1 hq => ?_)
      obtain ⟨rfl, fu1, ρ1, rfl, f1, b1, k1, p1⟩ := hq
      refine od_K.ret ?_
      exact tail fu1 ρ1 b1 f1 k1 p1
  intro e
  induction e with
  | zero =>
    intro l fu ρ zs w8 he hl hn hp hb g hjr hz hok hP
    have ed : ib_mp bs (db bs 0 l) = if 0 < l / bs ^ 0 then tm_t (tm_fl (sp_ib bs 0), l / bs ^ 0) else [] := by
      unfold db ib_mp
      split
      · simp [tm_fl]
      · rfl
    rw [ed] at hok hP
    refine step 0 l fu ρ zs w8 _ he hl hn hp hb hjr hz (fun fu1 ρ1 w8 b1 fr1 k1 p1 => ?_)
    refine od_W.rn (pc' := 40) (ls' := [some (.ref _), some (.int _), some (.int _), some (.int _), some (.long _), none, some (.int _), some (.int _), _]) (st' := [.int _]) 1 rfl ?_
    refine od_r1T rfl rfl (rfl) ?_
    refine od_W.fin rfl ?_
    refine ⟨rfl, fu1, ρ1, rfl, fun a ha => (fr1 a ha).trans (g a ha), b1, ?_, fun z => hP (k1.mp z).1 ρ1 (p1 z)⟩
    rw [k1, hok]
  | succ e ih =>
    intro l fu ρ zs w8 he hl hn hp hb g hjr hz hok hP
    have ed : ib_mp bs (db bs (e + 1) l) = (if 0 < l / bs ^ (e + 1) then tm_t (tm_fl (sp_ib bs (e + 1)), l / bs ^ (e + 1)) else []) ++ ib_mp bs (db bs e (l % bs ^ (e + 1))) := by
      unfold ib_mp
      conv => lhs; unfold db
      rw [List.map_append, tm_fl_app]
      congr 1
      split
      · simp [tm_fl]
      · rfl
    rw [ed, ← List.append_assoc] at hok hP
    refine step (e + 1) l fu ρ zs w8 _ he hl hn hp hb hjr hz (fun fu1 ρ1 w8 b1 fr1 k1 p1 => ?_)
    have e7 : bs ^ (e + 1) / bs = bs ^ e := by rw [Nat.pow_succ, Nat.mul_div_cancel _ (by omega)]
    rw [e7, nI_pred e]
    have hmod := Nat.mod_le l (bs ^ (e + 1))
    have hle : bs ^ e ≤ bs ^ (e + 1) := Nat.pow_le_pow_right (by omega) (by omega)
    refine ih (l % bs ^ (e + 1)) fu1 ρ1 _ w8 (by omega) (by omega) hn (by omega) b1 (fun a ha => (fr1 a ha).trans (g a ha)) hjr (fun z => ⟨p1 z, fun j hj => ((hz (k1.mp z).1).2 j hj).fr (fr1 _ (od_n1 (hjr j hj).1))⟩) ?_ (fun z => hP (k1.mp z).1)
    rw [← hok, k1]
    exact ⟨fun z => ⟨z.1.1, z.2⟩, fun z => ⟨⟨z.1, tm_ft_l z.2⟩, z.2⟩⟩
set_option maxRecDepth 100000 in
theorem cl_bs_up {D n bs : Nat} {r0 : Int32} {Ms : od_M} {Q : od_O → od_M → Prop} {w7 w8 : Option Value} (hb1 : 2 ≤ bs) (hb2 : bs ≤ 1000) (hn : n ≤ 1000000000) (hk : ∀ k, k ≤ 30 → bs ^ k ≤ 1000000000 → n < bs ^ (k + 1) → od_W D 122 35 [some (.ref y), some (.int (nI n)), some (.int (nI bs)), some (.int r0), some (.long (lN (bs ^ k))), none, some (.int (nI k)), w7, w8] [] Ms Q) : ∀ (m k : Nat), k + m = 30 → bs ^ k ≤ 1000000000 → od_W D 122 11 [some (.ref y), some (.int (nI n)), some (.int (nI bs)), some (.int r0), some (.long (lN (bs ^ k))), none, some (.int (nI k)), w7, w8] [] Ms Q := by
  intro m
  induction m with
  | zero =>
    intro k hkm hp
    exfalso
    have h1 : 2 ^ 30 ≤ bs ^ 30 := Nat.pow_le_pow_left hb1 30
    rw [show k = 30 by omega] at hp
    omega
  | succ m ih =>
    intro k hkm hp
    have hbb : bs ^ k * bs ≤ 1000000000 * 1000 := Nat.mul_le_mul hp hb2
    refine od_W.rn (pc' := 19) (ls' := [some (.ref _), some (.int _), some (.int _), some (.int _), some (.long _), none, some (.int _), _, _]) (st' := [.int _]) 7 rfl ?_
    rw [nI_1000 (n := bs) (by omega), show (nI n).toInt64 = lN n from nI_l (by omega), lN_mul]
    by_cases h : n < bs ^ k * bs
    · refine od_r1T rfl rfl ((od_lc_gt _ _).trans (decide_eq_true ((pk_lLT (by omega) (by omega)).mpr h))) ?_
      exact hk k (by omega) hp (by rw [Nat.pow_succ]; exact h)
    · refine od_r1F rfl (of_decide_eq_true rfl) ((od_lc_gt _ _).trans (decide_eq_false (fun z => h ((pk_lLT (by omega) (by omega)).mp z)))) ?_
      refine od_W.rn (pc' := 11) (ls' := [some (.ref _), some (.int _), some (.int _), some (.int _), some (.long _), none, some (.int _), _, _]) (st' := []) 7 rfl ?_
      rw [nI_1000 (n := bs) (by omega), lN_mul, nI_inc k, ← Nat.pow_succ]
      exact ih (k + 1) (by omega) (by rw [Nat.pow_succ]; omega)
theorem rc_based {r n bs : Nat} {fu : Bool} {ρ : od_Rm} (hr : r < 113) (hb1 : 2 ≤ bs) (hb2 : bs ≤ 1000) (hn : n ≤ 1000000000) (hb : od_Bd ρ) (hjr : ∀ j, bs ^ j ≤ n → 32 + j ≠ r) (hz : fu = false → ∀ j, bs ^ j ≤ n → od_hl ρ (32 + j) (tm_fl (sp_ib bs j))) : od_W 3 122 0 (od_ent 122 [.ref y, .int (nI n), .int (nI bs), .int (nI r)]) [] (md M y b fu ρ) (rf_s M y b fu ρ [r] (tm_ft (tm_fl (sp_ib bs n))) (fun ρ' => od_hl ρ' r (tm_fl (sp_ib bs n)))) := by
  have e0 : od_ent 122 [.ref y, .int (nI n), .int (nI bs), .int (nI r)] = [some (.ref y), some (.int (nI n)), some (.int (nI bs)), some (.int (nI r)), none, none, none, none, none] := rfl
  rw [e0]
  refine od_W.rn (pc' := 2) (ls' := [some (.ref _), some (.int _), some (.int _), some (.int _), none, none, none, none, none]) (st' := [.int _, .ref _]) 2 rfl ?_
  refine od_rV (as := [.int (nI r)]) rfl rfl rfl rfl (md_0) rfl (Nat.le_of_ble_eq_true rfl) (Nat.le_of_ble_eq_true rfl) (rt_clear hb hr) (Nat.le_of_ble_eq_true rfl) (fun o M1 hq => ?_)
  obtain ⟨rfl, fu1, ρ1, rfl, f1, b1, k1, p1⟩ := hq
  refine od_K.ret ?_
  refine od_W.rn (pc' := 11) (ls' := [some (.ref _), some (.int _), some (.int _), some (.int _), some (.long _), none, some (.int _), none, none]) (st' := []) 4 rfl ?_
  refine cl_bs_up hb1 hb2 hn (fun k hk hp hlt => ?_) 30 0 (by omega) (by rw [Nat.pow_zero]; omega)
  have es : sp_ib bs n = (db bs k n).map (fun p => (tm_fl (sp_ib bs p.1), p.2)) := by
    rw [sp_ib_eq hb1 n]
    have := db_skip hb1 hlt (30 - k)
    rw [show k + (30 - k) = 30 by omega] at this
    rw [this]
  rw [es]
  refine od_W.rn (pc' := 38) (ls' := [some (.ref _), some (.int _), some (.int _), some (.int _), some (.long _), none, some (.int _), some (.int _), none]) (st' := []) 2 rfl ?_
  refine cl_bs_loop (n0 := n) hr hb1 hb2 k n fu1 ρ1 [] none hk (Nat.le_refl _) hn hp b1 f1 (fun j hj => ⟨hjr j hj, pow_lt_of hb1 hj (by omega)⟩) (fun z => ⟨p1 z, fun j hj => (hz (k1.mp z).1 j hj).fr (f1 _ (od_n1 (hjr j hj)))⟩) ?_ ?_
  · rw [k1, List.nil_append]
    exact ⟨fun z => ⟨z.1.1, z.2⟩, fun z => ⟨⟨z.1, trivial⟩, z.2⟩⟩
  · rw [List.nil_append]
    exact fun _ _ h => h
end RST
section RST2
variable {y n d : Nat} {M : od_M} {b : rf_B} {fu : Bool} {ρ : od_Rm} {X R : Nat → List Nat}
theorem ref_start_loop {t c g : Nat} (ht : t < 8) (hg1 : 2 ≤ g) (hg2 : g ≤ 1000) (hc2 : c ≤ 1000000000) : ∀ (m k : Nat) (ρ : od_Rm), k + m = 30 → rd y M b ρ n X R d → (∀ j, j < k → od_hl ρ (32 + j) (tm_fl (sp_ib g j))) → od_W 5 123 59 [some (.ref y), some (.int (nI c)), some (.int (nI g)), some (.int (nI t)), some (.int (nI k))] [] (md M y b false ρ) (rd_o y M d (cs_code (cs_keep X t (tm_ft (tm_fl (sp_ib g c))) (tm_fl (sp_ib g c))).1) n (cs_keep X t (tm_ft (tm_fl (sp_ib g c))) (tm_fl (sp_ib g c))).2 R (rd_a (cs_keep X t (tm_ft (tm_fl (sp_ib g c))) (tm_fl (sp_ib g c))).1)) := by
  intro m
  induction m with
  | zero =>
    intro k ρ hk h hj
    have hk30 : k = 30 := by omega
    subst hk30
    refine od_W.rn (pc' := 63) (ls' := [some (.ref _), some (.int _), some (.int _), some (.int _), some (.int _)]) (st' := [.int _, .int _]) 2 rfl ?_
    refine od_r2T rfl rfl (rfl) ?_
    refine od_W.rn (pc' := 89) (ls' := [some (.ref _), some (.int _), some (.int _), some (.int _), some (.int _)]) (st' := [.int _, .int _, .int _, .ref _]) 4 rfl ?_
    refine od_rV (as := [.int (nI c), .int (nI g), .int (nI 89)]) rfl rfl rfl rfl (md_0) rfl (Nat.le_of_ble_eq_true rfl) (Nat.le_of_ble_eq_true rfl) (rc_based (by omega) hg1 hg2 hc2 h.2.2.2.1 (fun j hj2 => by have := pow_lt_of hg1 hj2 (k := 29) (by omega); omega) (fun _ j hj2 => hj j (by have := pow_lt_of hg1 hj2 (k := 29) (by omega); omega))) (Nat.le_of_ble_eq_true rfl) (fun o M1 hq => ?_)
    obtain ⟨rfl, fu1, ρ1, rfl, f1, b1, k1, p1⟩ := hq
    refine od_K.ret ?_
    have h1 := h.hi b1 (fun q hq => f1 q (od_n1 (by omega)))
    refine od_W.rn (pc' := 94) (ls' := [some (.ref _), some (.int _), some (.int _), some (.int _), some (.int _)]) (st' := [.int _, .ref _]) 2 rfl ?_
    refine od_rV (as := [.int (nI t)]) rfl rfl rfl rfl (md_0) rfl (Nat.le_of_ble_eq_true rfl) (Nat.le_of_ble_eq_true rfl) (rt_settle ht b1 p1) (Nat.le_of_ble_eq_true rfl) (fun o M1 hq => ?_)
    obtain ⟨v, rfl, hz⟩ := h1.st (ok := tm_ft (tm_fl (sp_ib g c))) ht (by rw [k1]; exact ⟨fun z => z.2, fun z => ⟨rfl, z⟩⟩) (fun z => tm_fl_W (sp_ib_al hg1 (c + 1) c (by omega) z.2)) hq
    refine od_K.ret ?_
    refine od_W.fin rfl ?_
    exact hz.o (od_eM.refl _ _) (by omega)
  | succ m ih =>
    intro k ρ hk h hj
    refine od_W.rn (pc' := 63) (ls' := [some (.ref _), some (.int _), some (.int _), some (.int _), some (.int _)]) (st' := [.int _, .int _]) 2 rfl ?_
    refine od_r2F rfl (of_decide_eq_true rfl) (decide_eq_false (nI_ge (b := 30) (by omega) (by omega))) ?_
    refine od_W.rn (pc' := 75) (ls' := [some (.ref _), some (.int _), some (.int _), some (.int _), some (.int _)]) (st' := [.int _, .int _, .int _, .ref _]) 6 rfl ?_
    rw [show (Int8.ofInt 32).toInt32 + nI k = nI (32 + k) from nI_add 32 k]
    refine od_rV (as := [.int (nI k), .int (nI g), .int (nI (32 + k))]) rfl rfl rfl rfl (md_0) rfl (Nat.le_of_ble_eq_true rfl) (Nat.le_of_ble_eq_true rfl) (rc_based (by omega) hg1 hg2 (by omega) h.2.2.2.1 (fun j hj2 => by have := vl_grow hg1 j; omega) (fun _ j hj2 => hj j (by have := vl_grow hg1 j; omega))) (Nat.le_of_ble_eq_true rfl) (fun o M1 hq => ?_)
    obtain ⟨rfl, fu1, ρ1, rfl, f1, b1, k1, p1⟩ := hq
    refine od_K.ret ?_
    have hf1 : fu1 = false := k1.mpr ⟨rfl, sp_ib_s hg1 (by omega)⟩
    subst hf1
    refine od_W.rn (pc' := 59) (ls' := [some (.ref _), some (.int _), some (.int _), some (.int _), some (.int _)]) (st' := []) 2 rfl ?_
    rw [nI_inc k]
    refine ih (k + 1) ρ1 (by omega) (h.hi b1 (fun q hq => f1 q (od_n1 (by omega)))) (fun j hj2 => ?_)
    by_cases e : j = k
    · subst e; exact p1 rfl
    · exact (hj j (by omega)).fr (f1 _ (od_n1 (by omega)))
theorem ref_start (h : rd y M b ρ n X R d) (m g to : Int32) : od_W 5 123 0 (od_ent 123 [.ref y, .int m, .int g, .int to]) [] (md M y b fu ρ) (rd_o y M d (cs_code (cs_start X m g to).1) n (cs_start X m g to).2 R (rd_a (cs_start X m g to).1)) := by
  have e0 : od_ent 123 [.ref y, .int m, .int g, .int to] = [some (.ref y), some (.int m), some (.int g), some (.int to), none] := rfl
  rw [e0]
  unfold cs_start
  have bad2 : od_W 5 123 34 [some (.ref y), some (.int m), some (.int g), some (.int to), none] [.ref y] (md M y b fu ρ) (rd_o y M d 2 n X R (rd_a (.inr 1))) := by
    refine od_W.rn (pc' := 39) (ls' := [some (.ref _), some (.int _), some (.int _), some (.int _), none]) (st' := [.int _, .ref _]) 2 rfl ?_
    refine od_rP rfl (md_0) rfl (by simp) rfl (by decide) ?_
    rw [show od_set (md M y b fu ρ) y (od_ob 8 (List.set _ 0 (.int (Int32.ofInt 2)))) = md M y (nI 2, b.2) fu ρ from md_code]
    refine od_W.rn (pc' := 43) (ls' := [some (.ref _), some (.int _), some (.int _), some (.int _), none]) (st' := [.ref _]) 1 rfl ?_
    refine od_rG rfl (md_0) rfl rfl ?_
    refine od_r1F rfl (of_decide_eq_true rfl) (rfl) ?_
    refine od_W.rn (pc' := 50) (ls' := [some (.ref _), some (.int _), some (.int _), some (.int _), none]) (st' := [.int _]) 1 rfl ?_
    refine od_W.fin rfl ?_
    exact (h.cd _).o rfl ⟨_, rfl, fun w z => absurd z (by simp)⟩
  refine od_W.rn (pc' := 2) (ls' := [some (.ref _), some (.int _), some (.int _), some (.int _), none]) (st' := [.int _, .ref _]) 2 rfl ?_
  refine od_rSt (as := [.int to]) rfl rfl rfl rfl (Nat.le_of_ble_eq_true rfl) (Nat.le_of_ble_eq_true rfl) (ct_noSlot to) (Nat.le_of_ble_eq_true rfl) (fun o M1 hq => ?_)
  obtain ⟨rfl, rfl⟩ := hq
  refine od_K.ret ?_
  rcases sl_is (m := 8) (by omega) to with ⟨e1, _⟩ | ⟨t, ht, rfl, e1⟩
  · rw [e1]
    refine od_r1F rfl (of_decide_eq_true rfl) (rfl) ?_
    refine od_W.rn (pc' := 39) (ls' := [some (.ref _), some (.int _), some (.int _), some (.int _), none]) (st' := [.int _, .ref _]) 2 rfl ?_
    refine od_rP rfl (md_0) rfl (by simp) rfl (by decide) ?_
    rw [show od_set (md M y b fu ρ) y (od_ob 8 (List.set _ 0 (.int (Int32.ofInt 1)))) = md M y (nI 1, b.2) fu ρ from md_code]
    refine od_W.rn (pc' := 43) (ls' := [some (.ref _), some (.int _), some (.int _), some (.int _), none]) (st' := [.ref _]) 1 rfl ?_
    refine od_rG rfl (md_0) rfl rfl ?_
    refine od_r1F rfl (of_decide_eq_true rfl) (rfl) ?_
    refine od_W.rn (pc' := 50) (ls' := [some (.ref _), some (.int _), some (.int _), some (.int _), none]) (st' := [.int _]) 1 rfl ?_
    refine od_W.fin rfl ?_
    exact (h.cd _).o rfl ⟨_, rfl, fun w z => absurd z (by simp)⟩
  · rw [e1]
    dsimp only
    refine od_r1T rfl rfl (rfl) ?_
    refine od_W.rn (pc' := 13) (ls' := [some (.ref _), some (.int _), some (.int _), some (.int _), none]) (st' := [.int _, .ref _]) 1 rfl ?_
    by_cases h0 : m < 0
    · rw [if_neg (fun z => absurd (Int32.lt_of_lt_of_le h0 z.1) Int32.lt_irrefl)]
      refine od_r1T rfl rfl (decide_eq_true h0) ?_
      exact bad2
    · refine od_r1F rfl (of_decide_eq_true rfl) (decide_eq_false h0) ?_
      refine od_W.rn (pc' := 19) (ls' := [some (.ref _), some (.int _), some (.int _), some (.int _), none]) (st' := [.int _, .int _, .ref _]) 2 rfl ?_
      by_cases h1 : 1000000000 < m
      · rw [if_neg (fun z => absurd (Int32.lt_of_lt_of_le h1 z.2) Int32.lt_irrefl)]
        refine od_r2T rfl rfl (decide_eq_true h1) ?_
        exact bad2
      · have hc : 0 ≤ m ∧ m ≤ 1000000000 := ⟨Int32.not_lt.mp h0, Int32.not_lt.mp h1⟩
        rw [if_pos hc]
        refine od_r2F rfl (of_decide_eq_true rfl) (decide_eq_false h1) ?_
        refine od_W.rn (pc' := 24) (ls' := [some (.ref _), some (.int _), some (.int _), some (.int _), none]) (st' := [.int _, .int _, .ref _]) 2 rfl ?_
        by_cases h2 : g < 2
        · rw [if_neg (fun z => absurd (Int32.lt_of_lt_of_le h2 z.1) Int32.lt_irrefl)]
          refine od_r2T rfl rfl (decide_eq_true h2) ?_
          exact bad2
        · refine od_r2F rfl (of_decide_eq_true rfl) (decide_eq_false h2) ?_
          refine od_W.rn (pc' := 31) (ls' := [some (.ref _), some (.int _), some (.int _), some (.int _), none]) (st' := [.int _, .int _, .ref _]) 2 rfl ?_
          by_cases h3 : g ≤ 1000
          · have hg : 2 ≤ g ∧ g ≤ 1000 := ⟨Int32.not_lt.mp h2, h3⟩
            rw [if_pos hg]
            obtain ⟨c, hc2, rfl⟩ := nI_in0 (n := 1000000000) (by decide) hc
            obtain ⟨g, hg1, hg2, rfl⟩ := nI_in2 (n := 1000) (by decide) (by omega) hg
            rw [nI_clamp (by omega), nI_clamp (by omega)]
            refine od_r2T rfl rfl (decide_eq_true h3) ?_
            refine od_W.rn (pc' := 39) (ls' := [some (.ref _), some (.int _), some (.int _), some (.int _), none]) (st' := [.int _, .ref _]) 1 rfl ?_
            refine od_rP rfl (md_0) rfl (by simp) rfl (by decide) ?_
            rw [show od_set (md M y b fu ρ) y (od_ob 8 (List.set _ 0 (.int (Int32.ofInt 0)))) = md M y (nI 0, b.2) fu ρ from md_code]
            refine od_W.rn (pc' := 43) (ls' := [some (.ref _), some (.int _), some (.int _), some (.int _), none]) (st' := [.ref _]) 1 rfl ?_
            refine od_rG rfl (md_0) rfl rfl ?_
            refine od_r1T rfl rfl (rfl) ?_
            refine od_W.rn (pc' := 53) (ls' := [some (.ref _), some (.int _), some (.int _), some (.int _), none]) (st' := [.int _, .ref _]) 2 rfl ?_
            refine od_rP rfl (md_0) rfl (by simp) rfl (by decide) ?_
            rw [show od_set (md M y (nI 0, b.2) fu ρ) y (od_ob 8 (List.set _ 3 (.int (Int32.ofInt 0)))) = md M y (nI 0, b.2) false ρ from md_ful]
            refine od_W.rn (pc' := 59) (ls' := [some (.ref _), some (.int _), some (.int _), some (.int _), some (.int _)]) (st' := []) 2 rfl ?_
            exact ref_start_loop ht hg1 hg2 hc2 30 0 ρ (by omega) (h.cd _) (fun j hj => by omega)
          · rw [if_neg (fun z => h3 z.2)]
            refine od_r2F rfl (of_decide_eq_true rfl) (decide_eq_false h3) ?_
            exact bad2
end RST2
