/-! The reference's FAST. -/
def rp_ok (ρ : od_Rm) (tm : Nat → Int32) : fs_S → Prop
  | [] => True
  | p :: rest => od_hl ρ (20 + rest.length) p.1 ∧ tm rest.length = nI p.2 ∧ 1 ≤ p.2 ∧ p.2 ≤ 1000000 ∧ tm_W p.1 ∧ rp_ok ρ tm rest
theorem rp_ok.fr {ρ ρ' : od_Rm} {tm tm' : Nat → Int32} : ∀ {s : fs_S}, rp_ok ρ tm s → (∀ j, j < s.length → ρ' (20 + j) = ρ (20 + j) ∧ tm' j = tm j) → rp_ok ρ' tm' s := by
  intro s
  induction s with
  | nil => intro _ _; exact trivial
  | cons p s ih =>
    intro h hf
    have h1 := hf s.length (by simp)
    exact ⟨h.1.fr h1.1, h1.2.trans h.2.1, h.2.2.1, h.2.2.2.1, h.2.2.2.2.1, ih h.2.2.2.2.2 (fun j hj => hf j (by simp; omega))⟩
theorem rp_pop {ρ : od_Rm} {tm : Nat → Int32} {c : Nat} {xs : List Nat} {rest : fs_S} (h : rp_ok ρ tm ((xs, c) :: rest)) : rp_ok ρ (upd tm rest.length (nI (c - 1))) (fs_pop xs c rest) := by
  have hr : rp_ok ρ (upd tm rest.length (nI (c - 1))) rest := h.2.2.2.2.2.fr (fun j hj => ⟨rfl, upd_o (by omega)⟩)
  have h3 := h.2.2.2.1
  unfold fs_pop
  by_cases hc : c ≤ 1
  · rw [if_pos hc]; exact hr
  · rw [if_neg hc]
    dsimp only at h3
    exact ⟨h.1, upd_s _ _ _, by dsimp only; omega, by dsimp only; omega, h.2.2.2.2.1, hr⟩
abbrev rp_V (y : Nat) : List Nat := [y + 3, y + 4, y + 5, y + 6]
theorem rd.eP {y n d : Nat} {M M' : od_M} {b : rf_B} {ρ : od_Rm} {X R : Nat → List Nat} (h : rd y M b ρ n X R d) (e : od_eM (rp_V y) M M') (ha : me_as M' y) (ht : ∃ f, M'.2.2 (y + 3) = some (od_ia 12 f)) : rd y M' b ρ n X R d := by
  obtain ⟨h1, h2, h3, h4⟩ := h
  exact ⟨ha, ht, ⟨h3.choose, (e.2.2 _ (by simp)).trans h3.choose_spec⟩, h4⟩
def rp_ao (M : od_M) (y : Nat) (b : rf_B) (ρ : od_Rm) (xs : List Nat) (c : Nat) (rest : fs_S) (v : Nat) : od_O → od_M → Prop := fun o M2 => ∃ M' pl fu' ρ' w tm', M2 = md M' y (b.1, b.2.1, pl, b.2.2.2) fu' ρ' ∧ o = .inl (some (.int w)) ∧ od_eM (rp_V y) M M' ∧ me_as M' y ∧ M'.2.2 (y + 3) = some (od_ia 12 tm') ∧ od_Bd ρ' ∧ (∀ q, q < 20 → ρ' q = ρ q) ∧ (fu' = false ↔ (tm_k (tm_tp xs) = 2 → tm_ft (sp_mem v (tm_tp xs)))) ∧ (fu' = false → ((fs_nx xs c rest v = none ∧ ((w = nI 1000001 ∧ ∃ l, l ≤ 12 ∧ pl = nI l) ∨ pl = nI 13)) ∨ ∃ q, fs_nx xs c rest v = some q ∧ w = nI q.2 ∧ pl = nI q.1.length ∧ rp_ok ρ' tm' q.1 ∧ q.1.length ≤ 12 ∧ q.2 ≤ 1000000))
section RFS
variable {y : Nat} {M : od_M} {b : rf_B}
theorem md_pile {fu : Bool} {ρ : od_Rm} {c : Int32} : od_set (md M y b fu ρ) y (od_ob 8 [.int b.1, .ref (y + 1), .ref (y + 2), .int (if fu = true then 1 else 0), .int b.2.1, .int c, .ref (y + 3), .ref (y + 4), .ref (y + 5), .ref (y + 6), .ref (y + 7)]) = md M y (b.1, b.2.1, c, b.2.2.2) fu ρ := md_ob (b' := (b.1, b.2.1, c, b.2.2.2)) (fu' := fu) rfl
/-- the end of apply: one more on the pile -/
theorem rp_push {fu : Bool} {ρ : od_Rm} {tm : Nat → Int32} {v s L : Nat} {zs : List Nat} (hs : s = 1 ∨ s = 2) (hv : v ≤ 1000000) (hL : L ≤ 12) (ht : M.2.2 (y + 3) = some (od_ia 12 tm)) (hb : od_Bd ρ) (hz : fu = false → od_hl ρ 87 zs) (hp : b.2.2.1 = nI L) : od_W 7 130 116 [some (.ref y), some (.int (nI v)), some (.int (nI s))] [] (md M y b fu ρ) (fun o M2 => o = .inl (some (.int (nI v))) ∧ ((L = 12 ∧ M2 = md M y (b.1, b.2.1, nI 13, b.2.2.2) fu ρ) ∨ (L < 12 ∧ ∃ fu' ρ', M2 = md (od_set M (y + 3) (od_ia 12 (upd tm L (nI (if s = 1 then v else 1))))) y (b.1, b.2.1, nI (L + 1), b.2.2.2) fu' ρ' ∧ od_Bd ρ' ∧ (∀ q, q ∉ [20 + L] → ρ' q = ρ q) ∧ (fu' = false ↔ fu = false) ∧ (fu' = false → od_hl ρ' (20 + L) zs)))) := by
  refine od_W.rn (pc' := 117) (ls' := [some (.ref _), some (.int _), some (.int _)]) (st' := [.ref _]) 1 rfl ?_
  refine od_rG rfl (md_0) rfl rfl ?_
  rw [hp]
  refine od_W.rn (pc' := 122) (ls' := [some (.ref _), some (.int _), some (.int _)]) (st' := [.int _, .int _]) 1 rfl ?_
  by_cases h : L = 12
  · refine od_r2T rfl rfl (decide_eq_true (nI_le (a := 12) (by omega) (by omega))) ?_
    refine od_W.rn (pc' := 159) (ls' := [some (.ref _), some (.int _), some (.int _)]) (st' := [.ref _, .ref _]) 2 rfl ?_
    refine od_rG rfl (md_0) rfl rfl ?_
    refine od_W.rn (pc' := 164) (ls' := [some (.ref _), some (.int _), some (.int _)]) (st' := [.int _, .ref _]) 2 rfl ?_
    refine od_rP rfl (md_0) rfl (by simp) rfl (by decide) ?_
    rw [show od_set (md M y b fu ρ) y (od_ob 8 (List.set _ 5 (.int (b.2.2.1 + Int32.ofInt 1)))) = md M y (b.1, b.2.1, b.2.2.1 + Int32.ofInt 1, b.2.2.2) fu ρ from md_pile, hp, h, show nI 12 + Int32.ofInt 1 = nI 13 from rfl]
    refine od_W.rn (pc' := 168) (ls' := [some (.ref _), some (.int _), some (.int _)]) (st' := [.int _]) 1 rfl ?_
    refine od_W.fin rfl ?_
    exact ⟨rfl, Or.inl ⟨rfl, rfl⟩⟩
  · have hlt : L < 12 := by omega
    refine od_r2F rfl (of_decide_eq_true rfl) (decide_eq_false (nI_ge (b := 12) (by omega) (by omega))) ?_
    refine od_W.rn (pc' := 131) (ls' := [some (.ref _), some (.int _), some (.int _)]) (st' := [.ref _, .int _, .int _, .ref _]) 4 rfl ?_
    refine od_rG rfl (md_0) rfl rfl ?_
    rw [hp]
    refine od_W.rn (pc' := 135) (ls' := [some (.ref _), some (.int _), some (.int _)]) (st' := [.int _, .int _, .ref _]) 1 rfl ?_
    rw [show (Int8.ofInt 20).toInt32 + nI L = nI (20 + L) from nI_add 20 L]
    refine od_rV (as := [.int (nI 87), .int (nI (20 + L))]) rfl rfl rfl rfl (md_0) rfl (Nat.le_of_ble_eq_true rfl) (Nat.le_of_ble_eq_true rfl) (rc_copy hb (by omega) (by omega) (by omega) hz) (Nat.le_of_ble_eq_true rfl) (fun o M1 hq => ?_)
    obtain ⟨rfl, fu1, ρ1, rfl, f1, b1, k1, p1⟩ := hq
    refine od_K.ret ?_
    refine od_W.rn (pc' := 139) (ls' := [some (.ref _), some (.int _), some (.int _)]) (st' := [.ref _]) 1 rfl ?_
    refine od_rG rfl (md_0) rfl rfl ?_
    refine od_W.rn (pc' := 143) (ls' := [some (.ref _), some (.int _), some (.int _)]) (st' := [.ref _, .ref _]) 1 rfl ?_
    refine od_rG rfl (md_0) rfl rfl ?_
    rw [hp]
    refine od_W.rn (pc' := 148) (ls' := [some (.ref _), some (.int _), some (.int _)]) (st' := [.int _, .int _, .int _, .ref _]) 2 rfl ?_
    have tail : ∀ cc : Int32, cc = nI (if s = 1 then v else 1) → od_W 7 130 156 [some (.ref y), some (.int (nI v)), some (.int (nI s))] [.int cc, .int (nI L), .ref (y + 3)] (md M y b fu1 ρ1) (fun o M2 => o = .inl (some (.int (nI v))) ∧ ((L = 12 ∧ M2 = md M y (b.1, b.2.1, nI 13, b.2.2.2) fu ρ) ∨ (L < 12 ∧ ∃ fu' ρ', M2 = md (od_set M (y + 3) (od_ia 12 (upd tm L (nI (if s = 1 then v else 1))))) y (b.1, b.2.1, nI (L + 1), b.2.2.2) fu' ρ' ∧ od_Bd ρ' ∧ (∀ q, q ∉ [20 + L] → ρ' q = ρ q) ∧ (fu' = false ↔ fu = false) ∧ (fu' = false → od_hl ρ' (20 + L) zs)))) := by
      intro cc hcc
      subst hcc
      refine od_rIS rfl ((md_o (by omega) (by omega) (by omega)).trans ht) (rfl) (hlt) (by decide) ?_
      rw [md_set (by omega) (by omega) (by omega)]
      generalize hM1 : od_set M (y + 3) (od_ia 12 (upd tm L (nI (if s = 1 then v else 1)))) = M1 at *
      refine od_W.rn (pc' := 159) (ls' := [some (.ref _), some (.int _), some (.int _)]) (st' := [.ref _, .ref _]) 2 rfl ?_
      refine od_rG rfl (md_0) rfl rfl ?_
      refine od_W.rn (pc' := 164) (ls' := [some (.ref _), some (.int _), some (.int _)]) (st' := [.int _, .ref _]) 2 rfl ?_
      refine od_rP rfl (md_0) rfl (by simp) rfl (by decide) ?_
      rw [show od_set (md M1 y b fu1 ρ1) y (od_ob 8 (List.set _ 5 (.int (b.2.2.1 + Int32.ofInt 1)))) = md M1 y (b.1, b.2.1, b.2.2.1 + Int32.ofInt 1, b.2.2.2) fu1 ρ1 from md_pile, hp, show nI L + Int32.ofInt 1 = nI (L + 1) from nI_inc L]
      refine od_W.rn (pc' := 168) (ls' := [some (.ref _), some (.int _), some (.int _)]) (st' := [.int _]) 1 rfl ?_
      refine od_W.fin rfl ?_
      exact ⟨rfl, Or.inr ⟨hlt, fu1, ρ1, rfl, b1, f1, by rw [k1]; exact ⟨fun z => z.1, fun z => ⟨z, trivial⟩⟩, p1⟩⟩
    rcases hs with rfl | rfl
    · refine od_r2F rfl (of_decide_eq_true rfl) (rfl) ?_
      refine od_W.rn (pc' := 156) (ls' := [some (.ref _), some (.int _), some (.int _)]) (st' := [.int _, .int _, .ref _]) 2 rfl ?_
      exact tail _ rfl
    · refine od_r2T rfl rfl (rfl) ?_
      refine od_W.rn (pc' := 156) (ls' := [some (.ref _), some (.int _), some (.int _)]) (st' := [.int _, .int _, .ref _]) 1 rfl ?_
      exact tail _ rfl
set_option maxRecDepth 100000 in
theorem rt_apply {ρ : od_Rm} {tm : Nat → Int32} {xs : List Nat} {c v : Nat} {rest : fs_S} (hv : v ≤ 1000000) (hb : od_Bd ρ) (ha : me_as M y) (ht : M.2.2 (y + 3) = some (od_ia 12 tm)) (hp : b.2.2.1 = nI (rest.length + 1)) (h12 : rest.length + 1 ≤ 12) (hok : rp_ok ρ tm ((xs, c) :: rest)) : od_W 7 130 0 (od_ent 130 [.ref y, .int (nI v)]) [] (md M y b false ρ) (rp_ao M y b ρ xs c rest v) := by
  have e0 : od_ent 130 [.ref y, .int (nI v)] = [some (.ref y), some (.int (nI v)), none] := rfl
  rw [e0]
  have o1 : od_hl ρ (20 + rest.length) xs := hok.1
  have o2 : tm rest.length = nI c := hok.2.1
  have o3 : 1 ≤ c := hok.2.2.1
  have o4 : c ≤ 1000000 := hok.2.2.2.1
  have o5 : tm_W xs := hok.2.2.2.2.1
  have em : nI (rest.length + 1) - 1 = nI rest.length := nI_pred _
  have ec : nI c - 1 = nI (c - 1) := nI_subI (a := 1) o3
  have hpop := rp_pop hok
  have hal := tm_al_tp o5
  refine od_W.rn (pc' := 4) (ls' := [some (.ref _), some (.int _), none]) (st' := [.ref _, .int _, .ref _]) 3 rfl ?_
  refine od_rG rfl (md_0) rfl rfl ?_
  rw [hp]
  refine od_W.rn (pc' := 12) (ls' := [some (.ref _), some (.int _), none]) (st' := [.int _, .int _, .ref _]) 4 rfl ?_
  rw [show (Int8.ofInt 20).toInt32 + nI (rest.length + 1) - Int32.ofInt 1 = nI (20 + rest.length) by rw [show (Int8.ofInt 20).toInt32 + nI (rest.length + 1) = nI (20 + (rest.length + 1)) from nI_add 20 _]; exact nI_pred (20 + rest.length)]
  refine od_rV (as := [.int (nI (20 + rest.length)), .int (nI 87)]) rfl rfl rfl rfl (md_0) rfl (Nat.le_of_ble_eq_true rfl) (Nat.le_of_ble_eq_true rfl) (ex_copy hb (by omega) (by omega) (by omega) o1) (Nat.le_of_ble_eq_true rfl) (fun o M1 hq => ?_)
  obtain ⟨rfl, ρ1, rfl, f1, b1, p1⟩ := hq
  refine od_K.ret ?_
  refine od_W.rn (pc' := 16) (ls' := [some (.ref _), some (.int _), none]) (st' := [.ref _]) 1 rfl ?_
  refine od_rG rfl (md_0) rfl rfl ?_
  refine od_W.rn (pc' := 20) (ls' := [some (.ref _), some (.int _), none]) (st' := [.ref _, .ref _]) 1 rfl ?_
  refine od_rG rfl (md_0) rfl rfl ?_
  rw [hp]
  refine od_W.rn (pc' := 26) (ls' := [some (.ref _), some (.int _), none]) (st' := [.int _, .ref _, .int _, .ref _]) 3 rfl ?_
  refine od_rIL rfl ((md_o (by omega) (by omega) (by omega)).trans ht) (em) (by omega) (by decide) ?_
  refine od_W.rn (pc' := 29) (ls' := [some (.ref _), some (.int _), none]) (st' := [.int _, .int _, .ref _]) 2 rfl ?_
  rw [o2]
  refine od_rIS rfl ((md_o (by omega) (by omega) (by omega)).trans ht) (em) (by omega) (by decide) ?_
  rw [md_set (by omega) (by omega) (by omega), show nI c - Int32.ofInt 1 = nI (c - 1) from ec]
  have ht1 := od_set_s M (y + 3) (od_ia 12 (upd tm rest.length (nI (c - 1))))
  have eM1 : od_eM (rp_V y) M (od_set M (y + 3) (od_ia 12 (upd tm rest.length (nI (c - 1))))) := (od_eM.refl _ _).set (by simp)
  have ha1 : me_as (od_set M (y + 3) (od_ia 12 (upd tm rest.length (nI (c - 1))))) y := by
    obtain ⟨bg, st, en, a1, a2, a3⟩ := ha
    exact ⟨bg, st, en, (od_set_o (by omega)).trans a1, (od_set_o (by omega)).trans a2, (od_set_o (by omega)).trans a3⟩
  generalize hM1 : od_set M (y + 3) (od_ia 12 (upd tm rest.length (nI (c - 1)))) = M1 at *
  refine od_W.rn (pc' := 32) (ls' := [some (.ref _), some (.int _), none]) (st' := [.ref _, .ref _]) 2 rfl ?_
  refine od_rG rfl (md_0) rfl rfl ?_
  refine od_W.rn (pc' := 36) (ls' := [some (.ref _), some (.int _), none]) (st' := [.ref _, .ref _, .ref _]) 1 rfl ?_
  refine od_rG rfl (md_0) rfl rfl ?_
  rw [hp]
  refine od_W.rn (pc' := 41) (ls' := [some (.ref _), some (.int _), none]) (st' := [.int _, .ref _, .ref _]) 2 rfl ?_
  refine od_rIL rfl ((md_o (by omega) (by omega) (by omega)).trans ht1) (em) (by omega) (by decide) ?_
  rw [upd_s]
  have fr1 : ∀ q, q < 87 → ρ1 q = ρ q := fun q hq => f1 q (od_n1 (by omega))
  have tail : ∀ pl : Int32, pl = nI (fs_pop xs c rest).length → od_W 7 130 58 [some (.ref y), some (.int (nI v)), none] [.int pl, .ref y] (md M1 y b false ρ1) (rp_ao M y b ρ xs c rest v) := by
    intro pl hpl
    subst hpl
    have hl12 : (fs_pop xs c rest).length ≤ rest.length + 1 := by rw [fs_pop_len]; split <;> omega
    refine od_rP rfl (md_0) rfl (by simp) rfl (by decide) ?_
    rw [show od_set (md M1 y b false ρ1) y (od_ob 8 (List.set _ 5 (.int (nI (fs_pop xs c rest).length)))) = md M1 y (b.1, b.2.1, nI (fs_pop xs c rest).length, b.2.2.2) false ρ1 from md_pile]
    generalize hst : fs_pop xs c rest = st1 at *
    have p1' : od_hl ρ1 87 (tm_fl (tm_tp xs)) := by rw [tm_fl_tp o5]; exact p1
    refine od_W.rn (pc' := 64) (ls' := [some (.ref _), some (.int _), none]) (st' := [.int _, .ref _]) 2 rfl ?_
    refine od_rV (as := [.int (nI 87)]) rfl rfl rfl rfl (md_0) rfl (Nat.le_of_ble_eq_true rfl) (Nat.le_of_ble_eq_true rfl) (rt_sort b1 (by omega) hal p1') (Nat.le_of_ble_eq_true rfl) (fun o M1 hq => ?_)
    obtain ⟨rfl, rfl⟩ := hq
    refine od_K.ret ?_
    refine od_W.rn (pc' := 69) (ls' := [some (.ref _), some (.int _), some (.int _)]) (st' := [.int _]) 2 rfl ?_
    rcases tm_k_le (tm_tp xs) with hk | hk | hk
    · have hnk : ¬ tm_k (tm_tp xs) = 2 := by omega
      rw [hk]
      refine od_r1F rfl (of_decide_eq_true rfl) (rfl) ?_
      refine od_W.rn (pc' := 75) (ls' := [some (.ref _), some (.int _), some (.int _)]) (st' := [.int _]) 3 rfl ?_
      refine od_W.fin rfl ?_
      refine ⟨M1, _, false, ρ1, nI (v + 1), _, rfl, by rw [show nI v + Int32.ofInt 1 = nI (v + 1) from nI_inc v], eM1, ha1, ht1, b1, fun q hq => fr1 q (by omega), ⟨fun _ z => absurd z hnk, fun _ => rfl⟩, fun _ => ?_⟩
      by_cases hv1 : v + 1 ≤ 1000000
      · exact Or.inr ⟨(st1, v + 1), by unfold fs_nx; rw [if_pos hk, if_pos hv1, hst], rfl, rfl, hpop.fr (fun j hj => ⟨fr1 _ (by omega), rfl⟩), by dsimp only; omega, hv1⟩
      · exact Or.inl ⟨by unfold fs_nx; rw [if_pos hk, if_neg hv1], Or.inl ⟨by rw [show v + 1 = 1000001 by omega], _, by omega, rfl⟩⟩
    · have hnk : ¬ tm_k (tm_tp xs) = 2 := by omega
      have hnk0 : ¬ tm_k (tm_tp xs) = 0 := by omega
      obtain ⟨es, s, hes, hs0⟩ := tm_k_snoc1 hk
      have hal2 : tm_al (es ++ [s]) := hes ▸ hal
      rw [hk]
      refine od_r1T rfl rfl (rfl) ?_
      refine od_W.rn (pc' := 78) (ls' := [some (.ref _), some (.int _), some (.int _)]) (st' := [.int _, .int _]) 2 rfl ?_
      refine od_r2F rfl (of_decide_eq_true rfl) (rfl) ?_
      refine od_W.rn (pc' := 84) (ls' := [some (.ref _), some (.int _), some (.int _)]) (st' := [.int _, .ref _]) 2 rfl ?_
      refine od_rV (as := [.int (nI 87)]) rfl rfl rfl rfl (md_0) rfl (Nat.le_of_ble_eq_true rfl) (Nat.le_of_ble_eq_true rfl) (rt_lower (es := es) (s := s) b1 (by omega) (tm_al_app.mp hal2).2.1 hs0 (by rw [← hes]; exact p1')) (Nat.le_of_ble_eq_true rfl) (fun o M1 hq => ?_)
      obtain ⟨rfl, fu2, ρ2, rfl, f2, b2, k2, p2⟩ := hq
      refine od_K.ret ?_
      have hz2 : fu2 = false := k2.mpr ⟨rfl, trivial⟩
      subst hz2
      have p2' : od_hl ρ2 87 (sp_pr (tm_tp xs)) := by rw [hes]; exact p2 rfl
      have fr2 : ∀ q, q < 87 → ρ2 q = ρ q := fun q hq => (f2 q (od_n1 (by omega))).trans (fr1 q hq)
      refine od_W.rn (pc' := 109) (ls' := [some (.ref _), some (.int _), some (.int _)]) (st' := [.int _, .int _]) 3 rfl ?_
      refine od_r2F rfl (of_decide_eq_true rfl) (rfl) ?_
      refine od_W.rn (pc' := 113) (ls' := [some (.ref _), some (.int _), some (.int _)]) (st' := [.int _]) 1 rfl ?_
      by_cases hv0 : v = 0
      · refine od_r1T rfl rfl (decide_eq_true (by rw [hv0]; exact Int32.le_refl _)) ?_
        refine od_W.rn (pc' := 168) (ls' := [some (.ref _), some (.int _), some (.int _)]) (st' := [.int _]) 1 rfl ?_
        refine od_W.fin rfl ?_
        exact ⟨M1, _, false, ρ2, nI v, _, rfl, rfl, eM1, ha1, ht1, b2, fun q hq => fr2 q (by omega), ⟨fun _ z => absurd z hnk, fun _ => rfl⟩, fun _ => Or.inr ⟨(st1, v), by unfold fs_nx; rw [if_neg hnk0, if_neg hnk, if_pos hv0, hst], rfl, rfl, hpop.fr (fun j hj => ⟨fr2 _ (by omega), rfl⟩), by dsimp only; omega, hv⟩⟩
      · refine od_r1F rfl (of_decide_eq_true rfl) (decide_eq_false (nI_ge (a := 0) (by omega) (by omega))) ?_
        refine (rp_push (b := (b.1, b.2.1, nI st1.length, b.2.2.2)) (s := 1) (L := st1.length) (zs := sp_pr (tm_tp xs)) (Or.inl rfl) hv (by omega) ht1 b2 (fun _ => p2') rfl).mono fun o M2 hh => ?_
        obtain ⟨rfl, ⟨hL, rfl⟩ | ⟨hL, fu3, ρ3, rfl, b3, f3, k3, p3⟩⟩ := hh
        · exact ⟨M1, _, false, ρ2, nI v, _, rfl, rfl, eM1, ha1, ht1, b2, fun q hq => fr2 q (by omega), ⟨fun _ z => absurd z hnk, fun _ => rfl⟩, fun _ => Or.inl ⟨by unfold fs_nx; rw [hst, if_neg hnk0, if_neg hnk, if_neg hv0, if_neg (by omega)], Or.inr rfl⟩⟩
        · have hz3 : fu3 = false := k3.mpr rfl
          subst hz3
          refine ⟨_, _, false, ρ3, nI v, _, rfl, rfl, eM1.set (by simp), ?_, od_set_s _ _ _, b3, fun q hq => (f3 q (od_n1 (by omega))).trans (fr2 q (by omega)), ⟨fun _ z => absurd z hnk, fun _ => rfl⟩, fun _ => Or.inr ⟨((sp_pr (tm_tp xs), v) :: st1, v), by unfold fs_nx; rw [hst, if_neg hnk0, if_neg hnk, if_neg hv0, if_pos hL], rfl, rfl, ⟨p3 rfl, ?_, by dsimp only; omega, hv, sp_pr_W hal, hpop.fr (fun j hj => ⟨(f3 _ (od_n1 (by omega))).trans (fr2 _ (by omega)), upd_o (by omega)⟩)⟩, by simp; omega, hv⟩⟩
          · obtain ⟨bg, st, en, a1, a2, a3⟩ := ha1
            exact ⟨bg, st, en, (od_set_o (by omega)).trans a1, (od_set_o (by omega)).trans a2, (od_set_o (by omega)).trans a3⟩
          · rw [upd_s]
            rfl
    · have hnk0 : ¬ tm_k (tm_tp xs) = 0 := by omega
      rw [hk]
      refine od_r1T rfl rfl (rfl) ?_
      refine od_W.rn (pc' := 78) (ls' := [some (.ref _), some (.int _), some (.int _)]) (st' := [.int _, .int _]) 2 rfl ?_
      refine od_r2T rfl rfl (rfl) ?_
      refine od_W.rn (pc' := 95) (ls' := [some (.ref _), some (.int _), some (.int _)]) (st' := [.int _, .int _, .ref _]) 3 rfl ?_
      refine od_rV (as := [.int (nI 87), .int (nI 88)]) rfl rfl rfl rfl (md_0) rfl (Nat.le_of_ble_eq_true rfl) (Nat.le_of_ble_eq_true rfl) (ex_copy b1 (by omega) (by omega) (by omega) p1') (Nat.le_of_ble_eq_true rfl) (fun o M1 hq => ?_)
      obtain ⟨rfl, ρ2, rfl, f2, b2, p2⟩ := hq
      refine od_K.ret ?_
      have fr2 : ∀ q, q < 85 → ρ2 q = ρ q := fun q hq => (f2 q (od_n1 (by omega))).trans (fr1 q (by omega))
      refine od_W.rn (pc' := 104) (ls' := [some (.ref _), some (.int _), some (.int _)]) (st' := [.int _, .int _, .int _, .ref _]) 4 rfl ?_
      refine od_rV (as := [.int (nI 88), .int (nI v), .int (nI 87)]) rfl rfl rfl rfl (md_0) rfl (Nat.le_of_ble_eq_true rfl) (Nat.le_of_ble_eq_true rfl) (rt_memberOf (by omega) (by omega) (by simp) (by omega) hv b2 ha1 hal hk p2) (Nat.le_of_ble_eq_true rfl) (fun o M1 hq => ?_)
      obtain ⟨M3, w1, w2, hq⟩ := hq
      obtain ⟨rfl, fu3, ρ3, rfl, f3, b3, k3, p3⟩ := hq
      refine od_K.ret ?_
      have fr3 : ∀ q, q < 85 → ρ3 q = ρ q := fun q hq => (f3 q (by simp; omega)).trans (fr2 q (by omega))
      have eM3 : od_eM (rp_V y) M M3 := eM1.tr (w1.up (by simp))
      have ht3 := (w1.2.2 (y + 3) (by simp)).trans ht1
      have ok3 : fu3 = false ↔ (tm_k (tm_tp xs) = 2 → tm_ft (sp_mem v (tm_tp xs))) := by
        rw [k3]
        exact ⟨fun z _ => z.2, fun z => ⟨rfl, z hk⟩⟩
      refine od_W.rn (pc' := 109) (ls' := [some (.ref _), some (.int _), some (.int _)]) (st' := [.int _, .int _]) 2 rfl ?_
      refine od_r2T rfl rfl (rfl) ?_
      refine (rp_push (b := (b.1, b.2.1, nI st1.length, b.2.2.2)) (s := 2) (L := st1.length) (zs := sp_mem v (tm_tp xs)) (Or.inr rfl) hv (by omega) ht3 b3 p3 rfl).mono fun o M2 hh => ?_
      obtain ⟨rfl, ⟨hL, rfl⟩ | ⟨hL, fu4, ρ4, rfl, b4, f4, k4, p4⟩⟩ := hh
      · exact ⟨M3, _, fu3, ρ3, nI v, _, rfl, rfl, eM3, w2, ht3, b3, fun q hq => fr3 q (by omega), ok3, fun _ => Or.inl ⟨by unfold fs_nx; rw [hst, if_neg hnk0, if_pos hk, if_neg (by omega)], Or.inr rfl⟩⟩
      · refine ⟨_, _, fu4, ρ4, nI v, _, rfl, rfl, eM3.set (by simp), ?_, od_set_s _ _ _, b4, fun q hq => (f4 q (od_n1 (by omega))).trans (fr3 q (by omega)), k4.trans ok3, fun z => Or.inr ⟨((sp_mem v (tm_tp xs), 1) :: st1, v), by unfold fs_nx; rw [hst, if_neg hnk0, if_pos hk, if_pos hL], rfl, rfl, ⟨p4 z, ?_, by dsimp only; omega, by dsimp only; omega, sp_mem_W hv hal, hpop.fr (fun j hj => ⟨(f4 _ (od_n1 (by omega))).trans (fr3 _ (by omega)), upd_o (by omega)⟩)⟩, by simp; omega, hv⟩⟩
        · obtain ⟨bg, st, en, a1, a2, a3⟩ := w2
          exact ⟨bg, st, en, (od_set_o (by omega)).trans a1, (od_set_o (by omega)).trans a2, (od_set_o (by omega)).trans a3⟩
        · rw [upd_s]
          rfl
  by_cases hc1 : c ≤ 1
  · refine od_r1F rfl (of_decide_eq_true rfl) ((show (!decide (nI (c - 1) = nI 0)) = false by rw [show c - 1 = 0 by omega]; rfl)) ?_
    refine od_W.rn (pc' := 46) (ls' := [some (.ref _), some (.int _), none]) (st' := [.ref _, .ref _]) 1 rfl ?_
    refine od_rG rfl (md_0) rfl rfl ?_
    rw [hp]
    refine od_W.rn (pc' := 58) (ls' := [some (.ref _), some (.int _), none]) (st' := [.int _, .ref _]) 3 rfl ?_
    exact tail _ (by rw [fs_pop_len, if_pos hc1]; exact em)
  · refine od_r1T rfl rfl ((show (!decide (nI (c - 1) = nI 0)) = true by rw [decide_eq_false (fun z => absurd ((nI_eq (by omega) (by omega)).mp z) (by omega))]; rfl)) ?_
    refine od_W.rn (pc' := 55) (ls' := [some (.ref _), some (.int _), none]) (st' := [.ref _, .ref _]) 1 rfl ?_
    refine od_rG rfl (md_0) rfl rfl ?_
    exact tail _ (by rw [fs_pop_len, if_neg hc1]; exact hp)
end RFS
