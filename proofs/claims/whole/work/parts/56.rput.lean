/-! The reference's puts; when the flag is up, rows may hold anything. -/
def rf_t (M : od_M) (y : Nat) (b : rf_B) (ρ : od_Rm) (U : List Nat) : od_O → od_M → Prop := fun o M' => o = .inl none ∧ ∃ ρ', M' = md M y b true ρ' ∧ (∀ q, q ∉ U → ρ' q = ρ q) ∧ od_Bd ρ'
section RP
variable {M : od_M} {y : Nat} {b : rf_B} {fu : Bool} {ρ : od_Rm}
theorem rf_t.s {U : List Nat} {ok : Prop} {P : od_Rm → Prop} {o : od_O} {M' : od_M} (h : rf_t M y b ρ U o M') : rf_s M y b true ρ U ok P o M' := by
  obtain ⟨h1, ρ', h2, h3, h4⟩ := h
  exact ⟨h1, true, ρ', h2, h3, h4, ⟨fun z => absurd z (by decide), fun z => absurd z.1 (by decide)⟩, fun z => absurd z (by decide)⟩
theorem rf_s.t {U : List Nat} {ok : Prop} {P : od_Rm → Prop} {o : od_O} {M' : od_M} (h : rf_s M y b true ρ U ok P o M') : rf_t M y b ρ U o M' := by
  obtain ⟨h1, fu', ρ', h2, h3, h4, h5, h6⟩ := h
  have : fu' = true := by
    cases fu' with
    | true => rfl
    | false => exact absurd (h5.mp rfl).1 (by decide)
  subst this
  exact ⟨h1, ρ', h2, h3, h4⟩
theorem rt_append {r c : Nat} {v : Int32} {xs : List Nat} (hb : od_Bd ρ) (hr : r < 113) (hx : fu = false → od_hl ρ r xs) (hc : fu = false → v = nI c ∧ c ≤ 1000000) : od_W 0 88 0 (od_ent 88 [.ref y, .int (nI r), .int v]) [] (md M y b fu ρ) (rf_s M y b fu ρ [r] (tm_ft (xs ++ [c])) (fun ρ' => od_hl ρ' r (xs ++ [c]))) := by
  refine (ct_append hb hr).mono fun o M' h => ?_
  have h60 := hb r
  obtain ⟨h1, h2⟩ := h
  by_cases hl : (ρ r).1 = 60
  · rw [if_pos hl] at h2
    refine ⟨h1, true, ρ, h2, fun _ _ => rfl, hb, ⟨fun z => absurd z (by decide), fun z => ?_⟩, fun z => absurd z (by decide)⟩
    have := z.2.1
    rw [List.length_append, ← (hx z.1).n, hl] at this
    simp at this
  · rw [if_neg hl] at h2
    have ft : fu = false → tm_ft (xs ++ [c]) := fun z => ⟨by rw [List.length_append, ← (hx z).n]; simp; omega, tm_sm_app.mpr ⟨(hx z).2, tm_sm_one.mpr (hc z).2⟩⟩
    refine ⟨h1, fu, _, h2, fun q hq => od_rs_o (fun z => hq (by rw [z]; exact List.mem_singleton.mpr rfl)), hb.set (by dsimp only; omega), ⟨fun z => ⟨z, ft z⟩, fun z => z.1⟩, fun z => ⟨?_, (ft z).2⟩⟩
    rw [od_rs_r, (hc z).1]
    have hn := (hx z).n
    refine ⟨by rw [List.length_append, hn]; rfl, ?_⟩
    rw [hn, ← od_ap_one]
    exact od_ap_at (ws := [c]) (hx z).at
theorem gw_append {r : Nat} {v : Int32} (hb : od_Bd ρ) (hr : r < 113) : od_W 0 88 0 (od_ent 88 [.ref y, .int (nI r), .int v]) [] (md M y b true ρ) (rf_t M y b ρ [r]) := (rt_append (xs := []) (c := 0) hb hr (fun z => absurd z (by decide)) (fun z => absurd z (by decide))).mono fun _ _ h => h.t
theorem cl_gw_ap {r x j : Nat} (hr : r < 113) (hx : x < 113) (hj : j ≤ 190) : ∀ (m k : Nat) (ρ : od_Rm) (ρ0 : od_Rm), k + m = j ∨ (m = 0 ∧ j ≤ k ∧ k ≤ 1000) → od_Bd ρ → (∀ q, q ∉ [r] → ρ q = ρ0 q) → ∀ w3 : Int32, od_W 1 89 3 [some (.ref y), some (.int (nI r)), some (.int (nI x)), some (.int w3), some (.int (nI j)), some (.int (nI k))] [] (md M y b true ρ) (rf_t M y b ρ0 [r]) := by
  intro m
  induction m with
  | zero =>
    intro k ρ ρ0 hk hb g w3
    refine od_W.rn (pc' := 7) (ls' := [some (.ref _), some (.int _), some (.int _), some (.int _), some (.int _), some (.int _)]) (st' := [.int _, .int _]) 2 rfl ?_
    refine od_r2T rfl rfl (decide_eq_true (nI_le (by omega) (by omega))) ?_
    refine od_W.fin rfl ?_
    exact ⟨rfl, ρ, rfl, g, hb⟩
  | succ m ih =>
    intro k ρ ρ0 hk hb g w3
    refine od_W.rn (pc' := 7) (ls' := [some (.ref _), some (.int _), some (.int _), some (.int _), some (.int _), some (.int _)]) (st' := [.int _, .int _]) 2 rfl ?_
    refine od_r2F rfl (of_decide_eq_true rfl) (decide_eq_false (nI_ge (by omega) (by omega))) ?_
    refine od_W.rn (pc' := 13) (ls' := [some (.ref _), some (.int _), some (.int _), some (.int _), some (.int _), some (.int _)]) (st' := [.ref _, .int _, .ref _]) 3 rfl ?_
    refine od_rG rfl (md_0) rfl rfl ?_
    refine od_W.rn (pc' := 23) (ls' := [some (.ref _), some (.int _), some (.int _), some (.int _), some (.int _), some (.int _)]) (st' := [.int _, .ref _, .int _, .ref _]) 5 rfl ?_
    refine od_rIL rfl (md_1) (rf_ix x k) (by omega) (by decide) ?_
    refine od_rV (as := [.int (nI r), .int (rf_fl b.2.2.2 ρ (64 * x + k))]) rfl rfl rfl rfl (md_0) rfl (Nat.le_of_ble_eq_true rfl) (Nat.le_of_ble_eq_true rfl) (gw_append hb hr) (Nat.le_of_ble_eq_true rfl) (fun o M1 hq => ?_)
    obtain ⟨rfl, ρ1, rfl, f1, b1⟩ := hq
    refine od_K.ret ?_
    refine od_W.rn (pc' := 3) (ls' := [some (.ref _), some (.int _), some (.int _), some (.int _), some (.int _), some (.int _)]) (st' := []) 2 rfl ?_
    rw [nI_inc k]
    exact ih (k + 1) ρ1 ρ0 (by omega) b1 (fun q hq => (f1 q hq).trans (g q hq)) w3
theorem gw_appendPart {r x i j : Nat} (hb : od_Bd ρ) (hr : r < 113) (hx : x < 113) (hi : i ≤ 1000) (hj : j ≤ 190) : od_W 1 89 0 (od_ent 89 [.ref y, .int (nI r), .int (nI x), .int (nI i), .int (nI j)]) [] (md M y b true ρ) (rf_t M y b ρ [r]) := by
  have e0 : od_ent 89 [.ref y, .int (nI r), .int (nI x), .int (nI i), .int (nI j)] = [some (.ref y), some (.int (nI r)), some (.int (nI x)), some (.int (nI i)), some (.int (nI j)), none] := rfl
  rw [e0]
  refine od_W.rn (pc' := 3) (ls' := [some (.ref _), some (.int _), some (.int _), some (.int _), some (.int _), some (.int _)]) (st' := []) 2 rfl ?_
  exact cl_gw_ap hr hx hj (j - i) i ρ ρ (by omega) hb (fun _ _ => rfl) _
/-- the source is known; the flag may be up already -/
theorem cl_rt_ap {r x j : Nat} (hr : r < 113) (hx : x < 113) (hne : x ≠ r) (hj : j ≤ 60) : ∀ (w : List Nat) (k : Nat) (fu : Bool) (ρ ρ0 : od_Rm) (fu0 : Bool) (xs xs0 : List Nat), k + w.length = j → od_Bd ρ → (∀ q, q ∉ [r] → ρ q = ρ0 q) → tm_at (ρ x).2 k w → tm_sm w → (fu = false → od_hl ρ r (xs0 ++ xs)) → (fu = false ↔ (fu0 = false ∧ tm_ft (xs0 ++ xs))) → ∀ w3 : Int32, od_W 1 89 3 [some (.ref y), some (.int (nI r)), some (.int (nI x)), some (.int w3), some (.int (nI j)), some (.int (nI k))] [] (md M y b fu ρ) (rf_s M y b fu0 ρ0 [r] (tm_ft (xs0 ++ (xs ++ w))) (fun ρ' => od_hl ρ' r (xs0 ++ (xs ++ w)))) := by
  intro w
  induction w with
  | nil =>
    intro k fu ρ ρ0 fu0 xs xs0 hk hb g hat hsm hx hfu w3
    simp at hk
    rw [List.append_nil]
    refine od_W.rn (pc' := 7) (ls' := [some (.ref _), some (.int _), some (.int _), some (.int _), some (.int _), some (.int _)]) (st' := [.int _, .int _]) 2 rfl ?_
    refine od_r2T rfl rfl (decide_eq_true (nI_le (by omega) (by omega))) ?_
    refine od_W.fin rfl ?_
    exact ⟨rfl, fu, ρ, rfl, g, hb, hfu, hx⟩
  | cons c w ih =>
    intro k fu ρ ρ0 fu0 xs xs0 hk hb g hat hsm hx1 hfu w3
    simp at hk
    rw [tm_at_cons] at hat
    rw [tm_sm_cons] at hsm
    refine od_W.rn (pc' := 7) (ls' := [some (.ref _), some (.int _), some (.int _), some (.int _), some (.int _), some (.int _)]) (st' := [.int _, .int _]) 2 rfl ?_
    refine od_r2F rfl (of_decide_eq_true rfl) (decide_eq_false (nI_ge (by omega) (by omega))) ?_
    refine od_W.rn (pc' := 13) (ls' := [some (.ref _), some (.int _), some (.int _), some (.int _), some (.int _), some (.int _)]) (st' := [.ref _, .int _, .ref _]) 3 rfl ?_
    refine od_rG rfl (md_0) rfl rfl ?_
    refine od_W.rn (pc' := 23) (ls' := [some (.ref _), some (.int _), some (.int _), some (.int _), some (.int _), some (.int _)]) (st' := [.int _, .ref _, .int _, .ref _]) 5 rfl ?_
    refine od_rIL rfl (md_1) (rf_ix x k) (by omega) (by decide) ?_
    rw [rf_fl_at ρ (by omega), hat.1]
    refine od_rV (as := [.int (nI r), .int (nI c)]) rfl rfl rfl rfl (md_0) rfl (Nat.le_of_ble_eq_true rfl) (Nat.le_of_ble_eq_true rfl) (rt_append hb hr hx1 (fun _ => ⟨rfl, hsm.1⟩)) (Nat.le_of_ble_eq_true rfl) (fun o M1 hq => ?_)
    obtain ⟨rfl, fu1, ρ1, rfl, f1, b1, k1, p1⟩ := hq
    refine od_K.ret ?_
    refine od_W.rn (pc' := 3) (ls' := [some (.ref _), some (.int _), some (.int _), some (.int _), some (.int _), some (.int _)]) (st' := []) 2 rfl ?_
    rw [nI_inc k, show xs0 ++ (xs ++ c :: w) = xs0 ++ ((xs ++ [c]) ++ w) by simp]
    refine ih (k + 1) fu1 ρ1 ρ0 fu0 (xs ++ [c]) xs0 (by omega) b1 (fun q hq => (f1 q hq).trans (g q hq)) ?_ hsm.2 (by rw [← List.append_assoc]; exact p1) ?_ w3
    · rw [f1 x (od_n1 hne)]; exact hat.2
    · rw [k1, hfu, ← List.append_assoc]
      exact ⟨fun z => ⟨z.1.1, z.2⟩, fun z => ⟨⟨z.1, tm_ft_l z.2⟩, z.2⟩⟩
theorem rt_appendPart {r x i j : Nat} {xs u w z : List Nat} (hb : od_Bd ρ) (hr : r < 113) (hx : x < 113) (hne : x ≠ r) (hy : od_hl ρ x (u ++ (w ++ z))) (hi : i = u.length) (hj : j = i + w.length) (hxs : fu = false → od_hl ρ r xs) : od_W 1 89 0 (od_ent 89 [.ref y, .int (nI r), .int (nI x), .int (nI i), .int (nI j)]) [] (md M y b fu ρ) (rf_s M y b fu ρ [r] (tm_ft (xs ++ w)) (fun ρ' => od_hl ρ' r (xs ++ w))) := by
  have e0 : od_ent 89 [.ref y, .int (nI r), .int (nI x), .int (nI i), .int (nI j)] = [some (.ref y), some (.int (nI r)), some (.int (nI x)), some (.int (nI i)), some (.int (nI j)), none] := rfl
  rw [e0]
  have h60 := hy.le hb
  rw [List.length_append, List.length_append] at h60
  have hat := hy.at
  rw [tm_at_app, tm_at_app, Nat.zero_add] at hat
  refine od_W.rn (pc' := 3) (ls' := [some (.ref _), some (.int _), some (.int _), some (.int _), some (.int _), some (.int _)]) (st' := []) 2 rfl ?_
  have := cl_rt_ap (M := M) (y := y) (b := b) (j := j) hr hx hne (by omega) w i fu ρ ρ fu [] xs (by omega) hb (fun _ _ => rfl) (by rw [hi]; exact hat.2.1) (tm_sm_app.mp (tm_sm_app.mp hy.2).2).1 (fun z => by rw [List.append_nil]; exact hxs z) ⟨fun z => ⟨z, by rw [List.append_nil]; exact ⟨(hxs z).le hb, (hxs z).2⟩⟩, fun z => z.1⟩ (nI i)
  rw [List.nil_append] at this
  exact this
/-- the source is known only while the flag is down -/
theorem rc_appendPart {r x i j : Nat} {xs u w z : List Nat} (hb : od_Bd ρ) (hr : r < 113) (hx : x < 113) (hne : x ≠ r) (hi : i ≤ 1000) (hj : j ≤ 190) (hy : fu = false → od_hl ρ x (u ++ (w ++ z)) ∧ i = u.length ∧ j = i + w.length) (hxs : fu = false → od_hl ρ r xs) : od_W 1 89 0 (od_ent 89 [.ref y, .int (nI r), .int (nI x), .int (nI i), .int (nI j)]) [] (md M y b fu ρ) (rf_s M y b fu ρ [r] (tm_ft (xs ++ w)) (fun ρ' => od_hl ρ' r (xs ++ w))) := by
  cases fu with
  | true => exact (gw_appendPart hb hr hx hi hj).mono fun _ _ h => h.s
  | false => exact rt_appendPart hb hr hx hne (hy rfl).1 (hy rfl).2.1 (hy rfl).2.2 hxs
theorem rf_row (ρ : od_Rm) (x : Nat) : rf_ln ρ x = nI (ρ x).1 := rfl
set_option maxRecDepth 100000 in
theorem rc_appendTerm {r x c : Nat} {v : Int64} {xs ys : List Nat} (hb : od_Bd ρ) (hr : r < 113) (hx : x < 113) (hne : x ≠ r) (hy : fu = false → od_hl ρ x ys ∧ v = lN c ∧ c < 2 ^ 63) (hxs : fu = false → od_hl ρ r xs) : od_W 2 90 0 (od_ent 90 [.ref y, .int (nI r), .int (nI x), .long v]) [] (md M y b fu ρ) (rf_s M y b fu ρ [r] (tm_ft (xs ++ tm_t (ys, c))) (fun ρ' => od_hl ρ' r (xs ++ tm_t (ys, c)))) := by
  have e0 : od_ent 90 [.ref y, .int (nI r), .int (nI x), .long v] = [some (.ref y), some (.int (nI r)), some (.int (nI x)), some (.long v), none] := rfl
  rw [e0]
  have e : xs ++ tm_t (ys, c) = (((xs ++ [1]) ++ ys) ++ [0]) ++ [c] := by simp [tm_t]
  rw [e]
  refine od_W.rn (pc' := 3) (ls' := [some (.ref _), some (.int _), some (.int _), some (.long _), none]) (st' := [.int _, .int _, .ref _]) 3 rfl ?_
  refine od_rV (as := [.int (nI r), .int (nI 1)]) rfl rfl rfl rfl (md_0) rfl (Nat.le_of_ble_eq_true rfl) (Nat.le_of_ble_eq_true rfl) (rt_append hb hr hxs (fun _ => ⟨rfl, by omega⟩)) (Nat.le_of_ble_eq_true rfl) (fun o M1 hq => ?_)
  obtain ⟨rfl, fu1, ρ1, rfl, f1, b1, k1, p1⟩ := hq
  refine od_K.ret ?_
  refine od_W.rn (pc' := 11) (ls' := [some (.ref _), some (.int _), some (.int _), some (.long _), none]) (st' := [.ref _, .int _, .int _, .int _, .ref _]) 5 rfl ?_
  refine od_rG rfl (md_0) rfl rfl ?_
  refine od_W.rn (pc' := 15) (ls' := [some (.ref _), some (.int _), some (.int _), some (.long _), none]) (st' := [.int _, .ref _, .int _, .int _, .int _, .ref _]) 1 rfl ?_
  refine od_rIL rfl (md_2) (rfl) (hx) (by decide) ?_
  rw [rf_row]
  have l1 := b1 x
  refine od_rV (as := [.int (nI r), .int (nI x), .int (nI 0), .int (nI (ρ1 x).1)]) rfl rfl rfl rfl (md_0) rfl (Nat.le_of_ble_eq_true rfl) (Nat.le_of_ble_eq_true rfl) (rc_appendPart (u := []) (w := ys) (z := []) b1 hr hx hne (by omega) (by omega) (fun z => by have h1 := (hy (k1.mp z).1).1.fr (f1 x (od_n1 hne)); exact ⟨by simpa using h1, rfl, by rw [h1.n]; simp⟩) p1) (Nat.le_of_ble_eq_true rfl) (fun o M1 hq => ?_)
  obtain ⟨rfl, fu2, ρ2, rfl, f2, b2, k2, p2⟩ := hq
  refine od_K.ret ?_
  refine od_W.rn (pc' := 22) (ls' := [some (.ref _), some (.int _), some (.int _), some (.long _), none]) (st' := [.int _, .int _, .ref _]) 3 rfl ?_
  refine od_rV (as := [.int (nI r), .int (nI 0)]) rfl rfl rfl rfl (md_0) rfl (Nat.le_of_ble_eq_true rfl) (Nat.le_of_ble_eq_true rfl) (rt_append b2 hr p2 (fun _ => ⟨rfl, by omega⟩)) (Nat.le_of_ble_eq_true rfl) (fun o M1 hq => ?_)
  obtain ⟨rfl, fu3, ρ3, rfl, f3, b3, k3, p3⟩ := hq
  refine od_K.ret ?_
  have tail : ∀ (v2 : Int32) (fu4 : Bool), (fu4 = false ↔ (fu3 = false ∧ v ≤ 1000000)) → (fu4 = false → v2 = v.toInt32) → od_W 2 90 66 [some (.ref y), some (.int (nI r)), some (.int (nI x)), some (.long v), none] [.int v2, .int (nI r), .ref y] (md M y b fu4 ρ3) (rf_s M y b fu ρ [r] (tm_ft ((((xs ++ [1]) ++ ys) ++ [0]) ++ [c])) (fun ρ' => od_hl ρ' r ((((xs ++ [1]) ++ ys) ++ [0]) ++ [c]))) := by
    intro v2 fu4 h4 hv2
    have hcc : fu4 = false → v2 = nI c ∧ c ≤ 1000000 := by
      intro z
      have h3 := h4.mp z
      have hf := (k1.mp (k2.mp (k3.mp h3.1).1).1).1
      obtain ⟨_, hv, hc⟩ := hy hf
      refine ⟨by rw [hv2 z, hv, lN_i], ?_⟩
      rw [hv] at h3
      exact (lN_le6 hc).mp h3.2
    refine od_rV (as := [.int (nI r), .int v2]) rfl rfl rfl rfl (md_0) rfl (Nat.le_of_ble_eq_true rfl) (Nat.le_of_ble_eq_true rfl) (rt_append b3 hr (fun z => p3 (h4.mp z).1) hcc) (Nat.le_of_ble_eq_true rfl) (fun o M1 hq => ?_)
    obtain ⟨rfl, fu5, ρ5, rfl, f5, b5, k5, p5⟩ := hq
    refine od_K.ret ?_
    refine od_W.fin rfl ?_
    refine ⟨rfl, fu5, ρ5, rfl, fun q hq => (f5 q hq).trans ((f3 q hq).trans ((f2 q hq).trans (f1 q hq))), b5, ?_, p5⟩
    rw [k5, h4, k3, k2, k1]
    constructor
    · rintro ⟨⟨⟨⟨⟨z1, _⟩, _⟩, _⟩, _⟩, z2⟩; exact ⟨z1, z2⟩
    · rintro ⟨z1, z2⟩
      refine ⟨⟨⟨⟨⟨z1, tm_ft_l (tm_ft_l (tm_ft_l z2))⟩, tm_ft_l (tm_ft_l z2)⟩, tm_ft_l z2⟩, ?_⟩, z2⟩
      rw [(hy z1).2.1]
      exact (lN_le6 (hy z1).2.2).mpr (tm_sm_one.mp (tm_sm_app.mp z2.2).2)
  refine od_W.rn (pc' := 27) (ls' := [some (.ref _), some (.int _), some (.int _), some (.long _), none]) (st' := [.ref _, .ref _]) 2 rfl ?_
  refine od_rG rfl (md_0) rfl rfl ?_
  have full : ∀ fu4 : Bool, (fu4 = false ↔ (fu3 = false ∧ v ≤ 1000000)) → ∀ bv : Int32, (bv = if fu4 = true then 1 else 0) → od_W 2 90 46 [some (.ref y), some (.int (nI r)), some (.int (nI x)), some (.long v), none] [.int bv, .ref y] (md M y b fu3 ρ3) (rf_s M y b fu ρ [r] (tm_ft ((((xs ++ [1]) ++ ys) ++ [0]) ++ [c])) (fun ρ' => od_hl ρ' r ((((xs ++ [1]) ++ ys) ++ [0]) ++ [c]))) := by
    intro fu4 h4 bv hbv
    subst hbv
    refine od_rP (k := 90) rfl md_0 rfl (by simp) (by cases fu4 <;> rfl) (by decide) ?_
    rw [show od_set (md M y b fu3 ρ3) y (od_ob 8 (List.set _ 3 (.int (if fu4 = true then 1 else 0)))) = md M y b fu4 ρ3 from md_ob (b' := b) (fu' := fu4) rfl]
    refine od_W.rn (pc' := 56) (ls' := [some (.ref _), some (.int _), some (.int _), some (.long _), none]) (st' := [.int _, .int _, .ref _]) 5 rfl ?_
    by_cases hv : v ≤ 1000000
    · refine od_r1T rfl rfl ((od_lc_le _ _).trans (decide_eq_true hv)) ?_
      refine od_W.rn (pc' := 66) (ls' := [some (.ref _), some (.int _), some (.int _), some (.long _), none]) (st' := [.int _, .int _, .ref _]) 2 rfl ?_
      exact tail _ fu4 h4 (fun _ => rfl)
    · refine od_r1F rfl (of_decide_eq_true rfl) ((od_lc_le _ _).trans (decide_eq_false hv)) ?_
      refine od_W.rn (pc' := 66) (ls' := [some (.ref _), some (.int _), some (.int _), some (.long _), none]) (st' := [.int _, .int _, .ref _]) 2 rfl ?_
      exact tail _ fu4 h4 (fun z => absurd (h4.mp z).2 hv)
  cases fu3 with
  | true =>
    refine od_r1T rfl rfl (rfl) ?_
    refine od_W.rn (pc' := 46) (ls' := [some (.ref _), some (.int _), some (.int _), some (.long _), none]) (st' := [.int _, .ref _]) 2 rfl ?_
    exact full true ⟨fun z => absurd z (by decide), fun z => absurd z.1 (by decide)⟩ _ rfl
  | false =>
    refine od_r1F rfl (of_decide_eq_true rfl) (rfl) ?_
    refine od_W.rn (pc' := 38) (ls' := [some (.ref _), some (.int _), some (.int _), some (.long _), none]) (st' := [.int _, .ref _]) 3 rfl ?_
    by_cases hv : v ≤ 1000000
    · refine od_r1T rfl rfl ((od_lc_le _ _).trans (decide_eq_true hv)) ?_
      refine od_W.rn (pc' := 46) (ls' := [some (.ref _), some (.int _), some (.int _), some (.long _), none]) (st' := [.int _, .ref _]) 1 rfl ?_
      exact full false ⟨fun _ => ⟨rfl, hv⟩, fun _ => rfl⟩ _ rfl
    · refine od_r1F rfl (of_decide_eq_true rfl) ((od_lc_le _ _).trans (decide_eq_false hv)) ?_
      refine od_W.rn (pc' := 46) (ls' := [some (.ref _), some (.int _), some (.int _), some (.long _), none]) (st' := [.int _, .ref _]) 2 rfl ?_
      exact full true ⟨fun z => absurd z (by decide), fun z => absurd z.2 hv⟩ _ rfl
theorem gw_appendTerm {r x : Nat} {v : Int64} (hb : od_Bd ρ) (hr : r < 113) (hx : x < 113) (hne : x ≠ r) : od_W 2 90 0 (od_ent 90 [.ref y, .int (nI r), .int (nI x), .long v]) [] (md M y b true ρ) (rf_t M y b ρ [r]) := (rc_appendTerm (xs := []) (ys := []) (c := 0) hb hr hx hne (fun z => absurd z (by decide)) (fun z => absurd z (by decide))).mono fun _ _ h => h.t
theorem rc_copy {r x : Nat} {ys : List Nat} (hb : od_Bd ρ) (hr : r < 113) (hx : x < 113) (hne : x ≠ r) (hy : fu = false → od_hl ρ x ys) : od_W 2 91 0 (od_ent 91 [.ref y, .int (nI x), .int (nI r)]) [] (md M y b fu ρ) (rf_s M y b fu ρ [r] True (fun ρ' => od_hl ρ' r ys)) := by
  have e0 : od_ent 91 [.ref y, .int (nI x), .int (nI r)] = [some (.ref y), some (.int (nI x)), some (.int (nI r))] := rfl
  rw [e0]
  refine od_W.rn (pc' := 2) (ls' := [some (.ref _), some (.int _), some (.int _)]) (st' := [.int _, .ref _]) 2 rfl ?_
  refine od_rV (as := [.int (nI r)]) rfl rfl rfl rfl (md_0) rfl (Nat.le_of_ble_eq_true rfl) (Nat.le_of_ble_eq_true rfl) (rt_clear hb hr) (Nat.le_of_ble_eq_true rfl) (fun o M1 hq => ?_)
  obtain ⟨rfl, fu1, ρ1, rfl, f1, b1, k1, p1⟩ := hq
  refine od_K.ret ?_
  refine od_W.rn (pc' := 10) (ls' := [some (.ref _), some (.int _), some (.int _)]) (st' := [.ref _, .int _, .int _, .int _, .ref _]) 5 rfl ?_
  refine od_rG rfl (md_0) rfl rfl ?_
  refine od_W.rn (pc' := 14) (ls' := [some (.ref _), some (.int _), some (.int _)]) (st' := [.int _, .ref _, .int _, .int _, .int _, .ref _]) 1 rfl ?_
  refine od_rIL rfl (md_2) (rfl) (hx) (by decide) ?_
  rw [rf_row]
  have l1 := b1 x
  refine od_rV (as := [.int (nI r), .int (nI x), .int (nI 0), .int (nI (ρ1 x).1)]) rfl rfl rfl rfl (md_0) rfl (Nat.le_of_ble_eq_true rfl) (Nat.le_of_ble_eq_true rfl) (rc_appendPart (u := []) (w := ys) (z := []) (xs := []) b1 hr hx hne (by omega) (by omega) (fun z => by have h1 := (hy (k1.mp z).1).fr (f1 x (od_n1 hne)); exact ⟨by simpa using h1, rfl, by rw [h1.n]; simp⟩) p1) (Nat.le_of_ble_eq_true rfl) (fun o M1 hq => ?_)
  obtain ⟨rfl, fu2, ρ2, rfl, f2, b2, k2, p2⟩ := hq
  refine od_K.ret ?_
  refine od_W.fin rfl ?_
  refine ⟨rfl, fu2, ρ2, rfl, fun q hq => (f2 q hq).trans (f1 q hq), b2, ?_, p2⟩
  rw [k2, k1, List.nil_append]
  exact ⟨fun z => z.1, fun z => ⟨z, (hy z.1).le hb, (hy z.1).2⟩⟩
theorem rc_exponent {x r i j : Nat} {u z : List Nat} {t : tm_T} (hb : od_Bd ρ) (hr : r < 113) (hx : x < 113) (hne : x ≠ r) (hi : i ≤ 60) (hj2 : 2 ≤ j) (hj : j ≤ 190) (hy : fu = false → od_hl ρ x (u ++ (tm_t t ++ z)) ∧ i = u.length ∧ j = i + (tm_t t).length) : od_W 2 95 0 (od_ent 95 [.ref y, .int (nI x), .int (nI i), .int (nI j), .int (nI r)]) [] (md M y b fu ρ) (rf_s M y b fu ρ [r] True (fun ρ' => od_hl ρ' r t.1)) := by
  have e0 : od_ent 95 [.ref y, .int (nI x), .int (nI i), .int (nI j), .int (nI r)] = [some (.ref y), some (.int (nI x)), some (.int (nI i)), some (.int (nI j)), some (.int (nI r))] := rfl
  rw [e0]
  refine od_W.rn (pc' := 3) (ls' := [some (.ref _), some (.int _), some (.int _), some (.int _), some (.int _)]) (st' := [.int _, .ref _]) 2 rfl ?_
  refine od_rV (as := [.int (nI r)]) rfl rfl rfl rfl (md_0) rfl (Nat.le_of_ble_eq_true rfl) (Nat.le_of_ble_eq_true rfl) (rt_clear hb hr) (Nat.le_of_ble_eq_true rfl) (fun o M1 hq => ?_)
  obtain ⟨rfl, fu1, ρ1, rfl, f1, b1, k1, p1⟩ := hq
  refine od_K.ret ?_
  refine od_W.rn (pc' := 16) (ls' := [some (.ref _), some (.int _), some (.int _), some (.int _), some (.int _)]) (st' := [.int _, .int _, .int _, .int _, .ref _]) 9 rfl ?_
  rw [show nI i + Int32.ofInt 1 = nI (i + 1) from nI_inc i, show nI j - Int32.ofInt 2 = nI (j - 2) from nI_subI (a := 2) hj2]
  have hsrc : fu1 = false → od_hl ρ1 x ((u ++ [1]) ++ (t.1 ++ ([0, t.2] ++ z))) ∧ i + 1 = (u ++ [1]).length ∧ j - 2 = i + 1 + t.1.length := by
    intro zz
    obtain ⟨y1, y2, y3⟩ := hy (k1.mp zz).1
    rw [tm_t_len] at y3
    refine ⟨?_, by simp [y2], by omega⟩
    have h1 := y1.fr (f1 x (od_n1 hne))
    rw [show (u ++ [1]) ++ (t.1 ++ ([0, t.2] ++ z)) = u ++ (tm_t t ++ z) by simp [tm_t]]
    exact h1
  refine od_rV (as := [.int (nI r), .int (nI x), .int (nI (i + 1)), .int (nI (j - 2))]) rfl rfl rfl rfl (md_0) rfl (Nat.le_of_ble_eq_true rfl) (Nat.le_of_ble_eq_true rfl) (rc_appendPart (xs := []) b1 hr hx hne (by omega) (by omega) hsrc p1) (Nat.le_of_ble_eq_true rfl) (fun o M1 hq => ?_)
  obtain ⟨rfl, fu2, ρ2, rfl, f2, b2, k2, p2⟩ := hq
  refine od_K.ret ?_
  refine od_W.fin rfl ?_
  refine ⟨rfl, fu2, ρ2, rfl, fun q hq => (f2 q hq).trans (f1 q hq), b2, ?_, p2⟩
  rw [k2, k1, List.nil_append]
  refine ⟨fun z => z.1, fun z => ⟨z, ?_⟩⟩
  have h1 := (hy z.1).1
  have h2 := h1.le hb
  rw [List.length_append, List.length_append, tm_t_len] at h2
  exact ⟨by omega, (tm_sm_t.mp (tm_sm_app.mp (tm_sm_app.mp h1.2).2).1).1⟩
end RP
