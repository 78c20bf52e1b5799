/-! The reference's difference. -/
theorem tm_cmp_pre : ∀ (p a b : List Nat), tm_cmp (p ++ a) (p ++ b) = tm_cmp a b := by
  intro p
  induction p with
  | nil => intro a b; rfl
  | cons x p ih =>
    intro a b
    rw [List.cons_append, List.cons_append]
    conv => lhs; unfold tm_cmp
    rw [if_neg (Nat.lt_irrefl x), if_neg (Nat.lt_irrefl x)]
    exact ih a b
theorem tm_cmp_t (e : List Nat) (c d : Nat) (a b : List Nat) : tm_cmp (tm_t (e, c) ++ a) (tm_t (e, d) ++ b) = if c < d then -1 else if d < c then 1 else tm_cmp a b := by
  have e1 : tm_t (e, c) ++ a = (1 :: (e ++ [0])) ++ (c :: a) := by simp [tm_t]
  have e2 : tm_t (e, d) ++ b = (1 :: (e ++ [0])) ++ (d :: b) := by simp [tm_t]
  rw [e1, e2, tm_cmp_pre]
  rfl
theorem sp_dif_same (t : tm_T) (ts us : List tm_T) : sp_dif (t :: ts) (t :: us) = sp_dif ts us := by
  conv => lhs; unfold sp_dif
  rw [if_pos (tm_cmp_self _), if_pos rfl]
section RD
variable {M : od_M} {y : Nat} {b : rf_B} {ρ0 : od_Rm}
set_option maxRecDepth 100000 in
theorem cl_df_in {p q a b0 : Nat} {ρ : od_Rm} {fu : Bool} {wr wk : Int32} (hb : od_Bd ρ) (hp : p < 113) (hq' : q < 113) (ha : a ≤ 60) {Q : od_O → od_M → Prop} : ∀ (w1 w2 : List Nat) (i : Nat) (sm : Bool), i + w1.length = a → w1.length = w2.length → tm_at (ρ p).2 i w1 → tm_at (ρ q).2 i w2 → a ≤ (ρ p).1 → (sm = true → a ≤ (ρ q).1) → tm_sm w1 → tm_sm w2 → od_W 4 106 116 [some (.ref y), some (.int (nI p)), some (.int (nI q)), some (.int wr), some (.int wk), some (.int (if sm = true ∧ w1 = w2 then 1 else 0)), some (.int (nI a)), some (.int (nI b0)), some (.int (nI a))] [] (md M y b fu ρ) Q → od_W 4 106 74 [some (.ref y), some (.int (nI p)), some (.int (nI q)), some (.int wr), some (.int wk), some (.int (if sm = true then 1 else 0)), some (.int (nI a)), some (.int (nI b0)), some (.int (nI i))] [] (md M y b fu ρ) Q := by
  intro w1
  induction w1 with
  | nil =>
    intro w2 i sm hi hl a1 a2 hla hlb s1 s2 hk
    have e2 : w2 = [] := List.length_eq_zero_iff.mp (by simp at hl; omega)
    subst e2
    simp at hi
    subst hi
    have : (if sm = true ∧ ([] : List Nat) = [] then (1 : Int32) else 0) = if sm = true then 1 else 0 := by cases sm <;> rfl
    rw [this] at hk
    refine od_W.rn (pc' := 78) (ls' := [some (.ref _), some (.int _), some (.int _), some (.int _), some (.int _), some (.int _), some (.int _), some (.int _), some (.int _)]) (st' := [.int _, .int _]) 2 rfl ?_
    refine od_r2T rfl rfl (decide_eq_true (nI_le (Nat.le_refl _) (by omega))) ?_
    exact hk
  | cons c w1 ih =>
    intro w2 i sm hi hl a1 a2 hla hlb s1 s2 hk
    obtain ⟨d, w2, rfl⟩ : ∃ d w, w2 = d :: w := by
      rcases w2 with _ | ⟨d, w⟩
      · simp at hl
      · exact ⟨d, w, rfl⟩
    simp at hi hl
    rw [tm_at_cons] at a1 a2
    rw [tm_sm_cons] at s1 s2
    refine od_W.rn (pc' := 78) (ls' := [some (.ref _), some (.int _), some (.int _), some (.int _), some (.int _), some (.int _), some (.int _), some (.int _), some (.int _)]) (st' := [.int _, .int _]) 2 rfl ?_
    refine od_r2F rfl (of_decide_eq_true rfl) (decide_eq_false (nI_ge (by omega) (by omega))) ?_
    refine od_W.rn (pc' := 83) (ls' := [some (.ref _), some (.int _), some (.int _), some (.int _), some (.int _), some (.int _), some (.int _), some (.int _), some (.int _)]) (st' := [.int _]) 1 rfl ?_
    cases sm with
    | false =>
      refine od_r1T rfl rfl (rfl) ?_
      refine od_W.rn (pc' := 74) (ls' := [some (.ref _), some (.int _), some (.int _), some (.int _), some (.int _), some (.int _), some (.int _), some (.int _), some (.int _)]) (st' := []) 4 rfl ?_
      rw [nI_inc i]
      refine ih w2 (i + 1) false (by omega) hl a1.2 a2.2 hla (fun z => absurd z (by decide)) s1.2 s2.2 ?_
      rw [if_neg (fun z => absurd z.1 (by decide))] at hk ⊢
      exact hk
    | true =>
      have t1 : rf_tk ρ p i = nI c := by unfold rf_tk; rw [if_pos (by omega)]; exact a1.1
      have t2 : rf_tk ρ q i = nI d := by unfold rf_tk; rw [if_pos (by have := hlb rfl; omega)]; exact a2.1
      refine od_r1F rfl (of_decide_eq_true rfl) (rfl) ?_
      refine od_W.rn (pc' := 90) (ls' := [some (.ref _), some (.int _), some (.int _), some (.int _), some (.int _), some (.int _), some (.int _), some (.int _), some (.int _)]) (st' := [.int _, .int _, .ref _]) 3 rfl ?_
      refine od_rV (as := [.int (nI p), .int (nI i)]) rfl rfl rfl rfl (md_0) rfl (Nat.le_of_ble_eq_true rfl) (Nat.le_of_ble_eq_true rfl) (ct_token hb hp (by omega)) (Nat.le_of_ble_eq_true rfl) (fun o M1 hq => ?_)
      obtain ⟨rfl, rfl⟩ := hq
      refine od_K.ret ?_
      refine od_W.rn (pc' := 97) (ls' := [some (.ref _), some (.int _), some (.int _), some (.int _), some (.int _), some (.int _), some (.int _), some (.int _), some (.int _)]) (st' := [.int _, .int _, .ref _, .int _]) 3 rfl ?_
      refine od_rV (as := [.int (nI q), .int (nI i)]) rfl rfl rfl rfl (md_0) rfl (Nat.le_of_ble_eq_true rfl) (Nat.le_of_ble_eq_true rfl) (ct_token hb hq' (by omega)) (Nat.le_of_ble_eq_true rfl) (fun o M1 hq => ?_)
      obtain ⟨rfl, rfl⟩ := hq
      refine od_K.ret ?_
      rw [t1, t2]
      by_cases hcd : c = d
      · refine od_r2F rfl (of_decide_eq_true rfl) ((show (!decide (nI c = nI d)) = false by rw [hcd, decide_eq_true rfl]; rfl)) ?_
        refine od_W.rn (pc' := 74) (ls' := [some (.ref _), some (.int _), some (.int _), some (.int _), some (.int _), some (.int _), some (.int _), some (.int _), some (.int _)]) (st' := []) 5 rfl ?_
        rw [nI_inc i]
        refine ih w2 (i + 1) true (by omega) hl a1.2 a2.2 hla hlb s1.2 s2.2 ?_
        have : (if true = true ∧ c :: w1 = d :: w2 then (1 : Int32) else 0) = if true = true ∧ w1 = w2 then 1 else 0 := by subst hcd; simp
        rw [this] at hk
        exact hk
      · refine od_r2T rfl rfl ((show (!decide (nI c = nI d)) = true by rw [decide_eq_false (fun z => hcd ((nI_eq (by omega) (by omega)).mp z))]; rfl)) ?_
        refine od_W.rn (pc' := 74) (ls' := [some (.ref _), some (.int _), some (.int _), some (.int _), some (.int _), some (.int _), some (.int _), some (.int _), some (.int _)]) (st' := []) 4 rfl ?_
        rw [nI_inc i]
        refine ih w2 (i + 1) false (by omega) hl a1.2 a2.2 hla (fun z => absurd z (by decide)) s1.2 s2.2 ?_
        rw [if_neg (fun z => hcd (List.cons.inj z.2).1)] at hk
        rw [if_neg (fun z => absurd z.1 (by decide))]
        exact hk
theorem cl_df_in0 {p q a b0 : Nat} {Ms : od_M} {wr wk : Int32} (ha : a ≤ 60) {Q : od_O → od_M → Prop} : ∀ (m i : Nat), i + m = a → od_W 4 106 116 [some (.ref y), some (.int (nI p)), some (.int (nI q)), some (.int wr), some (.int wk), some (.int (nI 0)), some (.int (nI a)), some (.int (nI b0)), some (.int (nI a))] [] Ms Q → od_W 4 106 74 [some (.ref y), some (.int (nI p)), some (.int (nI q)), some (.int wr), some (.int wk), some (.int (nI 0)), some (.int (nI a)), some (.int (nI b0)), some (.int (nI i))] [] Ms Q := by
  intro m
  induction m with
  | zero =>
    intro i hi hk
    have : i = a := by omega
    subst this
    refine od_W.rn (pc' := 78) (ls' := [some (.ref _), some (.int _), some (.int _), some (.int _), some (.int _), some (.int _), some (.int _), some (.int _), some (.int _)]) (st' := [.int _, .int _]) 2 rfl ?_
    refine od_r2T rfl rfl (decide_eq_true (nI_le (Nat.le_refl _) (by omega))) ?_
    exact hk
  | succ m ih =>
    intro i hi hk
    refine od_W.rn (pc' := 78) (ls' := [some (.ref _), some (.int _), some (.int _), some (.int _), some (.int _), some (.int _), some (.int _), some (.int _), some (.int _)]) (st' := [.int _, .int _]) 2 rfl ?_
    refine od_r2F rfl (of_decide_eq_true rfl) (decide_eq_false (nI_ge (by omega) (by omega))) ?_
    refine od_W.rn (pc' := 83) (ls' := [some (.ref _), some (.int _), some (.int _), some (.int _), some (.int _), some (.int _), some (.int _), some (.int _), some (.int _)]) (st' := [.int _]) 1 rfl ?_
    refine od_r1T rfl rfl (rfl) ?_
    refine od_W.rn (pc' := 74) (ls' := [some (.ref _), some (.int _), some (.int _), some (.int _), some (.int _), some (.int _), some (.int _), some (.int _), some (.int _)]) (st' := []) 4 rfl ?_
    rw [nI_inc i]
    exact ih (i + 1) (by omega) hk
/-- behind the common terms -/
theorem rt_df_end {p q r : Nat} {ρ : od_Rm} (hp : p < 113) (hq' : q < 113) (hr : r < 113) (nr : r ∉ [76, 77]) (np : p ∉ [r, 76, 77]) (nq : q ∉ [r, 76, 77]) {ta tb done : List tm_T} {sm : Int32} {w6 w7 w8 : Option Value} (al1 : tm_al ta) (al2 : tm_al tb) (hb : od_Bd ρ) (g : ∀ a, a ∉ [r, 76, 77] → ρ a = ρ0 a) (hx : od_hl ρ p (tm_fl done ++ tm_fl ta)) (hy : od_hl ρ q (tm_fl done ++ tm_fl tb)) (hz : od_hl ρ r []) (hne : ∀ t ts u us, ta = t :: ts → tb = u :: us → t ≠ u) (hc : tm_cmp (tm_fl ta) (tm_fl tb) ≠ -1) : od_W 4 106 133 [some (.ref y), some (.int (nI p)), some (.int (nI q)), some (.int (nI r)), some (.int (nI (tm_fl done).length)), some (.int sm), w6, w7, w8] [] (md M y b false ρ) (rf_s M y b false ρ0 [r, 76, 77] True (fun ρ' => od_hl ρ' r (tm_fl (sp_dif ta tb)))) := by
  have hl := hx.n
  have h60 := hx.le hb
  have hl' := hy.n
  have h60' := hy.le hb
  rw [List.length_append] at hl h60 hl' h60'
  have fts : tm_ft (tm_fl (sp_dif ta tb)) := sp_dif_ft ⟨by omega, (tm_sm_app.mp hx.2).2⟩
  refine od_W.rn (pc' := 136) (ls' := [some (.ref _), some (.int _), some (.int _), some (.int _), some (.int _), some (.int _), _, _, _]) (st' := [.ref _, .int _]) 2 rfl ?_
  refine od_rG rfl (md_0) rfl rfl ?_
  refine od_W.rn (pc' := 140) (ls' := [some (.ref _), some (.int _), some (.int _), some (.int _), some (.int _), some (.int _), _, _, _]) (st' := [.int _, .ref _, .int _]) 1 rfl ?_
  refine od_rIL rfl (md_2) (rfl) (hp) (by decide) ?_
  rw [rf_row, hl]
  cases ta with
  | nil =>
    refine od_r2F rfl (of_decide_eq_true rfl) ((show (!decide (nI (tm_fl done).length = nI ((tm_fl done).length + (tm_fl ([] : List tm_T)).length))) = false by rw [show (tm_fl ([] : List tm_T)).length = 0 from rfl, Nat.add_zero, decide_eq_true rfl]; rfl)) ?_
    refine od_W.fin rfl ?_
    exact ⟨rfl, false, ρ, rfl, g, hb, ⟨fun _ => ⟨rfl, trivial⟩, fun _ => rfl⟩, fun _ => hz⟩
  | cons t ta =>
    have hx2 : od_hl ρ p (tm_fl done ++ (tm_t t ++ tm_fl ta)) := hx
    have hlt : (tm_fl (t :: ta)).length = t.1.length + 3 + (tm_fl ta).length := by rw [tm_fl, List.length_append, tm_t_len]
    refine od_r2T rfl rfl ((show (!decide (nI (tm_fl done).length = nI ((tm_fl done).length + (tm_fl (t :: ta)).length))) = true by rw [decide_eq_false (fun z => absurd ((nI_eq (by omega) (by omega)).mp z) (by omega))]; rfl)) ?_
    refine od_W.rn (pc' := 149) (ls' := [some (.ref _), some (.int _), some (.int _), some (.int _), some (.int _), some (.int _), _, _, _]) (st' := [.int _, .int _, .ref _]) 3 rfl ?_
    refine od_rV (as := [.int (nI p), .int (nI (tm_fl done).length)]) rfl rfl rfl rfl (md_0) rfl (Nat.le_of_ble_eq_true rfl) (Nat.le_of_ble_eq_true rfl) (rt_behind hb hp al1.1 hx2 rfl) (Nat.le_of_ble_eq_true rfl) (fun o M1 hq => ?_)
    obtain ⟨rfl, rfl⟩ := hq
    refine od_K.ret ?_
    refine od_W.rn (pc' := 157) (ls' := [some (.ref _), some (.int _), some (.int _), some (.int _), some (.int _), some (.int _), some (.int _), _, _]) (st' := [.ref _, .int _]) 3 rfl ?_
    refine od_rG rfl (md_0) rfl rfl ?_
    refine od_W.rn (pc' := 161) (ls' := [some (.ref _), some (.int _), some (.int _), some (.int _), some (.int _), some (.int _), some (.int _), _, _]) (st' := [.int _, .ref _, .int _]) 1 rfl ?_
    refine od_rIL rfl (md_2) (rfl) (hq') (by decide) ?_
    rw [rf_row, hl']
    have tail : ∀ ρ1 : od_Rm, od_Bd ρ1 → (∀ a, a ∉ [76, 77] → ρ1 a = ρ a) → sp_dif (t :: ta) tb = t :: ta → ∀ w7 w8, od_W 4 106 249 [some (.ref y), some (.int (nI p)), some (.int (nI q)), some (.int (nI r)), some (.int (nI (tm_fl done).length)), some (.int sm), some (.int (nI ((tm_fl done).length + (tm_t t).length))), w7, w8] [] (md M y b false ρ1) (rf_s M y b false ρ0 [r, 76, 77] True (fun ρ' => od_hl ρ' r (tm_fl (sp_dif (t :: ta) tb)))) := by
      intro ρ1 b1 f1 es w7 w8
      have hx3 := hx.fr (f1 p (od_nn np (by simp)))
      have hz3 := hz.fr (f1 r nr)
      refine od_W.rn (pc' := 255) (ls' := [some (.ref _), some (.int _), some (.int _), some (.int _), some (.int _), some (.int _), some (.int _), _, _]) (st' := [.ref _, .int _, .int _, .int _, .ref _]) 5 rfl ?_
      refine od_rG rfl (md_0) rfl rfl ?_
      refine od_W.rn (pc' := 259) (ls' := [some (.ref _), some (.int _), some (.int _), some (.int _), some (.int _), some (.int _), some (.int _), _, _]) (st' := [.int _, .ref _, .int _, .int _, .int _, .ref _]) 1 rfl ?_
      refine od_rIL rfl (md_2) (rfl) (hp) (by decide) ?_
      rw [rf_row, hx3.n]
      refine od_rV (as := [.int (nI r), .int (nI p), .int (nI (tm_fl done).length), .int (nI (tm_fl done ++ tm_fl (t :: ta)).length)]) rfl rfl rfl rfl (md_0) rfl (Nat.le_of_ble_eq_true rfl) (Nat.le_of_ble_eq_true rfl) (rt_appendPart (z := []) b1 hr hp (od_ne np (by simp)) (by rw [List.append_nil]; exact hx3) rfl (by rw [List.length_append]) (fun _ => hz3)) (Nat.le_of_ble_eq_true rfl) (fun o M1 hq => ?_)
      obtain ⟨rfl, fu2, ρ2, rfl, f2, b2, k2, p2⟩ := hq
      refine od_K.ret ?_
      refine od_W.fin rfl ?_
      refine ⟨rfl, fu2, ρ2, rfl, fun a ha => (f2 a (od_nn ha (by simp))).trans ((f1 a (od_nn ha (by simp))).trans (g a ha)), b2, ?_, ?_⟩
      · rw [k2, List.nil_append, ← es]
        exact ⟨fun z => ⟨z.1, trivial⟩, fun z => ⟨z.1, fts⟩⟩
      · intro z
        have := p2 z
        rw [List.nil_append] at this
        rw [es]
        exact this
    cases tb with
    | nil =>
      refine od_r2T rfl rfl (decide_eq_true (nI_le (by simp [tm_fl]) (by omega))) ?_
      exact tail ρ hb (fun _ _ => rfl) rfl _ _
    | cons u tb =>
      have hy2 : od_hl ρ q (tm_fl done ++ (tm_t u ++ tm_fl tb)) := hy
      have hlu : (tm_fl (u :: tb)).length = u.1.length + 3 + (tm_fl tb).length := by rw [tm_fl, List.length_append, tm_t_len]
      refine od_r2F rfl (of_decide_eq_true rfl) (decide_eq_false (nI_ge (by omega) (by omega))) ?_
      refine od_W.rn (pc' := 169) (ls' := [some (.ref _), some (.int _), some (.int _), some (.int _), some (.int _), some (.int _), some (.int _), _, _]) (st' := [.int _, .int _, .ref _]) 3 rfl ?_
      refine od_rV (as := [.int (nI q), .int (nI (tm_fl done).length)]) rfl rfl rfl rfl (md_0) rfl (Nat.le_of_ble_eq_true rfl) (Nat.le_of_ble_eq_true rfl) (rt_behind hb hq' al2.1 hy2 rfl) (Nat.le_of_ble_eq_true rfl) (fun o M1 hq => ?_)
      obtain ⟨rfl, rfl⟩ := hq
      refine od_K.ret ?_
      refine od_W.rn (pc' := 174) (ls' := [some (.ref _), some (.int _), some (.int _), some (.int _), some (.int _), some (.int _), some (.int _), _, _]) (st' := [.int _, .int _]) 1 rfl ?_
      rw [tm_t_len, tm_t_len]
      rw [tm_t_len] at tail
      by_cases hlen : u.1.length = t.1.length
      · refine od_r2F rfl (of_decide_eq_true rfl) ((show (!decide (nI ((tm_fl done).length + (u.1.length + 3)) = nI ((tm_fl done).length + (t.1.length + 3)))) = false by rw [hlen, decide_eq_true rfl]; rfl)) ?_
        refine od_W.rn (pc' := 185) (ls' := [some (.ref _), some (.int _), some (.int _), some (.int _), some (.int _), some (.int _), some (.int _), _, _]) (st' := [.int _, .int _, .int _, .int _, .ref _]) 5 rfl ?_
        refine od_rV (as := [.int (nI p), .int (nI (tm_fl done).length), .int (nI ((tm_fl done).length + (t.1.length + 3))), .int (nI 76)]) rfl rfl rfl rfl (md_0) rfl (Nat.le_of_ble_eq_true rfl) (Nat.le_of_ble_eq_true rfl) (rc_exponent hb (by omega) hp (od_ne np (by simp)) (by omega) (by omega) (by omega) (fun _ => ⟨hx2, rfl, by rw [tm_t_len]⟩)) (Nat.le_of_ble_eq_true rfl) (fun o M1 hq => ?_)
        obtain ⟨rfl, fu1, ρ1, rfl, f1, b1, k1, p1⟩ := hq
        refine od_K.ret ?_
        have hf1 : fu1 = false := k1.mpr ⟨rfl, trivial⟩
        subst hf1
        have hy3 := hy2.fr (f1 q (od_nn nq (by simp)))
        refine od_W.rn (pc' := 196) (ls' := [some (.ref _), some (.int _), some (.int _), some (.int _), some (.int _), some (.int _), some (.int _), _, _]) (st' := [.int _, .int _, .int _, .int _, .ref _]) 5 rfl ?_
        refine od_rV (as := [.int (nI q), .int (nI (tm_fl done).length), .int (nI ((tm_fl done).length + (t.1.length + 3))), .int (nI 77)]) rfl rfl rfl rfl (md_0) rfl (Nat.le_of_ble_eq_true rfl) (Nat.le_of_ble_eq_true rfl) (rc_exponent b1 (by omega) hq' (od_ne nq (by simp)) (by omega) (by omega) (by omega) (fun _ => ⟨hy3, rfl, by rw [tm_t_len, hlen]⟩)) (Nat.le_of_ble_eq_true rfl) (fun o M1 hq => ?_)
        obtain ⟨rfl, fu2, ρ2, rfl, f2, b2, k2, p2⟩ := hq
        refine od_K.ret ?_
        have hf2 : fu2 = false := k2.mpr ⟨rfl, trivial⟩
        subst hf2
        have h76 := (p1 rfl).fr (f2 76 (by simp))
        have fr2 : ∀ a, a ∉ [76, 77] → ρ2 a = ρ a := fun a ha => (f2 a (od_nn ha (by simp))).trans (f1 a (od_nn ha (by simp)))
        refine od_W.rn (pc' := 204) (ls' := [some (.ref _), some (.int _), some (.int _), some (.int _), some (.int _), some (.int _), some (.int _), _, _]) (st' := [.int _, .int _, .ref _]) 3 rfl ?_
        refine od_rV (as := [.int (nI 76), .int (nI 77)]) rfl rfl rfl rfl (md_0) rfl (Nat.le_of_ble_eq_true rfl) (Nat.le_of_ble_eq_true rfl) (rt_order b2 (by omega) (by omega) al1.1.1 al2.1.1 h76 (p2 rfl)) (Nat.le_of_ble_eq_true rfl) (fun o M1 hq => ?_)
        obtain ⟨rfl, rfl⟩ := hq
        refine od_K.ret ?_
        by_cases hc0 : tm_cmp t.1 u.1 = 0
        · have hte : t.1 = u.1 := tm_cmp_eq hc0
          have c1 := al1.1.2
          have c2 := al2.1.2
          unfold tm_c at c1 c2
          have hlt2 : u.2 < t.2 := by
            rw [tm_fl, tm_fl, show t = (t.1, t.2) from rfl, show u = (u.1, u.2) from rfl, ← hte, tm_cmp_t] at hc
            have h8 : t.2 ≠ u.2 := fun z => hne t ta u tb rfl rfl (by rw [show t = (t.1, t.2) from rfl, show u = (u.1, u.2) from rfl, hte, z])
            rcases Nat.lt_trichotomy t.2 u.2 with z | z | z
            · rw [if_pos z] at hc; exact absurd rfl hc
            · exact absurd z h8
            · exact z
          have es : sp_dif (t :: ta) (u :: tb) = (t.1, t.2 - u.2) :: ta := by conv => lhs; unfold sp_dif; rw [if_pos hc0, if_neg (by omega), if_pos hlt2]
          have hx5 := hx2.fr (fr2 p (od_nn np (by simp)))
          have hy5 := hy2.fr (fr2 q (od_nn nq (by simp)))
          have hz5 := hz.fr (fr2 r nr)
          rw [hc0]
          rw [es, tm_fl] at fts
          rw [es, tm_fl]
          refine od_r1F rfl (of_decide_eq_true rfl) (rfl) ?_
          refine od_W.rn (pc' := 218) (ls' := [some (.ref _), some (.int _), some (.int _), some (.int _), some (.int _), some (.int _), some (.int _), _, _]) (st' := [.int _, .int _, .ref _, .int _, .int _, .ref _]) 6 rfl ?_
          refine od_rV (as := [.int (nI p), .int (nI ((tm_fl done).length + (t.1.length + 3)))]) rfl rfl rfl rfl (md_0) rfl (Nat.le_of_ble_eq_true rfl) (Nat.le_of_ble_eq_true rfl) (rt_coef hp b2 hx5 (by rw [tm_t_len])) (Nat.le_of_ble_eq_true rfl) (fun o M1 hq => ?_)
          obtain ⟨rfl, rfl⟩ := hq
          refine od_K.ret ?_
          refine od_W.rn (pc' := 226) (ls' := [some (.ref _), some (.int _), some (.int _), some (.int _), some (.int _), some (.int _), some (.int _), _, _]) (st' := [.int _, .int _, .ref _, .long _, .int _, .int _, .ref _]) 4 rfl ?_
          refine od_rV (as := [.int (nI q), .int (nI ((tm_fl done).length + (t.1.length + 3)))]) rfl rfl rfl rfl (md_0) rfl (Nat.le_of_ble_eq_true rfl) (Nat.le_of_ble_eq_true rfl) (rt_coef hq' b2 hy5 (by rw [tm_t_len, hlen])) (Nat.le_of_ble_eq_true rfl) (fun o M1 hq => ?_)
          obtain ⟨rfl, rfl⟩ := hq
          refine od_K.ret ?_
          refine od_W.rn (pc' := 231) (ls' := [some (.ref _), some (.int _), some (.int _), some (.int _), some (.int _), some (.int _), some (.int _), _, _]) (st' := [.long _, .int _, .int _, .ref _]) 2 rfl ?_
          rw [nI_1000 c1.2, nI_1000 c2.2, lN_sub (Nat.le_of_lt hlt2)]
          refine od_rV (as := [.int (nI r), .int (nI 76), .long (lN (t.2 - u.2))]) rfl rfl rfl rfl (md_0) rfl (Nat.le_of_ble_eq_true rfl) (Nat.le_of_ble_eq_true rfl) (rc_appendTerm (xs := []) b2 hr (by omega) (Ne.symm (od_ne nr (by simp))) (fun _ => ⟨h76, rfl, by omega⟩) (fun _ => hz5)) (Nat.le_of_ble_eq_true rfl) (fun o M1 hq => ?_)
          obtain ⟨rfl, fu3, ρ3, rfl, f3, b3, k3, p3⟩ := hq
          refine od_K.ret ?_
          have hx6 := hx5.fr (f3 p (od_n1 (od_ne np (by simp))))
          refine od_W.rn (pc' := 240) (ls' := [some (.ref _), some (.int _), some (.int _), some (.int _), some (.int _), some (.int _), some (.int _), _, _]) (st' := [.ref _, .int _, .int _, .int _, .ref _]) 5 rfl ?_
          refine od_rG rfl (md_0) rfl rfl ?_
          refine od_W.rn (pc' := 244) (ls' := [some (.ref _), some (.int _), some (.int _), some (.int _), some (.int _), some (.int _), some (.int _), _, _]) (st' := [.int _, .ref _, .int _, .int _, .int _, .ref _]) 1 rfl ?_
          refine od_rIL rfl (md_2) (rfl) (hp) (by decide) ?_
          rw [rf_row, hx6.n]
          refine od_rV (as := [.int (nI r), .int (nI p), .int (nI ((tm_fl done).length + (t.1.length + 3))), .int (nI (tm_fl done ++ (tm_t t ++ tm_fl ta)).length)]) rfl rfl rfl rfl (md_0) rfl (Nat.le_of_ble_eq_true rfl) (Nat.le_of_ble_eq_true rfl) (rt_appendPart (u := tm_fl done ++ tm_t t) (w := tm_fl ta) (z := []) b3 hr hp (od_ne np (by simp)) (by rw [List.append_nil, List.append_assoc]; exact hx6) (by rw [List.length_append, tm_t_len]) (by rw [List.length_append, List.length_append, tm_t_len]; omega) p3) (Nat.le_of_ble_eq_true rfl) (fun o M1 hq => ?_)
          obtain ⟨rfl, fu4, ρ4, rfl, f4, b4, k4, p4⟩ := hq
          refine od_K.ret ?_
          refine od_W.fin rfl ?_
          refine ⟨rfl, fu4, ρ4, rfl, fun a ha => (f4 a (od_nn ha (by simp))).trans ((f3 a (od_nn ha (by simp))).trans ((fr2 a (od_nn ha (by simp))).trans (g a ha))), b4, ?_, p4⟩
          rw [k4, k3, List.nil_append]
          exact ⟨fun z => ⟨rfl, trivial⟩, fun z => ⟨⟨rfl, tm_ft_l fts⟩, fts⟩⟩
        · refine od_r1T rfl rfl ((show (!decide (tm_cmp t.1 u.1 = 0)) = true by rw [decide_eq_false hc0]; rfl)) ?_
          exact tail ρ2 b2 fr2 (by conv => lhs; unfold sp_dif; rw [if_neg hc0]) _ _
      · refine od_r2T rfl rfl ((show (!decide (nI ((tm_fl done).length + (u.1.length + 3)) = nI ((tm_fl done).length + (t.1.length + 3)))) = true by rw [decide_eq_false (fun z => absurd ((nI_eq (by omega) (by omega)).mp z) (by omega))]; rfl)) ?_
        exact tail ρ hb (fun _ _ => rfl) (by conv => lhs; unfold sp_dif; rw [if_neg (fun z => hlen (by rw [tm_cmp_eq z]))]) _ _
set_option maxRecDepth 100000 in
theorem rt_df_loop {p q r : Nat} {ρ : od_Rm} (hp : p < 113) (hq' : q < 113) (hr : r < 113) (nr : r ∉ [76, 77]) (np : p ∉ [r, 76, 77]) (nq : q ∉ [r, 76, 77]) (hb : od_Bd ρ) (g : ∀ a, a ∉ [r, 76, 77] → ρ a = ρ0 a) (hz : od_hl ρ r []) : ∀ (ta tb done : List tm_T) (w6 w7 w8 : Option Value), tm_al ta → tm_al tb → od_hl ρ p (tm_fl done ++ tm_fl ta) → od_hl ρ q (tm_fl done ++ tm_fl tb) → tm_cmp (tm_fl ta) (tm_fl tb) ≠ -1 → od_W 4 106 11 [some (.ref y), some (.int (nI p)), some (.int (nI q)), some (.int (nI r)), some (.int (nI (tm_fl done).length)), some (.int (nI 1)), w6, w7, w8] [] (md M y b false ρ) (rf_s M y b false ρ0 [r, 76, 77] True (fun ρ' => od_hl ρ' r (tm_fl (sp_dif ta tb)))) := by
  intro ta
  induction ta with
  | nil =>
    intro tb done w6 w7 w8 al1 al2 hx hy hc
    have hl := hx.n
    have h60 := hx.le hb
    have hl' := hy.n
    have h60' := hy.le hb
    rw [List.length_append] at hl h60 hl' h60'
    have hend := fun w6 w7 w8 => rt_df_end (M := M) (y := y) (b := b) (sm := nI 1) (w6 := w6) (w7 := w7) (w8 := w8) hp hq' hr nr np nq al1 al2 hb g hx hy hz (fun t ts u us z => absurd z (by simp)) hc
    refine od_W.rn (pc' := 13) (ls' := [some (.ref _), some (.int _), some (.int _), some (.int _), some (.int _), some (.int _), _, _, _]) (st' := [.int _]) 1 rfl ?_
    refine od_r1F rfl (of_decide_eq_true rfl) (rfl) ?_
    refine od_W.rn (pc' := 19) (ls' := [some (.ref _), some (.int _), some (.int _), some (.int _), some (.int _), some (.int _), _, _, _]) (st' := [.ref _, .int _]) 2 rfl ?_
    refine od_rG rfl (md_0) rfl rfl ?_
    refine od_W.rn (pc' := 23) (ls' := [some (.ref _), some (.int _), some (.int _), some (.int _), some (.int _), some (.int _), _, _, _]) (st' := [.int _, .ref _, .int _]) 1 rfl ?_
    refine od_rIL rfl (md_2) (rfl) (hq') (by decide) ?_
    rw [rf_row, hl']
    by_cases h : (tm_fl tb).length = 0
    · refine od_r2T rfl rfl (decide_eq_true (nI_le (by omega) (by omega))) ?_
      exact hend _ _ _
    · refine od_r2F rfl (of_decide_eq_true rfl) (decide_eq_false (nI_ge (by omega) (by omega))) ?_
      refine od_W.rn (pc' := 30) (ls' := [some (.ref _), some (.int _), some (.int _), some (.int _), some (.int _), some (.int _), _, _, _]) (st' := [.ref _, .int _]) 2 rfl ?_
      refine od_rG rfl (md_0) rfl rfl ?_
      refine od_W.rn (pc' := 34) (ls' := [some (.ref _), some (.int _), some (.int _), some (.int _), some (.int _), some (.int _), _, _, _]) (st' := [.int _, .ref _, .int _]) 1 rfl ?_
      refine od_rIL rfl (md_2) (rfl) (hp) (by decide) ?_
      rw [rf_row, hl]
      refine od_r2T rfl rfl (decide_eq_true (nI_le (by simp [tm_fl]) (by omega))) ?_
      exact hend _ _ _
  | cons t ta ih =>
    intro tb done w6 w7 w8 al1 al2 hx hy hc
    have hl := hx.n
    have h60 := hx.le hb
    have hl' := hy.n
    have h60' := hy.le hb
    rw [List.length_append] at hl h60 hl' h60'
    have hx2 : od_hl ρ p (tm_fl done ++ (tm_t t ++ tm_fl ta)) := hx
    have hlt : (tm_fl (t :: ta)).length = t.1.length + 3 + (tm_fl ta).length := by rw [tm_fl, List.length_append, tm_t_len]
    refine od_W.rn (pc' := 13) (ls' := [some (.ref _), some (.int _), some (.int _), some (.int _), some (.int _), some (.int _), _, _, _]) (st' := [.int _]) 1 rfl ?_
    refine od_r1F rfl (of_decide_eq_true rfl) (rfl) ?_
    refine od_W.rn (pc' := 19) (ls' := [some (.ref _), some (.int _), some (.int _), some (.int _), some (.int _), some (.int _), _, _, _]) (st' := [.ref _, .int _]) 2 rfl ?_
    refine od_rG rfl (md_0) rfl rfl ?_
    refine od_W.rn (pc' := 23) (ls' := [some (.ref _), some (.int _), some (.int _), some (.int _), some (.int _), some (.int _), _, _, _]) (st' := [.int _, .ref _, .int _]) 1 rfl ?_
    refine od_rIL rfl (md_2) (rfl) (hq') (by decide) ?_
    rw [rf_row, hl']
    cases tb with
    | nil =>
      refine od_r2T rfl rfl (decide_eq_true (nI_le (by simp [tm_fl]) (by omega))) ?_
      exact rt_df_end hp hq' hr nr np nq al1 al2 hb g hx hy hz (fun t ts u us z z' => absurd z' (by simp)) hc
    | cons u tb =>
      have hy2 : od_hl ρ q (tm_fl done ++ (tm_t u ++ tm_fl tb)) := hy
      have hlu : (tm_fl (u :: tb)).length = u.1.length + 3 + (tm_fl tb).length := by rw [tm_fl, List.length_append, tm_t_len]
      have e : (tm_fl done).length + (t.1.length + 3) = (tm_fl (done ++ [t])).length := by rw [tm_fl_snoc, List.length_append, tm_t_len]
      refine od_r2F rfl (of_decide_eq_true rfl) (decide_eq_false (nI_ge (by omega) (by omega))) ?_
      refine od_W.rn (pc' := 30) (ls' := [some (.ref _), some (.int _), some (.int _), some (.int _), some (.int _), some (.int _), _, _, _]) (st' := [.ref _, .int _]) 2 rfl ?_
      refine od_rG rfl (md_0) rfl rfl ?_
      refine od_W.rn (pc' := 34) (ls' := [some (.ref _), some (.int _), some (.int _), some (.int _), some (.int _), some (.int _), _, _, _]) (st' := [.int _, .ref _, .int _]) 1 rfl ?_
      refine od_rIL rfl (md_2) (rfl) (hp) (by decide) ?_
      rw [rf_row, hl]
      refine od_r2F rfl (of_decide_eq_true rfl) (decide_eq_false (nI_ge (by omega) (by omega))) ?_
      refine od_W.rn (pc' := 42) (ls' := [some (.ref _), some (.int _), some (.int _), some (.int _), some (.int _), some (.int _), _, _, _]) (st' := [.int _, .int _, .ref _]) 3 rfl ?_
      refine od_rV (as := [.int (nI p), .int (nI (tm_fl done).length)]) rfl rfl rfl rfl (md_0) rfl (Nat.le_of_ble_eq_true rfl) (Nat.le_of_ble_eq_true rfl) (rt_behind hb hp al1.1 hx2 rfl) (Nat.le_of_ble_eq_true rfl) (fun o M1 hq => ?_)
      obtain ⟨rfl, rfl⟩ := hq
      refine od_K.ret ?_
      refine od_W.rn (pc' := 51) (ls' := [some (.ref _), some (.int _), some (.int _), some (.int _), some (.int _), some (.int _), some (.int _), _, _]) (st' := [.int _, .int _, .ref _]) 4 rfl ?_
      refine od_rV (as := [.int (nI q), .int (nI (tm_fl done).length)]) rfl rfl rfl rfl (md_0) rfl (Nat.le_of_ble_eq_true rfl) (Nat.le_of_ble_eq_true rfl) (rt_behind hb hq' al2.1 hy2 rfl) (Nat.le_of_ble_eq_true rfl) (fun o M1 hq => ?_)
      obtain ⟨rfl, rfl⟩ := hq
      refine od_K.ret ?_
      refine od_W.rn (pc' := 60) (ls' := [some (.ref _), some (.int _), some (.int _), some (.int _), some (.int _), some (.int _), some (.int _), some (.int _), _]) (st' := [.int _, .int _]) 3 rfl ?_
      rw [tm_t_len, tm_t_len]
      have stop : t ≠ u → ∀ w7 w8, od_W 4 106 116 [some (.ref y), some (.int (nI p)), some (.int (nI q)), some (.int (nI r)), some (.int (nI (tm_fl done).length)), some (.int (nI 0)), some (.int (nI ((tm_fl done).length + (t.1.length + 3)))), some (.int (nI w7)), some (.int (nI w8))] [] (md M y b false ρ) (rf_s M y b false ρ0 [r, 76, 77] True (fun ρ' => od_hl ρ' r (tm_fl (sp_dif (t :: ta) (u :: tb))))) := by
        intro hne w7 w8
        refine od_W.rn (pc' := 118) (ls' := [some (.ref _), some (.int _), some (.int _), some (.int _), some (.int _), some (.int _), some (.int _), some (.int _), some (.int _)]) (st' := [.int _]) 1 rfl ?_
        refine od_r1T rfl rfl (rfl) ?_
        refine od_W.rn (pc' := 11) (ls' := [some (.ref _), some (.int _), some (.int _), some (.int _), some (.int _), some (.int _), some (.int _), some (.int _), some (.int _)]) (st' := []) 3 rfl ?_
        refine od_W.rn (pc' := 13) (ls' := [some (.ref _), some (.int _), some (.int _), some (.int _), some (.int _), some (.int _), some (.int _), some (.int _), some (.int _)]) (st' := [.int _]) 1 rfl ?_
        refine od_r1T rfl rfl (rfl) ?_
        exact rt_df_end hp hq' hr nr np nq al1 al2 hb g hx hy hz (fun t' ts' u' us' z z' => by rw [← (List.cons.inj z).1, ← (List.cons.inj z').1]; exact hne) hc
      by_cases hlen : t.1.length = u.1.length
      · refine od_r2F rfl (of_decide_eq_true rfl) ((show (!decide (nI ((tm_fl done).length + (t.1.length + 3)) = nI ((tm_fl done).length + (u.1.length + 3)))) = false by rw [hlen, decide_eq_true rfl]; rfl)) ?_
        refine od_W.rn (pc' := 74) (ls' := [some (.ref _), some (.int _), some (.int _), some (.int _), some (.int _), some (.int _), some (.int _), some (.int _), some (.int _)]) (st' := []) 5 rfl ?_
        have at1 := hx2.tt
        have at2 := hy2.tt
        have lt1 : (tm_t t).length = t.1.length + 3 := tm_t_len t
        have lt2 : (tm_t u).length = u.1.length + 3 := tm_t_len u
        refine cl_df_in (sm := true) hb hp hq' (by omega) (tm_t t) (tm_t u) (tm_fl done).length (by omega) (by omega) at1.1 at2.1 (by omega) (fun _ => by omega) (tm_sm_app.mp (tm_sm_app.mp hx2.2).2).1 (tm_sm_app.mp (tm_sm_app.mp hy2.2).2).1 ?_
        by_cases htu : t = u
        · rw [if_pos ⟨rfl, by rw [htu]⟩]
          subst htu
          refine od_W.rn (pc' := 118) (ls' := [some (.ref _), some (.int _), some (.int _), some (.int _), some (.int _), some (.int _), some (.int _), some (.int _), some (.int _)]) (st' := [.int _]) 1 rfl ?_
          refine od_r1F rfl (of_decide_eq_true rfl) (rfl) ?_
          refine od_W.rn (pc' := 11) (ls' := [some (.ref _), some (.int _), some (.int _), some (.int _), some (.int _), some (.int _), some (.int _), some (.int _), some (.int _)]) (st' := []) 4 rfl ?_
          rw [e, sp_dif_same]
          rw [show tm_fl (t :: ta) = tm_t t ++ tm_fl ta from rfl, show tm_fl (t :: tb) = tm_t t ++ tm_fl tb from rfl, tm_cmp_pre] at hc
          exact ih tb (done ++ [t]) _ _ _ al1.2 al2.2 (by rw [tm_fl_snoc, List.append_assoc]; exact hx2) (by rw [tm_fl_snoc, List.append_assoc]; exact hy2) hc
        · have hne2 : tm_t t ≠ tm_t u := by
            intro z
            have z1 : tm_tp (tm_fl [t]) = tm_tp (tm_fl [u]) := by rw [tm_fl_one, tm_fl_one, z]
            rw [tm_tp_fl (ts := [t]) ⟨al1.1, trivial⟩, tm_tp_fl (ts := [u]) ⟨al2.1, trivial⟩] at z1
            exact htu (List.cons.inj z1).1
          rw [if_neg (fun z => hne2 z.2)]
          exact stop htu _ _
      · refine od_r2T rfl rfl ((show (!decide (nI ((tm_fl done).length + (t.1.length + 3)) = nI ((tm_fl done).length + (u.1.length + 3)))) = true by rw [decide_eq_false (fun z => absurd ((nI_eq (by omega) (by omega)).mp z) (by omega))]; rfl)) ?_
        refine od_W.rn (pc' := 74) (ls' := [some (.ref _), some (.int _), some (.int _), some (.int _), some (.int _), some (.int _), some (.int _), some (.int _), some (.int _)]) (st' := []) 4 rfl ?_
        refine cl_df_in0 (by omega) (t.1.length + 3) (tm_fl done).length (by omega) ?_
        exact stop (fun z => hlen (by rw [z])) _ _
theorem rt_dif {p q r : Nat} {ρ : od_Rm} {ts us : List tm_T} (hp : p < 113) (hq' : q < 113) (hr : r < 113) (nr : r ∉ [76, 77]) (np : p ∉ [r, 76, 77]) (nq : q ∉ [r, 76, 77]) (hb : od_Bd ρ) (hx : od_hl ρ p (tm_fl ts)) (h1 : tm_al ts) (hy : od_hl ρ q (tm_fl us)) (h2 : tm_al us) (hc : tm_cmp (tm_fl ts) (tm_fl us) ≠ -1) : od_W 4 106 0 (od_ent 106 [.ref y, .int (nI p), .int (nI q), .int (nI r)]) [] (md M y b false ρ) (rf_s M y b false ρ [r, 76, 77] True (fun ρ' => od_hl ρ' r (tm_fl (sp_dif ts us)))) := by
  have e0 : od_ent 106 [.ref y, .int (nI p), .int (nI q), .int (nI r)] = [some (.ref y), some (.int (nI p)), some (.int (nI q)), some (.int (nI r)), none, none, none, none, none] := rfl
  rw [e0]
  refine od_W.rn (pc' := 2) (ls' := [some (.ref _), some (.int _), some (.int _), some (.int _), none, none, none, none, none]) (st' := [.int _, .ref _]) 2 rfl ?_
  refine od_rV (as := [.int (nI r)]) rfl rfl rfl rfl (md_0) rfl (Nat.le_of_ble_eq_true rfl) (Nat.le_of_ble_eq_true rfl) (rt_clear hb hr) (Nat.le_of_ble_eq_true rfl) (fun o M1 hq => ?_)
  obtain ⟨rfl, fu1, ρ1, rfl, f1, b1, k1, p1⟩ := hq
  refine od_K.ret ?_
  have hf1 : fu1 = false := k1.mpr ⟨rfl, trivial⟩
  subst hf1
  have hx1 := hx.fr (f1 p (od_nn np (by simp)))
  have hy1 := hy.fr (f1 q (od_nn nq (by simp)))
  refine od_W.rn (pc' := 11) (ls' := [some (.ref _), some (.int _), some (.int _), some (.int _), some (.int _), some (.int _), none, none, none]) (st' := []) 4 rfl ?_
  exact rt_df_loop (ρ0 := ρ) hp hq' hr nr np nq b1 (fun a ha => f1 a (od_nn ha (by simp))) (p1 rfl) ts us [] none none none h1 h2 hx1 hy1 hc
end RD
