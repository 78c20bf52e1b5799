/-! Class and reference in one memory. -/
section WD
variable {D y n d : Nat} {X R : Nat → List Nat}
theorem dk_fx.tr {M M' : od_M} (h : dk_fx D M n) (e : ∀ k, k < 128 → dk_L.contains k = false → dk_L.contains (k - 1) = false → M'.2.2 (D + k) = M.2.2 (D + k)) : dk_fx D M' n := by
  obtain ⟨h1, ⟨f2, h2, g2⟩, ⟨f3, h3, g3⟩, h4, h5, h6, ⟨hl, st, en, h7, h8, h9⟩, ⟨⟨f10, h10, g10⟩, h11⟩, ⟨ph, pn, ptm, h12, h13⟩, h14, ⟨f15, h15⟩⟩ := h
  exact ⟨(e 0 (by omega) rfl rfl).trans h1, ⟨f2, (e 1 (by omega) rfl rfl).trans h2, g2⟩, ⟨f3, (e 2 (by omega) rfl rfl).trans h3, g3⟩, (e 7 (by omega) rfl rfl).trans h4, (e 34 (by omega) rfl rfl).trans h5, (e 45 (by omega) rfl rfl).trans h6, ⟨hl, st, en, (e 50 (by omega) rfl rfl).trans h7, (e 51 (by omega) rfl rfl).trans h8, (e 52 (by omega) rfl rfl).trans h9⟩, ⟨⟨f10, (e 58 (by omega) rfl rfl).trans h10, g10⟩, h11⟩, ⟨ph, pn, ptm, (e 57 (by omega) rfl rfl).trans h12, (e 59 (by omega) rfl rfl).trans h13⟩, (e 86 (by omega) rfl rfl).trans h14, ⟨f15, (e 87 (by omega) rfl rfl).trans h15⟩⟩
/-- the class's side of a memory -/
def cw (D : Nat) (W : od_M) (n : Nat) (X R : Nat → List Nat) : Prop := ∃ ρ, W = od_cm (dk_S D) W ρ ∧ dk D W ρ n X R
theorem dk_S_in {D b : Nat} (h : dk_S D b = true) : D ≤ b ∧ b < D + 127 := by
  have h1 : ∀ k, k ∈ dk_L → k < 127 := by decide
  unfold dk_S at h
  rw [Bool.and_eq_true] at h
  have h2 := of_decide_eq_true h.1
  have h3 := h1 _ (List.contains_iff_mem.mp h.2)
  omega
theorem cw.tr {W W' : od_M} (h : cw D W n X R) (e : ∀ a, D ≤ a → a < D + 128 → W'.2.2 a = W.2.2 a) : cw D W' n X R := by
  obtain ⟨ρ, h1, h2⟩ := h
  refine ⟨ρ, ?_, h2.1.tr (fun k hk _ _ => e _ (by omega) (by omega)), h2.2⟩
  have hS := dk_ss D
  refine od_Meq rfl rfl (fun a => ?_)
  by_cases s1 : dk_S D a = true
  · have hb := dk_S_in s1
    rw [od_cm_r s1, e a (by omega) (by omega), h1, od_cm_r s1]
  · by_cases s2 : dk_S D (a - 1) = true
    · have hb := dk_S_in s2
      have ha : a = a - 1 + 1 := by
        rcases Nat.eq_zero_or_pos a with z | z
        · subst z; exact absurd s2 s1
        · omega
      have h3 := e a (by omega) (by omega)
      rw [ha] at h3 ⊢
      rw [od_cm_a hS s2, h3, h1, od_cm_a hS s2]
    · have f1 : dk_S D a = false := by cases z : dk_S D a with
        | true => exact absurd z s1
        | false => rfl
      have f2 : dk_S D (a - 1) = false := by cases z : dk_S D (a - 1) with
        | true => exact absurd z s2
        | false => rfl
      exact (od_cm_o ⟨f1, f2⟩ rfl).symm
theorem dk.w {M : od_M} {ρ : od_Rm} (h : dk D M ρ n X R) : cw D (od_cm (dk_S D) M ρ) n X R := ⟨ρ, (od_cm_cm _ _ _ _).symm, h.1.tr (fun k _ a b => od_cm_o (dk_no D a b) rfl), h.2⟩
theorem cw.h0 {W : od_M} (h : cw D W n X R) : W.2.2 D = some (dk_ob D n) := by
  obtain ⟨ρ, h1, h2⟩ := h
  exact h2.1.1
def dk_r (W : od_M) (r : Option Value ⊕ Nat) (o : od_O) (W' : od_M) : Prop := match r with
  | .inl v => o = .inl v ∧ W'.1 = W.1 ∧ W'.2.1 = W.2.1
  | .inr k => o = .inr (k, W.1) ∧ W'.1 = W.1 + 1 ∧ W'.2.1 = W.2.1 + 6
theorem dk_o.w {W W' : od_M} {o : od_O} {r : Option Value ⊕ Nat} (hW : D + 128 ≤ W.1) (h : dk_o D W r n X R o W') : cw D W' n X R ∧ (∀ a, a < D ∨ D + 128 ≤ a → a ≠ W.1 → W'.2.2 a = W.2.2 a) ∧ dk_r W r o W' := by
  obtain ⟨M', ρ', e1, e2, e3, hd, hr⟩ := h
  have hV := hd.w
  have hno : ∀ a, a < D ∨ D + 128 ≤ a → od_no (dk_S D) a := by
    intro a ha
    rcases ha with ha | ha
    · exact ⟨dk_S_lt ha, dk_S_lt (by omega)⟩
    · exact dk_no_hi ha
  have hf : ∀ a, a < D ∨ D + 128 ≤ a → (od_cm (dk_S D) M' ρ').2.2 a = W.2.2 a := fun a ha => od_cm_o (hno a ha) (e3 a ha)
  cases r with
  | inl v =>
    obtain ⟨rfl, rfl⟩ := hr
    exact ⟨hV, fun a ha _ => hf a ha, rfl, e1, e2⟩
  | inr k =>
    obtain ⟨rfl, rfl⟩ := hr
    have hx : ∀ a, a ≠ W.1 → (od_xm (od_cm (dk_S D) M' ρ') k).2.2 a = (od_cm (dk_S D) M' ρ').2.2 a := by
      intro a ha
      exact va_up_ne _ _ (by rw [show (od_cm (dk_S D) M' ρ').1 = W.1 from e1]; exact ha)
    refine ⟨hV.tr (fun a _ h2 => hx a (by omega)), fun a ha hne => (hx a hne).trans (hf a ha), rfl, ?_, ?_⟩
    · show M'.1 + 1 = _
      rw [e1]
    · show M'.2.1 + 6 = _
      rw [e2]
theorem rd.tr {M M' : od_M} {b : rf_B} {ρ : od_Rm} (h : rd y M b ρ n X R d) (e : ∀ k, 3 ≤ k → k < 8 → M'.2.2 (y + k) = M.2.2 (y + k)) : rd y M' b ρ n X R d := by
  obtain ⟨⟨bg, st, en, a1, a2, a3⟩, ⟨f2, h2⟩, ⟨f3, h3⟩, h4⟩ := h
  exact ⟨⟨bg, st, en, (e 4 (by omega) (by omega)).trans a1, (e 5 (by omega) (by omega)).trans a2, (e 6 (by omega) (by omega)).trans a3⟩, ⟨f2, (e 3 (by omega) (by omega)).trans h2⟩, ⟨f3, (e 7 (by omega) (by omega)).trans h3⟩, h4⟩
/-- the reference's side of a memory; c its code -/
def rv (y : Nat) (W : od_M) (n : Nat) (X R : Nat → List Nat) (d c : Nat) : Prop := ∃ b fu ρ, W = md W y b fu ρ ∧ rd y W b ρ n X R d ∧ b.1 = nI c
theorem md_self {W : od_M} {b : rf_B} {fu : Bool} {ρ : od_Rm} (h0 : W.2.2 y = some (rf_ob y b fu)) (h1 : W.2.2 (y + 1) = some (od_ia 7360 (rf_fl b.2.2.2 ρ))) (h2 : W.2.2 (y + 2) = some (od_ia 113 (rf_ln ρ))) : W = md W y b fu ρ := by
  refine od_Meq rfl rfl (fun a => ?_)
  by_cases e0 : a = y
  · subst e0; rw [md_0]; exact h0
  · by_cases e1 : a = y + 1
    · subst e1; rw [md_1]; exact h1
    · by_cases e2 : a = y + 2
      · subst e2; rw [md_2]; exact h2
      · rw [md_o e0 e1 e2]
theorem rv.tr {W W' : od_M} {c : Nat} (h : rv y W n X R d c) (e : ∀ a, y ≤ a → a < y + 8 → W'.2.2 a = W.2.2 a) : rv y W' n X R d c := by
  obtain ⟨b, fu, ρ, h1, h2, h3⟩ := h
  refine ⟨b, fu, ρ, md_self ?_ ?_ ?_, h2.tr (fun k _ _ => e _ (by omega) (by omega)), h3⟩
  · rw [e y (by omega) (by omega), h1]; exact md_0
  · rw [e (y + 1) (by omega) (by omega), h1]; exact md_1
  · rw [e (y + 2) (by omega) (by omega), h1]; exact md_2
theorem rd_o.w {W W' : od_M} {o : od_O} {c : Nat} {A : od_O → Prop} (h : rd_o y W d c n X R A o W') : (∃ d', d' ≤ d + 20 ∧ rv y W' n X R d' c) ∧ (∀ a, a < y ∨ y + 8 ≤ a → W'.2.2 a = W.2.2 a) ∧ W'.1 = W.1 ∧ W'.2.1 = W.2.1 ∧ A o := by
  obtain ⟨M', b', fu', ρ', d', rfl, e, hc, hd, hle, ha⟩ := h
  refine ⟨⟨d', hle, b', fu', ρ', md_self md_0 md_1 md_2, hd.tr (fun k h1 h2 => md_o (by omega) (by omega) (by omega)), hc⟩, fun a h1 => ?_, e.1, e.2.1, ha⟩
  rw [md_o (by omega) (by omega) (by omega)]
  exact e.2.2 a (by simp; omega)
end WD
section CAT
variable {d k pc : Nat} {ls : od_L} {M : od_M} {Q : od_O → od_M → Prop}
theorem od_K.cat {x : Nat × Nat} {h : Nat} {rest : List Value} (hh : od_hn k pc x.1 = some (some h)) (kk : od_W d k h ls [.ref x.2] M Q) : od_K d k pc ls rest Q (.inr x) M := by
  unfold od_K
  dsimp only
  rw [hh]
  exact kk
end CAT
/-- what a wrapper of the law comes to: the code; the value, where there is one, in the array at q -/
def wr (D q : Nat) (W : od_M) (c : Nat) (r : Int32 ⊕ Nat) (n : Nat) (X R : Nat → List Nat) : od_O → od_M → Prop := fun o W' => o = .inl (some (.int (nI c))) ∧ cw D W' n X R ∧ (∀ a, a < D ∨ D + 128 ≤ a → a ≠ W.1 → a ≠ q → W'.2.2 a = W.2.2 a) ∧ W.1 ≤ W'.1 ∧ W'.1 ≤ W.1 + 1 ∧ W'.2.1 ≤ W.2.1 + 6 ∧ (∃ f, W'.2.2 q = some (od_la 1 f) ∧ ∀ v, r = .inl v → f 0 = v.toInt64)
theorem cs_keep_k {X : Nat → List Nat} {t : Nat} {ok : Prop} {xs : List Nat} {k : Nat} (h : (cs_keep X t ok xs).1 = .inr k) : k = 2 := by
  unfold cs_keep at h
  by_cases z : ok
  · rw [cif_pos z] at h; cases h
  · rw [cif_neg z] at h; cases h; rfl
