/-! Calls, exceptions and constants of the small machine against the Statement's words. -/
def od_mck (own : Nat) (q : Nat × Nat × Nat × Nat) : Bool := match q.2.2.1 with
  | 7 => od_has (.methodLink (od_cn own) q.1 arraycopyName) && od_has (.native arraycopyName) && od_has (.static arraycopyName) && od_has (.initialized "java/lang/System")
  | 8 => od_has (.methodLink (od_cn own) q.1 objectInit) && od_has (.instanceMethod objectInit) && od_has (.code objectInit ⟨#[0xb1]⟩ 1 none)
  | _ => od_lks.any (fun r => r.1 == own && r.2.1 == q.1 && r.2.2.1 == q.2.1 && r.2.2.2.1 == q.2.2.1 && r.2.2.2.2.1 == q.2.2.2) && od_mks.any (fun r => r.1 == q.2.1)
theorem od_m_ok : (List.range 12).all (fun own => ((od_mdl[own]?).getD []).all (od_mck own)) = true := by decide +kernel
theorem od_is_of {j : Nat} (hw : Cond.code (od_y j) (od_by j) (od_nl j) (od_rf j) ∈ od_WS) (hh : od_ht j = []) (args : Array Value) (U : State) (h : ∀ w ∈ od_WS, w.before args U = true) : od_is U j := by
  have hb := h _ hw
  obtain ⟨mk, hn⟩ := Cond.code_named hb
  obtain ⟨meth, c, h1, h2, h3, h4, h5, h6, h7, h8⟩ := Cond.code_spec hn hb
  refine ⟨mk, meth, c, hn, h1, h2, h3, h4, h5, h6, ?_, h8⟩
  have h9 : c.exceptionTable = #[] := Array.isEmpty_iff.mp h7
  rw [hh, h9]
  rfl
theorem od_is_ofW {j : Nat} (hw : Cond.codeWith (od_y j) (od_by j) (od_nl j) (od_rf j) (od_ht j) ∈ od_WS) (args : Array Value) (U : State) (h : ∀ w ∈ od_WS, w.before args U = true) : od_is U j := by
  obtain ⟨mk, meth, c, hn, h1, h2, h3, h4, h5, h6, h7, h8⟩ := Cond.codeWith_spec (h _ hw)
  exact ⟨mk, meth, c, hn, h1, h2, h3, h4, h6, h7, h5, h8⟩
theorem od_mocI {j i1 i2 : Nat} (h : od_mrc (j, i1, i2) = true) (hw : od_cw j ∈ od_WS) : (∀ (args : Array Value) (U : State), (∀ w ∈ od_WS, w.before args U = true) → od_is U j) ∧ Cond.initialized (od_y j).cls ∈ od_WS ∧ plainFor (od_y j) = true ∧ (od_y j).cls = od_cn (od_ow j) ∧ (od_in j = true → (od_y j).name = "<init>") ∧ od_nl j ≤ 50 := by
  unfold od_mrc at h
  dsimp only at h
  simp only [Bool.and_eq_true, beq_iff_eq, decide_eq_true_eq, Bool.or_eq_true, Bool.not_eq_true'] at h
  obtain ⟨⟨⟨⟨h2, h3⟩, h4⟩, h5⟩, h6⟩ := h
  refine ⟨fun args U hU => ?_, od_hasAI h2, h3, h4, fun hi => h5.resolve_left (by rw [hi]; decide), h6⟩
  unfold od_cw at hw
  split at hw
  · rename_i hh
    exact od_is_of hw hh args U hU
  · rename_i q r hh
    rw [← hh] at hw
    exact od_is_ofW hw args U hU
theorem od_lkI {own ix j kd n i1 i2 i3 : Nat} (h : od_lrc (own, ix, j, kd, n, i1, i2, i3) = true) (hw : od_cw j ∈ od_WS) : od_lk od_WS own ix j kd n := by
  unfold od_lrc at h
  dsimp only at h
  simp only [Bool.and_eq_true, bne_iff_ne] at h
  obtain ⟨h0, h1⟩ := h
  split at h1
  · simp only [Bool.and_eq_true, decide_eq_true_eq] at h1
    obtain ⟨⟨⟨h2, h3⟩, h4⟩, h5⟩ := h1
    refine ⟨Or.inl rfl, h0, fun _ => ⟨od_hasAI h2, od_hasAI h3, ?_, h5⟩, fun h => (by cases h), fun h => (by cases h)⟩
    split at h4
    · rename_i r hr
      exact ⟨r.1, r.2.1, r.2.2, hr, od_hasAI h4⟩
    · cases h4
  · simp only [Bool.and_eq_true, decide_eq_true_eq] at h1
    obtain ⟨⟨h2, h3⟩, h5⟩ := h1
    exact ⟨Or.inr (Or.inl rfl), h0, fun h => (by cases h), fun _ => ⟨od_hasAI h2, od_hasAI h3, h5⟩, fun h => (by cases h)⟩
  · simp only [Bool.and_eq_true, decide_eq_true_eq, Bool.or_eq_true, beq_iff_eq] at h1
    obtain ⟨⟨⟨⟨⟨h2, h3⟩, h4⟩, h5⟩, h5b⟩, h6⟩ := h1
    have hw2 : Cond.code (od_y j) (od_by j) (od_nl j) none ∈ od_WS := by
      unfold od_cw at hw
      rw [h5b, h5] at hw
      exact hw
    refine ⟨Or.inr (Or.inr rfl), h0, fun h => (by cases h), fun h => (by cases h), fun _ => ⟨?_, od_hasAI h3, h4, hw2, h6⟩⟩
    rcases h2 with h2 | h2
    · exact Or.inl (od_hasAI h2)
    · exact Or.inr ⟨_, od_hasAI h2⟩
  · cases h1
theorem od_MT_ok : od_MT od_WS := by
  refine ⟨fun own ix j kd n h h7 h8 => ?_, od_ride⟩
  have h1 := od_rows od_m_ok rfl h
  unfold od_mck at h1
  dsimp only at h1
  split at h1
  · exact absurd rfl h7
  · exact absurd rfl h8
  · simp only [Bool.and_eq_true, List.any_eq_true, beq_iff_eq] at h1
    obtain ⟨⟨⟨a1, a2, a3, a4, a5, i1, i2, i3⟩, hr, ⟨⟨⟨rfl, rfl⟩, rfl⟩, rfl⟩, rfl⟩, ⟨b1, b2, b3⟩, hm, rfl⟩ := h1
    have hw := od_cws_ok _ hm
    exact ⟨od_lkI (od_lks_ok _ hr) hw, od_mocI (od_mks_ok _ hm) hw⟩
