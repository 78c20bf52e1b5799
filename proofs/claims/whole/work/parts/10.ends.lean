/-! The soundness of the small machine. -/
section ODM
variable {p : Program} {l : Launch} {e : Env} {R : Room} {s : State} {m : MethodId} {args : Array Value} {below : List Frame} {meth : Method} {c : Code} {H : Heap} {locs : List Loc} {cells slots : Nat} {D : va_G} {K : Nat × Nat × Nat} {B : Nat} {WS : List Cond}
set_option maxHeartbeats 4000000 in
theorem od_step_fin (hT : od_T WS) (hThr : od_Thr l WS D K B) {d k pc : Nat} {ls : od_L} {st : List Value} {M : od_M} {lsM : Array Slot} (hC : od_Cx WS p s m args meth c k) (htb : od_tb c k) (hL : lv_has lsM (od_nl k) (od_prs ls)) (hK : od_Kx D K s) (hY : od_Ky B s) (hR : od_Rp D K B s M H) (hf : ∀ q ∈ locs, B ≤ q.base) (hrm : od_room R d)
    {o : od_O} {M' : od_M} (hs : od_step k pc ls st M = some (.inr (.inr (o, M')))) (hcl : cells + (M'.1 - M.1) ≤ R.cells) (hsl : slots + (M'.2.1 - M.2.1) ≤ R.slots) :
    W p l e R s m args below meth c H locs cells slots (od_Z D K B s below o M' (cells + (M'.1 - M.1)) (slots + (M'.2.1 - M.2.1))) (F0 m pc lsM st) := by
  have hC0 := hC
  obtain ⟨hx, hb, hr, hml, hown, hts, hlk, hin⟩ := hC
  have hdg0 := hT.1
  unfold od_step at hs
  cases hcd : od_cd k pc with
  | none => rw [hcd] at hs; cases hs
  | some q =>
  obtain ⟨i, n⟩ := q
  rw [hcd] at hs
  have hdg := hdg0 k pc i n hcd
  dsimp only at hs
  cases i
  case return_ =>
    simp only [od_ins] at hs; split at hs
    · rename_i hq; subst hq; unfold od_rv at hs; split at hs
      · rename_i hrf; unfold od_fin at hs; cases hs
        rw [Nat.sub_self, Nat.sub_self, Nat.add_zero, Nat.add_zero]
        exact od_Wm (W.vret (Qc := fun _ st o' t => od_oR (.inl none) o' ∧ od_Rp D K B st M t.heap) (free := fun q => B ≤ q) hx hb (hr.trans hrf) (fun t ht hW => ⟨rfl, by rw [ht]; exact hR⟩) hf hdg (hlocks := hlk)) (fun t h => od_MQ h)
      · cases hs
    · cases hs
  case ireturn =>
    simp only [od_ins] at hs; split at hs
    · rename_i hq; subst hq; unfold od_ri at hs; split at hs
      · rename_i x hrf; unfold od_fin at hs; cases hs
        rw [Nat.sub_self, Nat.sub_self, Nat.add_zero, Nat.add_zero]
        exact od_Wm (W.iret (Qc := fun _ st o' t => od_oR (.inl (some (.int x))) o' ∧ od_Rp D K B st M t.heap) (free := fun q => B ≤ q) hx hb (hr.trans hrf) (fun t ht hW => ⟨rfl, by rw [ht]; exact hR⟩) hf hdg (hlocks := hlk)) (fun t h => od_MQ h)
      · rename_i x hrf; split at hs
        · rename_i h01; unfold od_fin at hs; cases hs
          rw [Nat.sub_self, Nat.sub_self, Nat.add_zero, Nat.add_zero]
          exact od_Wm (W.zret (Qc := fun _ st o' t => od_oR (.inl (some (.int x))) o' ∧ od_Rp D K B st M t.heap) (free := fun q => B ≤ q) hx hb (hr.trans hrf) (by rcases h01 with rfl | rfl <;> decide +kernel) (fun t ht hW => ⟨rfl, by rw [ht]; exact hR⟩) hf hdg (hlocks := hlk)) (fun t h => od_MQ h)
        · cases hs
      · cases hs
    · cases hs
  case lreturn =>
    simp only [od_ins] at hs; split at hs
    · rename_i hq; subst hq; unfold od_rl at hs; split at hs
      · rename_i x hrf; unfold od_fin at hs; cases hs
        rw [Nat.sub_self, Nat.sub_self, Nat.add_zero, Nat.add_zero]
        exact od_Wm (W.lret (Qc := fun _ st o' t => od_oR (.inl (some (.long x))) o' ∧ od_Rp D K B st M t.heap) (free := fun q => B ≤ q) hx hb (hr.trans hrf) (fun t ht hW => ⟨rfl, by rw [ht]; exact hR⟩) hf hdg (hlocks := hlk)) (fun t h => od_MQ h)
      · cases hs
    · cases hs
  case areturn =>
    simp only [od_ins] at hs; split at hs
    · rename_i hq; subst hq; unfold od_rr at hs; split at hs
      · rename_i x cn hrf; unfold od_fin at hs; cases hs
        rw [Nat.sub_self, Nat.sub_self, Nat.add_zero, Nat.add_zero]
        exact od_Wm (W.aret (Qc := fun _ st o' t => od_oR (.inl (some (.ref x))) o' ∧ od_Rp D K B st M t.heap) (free := fun q => B ≤ q) hx hb (hr.trans hrf) (Or.inl ⟨_, rfl⟩) (Or.inr ⟨_, rfl⟩) (fun t ht hW => ⟨rfl, by rw [ht]; exact hR⟩) hf hdg (hlocks := hlk)) (fun t h => od_MQ h)
      · cases hs
    · cases hs
  case new ix =>
    simp only [od_ins] at hs; split at hs
    · rename_i hq; subst hq; unfold od_new at hs; split at hs
      · cases hs
      · split at hs
        · rename_i x hxn; split at hs
          rotate_left
          · cases hs
          unfold od_fin at hs; cases hs
          have e1 : (od_add M 6 (od_ob (od_xc x) [])).1 - M.1 = 1 := Nat.add_sub_cancel_left _ _
          have e2 : (od_add M 6 (od_ob (od_xc x) [])).2.1 - M.2.1 = 6 := Nat.add_sub_cancel_left _ _
          rw [e1] at hcl ⊢
          rw [e2] at hsl ⊢
          exact hThr hC0 htb hL.1 hK hY hR hf ⟨by have := hrm.1; omega, by have := hrm.2; omega⟩ hcd hxn hcl hsl
        · cases hs
    · cases hs
  all_goals (simp only [od_ins, od_ild, od_lld, od_ald, od_ist, od_lst, od_ast, od_iinc, od_i2, od_l2, od_if1, od_if2, od_sw, od_dup, od_dup2, od_pop, od_i2l, od_l2i, od_lcmp, od_iald, od_lald, od_aald, od_alen, od_iast, od_last, od_aast, od_get, od_put, od_newa, od_anew, od_cpy, od_inv, od_go, od_br] at hs; repeat' (split at hs))
  all_goals first | (cases hs; done) | skip
/-- a method run by the small machine meets the contract that says so -/
theorem od_met (hMT : od_MT WS) {d j : Nat} {as : List Value} {M M1 : od_M} {o : od_O} (hj : (∀ (args : Array Value) (U : State), (∀ w ∈ WS, w.before args U = true) → od_is U j) ∧ Cond.initialized (od_y j).cls ∈ WS ∧ plainFor (od_y j) = true ∧ (od_y j).cls = od_cn (od_ow j) ∧ (od_in j = true → (od_y j).name = "<init>") ∧ od_nl j ≤ 50) (hfl : (od_fl as).length ≤ od_nl j)
    (IH : ∀ {p : Program} {e : Env} {R : Room} {s : State} {m : MethodId} {args : Array Value} {below : List Frame} {meth : Method} {c : Code} {H : Heap} {locs : List Loc} {cells slots : Nat} {lsM : Array Slot}, od_Cx WS p s m args meth c j → od_tb c j → lv_has lsM (od_nl j) (od_prs (od_ent j as)) → (od_ent j as).length = od_nl j → od_Kx D K s → od_Ky B s → od_Rp D K B s M H → (∀ q ∈ locs, B ≤ q.base) → od_room R d → cells + (M1.1 - M.1) ≤ R.cells → slots + (M1.2.1 - M.2.1) ≤ R.slots →
      W p l e R s m args below meth c H locs cells slots (od_Z D K B s below o M1 (cells + (M1.1 - M.1)) (slots + (M1.2.1 - M.2.1))) (F0 m 0 lsM [])) :
    mx_M l (od_y j) WS (od_rm d (M1.1 - M.1) (M1.2.1 - M.2.1)) (fun a U => a = as.toArray ∧ od_Kx D K U ∧ od_Ky B U ∧ od_Rp D K B U M U.heap) (fun _ st o' t => od_oR o o' ∧ od_Rp D K B st M1 t.heap) (M1.1 - M.1) (M1.2.1 - M.2.1) (fun q => B ≤ q) := by
  obtain ⟨his, hini, hpl, hcn, hinn, hnl⟩ := hj
  refine MetFree.of_bodySF (code := od_by j) (maxLocals := od_nl j) (ret := od_rf j) hpl ?_ ?_
  · intro args s m h hn
    obtain ⟨mk, methY, cY, h1, h2, h3, h4, h5, h6, h7, -, -⟩ := his args s (atoms_spec (ws := WS) h)
    cases hn.symm.trans h1
    exact ⟨methY, cY, h2, h3, h4, h5, h6, h7⟩
  · intro p e s m args below meth c s₁ Bd hml hP _
    obtain ⟨rfl, hKx, hKy, hRp⟩ := hP
    have hts := atoms_spec (ws := WS) Bd.pre
    have X₀ := Stand.of_body Bd
    have hh0 : s₁.heap = s.heap := by rw [Bd.state]; rfl
    obtain ⟨mk, methY, cY, h1, h2, h3, h4, h5, h6, h7, h8, h9⟩ := his _ s hts
    cases Bd.named.symm.trans h1
    cases Bd.method.symm.trans h2
    cases X₀.code.symm.trans h3
    have hl := lv_entry as (n := od_nl j) (by rw [od_fl_len]; exact hfl)
    have hw := @IH p e (od_rm d (M1.1 - M.1) (M1.2.1 - M.2.1)) s m as.toArray below meth c s.heap [] 0 0 _ ⟨Bd.exec, Bd.bytes, Bd.returns, hml, by rw [← hcn]; exact findClass_of_methodNamed Bd.named, hts, Bd.notSynchronized, fun h => by rw [(name_of_methodNamed Bd.named Bd.method).1]; exact hinn h⟩ h8 (od_has_sub hl (fun q hq => od_ent_args hq)) (od_ent_len hfl) hKx hKy hRp (fun q h => by cases h) ⟨Nat.le_refl _, Nat.le_refl _⟩ (by rw [Nat.zero_add]; exact Nat.le_refl _) (by rw [Nat.zero_add]; exact Nat.le_refl _)
    obtain ⟨t, a1, o', b1, b2, b3, b4, b5, L, b6, b7⟩ := hw s₁ hh0 X₀
    rw [Nat.zero_add, Nat.zero_add] at b6
    refine ⟨t, o', ?_, b1, b2, ⟨b3, b4⟩, L, ⟨b5, b6⟩, b7⟩
    rw [lg_entry_eq]
    exact a1
theorem od_step_call {k pc : Nat} {ls : od_L} {st : List Value} {M : od_M} {j : Nat} {as rest : List Value} (hs : od_step k pc ls st M = some (.inr (.inl (j, as, rest)))) :
    ∃ ix kd n, (od_cd k pc = some (.invokevirtual ix, 3) ∧ kd = 0 ∨ od_cd k pc = some (.invokestatic ix, 3) ∧ kd = 1 ∨ od_cd k pc = some (.invokespecial ix, 3) ∧ kd = 2) ∧ od_md (od_ow k) ix = some (j, kd, n) ∧ kd ≠ 7 ∧ kd ≠ 8 ∧ as = (st.take n).reverse ∧ rest = st.drop n ∧ n ≤ st.length ∧ (rest.map fun v => v.category).sum ≤ 30 ∧ (kd = 1 ∨ od_rcv kd j as M = true) ∧ (od_fl as).length ≤ od_nl j := by
  have key : ∀ (kd ix : Nat), od_inv (od_ow k) kd pc ix ls st M = some (.inr (.inl (j, as, rest))) → ∃ n, od_md (od_ow k) ix = some (j, kd, n) ∧ kd ≠ 7 ∧ kd ≠ 8 ∧ as = (st.take n).reverse ∧ rest = st.drop n ∧ n ≤ st.length ∧ (rest.map fun v => v.category).sum ≤ 30 ∧ (kd = 1 ∨ od_rcv kd j as M = true) ∧ (od_fl as).length ≤ od_nl j := by
    intro kd ix h
    unfold od_inv at h
    split at h
    · rename_i j' kd' n hmd
      split at h
      · split at h
        · unfold od_cpy at h; simp only [od_go] at h; (repeat' split at h) <;> cases h
        · cases h
      · rename_i h7
        split at h
        · simp only [od_go] at h; (repeat' split at h) <;> cases h
        · rename_i h8
          split at h
          · rename_i hh
            cases h
            obtain ⟨rfl, h2, h3, h4, h5⟩ := hh
            exact ⟨n, hmd, h7, h8, rfl, rfl, h2, h3, h4, h5⟩
          · cases h
    · cases h
  unfold od_step at hs
  cases hcd : od_cd k pc with
  | none => rw [hcd] at hs; cases hs
  | some q =>
  obtain ⟨i, n⟩ := q
  rw [hcd] at hs
  dsimp only at hs
  cases i
  case invokevirtual ix =>
    simp only [od_ins] at hs; split at hs
    · rename_i hq; subst hq
      obtain ⟨n, h⟩ := key 0 ix hs
      exact ⟨ix, 0, n, Or.inl ⟨rfl, rfl⟩, h⟩
    · cases hs
  case invokestatic ix =>
    simp only [od_ins] at hs; split at hs
    · rename_i hq; subst hq
      obtain ⟨n, h⟩ := key 1 ix hs
      exact ⟨ix, 1, n, Or.inr (Or.inl ⟨rfl, rfl⟩), h⟩
    · cases hs
  case invokespecial ix =>
    simp only [od_ins] at hs; split at hs
    · rename_i hq; subst hq
      obtain ⟨n, h⟩ := key 2 ix hs
      exact ⟨ix, 2, n, Or.inr (Or.inr ⟨rfl, rfl⟩), h⟩
    · cases hs
  all_goals (simp only [od_ins, od_ild, od_lld, od_ald, od_ist, od_lst, od_ast, od_iinc, od_i2, od_l2, od_if1, od_if2, od_sw, od_dup, od_dup2, od_pop, od_i2l, od_l2i, od_lcmp, od_iald, od_lald, od_aald, od_alen, od_iast, od_last, od_aast, od_get, od_put, od_new, od_newa, od_anew, od_rv, od_ri, od_rl, od_rr, od_go, od_br, od_fin] at hs; repeat' (split at hs))
  all_goals first | (cases hs; done) | skip
end ODM
