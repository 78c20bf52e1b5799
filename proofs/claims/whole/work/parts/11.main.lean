/-! Calls, and the soundness of the small machine. -/
section ODM
variable {p : Program} {l : Launch} {e : Env} {R : Room} {s : State} {m : MethodId} {args : Array Value} {below : List Frame} {meth : Method} {c : Code} {H : Heap} {locs : List Loc} {cells slots : Nat} {D : va_G} {K : Nat × Nat × Nat} {B : Nat} {WS : List Cond}
theorem od_to_I (hT : od_T WS) (hMT : od_MT WS) {k pc ix kd n j : Nat} {st as rest : List Value} {M : od_M} {lsM : Array Slot} {T : State} (hC : od_Cx WS p s m args meth c k) (hK : od_Kx D K s) (hR : od_Rp D K B s M T.heap) (X : Stand p l e R s m args below meth c T locs cells slots)
    (hcd : od_cd k pc = some (.invokevirtual ix, 3) ∧ kd = 0 ∨ od_cd k pc = some (.invokestatic ix, 3) ∧ kd = 1 ∨ od_cd k pc = some (.invokespecial ix, 3) ∧ kd = 2) (hmd : od_md (od_ow k) ix = some (j, kd, n)) (h7 : kd ≠ 7) (h8 : kd ≠ 8) (has : as = (st.take n).reverse) (hre : rest = st.drop n) (hnl : n ≤ st.length) (hrc : kd = 1 ∨ od_rcv kd j as M = true) :
    mx_I p l e R s m args below meth c T locs cells slots (od_y j) (F0 m pc lsM st) as.toArray rest := by
  obtain ⟨hx, hb, hr, hml, hown, hts, hlk, hin⟩ := hC
  obtain ⟨⟨hkd, hy, l0, l1, l2⟩, his, hini, hpl, hcn, hinn, -⟩ := hMT.1 _ _ _ _ _ hmd h7 h8
  obtain ⟨mk0, methY, cY, i1, i2, i3, i4, i5, i6, i7, i8, i9⟩ := his args s hts
  have hst : st = as.reverse ++ rest := by rw [has, hre, List.reverse_reverse, List.take_append_drop]
  have hlen : as.length = n := by rw [has, List.length_reverse, List.length_take]; omega
  rcases hcd with ⟨hcd, rfl⟩ | ⟨hcd, rfl⟩ | ⟨hcd, rfl⟩
  · obtain ⟨k1, k2, ⟨C, CT, CN, hcls, k3⟩, k4⟩ := l0 rfl
    have hrc2 := hrc.resolve_left (by decide)
    clear hrc
    unfold od_rcv at hrc2
    split at hrc2
    · rename_i b argsL
      split at hrc2
      · rename_i cn fs hMb
        have hcn2 : cn = od_oc j := by simpa using hrc2
        subst hcn2
        obtain ⟨cell, g1, g2, g3⟩ := va_recv (ws := [(b, .inr (od_oc j, fs))]) (q0 := 0) hK (od_one (q := (b, .inr (od_oc j, fs))) (hR.at hMb)) hcls rfl
        refine mx_iV X hx hown (hts _ k1) (hts _ k2) (hts _ k3) (fun mk methM h1 h2 => ?_) hy g1 g2 g3 rfl (fun sig hsig => ?_) (by show st = _; rw [hst]; simp) (by rw [hb]; exact hT.1 _ _ _ _ hcd)
        · cases h1.symm.trans i1
          cases h2.symm.trans i2
          exact i9
        · rw [hsig] at k4
          have k5 : sig.parameters.length + 1 = n := Option.some.inj k4
          rw [List.length_cons] at hlen
          omega
      · cases hrc2
    · cases hrc2
  · obtain ⟨k1, k2, k4⟩ := l1 rfl
    refine mx_iS X hx hown (hts _ k1) (hts _ k2) (hts _ hini) i1 i2 i9 hy rfl (fun sig hsig => ?_) hst (by rw [hb]; exact hT.1 _ _ _ _ hcd)
    rw [hsig] at k4
    have k5 : sig.parameters.length = n := Option.some.inj k4
    omega
  · obtain ⟨k1, k2, k3, k5, k4⟩ := l2 rfl
    have hrc2 := hrc.resolve_left (by decide)
    clear hrc
    unfold od_rcv at hrc2
    split at hrc2
    · rename_i b argsL
      have hl2 : ∀ sig, parseMethodDescriptor (od_y j).desc = some sig → argsL.length = sig.parameters.length := fun sig hsig => by
        rw [hsig] at k4
        have k6 : sig.parameters.length + 1 = n := Option.some.inj k4
        rw [List.length_cons] at hlen
        omega
      rcases k1 with k1 | ⟨host, k1⟩
      · exact mx_iI X hx hown k3 (hts _ k1) (hts _ k2) (hts _ k5) hy rfl hl2 (by show st = _; rw [hst]; simp) (by rw [hb]; exact hT.1 _ _ _ _ hcd)
      · exact mx_iIN X hx hown k3 (hts _ k1) (hts _ k2) (hts _ k5) hy rfl hl2 (by show st = _; rw [hst]; simp) (by rw [hb]; exact hT.1 _ _ _ _ hcd)
    · cases hrc2
end ODM
/-- below B nothing has changed since the method's entry -/
theorem od_low {p : Program} {l : Launch} {e : Env} {R : Room} {s : State} {m : MethodId} {args : Array Value} {below : List Frame} {meth : Method} {c : Code} {T : State} {locs : List Loc} {cells slots B : Nat} (X : Stand p l e R s m args below meth c T locs cells slots) (hf : ∀ q ∈ locs, B ≤ q.base) {q : Nat} (hq : q < B) {cell : Cell} (hc : s.heap[q]? = some cell) : T.heap[q]? = some cell := by
  obtain ⟨c', h1, h2, h3, h4⟩ := X.same.2.2.2.2.2 q cell hc
  have hsl : c'.slots = cell.slots := Array.ext_getElem? fun i => h4 i (fun hm => by have := hf _ hm; exact absurd this (by show ¬ B ≤ q; omega))
  have h5 : c' = cell := by rw [h2, hsl]
  rw [← h5]
  exact h1
theorem od_St.call {p : Program} {l : Launch} {e : Env} {R : Room} {s : State} {m : MethodId} {args : Array Value} {below : List Frame} {meth : Method} {c : Code} {T : State} {locs : List Loc} {cells slots B : Nat} {n d : String} (X : Stand p l e R s m args below meth c T locs cells slots) (hf : ∀ q ∈ locs, B ≤ q.base) {vm₁ : Vm} (hW : s.WarmedH vm₁) {U : State} (hU : U.vm = vm₁) (hH : U.heap = T.heap) (h : od_St B n d s) : od_St B n d U := by
  obtain ⟨h1, h2, h3⟩ := h
  have k1 : (Cond.laysStatic "java/lang/Throwable" n d).before #[] (s.setVm vm₁) = true := Cond.before_shiftedFace (State.Shifted.of_warmed hW) _ rfl h1
  have k2 : (Cond.isRef (.static "java/lang/Throwable" n d)).before #[] (s.setVm vm₁) = true := Cond.before_shiftedFace (State.Shifted.of_warmed hW) _ rfl h2
  have k3 : ∀ (x : ClassId × Class × Nat × Field) (a : Nat), (s.setVm vm₁).fieldFound? "java/lang/Throwable" n d = some x → x.2.1.statics = some a → a < B ∧ ∃ cell, s.heap[a]? = some cell := by
    intro x a hx ha
    obtain ⟨c0, k0, i0, f0, a0, cell0, -, hi0, -, ha0, hcell0, -⟩ := Cond.laysStatic_spec h1
    obtain ⟨k', hi', he⟩ := State.fieldFound?_setVm hW.alike hi0
    have hxx : x = (c0, k', i0, f0) := Option.some.inj (hx.symm.trans hi')
    subst hxx
    have ha' : k0.statics = some a := by rw [← ha]; dsimp only; rw [he]
    exact ⟨h3 _ a hi0 ha', cell0, by cases ha0.symm.trans ha'; exact hcell0⟩
  have k4 : ∀ (x : ClassId × Class × Nat × Field) (a : Nat), (s.setVm vm₁).fieldFound? "java/lang/Throwable" n d = some x → x.2.1.statics = some a → U.heap[a]? = (s.setVm vm₁).heap[a]? := by
    intro x a hx ha
    obtain ⟨hlt, cell, hcell⟩ := k3 x a hx ha
    rw [hH, od_low X hf hlt hcell]
    exact hcell.symm
  refine ⟨od_ride_ls k1 hU k4, od_ride_ir k2 hU k4, fun x a hx ha => ?_⟩
  rw [od_ff_vm (A := s.setVm vm₁) (A' := U) hU] at hx
  exact (k3 x a hx ha).1
theorem od_Ky.call {p : Program} {l : Launch} {e : Env} {R : Room} {s : State} {m : MethodId} {args : Array Value} {below : List Frame} {meth : Method} {c : Code} {T : State} {locs : List Loc} {cells slots B : Nat} {D : va_G} {K : Nat × Nat × Nat} {M : od_M} (X : Stand p l e R s m args below meth c T locs cells slots) (hf : ∀ q ∈ locs, B ≤ q.base) {vm₁ : Vm} (hW : s.WarmedH vm₁) (hR : od_Rp D K B s M T.heap) (h : od_Ky B s) {g : JFrame} {mk : MethodId} {a : Array Value} : od_Ky B ((T.setVm vm₁).calling g mk a) :=
  ⟨od_St.call X hf hW rfl rfl h.1, od_St.call X hf hW rfl rfl h.2.1, fun q hq => va_Nc.moved (u := s) hW.alike (h.2.2.1 q hq), fun q hq => by
    obtain ⟨z, hz⟩ := h.2.2.2.1 q hq
    exact ⟨z, vk_R.warm (s := s) hW hz⟩, fun q cell hq hc => hR.2.2.2 q cell hq hc⟩
set_option maxHeartbeats 4000000 in
theorem od_sound {l : Launch} {WS : List Cond} {D : va_G} {K : Nat × Nat × Nat} {B : Nat} (hT : od_T WS) (hMT : od_MT WS) (hThr : od_Thr l WS D K B) (hCat : od_Cat l WS D K B) : ∀ (n d k pc : Nat) (ls : od_L) (st : List Value) (M : od_M) (o : od_O) (M' : od_M), od_ev n d k pc ls st M = some (o, M') →
    ∀ {p : Program} {e : Env} {R : Room} {s : State} {m : MethodId} {args : Array Value} {below : List Frame} {meth : Method} {c : Code} {H : Heap} {locs : List Loc} {cells slots : Nat} {lsM : Array Slot}, od_Cx WS p s m args meth c k → od_tb c k → lv_has lsM (od_nl k) (od_prs ls) → ls.length = od_nl k → od_Kx D K s → od_Ky B s → od_Rp D K B s M H → (∀ q ∈ locs, B ≤ q.base) → od_room R d → cells + (M'.1 - M.1) ≤ R.cells → slots + (M'.2.1 - M.2.1) ≤ R.slots →
      W p l e R s m args below meth c H locs cells slots (od_Z D K B s below o M' (cells + (M'.1 - M.1)) (slots + (M'.2.1 - M.2.1))) (F0 m pc lsM st) := by
  intro n
  induction n with
  | zero => intro d k pc ls st M o M' h; rw [od_ev] at h; cases h
  | succ n ih =>
    intro d k pc ls st M o M' h p e R s m args below meth c H locs cells slots lsM hC htb hL hn hK hY hR hf hrm hcl hsl
    have gAll := od_grow _ _ _ _ _ _ _ _ _ h
    rw [od_ev_s] at h
    rcases hs : od_step k pc ls st M with _ | ⟨pc', ls', st', M2⟩ | ⟨j, as, rest⟩ | ⟨o2, M2⟩
    · rw [hs] at h; cases h
    · rw [hs] at h
      dsimp only at h
      have g1 := od_grow1 hs
      dsimp only at g1
      have g2 := od_grow _ _ _ _ _ _ _ _ _ h
      refine od_step_go hT hC hL hn hK hR hf hs (by omega) (by omega) (by have := hrm.1; omega) (by have := hrm.2; omega) (fun H' locs' lsM' h1 h2 h3 h4 => ?_)
      have hw := ih _ _ _ _ _ _ _ _ h hC htb h1 h2 hK hY h3 h4 hrm (cells := cells + (M2.1 - M.1)) (slots := slots + (M2.2.1 - M.2.1)) (e := e) (below := below) (by omega) (by omega)
      rw [show cells + (M2.1 - M.1) + (M'.1 - M2.1) = cells + (M'.1 - M.1) by omega, show slots + (M2.2.1 - M.2.1) + (M'.2.1 - M2.2.1) = slots + (M'.2.1 - M.2.1) by omega] at hw
      exact hw
    · rw [hs] at h
      cases d with
      | zero => cases h
      | succ d' =>
      dsimp only at h
      obtain ⟨ix, kd, na, hcd, hmd, h7, h8, has, hre, hnle, hsum, hrc, hfl⟩ := od_step_call hs
      have hj := (hMT.1 _ _ _ _ _ hmd h7 h8).2
      have hts := hC.2.2.2.2.2.1
      rcases hc : od_ev n d' j 0 (od_ent j as) [] M with _ | ⟨o1, M1⟩
      · rw [hc] at h; cases h
      rw [hc] at h
      have g1 := od_grow _ _ _ _ _ _ _ _ _ hc
      have g2 : M1.1 ≤ M'.1 ∧ M1.2.1 ≤ M'.2.1 := by
        cases o1 with
        | inl v => exact od_grow _ _ _ _ _ _ _ _ _ h
        | inr xa =>
          dsimp only at h
          rcases hh : od_hn k pc xa.1 with _ | _ | hp
          · rw [hh] at h; cases h
          · rw [hh] at h; cases h; exact ⟨Nat.le_refl _, Nat.le_refl _⟩
          · rw [hh] at h; exact od_grow _ _ _ _ _ _ _ _ _ h
      have hmet := od_met (l := l) (D := D) (K := K) (B := B) hMT hj hfl (fun {p e R s m args below meth c H locs cells slots lsM} => ih d' j 0 (od_ent j as) [] M o1 M1 hc (p := p) (e := e) (R := R) (s := s) (m := m) (args := args) (below := below) (meth := meth) (c := c) (H := H) (locs := locs) (cells := cells) (slots := slots) (lsM := lsM))
      intro T hTh X
      have hR' : od_Rp D K B s M T.heap := by rw [hTh]; exact hR
      obtain ⟨vm₁, mk, hW₁, X₁, hnm, hstep⟩ := od_to_I (lsM := lsM) hT hMT hC hK hR' X hcd hmd h7 h8 has hre hnle hrc
      have hws : ∀ w ∈ WS, w.before as.toArray (T.setVm vm₁) = true := fun w hw => hMT.2 w hw args _ s (T.setVm vm₁) hW₁ (hts w hw)
      obtain ⟨mk2, methY, cY, i1, i2, i3, i4, i5, i6, i7, i8, i9⟩ := hj.1 _ _ hws
      cases hnm.symm.trans i1
      have hdec : ∃ ig : Instr, decode c.code pc = .ok (ig, 3) := by
        rw [hC.2.1]
        rcases hcd with ⟨q, -⟩ | ⟨q, -⟩ | ⟨q, -⟩ <;> exact ⟨_, hT.1 _ _ _ _ q⟩
      obtain ⟨ig, hdec⟩ := hdec
      obtain ⟨o', t, T', L, X', hLq, e1, e2, ⟨hoR, hRp⟩, hWt, hsteps⟩ := mx_run (Wn := 30) (maxL := od_nl j) (g := F0 m pc lsM rest) (a := as.toArray) (mk := mk) X₁ hmet rfl rfl (by show 8 + d' + 1 ≤ _; have := hrm.1; omega) (by show 30 + (od_nl j + 11) + (200 + 100 * d') ≤ _; have := hrm.2; have := hj.2.2.2.2.2; omega) rfl (hL.1.trans hC.2.2.2.1.symm) hdec (by show 2 * 0 + (rest.map fun v => v.category).sum ≤ 30; omega) i1 hws ⟨methY, cY, i2, i3, i5⟩ (hws _ hj.2.1) (by omega) (by omega) ⟨rfl, va_K.moved (u := s) hW₁.alike hK, od_Ky.call X hf hW₁ hR' hY, hR'.moved (U := (T.setVm vm₁).calling (F0 m pc lsM rest) mk as.toArray) hW₁.alike⟩
      have hRp' : od_Rp D K B s M1 T'.heap := by rw [e1]; exact hRp.moved hW₁.alike.symm
      have hf' : ∀ q ∈ locs ++ L, B ≤ q.base := fun q hq => by
        rcases List.mem_append.mp hq with h | h
        · exact hf q h
        · exact hLq q h
      cases o1 with
      | inl v =>
        dsimp only at h
        have ho : o' = .returned v := hoR
        subst ho
        have hw := ih _ _ _ _ _ _ _ _ h hC htb hL hn hK hY hRp' hf' hrm (cells := cells + (M1.1 - M.1)) (slots := slots + (M1.2.1 - M.2.1)) (e := e) (below := below) (by omega) (by omega)
        obtain ⟨t2, s2, q2⟩ := hw T' rfl X'
        refine ⟨t2, hstep _ (hsteps.trans s2), ?_⟩
        rw [show cells + (M1.1 - M.1) + (M'.1 - M1.1) = cells + (M'.1 - M.1) by omega, show slots + (M1.2.1 - M.2.1) + (M'.2.1 - M1.2.1) = slots + (M'.2.1 - M.2.1) by omega] at q2
        exact q2
      | inr xa =>
        dsimp only at h
        have ho : o' = .threw xa.2 := hoR
        subst ho
        rcases hh : od_hn k pc xa.1 with _ | _ | hp
        · rw [hh] at h; cases h
        · rw [hh] at h
          cases h
          have hout : ∀ x ∈ c.exceptionTable.toList, covers x pc = false := by
            intro y hy
            have h1 : (y.startPc, y.endPc, y.handlerPc, y.catchType) ∈ od_ht k := by rw [← htb]; exact List.mem_map.mpr ⟨y, hy, rfl⟩
            exact od_hn_out hh _ h1
          obtain ⟨s2, b1, b2, b3, b4⟩ := X'.leaveThrown xa.2 (g := F0 m pc lsM rest) rfl rfl rfl hout (hlocks := hC.2.2.2.2.2.2.1)
          exact ⟨_, hstep _ (hsteps.trans s2), .threw xa.2, b1, b2, rfl, hRp', b3, _, b4, hf'⟩
        · rw [hh] at h
          have hcell := od_cell _ _ _ _ _ _ _ _ _ hc
          obtain ⟨vm2, X2, s2⟩ := hCat (lsM := lsM) (st := rest) hC htb hK hY (hRp'.at hcell) hh X'
          have hw := ih _ _ _ _ _ _ _ _ h hC htb hL hn hK hY hRp' hf' hrm (cells := cells + (M1.1 - M.1)) (slots := slots + (M1.2.1 - M.2.1)) (e := e) (below := below) (by omega) (by omega)
          obtain ⟨t2, s3, q2⟩ := hw (T'.setVm vm2) rfl X2
          refine ⟨t2, hstep _ (hsteps.trans (s2 _ s3)), ?_⟩
          rw [show cells + (M1.1 - M.1) + (M'.1 - M1.1) = cells + (M'.1 - M.1) by omega, show slots + (M1.2.1 - M.2.1) + (M'.2.1 - M1.2.1) = slots + (M'.2.1 - M.2.1) by omega] at q2
          exact q2
    · rw [hs] at h
      cases h
      exact od_step_fin hT hThr hC htb hL hK hY hR hf hrm hs hcl hsl
