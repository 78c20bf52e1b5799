/-! Leading runs on by rewriting. -/
/-- what a step leads to -/
def od_X (d k pc : Nat) (ls : od_L) (M : od_M) (Q : od_O → od_M → Prop) (r : od_R) : Prop := match r with
  | none => False
  | some (.inl q) => od_W d k q.1 q.2.1 q.2.2.1 q.2.2.2 Q
  | some (.inr (.inr q)) => Q q.1 q.2
  | some (.inr (.inl q)) => ∃ (d' : Nat) (Q1 : od_O → od_M → Prop), d = d' + 1 ∧ od_W d' q.1 0 (od_ent q.1 q.2.1) [] M Q1 ∧ ∀ o M1, Q1 o M1 → od_K d k pc ls q.2.2 Q o M1
theorem od_wX {d k pc n : Nat} {i : ClassFile.Instr} {ls : od_L} {st : List Value} {M : od_M} {Q : od_O → od_M → Prop} (h : od_cd k pc = some (i, n)) (hx : od_X d k pc ls M Q (od_ins k pc n i ls st M)) : od_W d k pc ls st M Q := by
  have hs : od_step k pc ls st M = od_ins k pc n i ls st M := by unfold od_step; rw [h]
  rcases hr : od_ins k pc n i ls st M with _ | ⟨a, b, c, e⟩ | ⟨j, as, rest⟩ | ⟨o, M'⟩
  · rw [hr] at hx; exact hx.elim
  · rw [hr] at hx
    exact od_W.go (hs.trans hr) hx
  · rw [hr] at hx
    obtain ⟨d', Q1, rfl, h1, h2⟩ := hx
    exact od_W.call (hs.trans hr) h1 (Nat.le_refl _) h2
  · rw [hr] at hx
    exact od_W.fin (hs.trans hr) hx
theorem od_wE {d k pc n : Nat} {i : ClassFile.Instr} {ls : od_L} {st : List Value} {M : od_M} {Q : od_O → od_M → Prop} (h : od_cd k pc = some (i, n)) : od_W d k pc ls st M Q = od_X d k pc ls M Q (od_ins k pc n i ls st M) := by
  refine propext ⟨fun hw => ?_, od_wX h⟩
  have hs : od_step k pc ls st M = od_ins k pc n i ls st M := by unfold od_step; rw [h]
  obtain ⟨m, o, M', h1, h2⟩ := hw
  cases m with
  | zero => rw [od_ev] at h1; cases h1
  | succ m =>
    rw [od_ev_s, hs] at h1
    rcases hr : od_ins k pc n i ls st M with _ | ⟨a, b, c, e⟩ | ⟨j, as, rest⟩ | ⟨o2, M2⟩
    · rw [hr] at h1; cases h1
    · rw [hr] at h1
      exact ⟨m, o, M', h1, h2⟩
    · rw [hr] at h1
      cases d with
      | zero => cases h1
      | succ d' =>
        dsimp only at h1
        rcases hc : od_ev m d' j 0 (od_ent j as) [] M with _ | ⟨o1, M1⟩
        · rw [hc] at h1; cases h1
        · rw [hc] at h1
          refine ⟨d', fun o2 M2 => o2 = o1 ∧ M2 = M1, rfl, ⟨m, o1, M1, hc, rfl, rfl⟩, fun o2 M2 hq => ?_⟩
          obtain ⟨rfl, rfl⟩ := hq
          cases o2 with
          | inl v => exact ⟨m, o, M', h1, h2⟩
          | inr xa =>
            unfold od_K
            dsimp only at h1 ⊢
            rcases hh : od_hn k pc xa.1 with _ | _ | hp
            · rw [hh] at h1; cases h1
            · rw [hh] at h1; cases h1; exact h2
            · rw [hh] at h1; exact ⟨m, o, M', h1, h2⟩
    · rw [hr] at h1
      cases h1
      exact h2
section RUL
variable {d k pc : Nat} {ls : od_L} {st : List Value} {M : od_M} {Q : od_O → od_M → Prop}
theorem od_rG {ix a c f t : Nat} {fs : List Value} {v : Value} (h : od_cd k pc = some (.getfield ix, 3)) (hM : M.2.2 a = some (od_ob c fs)) (hf : od_fd (od_ow k) ix = some (c, f, t)) (hv : fs[f]? = some v) (kk : od_W d k (pc + 3) ls (v :: st) M Q) : od_W d k pc ls (.ref a :: st) M Q := by
  refine od_wX h ?_
  simp only [od_ins, od_get, hM, hf, hv, od_go, od_X, ↓reduceIte]
  exact kk
theorem od_rP {ix a c f t : Nat} {fs : List Value} {v : Value} (h : od_cd k pc = some (.putfield ix, 3)) (hM : M.2.2 a = some (od_ob c fs)) (hf : od_fd (od_ow k) ix = some (c, f, t)) (hl : f < fs.length) (ht : od_tk t v = true) (h3 : t ≠ 3) (kk : od_W d k (pc + 3) ls st (od_set M a (od_ob c (fs.set f v))) Q) : od_W d k pc ls (v :: .ref a :: st) M Q := by
  refine od_wX h ?_
  simp only [od_ins, od_put, hM, hf, od_go, od_X, ↓reduceIte]
  rw [if_pos ⟨trivial, hl, ht, fun z => absurd z h3⟩]
  exact kk
theorem od_rPF {ix a c f : Nat} {fs : List Value} {v : Value} (h : od_cd k pc = some (.putfield ix, 3)) (hM : M.2.2 a = some (od_ob c fs)) (hf : od_fd (od_ow k) ix = some (c, f, 3)) (hl : f < fs.length) (ht : od_tk 3 v = true) (hi : od_in k = true) (kk : od_W d k (pc + 3) ls st (od_set M a (od_ob c (fs.set f v))) Q) : od_W d k pc ls (v :: .ref a :: st) M Q := by
  refine od_wX h ?_
  simp only [od_ins, od_put, hM, hf, od_go, od_X, ↓reduceIte]
  rw [if_pos ⟨trivial, hl, ht, fun _ => hi⟩]
  exact kk
theorem od_ixN {j n : Nat} (h : j < n) (hn : n < 2 ^ 31) : od_ix (nI j) n = true := by
  unfold od_ix
  rw [nI_clamp (by omega), decide_eq_true h, decide_eq_true (nI_pos' (by omega))]
  rfl
/-- an int off an array, at the place j -/
theorem od_rIL {a n j : Nat} {f : Nat → Int32} {i : Int32} (h : od_cd k pc = some (.iaload, 1)) (hM : M.2.2 a = some (od_ia n f)) (hi : i = nI j) (hj : j < n) (hn : n < 2 ^ 31) (kk : od_W d k (pc + 1) ls (.int (f j) :: st) M Q) : od_W d k pc ls (.int i :: .ref a :: st) M Q := by
  refine od_wX h ?_
  subst hi
  simp only [od_ins, od_iald, hM, od_go, od_X, ↓reduceIte, od_ixN hj hn, nI_clamp (show j < 2 ^ 31 by omega)]
  exact kk
theorem od_rIS {a n j : Nat} {f : Nat → Int32} {i x : Int32} (h : od_cd k pc = some (.iastore, 1)) (hM : M.2.2 a = some (od_ia n f)) (hi : i = nI j) (hj : j < n) (hn : n < 2 ^ 31) (kk : od_W d k (pc + 1) ls st (od_set M a (od_ia n (upd f j x))) Q) : od_W d k pc ls (.int x :: .int i :: .ref a :: st) M Q := by
  refine od_wX h ?_
  subst hi
  simp only [od_ins, od_iast, hM, od_go, od_X, ↓reduceIte, od_ixN hj hn, nI_clamp (show j < 2 ^ 31 by omega)]
  exact kk
theorem od_rLL {a n j : Nat} {f : Nat → Int64} {i : Int32} (h : od_cd k pc = some (.laload, 1)) (hM : M.2.2 a = some (od_la n f)) (hi : i = nI j) (hj : j < n) (hn : n < 2 ^ 31) (kk : od_W d k (pc + 1) ls (.long (f j) :: st) M Q) : od_W d k pc ls (.int i :: .ref a :: st) M Q := by
  refine od_wX h ?_
  subst hi
  simp only [od_ins, od_lald, hM, od_go, od_X, ↓reduceIte, od_ixN hj hn, nI_clamp (show j < 2 ^ 31 by omega)]
  exact kk
theorem od_rLS {a n j : Nat} {f : Nat → Int64} {i : Int32} {x : Int64} (h : od_cd k pc = some (.lastore, 1)) (hM : M.2.2 a = some (od_la n f)) (hi : i = nI j) (hj : j < n) (hn : n < 2 ^ 31) (kk : od_W d k (pc + 1) ls st (od_set M a (od_la n (vp_updL f j x))) Q) : od_W d k pc ls (.long x :: .int i :: .ref a :: st) M Q := by
  refine od_wX h ?_
  subst hi
  simp only [od_ins, od_last, hM, od_go, od_X, ↓reduceIte, od_ixN hj hn, nI_clamp (show j < 2 ^ 31 by omega)]
  exact kk
theorem od_rAL {a n j : Nat} {f : Nat → Option Nat} {i : Int32} (h : od_cd k pc = some (.aaload, 1)) (hM : M.2.2 a = some (od_ra n f)) (hi : i = nI j) (hj : j < n) (hn : n < 2 ^ 31) (kk : od_W d k (pc + 1) ls (va_rf (f j) :: st) M Q) : od_W d k pc ls (.int i :: .ref a :: st) M Q := by
  refine od_wX h ?_
  subst hi
  simp only [od_ins, od_aald, hM, od_go, od_X, ↓reduceIte, od_ixN hj hn, nI_clamp (show j < 2 ^ 31 by omega)]
  exact kk
/-- branches, by what is known -/
theorem od_r1T {x : Int32} {c : ClassFile.Cond} {off : Int} {tgt : Nat} (h : od_cd k pc = some (.ifCond c off, 3)) (ht : (pc : Int) + off = (tgt : Int)) (hc : od_cond c x 0 = true) (kk : od_W d k tgt ls st M Q) : od_W d k pc ls (.int x :: st) M Q := by
  refine od_wX h ?_
  have h0 : 0 ≤ (pc : Int) + off := by omega
  have h1 : ((pc : Int) + off).toNat = tgt := by omega
  simp only [od_ins, od_if1, od_go, od_X, ↓reduceIte, h0, hc, h1]
  exact kk
theorem od_r1F {x : Int32} {c : ClassFile.Cond} {off : Int} (h : od_cd k pc = some (.ifCond c off, 3)) (h0 : 0 ≤ (pc : Int) + off) (hc : od_cond c x 0 = false) (kk : od_W d k (pc + 3) ls st M Q) : od_W d k pc ls (.int x :: st) M Q := by
  refine od_wX h ?_
  simp only [od_ins, od_if1, od_go, od_X, ↓reduceIte, h0, hc, Bool.false_eq_true]
  exact kk
theorem od_r2T {x y : Int32} {c : ClassFile.Cond} {off : Int} {tgt : Nat} (h : od_cd k pc = some (.if_icmp c off, 3)) (ht : (pc : Int) + off = (tgt : Int)) (hc : od_cond c x y = true) (kk : od_W d k tgt ls st M Q) : od_W d k pc ls (.int y :: .int x :: st) M Q := by
  refine od_wX h ?_
  have h0 : 0 ≤ (pc : Int) + off := by omega
  have h1 : ((pc : Int) + off).toNat = tgt := by omega
  simp only [od_ins, od_if2, od_go, od_X, ↓reduceIte, h0, hc, h1]
  exact kk
theorem od_r2F {x y : Int32} {c : ClassFile.Cond} {off : Int} (h : od_cd k pc = some (.if_icmp c off, 3)) (h0 : 0 ≤ (pc : Int) + off) (hc : od_cond c x y = false) (kk : od_W d k (pc + 3) ls st M Q) : od_W d k pc ls (.int y :: .int x :: st) M Q := by
  refine od_wX h ?_
  simp only [od_ins, od_if2, od_go, od_X, ↓reduceIte, h0, hc, Bool.false_eq_true]
  exact kk
/-- an exception leaves -/
theorem od_rX {ix x : Nat} (h : od_cd k pc = some (.new ix, 3)) (hn : od_nw (od_ow k) ix = none) (hx : od_xn k pc = some x) (hq : Q (.inr (x, M.1)) (od_add M 6 (od_ob (od_xc x) []))) : od_W d k pc ls [] M Q := by
  refine od_wX h ?_
  simp only [od_ins, od_new, hn, hx, od_fin, od_X, ↓reduceIte]
  exact hq
/-- a call: the callee's run, then what follows -/
theorem od_rC {i : ClassFile.Instr} {j : Nat} {as rest : List Value} {d' : Nat} {Q1 : od_O → od_M → Prop} (h : od_cd k pc = some (i, 3)) (hi : od_ins k pc 3 i ls st M = some (.inr (.inl (j, as, rest)))) (hc : od_W d' j 0 (od_ent j as) [] M Q1) (hd : d' ≤ d) (kk : ∀ o M1, Q1 o M1 → od_K (d + 1) k pc ls rest Q o M1) : od_W (d + 1) k pc ls st M Q := by
  refine od_W.call (j := j) (as := as) (rest := rest) ?_ hc hd kk
  unfold od_step
  rw [h]
  exact hi
/-- a call on an object of the callee's class -/
theorem od_rV {ix j n b c : Nat} {as rest : List Value} {fs : List Value} {d' : Nat} {Q1 : od_O → od_M → Prop} (h : od_cd k pc = some (.invokevirtual ix, 3)) (hm : od_md (od_ow k) ix = some (j, 0, n)) (hn : as.length + 1 = n) (hs : st = as.reverse ++ .ref b :: rest) (hM : M.2.2 b = some (od_ob c fs)) (hc' : c = od_oc j) (hw : (rest.map fun v => v.category).sum ≤ 30) (hl : (od_fl (.ref b :: as)).length ≤ od_nl j)
    (hc : od_W d' j 0 (od_ent j (.ref b :: as)) [] M Q1) (hd : d' ≤ d) (kk : ∀ o M1, Q1 o M1 → od_K (d + 1) k pc ls rest Q o M1) : od_W (d + 1) k pc ls st M Q := by
  refine od_rC h ?_ hc hd kk
  have ht : (st.take n).reverse = .ref b :: as := by
    rw [hs, ← hn, show as.reverse ++ Value.ref b :: rest = (as.reverse ++ [Value.ref b]) ++ rest by simp, List.take_left' (by simp)]
    simp
  have hd2 : st.drop n = rest := by
    rw [hs, ← hn, show as.reverse ++ Value.ref b :: rest = (as.reverse ++ [Value.ref b]) ++ rest by simp, List.drop_left' (by simp)]
  have hlen : n ≤ st.length := by rw [hs, ← hn]; simp
  have hr : od_rcv 0 j (.ref b :: as) M = true := by
    unfold od_rcv
    simp only [hM, hc', decide_true, Bool.or_true]
  simp only [od_ins, od_inv, hm, ht, hd2, ↓reduceIte, hlen, hw, hr, hl]
  simp
theorem od_rSt {ix j n : Nat} {as rest : List Value} {d' : Nat} {Q1 : od_O → od_M → Prop} (h : od_cd k pc = some (.invokestatic ix, 3)) (hm : od_md (od_ow k) ix = some (j, 1, n)) (hn : as.length = n) (hs : st = as.reverse ++ rest) (hw : (rest.map fun v => v.category).sum ≤ 30) (hl : (od_fl as).length ≤ od_nl j)
    (hc : od_W d' j 0 (od_ent j as) [] M Q1) (hd : d' ≤ d) (kk : ∀ o M1, Q1 o M1 → od_K (d + 1) k pc ls rest Q o M1) : od_W (d + 1) k pc ls st M Q := by
  refine od_rC h ?_ hc hd kk
  have ht : (st.take n).reverse = as := by
    rw [hs, ← hn, List.take_left' (by simp)]
    simp
  have hd2 : st.drop n = rest := by rw [hs, ← hn, List.drop_left' (by simp)]
  have hlen : n ≤ st.length := by rw [hs, ← hn]; simp
  simp only [od_ins, od_inv, hm, ht, hd2, ↓reduceIte, hlen, hw, hl]
  simp
/-- behind a call that came back -/
theorem od_K.ret {v : Option Value} {rest : List Value} (h : od_W d k (pc + 3) ls (v.toList ++ rest) M Q) : od_K d k pc ls rest Q (.inl v) M := h
theorem od_K.out {x : Nat × Nat} {rest : List Value} (hh : od_hn k pc x.1 = some none) (h : Q (.inr x) M) : od_K d k pc ls rest Q (.inr x) M := by
  unfold od_K
  dsimp only
  rw [hh]
  exact h
end RUL
/-- a row: the object at r, its cells behind it; n cells in use -/
def od_Rw (M : od_M) (r n : Nat) (f : Nat → Int32) : Prop := M.2.2 r = some (od_ob 0 [.ref (r + 1), .int (nI n)]) ∧ M.2.2 (r + 1) = some (od_ia 60 f) ∧ n ≤ 60
def od_wr (M : od_M) (r n : Nat) (f : Nat → Int32) : od_M := od_set (od_set M (r + 1) (od_ia 60 f)) r (od_ob 0 [.ref (r + 1), .int (nI n)])
def od_xm (M : od_M) (x : Nat) : od_M := od_add M 6 (od_ob (od_xc x) [])
theorem ct_putCell {M : od_M} {r n : Nat} {f : Nat → Int32} {v : Int32} (h : od_Rw M r n f) (hn : n < 60) : od_W 0 19 0 (od_ent 19 [.ref r, .int v]) [] M (fun o M' => o = .inl none ∧ M' = od_wr M r (n + 1) (upd f n v)) := by
  obtain ⟨h1, h2, h3⟩ := h
  have e0 : od_ent 19 [.ref r, .int v] = [some (.ref r), some (.int v)] := rfl
  rw [e0]
  have c1 : od_cond .lt (nI n) 60 = true := decide_eq_true (nI_lt (b := 60) hn (by decide))
  have c2 : od_ix (nI n) 60 = true := by
    unfold od_ix
    rw [nI_clamp (by omega), decide_eq_true hn, decide_eq_true (nI_pos' (by omega))]
    rfl
  refine od_W.run 1 rfl ?_
  refine od_rG rfl h1 rfl rfl ?_
  refine od_W.run 1 rfl ?_
  refine od_r2T rfl rfl c1 ?_
  refine od_W.run 1 rfl ?_
  refine od_rG rfl h1 rfl rfl ?_
  refine od_W.run 1 rfl ?_
  refine od_rG rfl h1 rfl rfl ?_
  refine od_W.run 1 rfl ?_
  refine od_rIS rfl h2 rfl hn (by decide) ?_
  have h1' : (od_set M (r + 1) (od_ia 60 (upd f n v))).2.2 r = some (od_ob 0 [.ref (r + 1), .int (nI n)]) := by
    show va_up M.2.2 (r + 1) _ r = _
    rw [va_up_ne _ _ (by omega)]
    exact h1
  refine od_W.run 2 rfl ?_
  refine od_rG rfl h1' rfl rfl ?_
  refine od_W.run 2 rfl ?_
  refine od_rP rfl h1' rfl (by simp) rfl (by decide) ?_
  refine od_W.fin rfl ⟨rfl, ?_⟩
  unfold od_wr
  rw [nI_succ]
  rfl
