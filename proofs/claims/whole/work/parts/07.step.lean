/-! One step of the small machine within a method is a step of the real one. -/
def od_tyok (t : Nat) (ty : FieldType) (fin : Bool) : Prop := (t = 0 ∧ ty = .int ∧ fin = false) ∨ (t = 1 ∧ ty = .boolean ∧ fin = false) ∨ ((t = 2 ∧ fin = false ∨ t = 3 ∧ fin = true ∨ t = 5 ∧ fin = true) ∧ ((∃ n, ty = .object n) ∨ ∃ u, ty = .array u))
def od_fok (WS : List Cond) (own ix c k t : Nat) : Prop := ∃ (C : String) (T : u_T) (N : Nat) (ty : Nat → FieldType), od_cls[c]? = some (C, T, N) ∧ (∀ w ∈ u_ws C T N, w ∈ WS) ∧ (∀ j, j < N → parseFieldDescriptor (T j).2.2.1 = some (ty j)) ∧ (∀ a, a < N → ∀ b, b < N → a ≠ b → (T a).2.1 ≠ (T b).2.1) ∧ k < N ∧ Cond.fieldLink (od_cn own) ix (T k).1 (T k).2.1 (T k).2.2.1 ∈ WS ∧ od_tyok t (ty k) (T k).2.2.2 ∧ (t = 3 → (T k).1 = od_cn own)
def od_nok (WS : List Cond) (own ix c : Nat) (fs : List Value) : Prop := ∃ (C : String) (T : u_T) (N : Nat) (ty : Nat → FieldType), od_cls[c]? = some (C, T, N) ∧ (∀ w ∈ u_ws C T N, w ∈ WS) ∧ (∀ j, j < N → parseFieldDescriptor (T j).2.2.1 = some (ty j)) ∧ Cond.classLink (od_cn own) ix C ∈ WS ∧ Cond.instantiable C N ∈ WS ∧ Cond.initialized C ∈ WS ∧ fs.length = N ∧ ∀ j, j < N → defaultValue (ty j) = vp_V fs j
def od_T (WS : List Cond) : Prop :=
  (∀ k pc i n, od_cd k pc = some (i, n) → decode (od_by k) pc = .ok (i, n)) ∧
  (∀ own ix c k t, od_fd own ix = some (c, k, t) → od_fok WS own ix c k t) ∧
  (∀ own ix c fs, od_nw own ix = some (c, fs) → od_nok WS own ix c fs) ∧
  (∀ own ix, od_an own ix = true → Cond.classLink (od_cn own) ix od_rn ∈ WS ∧ Cond.arrayOver (.object od_rn) ∈ WS) ∧
  (∀ own ix v, od_ki own ix = some v → Cond.constant (od_cn own) ix v ∈ WS) ∧
  (∀ own ix v, od_kl own ix = some v → Cond.constantLong (od_cn own) ix v ∈ WS) ∧
  (∀ own ix j n, od_md own ix = some (j, 7, n) → Cond.methodLink (od_cn own) ix arraycopyName ∈ WS ∧ Cond.native arraycopyName ∈ WS ∧ Cond.static arraycopyName ∈ WS ∧ Cond.initialized "java/lang/System" ∈ WS) ∧
  (∀ own ix j n, od_md own ix = some (j, 8, n) → Cond.methodLink (od_cn own) ix objectInit ∈ WS ∧ Cond.instanceMethod objectInit ∈ WS ∧ Cond.code objectInit ⟨#[0xb1]⟩ 1 none ∈ WS) ∧
  (Cond.arrayClass .int ∈ WS ∧ Cond.arrayClass .long ∈ WS) ∧ (∃ (T : u_T) (N : Nat), od_cls[od_row]? = some (od_rn, T, N))
def od_Kx (D : va_G) (K : Nat × Nat × Nat) (s : State) : Prop := va_K D od_cls [(K.1, .int), (K.2.1, .long), (K.2.2, .object od_rn)] s
/-- a method's frame stands on the tables of method k -/
def od_Cx (WS : List Cond) (p : Program) (s : State) (m : MethodId) (args : Array Value) (meth : Method) (c : Code) (k : Nat) : Prop :=
  p.tables.exec = Jvm.exec ∧ c.code = od_by k ∧ meth.sig.returnType = od_rf k ∧ c.maxLocals = od_nl k ∧ s.vm.findClass (od_cn (od_ow k)) = some m.cls ∧ (∀ w ∈ WS, w.before args s = true) ∧ meth.locks = false ∧ (od_in k = true → meth.name = "<init>")
theorem od_br_to {pc : Nat} {off : Int} {ls : od_L} {st : List Value} {M : od_M} {q : Nat × od_L × List Value × od_M} (h : od_br pc off ls st M = some (.inl q)) : (pc : Int) + off = (q.1 : Int) ∧ q.2.1 = ls ∧ q.2.2.1 = st ∧ q.2.2.2 = M := by
  unfold od_br at h
  split at h
  · rename_i h0
    unfold od_go at h
    cases h
    exact ⟨(Int.toNat_of_nonneg h0).symm, rfl, rfl, rfl⟩
  · cases h
theorem od_tk_ok {t : Nat} {v : Value} {ty : FieldType} {fin : Bool} (h : od_tk t v = true) (ht : od_tyok t ty fin) : narrow ty v = v ∧ fits ty v = true := by
  unfold od_tk at h
  rcases ht with ⟨rfl, rfl, -⟩ | ⟨rfl, rfl, -⟩ | ⟨ht, hty⟩
  · split at h
    · exact ⟨rfl, rfl⟩
    · simp at h
    · cases h
  · split at h
    · rename_i x
      simp at h
      rcases h with rfl | rfl
      · exact ⟨by decide +kernel, by decide +kernel⟩
      · exact ⟨by decide +kernel, by decide +kernel⟩
    · simp at h
    · cases h
  · split at h
    · rcases ht with ⟨rfl, -⟩ | ⟨rfl, -⟩ | ⟨rfl, -⟩ <;> simp at h
    · rcases hty with ⟨n, rfl⟩ | ⟨u, rfl⟩ <;> exact ⟨rfl, rfl⟩
    · cases h
section ODS
variable {p : Program} {l : Launch} {e : Env} {R : Room} {s : State} {m : MethodId} {args : Array Value} {below : List Frame} {meth : Method} {c : Code} {H : Heap} {locs : List Loc} {cells slots : Nat} {Q : State → Prop} {D : va_G} {K : Nat × Nat × Nat} {B : Nat} {WS : List Cond}
theorem od_Wput (hT : od_T WS) {k pc ix cn kf t : Nat} (hx : p.tables.exec = Jvm.exec) (hb : c.code = od_by k) (hown : s.vm.findClass (od_cn (od_ow k)) = some m.cls) (hts : ∀ w ∈ WS, w.before args s = true) (hin : od_in k = true → meth.name = "<init>") (hK : od_Kx D K s) {a : Nat} {fs : List Value} {v : Value} (ha : va_at D od_cls (a, .inr (cn, fs)) H) (hfd : od_fd (od_ow k) ix = some (cn, kf, t)) (hl : kf < fs.length) (htk : od_tk t v = true) (h3 : t = 3 → od_in k = true) {lsM : Array Slot} {rest : List Value} (hdg : decode (od_by k) pc = .ok (.putfield ix, 3))
    (kk : ∀ (H1 : Heap) (i : Nat), va_at D od_cls (a, .inr (cn, fs.set kf v)) H1 → H1.size = H.size → (∀ q, q ≠ a → H1[q]? = H[q]?) → W p l e R s m args below meth c H1 (locs ++ [⟨a, i⟩]) cells slots Q (F0 m (pc + 3) lsM rest)) : W p l e R s m args below meth c H locs cells slots Q (F0 m pc lsM (v :: .ref a :: rest)) := by
  obtain ⟨C, T, N, ty, hc, hws, hty, hnm, hkN, hlk, htyo, hdecl⟩ := hT.2.1 _ _ _ _ _ hfd
  have hap := va_apart (own := od_cn (od_ow k)) hts hws ty hty hnm hK hc
  obtain ⟨r, h1, cell, q1, q2, q3, q4⟩ := ha
  have hr : r = (C, T, N) := Option.some.inj (h1.symm.trans hc)
  subst hr
  obtain ⟨hS, hfc, kC, hkC, hkind⟩ := hK.1 cn _ hc
  obtain ⟨cf, kx, fi, f, hi, hsl⟩ := hS kf hkN
  have hlay := hts _ (hws _ (u_in_lay hkN))
  unfold u_lay at hlay
  have hst := (u_facts hfc hkC (u_lays hts hws hkN) hi).1
  obtain ⟨hnar, hfit⟩ := od_tk_ok htk htyo
  have fin : ∀ (H1 : Heap), H1[a]? = some (cell.setSlot f.slot v) → va_at D od_cls (a, .inr (cn, fs.set kf v)) H1 := fun H1 e1 => by
    rw [hsl] at e1
    exact ⟨_, hc, t_OB.to (V := updV (vp_V fs) kf v) ⟨_, e1, q2, q3, t_set q4 hap hkN v⟩ (fun j _ => vp_updV_set hl v j)⟩
  cases hfin : (T kf).2.2.2 with
  | false =>
    rw [if_neg (by rw [hfin]; decide)] at hlay
    have h6 := u_store hfc hkC hkind hlay hi (hty kf hkN) hnar hfit
    exact W.putK hx hb (f := f) ⟨hown, hts _ hlk, ⟨_, _, _, hi⟩, hst⟩ (by rw [q2]; exact h6) q1 q3 (by rw [hsl]; exact k2_hasslot (q4 kf hkN)) rfl rfl hdg fun H' e1 e2 e3 => kk H' _ (fin H' e1) e2 e3
  | true =>
    have ht3 : t = 3 := by
      rcases htyo with ⟨-, -, h⟩ | ⟨-, -, h⟩ | ⟨⟨-, h⟩ | ⟨h, -⟩ | ⟨h, -⟩, -⟩
      · rw [hfin] at h; cases h
      · rw [hfin] at h; cases h
      · rw [hfin] at h; cases h
      · exact h
      · rw [h] at htk
        unfold od_tk at htk
        split at htk <;> simp at htk
    rw [if_pos hfin] at hlay
    have hcf : m.cls = cf := by
      obtain ⟨_, _, c', _, _, _, -, -, hf', -, -, -, hown2, -⟩ := Cond.laysFinal_spec hlay
      have e1 : c' = cf := by have := hi.symm.trans hf'; simp at this; exact this.1.symm
      rw [hdecl ht3] at hown2
      rw [← e1]; exact Option.some.inj (hown.symm.trans hown2)
    have h6 := u_fits hfc hkC hkind (Or.inr hlay) hi (hty kf hkN) hnar hfit
    exact W.putFinK hx hb hown (hts _ hlk) hi hst hcf (hin (h3 ht3)) (by rw [q2]; exact h6) q1 q3 (by rw [hsl]; exact k2_hasslot (q4 kf hkN)) rfl rfl hdg fun H' e1 e2 e3 => kk H' _ (fin H' e1) e2 e3
theorem od_Wcpy {cc : ByteArray} {pc : Nat} {ls : Array Slot} {rest : List Value} (hexec : p.tables.exec = Jvm.exec) (hb : c.code = cc) (hml : c.maxLocals = ls.size) {own : String} {index : Nat} (hown : s.vm.findClass own = some m.cls) (hlink : (Cond.methodLink own index arraycopyName).before args s = true) (hnat : (Cond.native arraycopyName).before args s = true) (hstat : (Cond.static arraycopyName).before args s = true) (hini : (Cond.initialized "java/lang/System").before args s = true)
    {a b na nb : Nat} {cI : ClassId} {f g : Nat → Int32} (hcb : H[b]? = some (vp_cell cI (nb, .inl f))) (hca : H[a]? = some (vp_cell cI (na, .inl g))) (hA : ArrOfT s cI .int)
    {sp dp n : Int32} (h1 : ¬ sp < 0) (h2 : ¬ dp < 0) (h3 : ¬ n < 0) (h4 : sp.toNatClampNeg + n.toNatClampNeg ≤ nb) (h5 : dp.toNatClampNeg + n.toNatClampNeg ≤ na)
    (hframes : 1 ≤ R.frames) (hlocals : (rest.map fun v => v.category).sum + (nativeFrameWords "java/lang/System" "arraycopy" 5 + 11) ≤ R.locals) (hdg : decode cc pc = .ok (.invokestatic index, 3))
    (kk : ∀ (L : List Loc), (∀ q ∈ L, q.base = a) → W p l e R s m args below meth c (H.setIfInBounds a (vp_cell cI (na, .inl (va_cpy f g sp.toNatClampNeg dp.toNatClampNeg n.toNatClampNeg)))) (locs ++ L) cells slots Q (F0 m (pc + 3) ls rest)) : W p l e R s m args below meth c H locs cells slots Q (F0 m pc ls (.int n :: .int dp :: .ref a :: .int sp :: .ref b :: rest)) := by
  have nn : ∀ z : Int32, ¬ z < 0 → z.toInt = (z.toNatClampNeg : Int) := by
    intro z hz
    have hz0 : (0 : Int) ≤ z.toInt := by
      have := Int32.not_lt.mp hz
      simpa using Int32.le_iff_toInt_le.mp this
    show z.toInt = ((z.toInt.toNat : Nat) : Int)
    omega
  intro T hT X
  obtain ⟨-, k0, hk0, cm0, hkk0⟩ := hA nb (fun j => .int (f j))
  obtain ⟨-, k1, hk1, cm1, hkk1⟩ := hA na (fun j => .int (g j))
  obtain ⟨vm', X', step⟩ := X.arraycopy hexec hown hlink hnat hstat hini (src := b) (dst := a) (cs := vp_cell cI (nb, .inl f)) (cd := vp_cell cI (na, .inl g)) (srcPos := sp) (destPos := dp) (n := n) (by rw [hT]; exact hcb) (by rw [hT]; exact hca)
    (fun _ h => by cases h) (fun _ h => by cases h) (fun h => by cases h) (fun h => by cases h) hk0 hk1 hkk0 hkk1 (by simp [refKind]) h1 h2 h3
    (by rw [nn sp h1, nn n h3]; show ¬ _ > ((arrV cI nb (fun j => .int (f j))).slots.size : Int); rw [arrV_size]; omega)
    (by rw [nn dp h2, nn n h3]; show ¬ _ > ((arrV cI na (fun j => .int (g j))).slots.size : Int); rw [arrV_size]; omega)
    (fun vm₁ _ i hi => by
      have e : (vp_cell cI (nb, .inl f)).slots.getD (sp.toNatClampNeg + i) .null = .int (f (sp.toNatClampNeg + i)) := by
        show (arrV cI nb (fun j => .int (f j))).slots.getD _ _ = _
        rw [Array.getD_eq_getD_getElem?, arrV_read _ _ (by omega)]
        rfl
      refine ⟨?_, ?_⟩
      · rw [e]
        rfl
      · rw [e]
        exact trivial)
    (g := F0 m pc ls (.int n :: .int dp :: .ref a :: .int sp :: .ref b :: rest)) rfl (by rw [hml]) (rest := rest) rfl (by rw [hb]; exact hdg) hframes (by show 2 * 0 + _ + _ ≤ _; omega)
  have e1 : copied (vp_cell cI (nb, .inl f)) (vp_cell cI (na, .inl g)) sp dp n = vp_cell cI (na, .inl (va_cpy f g sp.toNatClampNeg dp.toNatClampNeg n.toNatClampNeg)) := va_copied (fun z => .int z) cI cI f g h4
  rw [e1] at X' step
  have hheap : ((T.setVm vm').setCell a (vp_cell cI (na, .inl (va_cpy f g sp.toNatClampNeg dp.toNatClampNeg n.toNatClampNeg)))).heap = H.setIfInBounds a (vp_cell cI (na, .inl (va_cpy f g sp.toNatClampNeg dp.toNatClampNeg n.toNatClampNeg))) := by rw [← hT]; rfl
  obtain ⟨t, a1, b1⟩ := kk _ (fun q hq => by
    obtain ⟨z, -, hz⟩ := List.mem_map.mp hq
    rw [← hz]) _ hheap X'
  exact ⟨t, step t a1, b1⟩
set_option maxHeartbeats 4000000 in
theorem od_step_go (hT : od_T WS) {k pc : Nat} {ls : od_L} {st : List Value} {M : od_M} {lsM : Array Slot} (hC : od_Cx WS p s m args meth c k) (hL : lv_has lsM (od_nl k) (od_prs ls)) (hn : ls.length = od_nl k) (hK : od_Kx D K s) (hR : od_Rp D K B s M H) (hf : ∀ q ∈ locs, B ≤ q.base)
    {pc' : Nat} {ls' : od_L} {st' : List Value} {M' : od_M} (hs : od_step k pc ls st M = some (.inl (pc', ls', st', M'))) (hcl : cells + (M'.1 - M.1) ≤ R.cells) (hsl : slots + (M'.2.1 - M.2.1) ≤ R.slots) (hrf : 1 ≤ R.frames) (hrl : 100 ≤ R.locals)
    (kk : ∀ (H' : Heap) (locs' : List Loc) (lsM' : Array Slot), lv_has lsM' (od_nl k) (od_prs ls') → ls'.length = od_nl k → od_Rp D K B s M' H' → (∀ q ∈ locs', B ≤ q.base) →
      W p l e R s m args below meth c H' locs' (cells + (M'.1 - M.1)) (slots + (M'.2.1 - M.2.1)) Q (F0 m pc' lsM' st')) :
    W p l e R s m args below meth c H locs cells slots Q (F0 m pc lsM st) := by
  obtain ⟨hx, hb, hr, hml, hown, hts, hlk, hin⟩ := hC
  obtain ⟨tCd, tFd, tNw, tAn, tKi, tKl, tM7, tM8, tAr, tRow⟩ := hT
  have kk0 : M' = M → ∀ lsM' : Array Slot, lv_has lsM' (od_nl k) (od_prs ls') → ls'.length = od_nl k → W p l e R s m args below meth c H locs cells slots Q (F0 m pc' lsM' st') := by
    intro hM lsM' h1 h2
    subst hM
    have h3 := kk H locs lsM' h1 h2 hR hf
    rw [Nat.sub_self, Nat.sub_self, Nat.add_zero, Nat.add_zero] at h3
    exact h3
  have kk1 : ∀ (a : Nat) (x : od_E), M' = od_set M a x → ls' = ls → ∀ (H1 : Heap) (locs1 : List Loc), B ≤ a → H1.size = H.size → (∀ q, q ≠ a → H1[q]? = H[q]?) → od_at D K s a x H1 → (∀ q ∈ locs1, B ≤ q.base) → W p l e R s m args below meth c H1 locs1 cells slots Q (F0 m pc' lsM st') := by
    intro a x hM hls H1 locs1 hBa hz ho ha hf1
    subst hM
    subst hls
    have h3 := kk H1 locs1 lsM hL hn (hR.set hz ho ha hBa) hf1
    have e1 : (od_set M a x).1 - M.1 = 0 := Nat.sub_self _
    have e2 : (od_set M a x).2.1 - M.2.1 = 0 := Nat.sub_self _
    rw [e1, e2, Nat.add_zero, Nat.add_zero] at h3
    exact h3
  have kk2 : ∀ (n2 : Nat) (x : od_E), M' = od_add M n2 x → ls' = ls → ∀ (H1 : Heap), H1.size = M.1 + 1 → (∀ q, q < M.1 → H1[q]? = H[q]?) → od_at D K s M.1 x H1 → W p l e R s m args below meth c H1 locs (cells + 1) (slots + n2) Q (F0 m pc' lsM st') := by
    intro n2 x hM hls H1 hz ho ha
    subst hM
    subst hls
    have h3 := kk H1 locs lsM hL hn (hR.add hz ho ha) hf
    have e1 : (od_add M n2 x).1 - M.1 = 1 := Nat.add_sub_cancel_left _ _
    have e2 : (od_add M n2 x).2.1 - M.2.1 = n2 := Nat.add_sub_cancel_left _ _
    rw [e1, e2] at h3
    exact h3
  have rm2 : ∀ (n2 : Nat) (x : od_E), M' = od_add M n2 x → cells + 1 ≤ R.cells ∧ slots + n2 ≤ R.slots := by
    intro n2 x hM
    subst hM
    have e1 : (od_add M n2 x).1 - M.1 = 1 := Nat.add_sub_cancel_left _ _
    have e2 : (od_add M n2 x).2.1 - M.2.1 = n2 := Nat.add_sub_cancel_left _ _
    rw [e1] at hcl
    rw [e2] at hsl
    exact ⟨hcl, hsl⟩
  have noS : ∀ {a : Nat} {x : od_E}, M.2.2 a = some x → (∀ y, x ≠ .inr (.inr (.inr (.inr y)))) → B ≤ a := by
    intro a x h1 h2
    rcases (hR.2.2.1 a x h1).2 with h | ⟨y, h⟩
    · exact h
    · exact absurd h (h2 y)
  unfold od_step at hs
  cases hcd : od_cd k pc with
  | none => rw [hcd] at hs; cases hs
  | some q =>
  obtain ⟨i, n⟩ := q
  rw [hcd] at hs
  have hdg := tCd k pc i n hcd
  dsimp only at hs
  cases i
  case iconst v =>
    simp only [od_ins] at hs; split at hs
    · rename_i hq; subst hq; unfold od_go at hs; cases hs; exact lv_iconst hx hb hdg rfl (kk0 rfl lsM hL hn)
    · cases hs
  case bipush v =>
    simp only [od_ins] at hs; split at hs
    · rename_i hq; subst hq; unfold od_go at hs; cases hs; exact lv_bipush hx hb hdg rfl (kk0 rfl lsM hL hn)
    · cases hs
  case sipush v =>
    simp only [od_ins] at hs; split at hs
    · rename_i hq; subst hq; unfold od_go at hs; cases hs; exact lv_sipush hx hb hdg rfl (kk0 rfl lsM hL hn)
    · cases hs
  case lconst v =>
    simp only [od_ins] at hs; split at hs
    · rename_i hq; subst hq; unfold od_go at hs; cases hs; exact lv_lconst hx hb hdg rfl (kk0 rfl lsM hL hn)
    · cases hs
  case ldc ix =>
    simp only [od_ins] at hs; split at hs
    · rename_i hq; subst hq; split at hs
      · rename_i v hv; unfold od_go at hs; cases hs; exact lv_ldc hx hb hown (hts _ (tKi _ _ _ hv)) hdg (kk0 rfl lsM hL hn)
      · cases hs
    · cases hs
  case ldc2_w ix =>
    simp only [od_ins] at hs; split at hs
    · rename_i hq; subst hq; split at hs
      · rename_i v hv; unfold od_go at hs; cases hs; exact lv_ldc2 hx hb hown (hts _ (tKl _ _ _ hv)) hdg (kk0 rfl lsM hL hn)
      · cases hs
    · cases hs
  case iload j =>
    simp only [od_ins] at hs; split at hs
    · rename_i hq; subst hq; unfold od_ild at hs; split at hs
      · rename_i x hv; unfold od_go at hs; cases hs; exact lv_iload hx hb hdg (od_has_at hL hv) (kk0 rfl lsM hL hn)
      · cases hs
    · cases hs
  case iload_n j =>
    simp only [od_ins] at hs; split at hs
    · rename_i hq; subst hq; unfold od_ild at hs; split at hs
      · rename_i x hv; unfold od_go at hs; cases hs; exact lv_iload_n hx hb hdg rfl (od_has_at hL hv) (kk0 rfl lsM hL hn)
      · cases hs
    · cases hs
  case lload j =>
    simp only [od_ins] at hs; split at hs
    · rename_i hq; subst hq; unfold od_lld at hs; split at hs
      · rename_i x hv; unfold od_go at hs; cases hs; exact lv_lload hx hb hdg (od_has_at hL hv) (kk0 rfl lsM hL hn)
      · cases hs
    · cases hs
  case lload_n j =>
    simp only [od_ins] at hs; split at hs
    · rename_i hq; subst hq; unfold od_lld at hs; split at hs
      · rename_i x hv; unfold od_go at hs; cases hs; exact lv_lload_n hx hb hdg rfl (od_has_at hL hv) (kk0 rfl lsM hL hn)
      · cases hs
    · cases hs
  case aload j =>
    simp only [od_ins] at hs; split at hs
    · rename_i hq; subst hq; unfold od_ald at hs; split at hs
      · rename_i x hv; unfold od_go at hs; cases hs; exact lv_aload hx hb hdg (od_has_at hL hv) (kk0 rfl lsM hL hn)
      · cases hs
    · cases hs
  case aload_n j =>
    simp only [od_ins] at hs; split at hs
    · rename_i hq; subst hq; unfold od_ald at hs; split at hs
      · rename_i x hv; unfold od_go at hs; cases hs; exact lv_aload_n hx hb hdg rfl (od_has_at hL hv) (kk0 rfl lsM hL hn)
      · cases hs
    · cases hs
  case istore j =>
    simp only [od_ins] at hs; split at hs
    · rename_i hq; subst hq; unfold od_ist at hs; split at hs
      · split at hs
        · rename_i hj; unfold od_go at hs; cases hs
          exact lv_istore hx hb hdg hL (by rw [← hn]; exact hj) rfl (fun ls2 h2 => kk0 rfl ls2 (od_has_s1 h2) (by rw [od_s1_len]; exact hn))
        · cases hs
      · cases hs
    · cases hs
  case istore_n j =>
    simp only [od_ins] at hs; split at hs
    · rename_i hq; subst hq; unfold od_ist at hs; split at hs
      · split at hs
        · rename_i hj; unfold od_go at hs; cases hs
          exact lv_istore_n hx hb hdg rfl hL (by rw [← hn]; exact hj) rfl (fun ls2 h2 => kk0 rfl ls2 (od_has_s1 h2) (by rw [od_s1_len]; exact hn))
        · cases hs
      · cases hs
    · cases hs
  case lstore j =>
    simp only [od_ins] at hs; split at hs
    · rename_i hq; subst hq; unfold od_lst at hs; split at hs
      · split at hs
        · rename_i hj; unfold od_go at hs; cases hs
          exact lv_lstore hx hb hdg hL (by rw [← hn]; exact hj) rfl (fun ls2 h2 => kk0 rfl ls2 (od_has_s2 h2) (by rw [od_s2_len]; exact hn))
        · cases hs
      · cases hs
    · cases hs
  case lstore_n j =>
    simp only [od_ins] at hs; split at hs
    · rename_i hq; subst hq; unfold od_lst at hs; split at hs
      · split at hs
        · rename_i hj; unfold od_go at hs; cases hs
          exact lv_lstore_n hx hb hdg rfl hL (by rw [← hn]; exact hj) rfl (fun ls2 h2 => kk0 rfl ls2 (od_has_s2 h2) (by rw [od_s2_len]; exact hn))
        · cases hs
      · cases hs
    · cases hs
  case astore j =>
    simp only [od_ins] at hs; split at hs
    · rename_i hq; subst hq; unfold od_ast at hs; split at hs
      · split at hs
        · rename_i hj; unfold od_go at hs; cases hs
          exact lv_astore hx hb hdg hL (by rw [← hn]; exact hj) rfl (fun ls2 h2 => kk0 rfl ls2 (od_has_s1 h2) (by rw [od_s1_len]; exact hn))
        · cases hs
      · cases hs
    · cases hs
  case astore_n j =>
    simp only [od_ins] at hs; split at hs
    · rename_i hq; subst hq; unfold od_ast at hs; split at hs
      · split at hs
        · rename_i hj; unfold od_go at hs; cases hs
          exact lv_astore_n hx hb hdg rfl hL (by rw [← hn]; exact hj) rfl (fun ls2 h2 => kk0 rfl ls2 (od_has_s1 h2) (by rw [od_s1_len]; exact hn))
        · cases hs
      · cases hs
    · cases hs
  case iinc j d =>
    simp only [od_ins] at hs; split at hs
    · rename_i hq; subst hq; unfold od_iinc at hs; split at hs
      · rename_i x hv
        split at hs
        · rename_i hj; unfold od_go at hs; cases hs
          obtain ⟨kx, hkx⟩ := List.getElem?_of_mem (od_prs_of hv)
          exact lv_iinc hx hb hdg hL hkx rfl (by rw [← hn]; exact hj) rfl (fun ls2 h2 => kk0 rfl ls2 (od_has_s1 h2) (by rw [od_s1_len]; exact hn))
        · cases hs
      · cases hs
    · cases hs
  case iadd =>
    simp only [od_ins] at hs; split at hs
    · rename_i hq; subst hq; unfold od_i2 at hs; split at hs
      · dsimp only at hs; unfold od_go at hs; cases hs; exact lv_iadd hx hb hdg (kk0 rfl lsM hL hn)
      · cases hs
    · cases hs
  case isub =>
    simp only [od_ins] at hs; split at hs
    · rename_i hq; subst hq; unfold od_i2 at hs; split at hs
      · dsimp only at hs; unfold od_go at hs; cases hs; exact lv_isub hx hb hdg (kk0 rfl lsM hL hn)
      · cases hs
    · cases hs
  case imul =>
    simp only [od_ins] at hs; split at hs
    · rename_i hq; subst hq; unfold od_i2 at hs; split at hs
      · dsimp only at hs; unfold od_go at hs; cases hs; exact lv_imul hx hb hdg (kk0 rfl lsM hL hn)
      · cases hs
    · cases hs
  case iand =>
    simp only [od_ins] at hs; split at hs
    · rename_i hq; subst hq; unfold od_i2 at hs; split at hs
      · dsimp only at hs; unfold od_go at hs; cases hs; exact lv_iand hx hb hdg (kk0 rfl lsM hL hn)
      · cases hs
    · cases hs
  case ladd =>
    simp only [od_ins] at hs; split at hs
    · rename_i hq; subst hq; unfold od_l2 at hs; split at hs
      · dsimp only at hs; unfold od_go at hs; cases hs; exact lv_ladd hx hb hdg (kk0 rfl lsM hL hn)
      · cases hs
    · cases hs
  case lsub =>
    simp only [od_ins] at hs; split at hs
    · rename_i hq; subst hq; unfold od_l2 at hs; split at hs
      · dsimp only at hs; unfold od_go at hs; cases hs; exact lv_lsub hx hb hdg (kk0 rfl lsM hL hn)
      · cases hs
    · cases hs
  case lmul =>
    simp only [od_ins] at hs; split at hs
    · rename_i hq; subst hq; unfold od_l2 at hs; split at hs
      · dsimp only at hs; unfold od_go at hs; cases hs; exact lv_lmul hx hb hdg (kk0 rfl lsM hL hn)
      · cases hs
    · cases hs
  case idiv =>
    simp only [od_ins] at hs; split at hs
    · rename_i hq; subst hq; unfold od_i2 at hs; split at hs
      · rename_i y x r; dsimp only at hs; by_cases hy : y = 0
        · rw [if_pos hy] at hs; cases hs
        · rw [if_neg hy] at hs; dsimp only at hs; unfold od_go at hs; cases hs; exact lv_idiv hx hb hdg hy (kk0 rfl lsM hL hn)
      · cases hs
    · cases hs
  case irem =>
    simp only [od_ins] at hs; split at hs
    · rename_i hq; subst hq; unfold od_i2 at hs; split at hs
      · rename_i y x r; dsimp only at hs; by_cases hy : y = 0
        · rw [if_pos hy] at hs; cases hs
        · rw [if_neg hy] at hs; dsimp only at hs; unfold od_go at hs; cases hs; exact lv_irem hx hb hdg hy (kk0 rfl lsM hL hn)
      · cases hs
    · cases hs
  case ldiv =>
    simp only [od_ins] at hs; split at hs
    · rename_i hq; subst hq; unfold od_l2 at hs; split at hs
      · rename_i y x r; dsimp only at hs; by_cases hy : y = 0
        · rw [if_pos hy] at hs; cases hs
        · rw [if_neg hy] at hs; dsimp only at hs; unfold od_go at hs; cases hs; exact lv_ldiv hx hb hdg hy (kk0 rfl lsM hL hn)
      · cases hs
    · cases hs
  case lrem =>
    simp only [od_ins] at hs; split at hs
    · rename_i hq; subst hq; unfold od_l2 at hs; split at hs
      · rename_i y x r; dsimp only at hs; by_cases hy : y = 0
        · rw [if_pos hy] at hs; cases hs
        · rw [if_neg hy] at hs; dsimp only at hs; unfold od_go at hs; cases hs; exact lv_lrem hx hb hdg hy (kk0 rfl lsM hL hn)
      · cases hs
    · cases hs
  case lcmp =>
    simp only [od_ins] at hs; split at hs
    · rename_i hq; subst hq; unfold od_lcmp at hs; split at hs
      · unfold od_go at hs; cases hs; exact W.lcmp hx hb hdg (kk0 rfl lsM hL hn)
      · cases hs
    · cases hs
  case i2l =>
    simp only [od_ins] at hs; split at hs
    · rename_i hq; subst hq; unfold od_i2l at hs; split at hs
      · unfold od_go at hs; cases hs; exact lv_i2l hx hb hdg rfl (kk0 rfl lsM hL hn)
      · cases hs
    · cases hs
  case l2i =>
    simp only [od_ins] at hs; split at hs
    · rename_i hq; subst hq; unfold od_l2i at hs; split at hs
      · unfold od_go at hs; cases hs; exact lv_l2i hx hb hdg rfl (kk0 rfl lsM hL hn)
      · cases hs
    · cases hs
  case dup =>
    simp only [od_ins] at hs; split at hs
    · rename_i hq; subst hq; unfold od_dup at hs; split at hs
      · split at hs
        · rename_i hv; unfold od_go at hs; cases hs; exact lv_dup hx hb hdg hv (kk0 rfl lsM hL hn)
        · cases hs
      · cases hs
    · cases hs
  case dup2 =>
    simp only [od_ins] at hs; split at hs
    · rename_i hq; subst hq; unfold od_dup2 at hs; split at hs
      · split at hs
        · rename_i hv; unfold od_go at hs; cases hs; exact lv_dup2_11 hx hb hdg hv.1 hv.2 (kk0 rfl lsM hL hn)
        · cases hs
      · cases hs
    · cases hs
  case pop =>
    simp only [od_ins] at hs; split at hs
    · rename_i hq; subst hq; unfold od_pop at hs; split at hs
      · split at hs
        · rename_i hv; unfold od_go at hs; cases hs; exact lv_pop hx hb hdg hv (kk0 rfl lsM hL hn)
        · cases hs
      · cases hs
    · cases hs
  case goto off =>
    simp only [od_ins] at hs; split at hs
    · rename_i hq; subst hq; obtain ⟨h1, h2, h3, h4⟩ := od_br_to hs; dsimp only at h1 h2 h3 h4; subst h2; subst h3; exact lv_goto hx hb hdg h1 (kk0 h4 lsM hL hn)
    · cases hs
  case ifCond cnd off =>
    simp only [od_ins] at hs; split at hs
    · rename_i hq; subst hq; unfold od_if1 at hs; split at hs
      · rename_i x r; split at hs
        · rename_i h0
          have ht : (pc : Int) + off = ((((pc : Int) + off).toNat : Nat) : Int) := (Int.toNat_of_nonneg h0).symm
          by_cases hc : od_cond cnd x 0 = true
          · rw [if_pos hc] at hs; unfold od_go at hs; cases hs
            have K0 := kk0 rfl lsM hL hn
            cases cnd
            · exact lv_if_eq hx hb hdg ht (fun _ => K0) (fun h => absurd (of_decide_eq_true hc) h)
            · exact lv_if_ne hx hb hdg ht (fun _ => K0) (fun h => absurd hc (by simp [od_cond, h]))
            · exact lv_if_lt hx hb hdg ht (fun _ => K0) (fun h => absurd (of_decide_eq_true hc) h)
            · exact lv_if_ge hx hb hdg ht (fun _ => K0) (fun h => absurd (of_decide_eq_true hc) h)
            · exact lv_if_gt hx hb hdg ht (fun _ => K0) (fun h => absurd (of_decide_eq_true hc) h)
            · exact lv_if_le hx hb hdg ht (fun _ => K0) (fun h => absurd (of_decide_eq_true hc) h)
          · rw [if_neg hc] at hs; unfold od_go at hs; cases hs
            have K0 := kk0 rfl lsM hL hn
            cases cnd
            · exact lv_if_eq hx hb hdg ht (fun h => absurd (decide_eq_true h) hc) (fun _ => K0)
            · exact lv_if_ne hx hb hdg ht (fun h => absurd (by simp [od_cond, h]) hc) (fun _ => K0)
            · exact lv_if_lt hx hb hdg ht (fun h => absurd (decide_eq_true h) hc) (fun _ => K0)
            · exact lv_if_ge hx hb hdg ht (fun h => absurd (decide_eq_true h) hc) (fun _ => K0)
            · exact lv_if_gt hx hb hdg ht (fun h => absurd (decide_eq_true h) hc) (fun _ => K0)
            · exact lv_if_le hx hb hdg ht (fun h => absurd (decide_eq_true h) hc) (fun _ => K0)
        · cases hs
      · cases hs
    · cases hs
  case if_icmp cnd off =>
    simp only [od_ins] at hs; split at hs
    · rename_i hq; subst hq; unfold od_if2 at hs; split at hs
      · rename_i y x r; split at hs
        · rename_i h0
          have ht : (pc : Int) + off = ((((pc : Int) + off).toNat : Nat) : Int) := (Int.toNat_of_nonneg h0).symm
          by_cases hc : od_cond cnd x y = true
          · rw [if_pos hc] at hs; unfold od_go at hs; cases hs
            have K0 := kk0 rfl lsM hL hn
            cases cnd
            · exact lv_icmp_eq hx hb hdg ht (fun _ => K0) (fun h => absurd (of_decide_eq_true hc) h)
            · exact lv_icmp_ne hx hb hdg ht (fun _ => K0) (fun h => absurd hc (by simp [od_cond, h]))
            · exact lv_icmp_lt hx hb hdg ht (fun _ => K0) (fun h => absurd (of_decide_eq_true hc) h)
            · exact lv_icmp_ge hx hb hdg ht (fun _ => K0) (fun h => absurd (of_decide_eq_true hc) h)
            · exact lv_icmp_gt hx hb hdg ht (fun _ => K0) (fun h => absurd (of_decide_eq_true hc) h)
            · exact lv_icmp_le hx hb hdg ht (fun _ => K0) (fun h => absurd (of_decide_eq_true hc) h)
          · rw [if_neg hc] at hs; unfold od_go at hs; cases hs
            have K0 := kk0 rfl lsM hL hn
            cases cnd
            · exact lv_icmp_eq hx hb hdg ht (fun h => absurd (decide_eq_true h) hc) (fun _ => K0)
            · exact lv_icmp_ne hx hb hdg ht (fun h => absurd (by simp [od_cond, h]) hc) (fun _ => K0)
            · exact lv_icmp_lt hx hb hdg ht (fun h => absurd (decide_eq_true h) hc) (fun _ => K0)
            · exact lv_icmp_ge hx hb hdg ht (fun h => absurd (decide_eq_true h) hc) (fun _ => K0)
            · exact lv_icmp_gt hx hb hdg ht (fun h => absurd (decide_eq_true h) hc) (fun _ => K0)
            · exact lv_icmp_le hx hb hdg ht (fun h => absurd (decide_eq_true h) hc) (fun _ => K0)
        · cases hs
      · cases hs
    · cases hs
  case tableswitch dflt lo hi offs =>
    simp only [od_ins] at hs
    unfold od_sw at hs; split at hs
    · rename_i x r; split at hs
      · rename_i ho
        obtain ⟨h1, h2, h3, h4⟩ := od_br_to hs; dsimp only at h1 h2 h3 h4; subst h2; subst h3
        exact lv_tableOut hx hb hdg ho h1 (kk0 h4 lsM hL hn)
      · rename_i ho
        split at hs
        · rename_i off hof
          obtain ⟨h1, h2, h3, h4⟩ := od_br_to hs; dsimp only at h1 h2 h3 h4; subst h2; subst h3
          exact lv_tableIn hx hb hdg (fun h => ho (Or.inl h)) (fun h => ho (Or.inr h)) hof h1 (kk0 h4 lsM hL hn)
        · cases hs
    · cases hs
  case iaload =>
    simp only [od_ins] at hs; split at hs
    · rename_i hq; subst hq; unfold od_iald at hs; split at hs
      · rename_i i a r; split at hs
        · rename_i n f hM; split at hs
          · rename_i hi; unfold od_go at hs; cases hs
            exact va_iald hx hb hK (od_one (q := (a, .inl (K.1, n, .inl f))) (hR.at hM)) 0 0 rfl rfl (od_ix_in hi) hdg (kk0 rfl lsM hL hn)
          · cases hs
        · rename_i n f hM; split at hs
          · rename_i hi; unfold od_go at hs; cases hs
            obtain ⟨scr, g1, g2, g3, g4, g5⟩ := hR.at hM
            have hin' := od_ix_in hi
            exact W.iald (v := .int (f i.toNatClampNeg)) hx hb g1 g2 g3 (by rw [g4]; exact hin') (g5 _ (Nat.not_le.mp fun q => hin' (Or.inr q))) rfl rfl hdg (kk0 rfl lsM hL hn)
          · cases hs
        · cases hs
      · cases hs
    · cases hs
  case laload =>
    simp only [od_ins] at hs; split at hs
    · rename_i hq; subst hq; unfold od_lald at hs; split at hs
      · rename_i i a r; split at hs
        · rename_i n f hM; split at hs
          · rename_i hi; unfold od_go at hs; cases hs
            exact va_lald hx hb hK (od_one (q := (a, .inl (K.2.1, n, .inr (.inl f)))) (hR.at hM)) 0 1 rfl rfl (od_ix_in hi) hdg (kk0 rfl lsM hL hn)
          · cases hs
        · cases hs
      · cases hs
    · cases hs
  case aaload =>
    simp only [od_ins] at hs; split at hs
    · rename_i hq; subst hq; unfold od_aald at hs; split at hs
      · rename_i i a r; split at hs
        · rename_i n f hM; split at hs
          · rename_i hi; unfold od_go at hs; cases hs
            exact va_aldq hx hb hK (od_one (q := (a, .inl (K.2.2, n, .inr (.inr (.inr (.inr f)))))) (hR.at hM)) 0 2 rfl rfl (od_ix_in hi) hdg (kk0 rfl lsM hL hn)
          · cases hs
        · cases hs
      · cases hs
    · cases hs
  case arraylength =>
    simp only [od_ins] at hs; split at hs
    · rename_i hq; subst hq; unfold od_alen at hs; split at hs
      · rename_i a r; split at hs
        · rename_i n f hM; unfold od_go at hs; cases hs
          exact va_alen (x := (n, .inl f)) hx hb hK (od_one (q := (a, .inl (K.1, n, .inl f))) (hR.at hM)) 0 0 rfl rfl rfl hdg (kk0 rfl lsM hL hn)
        · rename_i n f hM; unfold od_go at hs; cases hs
          obtain ⟨scr, g1, g2, g3, g4, g5⟩ := hR.at hM
          exact W.alen (n := Int32.ofNat n) hx hb g1 g2 (by rw [g4] <;> rfl) rfl rfl hdg (kk0 rfl lsM hL hn)
        · cases hs
      · cases hs
    · cases hs
  case iastore =>
    simp only [od_ins] at hs; split at hs
    · rename_i hq; subst hq; unfold od_iast at hs; split at hs
      · rename_i x i a r; split at hs
        · rename_i n f hM; split at hs
          · rename_i hi; unfold od_go at hs; cases hs
            have hBa := noS hM (fun y h => by cases h)
            refine W.iast hx hb (hR.at hM) ((hK.2 0 _ rfl).1 n (fun j => .int (f j))) (fun q => by cases q) (by show ¬ (i < 0 ∨ (arrV _ _ _).slots.size ≤ _); rw [arrV_size]; exact od_ix_in hi) rfl rfl hdg (fun H1 e1 z1 o1 => ?_)
            exact kk1 a _ rfl rfl H1 _ hBa z1 o1 (by show H1[a]? = some (vp_cell _ _); rw [e1]; exact congrArg some (od_cell_i _ _ _ _ _)) (od_locs hf hBa)
          · cases hs
        · cases hs
      · cases hs
    · cases hs
  case lastore =>
    simp only [od_ins] at hs; split at hs
    · rename_i hq; subst hq; unfold od_last at hs; split at hs
      · rename_i x i a r; split at hs
        · rename_i n f hM; split at hs
          · rename_i hi; unfold od_go at hs; cases hs
            have hBa := noS hM (fun y h => by cases h)
            refine W.last hx hb (hR.at hM) ((hK.2 1 _ rfl).1 n (fun j => .long (f j))) (fun q => by cases q) (by show ¬ (i < 0 ∨ (arrV _ _ _).slots.size ≤ _); rw [arrV_size]; exact od_ix_in hi) rfl rfl hdg (fun H1 e1 z1 o1 => ?_)
            exact kk1 a _ rfl rfl H1 _ hBa z1 o1 (by show H1[a]? = some (vp_cell _ _); rw [e1]; exact congrArg some (od_cell_l _ _ _ _ _)) (od_locs hf hBa)
          · cases hs
        · cases hs
      · cases hs
    · cases hs
  case aastore =>
    simp only [od_ins] at hs; split at hs
    · rename_i hq; subst hq; unfold od_aast at hs; split at hs
      · rename_i v i a r; split at hs
        · rename_i n f cv fv hM hV; split at hs
          · rename_i hi; unfold od_go at hs; cases hs
            obtain ⟨hi, hcv⟩ := hi
            subst hcv
            have hBa := noS hM (fun y h => by cases h)
            have hin' := od_ix_in hi
            obtain ⟨rT, rN, hrow⟩ := tRow
            obtain ⟨r', hr', cellV, g1, g2, g3, -⟩ := (hR.at hV)
            have hcls := (hK.1 od_row _ hrow).2
            obtain ⟨kA, comp, k1, k2, k3, -⟩ := (hK.2 2 _ rfl).2
            have hcomp : comp = D.1 od_row := Option.some.inj (k3.symm.trans hcls.1)
            subst hcomp
            obtain ⟨kC, hkC, -⟩ := hcls.2
            refine W.aast hx hb (hR.at hM) (fun q h => by cases h) (fun h => by cases h) k1 k2 rfl hkC ⟨fun q => hin' (Or.inl q), by show _ < (arrV _ _ _).slots.size; rw [arrV_size]; exact Nat.not_le.mp fun q => hin' (Or.inr q)⟩ g1 (fun q h => by rw [g3] at h; cases h) (by rw [g2]; exact hkC) (by rw [g2]; exact va_assign hcls) rfl rfl hdg (fun H1 e1 z1 o1 => ?_)
            exact kk1 a _ rfl rfl H1 _ hBa z1 o1 (by show H1[a]? = some (vp_cell _ _); rw [e1]; exact congrArg some (od_cell_q _ _ _ _ _)) (od_locs hf hBa)
          · cases hs
        · cases hs
      · cases hs
    · cases hs
  case getfield ix =>
    simp only [od_ins] at hs; split at hs
    · rename_i hq; subst hq; unfold od_get at hs; split at hs
      · rename_i a r; split at hs
        · rename_i cn fs cn' kf tt hM hfd; split at hs
          · rename_i hcn; subst hcn; split at hs
            · rename_i v hv; unfold od_go at hs; cases hs
              obtain ⟨C, T, N, ty, hc, hws, hty, hnm, hkN, hlk, htyo, hdecl⟩ := tFd _ _ _ _ _ hfd
              exact va_get hx hb hts hws hown hK (od_one (q := (a, .inr (cn, fs))) (hR.at hM)) 0 rfl hc kf hkN (hts _ hlk) (fun _ h => h) hv hdg (kk0 rfl lsM hL hn)
            · cases hs
          · cases hs
        · cases hs
      · cases hs
    · cases hs
  case putfield ix =>
    simp only [od_ins] at hs; split at hs
    · rename_i hq; subst hq; unfold od_put at hs; split at hs
      · rename_i v a r; split at hs
        · rename_i cn fs cn' kf tt hM hfd; split at hs
          · rename_i hcn; unfold od_go at hs; cases hs
            obtain ⟨rfl, h2, h3, h4⟩ := hcn
            have hBa := noS hM (fun y h => by cases h)
            exact od_Wput ⟨tCd, tFd, tNw, tAn, tKi, tKl, tM7, tM8, tAr, tRow⟩ hx hb hown hts hin hK (hR.at hM) hfd h2 h3 h4 hdg (fun H1 i e1 z1 o1 => kk1 a _ rfl rfl H1 _ hBa z1 o1 e1 (od_locs hf hBa))
          · cases hs
        · cases hs
      · cases hs
    · cases hs
  case new ix =>
    simp only [od_ins] at hs; split at hs
    · rename_i hq; subst hq; unfold od_new at hs; split at hs
      · rename_i cn fs hnw; unfold od_go at hs; cases hs
        obtain ⟨C, T, N, ty, hc, hws, hty, hlk, hinst, hini, hlen, hdef⟩ := tNw _ _ _ _ hnw
        obtain ⟨hc1, hs1⟩ := rm2 _ _ rfl
        rw [hlen] at hs1
        have hKn := hK.1 cn _ hc
        refine W.newcK hx hb hown (hts _ hlk) (hts _ hinst) (hts _ hini) rfl hdg hc1 hs1 hKn.2.1 hR.1 (fun H1 kC hkC e1 z1 o1 => ?_)
        have h3 := kk2 _ _ rfl rfl H1 z1 o1 ⟨_, hc, (u_born ty hts hws hKn hkC e1 hty).to hdef⟩
        rw [hlen] at h3
        exact h3
      · split at hs
        · split at hs <;> cases hs
        · cases hs
    · cases hs
  case newarray t =>
    simp only [od_ins] at hs; split at hs
    · rename_i hq; subst hq; unfold od_newa at hs; split at hs
      · rename_i n r; split at hs
        · rename_i hn0
          have hn1 : ¬ n < 0 := fun h => absurd hn0.1 (Int32.not_le.mpr h)
          split at hs
          · unfold od_go at hs; cases hs
            obtain ⟨hc1, hs1⟩ := rm2 _ _ rfl
            refine va_newaK (atype := .int) hx hb (hts _ tAr.1) rfl hdg rfl hn1 rfl (by show n.toNatClampNeg * 4 ≤ _; omega) hc1 hs1 hR.1 (fun H1 cA e1 z1 o1 hA hN => ?_)
            have hcA : cA = K.1 := Option.some.inj (hN.symm.trans (hK.2 0 _ rfl).2)
            subst hcA
            exact kk2 _ _ rfl rfl H1 z1 o1 e1
          · unfold od_go at hs; cases hs
            obtain ⟨hc1, hs1⟩ := rm2 _ _ rfl
            refine va_newaK (atype := .long) hx hb (hts _ tAr.2) rfl hdg rfl hn1 rfl (by show n.toNatClampNeg * 8 ≤ _; omega) hc1 hs1 hR.1 (fun H1 cA e1 z1 o1 hA hN => ?_)
            have hcA : cA = K.2.1 := Option.some.inj (hN.symm.trans (hK.2 1 _ rfl).2)
            subst hcA
            exact kk2 _ _ rfl rfl H1 z1 o1 e1
          · cases hs
        · cases hs
      · cases hs
    · cases hs
  case anewarray ix =>
    simp only [od_ins] at hs; split at hs
    · rename_i hq; subst hq; unfold od_anew at hs; split at hs
      · rename_i n r; split at hs
        · rename_i hn0; unfold od_go at hs; cases hs
          have hn1 : ¬ n < 0 := fun h => absurd hn0.1 (Int32.not_le.mpr h)
          obtain ⟨hc1, hs1⟩ := rm2 _ _ rfl
          obtain ⟨hl1, hl2⟩ := tAn _ _ hn0.2.2
          refine W.anew hx hb hown (hts _ hl1) (hts _ hl2) rfl hdg rfl hn1 (by omega) hc1 hs1 (fun cA kA comp h1 h2 h3 h4 => ?_)
          obtain ⟨kA', comp', k1, k2, k3, k4⟩ := (hK.2 2 _ rfl).2
          have hcA : cA = K.2.2 := Option.some.inj (h1.symm.trans k4)
          subst hcA
          refine W.eq (g2 := F0 m (pc + 3) lsM (.ref M.1 :: r)) (by rw [← hR.1]) ?_
          refine kk2 _ _ rfl rfl (H.push { cls := K.2.2, slots := Array.replicate n.toNatClampNeg .null, vm := .none }) (by rw [Array.size_push, hR.1]) (fun q hq => by rw [Array.getElem?_push, if_neg (by rw [hR.1]; omega)]) ?_
          show (H.push _)[M.1]? = some (vp_cell _ _)
          rw [vp_cell_q, ← hR.1]
          simp [arrV, va_rf, Array.ext_iff]
        · cases hs
      · cases hs
    · cases hs
  case invokevirtual ix =>
    simp only [od_ins] at hs; split at hs
    · rename_i hq; subst hq; unfold od_inv at hs; split at hs
      · rename_i j kd' n hmd; split at hs
        · rename_i h7; subst h7
          rw [if_neg (by decide)] at hs; cases hs
        · split at hs
          · rename_i h8; subst h8
            rw [if_neg (by decide)] at hs; cases hs
          · split at hs
            · cases hs
            · cases hs
      · cases hs
    · cases hs
  case invokestatic ix =>
    simp only [od_ins] at hs; split at hs
    · rename_i hq; subst hq; unfold od_inv at hs; split at hs
      · rename_i j kd' n hmd; split at hs
        · rename_i h7; subst h7
          rw [if_pos rfl] at hs
          unfold od_cpy at hs; split at hs
          · rename_i n dp a sp b r; split at hs
            · rename_i nb f na g hMb hMa; split at hs
              · rename_i hh; unfold od_go at hs; cases hs
                obtain ⟨h1, h2, h3, h4, h5, h6⟩ := hh
                have hBa := noS hMa (fun y h => by cases h)
                obtain ⟨l1, l2, l3, l4⟩ := tM7 _ _ _ _ hmd
                have hnw : nativeFrameWords "java/lang/System" "arraycopy" 5 ≤ 50 := by decide +kernel
                have hla : a < H.size := (hR.at hMa).lt
                refine od_Wcpy hx hb (hml.trans hL.1.symm) hown (hts _ l1) (hts _ l2) (hts _ l3) (hts _ l4) (hR.at hMb) (hR.at hMa) (hK.2 0 _ rfl).1 (fun h => absurd h3 (Int32.not_le.mpr h)) (fun h => absurd h2 (Int32.not_le.mpr h)) (fun h => absurd h1 (Int32.not_le.mpr h)) h4 h5 hrf (by omega) hdg (fun L hLq => ?_)
                refine kk1 a _ rfl rfl _ _ hBa (by simp) (fun q hq => by simp [Array.getElem?_setIfInBounds, Ne.symm hq]) ?_ (fun q hq => ?_)
                · show (H.setIfInBounds a _)[a]? = some (vp_cell _ _)
                  simp [Array.getElem?_setIfInBounds, hla]
                · rcases List.mem_append.mp hq with h | h
                  · exact hf q h
                  · rw [hLq q h]; exact hBa
              · cases hs
            · cases hs
          · cases hs
        · split at hs
          · rename_i h8; subst h8
            rw [if_neg (by decide)] at hs; cases hs
          · split at hs
            · cases hs
            · cases hs
      · cases hs
    · cases hs
  case invokespecial ix =>
    simp only [od_ins] at hs; split at hs
    · rename_i hq; subst hq; unfold od_inv at hs; split at hs
      · rename_i j kd' n hmd; split at hs
        · rename_i h7; subst h7
          rw [if_neg (by decide)] at hs; cases hs
        · split at hs
          · rename_i h8; subst h8
            rw [if_pos rfl] at hs
            split at hs
            · rename_i a r; split at hs
              · rename_i hw; unfold od_go at hs; cases hs
                obtain ⟨l1, l2, l3⟩ := tM8 _ _ _ _ hmd
                exact W.objInit hx hb hown (hts _ l1) (hts _ l2) (hts _ l3) rfl (hL.1.trans hml.symm) rfl hdg hrf (by show 2 * 0 + _ + 12 ≤ _; omega) (kk0 rfl lsM hL hn)
              · cases hs
            · cases hs
          · split at hs
            · cases hs
            · cases hs
      · cases hs
    · cases hs
  case return_ =>
    simp only [od_ins] at hs; split at hs
    · rename_i hq; subst hq; unfold od_rv at hs; split at hs
      all_goals first | (cases hs; done) | (split at hs <;> cases hs)
    · cases hs
  case ireturn =>
    simp only [od_ins] at hs; split at hs
    · rename_i hq; subst hq; unfold od_ri at hs; split at hs
      all_goals first | (cases hs; done) | (split at hs <;> cases hs)
    · cases hs
  case lreturn =>
    simp only [od_ins] at hs; split at hs
    · rename_i hq; subst hq; unfold od_rl at hs; split at hs
      all_goals first | (cases hs; done) | (split at hs <;> cases hs)
    · cases hs
  case areturn =>
    simp only [od_ins] at hs; split at hs
    · rename_i hq; subst hq; unfold od_rr at hs; split at hs
      all_goals first | (cases hs; done) | (split at hs <;> cases hs)
    · cases hs
  all_goals (simp only [od_ins] at hs; cases hs)
end ODS
