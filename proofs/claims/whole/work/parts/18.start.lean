/-! THE CLAIM OUT OF ONE WALK OF THE LAW'S BODY. Your part is whole_start (and what it stands on); all else here is the same for every law, but numbers. -/
def R_law : String := "OrdinalDeskLaw"
def lw_P (b : Addr) (xs : List Int32) (args : Array Value) (s : State) : Prop := args = #[.ref b] ∧ s.IntsAt b xs ∧ xs.length ≤ 2560 ∧ (Jvm.Cond.and given_1 narrow_1).before args s = true
def lw_Q (_ : Array Value) (s : State) (o : Outcome) (t : State) : Prop := o = .returned (some (.int 1)) ∧ Framed s o t [] 601024 7293034
def lw_Z (below : List Frame) (a : Array Value) (s : State) : State → Prop := fun t => ∃ o, t.status = .running ∧ Ended t below o ∧ lw_Q a s o t
/-- the law's own end, with 1 on the stack, nothing written that was there before, its room as the claim has it -/
theorem lw_ret {p : Program} {l : Launch} {e : Env} {s : State} {m : MethodId} {below : List Frame} {meth : Method} {c : Code} {b : Nat} (hx : p.tables.exec = Jvm.exec) (hb : c.code = code) (hr : meth.sig.returnType = ret) (hlocks : meth.locks = false) {pc : Nat} {H : Heap} {ls : Array Slot} (hdg : decode code pc = .ok (.ireturn, 1)) : W p l e room_1 s m #[Value.ref b] below meth c H [] 601024 7293034 (lw_Z below #[Value.ref b] s) (F0 m pc ls [.int 1]) := by
  intro T hT X
  obtain ⟨fs, hret, hrun, hended, hW, hframe⟩ := X.leave (v := some (.int 1)) (hlocks := hlocks) (fun h => by rw [hr] at h; cases h)
  have hmeth' : T.vm.method? m = some meth := X.method'
  refine ⟨T.setFrames fs, ?_, .returned (some (.int 1)), hrun, hended, rfl, ⟨_, rfl⟩, hW, hframe⟩
  jvm_step X.here [X.here.top, hx, hb, hdg, hmeth', hr, ret, narrow_b1]
  (try refine ⟨rfl, ?_⟩); (try refine ⟨rfl, ?_⟩)
  first | (intro acts; rw [hret _ acts rfl rfl rfl]) | rw [hret _ _ rfl rfl rfl]
  exact Steps.refl _
/-- what holds at the law's entry: the machine, the code, the tables' words (any of lw_tbl by 'hts w (by decide +kernel)'), the script of L ints xs at the cell b, what the Statement gives of the start (any of its parts by flat_of_before) -/
def lw_At (p : Program) (s : State) (m : MethodId) (meth : Method) (c : Code) (b L : Nat) (xs : Nat → Int32) : Prop :=
  p.tables.exec = Jvm.exec ∧ c.code = code ∧ meth.sig.returnType = ret ∧ c.maxLocals = 7 ∧ s.vm.findClass R_law = some m.cls ∧ (∀ w ∈ lw_tbl, w.before #[Value.ref b] s = true) ∧ va_X b L xs s s.heap ∧ b < s.heap.size ∧ meth.locks = false ∧ (Jvm.Cond.and given_1 narrow_1).before #[Value.ref b] s = true ∧ c.exceptionTable.isEmpty = true
/-- the law's runs of the small machine: on every script of at most N ints they end with 1, within the room -/
def od_Law (N C S : Nat) : Prop := ∀ (b B L : Nat) (xs : Nat → Int32), b < B → L ≤ N → od_W 60 153 0 (od_ent 153 [.ref b]) [] (B, 0, va_up (fun _ => none) b (some (od_sc L xs))) (fun o M' => o = .inl (some (.int 1)) ∧ M'.1 ≤ B + C ∧ M'.2.1 ≤ S)
theorem od_ins_ok : od_cls.all (fun q => od_has (.instantiable q.1 (if q.2.2 = 0 then 6 else q.2.2))) = true := by decide +kernel
theorem od_known {s : State} {args : Array Value} (hts : ∀ w ∈ od_WS, w.before args s = true) : ∃ D : va_G, ∀ (c : Nat) (q : vw_C), od_cls[c]? = some q → u_Kn s q.1 q.2.1 q.2.2 (D.1 c) (D.2 c) := by
  have h : ∀ c : Nat, ∃ z : ClassId × (Nat → Nat), ∀ q : vw_C, od_cls[c]? = some q → u_Kn s q.1 q.2.1 q.2.2 z.1 z.2 := by
    intro c
    cases hc : od_cls[c]? with
    | none => exact ⟨(0, fun _ => 0), fun q h => by cases h⟩
    | some q =>
      obtain ⟨C, T, N⟩ := q
      have h1 := List.all_eq_true.mp od_ins_ok _ (List.mem_of_getElem? hc)
      obtain ⟨cC, iS, hk⟩ := u_known (T := T) (N := N) hts (od_clI hc).1 (hts _ (od_hasI h1))
      exact ⟨(cC, iS), fun q h => by cases h; exact hk⟩
  exact ⟨(fun c => (Classical.choose (h c)).1, fun c => (Classical.choose (h c)).2), fun c q hq => Classical.choose_spec (h c) q hq⟩
theorem od_arrs {s : State} {args : Array Value} (hts : ∀ w ∈ od_WS, w.before args s = true) : ∃ K : Nat × Nat × Nat, ∀ (k : Nat) (q : ClassId × FieldType), ([(K.1, .int), (K.2.1, .long), (K.2.2, .object od_rn)] : List (ClassId × FieldType))[k]? = some q → ArrOfT s q.1 q.2 ∧ va_RA s q.1 q.2 := by
  have har := od_ar_ok
  rw [Bool.and_eq_true] at har
  have hao := od_an_ok
  rw [Bool.and_eq_true] at hao
  have prim : ∀ ty : FieldType, (Cond.arrayClass ty).before args s = true → ∃ (c : ClassId) (k : Class) (comp : ClassId), s.vm.findClass ("[" ++ ty.toString) = some c ∧ s.vm.classes[c]? = some k ∧ k.kind = .array comp ty := by
    intro ty h
    simp only [Cond.before, Cond.holds, Cond.value] at h
    cases h1 : s.vm.findClass ("[" ++ ty.toString) with
    | none => rw [h1] at h; simp at h
    | some c =>
      rw [h1] at h
      simp only [Option.bind_some] at h
      cases h2 : s.vm.classes[c]? with
      | none => rw [h2] at h; simp at h
      | some k =>
        rw [h2] at h
        simp only [Option.map_some] at h
        cases h3 : k.kind with
        | array comp ty' =>
          rw [h3] at h
          simp at h
          exact ⟨c, k, comp, rfl, h2, by rw [h3, h]⟩
        | _ => rw [h3] at h; simp at h
  obtain ⟨c1, k1, m1, a1, a2, a3⟩ := prim .int (hts _ (od_hasI har.1))
  obtain ⟨c2, k2, m2, b1, b2, b3⟩ := prim .long (hts _ (od_hasI har.2))
  have over : ∃ (c : ClassId) (k : Class) (comp : ClassId), s.vm.findClass ("[" ++ (FieldType.object od_rn).toString) = some c ∧ s.vm.classes[c]? = some k ∧ k.kind = .array comp (.object od_rn) ∧ s.vm.findClass od_rn = some comp := by
    have h := hts _ (od_hasI hao.1)
    simp only [Cond.before, Cond.holds, Cond.value, beq_iff_eq] at h
    cases hc : s.vm.findClass od_rn with
    | none => simp [hc] at h
    | some comp =>
      simp only [hc, Option.bind_some, Option.bind_eq_some_iff, Option.map_eq_some_iff] at h
      obtain ⟨c, hi, k, hk, hb⟩ := h
      obtain ⟨hlt, hp, -⟩ := Array.findIdx?_eq_some_iff_getElem.mp hi
      have hkk : s.vm.classes[c] = k := (Array.getElem?_eq_some_iff.mp hk).2
      rw [hkk] at hp
      cases hkind : k.kind with
      | array component ty =>
        rw [hkind] at hb hp
        simp at hb hp
        exact ⟨c, k, comp, hb.2, hk, by rw [hkind, hp, hb.1], rfl⟩
      | _ => rw [hkind] at hb; simp at hb
  obtain ⟨c3, k3, m3, d1, d2, d3, d4⟩ := over
  refine ⟨(c1, c2, c3), fun k q hq => ?_⟩
  have hk3 : k < 3 := (List.getElem?_eq_some_iff.mp hq).1
  have hk : k = 0 ∨ k = 1 ∨ k = 2 := by omega
  rcases hk with rfl | rfl | rfl
  · cases hq
    exact ⟨fun n z => ⟨fun k h => (by cases h), k1, a2, m1, a3⟩, a1⟩
  · cases hq
    exact ⟨fun n z => ⟨fun k h => (by cases h), k2, b2, m2, b3⟩, b1⟩
  · cases hq
    exact ⟨fun n z => ⟨fun k h => (by cases h), k3, d2, m3, d3⟩, k3, m3, d2, d3, d4, d1⟩
theorem od_ls_in : Cond.laysStatic "java/lang/Throwable" "UNASSIGNED_STACK" "[Ljava/lang/StackTraceElement;" ∈ tables_1 ∧ Cond.laysStatic "java/lang/Throwable" "SUPPRESSED_SENTINEL" "Ljava/util/List;" ∈ tables_1 := ⟨by decide +kernel, by decide +kernel⟩
theorem od_sr_in : ∀ q ∈ od_sts, Cond.stringRef q.1 q.2.1 q.2.2 ∈ tables_1 ∧ Cond.initialized q.1 ∈ tables_1 := by decide +kernel
theorem od_St0 {s : State} {args : Array Value} {n d : String} (h1 : (Cond.laysStatic "java/lang/Throwable" n d).before args s = true) (h2 : (Cond.isRef (.static "java/lang/Throwable" n d)).before args s = true) : od_St s.heap.size n d s := by
  refine ⟨od_ride_ls h1 rfl (fun _ _ _ _ => rfl), od_ride_ir h2 rfl (fun _ _ _ _ => rfl), fun x a hx ha => ?_⟩
  obtain ⟨c0, k0, i0, f0, a0, cell0, -, hi0, -, ha0, hcell0, -⟩ := Cond.laysStatic_spec h1
  cases hx.symm.trans hi0
  cases ha.symm.trans ha0
  exact (Array.getElem?_eq_some_iff.mp hcell0).1
theorem od_Ky0 {s : State} {b : Nat} (hts : ∀ w ∈ lw_tbl, w.before #[Value.ref b] s = true) (hgv : (Jvm.Cond.and given_1 narrow_1).before #[Value.ref b] s = true) : od_Ky s.heap.size s := by
  have hs := flat_of_before _ hgv
  have htt : ∀ w ∈ tables_1, w.before #[Value.ref b] s = true := fun w hw => hts w (List.mem_append_right _ hw)
  refine ⟨od_St0 (htt _ od_ls_in.1) (hs _ (by decide +kernel)), od_St0 (htt _ od_ls_in.2) (hs _ (by decide +kernel)), fun q hq => ?_, fun q hq => ?_, fun q cell hq hc => ?_⟩
  · simp only [od_ncs, List.mem_cons, List.not_mem_nil, or_false] at hq
    rcases hq with rfl | rfl | rfl | rfl | rfl | rfl <;> exact va_Nc.of (hs _ (by decide +kernel))
  · obtain ⟨h1, h2⟩ := od_sr_in q hq
    have h3 := htt _ h1
    have h4 := htt _ h2
    have h5 : ∃ cur, s.vm.findClass q.1 = some cur := by
      cases hc : s.vm.findClass q.1 with
      | some c => exact ⟨c, rfl⟩
      | none =>
        exfalso
        simp only [Cond.before, Cond.holds, Cond.value, hc] at h3
        simp at h3
    obtain ⟨cur, hcur⟩ := h5
    obtain ⟨k, cf, i, a, -, -, -, -, -, he⟩ := Cond.stringRef_spec hcur h3
    exact ⟨a, vk_R.of h3 he⟩
  · exact absurd (Array.getElem?_eq_some_iff.mp hc).1 (by omega)
set_option maxHeartbeats 4000000 in
set_option maxRecDepth 100000 in
theorem whole_start_of (hLaw : od_Law 2560 601024 7293034) {p : Program} {e : Env} {s : State} {m : MethodId} {below : List Frame} {meth : Method} {c : Code} (l : Launch) (hfl : l.flags = flags0) {b L : Nat} {xs : Nat → Int32} (hL : L ≤ 2560) (C0 : lw_At p s m meth c b L xs) : W p l e room_1 s m #[Value.ref b] below meth c s.heap [] 0 0 (lw_Z below #[Value.ref b] s) (entryFrame m ([Value.ref b] : List Value).toArray 7) := by
  obtain ⟨hx, hb, hr, hml, hown, hts, hX, hbl, hlk, hgv, hne⟩ := C0
  have htw : ∀ w ∈ od_WS, w.before #[Value.ref b] s = true := fun w hw => hts w (List.mem_filter.mp hw).1
  obtain ⟨D, hD⟩ := od_known htw
  obtain ⟨K, hK⟩ := od_arrs htw
  have hKx : od_Kx D K s := ⟨hD, hK⟩
  have hKy : od_Ky s.heap.size s := od_Ky0 hts hgv
  obtain ⟨n, o, M', hev, ho, hc1, hs1⟩ := hLaw b s.heap.size L xs hbl hL
  have hRp : od_Rp D K s.heap.size s (s.heap.size, 0, va_up (fun _ => none) b (some (od_sc L xs))) s.heap := by
    refine ⟨rfl, Nat.le_refl _, fun a x hx => ?_, fun q cell hq hc => absurd (Array.getElem?_eq_some_iff.mp hc).1 (by omega)⟩
    have hx' : va_up (fun _ => none) b (some (od_sc L xs)) a = some x := hx
    by_cases hab : a = b
    · subst hab
      rw [va_up_self] at hx'
      cases hx'
      exact ⟨hX, Or.inr ⟨_, rfl⟩⟩
    · rw [va_up_ne _ _ hab] at hx'
      cases hx'
  have hthr : od_Thr l od_WS D K s.heap.size := od_thr (fun e ha => Launch.traces_off hfl ha) od_T_ok od_MT_ok od_x_ok
  have hcat : od_Cat l od_WS D K s.heap.size := od_cat od_hok_ok
  have hl := lv_entry ([Value.ref b]) (n := 7) (Nat.le_of_ble_eq_true rfl)
  have htb : od_tb c 153 := by
    have h9 : c.exceptionTable = #[] := Array.isEmpty_iff.mp hne
    unfold od_tb
    rw [h9]
    rfl
  have hw := od_sound od_T_ok od_MT_ok hthr hcat n 60 153 0 _ [] _ o M' hev (p := p) (e := e) (R := room_1) (s := s) (m := m) (args := #[Value.ref b]) (below := below) (meth := meth) (c := c) (H := s.heap) (locs := []) (cells := 0) (slots := 0)
    ⟨hx, hb, hr, hml, hown, htw, hlk, fun h => by cases h⟩ htb (od_has_sub hl (fun q hq => od_ent_args hq)) rfl hKx hKy hRp (fun q h => by cases h) ⟨by decide, by decide⟩ (by show 0 + (M'.1 - s.heap.size) ≤ 601024; omega) (by show 0 + (M'.2.1 - 0) ≤ 7293034; omega)
  rw [lg_entry_eq]
  refine od_Wm hw (fun t ht => ?_)
  obtain ⟨o', t1, t2, t3, t4, t5, Ls, t6, t7⟩ := ht
  subst ho
  have ho' : o' = .returned (some (.int 1)) := t3
  refine ⟨o', t1, t2, ho', ⟨_, ho'⟩, t5, ?_⟩
  refine ⟨t6.1, t6.2.1, Nat.le_trans t6.2.2.1 (Nat.add_le_add_left (by show 0 + (M'.1 - s.heap.size) ≤ 601024; omega) _), t6.2.2.2.1, Nat.le_trans t6.2.2.2.2.1 (by show 0 + (M'.2.1 - 0) ≤ 7293034; omega), fun a c' hc' => ?_⟩
  obtain ⟨c2, g1, g2, g3, g4⟩ := t6.2.2.2.2.2 a c' hc'
  refine ⟨c2, g1, g2, g3, fun i _ => g4 i (fun hm => ?_)⟩
  have := t7 _ hm
  have h8 := (Array.getElem?_eq_some_iff.mp hc').1
  exact absurd this (by show ¬ s.heap.size ≤ a; omega)
