/-! The class's powers. -/
section POW2
variable {S : Nat → Bool} {M : od_M} {ρ0 : od_Rm} {x a b out : Nat}
theorem lt_isFinite {ρ : od_Rm} {q : Nat} (hS : od_SS S) (hq' : S q = true) (hb : od_Bd ρ) {xs : List Nat} (hy : od_hl ρ q xs) : od_W 0 2 0 (od_ent 2 [.ref q]) [] (od_cm S M ρ) (fun o M' => o = .inl (some (.int (if xs.length ≤ 3 then 1 else 0))) ∧ M' = od_cm S M ρ) := by
  have := ct_isFinite (od_cm_Rw (M := M) hS hq' (hb q))
  rw [hy.n] at this
  exact this
set_option maxRecDepth 100000 in
theorem cl_pn_loop (hS : od_SS S) (hA : od_AR M x) (hR : od_ARs S x) (ho : S out = true) {av m : Nat} (hav : av ≤ 1000000) (hm : m ≤ 1000000) (no : out ∉ [x + 7, x + 9, x + 13]) : ∀ (todo done : List tm_T) (ρ : od_Rm) (zs : List Nat) (w : Option Value), tm_al todo → od_Bd ρ → (∀ q, q ∉ [out, x + 9, x + 13] → ρ q = ρ0 q) → od_hl ρ (x + 7) (tm_fl done ++ tm_fl todo) → od_hl ρ (x + 13) zs → od_W 5 33 13 [some (.ref x), some (.int (nI av)), some (.int (nI m)), some (.ref out), some (.int (nI (tm_fl done).length)), some (.int (nI done.length)), w] [] (od_cm S M ρ) (od_Re S M ρ0 [out, x + 9, x + 13] (tm_ft (tm_t (zs ++ tm_fl (sp_pe todo), sp_pw av m 1))) none (fun ρ' => od_hl ρ' out (tm_t (zs ++ tm_fl (sp_pe todo), sp_pw av m 1)))) := by
  have r7 : S (x + 7) = true := hR.2 3 (by omega)
  have r9 : S (x + 9) = true := hR.2 4 (by omega)
  have r13 : S (x + 13) = true := hR.2 6 (by omega)
  have hxn : od_no S x := hR.1
  have hpw := sp_pw_le hav m 1 (by omega)
  simp only [List.mem_cons, List.not_mem_nil, or_false, not_or] at no
  intro todo
  induction todo with
  | nil =>
    intro done ρ zs w _ hb g hy hz
    have hl := hy.n
    have h60 := hy.le hb
    have h3 := tm_fl_len done
    rw [tm_fl, List.append_nil] at hl h60
    rw [show tm_fl (sp_pe []) = [] from rfl, List.append_nil]
    have hend : ∀ wt : Int32, od_W 5 33 115 [some (.ref x), some (.int (nI av)), some (.int (nI m)), some (.ref out), some (.int (nI (tm_fl done).length)), some (.int wt), w] [] (od_cm S M ρ) (od_Re S M ρ0 [out, x + 9, x + 13] (tm_ft (tm_t (zs, sp_pw av m 1))) none (fun ρ' => od_hl ρ' out (tm_t (zs, sp_pw av m 1)))) := by
      intro wt
      refine od_W.rn (pc' := 117) (ls' := [some (.ref _), some (.int _), some (.int _), some (.ref _), some (.int _), some (.int _), _]) (st' := [.ref _, .ref _]) 2 rfl ?_
      refine od_rG rfl (od_cm_o hxn hA) rfl rfl ?_
      refine od_W.rn (pc' := 122) (ls' := [some (.ref _), some (.int _), some (.int _), some (.ref _), some (.int _), some (.int _), _]) (st' := [.int _, .int _, .ref _, .ref _]) 2 rfl ?_
      refine od_rSt (as := [.int (nI av), .int (nI m)]) rfl rfl rfl rfl (Nat.le_of_ble_eq_true rfl) (Nat.le_of_ble_eq_true rfl) (ct_powerOfNumber hav hm) (Nat.le_of_ble_eq_true rfl) (fun o M1 hq => ?_)
      obtain ⟨rfl, rfl⟩ := hq
      refine od_K.ret ?_
      refine od_rV (as := [.ref (x + 13), .long (lN (sp_pw av m 1))]) rfl rfl rfl rfl (od_cm_r ho) rfl (Nat.le_of_ble_eq_true rfl) (Nat.le_of_ble_eq_true rfl) (lt_becomeTerm hS ho r13 (by omega) hb hz (by omega)) (Nat.le_of_ble_eq_true rfl) (fun o M1 hq => ?_)
      refine od_Re.kp hq rfl (by simp) (g) (fun z => z) (fun ρ1 f1 g1 b1 p1 k1 => ?_)
      refine od_W.fin rfl ?_
      exact od_Re.yes g1 b1 k1 p1
    by_cases h20 : done.length < 20
    · refine od_W.rn (pc' := 17) (ls' := [some (.ref _), some (.int _), some (.int _), some (.ref _), some (.int _), some (.int _), _]) (st' := [.int _, .int _]) 2 rfl ?_
      refine od_r2F rfl (of_decide_eq_true rfl) (decide_eq_false (nI_ge (b := 20) h20 (by omega))) ?_
      refine od_W.rn (pc' := 23) (ls' := [some (.ref _), some (.int _), some (.int _), some (.ref _), some (.int _), some (.int _), _]) (st' := [.ref _, .int _]) 2 rfl ?_
      refine od_rG rfl (od_cm_o hxn hA) rfl rfl ?_
      refine od_gL rfl rfl (r7) (hl) ?_
      refine od_r2T rfl rfl (decide_eq_true (nI_le (Nat.le_refl _) (by omega))) ?_
      exact hend _
    · refine od_W.rn (pc' := 17) (ls' := [some (.ref _), some (.int _), some (.int _), some (.ref _), some (.int _), some (.int _), _]) (st' := [.int _, .int _]) 2 rfl ?_
      refine od_r2T rfl rfl (decide_eq_true (nI_le (a := 20) (by omega) (by omega))) ?_
      exact hend _
  | cons u todo ih =>
    intro done ρ zs w hal hb g hy hz
    have hl := hy.n
    have h60 := hy.le hb
    have h3 := tm_fl_len done
    rw [tm_fl, List.length_append, List.length_append, tm_t_len] at hl h60
    have hy2 : od_hl ρ (x + 7) (tm_fl done ++ (tm_t u ++ tm_fl todo)) := hy
    have e : (tm_fl done).length + (tm_t u).length = (tm_fl (done ++ [u])).length := by rw [tm_fl_snoc, List.length_append]
    have er : tm_fl (sp_pe (u :: todo)) = tm_t (sp_dn u.1, u.2) ++ tm_fl (sp_pe todo) := rfl
    rw [er, ← List.append_assoc]
    have huc := hal.1.2.2
    refine od_W.rn (pc' := 17) (ls' := [some (.ref _), some (.int _), some (.int _), some (.ref _), some (.int _), some (.int _), _]) (st' := [.int _, .int _]) 2 rfl ?_
    refine od_r2F rfl (of_decide_eq_true rfl) (decide_eq_false (nI_ge (b := 20) (by omega) (by omega))) ?_
    refine od_W.rn (pc' := 23) (ls' := [some (.ref _), some (.int _), some (.int _), some (.ref _), some (.int _), some (.int _), _]) (st' := [.ref _, .int _]) 2 rfl ?_
    refine od_rG rfl (od_cm_o hxn hA) rfl rfl ?_
    refine od_gL rfl rfl (r7) (hl) ?_
    refine od_r2F rfl (of_decide_eq_true rfl) (decide_eq_false (nI_ge (by omega) (by omega))) ?_
    refine od_W.rn (pc' := 33) (ls' := [some (.ref _), some (.int _), some (.int _), some (.ref _), some (.int _), some (.int _), _]) (st' := [.ref _]) 1 rfl ?_
    refine od_rG rfl (od_cm_o hxn hA) rfl rfl ?_
    refine od_W.rn (pc' := 38) (ls' := [some (.ref _), some (.int _), some (.int _), some (.ref _), some (.int _), some (.int _), _]) (st' := [.int _, .ref _]) 1 rfl ?_
    refine od_rV (as := [.int (nI (tm_fl done).length)]) rfl rfl rfl rfl (od_cm_r r7) rfl (Nat.le_of_ble_eq_true rfl) (Nat.le_of_ble_eq_true rfl) (lt_termEnd hS r7 hb hal.1 hy2 rfl) (Nat.le_of_ble_eq_true rfl) (fun o M1 hq => ?_)
    obtain ⟨rfl, rfl⟩ := hq
    refine od_K.ret ?_
    refine od_W.rn (pc' := 44) (ls' := [some (.ref _), some (.int _), some (.int _), some (.ref _), some (.int _), some (.int _), some (.int _)]) (st' := [.ref _]) 2 rfl ?_
    refine od_rG rfl (od_cm_o hxn hA) rfl rfl ?_
    refine od_W.rn (pc' := 48) (ls' := [some (.ref _), some (.int _), some (.int _), some (.ref _), some (.int _), some (.int _), some (.int _)]) (st' := [.ref _, .ref _]) 1 rfl ?_
    refine od_rG rfl (od_cm_o hxn hA) rfl rfl ?_
    refine od_W.rn (pc' := 55) (ls' := [some (.ref _), some (.int _), some (.int _), some (.ref _), some (.int _), some (.int _), some (.int _)]) (st' := [.int _, .int _, .ref _, .ref _]) 2 rfl ?_
    refine od_rV (as := [.ref (x + 7), .int (nI (tm_fl done).length), .int (nI ((tm_fl done).length + (tm_t u).length))]) rfl rfl rfl rfl (od_cm_r r9) rfl (Nat.le_of_ble_eq_true rfl) (Nat.le_of_ble_eq_true rfl) (lt_becomeExponent hS r9 r7 (by omega) hb hy2 rfl rfl) (Nat.le_of_ble_eq_true rfl) (fun o M1 hq => ?_)
    refine od_Re.kp hq rfl (by simp) (g) (fun _ => trivial) (fun ρ1 f1 g1 b1 p1 k1 => ?_)
    have hy1 := hy2.fr (f1 (x + 7) (by simp))
    have hz1 := hz.fr (f1 (x + 13) (by simp))
    have tail : ∀ ρ1 : od_Rm, od_Bd ρ1 → (∀ q, q ∉ [out, x + 9, x + 13] → ρ1 q = ρ0 q) → od_hl ρ1 (x + 7) (tm_fl done ++ (tm_t u ++ tm_fl todo)) → od_hl ρ1 (x + 13) zs → od_hl ρ1 (x + 9) (sp_dn u.1) → od_W 5 33 84 [some (.ref x), some (.int (nI av)), some (.int (nI m)), some (.ref out), some (.int (nI (tm_fl done).length)), some (.int (nI done.length)), some (.int (nI ((tm_fl done).length + (tm_t u).length)))] [] (od_cm S M ρ1) (od_Re S M ρ0 [out, x + 9, x + 13] (tm_ft (tm_t (zs ++ tm_t (sp_dn u.1, u.2) ++ tm_fl (sp_pe todo), sp_pw av m 1))) none (fun ρ' => od_hl ρ' out (tm_t (zs ++ tm_t (sp_dn u.1, u.2) ++ tm_fl (sp_pe todo), sp_pw av m 1)))) := by
      intro ρ1 b1 g1 hy1 hz1 p1
      refine od_W.rn (pc' := 85) (ls' := [some (.ref _), some (.int _), some (.int _), some (.ref _), some (.int _), some (.int _), some (.int _)]) (st' := [.ref _]) 1 rfl ?_
      refine od_rG rfl (od_cm_o hxn hA) rfl rfl ?_
      refine od_W.rn (pc' := 89) (ls' := [some (.ref _), some (.int _), some (.int _), some (.ref _), some (.int _), some (.int _), some (.int _)]) (st' := [.ref _, .ref _]) 1 rfl ?_
      refine od_rG rfl (od_cm_o hxn hA) rfl rfl ?_
      refine od_W.rn (pc' := 93) (ls' := [some (.ref _), some (.int _), some (.int _), some (.ref _), some (.int _), some (.int _), some (.int _)]) (st' := [.ref _, .ref _, .ref _]) 1 rfl ?_
      refine od_rG rfl (od_cm_o hxn hA) rfl rfl ?_
      refine od_W.rn (pc' := 98) (ls' := [some (.ref _), some (.int _), some (.int _), some (.ref _), some (.int _), some (.int _), some (.int _)]) (st' := [.int _, .ref _, .ref _, .ref _]) 1 rfl ?_
      refine od_rV (as := [.int (nI ((tm_fl done).length + (tm_t u).length))]) rfl rfl rfl rfl (od_cm_r r7) rfl (Nat.le_of_ble_eq_true rfl) (Nat.le_of_ble_eq_true rfl) (lt_coefficient hS r7 b1 hy1 rfl) (Nat.le_of_ble_eq_true rfl) (fun o M1 hq => ?_)
      obtain ⟨rfl, rfl⟩ := hq
      refine od_K.ret ?_
      refine od_W.rn (pc' := 102) (ls' := [some (.ref _), some (.int _), some (.int _), some (.ref _), some (.int _), some (.int _), some (.int _)]) (st' := [.long _, .ref _, .ref _]) 1 rfl ?_
      rw [nI_1000 huc]
      refine od_rV (as := [.ref (x + 9), .long (lN u.2)]) rfl rfl rfl rfl (od_cm_r r13) rfl (Nat.le_of_ble_eq_true rfl) (Nat.le_of_ble_eq_true rfl) (lt_putTerm hS r13 r9 (by omega) b1 hz1 p1 (by omega)) (Nat.le_of_ble_eq_true rfl) (fun o M1 hq => ?_)
      refine od_Re.kp hq rfl (by simp) (g1) (fun z => tm_ft_l (tm_ft_t z)) (fun ρ2 f2 g2 b2 p2 k2 => ?_)
      have hy3 := hy1.fr (f2 (x + 7) (by simp))
      refine od_W.rn (pc' := 13) (ls' := [some (.ref _), some (.int _), some (.int _), some (.ref _), some (.int _), some (.int _), some (.int _)]) (st' := []) 4 rfl ?_
      rw [e, nI_inc done.length, show done.length + 1 = (done ++ [u]).length by simp]
      exact ih (done ++ [u]) ρ2 _ _ hal.2 b2 g2 (by rw [tm_fl_snoc, List.append_assoc]; exact hy3) p2
    refine od_W.rn (pc' := 59) (ls' := [some (.ref _), some (.int _), some (.int _), some (.ref _), some (.int _), some (.int _), some (.int _)]) (st' := [.ref _]) 1 rfl ?_
    refine od_rG rfl (od_cm_o hxn hA) rfl rfl ?_
    refine od_rV (as := []) rfl rfl rfl rfl (od_cm_r r9) rfl (Nat.le_of_ble_eq_true rfl) (Nat.le_of_ble_eq_true rfl) (lt_isFinite hS r9 b1 p1) (Nat.le_of_ble_eq_true rfl) (fun o M1 hq => ?_)
    obtain ⟨rfl, rfl⟩ := hq
    refine od_K.ret ?_
    by_cases h3 : u.1.length ≤ 3
    · rw [if_pos h3]
      have p1' : od_hl ρ1 (x + 9) (tm_fl (tm_tp u.1)) := by rw [tm_fl_tp hal.1.1]; exact p1
      have a2 := tm_al_tp hal.1.1
      have hnl := tm_n_le a2
      have ed : sp_dn u.1 = tm_num (tm_n (tm_tp u.1) - 1) := if_pos h3
      refine od_r1F rfl (of_decide_eq_true rfl) (rfl) ?_
      refine od_W.rn (pc' := 69) (ls' := [some (.ref _), some (.int _), some (.int _), some (.ref _), some (.int _), some (.int _), some (.int _)]) (st' := [.ref _]) 1 rfl ?_
      refine od_rG rfl (od_cm_o hxn hA) rfl rfl ?_
      refine od_W.rn (pc' := 73) (ls' := [some (.ref _), some (.int _), some (.int _), some (.ref _), some (.int _), some (.int _), some (.int _)]) (st' := [.ref _, .ref _]) 1 rfl ?_
      refine od_rG rfl (od_cm_o hxn hA) rfl rfl ?_
      refine od_rV (as := []) rfl rfl rfl rfl (od_cm_r r9) rfl (Nat.le_of_ble_eq_true rfl) (Nat.le_of_ble_eq_true rfl) (ct_finitePart hS r9 (b1 _) a2 p1'.1) (Nat.le_of_ble_eq_true rfl) (fun o M1 hq => ?_)
      obtain ⟨rfl, rfl⟩ := hq
      refine od_K.ret ?_
      refine od_W.rn (pc' := 81) (ls' := [some (.ref _), some (.int _), some (.int _), some (.ref _), some (.int _), some (.int _), some (.int _)]) (st' := [.int _, .ref _]) 2 rfl ?_
      by_cases h0 : tm_n (tm_tp u.1) = 0
      · rw [h0]
        refine od_rV (as := [.int (nI 0 - 1)]) rfl rfl rfl rfl (od_cm_r r9) rfl (Nat.le_of_ble_eq_true rfl) (Nat.le_of_ble_eq_true rfl) (lt_becomeNumberN hS r9 b1 (by decide)) (Nat.le_of_ble_eq_true rfl) (fun o M1 hq => ?_)
        refine od_Re.kp hq rfl (by simp) (g1) (fun _ => trivial) (fun ρ2 f2 g2 b2 p2 k2 => ?_)
        refine tail ρ2 b2 g2 (hy1.fr (f2 (x + 7) (by simp))) (hz1.fr (f2 (x + 13) (by simp))) ?_
        rw [ed, h0]
        exact p2
      · have e1 : nI (tm_n (tm_tp u.1)) - 1 = nI (tm_n (tm_tp u.1) - 1) := nI_subI (a := 1) (by omega)
        show od_W 5 33 81 [some (.ref x), some (.int (nI av)), some (.int (nI m)), some (.ref out), some (.int (nI (tm_fl done).length)), some (.int (nI done.length)), some (.int (nI ((tm_fl done).length + (tm_t u).length)))] [.int (nI (tm_n (tm_tp u.1)) - 1), .ref (x + 9)] (od_cm S M ρ1) _
        rw [e1]
        refine od_rV (as := [.int (nI (tm_n (tm_tp u.1) - 1))]) rfl rfl rfl rfl (od_cm_r r9) rfl (Nat.le_of_ble_eq_true rfl) (Nat.le_of_ble_eq_true rfl) (lt_becomeNumber hS r9 b1 (by omega)) (Nat.le_of_ble_eq_true rfl) (fun o M1 hq => ?_)
        refine od_Re.kp hq rfl (by simp) (g1) (fun _ => trivial) (fun ρ2 f2 g2 b2 p2 k2 => ?_)
        refine tail ρ2 b2 g2 (hy1.fr (f2 (x + 7) (by simp))) (hz1.fr (f2 (x + 13) (by simp))) ?_
        rw [ed]
        exact p2
    · rw [if_neg h3]
      refine od_r1T rfl rfl (rfl) ?_
      refine tail ρ1 b1 g1 hy1 hz1 ?_
      rw [show sp_dn u.1 = u.1 from if_neg h3]
      exact p1
theorem lt_makePowerOfNumber {ρ : od_Rm} (hS : od_SS S) (hA : od_AR M x) (hR : od_ARs S x) (ho : S out = true) {av m : Nat} (hav : av ≤ 1000000) (hm : m ≤ 1000000) (no : out ∉ [x + 7, x + 9, x + 13]) (hb : od_Bd ρ) {ls : List tm_T} (h1 : tm_al ls) (hy : od_hl ρ (x + 7) (tm_fl ls)) : od_W 5 33 0 (od_ent 33 [.ref x, .int (nI av), .int (nI m), .ref out]) [] (od_cm S M ρ) (od_Re S M ρ [out, x + 9, x + 13] (tm_ft (tm_t (tm_fl (sp_pe ls), sp_pw av m 1))) none (fun ρ' => od_hl ρ' out (tm_t (tm_fl (sp_pe ls), sp_pw av m 1)))) := by
  have e0 : od_ent 33 [.ref x, .int (nI av), .int (nI m), .ref out] = [some (.ref x), some (.int (nI av)), some (.int (nI m)), some (.ref out), none, none, none] := rfl
  rw [e0]
  have r13 : S (x + 13) = true := hR.2 6 (by omega)
  refine od_W.rn (pc' := 1) (ls' := [some (.ref _), some (.int _), some (.int _), some (.ref _), none, none, none]) (st' := [.ref _]) 1 rfl ?_
  refine od_rG rfl (od_cm_o hR.1 hA) rfl rfl ?_
  refine od_rV (as := []) rfl rfl rfl rfl (od_cm_r r13) rfl (Nat.le_of_ble_eq_true rfl) (Nat.le_of_ble_eq_true rfl) (lt_clear hS r13 hb) (Nat.le_of_ble_eq_true rfl) (fun o M1 hq => ?_)
  refine od_Re.kp hq rfl (by simp) (od_fr0 ρ _) (fun _ => trivial) (fun ρ1 f1 g1 b1 p1 k1 => ?_)
  have hy1 := hy.fr (f1 (x + 7) (by simp))
  refine od_W.rn (pc' := 13) (ls' := [some (.ref _), some (.int _), some (.int _), some (.ref _), some (.int _), some (.int _), none]) (st' := []) 4 rfl ?_
  have := cl_pn_loop (M := M) (ρ0 := ρ) hS hA hR ho hav hm no ls [] ρ1 [] none h1 b1 g1 hy1 p1
  rw [List.nil_append] at this
  exact this
theorem od_ne {a q : Nat} {U : List Nat} (h : a ∉ U) (hq : q ∈ U) : a ≠ q := fun e => h (e ▸ hq)
theorem od_nn {a : Nat} {U V : List Nat} (h : a ∉ U) (hs : ∀ q, q ∈ V → q ∈ U) : a ∉ V := fun z => h (hs a z)
theorem od_n1 {a q : Nat} (h : a ≠ q) : a ∉ [q] := fun z => h (List.mem_singleton.mp z)
/-- all rows that a power writes -/
abbrev od_PU (x out : Nat) : List Nat := [out, x + 1, x + 3, x + 5, x + 7, x + 9, x + 11, x + 13, x + 23, x + 25]
set_option maxRecDepth 100000 in
theorem cl_pi_end (hS : od_SS S) (hA : od_AR M x) (hR : od_ARs S x) (ha : S a = true) (ho : S out = true) (na : a ∉ od_PU x out) (no : out ∉ [x + 1, x + 3, x + 5, x + 7, x + 9, x + 11, x + 13, x + 23, x + 25]) {t : tm_T} {ts ls tot : List tm_T} (h1 : tm_al (t :: ts)) (h2 : tm_al ls) (h3 : tm_al tot) {ρ : od_Rm} {y z m : Nat} {i : Int32} {w : Option Value} (hy' : y = x + 23 ∨ y = x + 25) (hb : od_Bd ρ) (g : ∀ q, q ∉ od_PU x out → ρ q = ρ0 q) (hx : od_hl ρ a (tm_fl (t :: ts))) (hl : od_hl ρ (x + 7) (tm_fl ls)) (ht : od_hl ρ y (tm_fl tot)) : od_W 5 35 70 [some (.ref x), some (.ref a), some (.int (nI m)), some (.ref out), some (.ref y), some (.ref z), some (.int i), w] [] (od_cm S M ρ) (od_Re S M ρ0 (od_PU x out) (tm_ft (tm_fl (sp_mul (tm_tp t.1) ls)) ∧ tm_ft (tm_t (sp_pq t ls)) ∧ tm_ft (tm_fl (sp_mul [sp_pq t ls] tot))) none (fun ρ' => od_hl ρ' out (tm_fl (sp_mul [sp_pq t ls] tot)))) := by
  have r7 : S (x + 7) = true := hR.2 3 (by omega)
  have r9 : S (x + 9) = true := hR.2 4 (by omega)
  have r11 : S (x + 11) = true := hR.2 5 (by omega)
  have r13 : S (x + 13) = true := hR.2 6 (by omega)
  have ry : S y = true := by rcases hy' with rfl | rfl; exact hR.2 11 (by omega); exact hR.2 12 (by omega)
  have hxn : od_no S x := hR.1
  have hx2 : od_hl ρ a ([] ++ (tm_t t ++ tm_fl ts)) := hx
  have a1 := tm_al_tp h1.1.1
  have hyU : y ∈ [x + 1, x + 3, x + 5, x + 7, x + 9, x + 11, x + 13, x + 23, x + 25] := by rcases hy' with rfl | rfl <;> simp
  have hy9 : y ∉ [x + 9, x + 1, x + 3, x + 5, x + 11, x + 13] := by rcases hy' with rfl | rfl <;> simp
  have hyo : y ∉ [out, x + 1, x + 3, x + 5] := by
    intro z
    rcases List.mem_cons.mp z with z | z
    · exact no (z ▸ hyU)
    · exact od_nn hy9 (by simp) z
  refine od_W.rn (pc' := 71) (ls' := [some (.ref _), some (.ref _), some (.int _), some (.ref _), some (.ref _), some (.ref _), some (.int _), _]) (st' := [.ref _]) 1 rfl ?_
  refine od_rG rfl (od_cm_o hxn hA) rfl rfl ?_
  refine od_W.rn (pc' := 78) (ls' := [some (.ref _), some (.ref _), some (.int _), some (.ref _), some (.ref _), some (.ref _), some (.int _), _]) (st' := [.int _, .ref _, .int _, .ref _, .ref _]) 4 rfl ?_
  refine od_rV (as := [.int (nI 0)]) rfl rfl rfl rfl (od_cm_r ha) rfl (Nat.le_of_ble_eq_true rfl) (Nat.le_of_ble_eq_true rfl) (lt_termEnd hS ha hb h1.1 hx2 rfl) (Nat.le_of_ble_eq_true rfl) (fun o M1 hq => ?_)
  obtain ⟨rfl, rfl⟩ := hq
  refine od_K.ret ?_
  refine od_rV (as := [.ref a, .int (nI 0), .int (nI (0 + (tm_t t).length))]) rfl rfl rfl rfl (od_cm_r r11) rfl (Nat.le_of_ble_eq_true rfl) (Nat.le_of_ble_eq_true rfl) (lt_becomeExponent hS r11 ha (Ne.symm (od_ne na (by simp))) hb hx2 rfl rfl) (Nat.le_of_ble_eq_true rfl) (fun o M1 hq => ?_)
  refine od_Re.kp hq rfl (by simp) (g) (fun _ => trivial) (fun ρ1 f1 g1 b1 p1 k1 => ?_)
  have hl1 := hl.fr (f1 (x + 7) (by simp))
  have ht1 := ht.fr (f1 y (od_nn hy9 (by simp)))
  have w1 : od_hl ρ1 (x + 11) (tm_fl (tm_tp t.1)) := by rw [tm_fl_tp h1.1.1]; exact p1
  refine od_W.rn (pc' := 86) (ls' := [some (.ref _), some (.ref _), some (.int _), some (.ref _), some (.ref _), some (.ref _), some (.int _), _]) (st' := [.ref _, .ref _]) 2 rfl ?_
  refine od_rG rfl (od_cm_o hxn hA) rfl rfl ?_
  refine od_W.rn (pc' := 90) (ls' := [some (.ref _), some (.ref _), some (.int _), some (.ref _), some (.ref _), some (.ref _), some (.int _), _]) (st' := [.ref _, .ref _, .ref _]) 1 rfl ?_
  refine od_rG rfl (od_cm_o hxn hA) rfl rfl ?_
  refine od_W.rn (pc' := 94) (ls' := [some (.ref _), some (.ref _), some (.int _), some (.ref _), some (.ref _), some (.ref _), some (.int _), _]) (st' := [.ref _, .ref _, .ref _, .ref _]) 1 rfl ?_
  refine od_rG rfl (od_cm_o hxn hA) rfl rfl ?_
  refine od_rV (as := [.ref (x + 11), .ref (x + 7), .ref (x + 9)]) rfl rfl rfl rfl (od_cm_o hxn hA) rfl (Nat.le_of_ble_eq_true rfl) (Nat.le_of_ble_eq_true rfl) (lt_makeProduct hS hA hR r11 r7 r9 (by simp) (by simp) (by simp) b1 a1 h2 w1 hl1) (Nat.le_of_ble_eq_true rfl) (fun o M1 hq => ?_)
  refine od_Re.kp hq rfl (by simp) (g1) (fun z => z.1) (fun ρ2 f2 g2 b2 p2 k2 => ?_)
  have ht2 := ht1.fr (f2 y (od_nn hy9 (by simp)))
  refine od_W.rn (pc' := 101) (ls' := [some (.ref _), some (.ref _), some (.int _), some (.ref _), some (.ref _), some (.ref _), some (.int _), _]) (st' := [.ref _]) 1 rfl ?_
  refine od_rG rfl (od_cm_o hxn hA) rfl rfl ?_
  refine od_W.rn (pc' := 105) (ls' := [some (.ref _), some (.ref _), some (.int _), some (.ref _), some (.ref _), some (.ref _), some (.int _), _]) (st' := [.ref _, .ref _]) 1 rfl ?_
  refine od_rG rfl (od_cm_o hxn hA) rfl rfl ?_
  refine od_W.rn (pc' := 109) (ls' := [some (.ref _), some (.ref _), some (.int _), some (.ref _), some (.ref _), some (.ref _), some (.int _), _]) (st' := [.long _, .ref _, .ref _]) 1 rfl ?_
  refine od_rV (as := [.ref (x + 9), .long (lN 1)]) rfl rfl rfl rfl (od_cm_r r13) rfl (Nat.le_of_ble_eq_true rfl) (Nat.le_of_ble_eq_true rfl) (lt_becomeTerm hS r13 r9 (by omega) b2 p2 (by omega)) (Nat.le_of_ble_eq_true rfl) (fun o M1 hq => ?_)
  refine od_Re.kp hq rfl (by simp) (g2) (fun z => z.2.1) (fun ρ3 f3 g3 b3 p3 k3 => ?_)
  have ht3 := ht2.fr (f3 y (od_nn hy9 (by simp)))
  have w3 : od_hl ρ3 (x + 13) (tm_fl [sp_pq t ls]) := by rw [tm_fl_one]; exact p3
  have okq := sp_pq_ok h1.1 h2 k2
  refine od_W.rn (pc' := 114) (ls' := [some (.ref _), some (.ref _), some (.int _), some (.ref _), some (.ref _), some (.ref _), some (.int _), _]) (st' := [.ref _, .ref _]) 2 rfl ?_
  refine od_rG rfl (od_cm_o hxn hA) rfl rfl ?_
  refine od_W.rn (pc' := 120) (ls' := [some (.ref _), some (.ref _), some (.int _), some (.ref _), some (.ref _), some (.ref _), some (.int _), _]) (st' := [.ref _, .ref _, .ref _, .ref _]) 2 rfl ?_
  refine od_rV (as := [.ref (x + 13), .ref y, .ref out]) rfl rfl rfl rfl (od_cm_o hxn hA) rfl (Nat.le_of_ble_eq_true rfl) (Nat.le_of_ble_eq_true rfl) (lt_makeProduct hS hA hR r13 ry ho (fun z => (List.mem_cons.mp z).elim (fun z => od_ne no (by simp) z.symm) (by simp)) hyo (od_nn no (by simp)) b3 (ts := [sp_pq t ls]) ⟨okq, trivial⟩ h3 w3 ht3) (Nat.le_of_ble_eq_true rfl) (fun o M1 hq => ?_)
  refine od_Re.kp hq rfl (by simp) (g3) (fun z => z.2.2) (fun ρ4 f4 g4 b4 p4 k4 => ?_)
  refine od_W.fin rfl ?_
  exact od_Re.yes g4 b4 ⟨k2, k3, k4⟩ p4
set_option maxRecDepth 100000 in
theorem cl_pi_loop (hS : od_SS S) (hA : od_AR M x) (hR : od_ARs S x) (ha : S a = true) (ho : S out = true) (na : a ∉ od_PU x out) (no : out ∉ [x + 1, x + 3, x + 5, x + 7, x + 9, x + 11, x + 13, x + 23, x + 25]) {t : tm_T} {ts ls : List tm_T} (h1 : tm_al (t :: ts)) (h2 : tm_al ls) {m : Nat} (hm : m ≤ 20) : ∀ (n i : Nat) (tot : List tm_T) (ρ : od_Rm) (y z : Nat) (w : Option Value), i + n = m → tm_al tot → (y = x + 23 ∧ z = x + 25 ∨ y = x + 25 ∧ z = x + 23) → od_Bd ρ → (∀ q, q ∉ od_PU x out → ρ q = ρ0 q) → od_hl ρ a (tm_fl (t :: ts)) → od_hl ρ (x + 7) (tm_fl ls) → od_hl ρ y (tm_fl tot) → od_W 5 35 37 [some (.ref x), some (.ref a), some (.int (nI m)), some (.ref out), some (.ref y), some (.ref z), some (.int (nI i)), w] [] (od_cm S M ρ) (od_Re S M ρ0 (od_PU x out) (ok_pi (t :: ts) n tot ∧ tm_ft (tm_fl (sp_mul (tm_tp t.1) ls)) ∧ tm_ft (tm_t (sp_pq t ls)) ∧ tm_ft (tm_fl (sp_mul [sp_pq t ls] (sp_pi (t :: ts) n tot)))) none (fun ρ' => od_hl ρ' out (tm_fl (sp_mul [sp_pq t ls] (sp_pi (t :: ts) n tot))))) := by
  intro n
  induction n with
  | zero =>
    intro i tot ρ y z w hi h3 hyz hb g hx hl ht
    refine od_W.rn (pc' := 40) (ls' := [some (.ref _), some (.ref _), some (.int _), some (.ref _), some (.ref _), some (.ref _), some (.int _), _]) (st' := [.int _, .int _]) 2 rfl ?_
    refine od_r2T rfl rfl (decide_eq_true (nI_le (by omega) (by omega))) ?_
    refine (cl_pi_end hS hA hR ha ho na no h1 h2 h3 (by rcases hyz with ⟨rfl, rfl⟩ | ⟨rfl, rfl⟩; exact Or.inl rfl; exact Or.inr rfl) hb g hx hl ht).mono fun o M' h => ?_
    exact h.mono (fun q h => h) ⟨fun z => ⟨trivial, z⟩, fun z => z.2⟩ (fun ρ' _ _ h => h)
  | succ n ih =>
    intro i tot ρ y z w hi h3 hyz hb g hx hl ht
    have ry : S y = true := by rcases hyz with ⟨rfl, rfl⟩ | ⟨rfl, rfl⟩; exact hR.2 11 (by omega); exact hR.2 12 (by omega)
    have rz : S z = true := by rcases hyz with ⟨rfl, rfl⟩ | ⟨rfl, rfl⟩; exact hR.2 12 (by omega); exact hR.2 11 (by omega)
    have yz' : z = x + 23 ∧ y = x + 25 ∨ z = x + 25 ∧ y = x + 23 := by rcases hyz with ⟨rfl, rfl⟩ | ⟨rfl, rfl⟩; exact Or.inr ⟨rfl, rfl⟩; exact Or.inl ⟨rfl, rfl⟩
    have hzU : ∀ q, q ∈ [z, x + 1, x + 3, x + 5] → q ∈ od_PU x out := by rcases hyz with ⟨rfl, rfl⟩ | ⟨rfl, rfl⟩ <;> simp
    have n1 : y ∉ [z, x + 1, x + 3, x + 5] := by rcases hyz with ⟨rfl, rfl⟩ | ⟨rfl, rfl⟩ <;> simp
    have n2 : a ∉ [z, x + 1, x + 3, x + 5] := od_nn na hzU
    have n3 : z ∉ [x + 1, x + 3, x + 5] := by rcases hyz with ⟨rfl, rfl⟩ | ⟨rfl, rfl⟩ <;> simp
    have n4 : x + 7 ∉ [z, x + 1, x + 3, x + 5] := by rcases hyz with ⟨rfl, rfl⟩ | ⟨rfl, rfl⟩ <;> simp
    clear hyz
    refine od_W.rn (pc' := 40) (ls' := [some (.ref _), some (.ref _), some (.int _), some (.ref _), some (.ref _), some (.ref _), some (.int _), _]) (st' := [.int _, .int _]) 2 rfl ?_
    refine od_r2F rfl (of_decide_eq_true rfl) (decide_eq_false (nI_ge (by omega) (by omega))) ?_
    refine od_W.rn (pc' := 49) (ls' := [some (.ref _), some (.ref _), some (.int _), some (.ref _), some (.ref _), some (.ref _), some (.int _), _]) (st' := [.ref _, .ref _, .ref _, .ref _]) 4 rfl ?_
    refine od_rV (as := [.ref y, .ref a, .ref z]) rfl rfl rfl rfl (od_cm_o hR.1 hA) rfl (Nat.le_of_ble_eq_true rfl) (Nat.le_of_ble_eq_true rfl) (lt_makeProduct hS hA hR ry ha rz n1 n2 n3 hb h3 h1 ht hx) (Nat.le_of_ble_eq_true rfl) (fun o M1 hq => ?_)
    refine od_Re.kp hq rfl hzU g (fun z => z.1.1) (fun ρ1 f1 g1 b1 p1 k1 => ?_)
    have hx1 := hx.fr (f1 a n2)
    have hl1 := hl.fr (f1 (x + 7) n4)
    refine od_W.rn (pc' := 37) (ls' := [some (.ref _), some (.ref _), some (.int _), some (.ref _), some (.ref _), some (.ref _), some (.int _), some (.ref _)]) (st' := []) 8 rfl ?_
    rw [nI_inc i]
    have k1' : tm_ft (tm_fl (sp_mul tot (t :: ts))) := k1
    have al' : tm_al (sp_mul tot (t :: ts)) := sp_mul_al h3 h1 k1'.2
    have ii : i + 1 + n = m := by omega
    refine (ih (i + 1) (sp_mul tot (t :: ts)) ρ1 z y _ ii al' yz' b1 g1 hx1 hl1 p1).mono fun o M' h => ?_
    exact h.mono (fun q h => h) ⟨fun z => ⟨⟨k1, z.1⟩, z.2⟩, fun z => ⟨z.1.2, z.2⟩⟩ (fun ρ' _ _ h => h)
set_option maxRecDepth 100000 in
theorem lt_makePowerOfInfinite {ρ : od_Rm} (hS : od_SS S) (hA : od_AR M x) (hR : od_ARs S x) (ha : S a = true) (ho : S out = true) (na : a ∉ od_PU x out) (no : out ∉ [x + 1, x + 3, x + 5, x + 7, x + 9, x + 11, x + 13, x + 23, x + 25]) {t : tm_T} {ts ls : List tm_T} (h1 : tm_al (t :: ts)) (h2 : tm_al ls) {m : Nat} (hm : m ≤ 1000000) (hb : od_Bd ρ) (hx : od_hl ρ a (tm_fl (t :: ts))) (hl : od_hl ρ (x + 7) (tm_fl ls)) : od_W 5 35 0 (od_ent 35 [.ref x, .ref a, .int (nI m), .ref out]) [] (od_cm S M ρ) (od_Re S M ρ (od_PU x out) (ok_pin t ts ls m) none (fun ρ' => od_hl ρ' out (tm_fl (sp_mul [sp_pq t ls] (sp_pi (t :: ts) m [([], 1)]))))) := by
  have e0 : od_ent 35 [.ref x, .ref a, .int (nI m), .ref out] = [some (.ref x), some (.ref a), some (.int (nI m)), some (.ref out), none, none, none, none] := rfl
  rw [e0]
  have r23 : S (x + 23) = true := hR.2 11 (by omega)
  have hxn : od_no S x := hR.1
  refine od_W.rn (pc' := 3) (ls' := [some (.ref _), some (.ref _), some (.int _), some (.ref _), none, none, none, none]) (st' := [.int _, .int _]) 2 rfl ?_
  by_cases h20 : m ≤ 20
  · refine od_r2T rfl rfl (decide_eq_true (nI_le (b := 20) h20 (by omega))) ?_
    refine od_W.rn (pc' := 17) (ls' := [some (.ref _), some (.ref _), some (.int _), some (.ref _), none, none, none, none]) (st' := [.ref _]) 1 rfl ?_
    refine od_rG rfl (od_cm_o hxn hA) rfl rfl ?_
    refine od_W.rn (pc' := 23) (ls' := [some (.ref _), some (.ref _), some (.int _), some (.ref _), some (.ref _), none, none, none]) (st' := [.ref _]) 2 rfl ?_
    refine od_rG rfl (od_cm_o hxn hA) rfl rfl ?_
    refine od_W.rn (pc' := 31) (ls' := [some (.ref _), some (.ref _), some (.int _), some (.ref _), some (.ref _), some (.ref _), none, none]) (st' := [.int _, .ref _]) 3 rfl ?_
    refine od_rV (as := [.int (nI 1)]) rfl rfl rfl rfl (od_cm_r r23) rfl (Nat.le_of_ble_eq_true rfl) (Nat.le_of_ble_eq_true rfl) (lt_becomeNumber hS r23 hb (by omega)) (Nat.le_of_ble_eq_true rfl) (fun o M1 hq => ?_)
    refine od_Re.kp hq rfl (by simp) (od_fr0 ρ _) (fun _ => trivial) (fun ρ1 f1 g1 b1 p1 k1 => ?_)
    have hx1 := hx.fr (f1 a (od_nn na (by simp)))
    have hl1 := hl.fr (f1 (x + 7) (by simp))
    refine od_W.rn (pc' := 37) (ls' := [some (.ref _), some (.ref _), some (.int _), some (.ref _), some (.ref _), some (.ref _), some (.int _), none]) (st' := []) 2 rfl ?_
    refine (cl_pi_loop (M := M) (ρ0 := ρ) hS hA hR ha ho na no h1 h2 h20 m 0 [([], 1)] ρ1 (x + 23) (x + 25) none (by omega) tm_al_one (Or.inl ⟨rfl, rfl⟩) b1 g1 hx1 hl1 p1).mono fun o M' h => ?_
    exact h.mono (fun q h => h) ⟨fun z => ⟨h20, z⟩, fun z => z.2⟩ (fun ρ' _ _ h => h)
  · refine od_r2F rfl (of_decide_eq_true rfl) (decide_eq_false (nI_ge (a := 20) (by omega) (by omega))) ?_
    refine od_rX rfl rfl rfl ?_
    exact od_Re.no (od_fr0 ρ _) hb (fun z => h20 z.1)
set_option maxRecDepth 100000 in
theorem lt_makePower {ρ : od_Rm} (hS : od_SS S) (hA : od_AR M x) (hR : od_ARs S x) (ha : S a = true) (hb' : S b = true) (ho : S out = true) (na : a ∉ od_PU x out) (nb : b ∉ od_PU x out) (no : out ∉ [x + 1, x + 3, x + 5, x + 7, x + 9, x + 11, x + 13, x + 23, x + 25]) (hb : od_Bd ρ) {ts us : List tm_T} (h1 : tm_al ts) (h2 : tm_al us) (hx : od_hl ρ a (tm_fl ts)) (hy : od_hl ρ b (tm_fl us)) : od_W 6 32 0 (od_ent 32 [.ref x, .ref a, .ref b, .ref out]) [] (od_cm S M ρ) (od_Re S M ρ (od_PU x out) (ok_pow ts us) none (fun ρ' => od_hl ρ' out (tm_fl (sp_pow ts us)))) := by
  have e0 : od_ent 32 [.ref x, .ref a, .ref b, .ref out] = [some (.ref x), some (.ref a), some (.ref b), some (.ref out), none] := rfl
  rw [e0]
  have r7 : S (x + 7) = true := hR.2 3 (by omega)
  have hxn : od_no S x := hR.1
  have one : us = [] ∨ tm_fl ts = [1, 0, 1] → od_W 6 32 14 [some (.ref x), some (.ref a), some (.ref b), some (.ref out), none] [] (od_cm S M ρ) (od_Re S M ρ (od_PU x out) (ok_pow ts us) none (fun ρ' => od_hl ρ' out (tm_fl (sp_pow ts us)))) := by
    intro h0
    have e1 : sp_pow ts us = [([], 1)] := if_pos h0
    have e2 : ok_pow ts us := by unfold ok_pow; rw [if_pos h0]; exact trivial
    rw [e1]
    refine od_W.rn (pc' := 16) (ls' := [some (.ref _), some (.ref _), some (.ref _), some (.ref _), none]) (st' := [.int _, .ref _]) 2 rfl ?_
    refine od_rV (as := [.int (nI 1)]) rfl rfl rfl rfl (od_cm_r ho) rfl (Nat.le_of_ble_eq_true rfl) (Nat.le_of_ble_eq_true rfl) (lt_becomeNumber hS ho hb (by omega)) (Nat.le_of_ble_eq_true rfl) (fun o M1 hq => ?_)
    refine od_Re.kp hq rfl (by simp) (od_fr0 ρ _) (fun _ => trivial) (fun ρ1 f1 g1 b1 p1 k1 => ?_)
    refine od_W.fin rfl ?_
    exact od_Re.yes g1 b1 e2 p1
  refine od_W.rn (pc' := 1) (ls' := [some (.ref _), some (.ref _), some (.ref _), some (.ref _), none]) (st' := [.ref _]) 1 rfl ?_
  refine od_rV (as := []) rfl rfl rfl rfl (od_cm_r hb') rfl (Nat.le_of_ble_eq_true rfl) (Nat.le_of_ble_eq_true rfl) (lt_isZero hS hb' hb hy) (Nat.le_of_ble_eq_true rfl) (fun o M1 hq => ?_)
  obtain ⟨rfl, rfl⟩ := hq
  refine od_K.ret ?_
  by_cases hu : us = []
  · rw [if_pos (by rw [hu]; rfl)]
    refine od_r1T rfl rfl (rfl) ?_
    exact one (Or.inl hu)
  · have hun : tm_fl us ≠ [] := by
      intro z
      have := tm_fl_len us
      rw [z] at this
      exact hu (List.length_eq_zero_iff.mp (by simp at this; omega))
    rw [if_neg hun]
    refine od_r1F rfl (of_decide_eq_true rfl) (rfl) ?_
    refine od_W.rn (pc' := 8) (ls' := [some (.ref _), some (.ref _), some (.ref _), some (.ref _), none]) (st' := [.ref _]) 1 rfl ?_
    refine od_rV (as := []) rfl rfl rfl rfl (od_cm_r ha) rfl (Nat.le_of_ble_eq_true rfl) (Nat.le_of_ble_eq_true rfl) (ct_isOne hS ha (hb _) hx.2 hx.1) (Nat.le_of_ble_eq_true rfl) (fun o M1 hq => ?_)
    obtain ⟨rfl, rfl⟩ := hq
    refine od_K.ret ?_
    by_cases h1' : tm_fl ts = [1, 0, 1]
    · rw [if_pos (by rw [h1']; exact ⟨rfl, rfl⟩)]
      refine od_r1F rfl (of_decide_eq_true rfl) (rfl) ?_
      exact one (Or.inr h1')
    · have hno : ¬ ((tm_fl ts).length = 3 ∧ (tm_fl ts).getD 2 0 = 1) := by
        rintro ⟨z1, z2⟩
        cases ts with
        | nil => simp [tm_fl] at z1
        | cons t ts =>
          obtain ⟨y1, rfl⟩ := tm_fin (t := t) (ts := ts) (by omega)
          rw [tm_fl_one] at z2 h1'
          unfold tm_t at z2 h1'
          rw [y1] at z2 h1'
          exact h1' (by rw [show t.2 = 1 from z2]; rfl)
      rw [if_neg hno]
      have hcase : ¬ (us = [] ∨ tm_fl ts = [1, 0, 1]) := fun z => z.elim hu h1'
      refine od_r1T rfl rfl (rfl) ?_
      refine od_W.rn (pc' := 21) (ls' := [some (.ref _), some (.ref _), some (.ref _), some (.ref _), none]) (st' := [.ref _]) 1 rfl ?_
      refine od_rV (as := []) rfl rfl rfl rfl (od_cm_r ha) rfl (Nat.le_of_ble_eq_true rfl) (Nat.le_of_ble_eq_true rfl) (lt_isZero hS ha hb hx) (Nat.le_of_ble_eq_true rfl) (fun o M1 hq => ?_)
      obtain ⟨rfl, rfl⟩ := hq
      refine od_K.ret ?_
      cases ts with
      | nil =>
        have e1 : sp_pow [] us = [] := if_neg hcase
        have e2 : ok_pow [] us := by unfold ok_pow; rw [if_neg hcase]; exact trivial
        rw [e1]
        refine od_r1F rfl (of_decide_eq_true rfl) (rfl) ?_
        refine od_W.rn (pc' := 28) (ls' := [some (.ref _), some (.ref _), some (.ref _), some (.ref _), none]) (st' := [.ref _]) 1 rfl ?_
        refine od_rV (as := []) rfl rfl rfl rfl (od_cm_r ho) rfl (Nat.le_of_ble_eq_true rfl) (Nat.le_of_ble_eq_true rfl) (lt_clear hS ho hb) (Nat.le_of_ble_eq_true rfl) (fun o M1 hq => ?_)
        refine od_Re.kp hq rfl (by simp) (od_fr0 ρ _) (fun _ => trivial) (fun ρ1 f1 g1 b1 p1 k1 => ?_)
        refine od_W.fin rfl ?_
        exact od_Re.yes g1 b1 e2 p1
      | cons t ts =>
        have e1 : sp_pow (t :: ts) us = if (tm_fl (t :: ts)).length ≤ 3 then [(tm_fl (sp_pe (sp_lim us)), sp_pw (tm_n (t :: ts)) (tm_n us) 1)] else sp_mul [sp_pq t (sp_lim us)] (sp_pi (t :: ts) (tm_n us) [([], 1)]) := if_neg hcase
        have e2 : ok_pow (t :: ts) us ↔ if (tm_fl (t :: ts)).length ≤ 3 then tm_ft (tm_t (tm_fl (sp_pe (sp_lim us)), sp_pw (tm_n (t :: ts)) (tm_n us) 1)) else ok_pin t ts (sp_lim us) (tm_n us) := by unfold ok_pow; rw [if_neg hcase]
        have hnu := tm_n_le h2
        have hnt := tm_n_le h1
        have alm := sp_lim_al h2
        refine od_r1T rfl rfl (rfl) ?_
        refine od_W.rn (pc' := 33) (ls' := [some (.ref _), some (.ref _), some (.ref _), some (.ref _), none]) (st' := [.ref _]) 1 rfl ?_
        refine od_rV (as := []) rfl rfl rfl rfl (od_cm_r hb') rfl (Nat.le_of_ble_eq_true rfl) (Nat.le_of_ble_eq_true rfl) (ct_finitePart hS hb' (hb _) h2 hy.1) (Nat.le_of_ble_eq_true rfl) (fun o M1 hq => ?_)
        obtain ⟨rfl, rfl⟩ := hq
        refine od_K.ret ?_
        refine od_W.rn (pc' := 39) (ls' := [some (.ref _), some (.ref _), some (.ref _), some (.ref _), some (.int _)]) (st' := [.ref _]) 2 rfl ?_
        refine od_rG rfl (od_cm_o hxn hA) rfl rfl ?_
        refine od_W.rn (pc' := 46) (ls' := [some (.ref _), some (.ref _), some (.ref _), some (.ref _), some (.int _)]) (st' := [.int _, .int _, .ref _, .ref _]) 3 rfl ?_
        have tail : ∀ lim : List Nat, lim = tm_fl (sp_lim us) → ∀ rr : List Nat, tm_fl us = lim ++ rr → od_W 6 32 62 [some (.ref x), some (.ref a), some (.ref b), some (.ref out), some (.int (nI (tm_n us)))] [.int (nI lim.length), .int (nI 0), .ref b, .ref (x + 7)] (od_cm S M ρ) (od_Re S M ρ (od_PU x out) (ok_pow (t :: ts) us) none (fun ρ' => od_hl ρ' out (tm_fl (sp_pow (t :: ts) us)))) := by
          intro lim hlim rr hrr
          refine od_rV (as := [.ref b, .int (nI 0), .int (nI lim.length)]) rfl rfl rfl rfl (od_cm_r r7) rfl (Nat.le_of_ble_eq_true rfl) (Nat.le_of_ble_eq_true rfl) (lt_becomePart hS r7 hb' (Ne.symm (od_ne nb (by simp))) hb (u := []) (w := lim) (z := rr) (by rw [List.nil_append, ← hrr]; exact hy) rfl (by omega)) (Nat.le_of_ble_eq_true rfl) (fun o M1 hq => ?_)
          refine od_Re.kp hq rfl (by simp) (od_fr0 ρ _) (fun _ => trivial) (fun ρ1 f1 g1 b1 p1 k1 => ?_)
          have hx1 := hx.fr (f1 a (od_nn na (by simp)))
          rw [hlim] at p1
          refine od_W.rn (pc' := 66) (ls' := [some (.ref _), some (.ref _), some (.ref _), some (.ref _), some (.int _)]) (st' := [.ref _]) 1 rfl ?_
          refine od_rV (as := []) rfl rfl rfl rfl (od_cm_r ha) rfl (Nat.le_of_ble_eq_true rfl) (Nat.le_of_ble_eq_true rfl) (lt_isFinite hS ha b1 hx1) (Nat.le_of_ble_eq_true rfl) (fun o M1 hq => ?_)
          obtain ⟨rfl, rfl⟩ := hq
          refine od_K.ret ?_
          by_cases h3 : (tm_fl (t :: ts)).length ≤ 3
          · rw [if_pos h3] at e1 e2 ⊢
            rw [e1, tm_fl_one]
            refine od_r1F rfl (of_decide_eq_true rfl) (rfl) ?_
            refine od_W.rn (pc' := 74) (ls' := [some (.ref _), some (.ref _), some (.ref _), some (.ref _), some (.int _)]) (st' := [.ref _, .ref _]) 2 rfl ?_
            refine od_rV (as := []) rfl rfl rfl rfl (od_cm_r ha) rfl (Nat.le_of_ble_eq_true rfl) (Nat.le_of_ble_eq_true rfl) (ct_finitePart hS ha (b1 _) h1 hx1.1) (Nat.le_of_ble_eq_true rfl) (fun o M1 hq => ?_)
            obtain ⟨rfl, rfl⟩ := hq
            refine od_K.ret ?_
            refine od_W.rn (pc' := 80) (ls' := [some (.ref _), some (.ref _), some (.ref _), some (.ref _), some (.int _)]) (st' := [.ref _, .int _, .int _, .ref _]) 2 rfl ?_
            refine od_rV (as := [.int (nI (tm_n (t :: ts))), .int (nI (tm_n us)), .ref out]) rfl rfl rfl rfl (od_cm_o hxn hA) rfl (Nat.le_of_ble_eq_true rfl) (Nat.le_of_ble_eq_true rfl) (lt_makePowerOfNumber hS hA hR ho hnt hnu (od_nn no (by simp)) b1 alm p1) (Nat.le_of_ble_eq_true rfl) (fun o M1 hq => ?_)
            refine od_Re.kp hq rfl (by simp) (g1) (fun z => e2.mp z) (fun ρ2 f2 g2 b2 p2 k2 => ?_)
            refine od_W.rn (pc' := 94) (ls' := [some (.ref _), some (.ref _), some (.ref _), some (.ref _), some (.int _)]) (st' := []) 1 rfl ?_
            refine od_W.fin rfl ?_
            exact od_Re.yes g2 b2 (e2.mpr k2) p2
          · rw [if_neg h3] at e1 e2 ⊢
            rw [e1]
            refine od_r1T rfl rfl (rfl) ?_
            refine od_W.rn (pc' := 91) (ls' := [some (.ref _), some (.ref _), some (.ref _), some (.ref _), some (.int _)]) (st' := [.ref _, .int _, .ref _, .ref _]) 4 rfl ?_
            refine od_rV (as := [.ref a, .int (nI (tm_n us)), .ref out]) rfl rfl rfl rfl (od_cm_o hxn hA) rfl (Nat.le_of_ble_eq_true rfl) (Nat.le_of_ble_eq_true rfl) (lt_makePowerOfInfinite hS hA hR ha ho na no h1 alm hnu b1 hx1 p1) (Nat.le_of_ble_eq_true rfl) (fun o M1 hq => ?_)
            refine od_Re.kp hq rfl (by simp) (g1) (fun z => e2.mp z) (fun ρ2 f2 g2 b2 p2 k2 => ?_)
            refine od_W.fin rfl ?_
            exact od_Re.yes g2 b2 (e2.mpr k2) p2
        by_cases hm0 : tm_n us = 0
        · rw [hm0] at tail ⊢
          refine od_r1F rfl (of_decide_eq_true rfl) (rfl) ?_
          refine od_W.rn (pc' := 50) (ls' := [some (.ref _), some (.ref _), some (.ref _), some (.ref _), some (.int _)]) (st' := [.ref _, .int _, .ref _, .ref _]) 1 rfl ?_
          refine od_gL rfl rfl (hb') (hy.n) ?_
          refine od_W.rn (pc' := 62) (ls' := [some (.ref _), some (.ref _), some (.ref _), some (.ref _), some (.int _)]) (st' := [.int _, .int _, .ref _, .ref _]) 1 rfl ?_
          exact tail (tm_fl us) (by unfold sp_lim; rw [if_pos hm0]) [] (by simp)
        · refine od_r1T rfl rfl ((show (!decide (nI (tm_n us) = 0)) = true by rw [decide_eq_false (nI_ne0 (by omega) (by omega))]; rfl)) ?_
          refine od_W.rn (pc' := 57) (ls' := [some (.ref _), some (.ref _), some (.ref _), some (.ref _), some (.int _)]) (st' := [.ref _, .int _, .ref _, .ref _]) 1 rfl ?_
          refine od_gL rfl rfl (hb') (hy.n) ?_
          refine od_W.rn (pc' := 62) (ls' := [some (.ref _), some (.ref _), some (.ref _), some (.ref _), some (.int _)]) (st' := [.int _, .int _, .ref _, .ref _]) 2 rfl ?_
          obtain hu2 | ⟨vs, v, hv⟩ := tm_snoc us
          · exact absurd hu2 hu
          · have hv1 : v.1 = [] := by
              rw [hv, tm_n_snoc] at hm0
              by_cases z : v.1 = []
              · exact z
              · exact absurd (if_neg z) hm0
            have hlen : (tm_fl us).length = (tm_fl vs).length + 3 := by rw [hv, tm_fl_snoc, List.length_append, tm_t_len, hv1]; rfl
            have e3 : nI (tm_fl us).length - 3 = nI (tm_fl vs).length := by
              rw [hlen]
              exact (nI_subI (a := 3) (by omega)).trans (by rw [show (tm_fl vs).length + 3 - 3 = (tm_fl vs).length by omega])
            have := tail (tm_fl vs) (by unfold sp_lim; rw [if_neg hm0, hv, List.dropLast_concat]) (tm_t v) (by rw [hv, tm_fl_snoc])
            rw [← e3] at this
            exact this
end POW2
