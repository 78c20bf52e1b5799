/-! The reference's calls: the simple ones. -/
def rd (y : Nat) (M : od_M) (b : rf_B) (ρ : od_Rm) (n : Nat) (X R : Nat → List Nat) (d : Nat) : Prop := me_as M y ∧ (∃ f, M.2.2 (y + 3) = some (od_ia 12 f)) ∧ (∃ f, M.2.2 (y + 7) = some (od_la 24 f)) ∧ od_Bd ρ ∧ (∀ i, i < 8 → od_hl ρ i (X i) ∧ tm_W (X i)) ∧ (∀ i, i < n → od_hl ρ (8 + i) (R i) ∧ tm_W (R i)) ∧ n ≤ 12 ∧ b.2.1 = nI n ∧ rf_d b.2.2.2 d
def cs_code (r : Int32 ⊕ Nat) : Nat := match r with
  | .inl _ => 0
  | .inr k => k + 1
abbrev rd_V (y : Nat) : List Nat := [y + 3, y + 4, y + 5, y + 6, y + 7]
/-- what a call of the reference comes to: its code, its answer where the code is 0, the rows then -/
def rd_o (y : Nat) (M : od_M) (d c n : Nat) (X R : Nat → List Nat) (A : od_O → Prop) : od_O → od_M → Prop := fun o M2 => ∃ M' b' fu' ρ' d', M2 = md M' y b' fu' ρ' ∧ od_eM (rd_V y) M M' ∧ b'.1 = nI c ∧ rd y M' b' ρ' n X R d' ∧ d' ≤ d + 20 ∧ A o
def rd_a (r : Int32 ⊕ Nat) : od_O → Prop := fun o => ∃ v : Int32, o = .inl (some (.int v)) ∧ ∀ w, r = .inl w → v = w
section RDC
variable {y n d : Nat} {M : od_M} {b : rf_B} {fu : Bool} {ρ : od_Rm} {X R : Nat → List Nat}
theorem rd.cd (h : rd y M b ρ n X R d) (c : Int32) : rd y M (c, b.2) ρ n X R d := h
theorem rd.o (h : rd y M b ρ n X R d) {c : Nat} {A : od_O → Prop} {o : od_O} (hc : b.1 = nI c) (ha : A o) : rd_o y M d c n X R A o (md M y b fu ρ) := ⟨M, b, fu, ρ, d, rfl, od_eM.refl _ _, hc, h, by omega, ha⟩
theorem rd.set (h : rd y M b ρ n X R d) {ρ' : od_Rm} {t : Nat} {xs : List Nat} (ht : t < 8) (hb : od_Bd ρ') (hf : ∀ q, q ∉ [t] → ρ' q = ρ q) (hx : od_hl ρ' t xs) (hW : tm_W xs) : rd y M b ρ' n (va_up X t xs) R d := by
  obtain ⟨h1, h2, h3, h4, h5, h6, h7, h8, h9⟩ := h
  refine ⟨h1, h2, h3, hb, fun i hi => ?_, fun i hi => ⟨(h6 i hi).1.fr (hf _ (od_n1 (by omega))), (h6 i hi).2⟩, h7, h8, h9⟩
  by_cases e : i = t
  · subst e; rw [va_up_self]; exact ⟨hx, hW⟩
  · rw [va_up_ne _ _ e]; exact ⟨(h5 i hi).1.fr (hf _ (od_n1 e)), (h5 i hi).2⟩
theorem rd.hi (h : rd y M b ρ n X R d) {ρ' : od_Rm} (hb : od_Bd ρ') (hf : ∀ q, q < 20 → ρ' q = ρ q) : rd y M b ρ' n X R d := by
  obtain ⟨h1, h2, h3, h4, h5, h6, h7, h8, h9⟩ := h
  exact ⟨h1, h2, h3, hb, fun i hi => ⟨(h5 i hi).1.fr (hf _ (by omega)), (h5 i hi).2⟩, fun i hi => ⟨(h6 i hi).1.fr (hf _ (by omega)), (h6 i hi).2⟩, h7, h8, h9⟩
theorem ref_finite (h : rd y M b ρ n X R d) (a to : Int32) : od_W 4 115 0 (od_ent 115 [.ref y, .int a, .int to]) [] (md M y b fu ρ) (rd_o y M d (cs_code (cs_finite X a to).1) n (cs_finite X a to).2 R (fun o => o = .inl none)) := by
  have e0 : od_ent 115 [.ref y, .int a, .int to] = [some (.ref y), some (.int a), some (.int to)] := rfl
  rw [e0]
  unfold cs_finite
  refine od_W.rn (pc' := 2) (ls' := [some (.ref _), some (.int _), some (.int _)]) (st' := [.int _, .ref _]) 2 rfl ?_
  refine od_rSt (as := [.int to]) rfl rfl rfl rfl (Nat.le_of_ble_eq_true rfl) (Nat.le_of_ble_eq_true rfl) (ct_noSlot to) (Nat.le_of_ble_eq_true rfl) (fun o M1 hq => ?_)
  obtain ⟨rfl, rfl⟩ := hq
  refine od_K.ret ?_
  rcases sl_is (m := 8) (by omega) to with ⟨e1, _⟩ | ⟨t, ht, rfl, e1⟩
  · rw [e1]
    refine od_r1F rfl (of_decide_eq_true rfl) (rfl) ?_
    refine od_W.rn (pc' := 27) (ls' := [some (.ref _), some (.int _), some (.int _)]) (st' := [.int _, .ref _]) 2 rfl ?_
    refine od_rP rfl (md_0) rfl (by simp) rfl (by decide) ?_
    rw [show od_set (md M y b fu ρ) y (od_ob 8 (List.set _ 0 (.int (Int32.ofInt 1)))) = md M y (nI 1, b.2) fu ρ from md_code]
    refine od_W.rn (pc' := 31) (ls' := [some (.ref _), some (.int _), some (.int _)]) (st' := [.ref _]) 1 rfl ?_
    refine od_rG rfl (md_0) rfl rfl ?_
    refine od_r1T rfl rfl (rfl) ?_
    refine od_W.fin rfl ?_
    exact (h.cd _).o rfl rfl
  · rw [e1]
    dsimp only
    refine od_r1T rfl rfl (rfl) ?_
    refine od_W.rn (pc' := 13) (ls' := [some (.ref _), some (.int _), some (.int _)]) (st' := [.int _, .ref _]) 1 rfl ?_
    have bad : ¬ (0 ≤ a ∧ a ≤ 1000000) → od_W 4 115 22 [some (.ref y), some (.int a), some (.int (nI t))] [.ref y] (md M y b fu ρ) (rd_o y M d (cs_code (if 0 ≤ a ∧ a ≤ 1000000 then ((.inl 0, va_up X t (tm_num a.toNatClampNeg)) : cs_T) else (.inr 1, X)).1) n (if 0 ≤ a ∧ a ≤ 1000000 then ((.inl 0, va_up X t (tm_num a.toNatClampNeg)) : cs_T) else (.inr 1, X)).2 R (fun o => o = .inl none)) := by
      intro hn
      rw [if_neg hn]
      refine od_W.rn (pc' := 27) (ls' := [some (.ref _), some (.int _), some (.int _)]) (st' := [.int _, .ref _]) 2 rfl ?_
      refine od_rP rfl (md_0) rfl (by simp) rfl (by decide) ?_
      rw [show od_set (md M y b fu ρ) y (od_ob 8 (List.set _ 0 (.int (Int32.ofInt 2)))) = md M y (nI 2, b.2) fu ρ from md_code]
      refine od_W.rn (pc' := 31) (ls' := [some (.ref _), some (.int _), some (.int _)]) (st' := [.ref _]) 1 rfl ?_
      refine od_rG rfl (md_0) rfl rfl ?_
      refine od_r1T rfl rfl (rfl) ?_
      refine od_W.fin rfl ?_
      exact (h.cd _).o rfl rfl
    by_cases h0 : a < 0
    · refine od_r1T rfl rfl (decide_eq_true h0) ?_
      exact bad (fun z => absurd (Int32.lt_of_lt_of_le h0 z.1) Int32.lt_irrefl)
    · refine od_r1F rfl (of_decide_eq_true rfl) (decide_eq_false h0) ?_
      refine od_W.rn (pc' := 19) (ls' := [some (.ref _), some (.int _), some (.int _)]) (st' := [.int _, .int _, .ref _]) 2 rfl ?_
      by_cases h1 : a ≤ 1000000
      · have hc : 0 ≤ a ∧ a ≤ 1000000 := ⟨Int32.not_lt.mp h0, h1⟩
        rw [if_pos hc]
        obtain ⟨c, hc2, rfl⟩ := nI_in0 (n := 1000000) (by decide) hc
        rw [nI_clamp (by omega)]
        refine od_r2T rfl rfl (decide_eq_true h1) ?_
        refine od_W.rn (pc' := 27) (ls' := [some (.ref _), some (.int _), some (.int _)]) (st' := [.int _, .ref _]) 1 rfl ?_
        refine od_rP rfl (md_0) rfl (by simp) rfl (by decide) ?_
        rw [show od_set (md M y b fu ρ) y (od_ob 8 (List.set _ 0 (.int (Int32.ofInt 0)))) = md M y (nI 0, b.2) fu ρ from md_code]
        refine od_W.rn (pc' := 31) (ls' := [some (.ref _), some (.int _), some (.int _)]) (st' := [.ref _]) 1 rfl ?_
        refine od_rG rfl (md_0) rfl rfl ?_
        refine od_r1F rfl (of_decide_eq_true rfl) (rfl) ?_
        refine od_W.rn (pc' := 40) (ls' := [some (.ref _), some (.int _), some (.int _)]) (st' := [.int _, .int _, .ref _]) 3 rfl ?_
        refine od_rV (as := [.int (nI t), .int (nI c)]) rfl rfl rfl rfl (md_0) rfl (Nat.le_of_ble_eq_true rfl) (Nat.le_of_ble_eq_true rfl) (ex_lay h.2.2.2.1 (by omega) hc2) (Nat.le_of_ble_eq_true rfl) (fun o M1 hq => ?_)
        obtain ⟨rfl, ρ1, rfl, f1, b1, p1⟩ := hq
        refine od_K.ret ?_
        refine od_W.fin rfl ?_
        exact ((h.cd _).set ht b1 f1 p1 (tm_num_W hc2)).o rfl rfl
      · refine od_r2F rfl (of_decide_eq_true rfl) (decide_eq_false h1) ?_
        exact bad (fun z => h1 z.2)
def cs_rcode (r : Int32 ⊕ Nat) : Nat := match r with
  | .inl _ => 0
  | .inr 0 => 1
  | .inr _ => 2
theorem rd.rc (h : rd y M b ρ n X R d) {ρ' : od_Rm} {k m : Nat} {xs : List Nat} {c g : Int32} (hk : k < 12) (hm : m ≤ 12) (hmn : ∀ i, i < m → i ≠ k → i < n) (hb : od_Bd ρ') (hf : ∀ q, q ∉ [8 + k] → ρ' q = ρ q) (hx : od_hl ρ' (8 + k) xs) (hW : tm_W xs) : rd y M (c, nI m, g, b.2.2.2) ρ' m X (va_up R k xs) d := by
  obtain ⟨h1, h2, h3, h4, h5, h6, h7, h8, h9⟩ := h
  refine ⟨h1, h2, h3, hb, fun i hi => ⟨(h5 i hi).1.fr (hf _ (od_n1 (by omega))), (h5 i hi).2⟩, fun i hi => ?_, hm, rfl, h9⟩
  by_cases e : i = k
  · subst e; rw [va_up_self]; exact ⟨hx, hW⟩
  · rw [va_up_ne _ _ e]; exact ⟨(h6 i (hmn i hi e)).1.fr (hf _ (od_n1 (by omega))), (h6 i (hmn i hi e)).2⟩
theorem md_recs {m : Int32} : od_set (md M y b fu ρ) y (od_ob 8 [.int b.1, .ref (y + 1), .ref (y + 2), .int (if fu = true then 1 else 0), .int m, .int b.2.2.1, .ref (y + 3), .ref (y + 4), .ref (y + 5), .ref (y + 6), .ref (y + 7)]) = md M y (b.1, m, b.2.2) fu ρ := md_ob (b' := (b.1, m, b.2.2)) (fu' := fu) rfl
theorem ref_record (h : rd y M b ρ n X R d) (a : Int32) : od_W 4 132 0 (od_ent 132 [.ref y, .int a]) [] (md M y b fu ρ) (rd_o y M d (cs_rcode (cs_record n X R a).1) (cs_record n X R a).2.1 X (cs_record n X R a).2.2 (rd_a (cs_record n X R a).1)) := by
  have e0 : od_ent 132 [.ref y, .int a] = [some (.ref y), some (.int a)] := rfl
  rw [e0]
  unfold cs_record
  have hn := h.2.2.2.2.2.2.1
  have hrn := h.2.2.2.2.2.2.2.1
  refine od_W.rn (pc' := 2) (ls' := [some (.ref _), some (.int _)]) (st' := [.int _, .ref _]) 2 rfl ?_
  refine od_rSt (as := [.int a]) rfl rfl rfl rfl (Nat.le_of_ble_eq_true rfl) (Nat.le_of_ble_eq_true rfl) (ct_noSlot a) (Nat.le_of_ble_eq_true rfl) (fun o M1 hq => ?_)
  obtain ⟨rfl, rfl⟩ := hq
  refine od_K.ret ?_
  rcases sl_is (m := 8) (by omega) a with ⟨e1, _⟩ | ⟨i, hi, rfl, e1⟩
  · rw [e1]
    refine od_r1F rfl (of_decide_eq_true rfl) (rfl) ?_
    refine od_W.rn (pc' := 26) (ls' := [some (.ref _), some (.int _)]) (st' := [.int _, .ref _]) 2 rfl ?_
    refine od_rP rfl (md_0) rfl (by simp) rfl (by decide) ?_
    rw [show od_set (md M y b fu ρ) y (od_ob 8 (List.set _ 0 (.int (Int32.ofInt 1)))) = md M y (nI 1, b.2) fu ρ from md_code]
    refine od_W.rn (pc' := 30) (ls' := [some (.ref _), some (.int _)]) (st' := [.ref _]) 1 rfl ?_
    refine od_rG rfl (md_0) rfl rfl ?_
    refine od_r1F rfl (of_decide_eq_true rfl) (rfl) ?_
    refine od_W.rn (pc' := 37) (ls' := [some (.ref _), some (.int _)]) (st' := [.int _]) 1 rfl ?_
    refine od_W.fin rfl ?_
    exact (h.cd _).o rfl ⟨_, rfl, fun w z => absurd z (by simp)⟩
  · rw [e1]
    dsimp only
    have hsi := h.2.2.2.2.1 i hi
    refine od_r1T rfl rfl (rfl) ?_
    refine od_W.rn (pc' := 13) (ls' := [some (.ref _), some (.int _)]) (st' := [.ref _, .ref _]) 1 rfl ?_
    refine od_rG rfl (md_0) rfl rfl ?_
    rw [hrn]
    refine od_W.rn (pc' := 18) (ls' := [some (.ref _), some (.int _)]) (st' := [.int _, .int _, .ref _]) 1 rfl ?_
    by_cases h12 : n < 12
    · rw [if_pos h12]
      refine od_r2T rfl rfl ((show (!decide (nI n = nI 12)) = true by rw [decide_eq_false (fun z => absurd ((nI_eq (by omega) (by omega)).mp z) (by omega))]; rfl)) ?_
      refine od_W.rn (pc' := 26) (ls' := [some (.ref _), some (.int _)]) (st' := [.int _, .ref _]) 1 rfl ?_
      refine od_rP rfl (md_0) rfl (by simp) rfl (by decide) ?_
      rw [show od_set (md M y b fu ρ) y (od_ob 8 (List.set _ 0 (.int (Int32.ofInt 0)))) = md M y (nI 0, b.2) fu ρ from md_code]
      refine od_W.rn (pc' := 30) (ls' := [some (.ref _), some (.int _)]) (st' := [.ref _]) 1 rfl ?_
      refine od_rG rfl (md_0) rfl rfl ?_
      refine od_r1T rfl rfl (rfl) ?_
      refine od_W.rn (pc' := 43) (ls' := [some (.ref _), some (.int _)]) (st' := [.ref _, .int _, .int _, .ref _]) 4 rfl ?_
      refine od_rG rfl (md_0) rfl rfl ?_
      refine od_W.rn (pc' := 47) (ls' := [some (.ref _), some (.int _)]) (st' := [.int _, .int _, .ref _]) 1 rfl ?_
      rw [show (Int8.ofInt 8).toInt32 + b.2.1 = nI (8 + n) by rw [hrn]; exact nI_add 8 n]
      refine od_rV (as := [.int (nI i), .int (nI (8 + n))]) rfl rfl rfl rfl (md_0) rfl (Nat.le_of_ble_eq_true rfl) (Nat.le_of_ble_eq_true rfl) (ex_copy h.2.2.2.1 (by omega) (by omega) (by omega) hsi.1) (Nat.le_of_ble_eq_true rfl) (fun o M1 hq => ?_)
      obtain ⟨rfl, ρ1, rfl, f1, b1, p1⟩ := hq
      refine od_K.ret ?_
      refine od_W.rn (pc' := 52) (ls' := [some (.ref _), some (.int _)]) (st' := [.ref _, .ref _]) 2 rfl ?_
      refine od_rG rfl (md_0) rfl rfl ?_
      refine od_W.rn (pc' := 57) (ls' := [some (.ref _), some (.int _)]) (st' := [.int _, .ref _]) 2 rfl ?_
      refine od_rP rfl (md_0) rfl (by simp) rfl (by decide) ?_
      rw [show od_set (md M y (nI 0, b.2) fu ρ1) y (od_ob 8 (List.set _ 4 (.int (b.2.1 + Int32.ofInt 1)))) = md M y (nI 0, nI (n + 1), b.2.2) fu ρ1 by rw [hrn, show nI n + Int32.ofInt 1 = nI (n + 1) from nI_inc n]; exact md_recs]
      refine od_W.rn (pc' := 61) (ls' := [some (.ref _), some (.int _)]) (st' := [.ref _]) 1 rfl ?_
      refine od_rG rfl (md_0) rfl rfl ?_
      refine od_W.fin rfl ?_
      refine ⟨M, _, fu, ρ1, d, rfl, od_eM.refl _ _, rfl, h.rc h12 (by omega) (fun j hj hne => by omega) b1 f1 p1 hsi.2, by omega, _, rfl, fun w z => ?_⟩
      exact Sum.inl.inj z
    · rw [if_neg h12]
      refine od_r2F rfl (of_decide_eq_true rfl) ((show (!decide (nI n = nI 12)) = false by rw [show n = 12 by omega, decide_eq_true rfl]; rfl)) ?_
      refine od_W.rn (pc' := 26) (ls' := [some (.ref _), some (.int _)]) (st' := [.int _, .ref _]) 2 rfl ?_
      refine od_rP rfl (md_0) rfl (by simp) rfl (by decide) ?_
      rw [show od_set (md M y b fu ρ) y (od_ob 8 (List.set _ 0 (.int (Int32.ofInt 2)))) = md M y (nI 2, b.2) fu ρ from md_code]
      refine od_W.rn (pc' := 30) (ls' := [some (.ref _), some (.int _)]) (st' := [.ref _]) 1 rfl ?_
      refine od_rG rfl (md_0) rfl rfl ?_
      refine od_r1F rfl (of_decide_eq_true rfl) (rfl) ?_
      refine od_W.rn (pc' := 37) (ls' := [some (.ref _), some (.int _)]) (st' := [.int _]) 1 rfl ?_
      refine od_W.fin rfl ?_
      exact (h.cd _).o rfl ⟨_, rfl, fun w z => absurd z (by simp)⟩
theorem cl_rrise (h : rd y M b ρ n X R d) (hc : b.1 = nI 0) : ∀ (m i : Nat), i + m = n → 1 ≤ i → od_W 4 133 7 [some (.ref y), some (.int (nI i))] [] (md M y b fu ρ) (rd_o y M d 0 n X R (fun o => o = .inl (some (.int (cs_rs R m i))))) := by
  have hn := h.2.2.2.2.2.2.1
  have hrn := h.2.2.2.2.2.2.2.1
  intro m
  induction m with
  | zero =>
    intro i hi h1
    refine od_W.rn (pc' := 9) (ls' := [some (.ref _), some (.int _)]) (st' := [.ref _, .int _]) 2 rfl ?_
    refine od_rG rfl (md_0) rfl rfl ?_
    rw [hrn]
    refine od_r2T rfl rfl (decide_eq_true (nI_le (by omega) (by omega))) ?_
    refine od_W.rn (pc' := 41) (ls' := [some (.ref _), some (.int _)]) (st' := [.int _]) 1 rfl ?_
    refine od_W.fin rfl ?_
    exact h.o hc rfl
  | succ m ih =>
    intro i hi h1
    have hri := h.2.2.2.2.2.1 i (by omega)
    have hrj := h.2.2.2.2.2.1 (i - 1) (by omega)
    refine od_W.rn (pc' := 9) (ls' := [some (.ref _), some (.int _)]) (st' := [.ref _, .int _]) 2 rfl ?_
    refine od_rG rfl (md_0) rfl rfl ?_
    rw [hrn]
    refine od_r2F rfl (of_decide_eq_true rfl) (decide_eq_false (nI_ge (by omega) (by omega))) ?_
    refine od_W.rn (pc' := 26) (ls' := [some (.ref _), some (.int _)]) (st' := [.int _, .int _, .ref _]) 9 rfl ?_
    rw [show (Int8.ofInt 8).toInt32 + nI i = nI (8 + i) from nI_add 8 i, show nI (8 + i) - Int32.ofInt 1 = nI (8 + (i - 1)) by rw [show 8 + (i - 1) = 8 + i - 1 by omega]; exact nI_subI (a := 1) (by omega)]
    refine od_rV (as := [.int (nI (8 + i)), .int (nI (8 + (i - 1)))]) rfl rfl rfl rfl (md_0) rfl (Nat.le_of_ble_eq_true rfl) (Nat.le_of_ble_eq_true rfl) (rt_order h.2.2.2.1 (by omega) (by omega) hri.2 hrj.2 hri.1 hrj.1) (Nat.le_of_ble_eq_true rfl) (fun o M1 hq => ?_)
    obtain ⟨rfl, rfl⟩ := hq
    refine od_K.ret ?_
    by_cases hc1 : tm_cmp (R i) (R (i - 1)) = -1
    · rw [show cs_rs R (m + 1) i = cs_rs R m (i + 1) from if_pos hc1, hc1]
      refine od_r1T rfl rfl (rfl) ?_
      refine od_W.rn (pc' := 7) (ls' := [some (.ref _), some (.int _)]) (st' := []) 2 rfl ?_
      rw [nI_inc i]
      exact ih (i + 1) (by omega) (by omega)
    · have hge : od_cond .lt (tm_cmp (R i) (R (i - 1))) 0 = false := by rcases tm_cmp_is (R i) (R (i - 1)) with z | z | z; exact absurd z hc1; rw [z]; rfl; rw [z]; rfl
      rw [show cs_rs R (m + 1) i = nI i from if_neg hc1]
      refine od_r1F rfl (of_decide_eq_true rfl) (hge) ?_
      refine od_W.rn (pc' := 33) (ls' := [some (.ref _), some (.int _)]) (st' := [.int _]) 1 rfl ?_
      refine od_W.fin rfl ?_
      exact h.o hc rfl
theorem ref_rise (h : rd y M b ρ n X R d) : od_W 4 133 0 (od_ent 133 [.ref y]) [] (md M y b fu ρ) (rd_o y M d 0 n X R (fun o => o = .inl (some (.int (cs_rise n R))))) := by
  have e0 : od_ent 133 [.ref y] = [some (.ref y), none] := rfl
  rw [e0]
  have hrn := h.2.2.2.2.2.2.2.1
  refine od_W.rn (pc' := 2) (ls' := [some (.ref _), none]) (st' := [.int _, .ref _]) 2 rfl ?_
  refine od_rP rfl (md_0) rfl (by simp) rfl (by decide) ?_
  rw [show od_set (md M y b fu ρ) y (od_ob 8 (List.set _ 0 (.int (Int32.ofInt 0)))) = md M y (nI 0, b.2) fu ρ from md_code]
  refine od_W.rn (pc' := 7) (ls' := [some (.ref _), some (.int _)]) (st' := []) 2 rfl ?_
  rcases Nat.eq_zero_or_pos n with z | z
  · subst z
    refine od_W.rn (pc' := 9) (ls' := [some (.ref _), some (.int _)]) (st' := [.ref _, .int _]) 2 rfl ?_
    refine od_rG rfl (md_0) rfl rfl ?_
    rw [hrn]
    refine od_r2T rfl rfl (rfl) ?_
    refine od_W.rn (pc' := 41) (ls' := [some (.ref _), some (.int _)]) (st' := [.int _]) 1 rfl ?_
    refine od_W.fin rfl ?_
    exact (h.cd (nI 0)).o rfl rfl
  · exact cl_rrise (h.cd (nI 0)) rfl (n - 1) 1 (by omega) (by omega)
theorem ref_wipe (h : rd y M b ρ n X R d) : od_W 4 136 0 (od_ent 136 [.ref y]) [] (md M y b fu ρ) (rd_o y M d 0 0 X R (fun o => o = .inl (some (.int (nI n))))) := by
  have e0 : od_ent 136 [.ref y] = [some (.ref y), none] := rfl
  rw [e0]
  have hrn := h.2.2.2.2.2.2.2.1
  refine od_W.rn (pc' := 2) (ls' := [some (.ref _), none]) (st' := [.int _, .ref _]) 2 rfl ?_
  refine od_rP rfl (md_0) rfl (by simp) rfl (by decide) ?_
  rw [show od_set (md M y b fu ρ) y (od_ob 8 (List.set _ 0 (.int (Int32.ofInt 0)))) = md M y (nI 0, b.2) fu ρ from md_code]
  refine od_W.rn (pc' := 6) (ls' := [some (.ref _), none]) (st' := [.ref _]) 1 rfl ?_
  refine od_rG rfl (md_0) rfl rfl ?_
  rw [hrn]
  refine od_W.rn (pc' := 12) (ls' := [some (.ref _), some (.int _)]) (st' := [.int _, .ref _]) 3 rfl ?_
  refine od_rP rfl (md_0) rfl (by simp) rfl (by decide) ?_
  rw [show od_set (md M y (nI 0, b.2) fu ρ) y (od_ob 8 (List.set _ 4 (.int (Int32.ofInt 0)))) = md M y (nI 0, nI 0, b.2.2) fu ρ from md_recs]
  refine od_W.rn (pc' := 16) (ls' := [some (.ref _), some (.int _)]) (st' := [.int _]) 1 rfl ?_
  refine od_W.fin rfl ?_
  obtain ⟨h1, h2, h3, h4, h5, h6, h7, h8, h9⟩ := h
  exact ⟨M, _, fu, ρ, d, rfl, od_eM.refl _ _, rfl, ⟨h1, h2, h3, h4, h5, fun i hi => by omega, by omega, rfl, h9⟩, by omega, rfl⟩
theorem ref_replace (h : rd y M b ρ n X R d) (i a : Int32) : od_W 4 134 0 (od_ent 134 [.ref y, .int i, .int a]) [] (md M y b fu ρ) (rd_o y M d (cs_code (cs_replace n X R i a).1) n X (cs_replace n X R i a).2 (fun o => o = .inl none)) := by
  have e0 : od_ent 134 [.ref y, .int i, .int a] = [some (.ref y), some (.int i), some (.int a)] := rfl
  rw [e0]
  unfold cs_replace
  have hn := h.2.2.2.2.2.2.1
  have hrn := h.2.2.2.2.2.2.2.1
  have bad : od_W 4 134 20 [some (.ref y), some (.int i), some (.int a)] [.ref y] (md M y b fu ρ) (rd_o y M d 1 n X R (fun o => o = .inl none)) := by
    refine od_W.rn (pc' := 25) (ls' := [some (.ref _), some (.int _), some (.int _)]) (st' := [.int _, .ref _]) 2 rfl ?_
    refine od_rP rfl (md_0) rfl (by simp) rfl (by decide) ?_
    rw [show od_set (md M y b fu ρ) y (od_ob 8 (List.set _ 0 (.int (Int32.ofInt 1)))) = md M y (nI 1, b.2) fu ρ from md_code]
    refine od_W.rn (pc' := 29) (ls' := [some (.ref _), some (.int _), some (.int _)]) (st' := [.ref _]) 1 rfl ?_
    refine od_rG rfl (md_0) rfl rfl ?_
    refine od_r1T rfl rfl (rfl) ?_
    refine od_W.fin rfl ?_
    exact (h.cd _).o rfl rfl
  refine od_W.rn (pc' := 2) (ls' := [some (.ref _), some (.int _), some (.int _)]) (st' := [.int _, .ref _]) 2 rfl ?_
  rcases sl_is (m := n) (by omega) i with ⟨e1, e2⟩ | ⟨k, hk, rfl, e1⟩
  · rw [e1]
    by_cases h0 : i < 0
    · refine od_r1T rfl rfl (decide_eq_true h0) ?_
      exact bad
    · have h8 : nI n ≤ i := e2.elim (fun z => absurd z h0) (fun z => z)
      refine od_r1F rfl (of_decide_eq_true rfl) (decide_eq_false h0) ?_
      refine od_W.rn (pc' := 7) (ls' := [some (.ref _), some (.int _), some (.int _)]) (st' := [.ref _, .int _, .ref _]) 2 rfl ?_
      refine od_rG rfl (md_0) rfl rfl ?_
      rw [hrn]
      refine od_r2T rfl rfl (decide_eq_true h8) ?_
      exact bad
  · rw [e1]
    dsimp only
    refine od_r1F rfl (of_decide_eq_true rfl) (decide_eq_false (nI_pos (by omega))) ?_
    refine od_W.rn (pc' := 7) (ls' := [some (.ref _), some (.int _), some (.int _)]) (st' := [.ref _, .int _, .ref _]) 2 rfl ?_
    refine od_rG rfl (md_0) rfl rfl ?_
    rw [hrn]
    refine od_r2F rfl (of_decide_eq_true rfl) (decide_eq_false (nI_ge hk (by omega))) ?_
    refine od_W.rn (pc' := 14) (ls' := [some (.ref _), some (.int _), some (.int _)]) (st' := [.int _, .ref _]) 1 rfl ?_
    refine od_rSt (as := [.int a]) rfl rfl rfl rfl (Nat.le_of_ble_eq_true rfl) (Nat.le_of_ble_eq_true rfl) (ct_noSlot a) (Nat.le_of_ble_eq_true rfl) (fun o M1 hq => ?_)
    obtain ⟨rfl, rfl⟩ := hq
    refine od_K.ret ?_
    rcases sl_is (m := 8) (by omega) a with ⟨e1, _⟩ | ⟨j, hj, rfl, e1⟩
    · rw [e1]
      refine od_r1F rfl (of_decide_eq_true rfl) (rfl) ?_
      exact bad
    · rw [e1]
      dsimp only
      have hsj := h.2.2.2.2.1 j hj
      refine od_r1T rfl rfl (rfl) ?_
      refine od_W.rn (pc' := 25) (ls' := [some (.ref _), some (.int _), some (.int _)]) (st' := [.int _, .ref _]) 1 rfl ?_
      refine od_rP rfl (md_0) rfl (by simp) rfl (by decide) ?_
      rw [show od_set (md M y b fu ρ) y (od_ob 8 (List.set _ 0 (.int (Int32.ofInt 0)))) = md M y (nI 0, b.2) fu ρ from md_code]
      refine od_W.rn (pc' := 29) (ls' := [some (.ref _), some (.int _), some (.int _)]) (st' := [.ref _]) 1 rfl ?_
      refine od_rG rfl (md_0) rfl rfl ?_
      refine od_r1F rfl (of_decide_eq_true rfl) (rfl) ?_
      refine od_W.rn (pc' := 41) (ls' := [some (.ref _), some (.int _), some (.int _)]) (st' := [.int _, .int _, .ref _]) 5 rfl ?_
      rw [show (Int8.ofInt 8).toInt32 + nI k = nI (8 + k) from nI_add 8 k]
      refine od_rV (as := [.int (nI j), .int (nI (8 + k))]) rfl rfl rfl rfl (md_0) rfl (Nat.le_of_ble_eq_true rfl) (Nat.le_of_ble_eq_true rfl) (ex_copy h.2.2.2.1 (by omega) (by omega) (by omega) hsj.1) (Nat.le_of_ble_eq_true rfl) (fun o M1 hq => ?_)
      obtain ⟨rfl, ρ1, rfl, f1, b1, p1⟩ := hq
      refine od_K.ret ?_
      refine od_W.fin rfl ?_
      have hh := h.rc (c := nI 0) (g := b.2.2.1) (k := k) (m := n) (by omega) hn (fun j hj _ => hj) b1 f1 p1 hsj.2
      refine ⟨M, (nI 0, b.2), fu, ρ1, d, rfl, od_eM.refl _ _, rfl, ?_, by omega, rfl⟩
      rw [show ((nI 0, b.2) : rf_B) = (nI 0, nI n, b.2.2.1, b.2.2.2) by rw [← hrn]]
      exact hh
theorem ref_recall (h : rd y M b ρ n X R d) (i to : Int32) : od_W 4 135 0 (od_ent 135 [.ref y, .int i, .int to]) [] (md M y b fu ρ) (rd_o y M d (cs_code (cs_recall n X R i to).1) n (cs_recall n X R i to).2 R (fun o => o = .inl none)) := by
  have e0 : od_ent 135 [.ref y, .int i, .int to] = [some (.ref y), some (.int i), some (.int to)] := rfl
  rw [e0]
  have hn := h.2.2.2.2.2.2.1
  have hrn := h.2.2.2.2.2.2.2.1
  have bad : od_W 4 135 20 [some (.ref y), some (.int i), some (.int to)] [.ref y] (md M y b fu ρ) (rd_o y M d 1 n X R (fun o => o = .inl none)) := by
    refine od_W.rn (pc' := 25) (ls' := [some (.ref _), some (.int _), some (.int _)]) (st' := [.int _, .ref _]) 2 rfl ?_
    refine od_rP rfl (md_0) rfl (by simp) rfl (by decide) ?_
    rw [show od_set (md M y b fu ρ) y (od_ob 8 (List.set _ 0 (.int (Int32.ofInt 1)))) = md M y (nI 1, b.2) fu ρ from md_code]
    refine od_W.rn (pc' := 29) (ls' := [some (.ref _), some (.int _), some (.int _)]) (st' := [.ref _]) 1 rfl ?_
    refine od_rG rfl (md_0) rfl rfl ?_
    refine od_r1T rfl rfl (rfl) ?_
    refine od_W.fin rfl ?_
    exact (h.cd _).o rfl rfl
  refine od_W.rn (pc' := 2) (ls' := [some (.ref _), some (.int _), some (.int _)]) (st' := [.int _, .ref _]) 2 rfl ?_
  rcases sl_is (m := n) (by omega) i with ⟨e1, e2⟩ | ⟨k, hk, rfl, e1⟩
  · have er : cs_recall n X R i to = (.inr 0, X) := by unfold cs_recall; rw [e1]; cases sl 8 to <;> rfl
    rw [er]
    by_cases h0 : i < 0
    · refine od_r1T rfl rfl (decide_eq_true h0) ?_
      exact bad
    · have h8 : nI n ≤ i := e2.elim (fun z => absurd z h0) (fun z => z)
      refine od_r1F rfl (of_decide_eq_true rfl) (decide_eq_false h0) ?_
      refine od_W.rn (pc' := 7) (ls' := [some (.ref _), some (.int _), some (.int _)]) (st' := [.ref _, .int _, .ref _]) 2 rfl ?_
      refine od_rG rfl (md_0) rfl rfl ?_
      rw [hrn]
      refine od_r2T rfl rfl (decide_eq_true h8) ?_
      exact bad
  · unfold cs_recall
    rw [e1]
    refine od_r1F rfl (of_decide_eq_true rfl) (decide_eq_false (nI_pos (by omega))) ?_
    refine od_W.rn (pc' := 7) (ls' := [some (.ref _), some (.int _), some (.int _)]) (st' := [.ref _, .int _, .ref _]) 2 rfl ?_
    refine od_rG rfl (md_0) rfl rfl ?_
    rw [hrn]
    refine od_r2F rfl (of_decide_eq_true rfl) (decide_eq_false (nI_ge hk (by omega))) ?_
    refine od_W.rn (pc' := 14) (ls' := [some (.ref _), some (.int _), some (.int _)]) (st' := [.int _, .ref _]) 1 rfl ?_
    refine od_rSt (as := [.int to]) rfl rfl rfl rfl (Nat.le_of_ble_eq_true rfl) (Nat.le_of_ble_eq_true rfl) (ct_noSlot to) (Nat.le_of_ble_eq_true rfl) (fun o M1 hq => ?_)
    obtain ⟨rfl, rfl⟩ := hq
    refine od_K.ret ?_
    rcases sl_is (m := 8) (by omega) to with ⟨e1, _⟩ | ⟨t, ht, rfl, e1⟩
    · rw [e1]
      refine od_r1F rfl (of_decide_eq_true rfl) (rfl) ?_
      exact bad
    · rw [e1]
      dsimp only
      have hrk := h.2.2.2.2.2.1 k hk
      refine od_r1T rfl rfl (rfl) ?_
      refine od_W.rn (pc' := 25) (ls' := [some (.ref _), some (.int _), some (.int _)]) (st' := [.int _, .ref _]) 1 rfl ?_
      refine od_rP rfl (md_0) rfl (by simp) rfl (by decide) ?_
      rw [show od_set (md M y b fu ρ) y (od_ob 8 (List.set _ 0 (.int (Int32.ofInt 0)))) = md M y (nI 0, b.2) fu ρ from md_code]
      refine od_W.rn (pc' := 29) (ls' := [some (.ref _), some (.int _), some (.int _)]) (st' := [.ref _]) 1 rfl ?_
      refine od_rG rfl (md_0) rfl rfl ?_
      refine od_r1F rfl (of_decide_eq_true rfl) (rfl) ?_
      refine od_W.rn (pc' := 41) (ls' := [some (.ref _), some (.int _), some (.int _)]) (st' := [.int _, .int _, .ref _]) 5 rfl ?_
      rw [show (Int8.ofInt 8).toInt32 + nI k = nI (8 + k) from nI_add 8 k]
      refine od_rV (as := [.int (nI (8 + k)), .int (nI t)]) rfl rfl rfl rfl (md_0) rfl (Nat.le_of_ble_eq_true rfl) (Nat.le_of_ble_eq_true rfl) (ex_copy h.2.2.2.1 (by omega) (by omega) (by omega) hrk.1) (Nat.le_of_ble_eq_true rfl) (fun o M1 hq => ?_)
      obtain ⟨rfl, ρ1, rfl, f1, b1, p1⟩ := hq
      refine od_K.ret ?_
      refine od_W.fin rfl ?_
      exact ((h.cd _).set ht b1 f1 p1 hrk.2).o rfl rfl
theorem ref_compare (h : rd y M b ρ n X R d) (a c : Int32) : od_W 4 124 0 (od_ent 124 [.ref y, .int a, .int c]) [] (md M y b fu ρ) (rd_o y M d (cs_code (cs_compare X a c)) n X R (rd_a (cs_compare X a c))) := by
  have e0 : od_ent 124 [.ref y, .int a, .int c] = [some (.ref y), some (.int a), some (.int c)] := rfl
  rw [e0]
  unfold cs_compare
  have bad : od_W 4 124 15 [some (.ref y), some (.int a), some (.int c)] [.ref y] (md M y b fu ρ) (rd_o y M d 1 n X R (rd_a (.inr 0))) := by
    refine od_W.rn (pc' := 20) (ls' := [some (.ref _), some (.int _), some (.int _)]) (st' := [.int _, .ref _]) 2 rfl ?_
    refine od_rP rfl (md_0) rfl (by simp) rfl (by decide) ?_
    rw [show od_set (md M y b fu ρ) y (od_ob 8 (List.set _ 0 (.int (Int32.ofInt 1)))) = md M y (nI 1, b.2) fu ρ from md_code]
    refine od_W.rn (pc' := 24) (ls' := [some (.ref _), some (.int _), some (.int _)]) (st' := [.ref _]) 1 rfl ?_
    refine od_rG rfl (md_0) rfl rfl ?_
    refine od_r1F rfl (of_decide_eq_true rfl) (rfl) ?_
    refine od_W.rn (pc' := 40) (ls' := [some (.ref _), some (.int _), some (.int _)]) (st' := [.int _]) 2 rfl ?_
    refine od_W.fin rfl ?_
    exact (h.cd _).o rfl ⟨_, rfl, fun w z => absurd z (by simp)⟩
  refine od_W.rn (pc' := 2) (ls' := [some (.ref _), some (.int _), some (.int _)]) (st' := [.int _, .ref _]) 2 rfl ?_
  refine od_rSt (as := [.int a]) rfl rfl rfl rfl (Nat.le_of_ble_eq_true rfl) (Nat.le_of_ble_eq_true rfl) (ct_noSlot a) (Nat.le_of_ble_eq_true rfl) (fun o M1 hq => ?_)
  obtain ⟨rfl, rfl⟩ := hq
  refine od_K.ret ?_
  rcases sl_is (m := 8) (by omega) a with ⟨e1, _⟩ | ⟨i, hi, rfl, e1⟩
  · rw [e1]
    refine od_r1T rfl rfl (rfl) ?_
    exact bad
  · rw [e1]
    dsimp only
    refine od_r1F rfl (of_decide_eq_true rfl) (rfl) ?_
    refine od_W.rn (pc' := 9) (ls' := [some (.ref _), some (.int _), some (.int _)]) (st' := [.int _, .ref _]) 1 rfl ?_
    refine od_rSt (as := [.int c]) rfl rfl rfl rfl (Nat.le_of_ble_eq_true rfl) (Nat.le_of_ble_eq_true rfl) (ct_noSlot c) (Nat.le_of_ble_eq_true rfl) (fun o M1 hq => ?_)
    obtain ⟨rfl, rfl⟩ := hq
    refine od_K.ret ?_
    rcases sl_is (m := 8) (by omega) c with ⟨e1, _⟩ | ⟨j, hj, rfl, e1⟩
    · rw [e1]
      refine od_r1F rfl (of_decide_eq_true rfl) (rfl) ?_
      exact bad
    · rw [e1]
      dsimp only
      have hsi := h.2.2.2.2.1 i hi
      have hsj := h.2.2.2.2.1 j hj
      refine od_r1T rfl rfl (rfl) ?_
      refine od_W.rn (pc' := 20) (ls' := [some (.ref _), some (.int _), some (.int _)]) (st' := [.int _, .ref _]) 1 rfl ?_
      refine od_rP rfl (md_0) rfl (by simp) rfl (by decide) ?_
      rw [show od_set (md M y b fu ρ) y (od_ob 8 (List.set _ 0 (.int (Int32.ofInt 0)))) = md M y (nI 0, b.2) fu ρ from md_code]
      refine od_W.rn (pc' := 24) (ls' := [some (.ref _), some (.int _), some (.int _)]) (st' := [.ref _]) 1 rfl ?_
      refine od_rG rfl (md_0) rfl rfl ?_
      refine od_r1T rfl rfl (rfl) ?_
      refine od_W.rn (pc' := 37) (ls' := [some (.ref _), some (.int _), some (.int _)]) (st' := [.int _, .int _, .ref _]) 3 rfl ?_
      refine od_rV (as := [.int (nI i), .int (nI j)]) rfl rfl rfl rfl (md_0) rfl (Nat.le_of_ble_eq_true rfl) (Nat.le_of_ble_eq_true rfl) (rt_order h.2.2.2.1 (by omega) (by omega) hsi.2 hsj.2 hsi.1 hsj.1) (Nat.le_of_ble_eq_true rfl) (fun o M1 hq => ?_)
      obtain ⟨rfl, rfl⟩ := hq
      refine od_K.ret ?_
      refine od_W.fin rfl ?_
      exact (h.cd _).o rfl ⟨_, rfl, fun w z => Sum.inl.inj z⟩
theorem ref_kind (h : rd y M b ρ n X R d) (a : Int32) : od_W 4 125 0 (od_ent 125 [.ref y, .int a]) [] (md M y b fu ρ) (rd_o y M d (cs_code (cs_kind X a)) n X R (rd_a (cs_kind X a))) := by
  have e0 : od_ent 125 [.ref y, .int a] = [some (.ref y), some (.int a)] := rfl
  rw [e0]
  unfold cs_kind cs_get
  refine od_W.rn (pc' := 2) (ls' := [some (.ref _), some (.int _)]) (st' := [.int _, .ref _]) 2 rfl ?_
  refine od_rSt (as := [.int a]) rfl rfl rfl rfl (Nat.le_of_ble_eq_true rfl) (Nat.le_of_ble_eq_true rfl) (ct_noSlot a) (Nat.le_of_ble_eq_true rfl) (fun o M1 hq => ?_)
  obtain ⟨rfl, rfl⟩ := hq
  refine od_K.ret ?_
  rcases sl_is (m := 8) (by omega) a with ⟨e1, _⟩ | ⟨i, hi, rfl, e1⟩
  · rw [e1]
    refine od_r1F rfl (of_decide_eq_true rfl) (rfl) ?_
    refine od_W.rn (pc' := 13) (ls' := [some (.ref _), some (.int _)]) (st' := [.int _, .ref _]) 2 rfl ?_
    refine od_rP rfl (md_0) rfl (by simp) rfl (by decide) ?_
    rw [show od_set (md M y b fu ρ) y (od_ob 8 (List.set _ 0 (.int (Int32.ofInt 1)))) = md M y (nI 1, b.2) fu ρ from md_code]
    refine od_W.rn (pc' := 17) (ls' := [some (.ref _), some (.int _)]) (st' := [.ref _]) 1 rfl ?_
    refine od_rG rfl (md_0) rfl rfl ?_
    refine od_r1F rfl (of_decide_eq_true rfl) (rfl) ?_
    refine od_W.rn (pc' := 32) (ls' := [some (.ref _), some (.int _)]) (st' := [.int _]) 2 rfl ?_
    refine od_W.fin rfl ?_
    exact (h.cd _).o rfl ⟨_, rfl, fun w z => absurd z (by simp)⟩
  · rw [e1]
    have hsi := h.2.2.2.2.1 i hi
    have hl : od_hl ρ i (tm_fl (tm_tp (X i))) := by rw [tm_fl_tp hsi.2]; exact hsi.1
    refine od_r1T rfl rfl (rfl) ?_
    refine od_W.rn (pc' := 13) (ls' := [some (.ref _), some (.int _)]) (st' := [.int _, .ref _]) 1 rfl ?_
    refine od_rP rfl (md_0) rfl (by simp) rfl (by decide) ?_
    rw [show od_set (md M y b fu ρ) y (od_ob 8 (List.set _ 0 (.int (Int32.ofInt 0)))) = md M y (nI 0, b.2) fu ρ from md_code]
    refine od_W.rn (pc' := 17) (ls' := [some (.ref _), some (.int _)]) (st' := [.ref _]) 1 rfl ?_
    refine od_rG rfl (md_0) rfl rfl ?_
    refine od_r1T rfl rfl (rfl) ?_
    refine od_W.rn (pc' := 29) (ls' := [some (.ref _), some (.int _)]) (st' := [.int _, .ref _]) 2 rfl ?_
    refine od_rV (as := [.int (nI i)]) rfl rfl rfl rfl (md_0) rfl (Nat.le_of_ble_eq_true rfl) (Nat.le_of_ble_eq_true rfl) (rt_sort h.2.2.2.1 (by omega) (tm_al_tp hsi.2) hl) (Nat.le_of_ble_eq_true rfl) (fun o M1 hq => ?_)
    obtain ⟨rfl, rfl⟩ := hq
    refine od_K.ret ?_
    refine od_W.fin rfl ?_
    exact (h.cd _).o rfl ⟨_, rfl, fun w z => Sum.inl.inj z⟩
theorem ref_size (h : rd y M b ρ n X R d) (a : Int32) : od_W 4 126 0 (od_ent 126 [.ref y, .int a]) [] (md M y b fu ρ) (rd_o y M d (cs_code (cs_size X a)) n X R (rd_a (cs_size X a))) := by
  have e0 : od_ent 126 [.ref y, .int a] = [some (.ref y), some (.int a)] := rfl
  rw [e0]
  unfold cs_size cs_get
  refine od_W.rn (pc' := 2) (ls' := [some (.ref _), some (.int _)]) (st' := [.int _, .ref _]) 2 rfl ?_
  refine od_rSt (as := [.int a]) rfl rfl rfl rfl (Nat.le_of_ble_eq_true rfl) (Nat.le_of_ble_eq_true rfl) (ct_noSlot a) (Nat.le_of_ble_eq_true rfl) (fun o M1 hq => ?_)
  obtain ⟨rfl, rfl⟩ := hq
  refine od_K.ret ?_
  rcases sl_is (m := 8) (by omega) a with ⟨e1, _⟩ | ⟨i, hi, rfl, e1⟩
  · rw [e1]
    refine od_r1F rfl (of_decide_eq_true rfl) (rfl) ?_
    refine od_W.rn (pc' := 13) (ls' := [some (.ref _), some (.int _)]) (st' := [.int _, .ref _]) 2 rfl ?_
    refine od_rP rfl (md_0) rfl (by simp) rfl (by decide) ?_
    rw [show od_set (md M y b fu ρ) y (od_ob 8 (List.set _ 0 (.int (Int32.ofInt 1)))) = md M y (nI 1, b.2) fu ρ from md_code]
    refine od_W.rn (pc' := 17) (ls' := [some (.ref _), some (.int _)]) (st' := [.ref _]) 1 rfl ?_
    refine od_rG rfl (md_0) rfl rfl ?_
    refine od_r1F rfl (of_decide_eq_true rfl) (rfl) ?_
    refine od_W.rn (pc' := 35) (ls' := [some (.ref _), some (.int _)]) (st' := [.int _]) 2 rfl ?_
    refine od_W.fin rfl ?_
    exact (h.cd _).o rfl ⟨_, rfl, fun w z => absurd z (by simp)⟩
  · rw [e1]
    have hsi := h.2.2.2.2.1 i hi
    have h60 := hsi.1.le h.2.2.2.1
    refine od_r1T rfl rfl (rfl) ?_
    refine od_W.rn (pc' := 13) (ls' := [some (.ref _), some (.int _)]) (st' := [.int _, .ref _]) 1 rfl ?_
    refine od_rP rfl (md_0) rfl (by simp) rfl (by decide) ?_
    rw [show od_set (md M y b fu ρ) y (od_ob 8 (List.set _ 0 (.int (Int32.ofInt 0)))) = md M y (nI 0, b.2) fu ρ from md_code]
    refine od_W.rn (pc' := 17) (ls' := [some (.ref _), some (.int _)]) (st' := [.ref _]) 1 rfl ?_
    refine od_rG rfl (md_0) rfl rfl ?_
    refine od_r1T rfl rfl (rfl) ?_
    refine od_W.rn (pc' := 28) (ls' := [some (.ref _), some (.int _)]) (st' := [.ref _]) 1 rfl ?_
    refine od_rG rfl (md_0) rfl rfl ?_
    refine od_W.rn (pc' := 32) (ls' := [some (.ref _), some (.int _)]) (st' := [.int _, .ref _]) 1 rfl ?_
    refine od_rIL rfl (md_2) (rfl) (by omega) (by decide) ?_
    rw [rf_row, hsi.1.n]
    refine od_W.rn (pc' := 34) (ls' := [some (.ref _), some (.int _)]) (st' := [.int _, .int _]) 1 rfl ?_
    refine od_rDidiv rfl (rfl) ((show Int32.ofInt 3 = nI 3 from rfl)) ((by omega)) ((by omega)) ((by omega)) ?_
    refine od_W.fin rfl ?_
    exact (h.cd _).o rfl ⟨_, rfl, fun w z => Sum.inl.inj z⟩
theorem ref_at (h : rd y M b ρ n X R d) (a j : Int32) : od_W 4 127 0 (od_ent 127 [.ref y, .int a, .int j]) [] (md M y b fu ρ) (rd_o y M d (cs_code (cs_at X a j)) n X R (rd_a (cs_at X a j))) := by
  have e0 : od_ent 127 [.ref y, .int a, .int j] = [some (.ref y), some (.int a), some (.int j)] := rfl
  rw [e0]
  unfold cs_at cs_get
  refine od_W.rn (pc' := 2) (ls' := [some (.ref _), some (.int _), some (.int _)]) (st' := [.int _, .ref _]) 2 rfl ?_
  refine od_rSt (as := [.int a]) rfl rfl rfl rfl (Nat.le_of_ble_eq_true rfl) (Nat.le_of_ble_eq_true rfl) (ct_noSlot a) (Nat.le_of_ble_eq_true rfl) (fun o M1 hq => ?_)
  obtain ⟨rfl, rfl⟩ := hq
  refine od_K.ret ?_
  rcases sl_is (m := 8) (by omega) a with ⟨e1, _⟩ | ⟨i, hi, rfl, e1⟩
  · rw [e1]
    refine od_r1F rfl (of_decide_eq_true rfl) (rfl) ?_
    refine od_W.rn (pc' := 13) (ls' := [some (.ref _), some (.int _), some (.int _)]) (st' := [.int _, .ref _]) 2 rfl ?_
    refine od_rP rfl (md_0) rfl (by simp) rfl (by decide) ?_
    rw [show od_set (md M y b fu ρ) y (od_ob 8 (List.set _ 0 (.int (Int32.ofInt 1)))) = md M y (nI 1, b.2) fu ρ from md_code]
    refine od_W.rn (pc' := 17) (ls' := [some (.ref _), some (.int _), some (.int _)]) (st' := [.ref _]) 1 rfl ?_
    refine od_rG rfl (md_0) rfl rfl ?_
    refine od_r1F rfl (of_decide_eq_true rfl) (rfl) ?_
    refine od_W.rn (pc' := 56) (ls' := [some (.ref _), some (.int _), some (.int _)]) (st' := [.int _]) 2 rfl ?_
    refine od_W.fin rfl ?_
    exact (h.cd _).o rfl ⟨_, rfl, fun w z => absurd z (by simp)⟩
  · rw [e1]
    have hsi := h.2.2.2.2.1 i hi
    have h60 := hsi.1.le h.2.2.2.1
    dsimp only
    refine od_r1T rfl rfl (rfl) ?_
    refine od_W.rn (pc' := 13) (ls' := [some (.ref _), some (.int _), some (.int _)]) (st' := [.int _, .ref _]) 1 rfl ?_
    refine od_rP rfl (md_0) rfl (by simp) rfl (by decide) ?_
    rw [show od_set (md M y b fu ρ) y (od_ob 8 (List.set _ 0 (.int (Int32.ofInt 0)))) = md M y (nI 0, b.2) fu ρ from md_code]
    refine od_W.rn (pc' := 17) (ls' := [some (.ref _), some (.int _), some (.int _)]) (st' := [.ref _]) 1 rfl ?_
    refine od_rG rfl (md_0) rfl rfl ?_
    refine od_r1T rfl rfl (rfl) ?_
    refine od_W.rn (pc' := 28) (ls' := [some (.ref _), some (.int _), some (.int _)]) (st' := [.int _]) 1 rfl ?_
    by_cases hj : j < 0
    · rw [if_pos (Or.inl hj)]
      refine od_r1T rfl rfl (decide_eq_true hj) ?_
      refine od_W.rn (pc' := 56) (ls' := [some (.ref _), some (.int _), some (.int _)]) (st' := [.int _]) 2 rfl ?_
      refine od_W.fin rfl ?_
      exact (h.cd _).o rfl ⟨_, rfl, fun w z => Sum.inl.inj z⟩
    · refine od_r1F rfl (of_decide_eq_true rfl) (decide_eq_false hj) ?_
      refine od_W.rn (pc' := 33) (ls' := [some (.ref _), some (.int _), some (.int _)]) (st' := [.ref _, .int _]) 2 rfl ?_
      refine od_rG rfl (md_0) rfl rfl ?_
      refine od_W.rn (pc' := 37) (ls' := [some (.ref _), some (.int _), some (.int _)]) (st' := [.int _, .ref _, .int _]) 1 rfl ?_
      refine od_rIL rfl (md_2) (rfl) (by omega) (by decide) ?_
      rw [rf_row, hsi.1.n]
      by_cases hj2 : nI (X i).length ≤ j
      · rw [if_pos (Or.inr hj2)]
        refine od_r2F rfl (of_decide_eq_true rfl) (decide_eq_false (fun z => absurd (Int32.lt_of_lt_of_le z hj2) Int32.lt_irrefl)) ?_
        refine od_W.rn (pc' := 56) (ls' := [some (.ref _), some (.int _), some (.int _)]) (st' := [.int _]) 2 rfl ?_
        refine od_W.fin rfl ?_
        exact (h.cd _).o rfl ⟨_, rfl, fun w z => Sum.inl.inj z⟩
      · rw [if_neg (fun z => z.elim hj hj2)]
        rcases pk_ix j (n := (X i).length) (by omega) with z | z | ⟨k, hk, rfl⟩
        · exact absurd z hj
        · exact absurd z hj2
        · rw [nI_clamp (by omega)]
          have hat := hsi.1.at k hk
          rw [Nat.zero_add] at hat
          refine od_r2T rfl rfl (decide_eq_true (nI_lt hk (by omega))) ?_
          refine od_W.rn (pc' := 46) (ls' := [some (.ref _), some (.int _), some (.int _)]) (st' := [.ref _]) 1 rfl ?_
          refine od_rG rfl (md_0) rfl rfl ?_
          refine od_W.rn (pc' := 55) (ls' := [some (.ref _), some (.int _), some (.int _)]) (st' := [.int _, .ref _]) 5 rfl ?_
          refine od_rIL rfl (md_1) (rf_ix i k) (by omega) (by decide) ?_
          rw [rf_fl_at ρ (by omega), hat]
          refine od_W.fin rfl ?_
          exact (h.cd _).o rfl ⟨_, rfl, fun w z => Sum.inl.inj z⟩
end RDC
