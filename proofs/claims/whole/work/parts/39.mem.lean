/-! Members of the sequence that leads to a limit. -/
def sp_dec (t : tm_T) : List Nat := if 1 < t.2 then tm_t (t.1, t.2 - 1) else []
def tm_la (ts : List tm_T) : tm_T := (ts.getLast?).getD ([], 0)
def sp_pr (ts : List tm_T) : List Nat := tm_fl ts.dropLast ++ sp_dec (tm_la ts)
def sp_bt (n : Nat) (e : List Nat) : List Nat := if n = 0 then [] else tm_t (sp_pr (tm_tp e), n)
def sp_mb (n : Nat) : Nat → List tm_T → List Nat
  | 0, _ => []
  | k + 1, ts => tm_fl ts.dropLast ++ (sp_dec (tm_la ts) ++ (if tm_k (tm_tp (tm_la ts).1) = 1 then sp_bt n (tm_la ts).1 else tm_t (sp_mb n k (tm_tp (tm_la ts).1), 1)))
def tm_cl : Nat → List Nat
  | 0 => []
  | o + 1 => [0, 1] ++ tm_cl o
theorem tm_la_snoc (ts : List tm_T) (t : tm_T) : tm_la (ts ++ [t]) = t := by unfold tm_la; rw [List.getLast?_concat]; rfl
theorem sp_pr_snoc (ts : List tm_T) (t : tm_T) : sp_pr (ts ++ [t]) = tm_fl ts ++ sp_dec t := by unfold sp_pr; rw [List.dropLast_concat, tm_la_snoc]
theorem sp_mb_snoc (n k : Nat) (ts : List tm_T) (t : tm_T) : sp_mb n (k + 1) (ts ++ [t]) = tm_fl ts ++ (sp_dec t ++ (if tm_k (tm_tp t.1) = 1 then sp_bt n t.1 else tm_t (sp_mb n k (tm_tp t.1), 1))) := by
  conv => lhs; unfold sp_mb
  rw [List.dropLast_concat, tm_la_snoc]
theorem sp_dec_W {t : tm_T} (h : tm_ok t) : tm_W (sp_dec t) := by
  have := h.2
  unfold tm_c at this
  unfold sp_dec
  split
  · exact tm_t_W ⟨h.1, by unfold tm_c; dsimp only; omega⟩
  · exact tm_nil
theorem sp_pr_W {ts : List tm_T} (h : tm_al ts) : tm_W (sp_pr ts) := by
  rcases tm_snoc ts with rfl | ⟨us, t, rfl⟩
  · exact tm_nil
  · rw [sp_pr_snoc]
    have := tm_al_app.mp h
    exact tm_append (tm_fl_W this.1) (sp_dec_W this.2.1)
theorem sp_bt_W {n : Nat} {e : List Nat} (hn : n ≤ 1000000) (h : tm_W e) : tm_W (sp_bt n e) := by
  unfold sp_bt
  split
  · exact tm_nil
  · exact tm_t_W ⟨sp_pr_W (tm_al_tp h), by unfold tm_c; dsimp only; omega⟩
theorem sp_mb_W {n : Nat} (hn : n ≤ 1000000) : ∀ (k : Nat) {ts : List tm_T}, tm_al ts → tm_W (sp_mb n k ts) := by
  intro k
  induction k with
  | zero => intro ts _; exact tm_nil
  | succ k ih =>
    intro ts h
    rcases tm_snoc ts with rfl | ⟨us, t, rfl⟩
    · exact tm_append tm_nil (tm_append tm_nil (tm_t_W ⟨ih trivial, by unfold tm_c; dsimp only; omega⟩))
    · have h2 := tm_al_app.mp h
      rw [sp_mb_snoc]
      refine tm_append (tm_fl_W h2.1) (tm_append (sp_dec_W h2.2.1) ?_)
      split
      · exact sp_bt_W hn h2.2.1.1
      · exact tm_t_W ⟨ih (tm_al_tp h2.2.1.1), by unfold tm_c; dsimp only; omega⟩
section MEM
variable {S : Nat → Bool} {M : od_M} {ρ0 : od_Rm} {a out : Nat}
theorem nI_c1 {c : Nat} (h : tm_c c) : (nI c - 1).toInt64 = lN (c - 1) := by
  unfold tm_c at h
  rw [show nI c - 1 = nI (c - 1) from nI_subI (a := 1) h.1]
  exact nI_1000 (by omega)
theorem lt_putDec {ρ : od_Rm} (hS : od_SS S) (ho : S out = true) (ha : S a = true) (na : out ≠ a) (hb : od_Bd ρ) {zs u z : List Nat} {t : tm_T} (ht : tm_ok t) (hz : od_hl ρ out zs) (hx : od_hl ρ a (u ++ (tm_t t ++ z))) {i j : Nat} (hi : i = u.length) (hj : j = i + (tm_t t).length) : od_W 2 25 0 (od_ent 25 [.ref out, .ref a, .int (nI i), .int (nI j), .long (lN (t.2 - 1))]) [] (od_cm S M ρ) (od_Re S M ρ [out] (tm_ft (zs ++ sp_dec t)) none (fun ρ' => od_hl ρ' out (zs ++ sp_dec t))) := by
  have hc := ht.2
  unfold tm_c at hc
  unfold sp_dec
  by_cases h : 1 < t.2
  · rw [if_pos h]
    exact lt_putTermAgain hS ho ha na hb hz hx hi hj (by omega) (by omega)
  · rw [if_neg h, List.append_nil]
    refine (lt_putTermAgain0 (by rw [show t.2 - 1 = 0 by omega]; exact (pk_lLE (a := 0) (b := 0) (by omega) (by omega)).mpr (by omega)) hb hz).deep (by omega) |>.mono fun o M' hh => ?_
    exact hh.mono (fun q h => h) ⟨fun _ => ⟨hz.le hb, hz.2⟩, fun _ => trivial⟩ (fun ρ' _ _ h => h)
theorem lt_putBefore {ρ : od_Rm} (hS : od_SS S) (ho : S out = true) (ha : S a = true) (na : out ≠ a) (hb : od_Bd ρ) {zs u z : List Nat} {es : List tm_T} {s : tm_T} (hs : tm_ok s) (hs0 : s.1 = []) (hz : od_hl ρ out zs) (hx : od_hl ρ a (u ++ (tm_fl es ++ (tm_t s ++ z)))) {i j : Nat} (hi : i = u.length) (hj : j = i + (tm_fl es).length + 3) : od_W 3 44 0 (od_ent 44 [.ref a, .int (nI i), .int (nI j), .ref out]) [] (od_cm S M ρ) (od_Re S M ρ [out] (tm_ft (zs ++ sp_pr (es ++ [s]))) none (fun ρ' => od_hl ρ' out (zs ++ sp_pr (es ++ [s])))) := by
  have e0 : od_ent 44 [.ref a, .int (nI i), .int (nI j), .ref out] = [some (.ref a), some (.int (nI i)), some (.int (nI j)), some (.ref out)] := rfl
  rw [e0, sp_pr_snoc, ← List.append_assoc]
  have hl3 : (tm_t s).length = 3 := by rw [tm_t_len, hs0]; rfl
  have ej : nI j - 3 = nI (j - 3) := nI_subI (a := 3) (by omega)
  have hx2 : od_hl ρ a ((u ++ tm_fl es) ++ (tm_t s ++ z)) := by rw [List.append_assoc]; exact hx
  refine od_W.rn (pc' := 6) (ls' := [some (.ref _), some (.int _), some (.int _), some (.ref _)]) (st' := [.int _, .int _, .ref _, .ref _]) 6 rfl ?_
  show od_W 3 44 6 [some (.ref a), some (.int (nI i)), some (.int (nI j)), some (.ref out)] [.int (nI j - 3), .int (nI i), .ref a, .ref out] (od_cm S M ρ) _
  rw [ej]
  refine od_rV (as := [.ref a, .int (nI i), .int (nI (j - 3))]) rfl rfl rfl rfl (od_cm_r ho) rfl (Nat.le_of_ble_eq_true rfl) (Nat.le_of_ble_eq_true rfl) (lt_putPart hS ho ha na hb hz hx hi (by omega)) (Nat.le_of_ble_eq_true rfl) (fun o M1 hq => ?_)
  refine od_Re.kp hq rfl (by simp) (od_fr0 ρ _) (tm_ft_l) (fun ρ1 f1 g1 b1 p1 k1 => ?_)
  have hx3 := hx2.fr (f1 a (od_n1 (Ne.symm na)))
  refine od_W.rn (pc' := 17) (ls' := [some (.ref _), some (.int _), some (.int _), some (.ref _)]) (st' := [.int _, .ref _, .int _, .int _, .ref _, .ref _]) 8 rfl ?_
  refine od_rV (as := [.int (nI j)]) rfl rfl rfl rfl (od_cm_r ha) rfl (Nat.le_of_ble_eq_true rfl) (Nat.le_of_ble_eq_true rfl) (lt_coefficient hS ha b1 hx3 (by rw [hj, hi, hl3, List.length_append])) (Nat.le_of_ble_eq_true rfl) (fun o M1 hq => ?_)
  obtain ⟨rfl, rfl⟩ := hq
  refine od_K.ret ?_
  refine od_W.rn (pc' := 23) (ls' := [some (.ref _), some (.int _), some (.int _), some (.ref _)]) (st' := [.long _, .int _, .int _, .ref _, .ref _]) 3 rfl ?_
  show od_W 3 44 23 [some (.ref a), some (.int (nI i)), some (.int (nI j)), some (.ref out)] [.long (nI s.2 - 1).toInt64, .int (nI j), .int (nI j - 3), .ref a, .ref out] (od_cm S M ρ1) _
  rw [ej, nI_c1 hs.2]
  refine od_rV (as := [.ref a, .int (nI (j - 3)), .int (nI j), .long (lN (s.2 - 1))]) rfl rfl rfl rfl (od_cm_r ho) rfl (Nat.le_of_ble_eq_true rfl) (Nat.le_of_ble_eq_true rfl) (lt_putDec hS ho ha na b1 hs p1 hx3 (by rw [hj, hi, List.length_append]; omega) (by rw [hl3]; omega)) (Nat.le_of_ble_eq_true rfl) (fun o M1 hq => ?_)
  refine od_Re.kp hq rfl (by simp) (g1) (fun z => z) (fun ρ2 f2 g2 b2 p2 k2 => ?_)
  refine od_W.fin rfl ?_
  exact od_Re.yes g2 b2 k2 p2
theorem cl_mb_close (hS : od_SS S) (ho : S out = true) {n f t w7 : Option Value} {oc : Nat} (hob : oc ≤ 60) : ∀ (m i : Nat) (ρ : od_Rm) (zs : List Nat), i + m = oc → od_Bd ρ → (∀ q, q ∉ [out] → ρ q = ρ0 q) → od_hl ρ out zs → od_W 4 45 128 [some (.ref a), n, some (.ref out), f, t, some (.int (nI oc)), some (.int (nI i)), w7] [] (od_cm S M ρ) (od_Re S M ρ0 [out] (tm_ft (zs ++ tm_cl m)) none (fun ρ' => od_hl ρ' out (zs ++ tm_cl m))) := by
  intro m
  induction m with
  | zero =>
    intro i ρ zs hi hb g hz
    rw [show tm_cl 0 = [] from rfl, List.append_nil]
    refine od_W.rn (pc' := 132) (ls' := [some (.ref _), _, some (.ref _), _, _, some (.int _), some (.int _), _]) (st' := [.int _, .int _]) 2 rfl ?_
    refine od_r2T rfl rfl (decide_eq_true (nI_le (by omega) (by omega))) ?_
    refine od_W.fin rfl ?_
    exact od_Re.yes g hb ⟨hz.le hb, hz.2⟩ hz
  | succ m ih =>
    intro i ρ zs hi hb g hz
    rw [show tm_cl (m + 1) = [0, 1] ++ tm_cl m from rfl, ← List.append_assoc]
    refine od_W.rn (pc' := 132) (ls' := [some (.ref _), _, some (.ref _), _, _, some (.int _), some (.int _), _]) (st' := [.int _, .int _]) 2 rfl ?_
    refine od_r2F rfl (of_decide_eq_true rfl) (decide_eq_false (nI_ge (by omega) (by omega))) ?_
    refine od_W.rn (pc' := 137) (ls' := [some (.ref _), _, some (.ref _), _, _, some (.int _), some (.int _), _]) (st' := [.long _, .ref _]) 2 rfl ?_
    refine od_rV (as := [.long (lN 1)]) rfl rfl rfl rfl (od_cm_r ho) rfl (Nat.le_of_ble_eq_true rfl) (Nat.le_of_ble_eq_true rfl) (lt_closeTerm hS ho hb hz (by omega)) (Nat.le_of_ble_eq_true rfl) (fun o M1 hq => ?_)
    refine od_Re.kp hq rfl (by simp) (g) (tm_ft_l) (fun ρ1 f1 g1 b1 p1 k1 => ?_)
    refine od_W.rn (pc' := 128) (ls' := [some (.ref _), _, some (.ref _), _, _, some (.int _), some (.int _), _]) (st' := []) 2 rfl ?_
    rw [nI_inc i]
    exact ih (i + 1) ρ1 _ (by omega) b1 g1 p1
theorem cl_mb_end {ρ : od_Rm} (hS : od_SS S) (ho : S out = true) (ha : S a = true) (na : out ≠ a) {n oc i j : Nat} (hn : n ≤ 1000000) (hob : oc ≤ 60) {zs u z : List Nat} {es : List tm_T} {s : tm_T} {lv w7 : Option Value} (hes : tm_al es) (hs : tm_ok s) (hs0 : s.1 = []) (hb : od_Bd ρ) (g : ∀ q, q ∉ [out] → ρ q = ρ0 q) (hz : od_hl ρ out zs) (hx : od_hl ρ a (u ++ (tm_fl es ++ (tm_t s ++ z)))) (hi : i = u.length) (hj : j = i + (tm_fl es).length + 3) : od_W 4 45 103 [some (.ref a), some (.int (nI n)), some (.ref out), some (.int (nI i)), some (.int (nI j)), some (.int (nI oc)), lv, w7] [] (od_cm S M ρ) (od_Re S M ρ0 [out] (tm_ft (zs ++ (sp_bt n (tm_fl (es ++ [s])) ++ tm_cl oc))) none (fun ρ' => od_hl ρ' out (zs ++ (sp_bt n (tm_fl (es ++ [s])) ++ tm_cl oc)))) := by
  have hal : tm_al (es ++ [s]) := tm_al_app.mpr ⟨hes, hs, trivial⟩
  unfold sp_bt
  rw [tm_tp_fl hal]
  by_cases h0 : n = 0
  · rw [if_pos h0, List.nil_append]
    refine od_W.rn (pc' := 104) (ls' := [some (.ref _), some (.int _), some (.ref _), some (.int _), some (.int _), some (.int _), _, _]) (st' := [.int _]) 1 rfl ?_
    refine od_r1T rfl rfl (decide_eq_true (by rw [h0]; exact Int32.le_refl _)) ?_
    refine od_W.rn (pc' := 128) (ls' := [some (.ref _), some (.int _), some (.ref _), some (.int _), some (.int _), some (.int _), some (.int _), _]) (st' := []) 2 rfl ?_
    exact cl_mb_close hS ho hob oc 0 ρ zs (by omega) hb g hz
  · rw [if_neg h0]
    have e : zs ++ (tm_t (sp_pr (es ++ [s]), n) ++ tm_cl oc) = (((zs ++ [1]) ++ sp_pr (es ++ [s])) ++ [0, n]) ++ tm_cl oc := by simp [tm_t]
    rw [e]
    refine od_W.rn (pc' := 104) (ls' := [some (.ref _), some (.int _), some (.ref _), some (.int _), some (.int _), some (.int _), _, _]) (st' := [.int _]) 1 rfl ?_
    refine od_r1F rfl (of_decide_eq_true rfl) (decide_eq_false (nI_ge (a := 0) (by omega) (by omega))) ?_
    refine od_W.rn (pc' := 108) (ls' := [some (.ref _), some (.int _), some (.ref _), some (.int _), some (.int _), some (.int _), _, _]) (st' := [.ref _]) 1 rfl ?_
    refine od_rV (as := []) rfl rfl rfl rfl (od_cm_r ho) rfl (Nat.le_of_ble_eq_true rfl) (Nat.le_of_ble_eq_true rfl) (lt_openTerm hS ho hb hz) (Nat.le_of_ble_eq_true rfl) (fun o M1 hq => ?_)
    refine od_Re.kp hq rfl (by simp) (g) (fun z => tm_ft_l (tm_ft_l (tm_ft_l z))) (fun ρ1 f1 g1 b1 p1 k1 => ?_)
    have hx1 := hx.fr (f1 a (od_n1 (Ne.symm na)))
    refine od_W.rn (pc' := 116) (ls' := [some (.ref _), some (.int _), some (.ref _), some (.int _), some (.int _), some (.int _), _, _]) (st' := [.ref _, .int _, .int _, .ref _]) 4 rfl ?_
    refine od_rSt (as := [.ref a, .int (nI i), .int (nI j), .ref out]) rfl rfl rfl rfl (Nat.le_of_ble_eq_true rfl) (Nat.le_of_ble_eq_true rfl) (lt_putBefore hS ho ha na b1 hs hs0 p1 hx1 hi hj) (Nat.le_of_ble_eq_true rfl) (fun o M1 hq => ?_)
    refine od_Re.kp hq rfl (by simp) (g1) (fun z => tm_ft_l (tm_ft_l z)) (fun ρ2 f2 g2 b2 p2 k2 => ?_)
    refine od_W.rn (pc' := 122) (ls' := [some (.ref _), some (.int _), some (.ref _), some (.int _), some (.int _), some (.int _), _, _]) (st' := [.long _, .ref _]) 3 rfl ?_
    rw [nI_1000 hn]
    refine od_rV (as := [.long (lN n)]) rfl rfl rfl rfl (od_cm_r ho) rfl (Nat.le_of_ble_eq_true rfl) (Nat.le_of_ble_eq_true rfl) (lt_closeTerm hS ho b2 p2 (by omega)) (Nat.le_of_ble_eq_true rfl) (fun o M1 hq => ?_)
    refine od_Re.kp hq rfl (by simp) (g2) (tm_ft_l) (fun ρ3 f3 g3 b3 p3 k3 => ?_)
    refine od_W.rn (pc' := 128) (ls' := [some (.ref _), some (.int _), some (.ref _), some (.int _), some (.int _), some (.int _), some (.int _), _]) (st' := []) 2 rfl ?_
    exact cl_mb_close hS ho hob oc 0 ρ3 _ (by omega) b3 g3 p3
set_option maxRecDepth 100000 in
theorem cl_mb_loop (hS : od_SS S) (ho : S out = true) (ha : S a = true) (na : out ≠ a) {n : Nat} (hn : n ≤ 1000000) : ∀ (k : Nat) (ts : List tm_T) (t : tm_T) (u v : List Nat) (ρ : od_Rm) (zs : List Nat) (oc i j : Nat) (w7 : Option Value), tm_al ts → tm_ok t → t.1 ≠ [] → (tm_t t).length ≤ k → oc ≤ u.length → 2 * oc ≤ v.length → od_Bd ρ → (∀ q, q ∉ [out] → ρ q = ρ0 q) → od_hl ρ out zs → od_hl ρ a (u ++ (tm_fl ts ++ (tm_t t ++ v))) → i = u.length → j = i + (tm_fl ts).length + (tm_t t).length → od_W 4 45 18 [some (.ref a), some (.int (nI n)), some (.ref out), some (.int (nI i)), some (.int (nI j)), some (.int (nI oc)), some (.int (nI oc)), w7] [] (od_cm S M ρ) (od_Re S M ρ0 [out] (tm_ft (zs ++ (sp_mb n k (ts ++ [t]) ++ tm_cl oc))) none (fun ρ' => od_hl ρ' out (zs ++ (sp_mb n k (ts ++ [t]) ++ tm_cl oc)))) := by
  intro k
  induction k with
  | zero => intro ts t u v ρ zs oc i j w7 _ _ _ hk; rw [tm_t_len] at hk; omega
  | succ k ih =>
    intro ts t u v ρ zs oc i j w7 hal ht ht0 hk hou hov hb g hz hx hi hj
    have hl := hx.n
    have h60 := hx.le hb
    rw [List.length_append, List.length_append, List.length_append] at hl h60
    rw [sp_mb_snoc]
    have hat := hx.at
    rw [tm_at_app, ← List.append_assoc, tm_at_app, Nat.zero_add, ← hi] at hat
    have hx2 : od_hl ρ a ((u ++ tm_fl ts) ++ (tm_t t ++ v)) := by rw [List.append_assoc]; exact hx
    have hW := ht.1
    obtain ⟨ee, he1, he2⟩ := tm_terms hW
    rw [tm_t_len] at hl h60 hk hj
    refine od_W.rn (pc' := 22) (ls' := [some (.ref _), some (.int _), some (.ref _), some (.int _), some (.int _), some (.int _), some (.int _), _]) (st' := [.int _, .int _]) 2 rfl ?_
    refine od_r2F rfl (of_decide_eq_true rfl) (decide_eq_false (nI_ge (b := 20) (by omega) (by omega))) ?_
    refine od_W.rn (pc' := 29) (ls' := [some (.ref _), some (.int _), some (.ref _), some (.int _), some (.int _), some (.int _), some (.int _), _]) (st' := [.int _, .int _, .ref _]) 3 rfl ?_
    refine od_rV (as := [.int (nI i), .int (nI j)]) rfl rfl rfl rfl (od_cm_r ha) rfl (Nat.le_of_ble_eq_true rfl) (Nat.le_of_ble_eq_true rfl) (ct_lastTerm hS ha (by omega) hal ht hat.2.1 (by rw [List.length_append, tm_t_len, hj]; omega)) (Nat.le_of_ble_eq_true rfl) (fun o M1 hq => ?_)
    obtain ⟨rfl, rfl⟩ := hq
    refine od_K.ret ?_
    refine od_W.rn (pc' := 39) (ls' := [some (.ref _), some (.int _), some (.ref _), some (.int _), some (.int _), some (.int _), some (.int _), some (.int _)]) (st' := [.int _, .int _, .ref _, .ref _]) 5 rfl ?_
    refine od_rV (as := [.ref a, .int (nI i), .int (nI (i + (tm_fl ts).length))]) rfl rfl rfl rfl (od_cm_r ho) rfl (Nat.le_of_ble_eq_true rfl) (Nat.le_of_ble_eq_true rfl) (lt_putPart hS ho ha na hb hz hx hi rfl) (Nat.le_of_ble_eq_true rfl) (fun o M1 hq => ?_)
    have eX : zs ++ (tm_fl ts ++ (sp_dec t ++ (if tm_k (tm_tp t.1) = 1 then sp_bt n t.1 else tm_t (sp_mb n k (tm_tp t.1), 1))) ++ tm_cl oc) = ((zs ++ tm_fl ts) ++ sp_dec t) ++ ((if tm_k (tm_tp t.1) = 1 then sp_bt n t.1 else tm_t (sp_mb n k (tm_tp t.1), 1)) ++ tm_cl oc) := by simp
    rw [eX]
    refine od_Re.kp hq rfl (by simp) (g) (fun z => tm_ft_l (tm_ft_l z)) (fun ρ1 f1 g1 b1 p1 k1 => ?_)
    have hx3 := hx2.fr (f1 a (od_n1 (Ne.symm na)))
    refine od_W.rn (pc' := 51) (ls' := [some (.ref _), some (.int _), some (.ref _), some (.int _), some (.int _), some (.int _), some (.int _), some (.int _)]) (st' := [.int _, .ref _, .int _, .int _, .ref _, .ref _]) 6 rfl ?_
    refine od_rV (as := [.int (nI j)]) rfl rfl rfl rfl (od_cm_r ha) rfl (Nat.le_of_ble_eq_true rfl) (Nat.le_of_ble_eq_true rfl) (lt_coefficient hS ha b1 hx3 (by rw [tm_t_len, List.length_append]; omega)) (Nat.le_of_ble_eq_true rfl) (fun o M1 hq => ?_)
    obtain ⟨rfl, rfl⟩ := hq
    refine od_K.ret ?_
    refine od_W.rn (pc' := 57) (ls' := [some (.ref _), some (.int _), some (.ref _), some (.int _), some (.int _), some (.int _), some (.int _), some (.int _)]) (st' := [.long _, .int _, .int _, .ref _, .ref _]) 3 rfl ?_
    show od_W 4 45 57 [some (.ref a), some (.int (nI n)), some (.ref out), some (.int (nI i)), some (.int (nI j)), some (.int (nI oc)), some (.int (nI oc)), some (.int (nI (i + (tm_fl ts).length)))] [.long (nI t.2 - 1).toInt64, .int (nI j), .int (nI (i + (tm_fl ts).length)), .ref a, .ref out] (od_cm S M ρ1) _
    rw [nI_c1 ht.2]
    refine od_rV (as := [.ref a, .int (nI (i + (tm_fl ts).length)), .int (nI j), .long (lN (t.2 - 1))]) rfl rfl rfl rfl (od_cm_r ho) rfl (Nat.le_of_ble_eq_true rfl) (Nat.le_of_ble_eq_true rfl) (lt_putDec hS ho ha na b1 ht p1 hx3 (by rw [List.length_append]; omega) (by rw [tm_t_len]; omega)) (Nat.le_of_ble_eq_true rfl) (fun o M1 hq => ?_)
    refine od_Re.kp hq rfl (by simp) (g1) (fun z => tm_ft_l z) (fun ρ2 f2 g2 b2 p2 k2 => ?_)
    have hx4 := hx3.fr (f2 a (od_n1 (Ne.symm na)))
    have hx5 : od_hl ρ2 a ((u ++ tm_fl ts ++ [1]) ++ (t.1 ++ ([0, t.2] ++ v))) := by rw [show (u ++ tm_fl ts ++ [1]) ++ (t.1 ++ ([0, t.2] ++ v)) = (u ++ tm_fl ts) ++ (tm_t t ++ v) by simp [tm_t]]; exact hx4
    refine od_W.rn (pc' := 74) (ls' := [some (.ref _), some (.int _), some (.ref _), some (.int _), some (.int _), some (.int _), some (.int _), some (.int _)]) (st' := [.int _, .int _]) 10 rfl ?_
    have e1 : nI (i + (tm_fl ts).length) + 1 = nI (i + (tm_fl ts).length + 1) := nI_1 _
    have e2 : nI j - 2 = nI (j - 2) := nI_subI (a := 2) (by omega)
    show od_W 4 45 74 [some (.ref a), some (.int (nI n)), some (.ref out), some (.int (nI (i + (tm_fl ts).length) + 1)), some (.int (nI j - 2)), some (.int (nI oc)), some (.int (nI oc)), some (.int (nI (i + (tm_fl ts).length)))] [.int (nI j - 2), .int (nI (i + (tm_fl ts).length) + 1)] (od_cm S M ρ2) _
    rw [e1, e2]
    have hpos : 0 < t.1.length := List.length_pos_iff.mpr ht0
    rcases tm_snoc ee with rfl | ⟨es, s, rfl⟩
    · exact absurd he1 ht0
    · have ha2 := tm_al_app.mp he2
      have etp : tm_tp t.1 = es ++ [s] := by rw [he1, tm_tp_fl he2]
      have hlen1 : t.1.length = (tm_fl es).length + (tm_t s).length := by rw [he1, tm_fl_snoc, List.length_append]
      have hx6 : od_hl ρ2 a ((u ++ tm_fl ts ++ [1]) ++ (tm_fl es ++ (tm_t s ++ ([0, t.2] ++ v)))) := by
        have e7 : tm_fl es ++ (tm_t s ++ ([0, t.2] ++ v)) = t.1 ++ ([0, t.2] ++ v) := by rw [he1, tm_fl_snoc, List.append_assoc]
        rw [e7]; exact hx5
      have hat6 := (tm_at_app.mp hx6.at).2
      rw [← List.append_assoc, tm_at_app, Nat.zero_add] at hat6
      have hu2 : (u ++ tm_fl ts ++ [1]).length = i + (tm_fl ts).length + 1 := by rw [List.length_append, List.length_append, hi]; rfl
      rw [hu2] at hat6
      refine od_r2F rfl (of_decide_eq_true rfl) (decide_eq_false (nI_ge (by omega) (by omega))) ?_
      refine od_W.rn (pc' := 81) (ls' := [some (.ref _), some (.int _), some (.ref _), some (.int _), some (.int _), some (.int _), some (.int _), some (.int _)]) (st' := [.int _, .int _, .ref _]) 3 rfl ?_
      refine od_rV (as := [.int (nI (i + (tm_fl ts).length + 1)), .int (nI (j - 2))]) rfl rfl rfl rfl (od_cm_r ha) rfl (Nat.le_of_ble_eq_true rfl) (Nat.le_of_ble_eq_true rfl) (ct_endsInNumber hS ha (by omega) ha2.1 ha2.2.1 hat6.1 (by rw [List.length_append, ← hlen1]; omega)) (Nat.le_of_ble_eq_true rfl) (fun o M1 hq => ?_)
      obtain ⟨rfl, rfl⟩ := hq
      refine od_K.ret ?_
      rw [etp, tm_k_snoc]
      by_cases hs0 : s.1 = []
      · rw [if_pos hs0, if_pos hs0, if_pos rfl]
        have hl3 : (tm_t s).length = 3 := by rw [tm_t_len, hs0]; rfl
        refine od_r1F rfl (of_decide_eq_true rfl) (rfl) ?_
        refine od_W.rn (pc' := 103) (ls' := [some (.ref _), some (.int _), some (.ref _), some (.int _), some (.int _), some (.int _), some (.int _), some (.int _)]) (st' := []) 1 rfl ?_
        rw [he1]
        exact cl_mb_end hS ho ha na hn (by omega) ha2.1 ha2.2.1 hs0 b2 g2 p2 hx6 hu2.symm (by omega)
      · rw [if_neg hs0, if_neg hs0, if_neg (by omega)]
        have eY : (zs ++ tm_fl ts ++ sp_dec t) ++ (tm_t (sp_mb n k (es ++ [s]), 1) ++ tm_cl oc) = ((zs ++ tm_fl ts ++ sp_dec t) ++ [1]) ++ (sp_mb n k (es ++ [s]) ++ tm_cl (oc + 1)) := by simp [tm_t, tm_cl]
        rw [eY]
        refine od_r1T rfl rfl (rfl) ?_
        refine od_W.rn (pc' := 91) (ls' := [some (.ref _), some (.int _), some (.ref _), some (.int _), some (.int _), some (.int _), some (.int _), some (.int _)]) (st' := [.ref _]) 1 rfl ?_
        refine od_rV (as := []) rfl rfl rfl rfl (od_cm_r ho) rfl (Nat.le_of_ble_eq_true rfl) (Nat.le_of_ble_eq_true rfl) (lt_openTerm hS ho b2 p2) (Nat.le_of_ble_eq_true rfl) (fun o M1 hq => ?_)
        refine od_Re.kp hq rfl (by simp) (g2) (tm_ft_l) (fun ρ3 f3 g3 b3 p3 k3 => ?_)
        have hx7 := hx6.fr (f3 a (od_n1 (Ne.symm na)))
        refine od_W.rn (pc' := 18) (ls' := [some (.ref _), some (.int _), some (.ref _), some (.int _), some (.int _), some (.int _), some (.int _), some (.int _)]) (st' := []) 3 rfl ?_
        rw [nI_inc oc]
        exact ih es s (u ++ tm_fl ts ++ [1]) ([0, t.2] ++ v) ρ3 _ (oc + 1) _ _ _ ha2.1 ha2.2.1 hs0 (by omega) (by rw [hu2]; omega) (by simp; omega) b3 g3 p3 hx7 hu2.symm (by omega)
/-- the member of number n, of a row -/
def sp_mem (n : Nat) (ts : List tm_T) : List Nat := sp_mb n (tm_fl ts).length ts
theorem lt_makeMember {ρ : od_Rm} (hS : od_SS S) (ho : S out = true) (ha : S a = true) (na : out ≠ a) {n : Nat} (hn : n ≤ 1000000) (hb : od_Bd ρ) {ts : List tm_T} (hal : tm_al ts) (hk : tm_k ts = 2) (hx : od_hl ρ a (tm_fl ts)) : od_W 4 45 0 (od_ent 45 [.ref a, .int (nI n), .ref out]) [] (od_cm S M ρ) (od_Re S M ρ [out] (tm_ft (sp_mem n ts)) none (fun ρ' => od_hl ρ' out (sp_mem n ts))) := by
  have e0 : od_ent 45 [.ref a, .int (nI n), .ref out] = [some (.ref a), some (.int (nI n)), some (.ref out), none, none, none, none, none] := rfl
  rw [e0]
  rcases tm_snoc ts with rfl | ⟨us, t, rfl⟩
  · exact absurd hk (by decide)
  · have ha2 := tm_al_app.mp hal
    have ht0 : t.1 ≠ [] := by
      intro z
      rw [tm_k_snoc, if_pos z] at hk
      omega
    refine od_W.rn (pc' := 1) (ls' := [some (.ref _), some (.int _), some (.ref _), none, none, none, none, none]) (st' := [.ref _]) 1 rfl ?_
    refine od_rV (as := []) rfl rfl rfl rfl (od_cm_r ho) rfl (Nat.le_of_ble_eq_true rfl) (Nat.le_of_ble_eq_true rfl) (lt_clear hS ho hb) (Nat.le_of_ble_eq_true rfl) (fun o M1 hq => ?_)
    refine od_Re.kp hq rfl (by simp) (od_fr0 ρ _) (fun _ => trivial) (fun ρ1 f1 g1 b1 p1 k1 => ?_)
    have hx1 := hx.fr (f1 a (od_n1 (Ne.symm na)))
    have hx2 : od_hl ρ1 a ([] ++ (tm_fl us ++ (tm_t t ++ []))) := by rw [List.nil_append, List.append_nil, ← tm_fl_snoc]; exact hx1
    refine od_W.rn (pc' := 7) (ls' := [some (.ref _), some (.int _), some (.ref _), some (.int _), none, none, none, none]) (st' := [.ref _]) 3 rfl ?_
    refine od_gL rfl rfl (ha) (hx1.n) ?_
    refine od_W.rn (pc' := 18) (ls' := [some (.ref _), some (.int _), some (.ref _), some (.int _), some (.int _), some (.int _), some (.int _), none]) (st' := []) 5 rfl ?_
    have := cl_mb_loop (M := M) (ρ0 := ρ) hS ho ha na hn (tm_fl (us ++ [t])).length us t [] [] ρ1 [] 0 0 (tm_fl (us ++ [t])).length none ha2.1 ha2.2.1 ht0 (by rw [tm_fl_snoc, List.length_append]; omega) (by omega) (by simp) b1 g1 p1 hx2 rfl (by rw [tm_fl_snoc, List.length_append]; omega)
    rw [List.nil_append, show tm_cl 0 = [] from rfl, List.append_nil] at this
    exact this
end MEM
