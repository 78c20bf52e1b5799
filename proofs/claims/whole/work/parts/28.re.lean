/-! What a call of the class comes to, told by lists: rows keep their lists but for those named; the row that is made holds its list, or there was no room. -/
/-- a list has room in a row -/
def tm_ft (xs : List Nat) : Prop := xs.length ≤ 60 ∧ tm_sm xs
theorem tm_ft_l {a b : List Nat} (h : tm_ft (a ++ b)) : tm_ft a := ⟨by have := h.1; rw [List.length_append] at this; omega, (tm_sm_app.mp h.2).1⟩
theorem tm_ft_r {a b : List Nat} (h : tm_ft (a ++ b)) : tm_ft b := ⟨by have := h.1; rw [List.length_append] at this; omega, (tm_sm_app.mp h.2).2⟩
def od_hl (ρ : od_Rm) (r : Nat) (xs : List Nat) : Prop := od_li (ρ r) xs ∧ tm_sm xs
theorem od_hl.fr {ρ ρ' : od_Rm} {r : Nat} {xs : List Nat} (h : od_hl ρ r xs) (e : ρ' r = ρ r) : od_hl ρ' r xs := by unfold od_hl; rw [e]; exact h
theorem od_hl.n {ρ : od_Rm} {r : Nat} {xs : List Nat} (h : od_hl ρ r xs) : (ρ r).1 = xs.length := h.1.1
theorem od_hl.at {ρ : od_Rm} {r : Nat} {xs : List Nat} (h : od_hl ρ r xs) : tm_at (ρ r).2 0 xs := h.1.2
theorem od_hl.le {ρ : od_Rm} {r : Nat} {xs : List Nat} (h : od_hl ρ r xs) (hb : od_Bd ρ) : xs.length ≤ 60 := h.n ▸ hb r
def od_Re (S : Nat → Bool) (M : od_M) (ρ : od_Rm) (U : List Nat) (ok : Prop) (v : Option Value) (P : od_Rm → Prop) : od_O → od_M → Prop := fun o M' =>
  ∃ ρ' : od_Rm, (∀ q, q ∉ U → ρ' q = ρ q) ∧ od_Bd ρ' ∧ ((ok ∧ o = .inl v ∧ M' = od_cm S M ρ' ∧ P ρ') ∨ (¬ ok ∧ o = .inr (2, M.1) ∧ M' = od_xm (od_cm S M ρ') 2))
section RE
variable {d k pc : Nat} {ls : od_L} {rest : List Value} {S : Nat → Bool} {M M1 : od_M} {ρ ρ0 : od_Rm} {U U0 : List Nat} {ok ok0 : Prop} {v v0 : Option Value} {P P0 : od_Rm → Prop} {o : od_O} {Q : od_O → od_M → Prop}
theorem od_Re.kq (h : od_Re S M ρ U ok v P o M1) (hh : od_hn k pc 2 = some none) (kx : ∀ ρ1, (∀ q, q ∉ U → ρ1 q = ρ q) → od_Bd ρ1 → ¬ ok → Q (.inr (2, M.1)) (od_xm (od_cm S M ρ1) 2)) (kk : ∀ ρ1, (∀ q, q ∉ U → ρ1 q = ρ q) → od_Bd ρ1 → P ρ1 → ok → od_W d k (pc + 3) ls (v.toList ++ rest) (od_cm S M ρ1) Q) : od_K d k pc ls rest Q o M1 := by
  obtain ⟨ρ1, h1, h2, h3⟩ := h
  rcases h3 with ⟨a, rfl, rfl, b⟩ | ⟨a, rfl, rfl⟩
  · exact od_K.ret (kk ρ1 h1 h2 b a)
  · exact od_K.out hh (kx ρ1 h1 h2 a)
theorem od_Re.kp (h : od_Re S M ρ U ok v P o M1) (hh : od_hn k pc 2 = some none) (hU : ∀ q, q ∈ U → q ∈ U0) (f0 : ∀ q, q ∉ U0 → ρ q = ρ0 q) (hno : ok0 → ok) (kk : ∀ ρ1, (∀ q, q ∉ U → ρ1 q = ρ q) → (∀ q, q ∉ U0 → ρ1 q = ρ0 q) → od_Bd ρ1 → P ρ1 → ok → od_W d k (pc + 3) ls (v.toList ++ rest) (od_cm S M ρ1) (od_Re S M ρ0 U0 ok0 v0 P0)) : od_K d k pc ls rest (od_Re S M ρ0 U0 ok0 v0 P0) o M1 := by
  have fr : ∀ ρ1 : od_Rm, (∀ q, q ∉ U → ρ1 q = ρ q) → ∀ q, q ∉ U0 → ρ1 q = ρ0 q := fun ρ1 h1 q hq => (h1 q (fun z => hq (hU q z))).trans (f0 q hq)
  exact h.kq hh (fun ρ1 h1 h2 h3 => ⟨ρ1, fr ρ1 h1, h2, Or.inr ⟨fun z => h3 (hno z), rfl, rfl⟩⟩) (fun ρ1 h1 h2 h3 h4 => kk ρ1 h1 (fr ρ1 h1) h2 h3 h4)
theorem od_Re.yes (f0 : ∀ q, q ∉ U0 → ρ q = ρ0 q) (hb : od_Bd ρ) (hok : ok0) (hP : P0 ρ) : od_Re S M ρ0 U0 ok0 v P0 (.inl v) (od_cm S M ρ) := ⟨ρ, f0, hb, Or.inl ⟨hok, rfl, rfl, hP⟩⟩
theorem od_Re.no (f0 : ∀ q, q ∉ U0 → ρ q = ρ0 q) (hb : od_Bd ρ) (hok : ¬ ok0) : od_Re S M ρ0 U0 ok0 v P0 (.inr (2, M.1)) (od_xm (od_cm S M ρ) 2) := ⟨ρ, f0, hb, Or.inr ⟨hok, rfl, rfl⟩⟩
theorem od_Re.mono {U' : List Nat} {ok' : Prop} {P' : od_Rm → Prop} (h : od_Re S M ρ U ok v P o M1) (hU : ∀ q, q ∈ U → q ∈ U') (hok : ok ↔ ok') (hP : ∀ ρ', (∀ q, q ∉ U → ρ' q = ρ q) → ok → P ρ' → P' ρ') : od_Re S M ρ U' ok' v P' o M1 := by
  obtain ⟨ρ1, h1, h2, h3⟩ := h
  refine ⟨ρ1, fun q hq => h1 q (fun z => hq (hU q z)), h2, ?_⟩
  rcases h3 with ⟨a, b, c, e⟩ | ⟨a, b, c⟩
  · exact Or.inl ⟨hok.mp a, b, c, hP ρ1 h1 a e⟩
  · exact Or.inr ⟨fun z => a (hok.mpr z), b, c⟩
end RE
theorem od_ap_at {f : Nat → Int32} {xs ws : List Nat} (h : tm_at f 0 xs) : tm_at (od_ap f xs.length (ws.map nI)) 0 (xs ++ ws) := by
  rw [tm_at_app]
  refine ⟨fun j hj => ?_, fun j hj => ?_⟩
  · unfold od_ap
    rw [if_neg (by omega)]
    exact h j hj
  · unfold od_ap
    rw [if_pos (by rw [List.length_map]; omega), show 0 + xs.length + j - xs.length = j by omega]
    rw [List.getD_eq_getElem?_getD, List.getD_eq_getElem?_getD, List.getElem?_map, List.getElem?_eq_getElem hj]
    rfl
theorem od_sl_map {g : Nat → Int32} {a : Nat} {w : List Nat} (h : tm_at g a w) : od_sl g a (a + w.length) = w.map nI := by
  unfold od_sl
  rw [show a + w.length - a = w.length by omega]
  apply List.ext_getElem
  · simp
  · intro j h1 h2
    simp only [List.getElem_map, List.getElem_range]
    have hj : j < w.length := by simpa using h2
    rw [h j hj, List.getD_eq_getElem?_getD, List.getElem?_eq_getElem hj]
    rfl
theorem od_Pt.ls {S : Nat → Bool} {M M1 : od_M} {ρ : od_Rm} {o : od_O} {r n : Nat} {f : Nat → Int32} {xs ws : List Nat} {zs : List Int32} {p : Prop} (hS : od_SS S) (hr : S r = true) (hb : od_Bd ρ) (hn : n = xs.length) (hat : tm_at f 0 xs) (hsm : tm_sm xs) (hz : zs = ws.map nI) (hp : p ↔ tm_sm ws) (h : od_Pt (od_cm S M ρ) r n f zs p o M1) : od_Re S M ρ [r] (tm_ft (xs ++ ws)) none (fun ρ' => od_hl ρ' r (xs ++ ws)) o M1 := by
  subst hn hz
  have hok : (p ∧ xs.length + (ws.map nI).length ≤ 60) ↔ tm_ft (xs ++ ws) := by
    unfold tm_ft
    rw [hp, List.length_append, List.length_map, tm_sm_app]
    exact ⟨fun z => ⟨z.2, hsm, z.1⟩, fun z => ⟨z.2.2, z.1⟩⟩
  have hbd : ∀ m g, m ≤ 60 → od_Bd (od_rs ρ r (m, g)) := fun m g hm q => by
    by_cases e : q = r
    · subst e; rw [od_rs_r]; exact hm
    · rw [od_rs_o e]; exact hb q
  rcases h with ⟨h1, h2, h3, h4⟩ | ⟨h1, h2, n', f', h3, h4⟩
  · refine ⟨od_rs ρ r _, fun q hq => od_rs_o (fun z => hq (by rw [z]; exact List.mem_singleton.mpr rfl)), hbd _ _ h2, Or.inl ⟨hok.mp ⟨h1, h2⟩, h3, h4.trans (od_cm_wr hS hr), ?_⟩⟩
    refine ⟨?_, tm_sm_app.mpr ⟨hsm, hp.mp h1⟩⟩
    rw [od_rs_r]
    refine ⟨by simp, od_ap_at hat⟩
  · refine ⟨od_rs ρ r (n', f'), fun q hq => od_rs_o (fun z => hq (by rw [z]; exact List.mem_singleton.mpr rfl)), hbd _ _ h3, Or.inr ⟨fun z => h1 (hok.mpr z), h2, ?_⟩⟩
    rw [h4, od_cm_wr hS hr]
section LT
variable {S : Nat → Bool} {M : od_M} {ρ : od_Rm} {r q : Nat} {xs ys : List Nat}
theorem tm_sm_one {c : Nat} : tm_sm [c] ↔ c ≤ 1000000 := by unfold tm_sm; simp
theorem od_hl.sm {ρ : od_Rm} {r : Nat} {xs : List Nat} (h : od_hl ρ r xs) : tm_sm xs := h.2
theorem lt_openTerm (hS : od_SS S) (hr : S r = true) (hb : od_Bd ρ) (hx : od_hl ρ r xs) : od_W 1 20 0 (od_ent 20 [.ref r]) [] (od_cm S M ρ) (od_Re S M ρ [r] (tm_ft (xs ++ [1])) none (fun ρ' => od_hl ρ' r (xs ++ [1]))) :=
  (ct_openTerm (od_cm_Rw hS hr (hb r))).mono fun o M1 h => h.ls hS hr hb hx.n hx.at hx.2 rfl ⟨fun _ => tm_sm_one.mpr (by omega), fun _ => trivial⟩
theorem lN_le6 {c : Nat} (hc : c < 2 ^ 63) : lN c ≤ 1000000 ↔ c ≤ 1000000 := pk_lLE (b := 1000000) hc (by omega)
theorem lt_putCoefficient (hS : od_SS S) (hr : S r = true) (hb : od_Bd ρ) (hx : od_hl ρ r xs) {c : Nat} (hc : c < 2 ^ 63) : od_W 1 22 0 (od_ent 22 [.ref r, .long (lN c)]) [] (od_cm S M ρ) (od_Re S M ρ [r] (tm_ft (xs ++ [c])) none (fun ρ' => od_hl ρ' r (xs ++ [c]))) :=
  (ct_putCoefficient (od_cm_Rw hS hr (hb r))).mono fun o M1 h => h.ls hS hr hb hx.n hx.at hx.2 (by rw [lN_i]; rfl) (by rw [tm_sm_one]; exact lN_le6 hc)
theorem lt_closeTerm (hS : od_SS S) (hr : S r = true) (hb : od_Bd ρ) (hx : od_hl ρ r xs) {c : Nat} (hc : c < 2 ^ 63) : od_W 2 21 0 (od_ent 21 [.ref r, .long (lN c)]) [] (od_cm S M ρ) (od_Re S M ρ [r] (tm_ft (xs ++ [0, c])) none (fun ρ' => od_hl ρ' r (xs ++ [0, c]))) :=
  (ct_closeTerm (od_cm_Rw hS hr (hb r))).mono fun o M1 h => h.ls hS hr hb hx.n hx.at hx.2 (by rw [lN_i]; rfl) (by rw [tm_sm_cons, tm_sm_one]; exact (lN_le6 hc).trans ⟨fun z => ⟨by omega, z⟩, fun z => z.2⟩)
theorem lt_putNumber (hS : od_SS S) (hr : S r = true) (hb : od_Bd ρ) (hx : od_hl ρ r xs) {c : Nat} (hc : c < 2 ^ 63) (h0 : 0 < c) : od_W 3 24 0 (od_ent 24 [.ref r, .long (lN c)]) [] (od_cm S M ρ) (od_Re S M ρ [r] (tm_ft (xs ++ [1, 0, c])) none (fun ρ' => od_hl ρ' r (xs ++ [1, 0, c]))) :=
  (ct_putNumber (od_cm_Rw hS hr (hb r)) (fun z => absurd ((pk_lLE (b := 0) hc (by omega)).mp z) (by omega))).mono fun o M1 h => h.ls hS hr hb hx.n hx.at hx.2 (by rw [lN_i]; rfl) (by rw [tm_sm_cons, tm_sm_cons, tm_sm_one]; exact (lN_le6 hc).trans ⟨fun z => ⟨by omega, by omega, z⟩, fun z => z.2.2⟩)
theorem lt_putNumber0 (hS : od_SS S) (hr : S r = true) (hb : od_Bd ρ) (hx : od_hl ρ r xs) {v : Int64} (hv : v ≤ 0) : od_W 0 24 0 (od_ent 24 [.ref r, .long v]) [] (od_cm S M ρ) (od_Re S M ρ [r] (tm_ft (xs ++ [])) none (fun ρ' => od_hl ρ' r (xs ++ []))) :=
  (ct_putNumber0 (od_cm_Rw hS hr (hb r)) hv).mono fun o M1 h => h.ls hS hr hb hx.n hx.at hx.2 rfl ⟨fun _ => fun x hx => (List.not_mem_nil hx).elim, fun _ => trivial⟩
/-- a part w of the row q, behind u, goes onto the row r -/
theorem lt_putPart (hS : od_SS S) (hr : S r = true) (hq : S q = true) (hne : r ≠ q) (hb : od_Bd ρ) (hx : od_hl ρ r xs) {u w z : List Nat} (hy : od_hl ρ q (u ++ (w ++ z))) {a b : Nat} (ha : a = u.length) (hbb : b = a + w.length) : od_W 0 18 0 (od_ent 18 [.ref r, .ref q, .int (nI a), .int (nI b)]) [] (od_cm S M ρ) (od_Re S M ρ [r] (tm_ft (xs ++ w)) none (fun ρ' => od_hl ρ' r (xs ++ w))) := by
  subst hbb
  subst ha
  have hl := hy.n
  have h2 := hy.at
  rw [List.length_append, List.length_append] at hl
  rw [tm_at_app, tm_at_app, Nat.zero_add] at h2
  refine (ct_putPartLe (od_cm_Rw hS hr (hb r)) (od_cm_Rw hS hq (hb q)) (od_cm_ap hS hr hq hne) (by omega) (by omega)).mono fun o M1 h => ?_
  rw [od_sl_map h2.2.1] at h
  exact h.ls hS hr hb hx.n hx.at hx.2 rfl ⟨fun _ => (tm_sm_app.mp (tm_sm_app.mp hy.2).2).1, fun _ => trivial⟩
theorem lt_becomePart (hS : od_SS S) (hr : S r = true) (hq : S q = true) (hne : r ≠ q) (hb : od_Bd ρ) {u w z : List Nat} (hy : od_hl ρ q (u ++ (w ++ z))) {a b : Nat} (ha : a = u.length) (hbb : b = a + w.length) : od_W 1 14 0 (od_ent 14 [.ref r, .ref q, .int (nI a), .int (nI b)]) [] (od_cm S M ρ) (od_Re S M ρ [r] True none (fun ρ' => od_hl ρ' r w)) := by
  subst hbb
  subst ha
  have hl := hy.n
  have h2 := hy.at
  rw [List.length_append, List.length_append] at hl
  rw [tm_at_app, tm_at_app, Nat.zero_add] at h2
  have h60 := hb q
  have hs : tm_sm w := (tm_sm_app.mp (tm_sm_app.mp hy.2).2).1
  refine (ct_becomePart (od_cm_Rw hS hr (hb r)) (od_cm_Rw hS hq (hb q)) (od_cm_ap hS hr hq hne) (od_cm_ap hS hq hr (Ne.symm hne)) (by omega) (by omega)).mono fun o M1 h => ?_
  rw [od_sl_map h2.2.1] at h
  exact (h.ls (xs := []) hS hr hb rfl (tm_at_nil _ _) (fun x hx => (List.not_mem_nil hx).elim) rfl ⟨fun _ => hs, fun _ => trivial⟩).mono (fun q h => h) ⟨fun _ => trivial, fun _ => ⟨by rw [List.nil_append]; omega, hs⟩⟩ (fun ρ' _ _ h => h)
theorem lt_become (hS : od_SS S) (hr : S r = true) (hq : S q = true) (hne : r ≠ q) (hb : od_Bd ρ) (hy : od_hl ρ q ys) : od_W 2 13 0 (od_ent 13 [.ref r, .ref q]) [] (od_cm S M ρ) (od_Re S M ρ [r] True none (fun ρ' => od_hl ρ' r ys)) := by
  refine (ct_become (od_cm_Rw hS hr (hb r)) (od_cm_Rw hS hq (hb q)) (od_cm_ap hS hr hq hne) (od_cm_ap hS hq hr (Ne.symm hne))).mono fun o M1 h => ?_
  rw [hy.n, show ys.length = 0 + ys.length by omega, od_sl_map hy.at] at h
  exact (h.ls (xs := []) hS hr hb rfl (tm_at_nil _ _) (fun x hx => (List.not_mem_nil hx).elim) rfl ⟨fun _ => hy.2, fun _ => trivial⟩).mono (fun q h => h) ⟨fun _ => trivial, fun _ => ⟨by rw [List.nil_append]; exact hy.le hb, hy.2⟩⟩ (fun ρ' _ _ h => h)
theorem lt_clear (hS : od_SS S) (hr : S r = true) (hb : od_Bd ρ) : od_W 0 12 0 (od_ent 12 [.ref r]) [] (od_cm S M ρ) (od_Re S M ρ [r] True none (fun ρ' => od_hl ρ' r [])) := by
  refine (ct_clear (od_cm_Rw hS hr (hb r))).mono fun o M1 h => ?_
  rw [od_cm_wr hS hr] at h
  obtain ⟨rfl, rfl⟩ := h
  refine od_Re.yes (fun q hq => od_rs_o (fun z => hq (by rw [z]; exact List.mem_singleton.mpr rfl))) ?_ trivial ?_
  · intro q
    by_cases e : q = r
    · subst e; rw [od_rs_r]; omega
    · rw [od_rs_o e]; exact hb q
  · refine ⟨?_, fun x hx => (List.not_mem_nil hx).elim⟩
    rw [od_rs_r]
    exact ⟨rfl, tm_at_nil _ _⟩
/-- becomeNumber, of a number that is not below 0 -/
def tm_num (c : Nat) : List Nat := if c = 0 then [] else [1, 0, c]
theorem lt_becomeNumber (hS : od_SS S) (hr : S r = true) (hb : od_Bd ρ) {c : Nat} (hc : c ≤ 1000000) : od_W 4 16 0 (od_ent 16 [.ref r, .int (nI c)]) [] (od_cm S M ρ) (od_Re S M ρ [r] True none (fun ρ' => od_hl ρ' r (tm_num c))) := by
  have e1 : (nI c).toInt64 = lN c := nI_l (by omega)
  have hnil : tm_sm [] := fun x hx => (List.not_mem_nil hx).elim
  by_cases h0 : c = 0
  · have hv : (nI c).toInt64 ≤ 0 := by rw [e1]; exact (pk_lLE (b := 0) (by omega) (by omega)).mpr (by omega)
    refine (ct_becomeNumber0 (od_cm_Rw hS hr (hb r)) hv).deep (by omega) |>.mono fun o M1 h => ?_
    refine (h.ls (xs := []) (ws := []) hS hr hb rfl (tm_at_nil _ _) hnil rfl ⟨fun _ => hnil, fun _ => trivial⟩).mono (fun q h => h) ⟨fun _ => trivial, fun _ => ⟨by simp, hnil⟩⟩ (fun ρ' _ _ h => ?_)
    unfold tm_num
    rw [if_pos h0]
    exact h
  · have hv : ¬ (nI c).toInt64 ≤ 0 := by rw [e1]; exact fun z => absurd ((pk_lLE (b := 0) (by omega) (by omega)).mp z) (by omega)
    have hs : tm_sm [1, 0, c] := by rw [tm_sm_cons, tm_sm_cons, tm_sm_one]; omega
    refine (ct_becomeNumber (od_cm_Rw hS hr (hb r)) hv).mono fun o M1 h => ?_
    rw [e1, lN_i] at h
    refine (h.ls (xs := []) (ws := [1, 0, c]) hS hr hb rfl (tm_at_nil _ _) hnil rfl ⟨fun _ => hs, fun _ => (lN_le6 (by omega)).mpr hc⟩).mono (fun q h => h) ⟨fun _ => trivial, fun _ => ⟨by simp, hs⟩⟩ (fun ρ' _ _ h => ?_)
    unfold tm_num
    rw [if_neg h0]
    exact h
end LT
