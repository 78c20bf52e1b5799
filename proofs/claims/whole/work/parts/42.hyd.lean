/-! The hydra: the way to a head. -/
theorem od_cm_set {S : Nat → Bool} {M : od_M} {ρ : od_Rm} {a : Nat} {e : od_E} (h : od_no S a) : od_set (od_cm S M ρ) a e = od_cm S (od_set M a e) ρ := by
  refine od_Meq rfl rfl (fun b => ?_)
  show va_up (od_cm S M ρ).2.2 a (some e) b = (if S b = true then _ else if S (b - 1) = true then _ else va_up M.2.2 a (some e) b)
  by_cases hb : b = a
  · subst hb
    rw [va_up_self, if_neg (by rw [h.1]; decide), if_neg (by rw [h.2]; decide), va_up_self]
  · rw [va_up_ne _ _ hb]
    show (if S b = true then _ else if S (b - 1) = true then _ else M.2.2 b) = _
    rw [va_up_ne _ _ hb]
/-- a memory that differs at most at these places -/
def od_eM (V : List Nat) (M M' : od_M) : Prop := M'.1 = M.1 ∧ M'.2.1 = M.2.1 ∧ ∀ q, q ∉ V → M'.2.2 q = M.2.2 q
theorem od_eM.refl (V : List Nat) (M : od_M) : od_eM V M M := ⟨rfl, rfl, fun _ _ => rfl⟩
theorem od_eM.tr {V : List Nat} {M M' M'' : od_M} (h : od_eM V M M') (h' : od_eM V M' M'') : od_eM V M M'' := ⟨h'.1.trans h.1, h'.2.1.trans h.2.1, fun q hq => (h'.2.2 q hq).trans (h.2.2 q hq)⟩
theorem od_eM.set {V : List Nat} {M M' : od_M} {a : Nat} {e : od_E} (h : od_eM V M M') (ha : a ∈ V) : od_eM V M (od_set M' a e) := ⟨h.1, h.2.1, fun q hq => by show va_up M'.2.2 a (some e) q = _; rw [va_up_ne _ _ (fun z => hq (by rw [z]; exact ha))]; exact h.2.2 q hq⟩
theorem od_set_s (M : od_M) (a : Nat) (e : od_E) : (od_set M a e).2.2 a = some e := va_up_self _ _ _
theorem od_set_o {M : od_M} {a b : Nat} {e : od_E} (h : b ≠ a) : (od_set M a e).2.2 b = M.2.2 b := va_up_ne _ _ h
theorem upd_s (f : Nat → Int32) (k : Nat) (v : Int32) : upd f k v k = v := if_pos rfl
theorem upd_o {f : Nat → Int32} {k j : Nat} {v : Int32} (h : j ≠ k) : upd f k v j = f j := if_neg h
section HYD
variable {S : Nat → Bool} {M : od_M} {ρ : od_Rm} {q : Nat}
theorem cl_tn_loop (hS : od_SS S) (hq' : S q = true) (hb : od_Bd ρ) {u v : List Nat} {d i0 m : Nat} (hd : d < 1000) (hi0 : i0 = u.length) : ∀ (todo done : List tm_T), tm_al todo → done.length ≤ d → od_hl ρ q (u ++ (tm_fl done ++ (tm_fl todo ++ v))) → m = i0 + (tm_fl done).length + (tm_fl todo).length → od_W 1 11 6 [some (.ref q), some (.int (nI d)), some (.int (nI i0)), some (.int (nI m)), some (.int (nI (i0 + (tm_fl done).length))), some (.int (nI done.length))] [] (od_cm S M ρ) (fun o M' => o = .inl (some (.int (if d - done.length < todo.length then nI (i0 + (tm_fl done).length + (tm_fl (todo.take (d - done.length))).length) else -1))) ∧ M' = od_cm S M ρ) := by
  intro todo
  induction todo with
  | nil =>
    intro done _ hdl hx hm
    have h60 := hx.le hb
    rw [List.length_append, List.length_append, List.length_append] at h60
    rw [show tm_fl ([] : List tm_T) = [] from rfl, List.length_nil, Nat.add_zero] at hm
    subst hm
    rw [if_neg (by simp)]
    by_cases h : done.length < d
    · refine od_W.rn (pc' := 9) (ls' := [some (.ref _), some (.int _), some (.int _), some (.int _), some (.int _), some (.int _)]) (st' := [.int _, .int _]) 2 rfl ?_
      refine od_r2F rfl (of_decide_eq_true rfl) (decide_eq_false (nI_ge h (by omega))) ?_
      refine od_W.rn (pc' := 15) (ls' := [some (.ref _), some (.int _), some (.int _), some (.int _), some (.int _), some (.int _)]) (st' := [.int _, .int _]) 2 rfl ?_
      refine od_r2T rfl rfl (decide_eq_true (nI_le (Nat.le_refl _) (by omega))) ?_
      refine od_W.rn (pc' := 35) (ls' := [some (.ref _), some (.int _), some (.int _), some (.int _), some (.int _), some (.int _)]) (st' := [.int _, .int _]) 2 rfl ?_
      refine od_r2T rfl rfl (decide_eq_true (nI_le (Nat.le_refl _) (by omega))) ?_
      refine od_W.rn (pc' := 44) (ls' := [some (.ref _), some (.int _), some (.int _), some (.int _), some (.int _), some (.int _)]) (st' := [.int _]) 1 rfl ?_
      refine od_W.fin rfl ?_
      exact ⟨rfl, rfl⟩
    · refine od_W.rn (pc' := 9) (ls' := [some (.ref _), some (.int _), some (.int _), some (.int _), some (.int _), some (.int _)]) (st' := [.int _, .int _]) 2 rfl ?_
      refine od_r2T rfl rfl (decide_eq_true (nI_le (by omega) (by omega))) ?_
      refine od_W.rn (pc' := 35) (ls' := [some (.ref _), some (.int _), some (.int _), some (.int _), some (.int _), some (.int _)]) (st' := [.int _, .int _]) 2 rfl ?_
      refine od_r2T rfl rfl (decide_eq_true (nI_le (Nat.le_refl _) (by omega))) ?_
      refine od_W.rn (pc' := 44) (ls' := [some (.ref _), some (.int _), some (.int _), some (.int _), some (.int _), some (.int _)]) (st' := [.int _]) 1 rfl ?_
      refine od_W.fin rfl ?_
      exact ⟨rfl, rfl⟩
  | cons t todo ih =>
    intro done hal hdl hx hm
    have h60 := hx.le hb
    have hx2 : od_hl ρ q ((u ++ tm_fl done) ++ (tm_t t ++ (tm_fl todo ++ v))) := by rw [tm_fl] at hx; rw [List.append_assoc, ← List.append_assoc (tm_t t)]; exact hx
    rw [tm_fl, List.length_append, List.length_append, List.length_append, List.length_append, tm_t_len] at h60
    rw [tm_fl, List.length_append, tm_t_len] at hm
    have e : i0 + (tm_fl done).length + (tm_t t).length = i0 + (tm_fl (done ++ [t])).length := by rw [tm_fl_snoc, List.length_append]; omega
    by_cases h : done.length < d
    · refine od_W.rn (pc' := 9) (ls' := [some (.ref _), some (.int _), some (.int _), some (.int _), some (.int _), some (.int _)]) (st' := [.int _, .int _]) 2 rfl ?_
      refine od_r2F rfl (of_decide_eq_true rfl) (decide_eq_false (nI_ge h (by omega))) ?_
      refine od_W.rn (pc' := 15) (ls' := [some (.ref _), some (.int _), some (.int _), some (.int _), some (.int _), some (.int _)]) (st' := [.int _, .int _]) 2 rfl ?_
      refine od_r2F rfl (of_decide_eq_true rfl) (decide_eq_false (nI_ge (by omega) (by omega))) ?_
      refine od_W.rn (pc' := 21) (ls' := [some (.ref _), some (.int _), some (.int _), some (.int _), some (.int _), some (.int _)]) (st' := [.int _, .ref _]) 2 rfl ?_
      refine od_rV (as := [.int (nI (i0 + (tm_fl done).length))]) rfl rfl rfl rfl (od_cm_r hq') rfl (Nat.le_of_ble_eq_true rfl) (Nat.le_of_ble_eq_true rfl) (lt_termEnd hS hq' hb hal.1 hx2 (by rw [List.length_append, hi0])) (Nat.le_of_ble_eq_true rfl) (fun o M1 hq => ?_)
      obtain ⟨rfl, rfl⟩ := hq
      refine od_K.ret ?_
      refine od_W.rn (pc' := 6) (ls' := [some (.ref _), some (.int _), some (.int _), some (.int _), some (.int _), some (.int _)]) (st' := []) 3 rfl ?_
      rw [e, nI_inc done.length, show done.length + 1 = (done ++ [t]).length by simp]
      refine (ih (done ++ [t]) hal.2 (by simp; omega) (by rw [tm_fl_snoc, List.append_assoc]; rw [List.append_assoc] at hx2; exact hx2) (by rw [tm_fl_snoc, List.length_append, tm_t_len]; omega)).mono fun o M' hh => ⟨?_, hh.2⟩
      rw [hh.1]
      have e3 : d - done.length = (d - (done ++ [t]).length) + 1 := by simp; omega
      rw [e3]
      by_cases h5 : d - (done ++ [t]).length < todo.length
      · have e4 : (tm_fl (List.take (d - (done ++ [t]).length + 1) (t :: todo))).length = (tm_t t).length + (tm_fl (List.take (d - (done ++ [t]).length) todo)).length := by rw [List.take_succ_cons, tm_fl, List.length_append]
        rw [if_pos h5, if_pos (by simp; simp at h5; omega), e4, ← e]
        exact congrArg (fun n => Sum.inl (some (Value.int (nI n)))) (by omega)
      · rw [if_neg h5, if_neg (by simp; simp at h5; omega)]
    · have e3 : d - done.length = 0 := by omega
      rw [e3, if_pos (by simp), List.take_zero, show tm_fl ([] : List tm_T) = [] from rfl, List.length_nil, Nat.add_zero]
      refine od_W.rn (pc' := 9) (ls' := [some (.ref _), some (.int _), some (.int _), some (.int _), some (.int _), some (.int _)]) (st' := [.int _, .int _]) 2 rfl ?_
      refine od_r2T rfl rfl (decide_eq_true (nI_le (by omega) (by omega))) ?_
      refine od_W.rn (pc' := 35) (ls' := [some (.ref _), some (.int _), some (.int _), some (.int _), some (.int _), some (.int _)]) (st' := [.int _, .int _]) 2 rfl ?_
      refine od_r2F rfl (of_decide_eq_true rfl) (decide_eq_false (nI_ge (by omega) (by omega))) ?_
      refine od_W.rn (pc' := 44) (ls' := [some (.ref _), some (.int _), some (.int _), some (.int _), some (.int _), some (.int _)]) (st' := [.int _]) 2 rfl ?_
      refine od_W.fin rfl ?_
      exact ⟨rfl, rfl⟩
theorem lt_termNumber (hS : od_SS S) (hq' : S q = true) (hb : od_Bd ρ) {u v : List Nat} {d i0 m : Nat} (hd : d < 1000) (hi0 : i0 = u.length) {ts : List tm_T} (h1 : tm_al ts) (hx : od_hl ρ q (u ++ (tm_fl ts ++ v))) (hm : m = i0 + (tm_fl ts).length) : od_W 1 11 0 (od_ent 11 [.ref q, .int (nI d), .int (nI i0), .int (nI m)]) [] (od_cm S M ρ) (fun o M' => o = .inl (some (.int (if d < ts.length then nI (i0 + (tm_fl (ts.take d)).length) else -1))) ∧ M' = od_cm S M ρ) := by
  have e0 : od_ent 11 [.ref q, .int (nI d), .int (nI i0), .int (nI m)] = [some (.ref q), some (.int (nI d)), some (.int (nI i0)), some (.int (nI m)), none, none] := rfl
  rw [e0]
  refine od_W.rn (pc' := 6) (ls' := [some (.ref _), some (.int _), some (.int _), some (.int _), some (.int _), some (.int _)]) (st' := []) 4 rfl ?_
  exact cl_tn_loop hS hq' hb hd hi0 ts [] h1 (by simp) hx (by rw [hm]; rfl)
end HYD
/-- a way through a hydra: of each level the terms before, the term, the terms behind -/
abbrev hy_P : Type := List (List tm_T × tm_T × List tm_T)
def hy_fd : Nat → Nat → List tm_T → Option hy_P
  | 0, _, _ => none
  | f + 1, w, ts => match ts.drop (w % 8) with
    | [] => none
    | t :: as => if t.1 = [] then some [(ts.take (w % 8), t, as)] else (hy_fd f (w / 8) (tm_tp t.1)).map (fun p => (ts.take (w % 8), t, as) :: p)
/-- the arrays of starts and ends tell this way, from level i on; u lies before the level's part -/
def hy_p (st en : Nat → Int32) : List Nat → Nat → List tm_T → hy_P → Prop
  | _, _, _, [] => False
  | u, i, ts, [p] => ts = p.1 ++ p.2.1 :: p.2.2 ∧ st i = nI (u.length + (tm_fl p.1).length) ∧ en i = nI (u.length + (tm_fl p.1).length + (tm_t p.2.1).length) ∧ p.2.1.1 = []
  | u, i, ts, p :: q :: r => ts = p.1 ++ p.2.1 :: p.2.2 ∧ st i = nI (u.length + (tm_fl p.1).length) ∧ en i = nI (u.length + (tm_fl p.1).length + (tm_t p.2.1).length) ∧ p.2.1.1 ≠ [] ∧ hy_p st en (u ++ tm_fl p.1 ++ [1]) (i + 1) (tm_tp p.2.1.1) (q :: r)
theorem hy_drop {ts : List tm_T} {n : Nat} {t : tm_T} {as : List tm_T} (h : ts.drop n = t :: as) : ts = ts.take n ++ t :: as ∧ n < ts.length := by
  refine ⟨by rw [← h, List.take_append_drop], ?_⟩
  rcases Nat.lt_or_ge n ts.length with z | z
  · exact z
  · rw [List.drop_eq_nil_of_le z] at h; exact absurd h (by simp)
section HYF
variable {S : Nat → Bool} {ρ : od_Rm} {x a : Nat}
abbrev od_HY (M : od_M) (x : Nat) (hl : Int32) : Prop := M.2.2 x = some (od_ob 4 [.ref (x + 1), .ref (x + 2), .int hl, .ref (x + 3), .ref (x + 5)])
/-- what a search for a head leaves -/
def hy_fo (S : Nat → Bool) (M : od_M) (ρ : od_Rm) (x : Nat) (u : List Nat) (i : Nat) (ts : List tm_T) (f w : Nat) (st en : Nat → Int32) : od_O → od_M → Prop := fun o M2 => ∃ (M' : od_M) (h : Int32) (st' en' : Nat → Int32), M2 = od_cm S M' ρ ∧ od_eM [x, x + 1, x + 2] M M' ∧ od_HY M' x h ∧ M'.2.2 (x + 1) = some (od_ia 20 st') ∧ M'.2.2 (x + 2) = some (od_ia 20 en') ∧ (∀ j, j < i → st' j = st j ∧ en' j = en j) ∧ o = .inl (some (.int (if (hy_fd f w ts).isSome then 1 else 0))) ∧ (∀ p, hy_fd f w ts = some p → h = nI (i + p.length - 1) ∧ hy_p st' en' u i ts p)
set_option maxRecDepth 100000 in
theorem cl_fh_loop (hS : od_SS S) (ha : S a = true) (hb : od_Bd ρ) (n0 : od_no S x) (n1 : od_no S (x + 1)) (n2 : od_no S (x + 2)) {wf : Int32} : ∀ (f : Nat) (ts : List tm_T) (u v : List Nat) (w i : Nat) (M : od_M) (hl : Int32) (st en : Nat → Int32) (i0 m : Nat) (w7 w8 : Option Value), tm_al ts → (tm_fl ts).length < f → w < 2 ^ 31 → i ≤ u.length → 2 * i ≤ v.length → od_hl ρ a (u ++ (tm_fl ts ++ v)) → i0 = u.length → m = i0 + (tm_fl ts).length → od_HY M x hl → M.2.2 (x + 1) = some (od_ia 20 st) → M.2.2 (x + 2) = some (od_ia 20 en) → od_W 2 48 14 [some (.ref x), some (.ref a), some (.int wf), some (.int (nI i0)), some (.int (nI m)), some (.int (nI w)), some (.int (nI i)), w7, w8] [] (od_cm S M ρ) (hy_fo S M ρ x u i ts f w st en) := by
  intro f
  induction f with
  | zero => intro ts u v w i M hl st en i0 m w7 w8 _ h; omega
  | succ f ih =>
    intro ts u v w i M hl st en i0 m w7 w8 hal hf hw hiu hiv hx hi0 hm hH hst hen
    have h60 := hx.le hb
    rw [List.length_append, List.length_append] at h60
    have h8 : w % 8 < 8 := Nat.mod_lt _ (by omega)
    by_cases h20 : i < 20
    · refine od_W.rn (pc' := 18) (ls' := [some (.ref _), some (.ref _), some (.int _), some (.int _), some (.int _), some (.int _), some (.int _), _, _]) (st' := [.int _, .int _]) 2 rfl ?_
      refine od_r2F rfl (of_decide_eq_true rfl) (decide_eq_false (nI_ge (b := 20) h20 (by omega))) ?_
      refine od_W.rn (pc' := 26) (ls' := [some (.ref _), some (.ref _), some (.int _), some (.int _), some (.int _), some (.int _), some (.int _), _, _]) (st' := [.int _, .int _, .ref _]) 3 rfl ?_
      refine od_rDirem rfl (rfl) ((show Int32.ofInt 8 = nI 8 from rfl)) ((by omega)) ((by omega)) ((by omega)) ?_
      refine od_W.rn (pc' := 30) (ls' := [some (.ref _), some (.ref _), some (.int _), some (.int _), some (.int _), some (.int _), some (.int _), _, _]) (st' := [.int _, .int _, .int _, .ref _]) 2 rfl ?_
      refine od_rV (as := [.int (nI (w % 8)), .int (nI i0), .int (nI m)]) rfl rfl rfl rfl (od_cm_r ha) rfl (Nat.le_of_ble_eq_true rfl) (Nat.le_of_ble_eq_true rfl) (lt_termNumber hS ha hb (by omega) hi0 hal hx hm) (Nat.le_of_ble_eq_true rfl) (fun o M1 hq => ?_)
      obtain ⟨rfl, rfl⟩ := hq
      refine od_K.ret ?_
      refine od_W.rn (pc' := 38) (ls' := [some (.ref _), some (.ref _), some (.int _), some (.int _), some (.int _), some (.int _), some (.int _), some (.int _), _]) (st' := [.int _, .int _]) 3 rfl ?_
      rcases hdr : ts.drop (w % 8) with _ | ⟨t, as⟩
      · have hge : ts.length ≤ w % 8 := List.drop_eq_nil_iff.mp hdr
        have hnone : hy_fd (f + 1) w ts = none := by unfold hy_fd; rw [hdr]
        rw [if_neg (by omega)]
        refine od_r2F rfl (of_decide_eq_true rfl) (rfl) ?_
        refine od_W.rn (pc' := 42) (ls' := [some (.ref _), some (.ref _), some (.int _), some (.int _), some (.int _), some (.int _), some (.int _), some (.int _), _]) (st' := [.int _]) 1 rfl ?_
        refine od_W.fin rfl ?_
        refine ⟨M, hl, st, en, rfl, od_eM.refl _ _, hH, hst, hen, fun _ _ => ⟨rfl, rfl⟩, by rw [hnone]; rfl, ?_⟩
        intro p hp
        rw [hnone] at hp
        exact absurd hp (by simp)
      · obtain ⟨hts, hlt⟩ := hy_drop hdr
        have halx := hal
        rw [hts] at halx
        have ha2 := tm_al_app.mp halx
        have efl : tm_fl ts = tm_fl (ts.take (w % 8)) ++ (tm_t t ++ tm_fl as) := by conv => lhs; rw [hts, tm_fl_app, tm_fl]
        have hlen : (tm_fl ts).length = (tm_fl (ts.take (w % 8))).length + (t.1.length + 3 + (tm_fl as).length) := by rw [efl, List.length_append, List.length_append, tm_t_len]
        have hx2 : od_hl ρ a ((u ++ tm_fl (ts.take (w % 8))) ++ (tm_t t ++ (tm_fl as ++ v))) := by rw [efl] at hx; simpa [List.append_assoc] using hx
        generalize hbs : ts.take (w % 8) = bs at *
        rw [if_pos hlt]
        refine od_r2T rfl rfl ((show (!decide (nI (i0 + (tm_fl bs).length) = -1)) = true by rw [decide_eq_false (fun z => absurd (nI_pos (n := i0 + (tm_fl bs).length) (by omega)) (by rw [z]; decide))]; rfl)) ?_
        refine od_W.rn (pc' := 46) (ls' := [some (.ref _), some (.ref _), some (.int _), some (.int _), some (.int _), some (.int _), some (.int _), some (.int _), _]) (st' := [.int _, .ref _]) 2 rfl ?_
        refine od_rV (as := [.int (nI (i0 + (tm_fl bs).length))]) rfl rfl rfl rfl (od_cm_r ha) rfl (Nat.le_of_ble_eq_true rfl) (Nat.le_of_ble_eq_true rfl) (lt_termEnd hS ha hb ha2.2.1 hx2 (by rw [List.length_append, hi0])) (Nat.le_of_ble_eq_true rfl) (fun o M1 hq => ?_)
        obtain ⟨rfl, rfl⟩ := hq
        refine od_K.ret ?_
        rw [tm_t_len]
        refine od_W.rn (pc' := 52) (ls' := [some (.ref _), some (.ref _), some (.int _), some (.int _), some (.int _), some (.int _), some (.int _), some (.int _), some (.int _)]) (st' := [.ref _]) 2 rfl ?_
        refine od_rG rfl (od_cm_o n0 hH) rfl rfl ?_
        refine od_W.rn (pc' := 59) (ls' := [some (.ref _), some (.ref _), some (.int _), some (.int _), some (.int _), some (.int _), some (.int _), some (.int _), some (.int _)]) (st' := [.int _, .int _, .ref _]) 2 rfl ?_
        refine od_rIS rfl (od_cm_o n1 hst) (rfl) (by omega) (by decide) ?_
        rw [od_cm_set n1]
        have hH1 : od_HY (od_set M (x + 1) (od_ia 20 (upd st i (nI (i0 + (tm_fl bs).length))))) x hl := (od_set_o (by omega)).trans hH
        have hen1 : (od_set M (x + 1) (od_ia 20 (upd st i (nI (i0 + (tm_fl bs).length))))).2.2 (x + 2) = some (od_ia 20 en) := (od_set_o (by omega)).trans hen
        have hst1 := od_set_s M (x + 1) (od_ia 20 (upd st i (nI (i0 + (tm_fl bs).length))))
        have eM1 : od_eM [x, x + 1, x + 2] M (od_set M (x + 1) (od_ia 20 (upd st i (nI (i0 + (tm_fl bs).length))))) := (od_eM.refl _ _).set (by simp)
        generalize hM1 : od_set M (x + 1) (od_ia 20 (upd st i (nI (i0 + (tm_fl bs).length)))) = M1 at *
        refine od_W.rn (pc' := 61) (ls' := [some (.ref _), some (.ref _), some (.int _), some (.int _), some (.int _), some (.int _), some (.int _), some (.int _), some (.int _)]) (st' := [.ref _]) 1 rfl ?_
        refine od_rG rfl (od_cm_o n0 hH1) rfl rfl ?_
        refine od_W.rn (pc' := 68) (ls' := [some (.ref _), some (.ref _), some (.int _), some (.int _), some (.int _), some (.int _), some (.int _), some (.int _), some (.int _)]) (st' := [.int _, .int _, .ref _]) 2 rfl ?_
        refine od_rIS rfl (od_cm_o n2 hen1) (rfl) (by omega) (by decide) ?_
        rw [od_cm_set n2]
        have hH2 : od_HY (od_set M1 (x + 2) (od_ia 20 (upd en i (nI (i0 + (tm_fl bs).length + (t.1.length + 3)))))) x hl := (od_set_o (by omega)).trans hH1
        have hst2 : (od_set M1 (x + 2) (od_ia 20 (upd en i (nI (i0 + (tm_fl bs).length + (t.1.length + 3)))))).2.2 (x + 1) = _ := (od_set_o (by omega)).trans hst1
        have hen2 := od_set_s M1 (x + 2) (od_ia 20 (upd en i (nI (i0 + (tm_fl bs).length + (t.1.length + 3)))))
        have eM2 := eM1.set (a := x + 2) (e := od_ia 20 (upd en i (nI (i0 + (tm_fl bs).length + (t.1.length + 3))))) (by simp)
        generalize hM2 : od_set M1 (x + 2) (od_ia 20 (upd en i (nI (i0 + (tm_fl bs).length + (t.1.length + 3))))) = M2 at *
        refine od_W.rn (pc' := 72) (ls' := [some (.ref _), some (.ref _), some (.int _), some (.int _), some (.int _), some (.int _), some (.int _), some (.int _), some (.int _)]) (st' := [.int _, .ref _]) 2 rfl ?_
        refine od_rP rfl (od_cm_o n0 hH2) rfl (by simp) rfl (by decide) ?_
        rw [od_cm_set n0]
        have hH3 : od_HY (od_set M2 x (od_ob 4 ([Value.ref (x + 1), .ref (x + 2), .int hl, .ref (x + 3), .ref (x + 5)].set 2 (.int (nI i))))) x (nI i) := od_set_s _ _ _
        have hst3 : (od_set M2 x (od_ob 4 ([Value.ref (x + 1), .ref (x + 2), .int hl, .ref (x + 3), .ref (x + 5)].set 2 (.int (nI i))))).2.2 (x + 1) = _ := (od_set_o (by omega)).trans hst2
        have hen3 : (od_set M2 x (od_ob 4 ([Value.ref (x + 1), .ref (x + 2), .int hl, .ref (x + 3), .ref (x + 5)].set 2 (.int (nI i))))).2.2 (x + 2) = _ := (od_set_o (by omega)).trans hen2
        have eM3 := eM2.set (a := x) (e := od_ob 4 ([Value.ref (x + 1), .ref (x + 2), .int hl, .ref (x + 3), .ref (x + 5)].set 2 (.int (nI i)))) (by simp)
        generalize hM3 : od_set M2 x (od_ob 4 ([Value.ref (x + 1), .ref (x + 2), .int hl, .ref (x + 3), .ref (x + 5)].set 2 (.int (nI i)))) = M3 at *
        refine od_W.rn (pc' := 81) (ls' := [some (.ref _), some (.ref _), some (.int _), some (.int _), some (.int _), some (.int _), some (.int _), some (.int _), some (.int _)]) (st' := [.int _, .int _]) 4 rfl ?_
        have es : nI (i0 + (tm_fl bs).length + (t.1.length + 3)) - nI (i0 + (tm_fl bs).length) = nI (t.1.length + 3) := by rw [nI_subI (by omega)]; congr 1; omega
        rw [es]
        by_cases ht0 : t.1 = []
        · have hsome : hy_fd (f + 1) w ts = some [(bs, t, as)] := by unfold hy_fd; rw [hdr]; dsimp only; rw [if_pos ht0, hbs]
          refine od_r2F rfl (of_decide_eq_true rfl) ((by rw [ht0]; rfl)) ?_
          refine od_W.rn (pc' := 85) (ls' := [some (.ref _), some (.ref _), some (.int _), some (.int _), some (.int _), some (.int _), some (.int _), some (.int _), some (.int _)]) (st' := [.int _]) 1 rfl ?_
          refine od_W.fin rfl ?_
          refine ⟨M3, nI i, _, _, rfl, eM3, hH3, hst3, hen3, ?_, by rw [hsome]; rfl, ?_⟩
          · intro j hj
            rw [upd_o (by omega), upd_o (by omega)]
            exact ⟨rfl, rfl⟩
          · intro p hp
            rw [hsome] at hp
            obtain rfl := Option.some.inj hp
            refine ⟨by simp, hts, ?_, ?_, ht0⟩
            · rw [upd_s, hi0]
            · rw [upd_s, hi0, tm_t_len]
        · have hpos : 0 < t.1.length := List.length_pos_iff.mpr ht0
          have hW := ha2.2.1.1
          have hrec : hy_fd (f + 1) w ts = (hy_fd f (w / 8) (tm_tp t.1)).map (fun p => (bs, t, as) :: p) := by conv => lhs; unfold hy_fd; rw [hdr]; dsimp only; rw [if_neg ht0, hbs]
          refine od_r2T rfl rfl ((show (!decide (nI (t.1.length + 3) = nI 3)) = true by rw [decide_eq_false (fun z => absurd ((nI_eq (by omega) (by omega)).mp z) (by omega))]; rfl)) ?_
          refine od_W.rn (pc' := 101) (ls' := [some (.ref _), some (.ref _), some (.int _), some (.int _), some (.int _), some (.int _), some (.int _), some (.int _), some (.int _)]) (st' := [.int _, .int _]) 10 rfl ?_
          refine od_rDidiv rfl (rfl) ((show Int32.ofInt 8 = nI 8 from rfl)) ((by omega)) ((by omega)) ((by omega)) ?_
          refine od_W.rn (pc' := 14) (ls' := [some (.ref _), some (.ref _), some (.int _), some (.int _), some (.int _), some (.int _), some (.int _), some (.int _), some (.int _)]) (st' := []) 3 rfl ?_
          have e1 : nI (i0 + (tm_fl bs).length) + 1 = nI (i0 + (tm_fl bs).length + 1) := nI_1 _
          have e2 : nI (i0 + (tm_fl bs).length + (t.1.length + 3)) - 2 = nI (i0 + (tm_fl bs).length + 1 + t.1.length) := by rw [show i0 + (tm_fl bs).length + 1 + t.1.length = i0 + (tm_fl bs).length + (t.1.length + 3) - 2 by omega]; exact nI_subI (a := 2) (by omega)
          show od_W 2 48 14 [some (.ref x), some (.ref a), some (.int wf), some (.int (nI (i0 + (tm_fl bs).length) + 1)), some (.int (nI (i0 + (tm_fl bs).length + (t.1.length + 3)) - 2)), some (.int (nI (w / 8))), some (.int (nI i + Int32.ofInt 1)), some (.int (nI (i0 + (tm_fl bs).length))), some (.int (nI (i0 + (tm_fl bs).length + (t.1.length + 3))))] [] (od_cm S M3 ρ) _
          rw [e1, e2, nI_inc i]
          have hx5 : od_hl ρ a ((u ++ tm_fl bs ++ [1]) ++ (tm_fl (tm_tp t.1) ++ ([0, t.2] ++ (tm_fl as ++ v)))) := by
            rw [tm_fl_tp hW, show (u ++ tm_fl bs ++ [1]) ++ (t.1 ++ ([0, t.2] ++ (tm_fl as ++ v))) = (u ++ tm_fl bs) ++ (tm_t t ++ (tm_fl as ++ v)) by simp [tm_t]]; exact hx2
          have hu2 : (u ++ tm_fl bs ++ [1]).length = i0 + (tm_fl bs).length + 1 := by rw [List.length_append, List.length_append, hi0]; rfl
          refine (ih (tm_tp t.1) (u ++ tm_fl bs ++ [1]) ([0, t.2] ++ (tm_fl as ++ v)) (w / 8) (i + 1) M3 (nI i) _ _ _ _ _ _ (tm_al_tp hW) (by rw [tm_fl_tp hW]; omega) (by omega) (by rw [hu2]; omega) (by simp; omega) hx5 hu2.symm (by rw [tm_fl_tp hW]) hH3 hst3 hen3).mono fun o M4 hh => ?_
          obtain ⟨M', h, st', en', q1, q2, q3, q4, q5, q6, q7, q8⟩ := hh
          refine ⟨M', h, st', en', q1, eM3.tr q2, q3, q4, q5, ?_, ?_, ?_⟩
          · intro j hj
            have := q6 j (by omega)
            rw [upd_o (by omega), upd_o (by omega)] at this
            exact this
          · rw [q7, hrec, Option.isSome_map]
          · intro p hp
            rw [hrec] at hp
            rcases hz : hy_fd f (w / 8) (tm_tp t.1) with _ | p'
            · rw [hz] at hp; exact absurd hp (by simp)
            · rw [hz] at hp
              obtain rfl := Option.some.inj hp
              obtain ⟨y1, y2⟩ := q8 p' hz
              cases p' with
              | nil => exact y2.elim
              | cons p1 pr =>
                refine ⟨by rw [y1]; simp only [List.length_cons]; congr 1; omega, hts, ?_, ?_, ht0, ?_⟩
                · rw [(q6 i (by omega)).1, upd_s, hi0]
                · rw [(q6 i (by omega)).2, upd_s, hi0, tm_t_len]
                · exact y2
    · have hts : ts = [] := by
        rcases ts with _ | ⟨t, ts⟩
        · rfl
        · rw [tm_fl, List.length_append, tm_t_len] at h60; omega
      have hnone : hy_fd (f + 1) w ts = none := by unfold hy_fd; rw [hts, List.drop_nil]
      refine od_W.rn (pc' := 18) (ls' := [some (.ref _), some (.ref _), some (.int _), some (.int _), some (.int _), some (.int _), some (.int _), _, _]) (st' := [.int _, .int _]) 2 rfl ?_
      refine od_r2T rfl rfl (decide_eq_true (nI_le (a := 20) (by omega) (by omega))) ?_
      refine od_W.rn (pc' := 111) (ls' := [some (.ref _), some (.ref _), some (.int _), some (.int _), some (.int _), some (.int _), some (.int _), _, _]) (st' := [.int _]) 1 rfl ?_
      refine od_W.fin rfl ?_
      refine ⟨M, hl, st, en, rfl, od_eM.refl _ _, hH, hst, hen, fun _ _ => ⟨rfl, rfl⟩, by rw [hnone]; rfl, ?_⟩
      intro p hp
      rw [hnone] at hp
      exact absurd hp (by simp)
theorem lt_findsHead {M : od_M} (hS : od_SS S) (ha : S a = true) (hb : od_Bd ρ) (n0 : od_no S x) (n1 : od_no S (x + 1)) (n2 : od_no S (x + 2)) {ts : List tm_T} {w : Nat} {hl : Int32} {st en : Nat → Int32} (hal : tm_al ts) (hw : w < 2 ^ 31) (hx : od_hl ρ a (tm_fl ts)) (hH : od_HY M x hl) (hst : M.2.2 (x + 1) = some (od_ia 20 st)) (hen : M.2.2 (x + 2) = some (od_ia 20 en)) : od_W 2 48 0 (od_ent 48 [.ref x, .ref a, .int (nI w)]) [] (od_cm S M ρ) (hy_fo S M ρ x [] 0 ts 61 w st en) := by
  have e0 : od_ent 48 [.ref x, .ref a, .int (nI w)] = [some (.ref x), some (.ref a), some (.int (nI w)), none, none, none, none, none, none] := rfl
  rw [e0]
  have h60 := hx.le hb
  refine od_W.rn (pc' := 3) (ls' := [some (.ref _), some (.ref _), some (.int _), some (.int _), none, none, none, none, none]) (st' := [.ref _]) 3 rfl ?_
  refine od_gL rfl rfl (ha) (hx.n) ?_
  refine od_W.rn (pc' := 14) (ls' := [some (.ref _), some (.ref _), some (.int _), some (.int _), some (.int _), some (.int _), some (.int _), none, none]) (st' := []) 5 rfl ?_
  exact cl_fh_loop hS ha hb n0 n1 n2 61 ts [] [] w 0 M hl st en 0 (tm_fl ts).length none none hal (by omega) hw (by omega) (by simp) (by simpa using hx) rfl (by omega) hH hst hen
end HYF
