/-! Building: what constructors lay, in the order of its making. -/
def ly (M : od_M) (x : Nat) (es : List od_E) (w : Nat) : od_M := (x + es.length, w, fun a => if x ≤ a ∧ a < x + es.length then es[a - x]? else M.2.2 a)
section LY
variable {M : od_M} {x w : Nat} {es : List od_E}
theorem ly_eq {es' : List od_E} {w' : Nat} (h : es = es') (hw : w = w') : ly M x es w = ly M x es' w' := by subst h; subst hw; rfl
theorem ly_at {i : Nat} {e : od_E} (h : es[i]? = some e) : (ly M x es w).2.2 (x + i) = some e := by
  have hi : i < es.length := (List.getElem?_eq_some_iff.mp h).1
  show (if x ≤ x + i ∧ x + i < x + es.length then es[x + i - x]? else M.2.2 (x + i)) = some e
  rw [if_pos ⟨by omega, by omega⟩, Nat.add_sub_cancel_left]
  exact h
theorem ly_lo {a : Nat} (h : a < x) : (ly M x es w).2.2 a = M.2.2 a := if_neg (by omega)
theorem ly_hi {a : Nat} (h : x + es.length ≤ a) : (ly M x es w).2.2 a = M.2.2 a := if_neg (by omega)
theorem ly_add {n : Nat} {e : od_E} : od_add (ly M x es w) n e = ly M x (es ++ [e]) (w + n) := by
  refine od_Meq ?_ rfl (fun a => ?_)
  · show x + es.length + 1 = x + (es ++ [e]).length
    rw [List.length_append]; rfl
  · show va_up (ly M x es w).2.2 (x + es.length) (some e) a = (if x ≤ a ∧ a < x + (es ++ [e]).length then (es ++ [e])[a - x]? else M.2.2 a)
    rw [List.length_append, List.length_singleton]
    by_cases h : a = x + es.length
    · subst h
      rw [va_up_self, if_pos ⟨by omega, by omega⟩, Nat.add_sub_cancel_left, List.getElem?_append_right (Nat.le_refl _), Nat.sub_self]
      rfl
    · rw [va_up_ne _ _ h]
      show (if x ≤ a ∧ a < x + es.length then es[a - x]? else M.2.2 a) = _
      by_cases h2 : x ≤ a ∧ a < x + es.length
      · rw [if_pos h2, if_pos ⟨h2.1, by omega⟩, List.getElem?_append_left (by omega)]
      · rw [if_neg h2, if_neg (by omega)]
theorem ly_set {i : Nat} {e : od_E} (hi : i < es.length) : od_set (ly M x es w) (x + i) e = ly M x (es.set i e) w := by
  refine od_Meq ?_ rfl (fun a => ?_)
  · show x + es.length = x + (es.set i e).length
    rw [List.length_set]
  · show va_up (ly M x es w).2.2 (x + i) (some e) a = (if x ≤ a ∧ a < x + (es.set i e).length then (es.set i e)[a - x]? else M.2.2 a)
    rw [List.length_set]
    by_cases h : a = x + i
    · subst h
      rw [va_up_self, if_pos ⟨by omega, by omega⟩, Nat.add_sub_cancel_left, List.getElem?_set_self hi]
    · rw [va_up_ne _ _ h]
      show (if x ≤ a ∧ a < x + es.length then es[a - x]? else M.2.2 a) = _
      by_cases h2 : x ≤ a ∧ a < x + es.length
      · rw [if_pos h2, if_pos h2, List.getElem?_set_ne (by omega)]
      · rw [if_neg h2, if_neg h2]
theorem ly_ly {e : od_E} {cl : List od_E} {w' : Nat} (hcl : 1 ≤ cl.length) : ly (ly M x (es ++ [e]) w) (x + es.length) cl w' = ly M x (es ++ cl) w' := by
  refine od_Meq ?_ rfl (fun a => ?_)
  · show x + es.length + cl.length = x + (es ++ cl).length
    rw [List.length_append]; omega
  · show (if x + es.length ≤ a ∧ a < x + es.length + cl.length then cl[a - (x + es.length)]? else (if x ≤ a ∧ a < x + (es ++ [e]).length then (es ++ [e])[a - x]? else M.2.2 a)) = (if x ≤ a ∧ a < x + (es ++ cl).length then (es ++ cl)[a - x]? else M.2.2 a)
    rw [List.length_append, List.length_append, List.length_singleton]
    by_cases h : x + es.length ≤ a ∧ a < x + es.length + cl.length
    · rw [if_pos h, if_pos ⟨by omega, by omega⟩, List.getElem?_append_right (by omega), show a - (x + es.length) = a - x - es.length by omega]
    · rw [if_neg h]
      by_cases h2 : x ≤ a ∧ a < x + es.length
      · rw [if_pos ⟨h2.1, by omega⟩, if_pos ⟨h2.1, by omega⟩, List.getElem?_append_left (by omega), List.getElem?_append_left (by omega)]
      · rw [if_neg (by omega), if_neg (by omega)]
theorem ly_one {e : od_E} (h1 : M.1 = x + 1) (h2 : M.2.2 x = some e) : M = ly M x [e] M.2.1 := by
  refine od_Meq h1 rfl (fun a => ?_)
  show M.2.2 a = (if x ≤ a ∧ a < x + 1 then [e][a - x]? else M.2.2 a)
  by_cases h : a = x
  · subst h
    rw [if_pos ⟨by omega, by omega⟩, Nat.sub_self, h2]
    rfl
  · rw [if_neg (by omega)]
end LY
/-- what a constructor does: it lays cl where its object lies, in K slots more -/
def ctr (d j c : Nat) (fs : List Value) (cl : Nat → List od_E) (K : Nat) : Prop := ∀ (N : od_M) (z : Nat), N.1 = z + 1 → N.2.2 z = some (od_ob c fs) → od_W d j 0 (od_ent j [.ref z]) [] N (fun o M' => o = .inl none ∧ M' = ly N z (cl z) (N.2.1 + K))
section MK
variable {d k pc : Nat} {ls : od_L} {st : List Value} {M : od_M} {Q : od_O → od_M → Prop} {x w : Nat} {es : List od_E}
theorem od_rNw {ix c : Nat} {fs : List Value} (h : od_cd k pc = some (.new ix, 3)) (hn : od_nw (od_ow k) ix = some (c, fs)) (kk : od_W d k (pc + 3) ls (.ref M.1 :: st) (od_add M fs.length (od_ob c fs)) Q) : od_W d k pc ls st M Q := by
  refine od_wX h ?_
  simp only [od_ins, od_new, hn, od_go, od_X, ↓reduceIte]
  exact kk
theorem od_rDu {a : Nat} (h : od_cd k pc = some (.dup, 1)) (kk : od_W d k (pc + 1) ls (.ref a :: .ref a :: st) M Q) : od_W d k pc ls (.ref a :: st) M Q := od_wX h kk
theorem od_rA0 {a : Nat} {ls' : od_L} (h : od_cd k pc = some (.aload_n 0, 1)) (kk : od_W d k (pc + 1) (some (.ref a) :: ls') (.ref a :: st) M Q) : od_W d k pc (some (.ref a) :: ls') st M Q := od_wX h kk
theorem od_rO {ix a j n : Nat} (h : od_cd k pc = some (.invokespecial ix, 3)) (hm : od_md (od_ow k) ix = some (j, 8, n)) (hw : (st.map fun v => v.category).sum ≤ 30) (kk : od_W d k (pc + 3) ls st M Q) : od_W d k pc ls (.ref a :: st) M Q := by
  refine od_wX h ?_
  simp only [od_ins, od_inv, hm, hw, od_go, od_X, ↓reduceIte]
  exact kk
theorem od_rNC {ix im j c K n W : Nat} {fs : List Value} {cl : Nat → List od_E} {d' : Nat} (h1 : od_cd k pc = some (.new ix, 3)) (h2 : od_cd k (pc + 3) = some (.dup, 1)) (h3 : od_cd k (pc + 4) = some (.invokespecial im, 3)) (hn : od_nw (od_ow k) ix = some (c, fs)) (hm : od_md (od_ow k) im = some (j, 2, 1)) (hc : ctr d' j c fs cl K) (hd : d' ≤ d) (hcl : 1 ≤ (cl (x + n)).length) (hlen : es.length = n) (hW : fs.length + K = W) (hw : ((Value.ref (x + n) :: st).map fun v => v.category).sum ≤ 30) (hnl : 1 ≤ od_nl j) (kk : od_W (d + 1) k (pc + 7) ls (.ref (x + n) :: st) (ly M x (es ++ cl (x + n)) (w + W)) Q) : od_W (d + 1) k pc ls st (ly M x es w) Q := by
  subst hlen
  subst hW
  refine od_rNw h1 hn ?_
  rw [ly_add]
  refine od_rDu (a := x + es.length) h2 ?_
  have hN : (ly M x (es ++ [od_ob c fs]) (w + fs.length)).1 = x + es.length + 1 := by
    show x + (es ++ [od_ob c fs]).length = _
    rw [List.length_append]; rfl
  have hob : (ly M x (es ++ [od_ob c fs]) (w + fs.length)).2.2 (x + es.length) = some (od_ob c fs) := ly_at (by rw [List.getElem?_append_right (Nat.le_refl _), Nat.sub_self]; rfl)
  refine od_rC (j := j) (as := [.ref (x + es.length)]) (rest := .ref (x + es.length) :: st) h3 ?_ (hc _ _ hN hob) hd (fun o M1 hq => ?_)
  · simp only [od_ins, od_inv, hm, ↓reduceIte]
    have e1 : ((Value.ref (x + es.length) :: Value.ref (x + es.length) :: st).take 1).reverse = [.ref (x + es.length)] := rfl
    have e2 : ((Value.ref (x + es.length) :: Value.ref (x + es.length) :: st).drop 1) = .ref (x + es.length) :: st := rfl
    rw [e1, e2]
    have er : od_rcv 2 j [.ref (x + es.length)] (ly M x (es ++ [od_ob c fs]) (w + fs.length)) = true := by
      simp only [od_rcv, hob]
      rfl
    rw [if_neg (by decide), if_neg (by decide), if_pos ⟨trivial, by simp, hw, Or.inr er, hnl⟩]
  · obtain ⟨rfl, rfl⟩ := hq
    refine od_K.ret ?_
    rw [ly_ly hcl]
    rw [show w + (fs.length + K) = w + fs.length + K by omega] at kk
    exact kk
/-- a field of its own making -/
theorem ly_new {ix im ip j c c0 f K n W : Nat} {fs fs0 : List Value} {cl : Nat → List od_E} {d' : Nat} (h0 : od_cd k pc = some (.aload_n 0, 1)) (h1 : od_cd k (pc + 1) = some (.new ix, 3)) (h2 : od_cd k (pc + 4) = some (.dup, 1)) (h3 : od_cd k (pc + 5) = some (.invokespecial im, 3)) (h4 : od_cd k (pc + 8) = some (.putfield ip, 3)) (hn : od_nw (od_ow k) ix = some (c, fs)) (hm : od_md (od_ow k) im = some (j, 2, 1)) (hf : od_fd (od_ow k) ip = some (c0, f, 3)) (hc : ctr d' j c fs cl K) (hd : d' ≤ d) (hcl : 1 ≤ (cl (x + n)).length) (hlen : es.length + 1 = n) (hW : fs.length + K = W) (hnl : 1 ≤ od_nl j) (hl : f < fs0.length) (hi : od_in k = true) (kk : od_W (d + 1) k (pc + 11) (some (.ref x) :: ls) [] (ly M x (od_ob c0 (fs0.set f (.ref (x + n))) :: (es ++ cl (x + n))) (w + W)) Q) : od_W (d + 1) k pc (some (.ref x) :: ls) [] (ly M x (od_ob c0 fs0 :: es) w) Q := by
  refine od_rA0 h0 (od_rNC h1 h2 h3 hn hm hc hd hcl hlen hW (Nat.le_of_ble_eq_true rfl) hnl ?_)
  refine od_rPF h4 (a := x) (c := c0) (fs := fs0) (ly_at (i := 0) rfl) hf hl rfl hi ?_
  have e := ly_set (M := M) (x := x) (es := (od_ob c0 fs0 :: es) ++ cl (x + n)) (w := w + W) (i := 0) (e := od_ob c0 (fs0.set f (.ref (x + n)))) (by simp)
  rw [Nat.add_zero] at e
  rw [e]
  exact kk
theorem ly_put {e : od_E} {e' : od_E} : od_set (ly M x (e :: es) w) x e' = ly M x (e' :: es) w := by
  have h := ly_set (M := M) (x := x) (es := e :: es) (w := w) (i := 0) (e := e') (by simp)
  rw [Nat.add_zero] at h
  exact h
theorem ly_arr {p2 p3 ip c0 f n m : Nat} {fs0 : List Value} {E : od_E} (h0 : od_cd k pc = some (.aload_n 0, 1)) (h1 : ∀ ls st M, od_step k (pc + 1) ls st M = od_go p2 ls (.int (nI n) :: st) M) (h2 : ∀ ls st M, od_step k p2 ls (.int (nI n) :: st) M = od_go p3 ls (.ref M.1 :: st) (od_add M n E)) (h4 : od_cd k p3 = some (.putfield ip, 3)) (hf : od_fd (od_ow k) ip = some (c0, f, 3)) (hlen : es.length + 1 = m) (hl : f < fs0.length) (hi : od_in k = true) (kk : od_W d k (p3 + 3) (some (.ref x) :: ls) [] (ly M x (od_ob c0 (fs0.set f (.ref (x + m))) :: (es ++ [E])) (w + n)) Q) : od_W d k pc (some (.ref x) :: ls) [] (ly M x (od_ob c0 fs0 :: es) w) Q := by
  subst hlen
  refine od_rA0 h0 (od_W.go (h1 _ _ _) (od_W.go (h2 _ _ _) ?_))
  rw [ly_add]
  refine od_rPF h4 (a := x) (c := c0) (fs := fs0) (ly_at (i := 0) rfl) hf hl rfl hi ?_
  rw [List.cons_append, ly_put]
  exact kk
theorem ly_zero {ip c0 f : Nat} {fs0 : List Value} (h0 : od_cd k pc = some (.aload_n 0, 1)) (h1 : od_cd k (pc + 1) = some (.iconst 0, 1)) (h2 : od_cd k (pc + 2) = some (.putfield ip, 3)) (hf : od_fd (od_ow k) ip = some (c0, f, 0)) (hl : f < fs0.length) (kk : od_W d k (pc + 5) (some (.ref x) :: ls) [] (ly M x (od_ob c0 (fs0.set f (.int (nI 0))) :: es) w) Q) : od_W d k pc (some (.ref x) :: ls) [] (ly M x (od_ob c0 fs0 :: es) w) Q := by
  refine od_rA0 h0 (od_wX h1 ?_)
  show od_W d k (pc + 2) (some (.ref x) :: ls) [.int (nI 0), .ref x] (ly M x (od_ob c0 fs0 :: es) w) Q
  refine od_rP h2 (a := x) (c := c0) (fs := fs0) (ly_at (i := 0) rfl) hf hl rfl (by decide) ?_
  rw [ly_put]
  exact kk
theorem ly_ini {ix j n : Nat} (h0 : od_cd k pc = some (.aload_n 0, 1)) (h1 : od_cd k (pc + 1) = some (.invokespecial ix, 3)) (hm : od_md (od_ow k) ix = some (j, 8, n)) (kk : od_W d k (pc + 4) (some (.ref x) :: ls) [] M Q) : od_W d k pc (some (.ref x) :: ls) [] M Q := od_rA0 h0 (od_rO h1 hm (Nat.zero_le _) kk)
end MK
abbrev rw0 (z : Nat) : List od_E := [od_ob 0 [.ref (z + 1), .int (nI 0)], od_ia 60 (fun _ => 0)]
def rws (z : Nat) : Nat → List od_E
  | 0 => []
  | k + 1 => rws z k ++ rw0 (z + 2 * k)
theorem rws_len (z : Nat) : ∀ k, (rws z k).length = 2 * k := by
  intro k
  induction k with
  | zero => rfl
  | succ k ih => rw [rws, List.length_append, ih]; show 2 * k + 2 = _; omega
theorem ct_row : ctr 0 0 0 [.null, .int 0] rw0 60 := by
  intro N z h1 h2
  rw [show od_ent 0 [.ref z] = [some (.ref z)] from rfl]
  have e := ly_one h1 h2
  generalize hw : N.2.1 = w at *
  rw [e]
  refine ly_ini rfl rfl rfl ?_
  refine ly_arr (m := 1) (n := 60) (p2 := 7) (p3 := 9) (E := od_ia 60 (fun _ => 0)) rfl (fun _ _ _ => rfl) (fun _ _ _ => rfl) rfl rfl rfl (by simp) rfl ?_
  refine ly_zero rfl rfl rfl rfl (by simp) ?_
  refine od_W.fin rfl ?_
  rw [← e]
  exact ⟨rfl, rfl⟩
