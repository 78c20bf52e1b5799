/-! The hydra loses a head. -/
def hy_th (p : List tm_T × tm_T × List tm_T) : List tm_T := p.1 ++ sp_dct p.2.1 ++ p.2.2
def hy_cc (c : Nat) (r : hy_P) : Nat := if r.length = 0 then c + 1 else 1
def sp_cut (c : Nat) : hy_P → List Nat
  | [] => []
  | [p] => tm_fl (hy_th p)
  | p :: q :: r => tm_fl (sp_nat (hy_th p) [(sp_cut c (q :: r), hy_cc c r)])
def ok_cut (c : Nat) : hy_P → Prop
  | [] => True
  | [_] => True
  | p :: q :: r => ok_cut c (q :: r) ∧ tm_ft (tm_t (sp_cut c (q :: r), hy_cc c r)) ∧ tm_ft (tm_fl (sp_nat (hy_th p) [(sp_cut c (q :: r), hy_cc c r)]))
theorem hy_th_fl (p : List tm_T × tm_T × List tm_T) : tm_fl (hy_th p) = (tm_fl p.1 ++ sp_dec p.2.1) ++ tm_fl p.2.2 := by unfold hy_th; rw [tm_fl_app, tm_fl_app, sp_dct_fl]
theorem hy_th_al {p : List tm_T × tm_T × List tm_T} (h : tm_al (p.1 ++ p.2.1 :: p.2.2)) : tm_al (hy_th p) := by
  have h2 := tm_al_app.mp h
  exact tm_al_app.mpr ⟨tm_al_app.mpr ⟨h2.1, sp_dct_al h2.2.1⟩, h2.2.2⟩
theorem sp_dec_len (t : tm_T) : (sp_dec t).length ≤ (tm_t t).length := by
  unfold sp_dec
  split
  · rw [tm_t_len, tm_t_len]; exact Nat.le_refl _
  · exact Nat.zero_le _
theorem sp_dec_sm {t : tm_T} (h : tm_sm (tm_t t)) : tm_sm (sp_dec t) := by
  unfold sp_dec
  split
  · rw [tm_sm_t] at h ⊢; exact ⟨h.1, by dsimp only; omega⟩
  · exact fun x hx => (List.not_mem_nil hx).elim
theorem hy_fd_len : ∀ (f w : Nat) (ts : List tm_T) (p : hy_P), hy_fd f w ts = some p → p.length ≤ f := by
  intro f
  induction f with
  | zero => intro w ts p h; exact absurd h (by simp [hy_fd])
  | succ f ih =>
    intro w ts p h
    unfold hy_fd at h
    split at h
    · exact absurd h (by simp)
    · split at h
      · obtain rfl := Option.some.inj h; simp
      · rename_i t as _ _
        rcases hz : hy_fd f (w / 8) (tm_tp t.1) with _ | p'
        · rw [hz] at h; exact absurd h (by simp)
        · rw [hz] at h
          obtain rfl := Option.some.inj h
          have := ih _ _ _ hz
          simp
          omega
section CUT
variable {S : Nat → Bool} {M : od_M} {ρ0 : od_Rm} {x a out : Nat}
set_option maxRecDepth 100000 in
theorem lt_makeThinned {ρ : od_Rm} {res : Nat} (hS : od_SS S) (ha : S a = true) (hr : S res = true) (na : res ≠ a) (n0 : od_no S x) (n1 : od_no S (x + 1)) (n2 : od_no S (x + 2)) (hb : od_Bd ρ) {u v : List Nat} {p : List tm_T × tm_T × List tm_T} {i : Nat} {hl : Int32} {st en : Nat → Int32} (hi : i < 20) (ht : tm_ok p.2.1) (hx : od_hl ρ a (u ++ (tm_fl p.1 ++ (tm_t p.2.1 ++ (tm_fl p.2.2 ++ v))))) (hH : od_HY M x hl) (hst : M.2.2 (x + 1) = some (od_ia 20 st)) (hen : M.2.2 (x + 2) = some (od_ia 20 en)) (e1 : st i = nI (u.length + (tm_fl p.1).length)) (e2 : en i = nI (u.length + (tm_fl p.1).length + (tm_t p.2.1).length)) (hpar : (i = 0 ∧ u = [] ∧ v = []) ∨ (1 ≤ i ∧ 1 ≤ u.length ∧ st (i - 1) = nI (u.length - 1) ∧ en (i - 1) = nI (u.length + (tm_fl p.1).length + (tm_t p.2.1).length + (tm_fl p.2.2).length + 2))) : od_W 3 50 0 (od_ent 50 [.ref x, .ref a, .int (nI i), .ref res]) [] (od_cm S M ρ) (od_Re S M ρ [res] True none (fun ρ' => od_hl ρ' res (tm_fl (hy_th p)))) := by
  have e0 : od_ent 50 [.ref x, .ref a, .int (nI i), .ref res] = [some (.ref x), some (.ref a), some (.int (nI i)), some (.ref res), none, none, none, none] := rfl
  rw [e0, hy_th_fl]
  have h60 := hx.le hb
  have hsm := hx.2
  rw [tm_sm_app, tm_sm_app, tm_sm_app, tm_sm_app] at hsm
  have hdl := sp_dec_len p.2.1
  rw [List.length_append, List.length_append, List.length_append, List.length_append] at h60
  have hx2 : od_hl ρ a ((u ++ tm_fl p.1) ++ (tm_t p.2.1 ++ (tm_fl p.2.2 ++ v))) := by rw [List.append_assoc]; exact hx
  have hx3 : od_hl ρ a ((u ++ tm_fl p.1 ++ tm_t p.2.1) ++ (tm_fl p.2.2 ++ v)) := by rw [List.append_assoc, List.append_assoc]; exact hx
  have hok : tm_ft ((tm_fl p.1 ++ sp_dec p.2.1) ++ tm_fl p.2.2) := by
    refine ⟨by rw [List.length_append, List.length_append]; omega, ?_⟩
    rw [tm_sm_app, tm_sm_app]
    exact ⟨⟨hsm.2.1, sp_dec_sm hsm.2.2.1⟩, hsm.2.2.2.1⟩
  have tail : od_W 3 50 43 [some (.ref x), some (.ref a), some (.int (nI i)), some (.ref res), some (.int (nI u.length)), some (.int (nI (u.length + (tm_fl p.1).length + (tm_t p.2.1).length + (tm_fl p.2.2).length))), none, none] [] (od_cm S M ρ) (od_Re S M ρ [res] True none (fun ρ' => od_hl ρ' res ((tm_fl p.1 ++ sp_dec p.2.1) ++ tm_fl p.2.2))) := by
    refine od_W.rn (pc' := 44) (ls' := [some (.ref _), some (.ref _), some (.int _), some (.ref _), some (.int _), some (.int _), none, none]) (st' := [.ref _]) 1 rfl ?_
    refine od_rG rfl (od_cm_o n0 hH) rfl rfl ?_
    refine od_W.rn (pc' := 48) (ls' := [some (.ref _), some (.ref _), some (.int _), some (.ref _), some (.int _), some (.int _), none, none]) (st' := [.int _, .ref _]) 1 rfl ?_
    refine od_rIL rfl (od_cm_o n1 hst) (rfl) (hi) (by decide) ?_
    rw [e1]
    refine od_W.rn (pc' := 52) (ls' := [some (.ref _), some (.ref _), some (.int _), some (.ref _), some (.int _), some (.int _), some (.int _), none]) (st' := [.ref _]) 2 rfl ?_
    refine od_rG rfl (od_cm_o n0 hH) rfl rfl ?_
    refine od_W.rn (pc' := 56) (ls' := [some (.ref _), some (.ref _), some (.int _), some (.ref _), some (.int _), some (.int _), some (.int _), none]) (st' := [.int _, .ref _]) 1 rfl ?_
    refine od_rIL rfl (od_cm_o n2 hen) (rfl) (hi) (by decide) ?_
    rw [e2]
    refine od_W.rn (pc' := 65) (ls' := [some (.ref _), some (.ref _), some (.int _), some (.ref _), some (.int _), some (.int _), some (.int _), some (.int _)]) (st' := [.int _, .int _, .ref _, .ref _]) 5 rfl ?_
    refine od_rV (as := [.ref a, .int (nI u.length), .int (nI (u.length + (tm_fl p.1).length))]) rfl rfl rfl rfl (od_cm_r hr) rfl (Nat.le_of_ble_eq_true rfl) (Nat.le_of_ble_eq_true rfl) (lt_becomePart hS hr ha na hb hx rfl rfl) (Nat.le_of_ble_eq_true rfl) (fun o M1 hq => ?_)
    refine od_Re.kp hq rfl (by simp) (od_fr0 ρ _) (fun _ => trivial) (fun ρ1 f1 g1 b1 p1 k1 => ?_)
    have hy1 := hx2.fr (f1 a (od_n1 (Ne.symm na)))
    have hy2 := hx3.fr (f1 a (od_n1 (Ne.symm na)))
    refine od_W.rn (pc' := 77) (ls' := [some (.ref _), some (.ref _), some (.int _), some (.ref _), some (.int _), some (.int _), some (.int _), some (.int _)]) (st' := [.int _, .ref _, .int _, .int _, .ref _, .ref _]) 6 rfl ?_
    refine od_rV (as := [.int (nI (u.length + (tm_fl p.1).length + (tm_t p.2.1).length))]) rfl rfl rfl rfl (od_cm_r ha) rfl (Nat.le_of_ble_eq_true rfl) (Nat.le_of_ble_eq_true rfl) (lt_coefficient hS ha b1 hy1 (by rw [List.length_append])) (Nat.le_of_ble_eq_true rfl) (fun o M1 hq => ?_)
    obtain ⟨rfl, rfl⟩ := hq
    refine od_K.ret ?_
    refine od_W.rn (pc' := 83) (ls' := [some (.ref _), some (.ref _), some (.int _), some (.ref _), some (.int _), some (.int _), some (.int _), some (.int _)]) (st' := [.long _, .int _, .int _, .ref _, .ref _]) 3 rfl ?_
    show od_W 3 50 83 [some (.ref x), some (.ref a), some (.int (nI i)), some (.ref res), some (.int (nI u.length)), some (.int (nI (u.length + (tm_fl p.1).length + (tm_t p.2.1).length + (tm_fl p.2.2).length))), some (.int (nI (u.length + (tm_fl p.1).length))), some (.int (nI (u.length + (tm_fl p.1).length + (tm_t p.2.1).length)))] [.long (nI p.2.1.2 - 1).toInt64, .int (nI (u.length + (tm_fl p.1).length + (tm_t p.2.1).length)), .int (nI (u.length + (tm_fl p.1).length)), .ref a, .ref res] (od_cm S M ρ1) _
    rw [nI_c1 ht.2]
    refine od_rV (as := [.ref a, .int (nI (u.length + (tm_fl p.1).length)), .int (nI (u.length + (tm_fl p.1).length + (tm_t p.2.1).length)), .long (lN (p.2.1.2 - 1))]) rfl rfl rfl rfl (od_cm_r hr) rfl (Nat.le_of_ble_eq_true rfl) (Nat.le_of_ble_eq_true rfl) (lt_putDec hS hr ha na b1 ht p1 hy1 (by rw [List.length_append]) rfl) (Nat.le_of_ble_eq_true rfl) (fun o M1 hq => ?_)
    refine od_Re.kp hq rfl (by simp) (g1) (fun _ => tm_ft_l hok) (fun ρ2 f2 g2 b2 p2 k2 => ?_)
    have hy3 := hy2.fr (f2 a (od_n1 (Ne.symm na)))
    refine od_W.rn (pc' := 92) (ls' := [some (.ref _), some (.ref _), some (.int _), some (.ref _), some (.int _), some (.int _), some (.int _), some (.int _)]) (st' := [.int _, .int _, .ref _, .ref _]) 4 rfl ?_
    refine od_rV (as := [.ref a, .int (nI (u.length + (tm_fl p.1).length + (tm_t p.2.1).length)), .int (nI (u.length + (tm_fl p.1).length + (tm_t p.2.1).length + (tm_fl p.2.2).length))]) rfl rfl rfl rfl (od_cm_r hr) rfl (Nat.le_of_ble_eq_true rfl) (Nat.le_of_ble_eq_true rfl) (lt_putPart hS hr ha na b2 p2 hy3 (by rw [List.length_append, List.length_append]) rfl) (Nat.le_of_ble_eq_true rfl) (fun o M1 hq => ?_)
    refine od_Re.kp hq rfl (by simp) (g2) (fun _ => hok) (fun ρ3 f3 g3 b3 p3 k3 => ?_)
    refine od_W.fin rfl ?_
    exact od_Re.yes g3 b3 trivial p3
  refine od_W.rn (pc' := 1) (ls' := [some (.ref _), some (.ref _), some (.int _), some (.ref _), none, none, none, none]) (st' := [.int _]) 1 rfl ?_
  rcases hpar with ⟨hi0, hu, hv⟩ | ⟨hi1, hu, hs1, he1⟩
  · rw [hi0]
    refine od_r1F rfl (of_decide_eq_true rfl) (rfl) ?_
    refine od_W.rn (pc' := 21) (ls' := [some (.ref _), some (.ref _), some (.int _), some (.ref _), some (.int _), none, none, none]) (st' := [.int _]) 4 rfl ?_
    refine od_r1F rfl (of_decide_eq_true rfl) (rfl) ?_
    refine od_W.rn (pc' := 25) (ls' := [some (.ref _), some (.ref _), some (.int _), some (.ref _), some (.int _), none, none, none]) (st' := [.ref _]) 1 rfl ?_
    refine od_gL rfl rfl (ha) (hx.n) ?_
    refine od_W.rn (pc' := 43) (ls' := [some (.ref _), some (.ref _), some (.int _), some (.ref _), some (.int _), some (.int _), none, none]) (st' := []) 2 rfl ?_
    subst hu
    subst hv
    have el : ([] ++ (tm_fl p.1 ++ (tm_t p.2.1 ++ (tm_fl p.2.2 ++ [])))).length = ([] : List Nat).length + (tm_fl p.1).length + (tm_t p.2.1).length + (tm_fl p.2.2).length := by simp; omega
    rw [el]
    rw [hi0] at tail
    exact tail
  · have em : nI i - 1 = nI (i - 1) := nI_subI (a := 1) hi1
    refine od_r1T rfl rfl ((show (!decide (nI i = 0)) = true by rw [decide_eq_false (nI_ne0 (by omega) (by omega))]; rfl)) ?_
    refine od_W.rn (pc' := 9) (ls' := [some (.ref _), some (.ref _), some (.int _), some (.ref _), none, none, none, none]) (st' := [.ref _]) 1 rfl ?_
    refine od_rG rfl (od_cm_o n0 hH) rfl rfl ?_
    refine od_W.rn (pc' := 15) (ls' := [some (.ref _), some (.ref _), some (.int _), some (.ref _), none, none, none, none]) (st' := [.int _, .ref _]) 3 rfl ?_
    refine od_rIL rfl (od_cm_o n1 hst) (em) (by omega) (by decide) ?_
    refine od_W.rn (pc' := 21) (ls' := [some (.ref _), some (.ref _), some (.int _), some (.ref _), some (.int _), none, none, none]) (st' := [.int _]) 4 rfl ?_
    rw [hs1]
    refine od_r1T rfl rfl ((show (!decide (nI i = 0)) = true by rw [decide_eq_false (nI_ne0 (by omega) (by omega))]; rfl)) ?_
    refine od_W.rn (pc' := 32) (ls' := [some (.ref _), some (.ref _), some (.int _), some (.ref _), some (.int _), none, none, none]) (st' := [.ref _]) 1 rfl ?_
    refine od_rG rfl (od_cm_o n0 hH) rfl rfl ?_
    refine od_W.rn (pc' := 38) (ls' := [some (.ref _), some (.ref _), some (.int _), some (.ref _), some (.int _), none, none, none]) (st' := [.int _, .ref _]) 3 rfl ?_
    refine od_rIL rfl (od_cm_o n2 hen) (em) (by omega) (by decide) ?_
    refine od_W.rn (pc' := 43) (ls' := [some (.ref _), some (.ref _), some (.int _), some (.ref _), some (.int _), some (.int _), none, none]) (st' := []) 3 rfl ?_
    rw [he1]
    have q1 : nI (u.length - 1) + 1 = nI u.length := by rw [nI_1]; congr 1; omega
    have q2 : nI (u.length + (tm_fl p.1).length + (tm_t p.2.1).length + (tm_fl p.2.2).length + 2) - 2 = nI (u.length + (tm_fl p.1).length + (tm_t p.2.1).length + (tm_fl p.2.2).length) := nI_subI (a := 2) (by omega)
    show od_W 3 50 43 [some (.ref x), some (.ref a), some (.int (nI i)), some (.ref res), some (.int (nI (u.length - 1) + 1)), some (.int (nI (u.length + (tm_fl p.1).length + (tm_t p.2.1).length + (tm_fl p.2.2).length + 2) - 2)), none, none] [] (od_cm S M ρ) _
    rw [q1, q2]
    exact tail
theorem sp_cut_W {c : Nat} (hc : c ≤ 1000) : ∀ (p : hy_P) (st en : Nat → Int32) (u : List Nat) (i : Nat) (ts : List tm_T), tm_al ts → hy_p st en u i ts p → ok_cut c p → tm_W (sp_cut c p) := by
  intro p
  induction p with
  | nil => intro st en u i ts _ h; exact h.elim
  | cons p r ih =>
    intro st en u i ts hal h hok
    cases r with
    | nil =>
      have h1 : ts = p.1 ++ p.2.1 :: p.2.2 := h.1
      exact tm_fl_W (hy_th_al (h1 ▸ hal))
    | cons q r =>
      have h1 : ts = p.1 ++ p.2.1 :: p.2.2 := h.1
      have halx := hal
      rw [h1] at halx
      have hW := ih st en _ _ _ (tm_al_tp (tm_al_app.mp halx).2.1.1) h.2.2.2.2 hok.1
      refine tm_fl_W (sp_nat_al (hy_th_al halx) ?_ hok.2.2.2)
      refine ⟨⟨hW, ?_⟩, trivial⟩
      unfold tm_c hy_cc
      dsimp only
      split <;> omega
set_option maxRecDepth 100000 in
theorem cl_cut (hS : od_SS S) (ha : S a = true) (ho : S out = true) (r3 : S (x + 3) = true) (r5 : S (x + 5) = true) (na : a ∉ [out, x + 3, x + 5]) (no : out ∉ [x + 3, x + 5]) (n0 : od_no S x) (n1 : od_no S (x + 1)) (n2 : od_no S (x + 2)) (hb : od_Bd ρ0) {c L : Nat} (hc : c ≤ 1000) (hLb : L < 1000) {st en : Nat → Int32} {ok0 : Prop} {P0 : od_Rm → Prop} (hH : od_HY M x (nI L)) (hst : M.2.2 (x + 1) = some (od_ia 20 st)) (hen : M.2.2 (x + 2) = some (od_ia 20 en)) : ∀ (p : hy_P) (u v : List Nat) (ts : List tm_T) (i : Nat), hy_p st en u i ts p → tm_al ts → i ≤ u.length → 2 * i ≤ v.length → L = i + p.length - 1 → ((i = 0 ∧ u = [] ∧ v = []) ∨ (1 ≤ i ∧ 1 ≤ u.length ∧ st (i - 1) = nI (u.length - 1) ∧ en (i - 1) = nI (u.length + (tm_fl ts).length + 2))) → od_hl ρ0 a (u ++ (tm_fl ts ++ v)) → (ok0 → ok_cut c p) → (∀ ρ1, (∀ q, q ∉ [out, x + 3, x + 5] → ρ1 q = ρ0 q) → od_Bd ρ1 → od_hl ρ1 out (sp_cut c p) → ok_cut c p → od_W 5 49 18 [some (.ref x), some (.ref a), some (.int (nI c)), some (.ref out), some (.int (nI i - 1))] [] (od_cm S M ρ1) (od_Re S M ρ0 [out, x + 3, x + 5] ok0 none P0)) → od_W 5 49 0 [some (.ref x), some (.ref a), some (.int (nI c)), some (.ref out), none] [] (od_cm S M ρ0) (od_Re S M ρ0 [out, x + 3, x + 5] ok0 none P0) := by
  intro p
  induction p with
  | nil => intro u v ts i h; exact h.elim
  | cons p r ih =>
    intro u v ts i hp hal hiu hiv hL hpar hx hok hk
    have h60 := hx.le hb
    rw [List.length_append, List.length_append] at h60
    cases r with
    | nil =>
      obtain ⟨h1, h2, h3, h4⟩ := hp
      subst h1
      have hat := tm_al_app.mp hal
      have hx2 : od_hl ρ0 a (u ++ (tm_fl p.1 ++ (tm_t p.2.1 ++ (tm_fl p.2.2 ++ v)))) := by rw [tm_fl_app, tm_fl] at hx; simpa [List.append_assoc] using hx
      have eL : L = i := by simp at hL; omega
      rw [tm_fl_app, tm_fl, List.length_append, List.length_append, tm_t_len] at h60
      have hpar2 : (i = 0 ∧ u = [] ∧ v = []) ∨ (1 ≤ i ∧ 1 ≤ u.length ∧ st (i - 1) = nI (u.length - 1) ∧ en (i - 1) = nI (u.length + (tm_fl p.1).length + (tm_t p.2.1).length + (tm_fl p.2.2).length + 2)) := by
        rcases hpar with z | ⟨z1, z2, z3, z4⟩
        · exact Or.inl z
        · refine Or.inr ⟨z1, z2, z3, ?_⟩
          rw [z4, tm_fl_app, tm_fl, List.length_append, List.length_append]
          congr 1
          omega
      subst eL
      refine od_W.rn (pc' := 3) (ls' := [some (.ref _), some (.ref _), some (.int _), some (.ref _), none]) (st' := [.ref _, .ref _, .ref _]) 3 rfl ?_
      refine od_rG rfl (od_cm_o n0 hH) rfl rfl ?_
      refine od_W.rn (pc' := 7) (ls' := [some (.ref _), some (.ref _), some (.int _), some (.ref _), none]) (st' := [.ref _, .int _, .ref _, .ref _]) 1 rfl ?_
      refine od_rV (as := [.ref a, .int (nI L), .ref out]) rfl rfl rfl rfl (od_cm_o n0 hH) rfl (Nat.le_of_ble_eq_true rfl) (Nat.le_of_ble_eq_true rfl) (lt_makeThinned hS ha ho (Ne.symm (od_ne na (by simp))) n0 n1 n2 hb (by omega) hat.2.1 hx2 hH hst hen h2 h3 hpar2) (Nat.le_of_ble_eq_true rfl) (fun o M1 hq => ?_)
      refine od_Re.kp hq rfl (by simp) (od_fr0 ρ0 _) (fun _ => trivial) (fun ρ1 f1 g1 b1 p1 k1 => ?_)
      refine od_W.rn (pc' := 11) (ls' := [some (.ref _), some (.ref _), some (.int _), some (.ref _), none]) (st' := [.ref _]) 1 rfl ?_
      refine od_rG rfl (od_cm_o n0 hH) rfl rfl ?_
      refine od_W.rn (pc' := 18) (ls' := [some (.ref _), some (.ref _), some (.int _), some (.ref _), some (.int _)]) (st' := []) 3 rfl ?_
      exact hk ρ1 g1 b1 p1 trivial
    | cons q r =>
      obtain ⟨h1, h2, h3, h4, h5⟩ := hp
      subst h1
      have hat := tm_al_app.mp hal
      have hW := hat.2.1.1
      have hx2 : od_hl ρ0 a (u ++ (tm_fl p.1 ++ (tm_t p.2.1 ++ (tm_fl p.2.2 ++ v)))) := by rw [tm_fl_app, tm_fl] at hx; simpa [List.append_assoc] using hx
      rw [tm_fl_app, tm_fl, List.length_append, List.length_append, tm_t_len] at h60
      have hpar2 : (i = 0 ∧ u = [] ∧ v = []) ∨ (1 ≤ i ∧ 1 ≤ u.length ∧ st (i - 1) = nI (u.length - 1) ∧ en (i - 1) = nI (u.length + (tm_fl p.1).length + (tm_t p.2.1).length + (tm_fl p.2.2).length + 2)) := by
        rcases hpar with z | ⟨z1, z2, z3, z4⟩
        · exact Or.inl z
        · refine Or.inr ⟨z1, z2, z3, ?_⟩
          rw [z4, tm_fl_app, tm_fl, List.length_append, List.length_append]
          congr 1
          omega
      have hx5 : od_hl ρ0 a ((u ++ tm_fl p.1 ++ [1]) ++ (tm_fl (tm_tp p.2.1.1) ++ ([0, p.2.1.2] ++ (tm_fl p.2.2 ++ v)))) := by
        rw [tm_fl_tp hW, show (u ++ tm_fl p.1 ++ [1]) ++ (p.2.1.1 ++ ([0, p.2.1.2] ++ (tm_fl p.2.2 ++ v))) = u ++ (tm_fl p.1 ++ (tm_t p.2.1 ++ (tm_fl p.2.2 ++ v))) by simp [tm_t]]; exact hx2
      have hu2 : (u ++ tm_fl p.1 ++ [1]).length = u.length + (tm_fl p.1).length + 1 := by rw [List.length_append, List.length_append]; rfl
      have hcc : hy_cc c r ≤ 1001 ∧ 1 ≤ hy_cc c r := by unfold hy_cc; split <;> omega
      refine ih (u ++ tm_fl p.1 ++ [1]) ([0, p.2.1.2] ++ (tm_fl p.2.2 ++ v)) (tm_tp p.2.1.1) (i + 1) h5 (tm_al_tp hW) (by rw [hu2]; omega) (by simp; omega) (by simp at hL ⊢; omega) (Or.inr ⟨by omega, by rw [hu2]; omega, ?_, ?_⟩) hx5 (fun z => (hok z).1) ?_
      · rw [hu2]; exact h2
      · rw [hu2, tm_fl_tp hW, show i + 1 - 1 = i by omega, h3, tm_t_len]; congr 1; omega
      · intro ρ1 g1 b1 p1 k1
        have em : nI (i + 1) - 1 = nI i := nI_pred i
        have eL1 : nI L - 1 = nI (L - 1) := nI_subI (a := 1) (by simp at hL; omega)
        have hWc := sp_cut_W hc (q :: r) st en _ _ _ (tm_al_tp hW) h5 k1
        rw [em]
        have tail : ∀ cl : Int64, cl = lN (hy_cc c r) → od_W 5 49 47 [some (.ref x), some (.ref a), some (.int (nI c)), some (.ref out), some (.int (nI i))] [.long cl, .ref out, .ref (x + 5)] (od_cm S M ρ1) (od_Re S M ρ0 [out, x + 3, x + 5] ok0 none P0) := by
          intro cl hcl
          subst hcl
          refine od_rV (as := [.ref out, .long (lN (hy_cc c r))]) rfl rfl rfl rfl (od_cm_r r5) rfl (Nat.le_of_ble_eq_true rfl) (Nat.le_of_ble_eq_true rfl) (lt_becomeTerm hS r5 ho (Ne.symm (od_ne no (by simp))) b1 p1 (by omega)) (Nat.le_of_ble_eq_true rfl) (fun o M1 hq => ?_)
          refine od_Re.kp hq rfl (by simp) (g1) (fun z => (hok z).2.1) (fun ρ2 f2 g2 b2 p2 k2 => ?_)
          have hx6 := hx2.fr (g2 a na)
          have p2' : od_hl ρ2 (x + 5) (tm_fl [(sp_cut c (q :: r), hy_cc c r)]) := by rw [tm_fl_one]; exact p2
          refine od_W.rn (pc' := 55) (ls' := [some (.ref _), some (.ref _), some (.int _), some (.ref _), some (.int _)]) (st' := [.ref _, .int _, .ref _, .ref _]) 4 rfl ?_
          refine od_rG rfl (od_cm_o n0 hH) rfl rfl ?_
          refine od_rV (as := [.ref a, .int (nI i), .ref (x + 3)]) rfl rfl rfl rfl (od_cm_o n0 hH) rfl (Nat.le_of_ble_eq_true rfl) (Nat.le_of_ble_eq_true rfl) (lt_makeThinned hS ha r3 (Ne.symm (od_ne na (by simp))) n0 n1 n2 b2 (by omega) hat.2.1 hx6 hH hst hen h2 h3 hpar2) (Nat.le_of_ble_eq_true rfl) (fun o M1 hq => ?_)
          refine od_Re.kp hq rfl (by simp) (g2) (fun _ => trivial) (fun ρ3 f3 g3 b3 p3 k3 => ?_)
          have p3' := p2'.fr (f3 (x + 5) (by simp))
          refine od_W.rn (pc' := 62) (ls' := [some (.ref _), some (.ref _), some (.int _), some (.ref _), some (.int _)]) (st' := [.ref _]) 1 rfl ?_
          refine od_rG rfl (od_cm_o n0 hH) rfl rfl ?_
          refine od_W.rn (pc' := 66) (ls' := [some (.ref _), some (.ref _), some (.int _), some (.ref _), some (.int _)]) (st' := [.ref _, .ref _]) 1 rfl ?_
          refine od_rG rfl (od_cm_o n0 hH) rfl rfl ?_
          refine od_W.rn (pc' := 70) (ls' := [some (.ref _), some (.ref _), some (.int _), some (.ref _), some (.int _)]) (st' := [.ref _, .ref _, .ref _]) 1 rfl ?_
          refine od_rSt (as := [.ref (x + 3), .ref (x + 5), .ref out]) rfl rfl rfl rfl (Nat.le_of_ble_eq_true rfl) (Nat.le_of_ble_eq_true rfl) (lt_makeNaturalSum hS r3 r5 ho (od_ne no (by simp)) (od_ne no (by simp)) b3 (hy_th_al hal) (us := [(sp_cut c (q :: r), hy_cc c r)]) ⟨⟨hWc, hcc.2, by omega⟩, trivial⟩ p3 p3') (Nat.le_of_ble_eq_true rfl) (fun o M1 hq => ?_)
          refine od_Re.kp hq rfl (by simp) (g3) (fun z => (hok z).2.2) (fun ρ4 f4 g4 b4 p4 k4 => ?_)
          refine od_W.rn (pc' := 18) (ls' := [some (.ref _), some (.ref _), some (.int _), some (.ref _), some (.int _)]) (st' := []) 2 rfl ?_
          rw [show nI i + Int32.ofInt (-1) = nI i - 1 from (Int32.sub_eq_add_neg (nI i) 1).symm]
          exact hk ρ4 g4 b4 p4 ⟨k1, k2, k4⟩
        refine od_W.rn (pc' := 20) (ls' := [some (.ref _), some (.ref _), some (.int _), some (.ref _), some (.int _)]) (st' := [.int _]) 1 rfl ?_
        refine od_r1F rfl (of_decide_eq_true rfl) (decide_eq_false (nI_pos (by omega))) ?_
        refine od_W.rn (pc' := 24) (ls' := [some (.ref _), some (.ref _), some (.int _), some (.ref _), some (.int _)]) (st' := [.ref _]) 1 rfl ?_
        refine od_rG rfl (od_cm_o n0 hH) rfl rfl ?_
        refine od_W.rn (pc' := 31) (ls' := [some (.ref _), some (.ref _), some (.int _), some (.ref _), some (.int _)]) (st' := [.ref _, .int _, .ref _, .ref _]) 3 rfl ?_
        refine od_rG rfl (od_cm_o n0 hH) rfl rfl ?_
        refine od_W.rn (pc' := 36) (ls' := [some (.ref _), some (.ref _), some (.int _), some (.ref _), some (.int _)]) (st' := [.int _, .int _, .ref _, .ref _]) 2 rfl ?_
        rw [show nI L - Int32.ofInt 1 = nI (L - 1) from eL1]
        by_cases hr0 : r.length = 0
        · have hcc0 : hy_cc c r = c + 1 := if_pos hr0
          refine od_r2F rfl (of_decide_eq_true rfl) ((show (!decide (nI i = nI (L - 1))) = false by rw [show L - 1 = i by simp at hL; omega, decide_eq_true rfl]; rfl)) ?_
          refine od_W.rn (pc' := 47) (ls' := [some (.ref _), some (.ref _), some (.int _), some (.ref _), some (.int _)]) (st' := [.long _, .ref _, .ref _]) 5 rfl ?_
          refine tail _ ?_
          rw [hcc0]
          exact (congrArg Int32.toInt64 (nI_1 c)).trans (nI_1000 (by omega))
        · have hcc0 : hy_cc c r = 1 := if_neg hr0
          refine od_r2T rfl rfl ((show (!decide (nI i = nI (L - 1))) = true by rw [decide_eq_false (fun z => absurd ((nI_eq (by omega) (by omega)).mp z) (by simp at hL; omega))]; rfl)) ?_
          refine od_W.rn (pc' := 47) (ls' := [some (.ref _), some (.ref _), some (.int _), some (.ref _), some (.int _)]) (st' := [.long _, .ref _, .ref _]) 1 rfl ?_
          exact tail _ (by rw [hcc0]; rfl)
theorem lt_cutHead {c L : Nat} (hS : od_SS S) (ha : S a = true) (ho : S out = true) (r3 : S (x + 3) = true) (r5 : S (x + 5) = true) (na : a ∉ [out, x + 3, x + 5]) (no : out ∉ [x + 3, x + 5]) (n0 : od_no S x) (n1 : od_no S (x + 1)) (n2 : od_no S (x + 2)) (hb : od_Bd ρ0) (hc : c ≤ 1000) (hLb : L < 1000) {st en : Nat → Int32} {p : hy_P} {ts : List tm_T} (hH : od_HY M x (nI L)) (hst : M.2.2 (x + 1) = some (od_ia 20 st)) (hen : M.2.2 (x + 2) = some (od_ia 20 en)) (hL : L = p.length - 1) (hp : hy_p st en [] 0 ts p) (hal : tm_al ts) (hx : od_hl ρ0 a (tm_fl ts)) : od_W 5 49 0 (od_ent 49 [.ref x, .ref a, .int (nI c), .ref out]) [] (od_cm S M ρ0) (od_Re S M ρ0 [out, x + 3, x + 5] (ok_cut c p) none (fun ρ' => od_hl ρ' out (sp_cut c p))) := by
  have e0 : od_ent 49 [.ref x, .ref a, .int (nI c), .ref out] = [some (.ref x), some (.ref a), some (.int (nI c)), some (.ref out), none] := rfl
  rw [e0]
  refine cl_cut hS ha ho r3 r5 na no n0 n1 n2 hb hc hLb hH hst hen p [] [] ts 0 hp hal (by omega) (by simp) (by omega) (Or.inl ⟨rfl, rfl, rfl⟩) (by simpa using hx) (fun z => z) (fun ρ1 g1 b1 p1 k1 => ?_)
  refine od_W.rn (pc' := 20) (ls' := [some (.ref _), some (.ref _), some (.int _), some (.ref _), some (.int _)]) (st' := [.int _]) 1 rfl ?_
  refine od_r1T rfl rfl (rfl) ?_
  refine od_W.fin rfl ?_
  exact od_Re.yes g1 b1 k1 p1
end CUT
