/-! The class's steps. -/
abbrev od_DE (M : od_M) (x : Nat) : Prop := M.2.2 x = some (od_ob 3 [.ref (x + 1), .ref (x + 3)])
def od_DEs (S : Nat → Bool) (x : Nat) : Prop := od_no S x ∧ S (x + 1) = true ∧ S (x + 3) = true
theorem sp_pr_ft {ts : List tm_T} (h : tm_ft (tm_fl ts)) : tm_ft (sp_pr ts) := by
  rcases tm_snoc ts with rfl | ⟨us, t, rfl⟩
  · exact ⟨by simp [sp_pr, tm_fl, sp_dec, tm_la], by simp [sp_pr, tm_fl, sp_dec, tm_la, tm_sm]⟩
  · rw [tm_fl_snoc] at h
    rw [sp_pr_snoc]
    unfold sp_dec
    by_cases h1 : 1 < t.2
    · rw [if_pos h1]
      have h2 := h.1
      have h3 := h.2
      rw [List.length_append, tm_t_len] at h2
      rw [tm_sm_app, tm_sm_t] at h3
      refine ⟨by rw [List.length_append, tm_t_len]; exact h2, ?_⟩
      rw [tm_sm_app, tm_sm_t]
      exact ⟨h3.1, h3.2.1, by dsimp only; omega⟩
    · rw [if_neg h1, List.append_nil]; exact tm_ft_l h
section STEP
variable {S : Nat → Bool} {M : od_M} {ρ0 : od_Rm} {x a out : Nat}
abbrev od_EU (x out : Nat) : List Nat := [out, x + 1, x + 3]
set_option maxRecDepth 100000 in
theorem cl_st_loop (hS : od_SS S) (ho : S out = true) (r1 : S (x + 1) = true) (r3 : S (x + 3) = true) (n1 : out ∉ [x + 1, x + 3]) {b : Nat} (h2 : 2 ≤ b) (hb2 : b ≤ 1000000) {wx wa : Option Value} : ∀ (f : Nat) (xs : List Nat) (ρ : od_Rm) (y z i : Nat) (w7 : Option Value), tm_W xs → tm_k (tm_tp xs) ≠ 0 → (ok_st b f xs → tm_k (tm_tp (sp_st b f xs)) = 1) → i + f ≤ 1000 → (y = x + 1 ∧ z = x + 3 ∨ y = x + 3 ∧ z = x + 1) → od_Bd ρ → (∀ q, q ∉ od_EU x out → ρ q = ρ0 q) → od_hl ρ y xs → od_W 5 46 21 [wx, wa, some (.int (nI b)), some (.ref out), some (.ref y), some (.ref z), some (.int (nI i)), w7] [] (od_cm S M ρ) (od_Re S M ρ0 (od_EU x out) (ok_st b f xs) none (fun ρ' => od_hl ρ' out (sp_pr (tm_tp (sp_st b f xs))))) := by
  intro f
  induction f with
  | zero =>
    intro xs ρ y z i w7 hW h0 hfin hi hyz hb g hx
    have hk := hfin trivial
    have ry : S y = true := by rcases hyz with ⟨rfl, rfl⟩ | ⟨rfl, rfl⟩; exact r1; exact r3
    have noy : out ≠ y := by rcases hyz with ⟨rfl, rfl⟩ | ⟨rfl, rfl⟩ <;> exact od_ne n1 (by simp)
    obtain ⟨es, s, hes, hs0⟩ := tm_k_snoc1 hk
    rw [show sp_st b 0 xs = xs from rfl] at hes hk ⊢
    have hal := tm_al_tp hW
    have hx1 : od_hl ρ y (tm_fl (tm_tp xs)) := by rw [tm_fl_tp hW]; exact hx
    have hal2 : tm_al (es ++ [s]) := hes ▸ hal
    have hlen : xs.length = (tm_fl es).length + 3 := by
      have := tm_fl_tp hW
      rw [hes, tm_fl_snoc] at this
      rw [← this, List.length_append, tm_t_len, hs0]
      rfl
    refine od_W.rn (pc' := 25) (ls' := [_, _, some (.int _), some (.ref _), some (.ref _), some (.ref _), some (.int _), _]) (st' := [.int _, .int _]) 2 rfl ?_
    refine od_r2F rfl (of_decide_eq_true rfl) (decide_eq_false (nI_ge (b := 1000000) (by omega) (by omega))) ?_
    refine od_W.rn (pc' := 30) (ls' := [_, _, some (.int _), some (.ref _), some (.ref _), some (.ref _), some (.int _), _]) (st' := [.ref _]) 1 rfl ?_
    refine od_rV (as := []) rfl rfl rfl rfl (od_cm_r ry) rfl (Nat.le_of_ble_eq_true rfl) (Nat.le_of_ble_eq_true rfl) (ct_sort hS ry (hb _) hal hx1.1) (Nat.le_of_ble_eq_true rfl) (fun o M1 hq => ?_)
    obtain ⟨rfl, rfl⟩ := hq
    refine od_K.ret ?_
    rw [hk]
    refine od_W.rn (pc' := 34) (ls' := [_, _, some (.int _), some (.ref _), some (.ref _), some (.ref _), some (.int _), _]) (st' := [.int _, .int _]) 1 rfl ?_
    refine od_r2T rfl rfl (rfl) ?_
    refine od_W.rn (pc' := 64) (ls' := [_, _, some (.int _), some (.ref _), some (.ref _), some (.ref _), some (.int _), _]) (st' := [.ref _]) 1 rfl ?_
    refine od_rV (as := []) rfl rfl rfl rfl (od_cm_r ho) rfl (Nat.le_of_ble_eq_true rfl) (Nat.le_of_ble_eq_true rfl) (lt_clear hS ho hb) (Nat.le_of_ble_eq_true rfl) (fun o M1 hq => ?_)
    refine od_Re.kp hq rfl (by simp) (g) (fun _ => trivial) (fun ρ1 f1 g1 b1 p1 k1 => ?_)
    have hx2 := hx.fr (f1 y (od_n1 (Ne.symm noy)))
    have hx3 : od_hl ρ1 y ([] ++ (tm_fl es ++ (tm_t s ++ []))) := by rw [List.nil_append, List.append_nil, ← tm_fl_snoc, ← hes, tm_fl_tp hW]; exact hx2
    refine od_W.rn (pc' := 72) (ls' := [_, _, some (.int _), some (.ref _), some (.ref _), some (.ref _), some (.int _), _]) (st' := [.ref _, .int _, .ref _]) 3 rfl ?_
    refine od_gL rfl rfl (ry) (hx2.n) ?_
    refine od_W.rn (pc' := 76) (ls' := [_, _, some (.int _), some (.ref _), some (.ref _), some (.ref _), some (.int _), _]) (st' := [.ref _, .int _, .int _, .ref _]) 1 rfl ?_
    refine od_rSt (as := [.ref y, .int (nI 0), .int (nI xs.length), .ref out]) rfl rfl rfl rfl (Nat.le_of_ble_eq_true rfl) (Nat.le_of_ble_eq_true rfl) (lt_putBefore hS ho ry noy b1 (tm_al_app.mp hal2).2.1 hs0 p1 hx3 rfl (by simp; exact hlen)) (Nat.le_of_ble_eq_true rfl) (fun o M1 hq => ?_)
    refine od_Re.kp hq rfl (by simp) (g1) (fun _ => by rw [List.nil_append, ← hes]; exact sp_pr_ft (by rw [tm_fl_tp hW]; exact ⟨hx.le hb, hx.2⟩)) (fun ρ2 f2 g2 b2 p2 k2 => ?_)
    refine od_W.fin rfl ?_
    refine od_Re.yes g2 b2 trivial ?_
    rw [hes]
    exact p2
  | succ f ih =>
    intro xs ρ y z i w7 hW h0 hfin hi hyz hb g hx
    have ry : S y = true := by rcases hyz with ⟨rfl, rfl⟩ | ⟨rfl, rfl⟩; exact r1; exact r3
    have rz : S z = true := by rcases hyz with ⟨rfl, rfl⟩ | ⟨rfl, rfl⟩; exact r3; exact r1
    have noy : out ≠ y := by rcases hyz with ⟨rfl, rfl⟩ | ⟨rfl, rfl⟩ <;> exact od_ne n1 (by simp)
    have nzy : z ≠ y := by omega
    have hzU : ∀ q, q ∈ [z] → q ∈ od_EU x out := by rcases hyz with ⟨rfl, rfl⟩ | ⟨rfl, rfl⟩ <;> simp
    have hal := tm_al_tp hW
    have hx1 : od_hl ρ y (tm_fl (tm_tp xs)) := by rw [tm_fl_tp hW]; exact hx
    refine od_W.rn (pc' := 25) (ls' := [_, _, some (.int _), some (.ref _), some (.ref _), some (.ref _), some (.int _), _]) (st' := [.int _, .int _]) 2 rfl ?_
    refine od_r2F rfl (of_decide_eq_true rfl) (decide_eq_false (nI_ge (b := 1000000) (by omega) (by omega))) ?_
    refine od_W.rn (pc' := 30) (ls' := [_, _, some (.int _), some (.ref _), some (.ref _), some (.ref _), some (.int _), _]) (st' := [.ref _]) 1 rfl ?_
    refine od_rV (as := []) rfl rfl rfl rfl (od_cm_r ry) rfl (Nat.le_of_ble_eq_true rfl) (Nat.le_of_ble_eq_true rfl) (ct_sort hS ry (hb _) hal hx1.1) (Nat.le_of_ble_eq_true rfl) (fun o M1 hq => ?_)
    obtain ⟨rfl, rfl⟩ := hq
    refine od_K.ret ?_
    by_cases hk : tm_k (tm_tp xs) = 2
    · rw [show sp_st b (f + 1) xs = sp_st b f (sp_mem b (tm_tp xs)) from if_pos hk] at hfin ⊢
      have hW2 := sp_mem_W hb2 hal
      have h02 : tm_k (tm_tp (sp_mem b (tm_tp xs))) ≠ 0 := by
        show tm_k (tm_tp (sp_mb b (tm_fl (tm_tp xs)).length (tm_tp xs))) ≠ 0
        rcases st_1 h2 hb2 (tm_fl (tm_tp xs)).length (tm_tp xs) hal hk (Nat.le_refl _) with ⟨z, _⟩ | ⟨_, z⟩ | ⟨_, z⟩
        · omega
        · rw [st_G_k z]; decide
        · rw [st_H_k z]; decide
      rw [hk]
      refine od_W.rn (pc' := 34) (ls' := [_, _, some (.int _), some (.ref _), some (.ref _), some (.ref _), some (.int _), _]) (st' := [.int _, .int _]) 1 rfl ?_
      refine od_r2F rfl (of_decide_eq_true rfl) (rfl) ?_
      refine od_W.rn (pc' := 42) (ls' := [_, _, some (.int _), some (.ref _), some (.ref _), some (.ref _), some (.int _), _]) (st' := [.ref _, .int _, .ref _]) 3 rfl ?_
      refine od_rSt (as := [.ref y, .int (nI b), .ref z]) rfl rfl rfl rfl (Nat.le_of_ble_eq_true rfl) (Nat.le_of_ble_eq_true rfl) (lt_makeMember hS rz ry nzy hb2 hb hal hk hx1) (Nat.le_of_ble_eq_true rfl) (fun o M1 hq => ?_)
      refine od_Re.kp hq rfl hzU g (fun z => (z hk).1) (fun ρ1 f1 g1 b1 p1 k1 => ?_)
      refine od_W.rn (pc' := 21) (ls' := [_, _, some (.int _), some (.ref _), some (.ref _), some (.ref _), some (.int _), some (.ref _)]) (st' := []) 8 rfl ?_
      rw [nI_inc i]
      refine (ih (sp_mem b (tm_tp xs)) ρ1 z y (i + 1) _ hW2 h02 (fun h => hfin (fun _ => ⟨k1, h⟩)) (by omega) (by rcases hyz with ⟨rfl, rfl⟩ | ⟨rfl, rfl⟩; exact Or.inr ⟨rfl, rfl⟩; exact Or.inl ⟨rfl, rfl⟩) b1 g1 p1).mono fun o M' h => ?_
      exact h.mono (fun q h => h) ⟨fun z _ => ⟨k1, z⟩, fun z => (z hk).2⟩ (fun ρ' _ _ h => h)
    · rw [show sp_st b (f + 1) xs = xs from if_neg hk] at hfin ⊢
      have hk1 : tm_k (tm_tp xs) = 1 := hfin (fun z => absurd z hk)
      obtain ⟨es, s, hes, hs0⟩ := tm_k_snoc1 hk1
      have hal2 : tm_al (es ++ [s]) := hes ▸ hal
      have hlen : xs.length = (tm_fl es).length + 3 := by
        have := tm_fl_tp hW
        rw [hes, tm_fl_snoc] at this
        rw [← this, List.length_append, tm_t_len, hs0]
        rfl
      rw [hk1]
      refine od_W.rn (pc' := 34) (ls' := [_, _, some (.int _), some (.ref _), some (.ref _), some (.ref _), some (.int _), _]) (st' := [.int _, .int _]) 1 rfl ?_
      refine od_r2T rfl rfl (rfl) ?_
      refine od_W.rn (pc' := 64) (ls' := [_, _, some (.int _), some (.ref _), some (.ref _), some (.ref _), some (.int _), _]) (st' := [.ref _]) 1 rfl ?_
      refine od_rV (as := []) rfl rfl rfl rfl (od_cm_r ho) rfl (Nat.le_of_ble_eq_true rfl) (Nat.le_of_ble_eq_true rfl) (lt_clear hS ho hb) (Nat.le_of_ble_eq_true rfl) (fun o M1 hq => ?_)
      refine od_Re.kp hq rfl (by simp) (g) (fun _ => trivial) (fun ρ1 f1 g1 b1 p1 k1 => ?_)
      have hx2 := hx.fr (f1 y (od_n1 (Ne.symm noy)))
      have hx3 : od_hl ρ1 y ([] ++ (tm_fl es ++ (tm_t s ++ []))) := by rw [List.nil_append, List.append_nil, ← tm_fl_snoc, ← hes, tm_fl_tp hW]; exact hx2
      refine od_W.rn (pc' := 72) (ls' := [_, _, some (.int _), some (.ref _), some (.ref _), some (.ref _), some (.int _), _]) (st' := [.ref _, .int _, .ref _]) 3 rfl ?_
      refine od_gL rfl rfl (ry) (hx2.n) ?_
      refine od_W.rn (pc' := 76) (ls' := [_, _, some (.int _), some (.ref _), some (.ref _), some (.ref _), some (.int _), _]) (st' := [.ref _, .int _, .int _, .ref _]) 1 rfl ?_
      refine od_rSt (as := [.ref y, .int (nI 0), .int (nI xs.length), .ref out]) rfl rfl rfl rfl (Nat.le_of_ble_eq_true rfl) (Nat.le_of_ble_eq_true rfl) (lt_putBefore hS ho ry noy b1 (tm_al_app.mp hal2).2.1 hs0 p1 hx3 rfl (by simp; exact hlen)) (Nat.le_of_ble_eq_true rfl) (fun o M1 hq => ?_)
      refine od_Re.kp hq rfl (by simp) (g1) (fun _ => by rw [List.nil_append, ← hes]; exact sp_pr_ft (by rw [tm_fl_tp hW]; exact ⟨hx.le hb, hx.2⟩)) (fun ρ2 f2 g2 b2 p2 k2 => ?_)
      refine od_W.fin rfl ?_
      refine od_Re.yes g2 b2 (fun z => absurd z hk) ?_
      rw [hes]
      exact p2
theorem lt_stepDown {ρ : od_Rm} (hS : od_SS S) (hA : od_DE M x) (hR : od_DEs S x) (ho : S out = true) (ha : S a = true) (na : a ∉ od_EU x out) (n1 : out ∉ [x + 1, x + 3]) {b : Nat} (h2 : 2 ≤ b) (hb2 : b ≤ 1000000) (hb : od_Bd ρ) {xs : List Nat} (hW : tm_W xs) (h0 : tm_k (tm_tp xs) ≠ 0) (hx : od_hl ρ a xs) : od_W 5 46 0 (od_ent 46 [.ref x, .ref a, .int (nI b), .ref out]) [] (od_cm S M ρ) (od_Re S M ρ (od_EU x out) (ok_st b 200 xs) none (fun ρ' => od_hl ρ' out (sp_pr (tm_tp (sp_st b 200 xs))))) := by
  have e0 : od_ent 46 [.ref x, .ref a, .int (nI b), .ref out] = [some (.ref x), some (.ref a), some (.int (nI b)), some (.ref out), none, none, none, none] := rfl
  rw [e0]
  obtain ⟨hxn, r1, r3⟩ := hR
  refine od_W.rn (pc' := 1) (ls' := [some (.ref _), some (.ref _), some (.int _), some (.ref _), none, none, none, none]) (st' := [.ref _]) 1 rfl ?_
  refine od_rG rfl (od_cm_o hxn hA) rfl rfl ?_
  refine od_W.rn (pc' := 7) (ls' := [some (.ref _), some (.ref _), some (.int _), some (.ref _), some (.ref _), none, none, none]) (st' := [.ref _]) 2 rfl ?_
  refine od_rG rfl (od_cm_o hxn hA) rfl rfl ?_
  refine od_W.rn (pc' := 15) (ls' := [some (.ref _), some (.ref _), some (.int _), some (.ref _), some (.ref _), some (.ref _), none, none]) (st' := [.ref _, .ref _]) 3 rfl ?_
  refine od_rV (as := [.ref a]) rfl rfl rfl rfl (od_cm_r r1) rfl (Nat.le_of_ble_eq_true rfl) (Nat.le_of_ble_eq_true rfl) (lt_become hS r1 ha (Ne.symm (od_ne na (by simp))) hb hx) (Nat.le_of_ble_eq_true rfl) (fun o M1 hq => ?_)
  refine od_Re.kp hq rfl (by simp) (od_fr0 ρ _) (fun _ => trivial) (fun ρ1 f1 g1 b1 p1 k1 => ?_)
  refine od_W.rn (pc' := 21) (ls' := [some (.ref _), some (.ref _), some (.int _), some (.ref _), some (.ref _), some (.ref _), some (.int _), none]) (st' := []) 2 rfl ?_
  exact cl_st_loop (M := M) (ρ0 := ρ) hS ho r1 r3 n1 h2 hb2 200 xs ρ1 (x + 1) (x + 3) 0 none hW h0 (st_fin h2 hb2 hW h0) (by omega) (Or.inl ⟨rfl, rfl⟩) b1 g1 p1
end STEP
