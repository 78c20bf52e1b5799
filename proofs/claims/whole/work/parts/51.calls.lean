/-! The calls of the desk: what they answer. -/
noncomputable def cif {α : Type} (p : Prop) (a b : α) : α := @ite α p (Classical.propDecidable p) a b
theorem cif_pos {α : Type} {p : Prop} (h : p) (a b : α) : cif p a b = a := by unfold cif; exact if_pos h
theorem cif_neg {α : Type} {p : Prop} (h : ¬ p) (a b : α) : cif p a b = b := by unfold cif; exact if_neg h
abbrev cs_T : Type := (Int32 ⊕ Nat) × (Nat → List Nat)
def cs_v (r : Int32 ⊕ Nat) : Option Value ⊕ Nat := match r with
  | .inl v => .inl (some (.int v))
  | .inr k => .inr k
def cs_u (r : Int32 ⊕ Nat) : Option Value ⊕ Nat := match r with
  | .inl _ => .inl none
  | .inr k => .inr k
noncomputable def cs_keep (X : Nat → List Nat) (t : Nat) (ok : Prop) (xs : List Nat) : cs_T := cif ok (.inl (nI (xs.length / 3)), va_up X t xs) (.inr 2, X)
def cs_finite (X : Nat → List Nat) (a to : Int32) : cs_T := match sl 8 to with
  | none => (.inr 0, X)
  | some t => if 0 ≤ a ∧ a ≤ 1000000 then (.inl 0, va_up X t (tm_num a.toNatClampNeg)) else (.inr 1, X)
noncomputable def cs_raise (X : Nat → List Nat) (e c to : Int32) : cs_T := match sl 8 e with
  | none => (.inr 0, X)
  | some i => match sl 8 to with
    | none => (.inr 0, X)
    | some t => if 1 ≤ c ∧ c ≤ 1000000 then cs_keep X t (tm_ft (tm_t (X i, c.toNatClampNeg))) (tm_t (X i, c.toNatClampNeg)) else (.inr 1, X)
theorem dk.low {D n : Nat} {M : od_M} {ρ ρ' : od_Rm} {X R : Nat → List Nat} (h : dk D M ρ n X R) (hb : od_Bd ρ') (hf : ∀ q, D + 88 ≤ q → ρ' q = ρ q) : dk D M ρ' n X R := ⟨h.1, hb, fun i hi => ⟨(h.2.2.1 i hi).1.fr (hf _ (by omega)), (h.2.2.1 i hi).2⟩, fun i hi => ⟨(h.2.2.2.1 i hi).1.fr (hf _ (by omega)), (h.2.2.2.1 i hi).2⟩, h.2.2.2.2⟩
theorem dk.set {D n t : Nat} {M : od_M} {ρ ρ' : od_Rm} {X R : Nat → List Nat} {xs : List Nat} (h : dk D M ρ n X R) (ht : t < 8) (hb : od_Bd ρ') (hf : ∀ q, q ∉ [D + 88 + 2 * t] → ρ' q = ρ q) (hx : od_hl ρ' (D + 88 + 2 * t) xs) (hW : tm_W xs) : dk D M ρ' n (va_up X t xs) R := by
  refine ⟨h.1, hb, fun i hi => ?_, fun i hi => ⟨(h.2.2.2.1 i hi).1.fr (hf _ (od_n1 (by omega))), (h.2.2.2.1 i hi).2⟩, h.2.2.2.2⟩
  by_cases e : i = t
  · subst e; rw [va_up_self]; exact ⟨hx, hW⟩
  · rw [va_up_ne _ _ e]; exact ⟨(h.2.2.1 i hi).1.fr (hf _ (od_n1 (by omega))), (h.2.2.1 i hi).2⟩
section CALLS
variable {D n : Nat} {M : od_M} {ρ : od_Rm} {X R : Nat → List Nat}
theorem dk_r3 (D : Nat) : dk_S D (D + 3) = true := dk_S_y D (k := 3) rfl
theorem dk_r5 (D : Nat) : dk_S D (D + 5) = true := dk_S_y D (k := 5) rfl
theorem lt_keepResult (h : dk D M ρ n X R) {t : Nat} (ht : t < 8) {xs : List Nat} (hx : od_hl ρ (D + 3) xs) : od_W 3 84 0 (od_ent 84 [.ref D, .ref (D + 88 + 2 * t)]) [] (od_cm (dk_S D) M ρ) (od_Re (dk_S D) M ρ [D + 88 + 2 * t] True (some (.int (nI (xs.length / 3)))) (fun ρ' => od_hl ρ' (D + 88 + 2 * t) xs)) := by
  have e0 : od_ent 84 [.ref D, .ref (D + 88 + 2 * t)] = [some (.ref D), some (.ref (D + 88 + 2 * t))] := rfl
  rw [e0]
  refine od_W.rn (pc' := 2) (ls' := [some (.ref _), some (.ref _)]) (st' := [.ref _, .ref _]) 2 rfl ?_
  refine od_rG rfl (h.h0) rfl rfl ?_
  refine od_rV (as := [.ref (D + 3)]) rfl rfl rfl rfl (od_cm_r (dk_sl D ht)) rfl (Nat.le_of_ble_eq_true rfl) (Nat.le_of_ble_eq_true rfl) (lt_become (dk_ss D) (dk_sl D ht) (dk_r3 D) (by omega) h.2.1 hx) (Nat.le_of_ble_eq_true rfl) (fun o M1 hq => ?_)
  refine od_Re.kp hq rfl (by simp) (od_fr0 ρ _) (fun z => z) (fun ρ1 f1 g1 b1 p1 k1 => ?_)
  refine od_W.rn (pc' := 9) (ls' := [some (.ref _), some (.ref _)]) (st' := [.ref _]) 1 rfl ?_
  refine od_rV (as := []) rfl rfl rfl rfl (od_cm_r (dk_sl D ht)) rfl (Nat.le_of_ble_eq_true rfl) (Nat.le_of_ble_eq_true rfl) (ct_termsInAll (od_cm_Rw (dk_ss D) (dk_sl D ht) (b1 _))) (Nat.le_of_ble_eq_true rfl) (fun o M1 hq => ?_)
  obtain ⟨rfl, rfl⟩ := hq
  refine od_K.ret ?_
  rw [p1.n]
  refine od_W.fin rfl ?_
  exact od_Re.yes g1 b1 trivial p1
/-- a result is kept -/
theorem dk.keep (h : dk D M ρ n X R) {ρ1 : od_Rm} {t : Nat} (ht : t < 8) {xs : List Nat} {ok : Prop} (hok : ok) (hW : tm_W xs) (b1 : od_Bd ρ1) (f1 : ∀ q, q ∉ [D + 88 + 2 * t] → ρ1 q = ρ q) (p1 : od_hl ρ1 (D + 88 + 2 * t) xs) : dk_o D M (cs_v (cs_keep X t ok xs).1) n (cs_keep X t ok xs).2 R (.inl (some (.int (nI (xs.length / 3))))) (od_cm (dk_S D) M ρ1) := by
  rw [show cs_keep X t ok xs = (.inl (nI (xs.length / 3)), va_up X t xs) from cif_pos hok _ _]
  exact ⟨M, ρ1, rfl, rfl, fun _ _ => rfl, h.set ht b1 f1 p1 hW, rfl, rfl⟩
theorem dk.keepX (h : dk D M ρ n X R) {t : Nat} {xs : List Nat} {ok : Prop} (hok : ¬ ok) : dk_o D M (cs_v (cs_keep X t ok xs).1) n (cs_keep X t ok xs).2 R (.inr (2, M.1)) (od_xm (od_cm (dk_S D) M ρ) 2) := by
  rw [show cs_keep X t ok xs = (.inr 2, X) from cif_neg hok _ _]
  exact h.thr 2
theorem lt_finite (h : dk D M ρ n X R) (a to : Int32) : od_W 6 62 0 (od_ent 62 [.ref D, .int a, .int to]) [] (od_cm (dk_S D) M ρ) (dk_o D M (cs_u (cs_finite X a to).1) n (cs_finite X a to).2 R) := by
  have e0 : od_ent 62 [.ref D, .int a, .int to] = [some (.ref D), some (.int a), some (.int to), none] := rfl
  rw [e0]
  unfold cs_finite
  refine od_W.rn (pc' := 2) (ls' := [some (.ref _), some (.int _), some (.int _), none]) (st' := [.int _, .ref _]) 2 rfl ?_
  rcases sl_is (m := 8) (by omega) to with ⟨e1, e2⟩ | ⟨t, ht, rfl, e1⟩
  · rw [e1]
    refine od_rV (as := [.int to]) rfl rfl rfl rfl (h.h0) rfl (Nat.le_of_ble_eq_true rfl) (Nat.le_of_ble_eq_true rfl) (ct_slotX e2) (Nat.le_of_ble_eq_true rfl) (fun o M1 hq => ?_)
    obtain ⟨rfl, rfl⟩ := hq
    exact od_K.out rfl (h.thr 0)
  · rw [e1]
    refine od_rV (as := [.int (nI t)]) rfl rfl rfl rfl (h.h0) rfl (Nat.le_of_ble_eq_true rfl) (Nat.le_of_ble_eq_true rfl) (ct_slot h ht) (Nat.le_of_ble_eq_true rfl) (fun o M1 hq => ?_)
    obtain ⟨rfl, rfl⟩ := hq
    refine od_K.ret ?_
    refine od_W.rn (pc' := 10) (ls' := [some (.ref _), some (.int _), some (.int _), some (.ref _)]) (st' := [.int _, .int _, .int _]) 4 rfl ?_
    refine od_rSt (as := [.int a, .int 0, .int 1000000]) rfl rfl rfl rfl (Nat.le_of_ble_eq_true rfl) (Nat.le_of_ble_eq_true rfl) (ct_isWithin a 0 1000000) (Nat.le_of_ble_eq_true rfl) (fun o M1 hq => ?_)
    obtain ⟨rfl, rfl⟩ := hq
    refine od_K.ret ?_
    refine od_rSt (as := [.int (if 0 ≤ a ∧ a ≤ 1000000 then 1 else 0)]) rfl rfl rfl rfl (Nat.le_of_ble_eq_true rfl) (Nat.le_of_ble_eq_true rfl) (ct_refuse (0 ≤ a ∧ a ≤ 1000000) inferInstance) (Nat.le_of_ble_eq_true rfl) (fun o M1 hq => ?_)
    rcases hq with ⟨hc, rfl, rfl⟩ | ⟨hc, rfl, rfl⟩
    · refine od_K.ret ?_
      obtain ⟨c, hc2, rfl⟩ := nI_of2 (n := 1000000) (by decide) (fun z => absurd (Int32.lt_of_lt_of_le z hc.1) Int32.lt_irrefl) hc.2
      dsimp only
      rw [if_pos hc, nI_clamp (by omega)]
      refine od_W.rn (pc' := 18) (ls' := [some (.ref _), some (.int _), some (.int _), some (.ref _)]) (st' := [.int _, .ref _]) 2 rfl ?_
      refine od_rV (as := [.int (nI c)]) rfl rfl rfl rfl (od_cm_r (dk_sl D ht)) rfl (Nat.le_of_ble_eq_true rfl) (Nat.le_of_ble_eq_true rfl) (lt_becomeNumber (dk_ss D) (dk_sl D ht) h.2.1 hc2) (Nat.le_of_ble_eq_true rfl) (fun o M1 hq => ?_)
      refine od_Re.kq hq rfl (fun ρ1 f1 b1 k1 => absurd trivial k1) (fun ρ1 f1 b1 p1 k1 => ?_)
      refine od_W.fin rfl ?_
      exact ⟨M, ρ1, rfl, rfl, fun _ _ => rfl, h.set ht b1 f1 p1 (tm_num_W hc2), rfl, rfl⟩
    · dsimp only
      rw [if_neg hc]
      exact od_K.out rfl (h.thr 1)
theorem lt_raise (h : dk D M ρ n X R) (e c to : Int32) : od_W 6 63 0 (od_ent 63 [.ref D, .int e, .int c, .int to]) [] (od_cm (dk_S D) M ρ) (dk_o D M (cs_u (cs_raise X e c to).1) n (cs_raise X e c to).2 R) := by
  have e0 : od_ent 63 [.ref D, .int e, .int c, .int to] = [some (.ref D), some (.int e), some (.int c), some (.int to), none, none] := rfl
  rw [e0]
  unfold cs_raise
  refine od_W.rn (pc' := 2) (ls' := [some (.ref _), some (.int _), some (.int _), some (.int _), none, none]) (st' := [.int _, .ref _]) 2 rfl ?_
  rcases sl_is (m := 8) (by omega) e with ⟨e1, e2⟩ | ⟨i, hi, rfl, e1⟩
  · rw [e1]
    refine od_rV (as := [.int e]) rfl rfl rfl rfl (h.h0) rfl (Nat.le_of_ble_eq_true rfl) (Nat.le_of_ble_eq_true rfl) (ct_slotX e2) (Nat.le_of_ble_eq_true rfl) (fun o M1 hq => ?_)
    obtain ⟨rfl, rfl⟩ := hq
    exact od_K.out rfl (h.thr 0)
  · rw [e1]
    dsimp only
    refine od_rV (as := [.int (nI i)]) rfl rfl rfl rfl (h.h0) rfl (Nat.le_of_ble_eq_true rfl) (Nat.le_of_ble_eq_true rfl) (ct_slot h hi) (Nat.le_of_ble_eq_true rfl) (fun o M1 hq => ?_)
    obtain ⟨rfl, rfl⟩ := hq
    refine od_K.ret ?_
    refine od_W.rn (pc' := 9) (ls' := [some (.ref _), some (.int _), some (.int _), some (.int _), some (.ref _), none]) (st' := [.int _, .ref _]) 3 rfl ?_
    rcases sl_is (m := 8) (by omega) to with ⟨e1, e2⟩ | ⟨t, ht, rfl, e1⟩
    · rw [e1]
      refine od_rV (as := [.int to]) rfl rfl rfl rfl (h.h0) rfl (Nat.le_of_ble_eq_true rfl) (Nat.le_of_ble_eq_true rfl) (ct_slotX e2) (Nat.le_of_ble_eq_true rfl) (fun o M1 hq => ?_)
      obtain ⟨rfl, rfl⟩ := hq
      exact od_K.out rfl (h.thr 0)
    · rw [e1]
      dsimp only
      refine od_rV (as := [.int (nI t)]) rfl rfl rfl rfl (h.h0) rfl (Nat.le_of_ble_eq_true rfl) (Nat.le_of_ble_eq_true rfl) (ct_slot h ht) (Nat.le_of_ble_eq_true rfl) (fun o M1 hq => ?_)
      obtain ⟨rfl, rfl⟩ := hq
      refine od_K.ret ?_
      refine od_W.rn (pc' := 18) (ls' := [some (.ref _), some (.int _), some (.int _), some (.int _), some (.ref _), some (.ref _)]) (st' := [.int _, .int _, .int _]) 4 rfl ?_
      refine od_rSt (as := [.int c, .int 1, .int 1000000]) rfl rfl rfl rfl (Nat.le_of_ble_eq_true rfl) (Nat.le_of_ble_eq_true rfl) (ct_isWithin c 1 1000000) (Nat.le_of_ble_eq_true rfl) (fun o M1 hq => ?_)
      obtain ⟨rfl, rfl⟩ := hq
      refine od_K.ret ?_
      refine od_rSt (as := [.int (if 1 ≤ c ∧ c ≤ 1000000 then 1 else 0)]) rfl rfl rfl rfl (Nat.le_of_ble_eq_true rfl) (Nat.le_of_ble_eq_true rfl) (ct_refuse (1 ≤ c ∧ c ≤ 1000000) inferInstance) (Nat.le_of_ble_eq_true rfl) (fun o M1 hq => ?_)
      rcases hq with ⟨hc, rfl, rfl⟩ | ⟨hc, rfl, rfl⟩
      · refine od_K.ret ?_
        obtain ⟨c, hc2, rfl⟩ := nI_of2 (n := 1000000) (by decide) (fun z => absurd (Int32.lt_of_lt_of_le (Int32.lt_trans (show (0 : Int32) < 1 by decide) (Int32.lt_of_le_of_lt hc.1 z)) (Int32.le_refl 0)) Int32.lt_irrefl) hc.2
        have hc1 : 1 ≤ c := (nI_leI (a := 1) (by omega) (by omega)).mp hc.1
        rw [if_pos hc, nI_clamp (by omega)]
        have hs := h.2.2.1 i hi
        refine od_W.rn (pc' := 25) (ls' := [some (.ref _), some (.int _), some (.int _), some (.int _), some (.ref _), some (.ref _)]) (st' := [.ref _]) 1 rfl ?_
        refine od_rG rfl (h.h0) rfl rfl ?_
        refine od_W.rn (pc' := 32) (ls' := [some (.ref _), some (.int _), some (.int _), some (.int _), some (.ref _), some (.ref _)]) (st' := [.long _, .ref _, .ref _]) 3 rfl ?_
        rw [nI_1000 hc2]
        refine od_rV (as := [.ref (D + 88 + 2 * i), .long (lN c)]) rfl rfl rfl rfl (od_cm_r (dk_r3 D)) rfl (Nat.le_of_ble_eq_true rfl) (Nat.le_of_ble_eq_true rfl) (lt_becomeTerm (dk_ss D) (dk_r3 D) (dk_sl D hi) (by omega) h.2.1 hs.1 (by omega)) (Nat.le_of_ble_eq_true rfl) (fun o M1 hq => ?_)
        refine od_Re.kq hq rfl (fun ρ1 f1 b1 k1 => ?_) (fun ρ1 f1 b1 p1 k1 => ?_)
        · have h1 := h.low b1 (fun q hq => f1 q (od_n1 (by omega)))
          rw [show cs_keep X t (tm_ft (tm_t (X i, c))) (tm_t (X i, c)) = (.inr 2, X) from cif_neg k1 _ _]
          exact h1.thr 2
        · have h1 := h.low b1 (fun q hq => f1 q (od_n1 (by omega)))
          refine od_W.rn (pc' := 38) (ls' := [some (.ref _), some (.int _), some (.int _), some (.int _), some (.ref _), some (.ref _)]) (st' := [.ref _, .ref _]) 2 rfl ?_
          refine od_rG rfl (h1.h0) rfl rfl ?_
          refine od_rV (as := [.ref (D + 3)]) rfl rfl rfl rfl (od_cm_r (dk_sl D ht)) rfl (Nat.le_of_ble_eq_true rfl) (Nat.le_of_ble_eq_true rfl) (lt_become (dk_ss D) (dk_sl D ht) (dk_r3 D) (by omega) b1 p1) (Nat.le_of_ble_eq_true rfl) (fun o M1 hq => ?_)
          refine od_Re.kq hq rfl (fun ρ1 f1 b1 k1 => absurd trivial k1) (fun ρ2 f2 b2 p2 k2 => ?_)
          refine od_W.fin rfl ?_
          rw [show cs_keep X t (tm_ft (tm_t (X i, c))) (tm_t (X i, c)) = (.inl _, va_up X t (tm_t (X i, c))) from cif_pos k1 _ _]
          exact ⟨M, ρ2, rfl, rfl, fun _ _ => rfl, h1.set ht b2 f2 p2 (tm_t_W ⟨hs.2, hc1, hc2⟩), rfl, rfl⟩
      · rw [if_neg hc]
        exact od_K.out rfl (h.thr 1)
def cs_get (X : Nat → List Nat) (a : Int32) (f : List Nat → Int32) : Int32 ⊕ Nat := match sl 8 a with
  | none => .inr 0
  | some i => .inl (f (X i))
def cs_compare (X : Nat → List Nat) (a b : Int32) : Int32 ⊕ Nat := match sl 8 a with
  | none => .inr 0
  | some i => match sl 8 b with
    | none => .inr 0
    | some j => .inl (tm_cmp (X i) (X j))
def cs_kind (X : Nat → List Nat) (a : Int32) : Int32 ⊕ Nat := cs_get X a (fun xs => nI (tm_k (tm_tp xs)))
def cs_size (X : Nat → List Nat) (a : Int32) : Int32 ⊕ Nat := cs_get X a (fun xs => nI (xs.length / 3))
def cs_at (X : Nat → List Nat) (a i : Int32) : Int32 ⊕ Nat := cs_get X a (fun xs => if i < 0 ∨ nI xs.length ≤ i then -1 else nI (xs.getD i.toNatClampNeg 0))
theorem lt_compare (h : dk D M ρ n X R) (a b : Int32) : od_W 4 69 0 (od_ent 69 [.ref D, .int a, .int b]) [] (od_cm (dk_S D) M ρ) (dk_o D M (cs_v (cs_compare X a b)) n X R) := by
  have e0 : od_ent 69 [.ref D, .int a, .int b] = [some (.ref D), some (.int a), some (.int b)] := rfl
  rw [e0]
  unfold cs_compare
  refine od_W.rn (pc' := 2) (ls' := [some (.ref _), some (.int _), some (.int _)]) (st' := [.int _, .ref _]) 2 rfl ?_
  rcases sl_is (m := 8) (by omega) a with ⟨e1, e2⟩ | ⟨i, hi, rfl, e1⟩
  · rw [e1]
    refine od_rV (as := [.int a]) rfl rfl rfl rfl (h.h0) rfl (Nat.le_of_ble_eq_true rfl) (Nat.le_of_ble_eq_true rfl) (ct_slotX e2) (Nat.le_of_ble_eq_true rfl) (fun o M1 hq => ?_)
    obtain ⟨rfl, rfl⟩ := hq
    exact od_K.out rfl (h.thr 0)
  · rw [e1]
    dsimp only
    refine od_rV (as := [.int (nI i)]) rfl rfl rfl rfl (h.h0) rfl (Nat.le_of_ble_eq_true rfl) (Nat.le_of_ble_eq_true rfl) (ct_slot h hi) (Nat.le_of_ble_eq_true rfl) (fun o M1 hq => ?_)
    obtain ⟨rfl, rfl⟩ := hq
    refine od_K.ret ?_
    refine od_W.rn (pc' := 7) (ls' := [some (.ref _), some (.int _), some (.int _)]) (st' := [.int _, .ref _, .ref _]) 2 rfl ?_
    rcases sl_is (m := 8) (by omega) b with ⟨e1, e2⟩ | ⟨j, hj, rfl, e1⟩
    · rw [e1]
      refine od_rV (as := [.int b]) rfl rfl rfl rfl (h.h0) rfl (Nat.le_of_ble_eq_true rfl) (Nat.le_of_ble_eq_true rfl) (ct_slotX e2) (Nat.le_of_ble_eq_true rfl) (fun o M1 hq => ?_)
      obtain ⟨rfl, rfl⟩ := hq
      exact od_K.out rfl (h.thr 0)
    · rw [e1]
      dsimp only
      refine od_rV (as := [.int (nI j)]) rfl rfl rfl rfl (h.h0) rfl (Nat.le_of_ble_eq_true rfl) (Nat.le_of_ble_eq_true rfl) (ct_slot h hj) (Nat.le_of_ble_eq_true rfl) (fun o M1 hq => ?_)
      obtain ⟨rfl, rfl⟩ := hq
      refine od_K.ret ?_
      have hsi := h.2.2.1 i hi
      have hsj := h.2.2.1 j hj
      refine od_rSt (as := [.ref (D + 88 + 2 * i), .ref (D + 88 + 2 * j)]) rfl rfl rfl rfl (Nat.le_of_ble_eq_true rfl) (Nat.le_of_ble_eq_true rfl) (ct_order (dk_ss D) (dk_sl D hi) (dk_sl D hj) h.2.1 hsi.1.2 hsj.1.2 hsi.1.1 hsj.1.1) (Nat.le_of_ble_eq_true rfl) (fun o M1 hq => ?_)
      obtain ⟨rfl, rfl⟩ := hq
      refine od_K.ret ?_
      refine od_W.fin rfl ?_
      exact h.val _
theorem lt_kind (h : dk D M ρ n X R) (a : Int32) : od_W 4 70 0 (od_ent 70 [.ref D, .int a]) [] (od_cm (dk_S D) M ρ) (dk_o D M (cs_v (cs_kind X a)) n X R) := by
  have e0 : od_ent 70 [.ref D, .int a] = [some (.ref D), some (.int a)] := rfl
  rw [e0]
  unfold cs_kind cs_get
  refine od_W.rn (pc' := 2) (ls' := [some (.ref _), some (.int _)]) (st' := [.int _, .ref _]) 2 rfl ?_
  rcases sl_is (m := 8) (by omega) a with ⟨e1, e2⟩ | ⟨i, hi, rfl, e1⟩
  · rw [e1]
    refine od_rV (as := [.int a]) rfl rfl rfl rfl (h.h0) rfl (Nat.le_of_ble_eq_true rfl) (Nat.le_of_ble_eq_true rfl) (ct_slotX e2) (Nat.le_of_ble_eq_true rfl) (fun o M1 hq => ?_)
    obtain ⟨rfl, rfl⟩ := hq
    exact od_K.out rfl (h.thr 0)
  · rw [e1]
    refine od_rV (as := [.int (nI i)]) rfl rfl rfl rfl (h.h0) rfl (Nat.le_of_ble_eq_true rfl) (Nat.le_of_ble_eq_true rfl) (ct_slot h hi) (Nat.le_of_ble_eq_true rfl) (fun o M1 hq => ?_)
    obtain ⟨rfl, rfl⟩ := hq
    refine od_K.ret ?_
    have hsi := h.2.2.1 i hi
    have hl : od_hl ρ (D + 88 + 2 * i) (tm_fl (tm_tp (X i))) := by rw [tm_fl_tp hsi.2]; exact hsi.1
    refine od_rV (as := []) rfl rfl rfl rfl (od_cm_r (dk_sl D hi)) rfl (Nat.le_of_ble_eq_true rfl) (Nat.le_of_ble_eq_true rfl) (ct_sort (dk_ss D) (dk_sl D hi) (h.2.1 _) (tm_al_tp hsi.2) hl.1) (Nat.le_of_ble_eq_true rfl) (fun o M1 hq => ?_)
    obtain ⟨rfl, rfl⟩ := hq
    refine od_K.ret ?_
    refine od_W.fin rfl ?_
    exact h.val _
theorem lt_size (h : dk D M ρ n X R) (a : Int32) : od_W 4 71 0 (od_ent 71 [.ref D, .int a]) [] (od_cm (dk_S D) M ρ) (dk_o D M (cs_v (cs_size X a)) n X R) := by
  have e0 : od_ent 71 [.ref D, .int a] = [some (.ref D), some (.int a)] := rfl
  rw [e0]
  unfold cs_size cs_get
  refine od_W.rn (pc' := 2) (ls' := [some (.ref _), some (.int _)]) (st' := [.int _, .ref _]) 2 rfl ?_
  rcases sl_is (m := 8) (by omega) a with ⟨e1, e2⟩ | ⟨i, hi, rfl, e1⟩
  · rw [e1]
    refine od_rV (as := [.int a]) rfl rfl rfl rfl (h.h0) rfl (Nat.le_of_ble_eq_true rfl) (Nat.le_of_ble_eq_true rfl) (ct_slotX e2) (Nat.le_of_ble_eq_true rfl) (fun o M1 hq => ?_)
    obtain ⟨rfl, rfl⟩ := hq
    exact od_K.out rfl (h.thr 0)
  · rw [e1]
    refine od_rV (as := [.int (nI i)]) rfl rfl rfl rfl (h.h0) rfl (Nat.le_of_ble_eq_true rfl) (Nat.le_of_ble_eq_true rfl) (ct_slot h hi) (Nat.le_of_ble_eq_true rfl) (fun o M1 hq => ?_)
    obtain ⟨rfl, rfl⟩ := hq
    refine od_K.ret ?_
    have hsi := h.2.2.1 i hi
    refine od_rV (as := []) rfl rfl rfl rfl (od_cm_r (dk_sl D hi)) rfl (Nat.le_of_ble_eq_true rfl) (Nat.le_of_ble_eq_true rfl) (ct_termsInAll (od_cm_Rw (dk_ss D) (dk_sl D hi) (h.2.1 _))) (Nat.le_of_ble_eq_true rfl) (fun o M1 hq => ?_)
    obtain ⟨rfl, rfl⟩ := hq
    refine od_K.ret ?_
    rw [hsi.1.n]
    refine od_W.fin rfl ?_
    exact h.val _
theorem lt_at (h : dk D M ρ n X R) (a j : Int32) : od_W 4 72 0 (od_ent 72 [.ref D, .int a, .int j]) [] (od_cm (dk_S D) M ρ) (dk_o D M (cs_v (cs_at X a j)) n X R) := by
  have e0 : od_ent 72 [.ref D, .int a, .int j] = [some (.ref D), some (.int a), some (.int j), none] := rfl
  rw [e0]
  have hS := dk_ss D
  unfold cs_at cs_get
  refine od_W.rn (pc' := 2) (ls' := [some (.ref _), some (.int _), some (.int _), none]) (st' := [.int _, .ref _]) 2 rfl ?_
  rcases sl_is (m := 8) (by omega) a with ⟨e1, e2⟩ | ⟨i, hi, rfl, e1⟩
  · rw [e1]
    refine od_rV (as := [.int a]) rfl rfl rfl rfl (h.h0) rfl (Nat.le_of_ble_eq_true rfl) (Nat.le_of_ble_eq_true rfl) (ct_slotX e2) (Nat.le_of_ble_eq_true rfl) (fun o M1 hq => ?_)
    obtain ⟨rfl, rfl⟩ := hq
    exact od_K.out rfl (h.thr 0)
  · rw [e1]
    refine od_rV (as := [.int (nI i)]) rfl rfl rfl rfl (h.h0) rfl (Nat.le_of_ble_eq_true rfl) (Nat.le_of_ble_eq_true rfl) (ct_slot h hi) (Nat.le_of_ble_eq_true rfl) (fun o M1 hq => ?_)
    obtain ⟨rfl, rfl⟩ := hq
    refine od_K.ret ?_
    have hsi := h.2.2.1 i hi
    have h60 := hsi.1.le h.2.1
    dsimp only
    refine od_W.rn (pc' := 7) (ls' := [some (.ref _), some (.int _), some (.int _), some (.ref _)]) (st' := [.int _]) 2 rfl ?_
    by_cases hj : j < 0
    · rw [if_pos (Or.inl hj)]
      refine od_r1T rfl rfl (decide_eq_true hj) ?_
      refine od_W.rn (pc' := 28) (ls' := [some (.ref _), some (.int _), some (.int _), some (.ref _)]) (st' := [.int _]) 2 rfl ?_
      refine od_W.fin rfl ?_
      exact h.val _
    · refine od_r1F rfl (of_decide_eq_true rfl) (decide_eq_false hj) ?_
      refine od_W.rn (pc' := 12) (ls' := [some (.ref _), some (.int _), some (.int _), some (.ref _)]) (st' := [.ref _, .int _]) 2 rfl ?_
      refine od_gL rfl rfl (dk_sl D hi) (hsi.1.n) ?_
      by_cases hj2 : nI (X i).length ≤ j
      · rw [if_pos (Or.inr hj2)]
        refine od_r2F rfl (of_decide_eq_true rfl) (decide_eq_false (fun z => absurd (Int32.lt_of_lt_of_le z hj2) Int32.lt_irrefl)) ?_
        refine od_W.rn (pc' := 28) (ls' := [some (.ref _), some (.int _), some (.int _), some (.ref _)]) (st' := [.int _]) 2 rfl ?_
        refine od_W.fin rfl ?_
        exact h.val _
      · rw [if_neg (fun z => z.elim hj hj2)]
        rcases pk_ix j (n := (X i).length) (by omega) with z | z | ⟨k, hk, rfl⟩
        · exact absurd z hj
        · exact absurd z hj2
        · rw [nI_clamp (by omega)]
          have hat := hsi.1.at k hk
          rw [Nat.zero_add] at hat
          refine od_r2T rfl rfl (decide_eq_true (nI_lt hk (by omega))) ?_
          refine od_W.rn (pc' := 23) (ls' := [some (.ref _), some (.int _), some (.int _), some (.ref _)]) (st' := [.ref _]) 1 rfl ?_
          refine od_gC rfl rfl (dk_sl D hi) ?_
          refine od_W.rn (pc' := 27) (ls' := [some (.ref _), some (.int _), some (.int _), some (.ref _)]) (st' := [.int _, .ref _]) 1 rfl ?_
          refine od_gA rfl hS (dk_sl D hi) (rfl) (by omega) (hat) ?_
          refine od_W.fin rfl ?_
          exact h.val _
end CALLS
