/-! OP. -/
def op_v (k : Nat) (x y : List Nat) : List Nat := match k with
  | 0 => tm_fl (sp_sum (tm_tp x) (tm_tp y))
  | 1 => tm_fl (sp_mul (tm_tp x) (tm_tp y))
  | 2 => tm_fl (sp_pow (tm_tp x) (tm_tp y))
  | 3 => tm_fl (sp_nat (tm_tp x) (tm_tp y))
  | 4 => tm_fl (sp_np (tm_tp y) [] (tm_tp x))
  | 5 => tm_fl (sp_dif (tm_tp x) (tm_tp y))
  | 6 => match tm_tp y with
    | [] => []
    | u :: us => tm_fl (sp_quo (tm_tp x) u us)
  | _ => match tm_tp y with
    | [] => []
    | u :: us => tm_fl (sp_rem (tm_tp x) u us)
def op_ok (k : Nat) (x y : List Nat) : Prop := match k with
  | 0 => tm_ft (tm_fl (sp_sum (tm_tp x) (tm_tp y)))
  | 1 => tm_ft (tm_fl (sp_mul (tm_tp x) (tm_tp y)))
  | 2 => ok_pow (tm_tp x) (tm_tp y)
  | 3 => tm_ft (tm_fl (sp_nat (tm_tp x) (tm_tp y)))
  | 4 => ok_np (tm_tp y) [] (tm_tp x)
  | 5 => True
  | _ => match tm_tp y with
    | [] => True
    | u :: us => tm_ft (tm_fl (sp_quo (tm_tp x) u us))
noncomputable def cs_op (X : Nat → List Nat) (kind a b to : Int32) : cs_T := match sl 8 a with
  | none => (.inr 0, X)
  | some i => match sl 8 b with
    | none => (.inr 0, X)
    | some j => match sl 8 to with
      | none => (.inr 0, X)
      | some t => if 0 ≤ kind ∧ kind ≤ 7 then (if kind.toNatClampNeg = 5 ∧ tm_cmp (X i) (X j) = -1 ∨ 6 ≤ kind.toNatClampNeg ∧ X j = [] then (.inr 1, X) else cs_keep X t (op_ok kind.toNatClampNeg (X i) (X j)) (op_v kind.toNatClampNeg (X i) (X j))) else (.inr 1, X)
theorem od_nlt {a : Nat} {U : List Nat} (h : ∀ q, q ∈ U → q < a) : a ∉ U := fun z => Nat.lt_irrefl _ (h _ z)
section OP
variable {D n : Nat} {M : od_M} {ρ : od_Rm} {X R : Nat → List Nat}
set_option maxRecDepth 100000 in
theorem cl_op_keep (h : dk D M ρ n X R) {t : Nat} (ht : t < 8) {xs : List Nat} {ok : Prop} (hok : ok) (hW : tm_W xs) (hx : od_hl ρ (D + 3) xs) {l1 l2 l3 l4 l5 l6 : Option Value} : od_W 8 64 265 [some (.ref D), l1, l2, l3, l4, l5, l6, some (.ref (D + 88 + 2 * t))] [] (od_cm (dk_S D) M ρ) (dk_o D M (cs_v (cs_keep X t ok xs).1) n (cs_keep X t ok xs).2 R) := by
  refine od_W.rn (pc' := 268) (ls' := [some (.ref _), _, _, _, _, _, _, some (.ref _)]) (st' := [.ref _, .ref _]) 2 rfl ?_
  refine od_rV (as := [.ref (D + 88 + 2 * t)]) rfl rfl rfl rfl (h.h0) rfl (Nat.le_of_ble_eq_true rfl) (Nat.le_of_ble_eq_true rfl) (lt_keepResult h ht hx) (Nat.le_of_ble_eq_true rfl) (fun o M1 hq => ?_)
  refine od_Re.kq hq rfl (fun ρ1 f1 b1 k1 => absurd trivial k1) (fun ρ1 f1 b1 p1 k1 => ?_)
  refine od_W.fin rfl ?_
  exact h.keep ht hok hW b1 f1 p1
set_option maxRecDepth 100000 in
theorem cl_op_sw (h : dk D M ρ n X R) {i j t k : Nat} (hi : i < 8) (hj : j < 8) (ht : t < 8) (hk : k ≤ 7) (hj0 : 6 ≤ k → X j ≠ []) {l2 l3 l4 : Option Value} : od_W 8 64 83 [some (.ref D), some (.int (nI k)), l2, l3, l4, some (.ref (D + 88 + 2 * i)), some (.ref (D + 88 + 2 * j)), some (.ref (D + 88 + 2 * t))] [] (od_cm (dk_S D) M ρ) (dk_o D M (cs_v (cs_keep X t (op_ok k (X i) (X j)) (op_v k (X i) (X j))).1) n (cs_keep X t (op_ok k (X i) (X j)) (op_v k (X i) (X j))).2 R) := by
  have hS := dk_ss D
  have hsi := h.2.2.1 i hi
  have hsj := h.2.2.1 j hj
  have si := dk_sl D hi
  have sj := dk_sl D hj
  have r3 := dk_r3 D
  have r5 := dk_r5 D
  have ai := tm_al_tp hsi.2
  have aj := tm_al_tp hsj.2
  have xi : od_hl ρ (D + 88 + 2 * i) (tm_fl (tm_tp (X i))) := by rw [tm_fl_tp hsi.2]; exact hsi.1
  have xj : od_hl ρ (D + 88 + 2 * j) (tm_fl (tm_tp (X j))) := by rw [tm_fl_tp hsj.2]; exact hsj.1
  obtain ⟨d1, d2, d3, d4, d5, d6, d7, d8, d9, d10, d11⟩ := id h.1
  obtain rfl | rfl | rfl | rfl | rfl | rfl | rfl | rfl : k = 0 ∨ k = 1 ∨ k = 2 ∨ k = 3 ∨ k = 4 ∨ k = 5 ∨ k = 6 ∨ k = 7 := by omega
  · refine od_W.rn (pc' := 128) (ls' := [some (.ref _), some (.int _), _, _, _, some (.ref _), some (.ref _), some (.ref _)]) (st' := []) 2 rfl ?_
    refine od_W.rn (pc' := 133) (ls' := [some (.ref _), some (.int _), _, _, _, some (.ref _), some (.ref _), some (.ref _)]) (st' := [.ref _, .ref _, .ref _]) 3 rfl ?_
    refine od_rG rfl (h.h0) rfl rfl ?_
    refine od_rSt (as := [.ref (D + 88 + 2 * i), .ref (D + 88 + 2 * j), .ref (D + 3)]) rfl rfl rfl rfl (Nat.le_of_ble_eq_true rfl) (Nat.le_of_ble_eq_true rfl) (lt_makeSum hS si sj r3 (by omega) (by omega) h.2.1 ai aj xi xj) (Nat.le_of_ble_eq_true rfl) (fun o M1 hq => ?_)
    refine od_Re.kq hq rfl (fun ρ1 f1 b1 k1 => ?_) (fun ρ1 f1 b1 p1 k1 => ?_)
    · exact (h.low b1 (fun q hq => f1 q (od_nlt (by simp; omega)))).keepX k1
    · refine od_W.rn (pc' := 265) (ls' := [some (.ref _), some (.int _), _, _, _, some (.ref _), some (.ref _), some (.ref _)]) (st' := []) 1 rfl ?_
      exact cl_op_keep (h.low b1 (fun q hq => f1 q (od_nlt (by simp; omega)))) ht k1 (tm_fl_W (sp_sum_al ai aj k1.2)) p1
  · refine od_W.rn (pc' := 142) (ls' := [some (.ref _), some (.int _), _, _, _, some (.ref _), some (.ref _), some (.ref _)]) (st' := []) 2 rfl ?_
    refine od_W.rn (pc' := 143) (ls' := [some (.ref _), some (.int _), _, _, _, some (.ref _), some (.ref _), some (.ref _)]) (st' := [.ref _]) 1 rfl ?_
    refine od_rG rfl (h.h0) rfl rfl ?_
    refine od_W.rn (pc' := 151) (ls' := [some (.ref _), some (.int _), _, _, _, some (.ref _), some (.ref _), some (.ref _)]) (st' := [.ref _, .ref _, .ref _, .ref _]) 3 rfl ?_
    refine od_rG rfl (h.h0) rfl rfl ?_
    refine od_rV (as := [.ref (D + 88 + 2 * i), .ref (D + 88 + 2 * j), .ref (D + 3)]) rfl rfl rfl rfl (od_cm_o (dk_ars D).1 d4) rfl (Nat.le_of_ble_eq_true rfl) (Nat.le_of_ble_eq_true rfl) (lt_makeProduct hS d4 (dk_ars D) si sj r3 (od_nlt (by simp; omega)) (od_nlt (by simp; omega)) (by simp) h.2.1 ai aj xi xj) (Nat.le_of_ble_eq_true rfl) (fun o M1 hq => ?_)
    refine od_Re.kq hq rfl (fun ρ1 f1 b1 k1 => ?_) (fun ρ1 f1 b1 p1 k1 => ?_)
    · exact (h.low b1 (fun q hq => f1 q (od_nlt (by simp; omega)))).keepX k1
    · refine od_W.rn (pc' := 265) (ls' := [some (.ref _), some (.int _), _, _, _, some (.ref _), some (.ref _), some (.ref _)]) (st' := []) 1 rfl ?_
      exact cl_op_keep (h.low b1 (fun q hq => f1 q (od_nlt (by simp; omega)))) ht k1 (tm_fl_W (sp_mul_al ai aj k1.2)) p1
  · refine od_W.rn (pc' := 160) (ls' := [some (.ref _), some (.int _), _, _, _, some (.ref _), some (.ref _), some (.ref _)]) (st' := []) 2 rfl ?_
    refine od_W.rn (pc' := 161) (ls' := [some (.ref _), some (.int _), _, _, _, some (.ref _), some (.ref _), some (.ref _)]) (st' := [.ref _]) 1 rfl ?_
    refine od_rG rfl (h.h0) rfl rfl ?_
    refine od_W.rn (pc' := 169) (ls' := [some (.ref _), some (.int _), _, _, _, some (.ref _), some (.ref _), some (.ref _)]) (st' := [.ref _, .ref _, .ref _, .ref _]) 3 rfl ?_
    refine od_rG rfl (h.h0) rfl rfl ?_
    refine od_rV (as := [.ref (D + 88 + 2 * i), .ref (D + 88 + 2 * j), .ref (D + 3)]) rfl rfl rfl rfl (od_cm_o (dk_ars D).1 d4) rfl (Nat.le_of_ble_eq_true rfl) (Nat.le_of_ble_eq_true rfl) (lt_makePower hS d4 (dk_ars D) si sj r3 (od_nlt (by simp; omega)) (od_nlt (by simp; omega)) (by simp) h.2.1 ai aj xi xj) (Nat.le_of_ble_eq_true rfl) (fun o M1 hq => ?_)
    refine od_Re.kq hq rfl (fun ρ1 f1 b1 k1 => ?_) (fun ρ1 f1 b1 p1 k1 => ?_)
    · exact (h.low b1 (fun q hq => f1 q (od_nlt (by simp; omega)))).keepX k1
    · refine od_W.rn (pc' := 265) (ls' := [some (.ref _), some (.int _), _, _, _, some (.ref _), some (.ref _), some (.ref _)]) (st' := []) 1 rfl ?_
      exact cl_op_keep (h.low b1 (fun q hq => f1 q (od_nlt (by simp; omega)))) ht k1 (tm_fl_W (sp_pow_al ai aj k1)) p1
  · refine od_W.rn (pc' := 178) (ls' := [some (.ref _), some (.int _), _, _, _, some (.ref _), some (.ref _), some (.ref _)]) (st' := []) 2 rfl ?_
    refine od_W.rn (pc' := 183) (ls' := [some (.ref _), some (.int _), _, _, _, some (.ref _), some (.ref _), some (.ref _)]) (st' := [.ref _, .ref _, .ref _]) 3 rfl ?_
    refine od_rG rfl (h.h0) rfl rfl ?_
    refine od_rSt (as := [.ref (D + 88 + 2 * i), .ref (D + 88 + 2 * j), .ref (D + 3)]) rfl rfl rfl rfl (Nat.le_of_ble_eq_true rfl) (Nat.le_of_ble_eq_true rfl) (lt_makeNaturalSum hS si sj r3 (by omega) (by omega) h.2.1 ai aj xi xj) (Nat.le_of_ble_eq_true rfl) (fun o M1 hq => ?_)
    refine od_Re.kq hq rfl (fun ρ1 f1 b1 k1 => ?_) (fun ρ1 f1 b1 p1 k1 => ?_)
    · exact (h.low b1 (fun q hq => f1 q (od_nlt (by simp; omega)))).keepX k1
    · refine od_W.rn (pc' := 265) (ls' := [some (.ref _), some (.int _), _, _, _, some (.ref _), some (.ref _), some (.ref _)]) (st' := []) 1 rfl ?_
      exact cl_op_keep (h.low b1 (fun q hq => f1 q (od_nlt (by simp; omega)))) ht k1 (tm_fl_W (sp_nat_al ai aj k1.2)) p1
  · refine od_W.rn (pc' := 192) (ls' := [some (.ref _), some (.int _), _, _, _, some (.ref _), some (.ref _), some (.ref _)]) (st' := []) 2 rfl ?_
    refine od_W.rn (pc' := 193) (ls' := [some (.ref _), some (.int _), _, _, _, some (.ref _), some (.ref _), some (.ref _)]) (st' := [.ref _]) 1 rfl ?_
    refine od_rG rfl (h.h0) rfl rfl ?_
    refine od_W.rn (pc' := 201) (ls' := [some (.ref _), some (.int _), _, _, _, some (.ref _), some (.ref _), some (.ref _)]) (st' := [.ref _, .ref _, .ref _, .ref _]) 3 rfl ?_
    refine od_rG rfl (h.h0) rfl rfl ?_
    refine od_rV (as := [.ref (D + 88 + 2 * i), .ref (D + 88 + 2 * j), .ref (D + 3)]) rfl rfl rfl rfl (od_cm_o (dk_ars D).1 d4) rfl (Nat.le_of_ble_eq_true rfl) (Nat.le_of_ble_eq_true rfl) (lt_makeNaturalProduct hS d4 (dk_ars D) si sj r3 (od_nlt (by simp; omega)) (od_nlt (by simp; omega)) (by simp) h.2.1 ai aj xi xj) (Nat.le_of_ble_eq_true rfl) (fun o M1 hq => ?_)
    refine od_Re.kq hq rfl (fun ρ1 f1 b1 k1 => ?_) (fun ρ1 f1 b1 p1 k1 => ?_)
    · exact (h.low b1 (fun q hq => f1 q (od_nlt (by simp; omega)))).keepX k1
    · refine od_W.rn (pc' := 265) (ls' := [some (.ref _), some (.int _), _, _, _, some (.ref _), some (.ref _), some (.ref _)]) (st' := []) 1 rfl ?_
      exact cl_op_keep (h.low b1 (fun q hq => f1 q (od_nlt (by simp; omega)))) ht k1 (tm_fl_W (sp_np_al (tot := []) aj ai trivial k1)) p1
  · refine od_W.rn (pc' := 210) (ls' := [some (.ref _), some (.int _), _, _, _, some (.ref _), some (.ref _), some (.ref _)]) (st' := []) 2 rfl ?_
    refine od_W.rn (pc' := 215) (ls' := [some (.ref _), some (.int _), _, _, _, some (.ref _), some (.ref _), some (.ref _)]) (st' := [.ref _, .ref _, .ref _]) 3 rfl ?_
    refine od_rG rfl (h.h0) rfl rfl ?_
    refine od_rSt (as := [.ref (D + 88 + 2 * i), .ref (D + 88 + 2 * j), .ref (D + 3)]) rfl rfl rfl rfl (Nat.le_of_ble_eq_true rfl) (Nat.le_of_ble_eq_true rfl) (lt_makeDifference hS si sj r3 (by omega) (by omega) h.2.1 ai aj xi xj) (Nat.le_of_ble_eq_true rfl) (fun o M1 hq => ?_)
    refine od_Re.kq hq rfl (fun ρ1 f1 b1 k1 => absurd trivial k1) (fun ρ1 f1 b1 p1 k1 => ?_)
    refine od_W.rn (pc' := 265) (ls' := [some (.ref _), some (.int _), _, _, _, some (.ref _), some (.ref _), some (.ref _)]) (st' := []) 1 rfl ?_
    exact cl_op_keep (h.low b1 (fun q hq => f1 q (od_nlt (by simp; omega)))) ht k1 (tm_fl_W (sp_dif_al ai)) p1
  · have hne := hj0 (by omega)
    obtain ⟨u, us, hus⟩ : ∃ u us, tm_tp (X j) = u :: us := by
      rcases hz : tm_tp (X j) with _ | ⟨u, us⟩
      · exact absurd ((tm_fl_tp hsj.2).symm.trans (by rw [hz]; rfl)) hne
      · exact ⟨u, us, rfl⟩
    have ev : op_v 6 (X i) (X j) = tm_fl (sp_quo (tm_tp (X i)) u us) := by show (match tm_tp (X j) with | [] => [] | u :: us => tm_fl (sp_quo (tm_tp (X i)) u us)) = _; rw [hus]
    have eo : op_ok 6 (X i) (X j) = tm_ft (tm_fl (sp_quo (tm_tp (X i)) u us)) := by show (match tm_tp (X j) with | [] => True | u :: us => tm_ft (tm_fl (sp_quo (tm_tp (X i)) u us))) = _; rw [hus]
    rw [ev, eo]
    rw [hus] at aj xj
    refine od_W.rn (pc' := 224) (ls' := [some (.ref _), some (.int _), _, _, _, some (.ref _), some (.ref _), some (.ref _)]) (st' := []) 2 rfl ?_
    refine od_W.rn (pc' := 225) (ls' := [some (.ref _), some (.int _), _, _, _, some (.ref _), some (.ref _), some (.ref _)]) (st' := [.ref _]) 1 rfl ?_
    refine od_rG rfl (h.h0) rfl rfl ?_
    refine od_W.rn (pc' := 233) (ls' := [some (.ref _), some (.int _), _, _, _, some (.ref _), some (.ref _), some (.ref _)]) (st' := [.ref _, .ref _, .ref _, .ref _]) 3 rfl ?_
    refine od_rG rfl (h.h0) rfl rfl ?_
    refine od_W.rn (pc' := 237) (ls' := [some (.ref _), some (.int _), _, _, _, some (.ref _), some (.ref _), some (.ref _)]) (st' := [.ref _, .ref _, .ref _, .ref _, .ref _]) 1 rfl ?_
    refine od_rG rfl (h.h0) rfl rfl ?_
    refine od_rV (as := [.ref (D + 88 + 2 * i), .ref (D + 88 + 2 * j), .ref (D + 3), .ref (D + 5)]) rfl rfl rfl rfl (od_cm_o (dk_dvs D).1 d5) rfl (Nat.le_of_ble_eq_true rfl) (Nat.le_of_ble_eq_true rfl) (lt_divide hS d5 (dk_dvs D) si sj r3 r5 (od_nlt (by simp; omega)) (od_nlt (by simp; omega)) (by simp) (by simp) h.2.1 ai aj xi xj) (Nat.le_of_ble_eq_true rfl) (fun o M1 hq => ?_)
    refine od_Re.kq hq rfl (fun ρ1 f1 b1 k1 => ?_) (fun ρ1 f1 b1 p1 k1 => ?_)
    · exact (h.low b1 (fun q hq => f1 q (od_nlt (by simp; omega)))).keepX k1
    · refine od_W.rn (pc' := 265) (ls' := [some (.ref _), some (.int _), _, _, _, some (.ref _), some (.ref _), some (.ref _)]) (st' := []) 1 rfl ?_
      exact cl_op_keep (h.low b1 (fun q hq => f1 q (od_nlt (by simp; omega)))) ht k1 (tm_fl_W (sp_quo_al ai)) p1.1
  · have hne := hj0 (by omega)
    obtain ⟨u, us, hus⟩ : ∃ u us, tm_tp (X j) = u :: us := by
      rcases hz : tm_tp (X j) with _ | ⟨u, us⟩
      · exact absurd ((tm_fl_tp hsj.2).symm.trans (by rw [hz]; rfl)) hne
      · exact ⟨u, us, rfl⟩
    have ev : op_v 7 (X i) (X j) = tm_fl (sp_rem (tm_tp (X i)) u us) := by show (match tm_tp (X j) with | [] => [] | u :: us => tm_fl (sp_rem (tm_tp (X i)) u us)) = _; rw [hus]
    have eo : op_ok 7 (X i) (X j) = tm_ft (tm_fl (sp_quo (tm_tp (X i)) u us)) := by show (match tm_tp (X j) with | [] => True | u :: us => tm_ft (tm_fl (sp_quo (tm_tp (X i)) u us))) = _; rw [hus]
    rw [ev, eo]
    rw [hus] at aj xj
    refine od_W.rn (pc' := 246) (ls' := [some (.ref _), some (.int _), _, _, _, some (.ref _), some (.ref _), some (.ref _)]) (st' := []) 2 rfl ?_
    refine od_W.rn (pc' := 247) (ls' := [some (.ref _), some (.int _), _, _, _, some (.ref _), some (.ref _), some (.ref _)]) (st' := [.ref _]) 1 rfl ?_
    refine od_rG rfl (h.h0) rfl rfl ?_
    refine od_W.rn (pc' := 255) (ls' := [some (.ref _), some (.int _), _, _, _, some (.ref _), some (.ref _), some (.ref _)]) (st' := [.ref _, .ref _, .ref _, .ref _]) 3 rfl ?_
    refine od_rG rfl (h.h0) rfl rfl ?_
    refine od_W.rn (pc' := 259) (ls' := [some (.ref _), some (.int _), _, _, _, some (.ref _), some (.ref _), some (.ref _)]) (st' := [.ref _, .ref _, .ref _, .ref _, .ref _]) 1 rfl ?_
    refine od_rG rfl (h.h0) rfl rfl ?_
    refine od_rV (as := [.ref (D + 88 + 2 * i), .ref (D + 88 + 2 * j), .ref (D + 5), .ref (D + 3)]) rfl rfl rfl rfl (od_cm_o (dk_dvs D).1 d5) rfl (Nat.le_of_ble_eq_true rfl) (Nat.le_of_ble_eq_true rfl) (lt_divide hS d5 (dk_dvs D) si sj r5 r3 (od_nlt (by simp; omega)) (od_nlt (by simp; omega)) (by simp) (by simp) h.2.1 ai aj xi xj) (Nat.le_of_ble_eq_true rfl) (fun o M1 hq => ?_)
    refine od_Re.kq hq rfl (fun ρ1 f1 b1 k1 => ?_) (fun ρ1 f1 b1 p1 k1 => ?_)
    · exact (h.low b1 (fun q hq => f1 q (od_nlt (by simp; omega)))).keepX k1
    · exact cl_op_keep (h.low b1 (fun q hq => f1 q (od_nlt (by simp; omega)))) ht k1 (tm_fl_W (sp_rem_al ai)) p1.2
set_option maxRecDepth 100000 in
theorem cl_op_chk (h : dk D M ρ n X R) {i j t k : Nat} (hi : i < 8) (hj : j < 8) (ht : t < 8) (hk : k ≤ 7) {l2 l3 l4 : Option Value} : od_W 8 64 32 [some (.ref D), some (.int (nI k)), l2, l3, l4, some (.ref (D + 88 + 2 * i)), some (.ref (D + 88 + 2 * j)), some (.ref (D + 88 + 2 * t))] [] (od_cm (dk_S D) M ρ) (dk_o D M (cs_v (if k = 5 ∧ tm_cmp (X i) (X j) = -1 ∨ 6 ≤ k ∧ X j = [] then ((.inr 1, X) : cs_T) else cs_keep X t (op_ok k (X i) (X j)) (op_v k (X i) (X j))).1) n (if k = 5 ∧ tm_cmp (X i) (X j) = -1 ∨ 6 ≤ k ∧ X j = [] then ((.inr 1, X) : cs_T) else cs_keep X t (op_ok k (X i) (X j)) (op_v k (X i) (X j))).2 R) := by
  have hsi := h.2.2.1 i hi
  have hsj := h.2.2.1 j hj
  have second : ¬ (k = 5 ∧ tm_cmp (X i) (X j) = -1) → od_W 8 64 55 [some (.ref D), some (.int (nI k)), l2, l3, l4, some (.ref (D + 88 + 2 * i)), some (.ref (D + 88 + 2 * j)), some (.ref (D + 88 + 2 * t))] [] (od_cm (dk_S D) M ρ) (dk_o D M (cs_v (if k = 5 ∧ tm_cmp (X i) (X j) = -1 ∨ 6 ≤ k ∧ X j = [] then ((.inr 1, X) : cs_T) else cs_keep X t (op_ok k (X i) (X j)) (op_v k (X i) (X j))).1) n (if k = 5 ∧ tm_cmp (X i) (X j) = -1 ∨ 6 ≤ k ∧ X j = [] then ((.inr 1, X) : cs_T) else cs_keep X t (op_ok k (X i) (X j)) (op_v k (X i) (X j))).2 R) := by
    intro h5
    refine od_W.rn (pc' := 58) (ls' := [some (.ref _), some (.int _), _, _, _, some (.ref _), some (.ref _), some (.ref _)]) (st' := [.int _, .int _]) 2 rfl ?_
    have zero : 6 ≤ k → od_W 8 64 67 [some (.ref D), some (.int (nI k)), l2, l3, l4, some (.ref (D + 88 + 2 * i)), some (.ref (D + 88 + 2 * j)), some (.ref (D + 88 + 2 * t))] [] (od_cm (dk_S D) M ρ) (dk_o D M (cs_v (if k = 5 ∧ tm_cmp (X i) (X j) = -1 ∨ 6 ≤ k ∧ X j = [] then ((.inr 1, X) : cs_T) else cs_keep X t (op_ok k (X i) (X j)) (op_v k (X i) (X j))).1) n (if k = 5 ∧ tm_cmp (X i) (X j) = -1 ∨ 6 ≤ k ∧ X j = [] then ((.inr 1, X) : cs_T) else cs_keep X t (op_ok k (X i) (X j)) (op_v k (X i) (X j))).2 R) := by
      intro h6
      refine od_W.rn (pc' := 69) (ls' := [some (.ref _), some (.int _), _, _, _, some (.ref _), some (.ref _), some (.ref _)]) (st' := [.ref _]) 1 rfl ?_
      refine od_rV (as := []) rfl rfl rfl rfl (od_cm_r (dk_sl D hj)) rfl (Nat.le_of_ble_eq_true rfl) (Nat.le_of_ble_eq_true rfl) (lt_isZero (dk_ss D) (dk_sl D hj) h.2.1 hsj.1) (Nat.le_of_ble_eq_true rfl) (fun o M1 hq => ?_)
      obtain ⟨rfl, rfl⟩ := hq
      refine od_K.ret ?_
      by_cases hz : X j = []
      · rw [if_pos hz, if_pos (Or.inr ⟨h6, hz⟩)]
        refine od_r1T rfl rfl (rfl) ?_
        refine od_W.rn (pc' := 80) (ls' := [some (.ref _), some (.int _), _, _, _, some (.ref _), some (.ref _), some (.ref _)]) (st' := [.int _]) 1 rfl ?_
        refine od_rSt (as := [.int (if False then 1 else 0)]) rfl rfl rfl rfl (Nat.le_of_ble_eq_true rfl) (Nat.le_of_ble_eq_true rfl) (ct_refuse False inferInstance) (Nat.le_of_ble_eq_true rfl) (fun o M1 hq => ?_)
        obtain ⟨hc, _⟩ | ⟨hc, rfl, rfl⟩ := hq
        · exact hc.elim
        · exact od_K.out rfl (h.thr 1)
      · rw [if_neg hz, if_neg (fun z => z.elim h5 (fun z => hz z.2))]
        refine od_r1F rfl (of_decide_eq_true rfl) (rfl) ?_
        refine od_W.rn (pc' := 80) (ls' := [some (.ref _), some (.int _), _, _, _, some (.ref _), some (.ref _), some (.ref _)]) (st' := [.int _]) 2 rfl ?_
        refine od_rSt (as := [.int (if True then 1 else 0)]) rfl rfl rfl rfl (Nat.le_of_ble_eq_true rfl) (Nat.le_of_ble_eq_true rfl) (ct_refuse True inferInstance) (Nat.le_of_ble_eq_true rfl) (fun o M1 hq => ?_)
        obtain ⟨_, rfl, rfl⟩ | ⟨hc, _⟩ := hq
        · refine od_K.ret ?_
          exact cl_op_sw h hi hj ht hk (fun _ => hz)
        · exact absurd trivial hc
    by_cases k6 : k = 6
    · refine od_r2T rfl rfl (decide_eq_true (by rw [k6]; rfl)) ?_
      exact zero (by omega)
    · refine od_r2F rfl (of_decide_eq_true rfl) (decide_eq_false (fun z => k6 ((nI_eq (b := 6) (by omega) (by omega)).mp z))) ?_
      refine od_W.rn (pc' := 64) (ls' := [some (.ref _), some (.int _), _, _, _, some (.ref _), some (.ref _), some (.ref _)]) (st' := [.int _, .int _]) 2 rfl ?_
      by_cases k7 : k = 7
      · refine od_r2F rfl (of_decide_eq_true rfl) ((show (!decide (nI k = nI 7)) = false by rw [k7, decide_eq_true rfl]; rfl)) ?_
        exact zero (by omega)
      · rw [if_neg (fun z => z.elim h5 (fun z => absurd z.1 (by omega)))]
        refine od_r2T rfl rfl ((show (!decide (nI k = nI 7)) = true by rw [decide_eq_false (fun z => k7 ((nI_eq (by omega) (by omega)).mp z))]; rfl)) ?_
        refine od_W.rn (pc' := 80) (ls' := [some (.ref _), some (.int _), _, _, _, some (.ref _), some (.ref _), some (.ref _)]) (st' := [.int _]) 2 rfl ?_
        refine od_rSt (as := [.int (if True then 1 else 0)]) rfl rfl rfl rfl (Nat.le_of_ble_eq_true rfl) (Nat.le_of_ble_eq_true rfl) (ct_refuse True inferInstance) (Nat.le_of_ble_eq_true rfl) (fun o M1 hq => ?_)
        obtain ⟨_, rfl, rfl⟩ | ⟨hc, _⟩ := hq
        · refine od_K.ret ?_
          exact cl_op_sw h hi hj ht hk (fun z => absurd z (by omega))
        · exact absurd trivial hc
  refine od_W.rn (pc' := 34) (ls' := [some (.ref _), some (.int _), _, _, _, some (.ref _), some (.ref _), some (.ref _)]) (st' := [.int _, .int _]) 2 rfl ?_
  by_cases k5 : k = 5
  · refine od_r2F rfl (of_decide_eq_true rfl) ((show (!decide (nI k = nI 5)) = false by rw [k5, decide_eq_true rfl]; rfl)) ?_
    refine od_W.rn (pc' := 41) (ls' := [some (.ref _), some (.int _), _, _, _, some (.ref _), some (.ref _), some (.ref _)]) (st' := [.ref _, .ref _]) 2 rfl ?_
    refine od_rSt (as := [.ref (D + 88 + 2 * i), .ref (D + 88 + 2 * j)]) rfl rfl rfl rfl (Nat.le_of_ble_eq_true rfl) (Nat.le_of_ble_eq_true rfl) (ct_order (dk_ss D) (dk_sl D hi) (dk_sl D hj) h.2.1 hsi.1.2 hsj.1.2 hsi.1.1 hsj.1.1) (Nat.le_of_ble_eq_true rfl) (fun o M1 hq => ?_)
    obtain ⟨rfl, rfl⟩ := hq
    refine od_K.ret ?_
    by_cases hc : tm_cmp (X i) (X j) = -1
    · rw [hc]
      rw [hc] at second
      rw [if_pos (Or.inl ⟨k5, rfl⟩)]
      refine od_r1T rfl rfl (rfl) ?_
      refine od_W.rn (pc' := 52) (ls' := [some (.ref _), some (.int _), _, _, _, some (.ref _), some (.ref _), some (.ref _)]) (st' := [.int _]) 1 rfl ?_
      refine od_rSt (as := [.int (if False then 1 else 0)]) rfl rfl rfl rfl (Nat.le_of_ble_eq_true rfl) (Nat.le_of_ble_eq_true rfl) (ct_refuse False inferInstance) (Nat.le_of_ble_eq_true rfl) (fun o M1 hq => ?_)
      obtain ⟨hc, _⟩ | ⟨hc, rfl, rfl⟩ := hq
      · exact hc.elim
      · exact od_K.out rfl (h.thr 1)
    · have hge : od_cond .lt (tm_cmp (X i) (X j)) 0 = false := by rcases tm_cmp_is (X i) (X j) with z | z | z; exact absurd z hc; rw [z]; rfl; rw [z]; rfl
      refine od_r1F rfl (of_decide_eq_true rfl) (hge) ?_
      refine od_W.rn (pc' := 52) (ls' := [some (.ref _), some (.int _), _, _, _, some (.ref _), some (.ref _), some (.ref _)]) (st' := [.int _]) 2 rfl ?_
      refine od_rSt (as := [.int (if True then 1 else 0)]) rfl rfl rfl rfl (Nat.le_of_ble_eq_true rfl) (Nat.le_of_ble_eq_true rfl) (ct_refuse True inferInstance) (Nat.le_of_ble_eq_true rfl) (fun o M1 hq => ?_)
      obtain ⟨_, rfl, rfl⟩ | ⟨hc, _⟩ := hq
      · refine od_K.ret ?_
        exact second (fun z => hc z.2)
      · exact absurd trivial hc
  · refine od_r2T rfl rfl ((show (!decide (nI k = nI 5)) = true by rw [decide_eq_false (fun z => k5 ((nI_eq (by omega) (by omega)).mp z))]; rfl)) ?_
    refine od_W.rn (pc' := 52) (ls' := [some (.ref _), some (.int _), _, _, _, some (.ref _), some (.ref _), some (.ref _)]) (st' := [.int _]) 2 rfl ?_
    refine od_rSt (as := [.int (if True then 1 else 0)]) rfl rfl rfl rfl (Nat.le_of_ble_eq_true rfl) (Nat.le_of_ble_eq_true rfl) (ct_refuse True inferInstance) (Nat.le_of_ble_eq_true rfl) (fun o M1 hq => ?_)
    obtain ⟨_, rfl, rfl⟩ | ⟨hc, _⟩ := hq
    · refine od_K.ret ?_
      exact second (fun z => k5 z.1)
    · exact absurd trivial hc
theorem lt_op64 (h : dk D M ρ n X R) (kind a b to : Int32) : od_W 8 64 0 (od_ent 64 [.ref D, .int kind, .int a, .int b, .int to]) [] (od_cm (dk_S D) M ρ) (dk_o D M (cs_v (cs_op X kind a b to).1) n (cs_op X kind a b to).2 R) := by
  have e0 : od_ent 64 [.ref D, .int kind, .int a, .int b, .int to] = [some (.ref D), some (.int kind), some (.int a), some (.int b), some (.int to), none, none, none] := rfl
  rw [e0]
  unfold cs_op
  refine od_W.rn (pc' := 2) (ls' := [some (.ref _), some (.int _), some (.int _), some (.int _), some (.int _), none, none, none]) (st' := [.int _, .ref _]) 2 rfl ?_
  rcases sl_is (m := 8) (by omega) a with ⟨e1, e2⟩ | ⟨i, hi, rfl, e1⟩
  · rw [e1]
    refine od_rV (as := [.int a]) rfl rfl rfl rfl (h.h0) rfl (Nat.le_of_ble_eq_true rfl) (Nat.le_of_ble_eq_true rfl) (ct_slotX e2) (Nat.le_of_ble_eq_true rfl) (fun o M1 hq => ?_)
    obtain ⟨rfl, rfl⟩ := hq
    exact od_K.out rfl (h.thr 0)
  · rw [e1]
    dsimp only
    refine od_rV (as := [.int (nI i)]) rfl rfl rfl rfl (h.h0) rfl (Nat.le_of_ble_eq_true rfl) (Nat.le_of_ble_eq_true rfl) (ct_slot h hi) (Nat.le_of_ble_eq_true rfl) (fun o M1 hq => ?_)
    obtain ⟨rfl, rfl⟩ := hq
    refine od_K.ret ?_
    refine od_W.rn (pc' := 9) (ls' := [some (.ref _), some (.int _), some (.int _), some (.int _), some (.int _), some (.ref _), none, none]) (st' := [.int _, .ref _]) 3 rfl ?_
    rcases sl_is (m := 8) (by omega) b with ⟨e1, e2⟩ | ⟨j, hj, rfl, e1⟩
    · rw [e1]
      refine od_rV (as := [.int b]) rfl rfl rfl rfl (h.h0) rfl (Nat.le_of_ble_eq_true rfl) (Nat.le_of_ble_eq_true rfl) (ct_slotX e2) (Nat.le_of_ble_eq_true rfl) (fun o M1 hq => ?_)
      obtain ⟨rfl, rfl⟩ := hq
      exact od_K.out rfl (h.thr 0)
    · rw [e1]
      dsimp only
      refine od_rV (as := [.int (nI j)]) rfl rfl rfl rfl (h.h0) rfl (Nat.le_of_ble_eq_true rfl) (Nat.le_of_ble_eq_true rfl) (ct_slot h hj) (Nat.le_of_ble_eq_true rfl) (fun o M1 hq => ?_)
      obtain ⟨rfl, rfl⟩ := hq
      refine od_K.ret ?_
      refine od_W.rn (pc' := 17) (ls' := [some (.ref _), some (.int _), some (.int _), some (.int _), some (.int _), some (.ref _), some (.ref _), none]) (st' := [.int _, .ref _]) 3 rfl ?_
      rcases sl_is (m := 8) (by omega) to with ⟨e1, e2⟩ | ⟨t, ht, rfl, e1⟩
      · rw [e1]
        refine od_rV (as := [.int to]) rfl rfl rfl rfl (h.h0) rfl (Nat.le_of_ble_eq_true rfl) (Nat.le_of_ble_eq_true rfl) (ct_slotX e2) (Nat.le_of_ble_eq_true rfl) (fun o M1 hq => ?_)
        obtain ⟨rfl, rfl⟩ := hq
        exact od_K.out rfl (h.thr 0)
      · rw [e1]
        dsimp only
        refine od_rV (as := [.int (nI t)]) rfl rfl rfl rfl (h.h0) rfl (Nat.le_of_ble_eq_true rfl) (Nat.le_of_ble_eq_true rfl) (ct_slot h ht) (Nat.le_of_ble_eq_true rfl) (fun o M1 hq => ?_)
        obtain ⟨rfl, rfl⟩ := hq
        refine od_K.ret ?_
        refine od_W.rn (pc' := 26) (ls' := [some (.ref _), some (.int _), some (.int _), some (.int _), some (.int _), some (.ref _), some (.ref _), some (.ref _)]) (st' := [.int _, .int _, .int _]) 4 rfl ?_
        refine od_rSt (as := [.int kind, .int 0, .int 7]) rfl rfl rfl rfl (Nat.le_of_ble_eq_true rfl) (Nat.le_of_ble_eq_true rfl) (ct_isWithin kind 0 7) (Nat.le_of_ble_eq_true rfl) (fun o M1 hq => ?_)
        obtain ⟨rfl, rfl⟩ := hq
        refine od_K.ret ?_
        refine od_rSt (as := [.int (if 0 ≤ kind ∧ kind ≤ 7 then 1 else 0)]) rfl rfl rfl rfl (Nat.le_of_ble_eq_true rfl) (Nat.le_of_ble_eq_true rfl) (ct_refuse (0 ≤ kind ∧ kind ≤ 7) inferInstance) (Nat.le_of_ble_eq_true rfl) (fun o M1 hq => ?_)
        rcases hq with ⟨hc, rfl, rfl⟩ | ⟨hc, rfl, rfl⟩
        · refine od_K.ret ?_
          obtain ⟨k, hk, rfl⟩ := nI_of2 (n := 7) (by decide) (fun z => absurd (Int32.lt_of_lt_of_le z hc.1) Int32.lt_irrefl) hc.2
          rw [if_pos hc, nI_clamp (by omega)]
          exact cl_op_chk h hi hj ht hk
        · rw [if_neg hc]
          exact od_K.out rfl (h.thr 1)
end OP
