/-! The desk and the reference as they are built. -/
abbrev ro0 : od_Rm := fun _ => (0, fun _ => 0)
theorem ro0_bd : od_Bd ro0 := fun _ => Nat.zero_le _
theorem ro0_hl (q : Nat) : od_hl ro0 q [] := ⟨⟨rfl, tm_at_nil _ _⟩, fun x hx => (List.not_mem_nil hx).elim⟩
theorem cl_dk_len (z : Nat) : (cl_dk z).length = 128 := by
  show ((cl_mi z ++ rws (z + 88) 8) ++ rws (z + 104) 12).length + 1 + 1 + 1 = 128
  rw [List.length_append, List.length_append, cl_mi_len, rws_len, rws_len]
theorem at_l {A B : List od_E} {k : Nat} {e : od_E} (h : A[k]? = some e) : (A ++ B)[k]? = some e := by
  rw [List.getElem?_append_left (List.getElem?_eq_some_iff.mp h).1]
  exact h
theorem at_r {A B : List od_E} {k m n : Nat} {e : od_E} (h : B[k]? = some e) (hA : A.length = n) (hm : m = n + k) : (A ++ B)[m]? = some e := by
  subst hm
  subst hA
  rw [List.getElem?_append_right (by omega), Nat.add_sub_cancel_left]
  exact h
def rw_at (es : List od_E) (k z : Nat) : Prop := es[k]? = some (od_ob 0 [.ref (z + 1), .int (nI 0)]) ∧ es[k + 1]? = some (od_ia 60 (fun _ => 0))
theorem rws_at (z : Nat) : ∀ (n i : Nat), i < n → rw_at (rws z n) (2 * i) (z + 2 * i) := by
  intro n
  induction n with
  | zero => intro i hi; omega
  | succ n ih =>
    intro i hi
    rw [rws]
    by_cases h : i < n
    · exact ⟨at_l (ih i h).1, at_l (ih i h).2⟩
    · have e : i = n := by omega
      subst e
      exact ⟨at_r (k := 0) rfl (rws_len z i) (by omega), at_r (k := 1) rfl (rws_len z i) (by omega)⟩
section SG
variable {D k : Nat} {e : od_E}
theorem sg_mi (h : (cl_mi D)[k]? = some e) : (cl_dk D)[3 + k]? = some e := by
  rw [show 3 + k = k + 1 + 1 + 1 by omega]
  exact at_l (at_l h)
theorem sg_sl (h : (rws (D + 88) 8)[k]? = some e) : (cl_dk D)[88 + k]? = some e := by
  rw [show 88 + k = 85 + k + 1 + 1 + 1 by omega]
  exact at_l (at_r h (cl_mi_len D) rfl)
theorem sg_rc (h : (rws (D + 104) 12)[k]? = some e) : (cl_dk D)[104 + k]? = some e := by
  rw [show 104 + k = 101 + k + 1 + 1 + 1 by omega]
  exact at_r h (by rw [List.length_append, cl_mi_len, rws_len]) rfl
theorem sg_3 (h : (rw0 (D + 3))[k]? = some e) : (cl_dk D)[3 + k]? = some e := sg_mi (at_l h)
theorem sg_x {A : List od_E} (h : A[k]? = some e) {n : Nat} (hA : ∀ k, A[k]? = some e → (cl_mi D)[n + k]? = some e) : (cl_dk D)[n + 3 + k]? = some e := by
  rw [show n + 3 + k = 3 + (n + k) by omega]
  exact sg_mi (hA k h)
theorem sg_5 (h : (rw0 (D + 5))[k]? = some e) : (cl_dk D)[5 + k]? = some e := sg_x (n := 2) h (fun k h => at_r (at_l h) rfl rfl)
theorem sg_7 (h : (cl_ar (D + 7))[k]? = some e) : (cl_dk D)[7 + k]? = some e := sg_x (n := 4) h (fun k h => at_r (n := 2) (at_r (n := 2) (at_l h) rfl rfl) rfl (by omega))
theorem sg_34 (h : (cl_dv (D + 34))[k]? = some e) : (cl_dk D)[34 + k]? = some e := sg_x (n := 31) h (fun k h => at_r (n := 2) (at_r (n := 2) (at_r (n := 27) (at_l h) (cl_ar_len _) rfl) rfl rfl) rfl (by omega))
theorem sg_45 (h : (cl_de (D + 45))[k]? = some e) : (cl_dk D)[45 + k]? = some e := sg_x (n := 42) h (fun k h => at_r (n := 2) (at_r (n := 2) (at_r (n := 27) (at_r (n := 11) (at_l h) (cl_dv_len _) rfl) (cl_ar_len _) rfl) rfl rfl) rfl (by omega))
theorem sg_50 (h : (cl_hy (D + 50))[k]? = some e) : (cl_dk D)[50 + k]? = some e := sg_x (n := 47) h (fun k h => at_r (n := 2) (at_r (n := 2) (at_r (n := 27) (at_r (n := 11) (at_r (n := 5) (at_l h) (cl_de_len _) rfl) (cl_dv_len _) rfl) (cl_ar_len _) rfl) rfl rfl) rfl (by omega))
theorem sg_57 (h : (cl_pi (D + 57))[k]? = some e) : (cl_dk D)[57 + k]? = some e := sg_x (n := 54) h (fun k h => at_r (n := 2) (at_r (n := 2) (at_r (n := 27) (at_r (n := 11) (at_r (n := 5) (at_r (n := 7) (at_l h) (cl_hy_len _) rfl) (cl_de_len _) rfl) (cl_dv_len _) rfl) (cl_ar_len _) rfl) rfl rfl) rfl (by omega))
theorem sg_86 (h : (cl_nu (D + 86))[k]? = some e) : (cl_dk D)[86 + k]? = some e := sg_x (n := 83) h (fun k h => at_r (n := 2) (at_r (n := 2) (at_r (n := 27) (at_r (n := 11) (at_r (n := 5) (at_r (n := 7) (at_r (n := 29) h (cl_pi_len _) rfl) (cl_hy_len _) rfl) (cl_de_len _) rfl) (cl_dv_len _) rfl) (cl_ar_len _) rfl) rfl rfl) rfl (by omega))
theorem rw_sg {A : List od_E} {m n z : Nat} (h : rw_at A k z) (hs : ∀ {k e}, A[k]? = some e → (cl_dk D)[m + k]? = some e) (hn : n = m + k) (hz : z = D + n) : rw_at (cl_dk D) n (D + n) := by
  subst hn
  subst hz
  exact ⟨hs h.1, hs h.2⟩
theorem cl_dk_rows (D : Nat) {k : Nat} (hk : k ∈ dk_L) : rw_at (cl_dk D) k (D + k) := by
  have hc : ∀ k, k ∈ dk_L → k = 3 ∨ k = 5 ∨ (∃ i, i < 13 ∧ k = 8 + 2 * i) ∨ (∃ i, i < 5 ∧ k = 35 + 2 * i) ∨ (∃ i, i < 2 ∧ k = 46 + 2 * i) ∨ (∃ i, i < 2 ∧ k = 53 + 2 * i) ∨ k = 60 ∨ (∃ i, i < 12 ∧ k = 62 + 2 * i) ∨ (∃ i, i < 8 ∧ k = 88 + 2 * i) ∨ (∃ i, i < 12 ∧ k = 104 + 2 * i) := by decide
  rcases hc k hk with rfl | rfl | ⟨i, hi, rfl⟩ | ⟨i, hi, rfl⟩ | ⟨i, hi, rfl⟩ | ⟨i, hi, rfl⟩ | rfl | ⟨i, hi, rfl⟩ | ⟨i, hi, rfl⟩ | ⟨i, hi, rfl⟩
  · exact ⟨sg_3 (k := 0) rfl, sg_3 (k := 1) rfl⟩
  · exact ⟨sg_5 (k := 0) rfl, sg_5 (k := 1) rfl⟩
  · have h := rws_at (D + 7 + 1) 13 i hi
    exact rw_sg (k := 2 * i) (z := D + 7 + 1 + 2 * i) (m := 8) h (fun {k e} h => by rw [show 8 + k = 7 + (k + 1) by omega]; exact sg_7 h) rfl (by omega)
  · have h := rws_at (D + 34 + 1) 5 i hi
    exact rw_sg (k := 2 * i) (z := D + 34 + 1 + 2 * i) (m := 35) h (fun {k e} h => by rw [show 35 + k = 34 + (k + 1) by omega]; exact sg_34 h) rfl (by omega)
  · have h := rws_at (D + 45 + 1) 2 i hi
    exact rw_sg (k := 2 * i) (z := D + 45 + 1 + 2 * i) (m := 46) h (fun {k e} h => by rw [show 46 + k = 45 + (k + 1) by omega]; exact sg_45 h) rfl (by omega)
  · have h := rws_at (D + 50 + 3) 2 i hi
    exact rw_sg (k := 2 * i) (z := D + 50 + 3 + 2 * i) (m := 53) h (fun {k e} h => by rw [show 53 + k = 50 + (k + 1 + 1 + 1) by omega]; exact sg_50 h) rfl (by omega)
  · exact ⟨sg_57 (k := 3) rfl, sg_57 (k := 4) rfl⟩
  · have h := rws_at (D + 57 + 5) 12 i hi
    exact rw_sg (k := 2 * i) (z := D + 57 + 5 + 2 * i) (m := 62) h (fun {k e} h => by rw [show 62 + k = 57 + (k + 1 + 1 + 1 + 1 + 1) by omega]; exact sg_57 h) rfl (by omega)
  · have h := rws_at (D + 88) 8 i hi
    exact rw_sg (k := 2 * i) (z := D + 88 + 2 * i) (m := 88) h (fun {k e} h => sg_sl h) rfl (by omega)
  · have h := rws_at (D + 104) 12 i hi
    exact rw_sg (k := 2 * i) (z := D + 104 + 2 * i) (m := 104) h (fun {k e} h => sg_rc h) rfl (by omega)
end SG
theorem dk_cm0 (M : od_M) (D w : Nat) : ly M D (cl_dk D) w = od_cm (dk_S D) (ly M D (cl_dk D) w) ro0 := by
  refine od_Meq rfl rfl (fun a => ?_)
  show _ = (if dk_S D a = true then some (od_ob 0 [.ref (a + 1), .int (nI 0)]) else if dk_S D (a - 1) = true then some (od_ia 60 (fun _ => 0)) else (ly M D (cl_dk D) w).2.2 a)
  have hS : ∀ b, dk_S D b = true → ∃ k, k ∈ dk_L ∧ b = D + k := by
    intro b hb
    unfold dk_S at hb
    rw [Bool.and_eq_true] at hb
    have h1 := of_decide_eq_true hb.1
    exact ⟨b - D, List.contains_iff_mem.mp hb.2, by omega⟩
  by_cases h1 : dk_S D a = true
  · rw [if_pos h1]
    obtain ⟨k, hk, rfl⟩ := hS a h1
    exact ly_at (cl_dk_rows D hk).1
  · rw [if_neg h1]
    by_cases h2 : dk_S D (a - 1) = true
    · rw [if_pos h2]
      obtain ⟨k, hk, e⟩ := hS _ h2
      have ha : a = D + (k + 1) := by
        rcases Nat.eq_zero_or_pos a with z | z
        · subst z; exact absurd h2 h1
        · omega
      subst ha
      exact ly_at (cl_dk_rows D hk).2
    · rw [if_neg h2]
theorem cl_f_at {z k i : Nat} (h : i < k) : cl_f z k i = some (z + 2 * i) := if_pos h
theorem dk_new (M : od_M) (D w : Nat) (R : Nat → List Nat) : dk D (ly M D (cl_dk D) w) ro0 0 (fun _ => []) R := by
  refine ⟨⟨ly_at (i := 0) rfl, ⟨_, ly_at (i := 1) rfl, fun i hi => cl_f_at hi⟩, ⟨_, ly_at (i := 2) rfl, fun i hi => cl_f_at hi⟩, ly_at (sg_7 (k := 0) rfl), ly_at (sg_34 (k := 0) rfl), ly_at (sg_45 (k := 0) rfl), ⟨nI 0, fun _ => 0, fun _ => 0, ly_at (sg_50 (k := 0) rfl), ly_at (sg_50 (k := 1) rfl), ly_at (sg_50 (k := 2) rfl)⟩, ⟨⟨_, ly_at (sg_57 (k := 1) rfl), fun i hi => cl_f_at hi⟩, dk_no D rfl rfl, dk_no D (k := 58) rfl rfl, dk_no D (k := 59) rfl rfl, dk_S_y D (k := 60) rfl, fun i hi => ?_⟩, ⟨nI 0, nI 0, fun _ => 0, ly_at (sg_57 (k := 0) rfl), ly_at (sg_57 (k := 2) rfl)⟩, ly_at (sg_86 (k := 0) rfl), ⟨fun _ => 0, ly_at (sg_86 (k := 1) rfl)⟩⟩, ro0_bd, fun i hi => ⟨ro0_hl _, ?_⟩, fun i hi => absurd hi (by omega), by omega⟩
  · have h1 : ∀ i, i < 12 → dk_L.contains (62 + 2 * i) = true := by decide
    rw [show D + 57 + 5 + 2 * i = D + (62 + 2 * i) by omega]
    exact dk_S_y D (h1 i hi)
  · exact tm_num_W (c := 0) (by omega)
theorem rf_fl0 : rf_fl (fun _ => 0) ro0 = fun _ => 0 := by
  funext a
  unfold rf_fl
  split <;> rfl
theorem md_new (M : od_M) (y w : Nat) : ly M y (cl_md y) w = md (ly M y (cl_md y) w) y (nI 0, nI 0, nI 0, fun _ => 0) false ro0 := by
  refine od_Meq rfl rfl (fun a => ?_)
  by_cases h0 : a = y
  · subst h0; rw [md_0]; exact ly_at (i := 0) rfl
  · by_cases h1 : a = y + 1
    · subst h1; rw [md_1, rf_fl0]; exact ly_at (i := 1) rfl
    · by_cases h2 : a = y + 2
      · subst h2; rw [md_2]; exact ly_at (i := 2) rfl
      · rw [md_o h0 h1 h2]
theorem rd_new (M : od_M) (y w : Nat) (R : Nat → List Nat) : rd y (ly M y (cl_md y) w) (nI 0, nI 0, nI 0, fun _ => 0) ro0 0 (fun _ => []) R 0 := by
  refine ⟨⟨_, _, _, ly_at (i := 4) rfl, ly_at (i := 5) rfl, ly_at (i := 6) rfl⟩, ⟨_, ly_at (i := 3) rfl⟩, ⟨_, ly_at (i := 7) rfl⟩, ro0_bd, fun i hi => ⟨ro0_hl _, tm_num_W (c := 0) (by omega)⟩, fun i hi => absurd hi (by omega), by omega, rfl, ?_⟩
  rfl
