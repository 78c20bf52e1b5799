/-! The rest of the tables: constants, arrays, exceptions, handlers. -/
theorem od_an_ok : (od_has (.arrayOver (.object od_rn)) && (List.range 12).all (fun own => ((od_anl[own]?).getD []).all (fun ix => od_has (.classLink (od_cn own) ix od_rn)))) = true := by decide +kernel
theorem od_ki_ok : (List.range 12).all (fun own => ((od_kil[own]?).getD []).all (fun q => od_has (.constant (od_cn own) q.1 q.2))) = true := by decide +kernel
theorem od_kl_ok : (List.range 12).all (fun own => ((od_kll[own]?).getD []).all (fun q => od_has (.constantLong (od_cn own) q.1 q.2))) = true := by decide +kernel
theorem od_ar_ok : (od_has (.arrayClass .int) && od_has (.arrayClass .long)) = true := by decide +kernel
theorem od_T_ok : od_T od_WS := by
  refine ⟨fun k pc i n h => od_cd_ok h, fun own ix c k t h => od_fd_ok h, fun own ix c fs h => od_nw_ok h, fun own ix h => ?_, fun own ix v h => ?_, fun own ix v h => ?_, fun own ix j n h => ?_, fun own ix j n h => ?_, ?_, ⟨od_F0, 2, rfl⟩⟩
  · have h1 := od_an_ok
    rw [Bool.and_eq_true] at h1
    unfold od_an at h
    have hm : ix ∈ (od_anl[own]?).getD [] := by simpa using h
    have ho : own < 12 := by
      apply Nat.lt_of_not_le
      intro hle
      have hl : od_anl.length = 12 := rfl
      rw [List.getElem?_eq_none (by omega)] at hm
      cases hm
    exact ⟨od_hasI (List.all_eq_true.mp (List.all_eq_true.mp h1.2 own (List.mem_range.mpr ho)) ix hm), od_hasI h1.1⟩
  · exact od_hasI (od_rows (f := fun own q => od_has (.constant (od_cn own) q.1 q.2)) od_ki_ok rfl h)
  · exact od_hasI (od_rows (f := fun own q => od_has (.constantLong (od_cn own) q.1 q.2)) od_kl_ok rfl h)
  · have h1 := od_rows od_m_ok rfl h
    unfold od_mck at h1
    simp only [Bool.and_eq_true] at h1
    exact ⟨od_hasI h1.1.1.1, od_hasI h1.1.1.2, od_hasI h1.1.2, od_hasI h1.2⟩
  · have h1 := od_rows od_m_ok rfl h
    unfold od_mck at h1
    simp only [Bool.and_eq_true] at h1
    exact ⟨od_hasI h1.1.1, od_hasI h1.1.2, od_hasI h1.2⟩
  · have h1 := od_ar_ok
    rw [Bool.and_eq_true] at h1
    exact ⟨od_hasI h1.1, od_hasI h1.2⟩
def od_oa (w : Cond) : Bool := od_has w || decide (w ∈ od_hw)
theorem od_oaI {ws : List Cond} (h : ws.all od_oa = true) : ∀ w ∈ ws, w ∈ od_WS ∨ w ∈ od_hw := fun w hw => by
  have h1 := List.all_eq_true.mp h w hw
  unfold od_oa at h1
  simp only [Bool.or_eq_true, decide_eq_true_eq] at h1
  exact h1.elim (fun h => Or.inl (od_hasI h)) Or.inr
theorem od_own0 : (Bundle.ownAtoms "OrdinalDesk$Row" 53 "java/lang/IllegalStateException" ["java/lang/RuntimeException", "java/lang/Exception"]).all od_oa = true := by decide +kernel
theorem od_own1 : (Bundle.ownAtoms "OrdinalDesk$Arithmetic" 137 "java/lang/IllegalStateException" ["java/lang/RuntimeException", "java/lang/Exception"]).all od_oa = true := by decide +kernel
theorem od_own2 : (Bundle.ownAtoms "OrdinalDesk$Numbers" 28 "java/lang/IllegalStateException" ["java/lang/RuntimeException", "java/lang/Exception"]).all od_oa = true := by decide +kernel
theorem od_own3 : (Bundle.ownAtoms "OrdinalDesk" 179 "java/lang/IllegalStateException" ["java/lang/RuntimeException", "java/lang/Exception"]).all od_oa = true := by decide +kernel
theorem od_own4 : (Bundle.ownAtoms "OrdinalDesk" 189 "java/lang/IndexOutOfBoundsException" ["java/lang/RuntimeException", "java/lang/Exception"]).all od_oa = true := by decide +kernel
theorem od_own5 : (Bundle.ownAtoms "OrdinalDesk" 196 "java/lang/IllegalArgumentException" ["java/lang/RuntimeException", "java/lang/Exception"]).all od_oa = true := by decide +kernel
theorem od_x0 : (od_has (.classLink "OrdinalDesk$Row" 49 "java/lang/IllegalStateException") && od_has (.instantiable "java/lang/IllegalStateException" 6) && od_has (.initialized "java/lang/IllegalStateException")) = true := by decide +kernel
theorem od_x1 : (od_has (.classLink "OrdinalDesk$Row" 49 "java/lang/IllegalStateException") && od_has (.instantiable "java/lang/IllegalStateException" 6) && od_has (.initialized "java/lang/IllegalStateException")) = true := by decide +kernel
theorem od_x2 : (od_has (.classLink "OrdinalDesk$Row" 49 "java/lang/IllegalStateException") && od_has (.instantiable "java/lang/IllegalStateException" 6) && od_has (.initialized "java/lang/IllegalStateException")) = true := by decide +kernel
theorem od_x3 : (od_has (.classLink "OrdinalDesk$Arithmetic" 133 "java/lang/IllegalStateException") && od_has (.instantiable "java/lang/IllegalStateException" 6) && od_has (.initialized "java/lang/IllegalStateException")) = true := by decide +kernel
theorem od_x4 : (od_has (.classLink "OrdinalDesk$Numbers" 24 "java/lang/IllegalStateException") && od_has (.instantiable "java/lang/IllegalStateException" 6) && od_has (.initialized "java/lang/IllegalStateException")) = true := by decide +kernel
theorem od_x5 : (od_has (.classLink "OrdinalDesk" 175 "java/lang/IllegalStateException") && od_has (.instantiable "java/lang/IllegalStateException" 6) && od_has (.initialized "java/lang/IllegalStateException")) = true := by decide +kernel
theorem od_x6 : (od_has (.classLink "OrdinalDesk" 185 "java/lang/IndexOutOfBoundsException") && od_has (.instantiable "java/lang/IndexOutOfBoundsException" 6) && od_has (.initialized "java/lang/IndexOutOfBoundsException")) = true := by decide +kernel
theorem od_x7 : (od_has (.classLink "OrdinalDesk" 185 "java/lang/IndexOutOfBoundsException") && od_has (.instantiable "java/lang/IndexOutOfBoundsException" 6) && od_has (.initialized "java/lang/IndexOutOfBoundsException")) = true := by decide +kernel
theorem od_x8 : (od_has (.classLink "OrdinalDesk" 192 "java/lang/IllegalArgumentException") && od_has (.instantiable "java/lang/IllegalArgumentException" 6) && od_has (.initialized "java/lang/IllegalArgumentException")) = true := by decide +kernel
theorem od_x_ok : ∀ k pc x, od_xn k pc = some x → od_xok od_WS k pc x := by
  intro k pc x h
  have hm : ((k, pc), x) ∈ od_xs := by
    unfold od_xn at h
    generalize od_xs = l at h
    induction l with
    | nil => cases h
    | cons q r ih =>
      obtain ⟨k', v'⟩ := q
      rw [List.lookup_cons] at h
      split at h
      · rename_i hk
        cases h
        have hk2 : (k, pc) = k' := by simpa using hk
        rw [hk2]
        exact List.mem_cons_self
      · exact List.mem_cons_of_mem _ (ih h)
  simp only [od_xs, List.mem_cons, List.not_mem_nil, or_false, Prod.mk.injEq] at hm
  rcases hm with ⟨⟨rfl, rfl⟩, rfl⟩ | ⟨⟨rfl, rfl⟩, rfl⟩ | ⟨⟨rfl, rfl⟩, rfl⟩ | ⟨⟨rfl, rfl⟩, rfl⟩ | ⟨⟨rfl, rfl⟩, rfl⟩ | ⟨⟨rfl, rfl⟩, rfl⟩ | ⟨⟨rfl, rfl⟩, rfl⟩ | ⟨⟨rfl, rfl⟩, rfl⟩ | ⟨⟨rfl, rfl⟩, rfl⟩
  · have h1 := od_x0
    simp only [Bool.and_eq_true] at h1
    exact ⟨49, 51, 53, "java/lang/IllegalStateException", "there is no room for so many terms", ["java/lang/RuntimeException", "java/lang/Exception"], rfl, rfl, rfl, rfl, rfl, rfl, od_hasI h1.1.1, od_hasI h1.1.2, od_hasI h1.2, od_oaI od_own0, by decide +kernel, by decide +kernel, by decide +kernel, by decide, rfl⟩
  · have h1 := od_x1
    simp only [Bool.and_eq_true] at h1
    exact ⟨49, 51, 53, "java/lang/IllegalStateException", "there is no room for so many terms", ["java/lang/RuntimeException", "java/lang/Exception"], rfl, rfl, rfl, rfl, rfl, rfl, od_hasI h1.1.1, od_hasI h1.1.2, od_hasI h1.2, od_oaI od_own0, by decide +kernel, by decide +kernel, by decide +kernel, by decide, rfl⟩
  · have h1 := od_x2
    simp only [Bool.and_eq_true] at h1
    exact ⟨49, 71, 53, "java/lang/IllegalStateException", "there is no room for so great a coefficient", ["java/lang/RuntimeException", "java/lang/Exception"], rfl, rfl, rfl, rfl, rfl, rfl, od_hasI h1.1.1, od_hasI h1.1.2, od_hasI h1.2, od_oaI od_own0, by decide +kernel, by decide +kernel, by decide +kernel, by decide, rfl⟩
  · have h1 := od_x3
    simp only [Bool.and_eq_true] at h1
    exact ⟨133, 135, 137, "java/lang/IllegalStateException", "there is no room for so many factors", ["java/lang/RuntimeException", "java/lang/Exception"], rfl, rfl, rfl, rfl, rfl, rfl, od_hasI h1.1.1, od_hasI h1.1.2, od_hasI h1.2, od_oaI od_own1, by decide +kernel, by decide +kernel, by decide +kernel, by decide, rfl⟩
  · have h1 := od_x4
    simp only [Bool.and_eq_true] at h1
    exact ⟨24, 26, 28, "java/lang/IllegalStateException", "there is no room for so deep an exponent", ["java/lang/RuntimeException", "java/lang/Exception"], rfl, rfl, rfl, rfl, rfl, rfl, od_hasI h1.1.1, od_hasI h1.1.2, od_hasI h1.2, od_oaI od_own2, by decide +kernel, by decide +kernel, by decide +kernel, by decide, rfl⟩
  · have h1 := od_x5
    simp only [Bool.and_eq_true] at h1
    exact ⟨175, 177, 179, "java/lang/IllegalStateException", "all records are in use", ["java/lang/RuntimeException", "java/lang/Exception"], rfl, rfl, rfl, rfl, rfl, rfl, od_hasI h1.1.1, od_hasI h1.1.2, od_hasI h1.2, od_oaI od_own3, by decide +kernel, by decide +kernel, by decide +kernel, by decide, rfl⟩
  · have h1 := od_x6
    simp only [Bool.and_eq_true] at h1
    exact ⟨185, 187, 189, "java/lang/IndexOutOfBoundsException", "there is no such slot", ["java/lang/RuntimeException", "java/lang/Exception"], rfl, rfl, rfl, rfl, rfl, rfl, od_hasI h1.1.1, od_hasI h1.1.2, od_hasI h1.2, od_oaI od_own4, by decide +kernel, by decide +kernel, by decide +kernel, by decide, rfl⟩
  · have h1 := od_x7
    simp only [Bool.and_eq_true] at h1
    exact ⟨185, 190, 189, "java/lang/IndexOutOfBoundsException", "there is no such record", ["java/lang/RuntimeException", "java/lang/Exception"], rfl, rfl, rfl, rfl, rfl, rfl, od_hasI h1.1.1, od_hasI h1.1.2, od_hasI h1.2, od_oaI od_own4, by decide +kernel, by decide +kernel, by decide +kernel, by decide, rfl⟩
  · have h1 := od_x8
    simp only [Bool.and_eq_true] at h1
    exact ⟨192, 194, 196, "java/lang/IllegalArgumentException", "an argument does not fit the call", ["java/lang/RuntimeException", "java/lang/Exception"], rfl, rfl, rfl, rfl, rfl, rfl, od_hasI h1.1.1, od_hasI h1.1.2, od_hasI h1.2, od_oaI od_own5, by decide +kernel, by decide +kernel, by decide +kernel, by decide, rfl⟩
def od_hck (k : Nat) : Bool := (od_ht k).all (fun q => decide (q.2.2.2 ≠ 0) && (match od_hx (od_ow k) q.2.2.2 with
  | 0 => od_has (.classLink (od_cn (od_ow k)) q.2.2.2 "java/lang/IndexOutOfBoundsException")
  | 1 => od_has (.classLink (od_cn (od_ow k)) q.2.2.2 "java/lang/IllegalArgumentException")
  | 2 => od_has (.classLink (od_cn (od_ow k)) q.2.2.2 "java/lang/IllegalStateException")
  | _ => false))
theorem od_h_ok : (List.range 158).all od_hck = true := by decide +kernel
theorem od_hok_ok : od_hok od_WS := by
  intro k q hq
  have hk : k < 158 := by
    apply Nat.lt_of_not_le
    intro hle
    have hl : od_ats.length = 158 := rfl
    unfold od_ht od_at0 at hq
    rw [List.getElem?_eq_none (by omega)] at hq
    cases hq
  have h1 := List.all_eq_true.mp (List.all_eq_true.mp od_h_ok k (List.mem_range.mpr hk)) q hq
  simp only [Bool.and_eq_true, decide_eq_true_eq] at h1
  refine ⟨h1.1, ?_⟩
  have h2 := h1.2
  split at h2
  · rename_i hx; exact ⟨_, od_hasI h2, by rw [hx]; rfl⟩
  · rename_i hx; exact ⟨_, od_hasI h2, by rw [hx]; rfl⟩
  · rename_i hx; exact ⟨_, od_hasI h2, by rw [hx]; rfl⟩
  · cases h2
