/-! The owed statement. -/
theorem i_vc : Claimed_1_1 ∧ Claimed_1_2 := i_vc_open (fun b B L xs hb hL => la_all b B L xs hb hL)
