/-! Printed by wip/whole/gen.py: the code lists against the bytes. -/
def od_chq (b : ByteArray) (l : List (Option (ClassFile.Instr × Nat))) (pc : Nat) : Bool := match (l[pc]?).getD none with
  | some q => decide (decode b pc = .ok q)
  | none => true
theorem oq_0_0 : ((List.range' 0 18).all (od_chq prog_8_method_1_code oc_0)) = true := by decide +kernel
theorem oq_1_0 : ((List.range' 0 13).all (od_chq prog_8_method_2_code oc_1)) = true := by decide +kernel
theorem oq_2_0 : ((List.range' 0 14).all (od_chq prog_8_method_3_code oc_2)) = true := by decide +kernel
theorem oq_3_0 : ((List.range' 0 24).all (od_chq prog_8_method_4_code oc_3)) = true := by decide +kernel
theorem oq_4_0 : ((List.range' 0 7).all (od_chq prog_8_method_5_code oc_4)) = true := by decide +kernel
theorem oq_5_0 : ((List.range' 0 27).all (od_chq prog_8_method_6_code oc_5)) = true := by decide +kernel
theorem oq_6_0 : ((List.range' 0 23).all (od_chq prog_8_method_7_code oc_6)) = true := by decide +kernel
theorem oq_7_0 : ((List.range' 0 25).all (od_chq prog_8_method_8_code oc_7)) = true := by decide +kernel
theorem oq_8_0 : ((List.range' 0 26).all (od_chq prog_8_method_9_code oc_8)) = true := by decide +kernel
theorem oq_9_0 : ((List.range' 0 48).all (od_chq prog_8_method_10_code oc_9)) = true := by decide +kernel
theorem oq_10_0 : ((List.range' 0 53).all (od_chq prog_8_method_11_code oc_10)) = true := by decide +kernel
theorem oq_11_0 : ((List.range' 0 45).all (od_chq prog_8_method_12_code oc_11)) = true := by decide +kernel
theorem oq_12_0 : ((List.range' 0 6).all (od_chq prog_8_method_13_code oc_12)) = true := by decide +kernel
theorem oq_13_0 : ((List.range' 0 11).all (od_chq prog_8_method_14_code oc_13)) = true := by decide +kernel
theorem oq_14_0 : ((List.range' 0 13).all (od_chq prog_8_method_15_code oc_14)) = true := by decide +kernel
theorem oq_15_0 : ((List.range' 0 12).all (od_chq prog_8_method_16_code oc_15)) = true := by decide +kernel
theorem oq_16_0 : ((List.range' 0 12).all (od_chq prog_8_method_17_code oc_16)) = true := by decide +kernel
theorem oq_17_0 : ((List.range' 0 12).all (od_chq prog_8_method_18_code oc_17)) = true := by decide +kernel
theorem oq_18_0 : ((List.range' 0 68).all (od_chq prog_8_method_19_code oc_18)) = true := by decide +kernel
theorem oq_18_1 : ((List.range' 68 5).all (od_chq prog_8_method_19_code oc_18)) = true := by decide +kernel
theorem oq_19_0 : ((List.range' 0 40).all (od_chq prog_8_method_20_code oc_19)) = true := by decide +kernel
theorem oq_20_0 : ((List.range' 0 6).all (od_chq prog_8_method_21_code oc_20)) = true := by decide +kernel
theorem oq_21_0 : ((List.range' 0 11).all (od_chq prog_8_method_22_code oc_21)) = true := by decide +kernel
theorem oq_22_0 : ((List.range' 0 25).all (od_chq prog_8_method_23_code oc_22)) = true := by decide +kernel
theorem oq_23_0 : ((List.range' 0 20).all (od_chq prog_8_method_24_code oc_23)) = true := by decide +kernel
theorem oq_24_0 : ((List.range' 0 16).all (od_chq prog_8_method_25_code oc_24)) = true := by decide +kernel
theorem oq_25_0 : ((List.range' 0 23).all (od_chq prog_8_method_26_code oc_25)) = true := by decide +kernel
theorem oq_26_0 : ((List.range' 0 16).all (od_chq prog_8_method_27_code oc_26)) = true := by decide +kernel
theorem oq_27_0 : ((List.range' 0 20).all (od_chq prog_8_method_28_code oc_27)) = true := by decide +kernel
theorem oq_28_0 : ((List.range' 0 70).all (od_chq prog_8_method_29_code oc_28)) = true := by decide +kernel
theorem oq_28_1 : ((List.range' 72 1).all (od_chq prog_8_method_29_code oc_28)) = true := by decide +kernel
theorem oq_29_0 : ((List.range' 0 86).all (od_chq prog_2_method_1_code oc_29)) = true := by decide +kernel
theorem oq_29_1 : ((List.range' 86 62).all (od_chq prog_2_method_1_code oc_29)) = true := by decide +kernel
