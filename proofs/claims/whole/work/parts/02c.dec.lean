/-! Printed by wip/whole/gen.py: the code lists against the bytes. -/
theorem oq_30_0 : ((List.range' 0 71).all (od_chq prog_2_method_2_code oc_30)) = true := by decide +kernel
theorem oq_30_1 : ((List.range' 72 61).all (od_chq prog_2_method_2_code oc_30)) = true := by decide +kernel
theorem oq_31_0 : ((List.range' 0 77).all (od_chq prog_2_method_3_code oc_31)) = true := by decide +kernel
theorem oq_31_1 : ((List.range' 79 78).all (od_chq prog_2_method_3_code oc_31)) = true := by decide +kernel
theorem oq_31_2 : ((List.range' 159 1).all (od_chq prog_2_method_3_code oc_31)) = true := by decide +kernel
theorem oq_32_0 : ((List.range' 0 78).all (od_chq prog_2_method_4_code oc_32)) = true := by decide +kernel
theorem oq_32_1 : ((List.range' 79 16).all (od_chq prog_2_method_4_code oc_32)) = true := by decide +kernel
theorem oq_33_0 : ((List.range' 0 85).all (od_chq prog_2_method_5_code oc_33)) = true := by decide +kernel
theorem oq_33_1 : ((List.range' 85 44).all (od_chq prog_2_method_5_code oc_33)) = true := by decide +kernel
theorem oq_34_0 : ((List.range' 0 32).all (od_chq prog_2_method_6_code oc_34)) = true := by decide +kernel
theorem oq_35_0 : ((List.range' 0 77).all (od_chq prog_2_method_7_code oc_35)) = true := by decide +kernel
theorem oq_35_1 : ((List.range' 77 47).all (od_chq prog_2_method_7_code oc_35)) = true := by decide +kernel
theorem oq_36_0 : ((List.range' 0 73).all (od_chq prog_2_method_8_code oc_36)) = true := by decide +kernel
theorem oq_36_1 : ((List.range' 73 73).all (od_chq prog_2_method_8_code oc_36)) = true := by decide +kernel
theorem oq_36_2 : ((List.range' 148 15).all (od_chq prog_2_method_8_code oc_36)) = true := by decide +kernel
theorem oq_37_0 : ((List.range' 0 69).all (od_chq prog_2_method_9_code oc_37)) = true := by decide +kernel
