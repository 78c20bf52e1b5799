/-! Printed by wip/whole/gen.py: the code lists against the bytes. -/
theorem oq_111_0 : ((List.range' 0 73).all (od_chq prog_10_method_27_code oc_111)) = true := by decide +kernel
theorem oq_111_1 : ((List.range' 75 72).all (od_chq prog_10_method_27_code oc_111)) = true := by decide +kernel
theorem oq_111_2 : ((List.range' 147 67).all (od_chq prog_10_method_27_code oc_111)) = true := by decide +kernel
theorem oq_111_3 : ((List.range' 215 75).all (od_chq prog_10_method_27_code oc_111)) = true := by decide +kernel
theorem oq_111_4 : ((List.range' 291 5).all (od_chq prog_10_method_27_code oc_111)) = true := by decide +kernel
theorem oq_112_0 : ((List.range' 0 61).all (od_chq prog_10_method_28_code oc_112)) = true := by decide +kernel
theorem oq_112_1 : ((List.range' 61 11).all (od_chq prog_10_method_28_code oc_112)) = true := by decide +kernel
theorem oq_113_0 : ((List.range' 0 16).all (od_chq prog_10_method_29_code oc_113)) = true := by decide +kernel
theorem oq_114_0 : ((List.range' 0 41).all (od_chq prog_10_method_30_code oc_114)) = true := by decide +kernel
theorem oq_115_0 : ((List.range' 0 44).all (od_chq prog_10_method_31_code oc_115)) = true := by decide +kernel
theorem oq_116_0 : ((List.range' 0 74).all (od_chq prog_10_method_32_code oc_116)) = true := by decide +kernel
theorem oq_117_0 : ((List.range' 0 76).all (od_chq prog_10_method_33_code oc_117)) = true := by decide +kernel
theorem oq_117_1 : ((List.range' 78 105).all (od_chq prog_10_method_33_code oc_117)) = true := by decide +kernel
theorem oq_117_2 : ((List.range' 185 57).all (od_chq prog_10_method_33_code oc_117)) = true := by decide +kernel
theorem oq_118_0 : ((List.range' 0 74).all (od_chq prog_10_method_34_code oc_118)) = true := by decide +kernel
