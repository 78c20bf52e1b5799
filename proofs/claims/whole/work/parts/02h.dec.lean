/-! Printed by wip/whole/gen.py: the code lists against the bytes. -/
theorem oq_97_0 : ((List.range' 0 28).all (od_chq prog_10_method_13_code oc_97)) = true := by decide +kernel
theorem oq_98_0 : ((List.range' 0 32).all (od_chq prog_10_method_14_code oc_98)) = true := by decide +kernel
theorem oq_99_0 : ((List.range' 0 16).all (od_chq prog_10_method_15_code oc_99)) = true := by decide +kernel
theorem oq_100_0 : ((List.range' 0 28).all (od_chq prog_10_method_16_code oc_100)) = true := by decide +kernel
theorem oq_101_0 : ((List.range' 0 54).all (od_chq prog_10_method_17_code oc_101)) = true := by decide +kernel
theorem oq_102_0 : ((List.range' 0 67).all (od_chq prog_10_method_18_code oc_102)) = true := by decide +kernel
theorem oq_102_1 : ((List.range' 67 75).all (od_chq prog_10_method_18_code oc_102)) = true := by decide +kernel
theorem oq_102_2 : ((List.range' 144 38).all (od_chq prog_10_method_18_code oc_102)) = true := by decide +kernel
theorem oq_103_0 : ((List.range' 0 69).all (od_chq prog_10_method_19_code oc_103)) = true := by decide +kernel
theorem oq_103_1 : ((List.range' 70 74).all (od_chq prog_10_method_19_code oc_103)) = true := by decide +kernel
theorem oq_103_2 : ((List.range' 145 58).all (od_chq prog_10_method_19_code oc_103)) = true := by decide +kernel
theorem oq_104_0 : ((List.range' 0 67).all (od_chq prog_10_method_20_code oc_104)) = true := by decide +kernel
theorem oq_104_1 : ((List.range' 67 71).all (od_chq prog_10_method_20_code oc_104)) = true := by decide +kernel
theorem oq_104_2 : ((List.range' 138 15).all (od_chq prog_10_method_20_code oc_104)) = true := by decide +kernel
theorem oq_105_0 : ((List.range' 0 69).all (od_chq prog_10_method_21_code oc_105)) = true := by decide +kernel
theorem oq_105_1 : ((List.range' 70 73).all (od_chq prog_10_method_21_code oc_105)) = true := by decide +kernel
theorem oq_105_2 : ((List.range' 143 12).all (od_chq prog_10_method_21_code oc_105)) = true := by decide +kernel
