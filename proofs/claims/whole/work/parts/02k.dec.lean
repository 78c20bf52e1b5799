/-! Printed by wip/whole/gen.py: the code lists against the bytes. -/
theorem oq_119_0 : ((List.range' 0 76).all (od_chq prog_10_method_35_code oc_119)) = true := by decide +kernel
theorem oq_119_1 : ((List.range' 76 48).all (od_chq prog_10_method_35_code oc_119)) = true := by decide +kernel
theorem oq_120_0 : ((List.range' 0 73).all (od_chq prog_10_method_36_code oc_120)) = true := by decide +kernel
theorem oq_120_1 : ((List.range' 73 71).all (od_chq prog_10_method_36_code oc_120)) = true := by decide +kernel
theorem oq_120_2 : ((List.range' 144 14).all (od_chq prog_10_method_36_code oc_120)) = true := by decide +kernel
theorem oq_121_0 : ((List.range' 0 77).all (od_chq prog_10_method_37_code oc_121)) = true := by decide +kernel
theorem oq_121_1 : ((List.range' 79 65).all (od_chq prog_10_method_37_code oc_121)) = true := by decide +kernel
theorem oq_121_2 : ((List.range' 144 65).all (od_chq prog_10_method_37_code oc_121)) = true := by decide +kernel
theorem oq_122_0 : ((List.range' 0 64).all (od_chq prog_10_method_38_code oc_122)) = true := by decide +kernel
theorem oq_122_1 : ((List.range' 66 27).all (od_chq prog_10_method_38_code oc_122)) = true := by decide +kernel
theorem oq_123_0 : ((List.range' 0 75).all (od_chq prog_10_method_39_code oc_123)) = true := by decide +kernel
theorem oq_123_1 : ((List.range' 75 23).all (od_chq prog_10_method_39_code oc_123)) = true := by decide +kernel
theorem oq_124_0 : ((List.range' 0 41).all (od_chq prog_10_method_40_code oc_124)) = true := by decide +kernel
theorem oq_125_0 : ((List.range' 0 33).all (od_chq prog_10_method_41_code oc_125)) = true := by decide +kernel
theorem oq_126_0 : ((List.range' 0 36).all (od_chq prog_10_method_42_code oc_126)) = true := by decide +kernel
theorem oq_127_0 : ((List.range' 0 57).all (od_chq prog_10_method_43_code oc_127)) = true := by decide +kernel
