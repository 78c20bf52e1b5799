/-! Printed by wip/whole/gen.py: the code lists against the bytes. -/
theorem oq_128_0 : ((List.range' 0 62).all (od_chq prog_10_method_44_code oc_128)) = true := by decide +kernel
theorem oq_128_1 : ((List.range' 64 8).all (od_chq prog_10_method_44_code oc_128)) = true := by decide +kernel
theorem oq_129_0 : ((List.range' 0 71).all (od_chq prog_10_method_45_code oc_129)) = true := by decide +kernel
theorem oq_129_1 : ((List.range' 71 66).all (od_chq prog_10_method_45_code oc_129)) = true := by decide +kernel
theorem oq_129_2 : ((List.range' 137 57).all (od_chq prog_10_method_45_code oc_129)) = true := by decide +kernel
theorem oq_130_0 : ((List.range' 0 65).all (od_chq prog_10_method_46_code oc_130)) = true := by decide +kernel
theorem oq_130_1 : ((List.range' 67 72).all (od_chq prog_10_method_46_code oc_130)) = true := by decide +kernel
theorem oq_130_2 : ((List.range' 139 30).all (od_chq prog_10_method_46_code oc_130)) = true := by decide +kernel
theorem oq_131_0 : ((List.range' 0 75).all (od_chq prog_10_method_47_code oc_131)) = true := by decide +kernel
theorem oq_131_1 : ((List.range' 75 76).all (od_chq prog_10_method_47_code oc_131)) = true := by decide +kernel
theorem oq_131_2 : ((List.range' 152 1).all (od_chq prog_10_method_47_code oc_131)) = true := by decide +kernel
theorem oq_132_0 : ((List.range' 0 65).all (od_chq prog_10_method_48_code oc_132)) = true := by decide +kernel
theorem oq_133_0 : ((List.range' 0 42).all (od_chq prog_10_method_49_code oc_133)) = true := by decide +kernel
theorem oq_134_0 : ((List.range' 0 45).all (od_chq prog_10_method_50_code oc_134)) = true := by decide +kernel
theorem oq_135_0 : ((List.range' 0 45).all (od_chq prog_10_method_51_code oc_135)) = true := by decide +kernel
theorem oq_136_0 : ((List.range' 0 17).all (od_chq prog_10_method_52_code oc_136)) = true := by decide +kernel
