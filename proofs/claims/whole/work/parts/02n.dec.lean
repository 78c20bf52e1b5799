/-! Printed by wip/whole/gen.py: the code lists against the bytes. -/
theorem oq_154_0 : ((List.range' 0 11).all (od_chq prog_16_method_69_code oc_154)) = true := by decide +kernel
theorem oq_155_0 : ((List.range' 0 11).all (od_chq prog_16_method_65_code oc_155)) = true := by decide +kernel
theorem oq_156_0 : ((List.range' 0 12).all (od_chq prog_16_method_70_code oc_156)) = true := by decide +kernel
theorem oq_157_0 : ((List.range' 0 20).all (od_chq prog_15_method_40_code oc_157)) = true := by decide +kernel
