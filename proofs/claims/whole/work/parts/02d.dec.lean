/-! Printed by wip/whole/gen.py: the code lists against the bytes. -/
theorem oq_38_0 : ((List.range' 0 76).all (od_chq prog_2_method_10_code oc_38)) = true := by decide +kernel
theorem oq_38_1 : ((List.range' 78 31).all (od_chq prog_2_method_10_code oc_38)) = true := by decide +kernel
theorem oq_39_0 : ((List.range' 0 60).all (od_chq prog_4_method_1_code oc_39)) = true := by decide +kernel
theorem oq_40_0 : ((List.range' 0 73).all (od_chq prog_4_method_2_code oc_40)) = true := by decide +kernel
theorem oq_40_1 : ((List.range' 75 45).all (od_chq prog_4_method_2_code oc_40)) = true := by decide +kernel
theorem oq_41_0 : ((List.range' 0 76).all (od_chq prog_4_method_3_code oc_41)) = true := by decide +kernel
theorem oq_41_1 : ((List.range' 77 80).all (od_chq prog_4_method_3_code oc_41)) = true := by decide +kernel
theorem oq_41_2 : ((List.range' 159 55).all (od_chq prog_4_method_3_code oc_41)) = true := by decide +kernel
theorem oq_42_0 : ((List.range' 0 72).all (od_chq prog_4_method_4_code oc_42)) = true := by decide +kernel
theorem oq_42_1 : ((List.range' 72 64).all (od_chq prog_4_method_4_code oc_42)) = true := by decide +kernel
theorem oq_43_0 : ((List.range' 0 27).all (od_chq prog_3_method_1_code oc_43)) = true := by decide +kernel
theorem oq_44_0 : ((List.range' 0 27).all (od_chq prog_3_method_2_code oc_44)) = true := by decide +kernel
theorem oq_45_0 : ((List.range' 0 66).all (od_chq prog_3_method_3_code oc_45)) = true := by decide +kernel
theorem oq_45_1 : ((List.range' 67 77).all (od_chq prog_3_method_3_code oc_45)) = true := by decide +kernel
theorem oq_45_2 : ((List.range' 146 1).all (od_chq prog_3_method_3_code oc_45)) = true := by decide +kernel
theorem oq_46_0 : ((List.range' 0 80).all (od_chq prog_3_method_4_code oc_46)) = true := by decide +kernel
