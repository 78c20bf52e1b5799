/-! Printed by wip/whole/gen.py: the code lists against the bytes. -/
theorem oq_47_0 : ((List.range' 0 48).all (od_chq prog_5_method_1_code oc_47)) = true := by decide +kernel
theorem oq_48_0 : ((List.range' 0 70).all (od_chq prog_5_method_2_code oc_48)) = true := by decide +kernel
theorem oq_48_1 : ((List.range' 70 42).all (od_chq prog_5_method_2_code oc_48)) = true := by decide +kernel
theorem oq_49_0 : ((List.range' 0 70).all (od_chq prog_5_method_3_code oc_49)) = true := by decide +kernel
theorem oq_49_1 : ((List.range' 70 10).all (od_chq prog_5_method_3_code oc_49)) = true := by decide +kernel
theorem oq_50_0 : ((List.range' 0 62).all (od_chq prog_5_method_4_code oc_50)) = true := by decide +kernel
theorem oq_50_1 : ((List.range' 63 33).all (od_chq prog_5_method_4_code oc_50)) = true := by decide +kernel
theorem oq_51_0 : ((List.range' 0 70).all (od_chq prog_7_method_1_code oc_51)) = true := by decide +kernel
theorem oq_52_0 : ((List.range' 0 64).all (od_chq prog_7_method_2_code oc_52)) = true := by decide +kernel
theorem oq_53_0 : ((List.range' 0 62).all (od_chq prog_7_method_3_code oc_53)) = true := by decide +kernel
theorem oq_53_1 : ((List.range' 62 73).all (od_chq prog_7_method_3_code oc_53)) = true := by decide +kernel
theorem oq_53_2 : ((List.range' 137 8).all (od_chq prog_7_method_3_code oc_53)) = true := by decide +kernel
theorem oq_54_0 : ((List.range' 0 52).all (od_chq prog_7_method_4_code oc_54)) = true := by decide +kernel
theorem oq_55_0 : ((List.range' 0 13).all (od_chq prog_6_method_1_code oc_55)) = true := by decide +kernel
theorem oq_56_0 : ((List.range' 0 12).all (od_chq prog_6_method_2_code oc_56)) = true := by decide +kernel
theorem oq_57_0 : ((List.range' 0 70).all (od_chq prog_6_method_3_code oc_57)) = true := by decide +kernel
theorem oq_57_1 : ((List.range' 70 61).all (od_chq prog_6_method_3_code oc_57)) = true := by decide +kernel
