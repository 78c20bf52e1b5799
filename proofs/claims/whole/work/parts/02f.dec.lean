/-! Printed by wip/whole/gen.py: the code lists against the bytes. -/
theorem oq_58_0 : ((List.range' 0 69).all (od_chq prog_6_method_4_code oc_58)) = true := by decide +kernel
theorem oq_58_1 : ((List.range' 69 46).all (od_chq prog_6_method_4_code oc_58)) = true := by decide +kernel
theorem oq_59_0 : ((List.range' 0 61).all (od_chq prog_6_method_5_code oc_59)) = true := by decide +kernel
theorem oq_60_0 : ((List.range' 0 8).all (od_chq prog_6_method_6_code oc_60)) = true := by decide +kernel
theorem oq_61_0 : ((List.range' 0 84).all (od_chq prog_1_method_1_code oc_61)) = true := by decide +kernel
theorem oq_61_1 : ((List.range' 86 78).all (od_chq prog_1_method_1_code oc_61)) = true := by decide +kernel
theorem oq_61_2 : ((List.range' 166 4).all (od_chq prog_1_method_1_code oc_61)) = true := by decide +kernel
theorem oq_62_0 : ((List.range' 0 22).all (od_chq prog_1_method_2_code oc_62)) = true := by decide +kernel
theorem oq_63_0 : ((List.range' 0 45).all (od_chq prog_1_method_3_code oc_63)) = true := by decide +kernel
theorem oq_64_0 : ((List.range' 0 80).all (od_chq prog_1_method_4_code oc_64)) = true := by decide +kernel
theorem oq_64_1 : ((List.range' 80 131).all (od_chq prog_1_method_4_code oc_64)) = true := by decide +kernel
theorem oq_64_2 : ((List.range' 212 60).all (od_chq prog_1_method_4_code oc_64)) = true := by decide +kernel
theorem oq_65_0 : ((List.range' 0 58).all (od_chq prog_1_method_5_code oc_65)) = true := by decide +kernel
theorem oq_66_0 : ((List.range' 0 61).all (od_chq prog_1_method_6_code oc_66)) = true := by decide +kernel
theorem oq_67_0 : ((List.range' 0 72).all (od_chq prog_1_method_7_code oc_67)) = true := by decide +kernel
theorem oq_68_0 : ((List.range' 0 44).all (od_chq prog_1_method_8_code oc_68)) = true := by decide +kernel
