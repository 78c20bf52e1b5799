/-! Printed by wip/whole/gen.py: the code lists against the bytes. -/
theorem oq_106_0 : ((List.range' 0 73).all (od_chq prog_10_method_22_code oc_106)) = true := by decide +kernel
theorem oq_106_1 : ((List.range' 74 81).all (od_chq prog_10_method_22_code oc_106)) = true := by decide +kernel
theorem oq_106_2 : ((List.range' 156 71).all (od_chq prog_10_method_22_code oc_106)) = true := by decide +kernel
theorem oq_106_3 : ((List.range' 229 35).all (od_chq prog_10_method_22_code oc_106)) = true := by decide +kernel
theorem oq_107_0 : ((List.range' 0 67).all (od_chq prog_10_method_23_code oc_107)) = true := by decide +kernel
theorem oq_107_1 : ((List.range' 69 51).all (od_chq prog_10_method_23_code oc_107)) = true := by decide +kernel
theorem oq_108_0 : ((List.range' 0 68).all (od_chq prog_10_method_24_code oc_108)) = true := by decide +kernel
theorem oq_108_1 : ((List.range' 69 76).all (od_chq prog_10_method_24_code oc_108)) = true := by decide +kernel
theorem oq_108_2 : ((List.range' 147 68).all (od_chq prog_10_method_24_code oc_108)) = true := by decide +kernel
theorem oq_108_3 : ((List.range' 217 41).all (od_chq prog_10_method_24_code oc_108)) = true := by decide +kernel
theorem oq_109_0 : ((List.range' 0 46).all (od_chq prog_10_method_25_code oc_109)) = true := by decide +kernel
theorem oq_110_0 : ((List.range' 0 63).all (od_chq prog_10_method_26_code oc_110)) = true := by decide +kernel
theorem oq_110_1 : ((List.range' 65 65).all (od_chq prog_10_method_26_code oc_110)) = true := by decide +kernel
theorem oq_110_2 : ((List.range' 132 77).all (od_chq prog_10_method_26_code oc_110)) = true := by decide +kernel
theorem oq_110_3 : ((List.range' 209 74).all (od_chq prog_10_method_26_code oc_110)) = true := by decide +kernel
theorem oq_110_4 : ((List.range' 284 76).all (od_chq prog_10_method_26_code oc_110)) = true := by decide +kernel
theorem oq_110_5 : ((List.range' 361 16).all (od_chq prog_10_method_26_code oc_110)) = true := by decide +kernel
