/-! Printed by wip/whole/gen.py: the code lists against the bytes, all places. -/
theorem od_join {f : Nat → Bool} {a n m : Nat} (h1 : (List.range' a n).all f = true) (h2 : (List.range' (a + n) m).all f = true) : (List.range' a (n + m)).all f = true := by
  rw [← List.range'_append_1, List.all_append, h1, h2]
  rfl
theorem od_allI {f : Nat → Bool} {n : Nat} (h : (List.range' 0 n).all f = true) {pc : Nat} (hp : pc < n) : f pc = true := List.all_eq_true.mp h pc (List.mem_range'_1.mpr ⟨Nat.zero_le _, by omega⟩)
def od_good (q : ByteArray × List (Option (ClassFile.Instr × Nat))) : Prop := ∀ pc, pc < q.2.length → od_chq q.1 q.2 pc = true
set_option maxRecDepth 100000 in
theorem oz_0 : od_good (prog_8_method_1_code, oc_0) := fun pc hp => od_allI (n := 18) oq_0_0 hp
set_option maxRecDepth 100000 in
theorem oz_1 : od_good (prog_8_method_2_code, oc_1) := fun pc hp => od_allI (n := 13) oq_1_0 hp
set_option maxRecDepth 100000 in
theorem oz_2 : od_good (prog_8_method_3_code, oc_2) := fun pc hp => od_allI (n := 14) oq_2_0 hp
set_option maxRecDepth 100000 in
theorem oz_3 : od_good (prog_8_method_4_code, oc_3) := fun pc hp => od_allI (n := 24) oq_3_0 hp
set_option maxRecDepth 100000 in
theorem oz_4 : od_good (prog_8_method_5_code, oc_4) := fun pc hp => od_allI (n := 7) oq_4_0 hp
set_option maxRecDepth 100000 in
theorem oz_5 : od_good (prog_8_method_6_code, oc_5) := fun pc hp => od_allI (n := 27) oq_5_0 hp
set_option maxRecDepth 100000 in
theorem oz_6 : od_good (prog_8_method_7_code, oc_6) := fun pc hp => od_allI (n := 23) oq_6_0 hp
set_option maxRecDepth 100000 in
theorem oz_7 : od_good (prog_8_method_8_code, oc_7) := fun pc hp => od_allI (n := 25) oq_7_0 hp
set_option maxRecDepth 100000 in
theorem oz_8 : od_good (prog_8_method_9_code, oc_8) := fun pc hp => od_allI (n := 26) oq_8_0 hp
set_option maxRecDepth 100000 in
theorem oz_9 : od_good (prog_8_method_10_code, oc_9) := fun pc hp => od_allI (n := 48) oq_9_0 hp
set_option maxRecDepth 100000 in
theorem oz_10 : od_good (prog_8_method_11_code, oc_10) := fun pc hp => od_allI (n := 53) oq_10_0 hp
set_option maxRecDepth 100000 in
theorem oz_11 : od_good (prog_8_method_12_code, oc_11) := fun pc hp => od_allI (n := 45) oq_11_0 hp
set_option maxRecDepth 100000 in
theorem oz_12 : od_good (prog_8_method_13_code, oc_12) := fun pc hp => od_allI (n := 6) oq_12_0 hp
set_option maxRecDepth 100000 in
theorem oz_13 : od_good (prog_8_method_14_code, oc_13) := fun pc hp => od_allI (n := 11) oq_13_0 hp
set_option maxRecDepth 100000 in
theorem oz_14 : od_good (prog_8_method_15_code, oc_14) := fun pc hp => od_allI (n := 13) oq_14_0 hp
set_option maxRecDepth 100000 in
theorem oz_15 : od_good (prog_8_method_16_code, oc_15) := fun pc hp => od_allI (n := 12) oq_15_0 hp
set_option maxRecDepth 100000 in
theorem oz_16 : od_good (prog_8_method_17_code, oc_16) := fun pc hp => od_allI (n := 12) oq_16_0 hp
set_option maxRecDepth 100000 in
theorem oz_17 : od_good (prog_8_method_18_code, oc_17) := fun pc hp => od_allI (n := 12) oq_17_0 hp
set_option maxRecDepth 100000 in
theorem oz_18 : od_good (prog_8_method_19_code, oc_18) := fun pc hp => od_allI (n := 73) (od_join (f := (od_chq prog_8_method_19_code oc_18)) (a := 0) (n := 68) (m := 5) oq_18_0 oq_18_1) hp
set_option maxRecDepth 100000 in
theorem oz_19 : od_good (prog_8_method_20_code, oc_19) := fun pc hp => od_allI (n := 40) oq_19_0 hp
set_option maxRecDepth 100000 in
theorem oz_20 : od_good (prog_8_method_21_code, oc_20) := fun pc hp => od_allI (n := 6) oq_20_0 hp
set_option maxRecDepth 100000 in
theorem oz_21 : od_good (prog_8_method_22_code, oc_21) := fun pc hp => od_allI (n := 11) oq_21_0 hp
set_option maxRecDepth 100000 in
theorem oz_22 : od_good (prog_8_method_23_code, oc_22) := fun pc hp => od_allI (n := 25) oq_22_0 hp
set_option maxRecDepth 100000 in
theorem oz_23 : od_good (prog_8_method_24_code, oc_23) := fun pc hp => od_allI (n := 20) oq_23_0 hp
set_option maxRecDepth 100000 in
theorem oz_24 : od_good (prog_8_method_25_code, oc_24) := fun pc hp => od_allI (n := 16) oq_24_0 hp
set_option maxRecDepth 100000 in
theorem oz_25 : od_good (prog_8_method_26_code, oc_25) := fun pc hp => od_allI (n := 23) oq_25_0 hp
set_option maxRecDepth 100000 in
theorem oz_26 : od_good (prog_8_method_27_code, oc_26) := fun pc hp => od_allI (n := 16) oq_26_0 hp
set_option maxRecDepth 100000 in
theorem oz_27 : od_good (prog_8_method_28_code, oc_27) := fun pc hp => od_allI (n := 20) oq_27_0 hp
set_option maxRecDepth 100000 in
theorem oz_28 : od_good (prog_8_method_29_code, oc_28) := fun pc hp => od_allI (n := 73) (od_join (f := (od_chq prog_8_method_29_code oc_28)) (a := 0) (n := 72) (m := 1) (od_join (f := (od_chq prog_8_method_29_code oc_28)) (a := 0) (n := 70) (m := 2) oq_28_0 (by decide +kernel)) oq_28_1) hp
set_option maxRecDepth 100000 in
theorem oz_29 : od_good (prog_2_method_1_code, oc_29) := fun pc hp => od_allI (n := 148) (od_join (f := (od_chq prog_2_method_1_code oc_29)) (a := 0) (n := 86) (m := 62) oq_29_0 oq_29_1) hp
set_option maxRecDepth 100000 in
theorem oz_30 : od_good (prog_2_method_2_code, oc_30) := fun pc hp => od_allI (n := 133) (od_join (f := (od_chq prog_2_method_2_code oc_30)) (a := 0) (n := 72) (m := 61) (od_join (f := (od_chq prog_2_method_2_code oc_30)) (a := 0) (n := 71) (m := 1) oq_30_0 (by decide +kernel)) oq_30_1) hp
set_option maxRecDepth 100000 in
theorem oz_31 : od_good (prog_2_method_3_code, oc_31) := fun pc hp => od_allI (n := 160) (od_join (f := (od_chq prog_2_method_3_code oc_31)) (a := 0) (n := 159) (m := 1) (od_join (f := (od_chq prog_2_method_3_code oc_31)) (a := 0) (n := 157) (m := 2) (od_join (f := (od_chq prog_2_method_3_code oc_31)) (a := 0) (n := 79) (m := 78) (od_join (f := (od_chq prog_2_method_3_code oc_31)) (a := 0) (n := 77) (m := 2) oq_31_0 (by decide +kernel)) oq_31_1) (by decide +kernel)) oq_31_2) hp
set_option maxRecDepth 100000 in
theorem oz_32 : od_good (prog_2_method_4_code, oc_32) := fun pc hp => od_allI (n := 95) (od_join (f := (od_chq prog_2_method_4_code oc_32)) (a := 0) (n := 79) (m := 16) (od_join (f := (od_chq prog_2_method_4_code oc_32)) (a := 0) (n := 78) (m := 1) oq_32_0 (by decide +kernel)) oq_32_1) hp
set_option maxRecDepth 100000 in
theorem oz_33 : od_good (prog_2_method_5_code, oc_33) := fun pc hp => od_allI (n := 129) (od_join (f := (od_chq prog_2_method_5_code oc_33)) (a := 0) (n := 85) (m := 44) oq_33_0 oq_33_1) hp
set_option maxRecDepth 100000 in
theorem oz_34 : od_good (prog_2_method_6_code, oc_34) := fun pc hp => od_allI (n := 32) oq_34_0 hp
set_option maxRecDepth 100000 in
theorem oz_35 : od_good (prog_2_method_7_code, oc_35) := fun pc hp => od_allI (n := 124) (od_join (f := (od_chq prog_2_method_7_code oc_35)) (a := 0) (n := 77) (m := 47) oq_35_0 oq_35_1) hp
set_option maxRecDepth 100000 in
theorem oz_36 : od_good (prog_2_method_8_code, oc_36) := fun pc hp => od_allI (n := 163) (od_join (f := (od_chq prog_2_method_8_code oc_36)) (a := 0) (n := 148) (m := 15) (od_join (f := (od_chq prog_2_method_8_code oc_36)) (a := 0) (n := 146) (m := 2) (od_join (f := (od_chq prog_2_method_8_code oc_36)) (a := 0) (n := 73) (m := 73) oq_36_0 oq_36_1) (by decide +kernel)) oq_36_2) hp
set_option maxRecDepth 100000 in
theorem oz_37 : od_good (prog_2_method_9_code, oc_37) := fun pc hp => od_allI (n := 69) oq_37_0 hp
set_option maxRecDepth 100000 in
theorem oz_38 : od_good (prog_2_method_10_code, oc_38) := fun pc hp => od_allI (n := 109) (od_join (f := (od_chq prog_2_method_10_code oc_38)) (a := 0) (n := 78) (m := 31) (od_join (f := (od_chq prog_2_method_10_code oc_38)) (a := 0) (n := 76) (m := 2) oq_38_0 (by decide +kernel)) oq_38_1) hp
set_option maxRecDepth 100000 in
theorem oz_39 : od_good (prog_4_method_1_code, oc_39) := fun pc hp => od_allI (n := 60) oq_39_0 hp
set_option maxRecDepth 100000 in
theorem oz_40 : od_good (prog_4_method_2_code, oc_40) := fun pc hp => od_allI (n := 120) (od_join (f := (od_chq prog_4_method_2_code oc_40)) (a := 0) (n := 75) (m := 45) (od_join (f := (od_chq prog_4_method_2_code oc_40)) (a := 0) (n := 73) (m := 2) oq_40_0 (by decide +kernel)) oq_40_1) hp
set_option maxRecDepth 100000 in
theorem oz_41 : od_good (prog_4_method_3_code, oc_41) := fun pc hp => od_allI (n := 214) (od_join (f := (od_chq prog_4_method_3_code oc_41)) (a := 0) (n := 159) (m := 55) (od_join (f := (od_chq prog_4_method_3_code oc_41)) (a := 0) (n := 157) (m := 2) (od_join (f := (od_chq prog_4_method_3_code oc_41)) (a := 0) (n := 77) (m := 80) (od_join (f := (od_chq prog_4_method_3_code oc_41)) (a := 0) (n := 76) (m := 1) oq_41_0 (by decide +kernel)) oq_41_1) (by decide +kernel)) oq_41_2) hp
set_option maxRecDepth 100000 in
theorem oz_42 : od_good (prog_4_method_4_code, oc_42) := fun pc hp => od_allI (n := 136) (od_join (f := (od_chq prog_4_method_4_code oc_42)) (a := 0) (n := 72) (m := 64) oq_42_0 oq_42_1) hp
set_option maxRecDepth 100000 in
theorem oz_43 : od_good (prog_3_method_1_code, oc_43) := fun pc hp => od_allI (n := 27) oq_43_0 hp
set_option maxRecDepth 100000 in
theorem oz_44 : od_good (prog_3_method_2_code, oc_44) := fun pc hp => od_allI (n := 27) oq_44_0 hp
set_option maxRecDepth 100000 in
theorem oz_45 : od_good (prog_3_method_3_code, oc_45) := fun pc hp => od_allI (n := 147) (od_join (f := (od_chq prog_3_method_3_code oc_45)) (a := 0) (n := 146) (m := 1) (od_join (f := (od_chq prog_3_method_3_code oc_45)) (a := 0) (n := 144) (m := 2) (od_join (f := (od_chq prog_3_method_3_code oc_45)) (a := 0) (n := 67) (m := 77) (od_join (f := (od_chq prog_3_method_3_code oc_45)) (a := 0) (n := 66) (m := 1) oq_45_0 (by decide +kernel)) oq_45_1) (by decide +kernel)) oq_45_2) hp
set_option maxRecDepth 100000 in
theorem oz_46 : od_good (prog_3_method_4_code, oc_46) := fun pc hp => od_allI (n := 80) oq_46_0 hp
set_option maxRecDepth 100000 in
theorem oz_47 : od_good (prog_5_method_1_code, oc_47) := fun pc hp => od_allI (n := 48) oq_47_0 hp
set_option maxRecDepth 100000 in
theorem oz_48 : od_good (prog_5_method_2_code, oc_48) := fun pc hp => od_allI (n := 112) (od_join (f := (od_chq prog_5_method_2_code oc_48)) (a := 0) (n := 70) (m := 42) oq_48_0 oq_48_1) hp
set_option maxRecDepth 100000 in
theorem oz_49 : od_good (prog_5_method_3_code, oc_49) := fun pc hp => od_allI (n := 80) (od_join (f := (od_chq prog_5_method_3_code oc_49)) (a := 0) (n := 70) (m := 10) oq_49_0 oq_49_1) hp
set_option maxRecDepth 100000 in
theorem oz_50 : od_good (prog_5_method_4_code, oc_50) := fun pc hp => od_allI (n := 96) (od_join (f := (od_chq prog_5_method_4_code oc_50)) (a := 0) (n := 63) (m := 33) (od_join (f := (od_chq prog_5_method_4_code oc_50)) (a := 0) (n := 62) (m := 1) oq_50_0 (by decide +kernel)) oq_50_1) hp
set_option maxRecDepth 100000 in
theorem oz_51 : od_good (prog_7_method_1_code, oc_51) := fun pc hp => od_allI (n := 70) oq_51_0 hp
set_option maxRecDepth 100000 in
theorem oz_52 : od_good (prog_7_method_2_code, oc_52) := fun pc hp => od_allI (n := 64) oq_52_0 hp
set_option maxRecDepth 100000 in
theorem oz_53 : od_good (prog_7_method_3_code, oc_53) := fun pc hp => od_allI (n := 145) (od_join (f := (od_chq prog_7_method_3_code oc_53)) (a := 0) (n := 137) (m := 8) (od_join (f := (od_chq prog_7_method_3_code oc_53)) (a := 0) (n := 135) (m := 2) (od_join (f := (od_chq prog_7_method_3_code oc_53)) (a := 0) (n := 62) (m := 73) oq_53_0 oq_53_1) (by decide +kernel)) oq_53_2) hp
set_option maxRecDepth 100000 in
theorem oz_54 : od_good (prog_7_method_4_code, oc_54) := fun pc hp => od_allI (n := 52) oq_54_0 hp
set_option maxRecDepth 100000 in
theorem oz_55 : od_good (prog_6_method_1_code, oc_55) := fun pc hp => od_allI (n := 13) oq_55_0 hp
set_option maxRecDepth 100000 in
theorem oz_56 : od_good (prog_6_method_2_code, oc_56) := fun pc hp => od_allI (n := 12) oq_56_0 hp
set_option maxRecDepth 100000 in
theorem oz_57 : od_good (prog_6_method_3_code, oc_57) := fun pc hp => od_allI (n := 131) (od_join (f := (od_chq prog_6_method_3_code oc_57)) (a := 0) (n := 70) (m := 61) oq_57_0 oq_57_1) hp
set_option maxRecDepth 100000 in
theorem oz_58 : od_good (prog_6_method_4_code, oc_58) := fun pc hp => od_allI (n := 115) (od_join (f := (od_chq prog_6_method_4_code oc_58)) (a := 0) (n := 69) (m := 46) oq_58_0 oq_58_1) hp
set_option maxRecDepth 100000 in
theorem oz_59 : od_good (prog_6_method_5_code, oc_59) := fun pc hp => od_allI (n := 61) oq_59_0 hp
set_option maxRecDepth 100000 in
theorem oz_60 : od_good (prog_6_method_6_code, oc_60) := fun pc hp => od_allI (n := 8) oq_60_0 hp
set_option maxRecDepth 100000 in
theorem oz_61 : od_good (prog_1_method_1_code, oc_61) := fun pc hp => od_allI (n := 170) (od_join (f := (od_chq prog_1_method_1_code oc_61)) (a := 0) (n := 166) (m := 4) (od_join (f := (od_chq prog_1_method_1_code oc_61)) (a := 0) (n := 164) (m := 2) (od_join (f := (od_chq prog_1_method_1_code oc_61)) (a := 0) (n := 86) (m := 78) (od_join (f := (od_chq prog_1_method_1_code oc_61)) (a := 0) (n := 84) (m := 2) oq_61_0 (by decide +kernel)) oq_61_1) (by decide +kernel)) oq_61_2) hp
set_option maxRecDepth 100000 in
theorem oz_62 : od_good (prog_1_method_2_code, oc_62) := fun pc hp => od_allI (n := 22) oq_62_0 hp
set_option maxRecDepth 100000 in
theorem oz_63 : od_good (prog_1_method_3_code, oc_63) := fun pc hp => od_allI (n := 45) oq_63_0 hp
set_option maxRecDepth 100000 in
theorem oz_64 : od_good (prog_1_method_4_code, oc_64) := fun pc hp => od_allI (n := 272) (od_join (f := (od_chq prog_1_method_4_code oc_64)) (a := 0) (n := 212) (m := 60) (od_join (f := (od_chq prog_1_method_4_code oc_64)) (a := 0) (n := 211) (m := 1) (od_join (f := (od_chq prog_1_method_4_code oc_64)) (a := 0) (n := 80) (m := 131) oq_64_0 oq_64_1) (by decide +kernel)) oq_64_2) hp
set_option maxRecDepth 100000 in
theorem oz_65 : od_good (prog_1_method_5_code, oc_65) := fun pc hp => od_allI (n := 58) oq_65_0 hp
set_option maxRecDepth 100000 in
theorem oz_66 : od_good (prog_1_method_6_code, oc_66) := fun pc hp => od_allI (n := 61) oq_66_0 hp
set_option maxRecDepth 100000 in
theorem oz_67 : od_good (prog_1_method_7_code, oc_67) := fun pc hp => od_allI (n := 72) oq_67_0 hp
set_option maxRecDepth 100000 in
theorem oz_68 : od_good (prog_1_method_8_code, oc_68) := fun pc hp => od_allI (n := 44) oq_68_0 hp
set_option maxRecDepth 100000 in
theorem oz_69 : od_good (prog_1_method_9_code, oc_69) := fun pc hp => od_allI (n := 14) oq_69_0 hp
set_option maxRecDepth 100000 in
theorem oz_70 : od_good (prog_1_method_10_code, oc_70) := fun pc hp => od_allI (n := 9) oq_70_0 hp
set_option maxRecDepth 100000 in
theorem oz_71 : od_good (prog_1_method_11_code, oc_71) := fun pc hp => od_allI (n := 9) oq_71_0 hp
set_option maxRecDepth 100000 in
theorem oz_72 : od_good (prog_1_method_12_code, oc_72) := fun pc hp => od_allI (n := 29) oq_72_0 hp
set_option maxRecDepth 100000 in
theorem oz_73 : od_good (prog_1_method_13_code, oc_73) := fun pc hp => od_allI (n := 45) oq_73_0 hp
set_option maxRecDepth 100000 in
theorem oz_74 : od_good (prog_1_method_14_code, oc_74) := fun pc hp => od_allI (n := 41) oq_74_0 hp
set_option maxRecDepth 100000 in
theorem oz_75 : od_good (prog_1_method_15_code, oc_75) := fun pc hp => od_allI (n := 53) oq_75_0 hp
set_option maxRecDepth 100000 in
theorem oz_76 : od_good (prog_1_method_16_code, oc_76) := fun pc hp => od_allI (n := 40) oq_76_0 hp
set_option maxRecDepth 100000 in
theorem oz_77 : od_good (prog_1_method_17_code, oc_77) := fun pc hp => od_allI (n := 14) oq_77_0 hp
set_option maxRecDepth 100000 in
theorem oz_78 : od_good (prog_1_method_18_code, oc_78) := fun pc hp => od_allI (n := 14) oq_78_0 hp
set_option maxRecDepth 100000 in
theorem oz_79 : od_good (prog_1_method_19_code, oc_79) := fun pc hp => od_allI (n := 12) oq_79_0 hp
set_option maxRecDepth 100000 in
theorem oz_80 : od_good (prog_1_method_20_code, oc_80) := fun pc hp => od_allI (n := 27) oq_80_0 hp
set_option maxRecDepth 100000 in
theorem oz_81 : od_good (prog_1_method_21_code, oc_81) := fun pc hp => od_allI (n := 29) oq_81_0 hp
set_option maxRecDepth 100000 in
theorem oz_82 : od_good (prog_1_method_22_code, oc_82) := fun pc hp => od_allI (n := 16) oq_82_0 hp
set_option maxRecDepth 100000 in
theorem oz_83 : od_good (prog_1_method_23_code, oc_83) := fun pc hp => od_allI (n := 15) oq_83_0 hp
set_option maxRecDepth 100000 in
theorem oz_84 : od_good (prog_1_method_24_code, oc_84) := fun pc hp => od_allI (n := 13) oq_84_0 hp
set_option maxRecDepth 100000 in
theorem oz_85 : od_good (prog_10_method_1_code, oc_85) := fun pc hp => od_allI (n := 62) oq_85_0 hp
set_option maxRecDepth 100000 in
theorem oz_86 : od_good (prog_10_method_2_code, oc_86) := fun pc hp => od_allI (n := 5) oq_86_0 hp
set_option maxRecDepth 100000 in
theorem oz_87 : od_good (prog_10_method_3_code, oc_87) := fun pc hp => od_allI (n := 8) oq_87_0 hp
set_option maxRecDepth 100000 in
theorem oz_88 : od_good (prog_10_method_4_code, oc_88) := fun pc hp => od_allI (n := 47) oq_88_0 hp
set_option maxRecDepth 100000 in
theorem oz_89 : od_good (prog_10_method_5_code, oc_89) := fun pc hp => od_allI (n := 34) oq_89_0 hp
set_option maxRecDepth 100000 in
theorem oz_90 : od_good (prog_10_method_6_code, oc_90) := fun pc hp => od_allI (n := 70) (od_join (f := (od_chq prog_10_method_6_code oc_90)) (a := 0) (n := 69) (m := 1) (od_join (f := (od_chq prog_10_method_6_code oc_90)) (a := 0) (n := 67) (m := 2) oq_90_0 (by decide +kernel)) oq_90_1) hp
set_option maxRecDepth 100000 in
theorem oz_91 : od_good (prog_10_method_7_code, oc_91) := fun pc hp => od_allI (n := 19) oq_91_0 hp
set_option maxRecDepth 100000 in
theorem oz_92 : od_good (prog_10_method_8_code, oc_92) := fun pc hp => od_allI (n := 26) oq_92_0 hp
set_option maxRecDepth 100000 in
theorem oz_93 : od_good (prog_10_method_9_code, oc_93) := fun pc hp => od_allI (n := 56) oq_93_0 hp
set_option maxRecDepth 100000 in
theorem oz_94 : od_good (prog_10_method_10_code, oc_94) := fun pc hp => od_allI (n := 14) oq_94_0 hp
set_option maxRecDepth 100000 in
theorem oz_95 : od_good (prog_10_method_11_code, oc_95) := fun pc hp => od_allI (n := 20) oq_95_0 hp
set_option maxRecDepth 100000 in
theorem oz_96 : od_good (prog_10_method_12_code, oc_96) := fun pc hp => od_allI (n := 52) oq_96_0 hp
set_option maxRecDepth 100000 in
theorem oz_97 : od_good (prog_10_method_13_code, oc_97) := fun pc hp => od_allI (n := 28) oq_97_0 hp
set_option maxRecDepth 100000 in
theorem oz_98 : od_good (prog_10_method_14_code, oc_98) := fun pc hp => od_allI (n := 32) oq_98_0 hp
set_option maxRecDepth 100000 in
theorem oz_99 : od_good (prog_10_method_15_code, oc_99) := fun pc hp => od_allI (n := 16) oq_99_0 hp
set_option maxRecDepth 100000 in
theorem oz_100 : od_good (prog_10_method_16_code, oc_100) := fun pc hp => od_allI (n := 28) oq_100_0 hp
set_option maxRecDepth 100000 in
theorem oz_101 : od_good (prog_10_method_17_code, oc_101) := fun pc hp => od_allI (n := 54) oq_101_0 hp
set_option maxRecDepth 100000 in
theorem oz_102 : od_good (prog_10_method_18_code, oc_102) := fun pc hp => od_allI (n := 182) (od_join (f := (od_chq prog_10_method_18_code oc_102)) (a := 0) (n := 144) (m := 38) (od_join (f := (od_chq prog_10_method_18_code oc_102)) (a := 0) (n := 142) (m := 2) (od_join (f := (od_chq prog_10_method_18_code oc_102)) (a := 0) (n := 67) (m := 75) oq_102_0 oq_102_1) (by decide +kernel)) oq_102_2) hp
set_option maxRecDepth 100000 in
theorem oz_103 : od_good (prog_10_method_19_code, oc_103) := fun pc hp => od_allI (n := 203) (od_join (f := (od_chq prog_10_method_19_code oc_103)) (a := 0) (n := 145) (m := 58) (od_join (f := (od_chq prog_10_method_19_code oc_103)) (a := 0) (n := 144) (m := 1) (od_join (f := (od_chq prog_10_method_19_code oc_103)) (a := 0) (n := 70) (m := 74) (od_join (f := (od_chq prog_10_method_19_code oc_103)) (a := 0) (n := 69) (m := 1) oq_103_0 (by decide +kernel)) oq_103_1) (by decide +kernel)) oq_103_2) hp
set_option maxRecDepth 100000 in
theorem oz_104 : od_good (prog_10_method_20_code, oc_104) := fun pc hp => od_allI (n := 153) (od_join (f := (od_chq prog_10_method_20_code oc_104)) (a := 0) (n := 138) (m := 15) (od_join (f := (od_chq prog_10_method_20_code oc_104)) (a := 0) (n := 67) (m := 71) oq_104_0 oq_104_1) oq_104_2) hp
set_option maxRecDepth 100000 in
theorem oz_105 : od_good (prog_10_method_21_code, oc_105) := fun pc hp => od_allI (n := 155) (od_join (f := (od_chq prog_10_method_21_code oc_105)) (a := 0) (n := 143) (m := 12) (od_join (f := (od_chq prog_10_method_21_code oc_105)) (a := 0) (n := 70) (m := 73) (od_join (f := (od_chq prog_10_method_21_code oc_105)) (a := 0) (n := 69) (m := 1) oq_105_0 (by decide +kernel)) oq_105_1) oq_105_2) hp
set_option maxRecDepth 100000 in
theorem oz_106 : od_good (prog_10_method_22_code, oc_106) := fun pc hp => od_allI (n := 264) (od_join (f := (od_chq prog_10_method_22_code oc_106)) (a := 0) (n := 229) (m := 35) (od_join (f := (od_chq prog_10_method_22_code oc_106)) (a := 0) (n := 227) (m := 2) (od_join (f := (od_chq prog_10_method_22_code oc_106)) (a := 0) (n := 156) (m := 71) (od_join (f := (od_chq prog_10_method_22_code oc_106)) (a := 0) (n := 155) (m := 1) (od_join (f := (od_chq prog_10_method_22_code oc_106)) (a := 0) (n := 74) (m := 81) (od_join (f := (od_chq prog_10_method_22_code oc_106)) (a := 0) (n := 73) (m := 1) oq_106_0 (by decide +kernel)) oq_106_1) (by decide +kernel)) oq_106_2) (by decide +kernel)) oq_106_3) hp
set_option maxRecDepth 100000 in
theorem oz_107 : od_good (prog_10_method_23_code, oc_107) := fun pc hp => od_allI (n := 120) (od_join (f := (od_chq prog_10_method_23_code oc_107)) (a := 0) (n := 69) (m := 51) (od_join (f := (od_chq prog_10_method_23_code oc_107)) (a := 0) (n := 67) (m := 2) oq_107_0 (by decide +kernel)) oq_107_1) hp
set_option maxRecDepth 100000 in
theorem oz_108 : od_good (prog_10_method_24_code, oc_108) := fun pc hp => od_allI (n := 258) (od_join (f := (od_chq prog_10_method_24_code oc_108)) (a := 0) (n := 217) (m := 41) (od_join (f := (od_chq prog_10_method_24_code oc_108)) (a := 0) (n := 215) (m := 2) (od_join (f := (od_chq prog_10_method_24_code oc_108)) (a := 0) (n := 147) (m := 68) (od_join (f := (od_chq prog_10_method_24_code oc_108)) (a := 0) (n := 145) (m := 2) (od_join (f := (od_chq prog_10_method_24_code oc_108)) (a := 0) (n := 69) (m := 76) (od_join (f := (od_chq prog_10_method_24_code oc_108)) (a := 0) (n := 68) (m := 1) oq_108_0 (by decide +kernel)) oq_108_1) (by decide +kernel)) oq_108_2) (by decide +kernel)) oq_108_3) hp
set_option maxRecDepth 100000 in
theorem oz_109 : od_good (prog_10_method_25_code, oc_109) := fun pc hp => od_allI (n := 46) oq_109_0 hp
set_option maxRecDepth 100000 in
theorem oz_110 : od_good (prog_10_method_26_code, oc_110) := fun pc hp => od_allI (n := 377) (od_join (f := (od_chq prog_10_method_26_code oc_110)) (a := 0) (n := 361) (m := 16) (od_join (f := (od_chq prog_10_method_26_code oc_110)) (a := 0) (n := 360) (m := 1) (od_join (f := (od_chq prog_10_method_26_code oc_110)) (a := 0) (n := 284) (m := 76) (od_join (f := (od_chq prog_10_method_26_code oc_110)) (a := 0) (n := 283) (m := 1) (od_join (f := (od_chq prog_10_method_26_code oc_110)) (a := 0) (n := 209) (m := 74) (od_join (f := (od_chq prog_10_method_26_code oc_110)) (a := 0) (n := 132) (m := 77) (od_join (f := (od_chq prog_10_method_26_code oc_110)) (a := 0) (n := 130) (m := 2) (od_join (f := (od_chq prog_10_method_26_code oc_110)) (a := 0) (n := 65) (m := 65) (od_join (f := (od_chq prog_10_method_26_code oc_110)) (a := 0) (n := 63) (m := 2) oq_110_0 (by decide +kernel)) oq_110_1) (by decide +kernel)) oq_110_2) oq_110_3) (by decide +kernel)) oq_110_4) (by decide +kernel)) oq_110_5) hp
set_option maxRecDepth 100000 in
theorem oz_111 : od_good (prog_10_method_27_code, oc_111) := fun pc hp => od_allI (n := 296) (od_join (f := (od_chq prog_10_method_27_code oc_111)) (a := 0) (n := 291) (m := 5) (od_join (f := (od_chq prog_10_method_27_code oc_111)) (a := 0) (n := 290) (m := 1) (od_join (f := (od_chq prog_10_method_27_code oc_111)) (a := 0) (n := 215) (m := 75) (od_join (f := (od_chq prog_10_method_27_code oc_111)) (a := 0) (n := 214) (m := 1) (od_join (f := (od_chq prog_10_method_27_code oc_111)) (a := 0) (n := 147) (m := 67) (od_join (f := (od_chq prog_10_method_27_code oc_111)) (a := 0) (n := 75) (m := 72) (od_join (f := (od_chq prog_10_method_27_code oc_111)) (a := 0) (n := 73) (m := 2) oq_111_0 (by decide +kernel)) oq_111_1) oq_111_2) (by decide +kernel)) oq_111_3) (by decide +kernel)) oq_111_4) hp
set_option maxRecDepth 100000 in
theorem oz_112 : od_good (prog_10_method_28_code, oc_112) := fun pc hp => od_allI (n := 72) (od_join (f := (od_chq prog_10_method_28_code oc_112)) (a := 0) (n := 61) (m := 11) oq_112_0 oq_112_1) hp
set_option maxRecDepth 100000 in
theorem oz_113 : od_good (prog_10_method_29_code, oc_113) := fun pc hp => od_allI (n := 16) oq_113_0 hp
set_option maxRecDepth 100000 in
theorem oz_114 : od_good (prog_10_method_30_code, oc_114) := fun pc hp => od_allI (n := 41) oq_114_0 hp
set_option maxRecDepth 100000 in
theorem oz_115 : od_good (prog_10_method_31_code, oc_115) := fun pc hp => od_allI (n := 44) oq_115_0 hp
set_option maxRecDepth 100000 in
theorem oz_116 : od_good (prog_10_method_32_code, oc_116) := fun pc hp => od_allI (n := 74) oq_116_0 hp
set_option maxRecDepth 100000 in
theorem oz_117 : od_good (prog_10_method_33_code, oc_117) := fun pc hp => od_allI (n := 242) (od_join (f := (od_chq prog_10_method_33_code oc_117)) (a := 0) (n := 185) (m := 57) (od_join (f := (od_chq prog_10_method_33_code oc_117)) (a := 0) (n := 183) (m := 2) (od_join (f := (od_chq prog_10_method_33_code oc_117)) (a := 0) (n := 78) (m := 105) (od_join (f := (od_chq prog_10_method_33_code oc_117)) (a := 0) (n := 76) (m := 2) oq_117_0 (by decide +kernel)) oq_117_1) (by decide +kernel)) oq_117_2) hp
set_option maxRecDepth 100000 in
theorem oz_118 : od_good (prog_10_method_34_code, oc_118) := fun pc hp => od_allI (n := 74) oq_118_0 hp
set_option maxRecDepth 100000 in
theorem oz_119 : od_good (prog_10_method_35_code, oc_119) := fun pc hp => od_allI (n := 124) (od_join (f := (od_chq prog_10_method_35_code oc_119)) (a := 0) (n := 76) (m := 48) oq_119_0 oq_119_1) hp
set_option maxRecDepth 100000 in
theorem oz_120 : od_good (prog_10_method_36_code, oc_120) := fun pc hp => od_allI (n := 158) (od_join (f := (od_chq prog_10_method_36_code oc_120)) (a := 0) (n := 144) (m := 14) (od_join (f := (od_chq prog_10_method_36_code oc_120)) (a := 0) (n := 73) (m := 71) oq_120_0 oq_120_1) oq_120_2) hp
set_option maxRecDepth 100000 in
theorem oz_121 : od_good (prog_10_method_37_code, oc_121) := fun pc hp => od_allI (n := 209) (od_join (f := (od_chq prog_10_method_37_code oc_121)) (a := 0) (n := 144) (m := 65) (od_join (f := (od_chq prog_10_method_37_code oc_121)) (a := 0) (n := 79) (m := 65) (od_join (f := (od_chq prog_10_method_37_code oc_121)) (a := 0) (n := 77) (m := 2) oq_121_0 (by decide +kernel)) oq_121_1) oq_121_2) hp
set_option maxRecDepth 100000 in
theorem oz_122 : od_good (prog_10_method_38_code, oc_122) := fun pc hp => od_allI (n := 93) (od_join (f := (od_chq prog_10_method_38_code oc_122)) (a := 0) (n := 66) (m := 27) (od_join (f := (od_chq prog_10_method_38_code oc_122)) (a := 0) (n := 64) (m := 2) oq_122_0 (by decide +kernel)) oq_122_1) hp
set_option maxRecDepth 100000 in
theorem oz_123 : od_good (prog_10_method_39_code, oc_123) := fun pc hp => od_allI (n := 98) (od_join (f := (od_chq prog_10_method_39_code oc_123)) (a := 0) (n := 75) (m := 23) oq_123_0 oq_123_1) hp
set_option maxRecDepth 100000 in
theorem oz_124 : od_good (prog_10_method_40_code, oc_124) := fun pc hp => od_allI (n := 41) oq_124_0 hp
set_option maxRecDepth 100000 in
theorem oz_125 : od_good (prog_10_method_41_code, oc_125) := fun pc hp => od_allI (n := 33) oq_125_0 hp
set_option maxRecDepth 100000 in
theorem oz_126 : od_good (prog_10_method_42_code, oc_126) := fun pc hp => od_allI (n := 36) oq_126_0 hp
set_option maxRecDepth 100000 in
theorem oz_127 : od_good (prog_10_method_43_code, oc_127) := fun pc hp => od_allI (n := 57) oq_127_0 hp
set_option maxRecDepth 100000 in
theorem oz_128 : od_good (prog_10_method_44_code, oc_128) := fun pc hp => od_allI (n := 72) (od_join (f := (od_chq prog_10_method_44_code oc_128)) (a := 0) (n := 64) (m := 8) (od_join (f := (od_chq prog_10_method_44_code oc_128)) (a := 0) (n := 62) (m := 2) oq_128_0 (by decide +kernel)) oq_128_1) hp
set_option maxRecDepth 100000 in
theorem oz_129 : od_good (prog_10_method_45_code, oc_129) := fun pc hp => od_allI (n := 194) (od_join (f := (od_chq prog_10_method_45_code oc_129)) (a := 0) (n := 137) (m := 57) (od_join (f := (od_chq prog_10_method_45_code oc_129)) (a := 0) (n := 71) (m := 66) oq_129_0 oq_129_1) oq_129_2) hp
set_option maxRecDepth 100000 in
theorem oz_130 : od_good (prog_10_method_46_code, oc_130) := fun pc hp => od_allI (n := 169) (od_join (f := (od_chq prog_10_method_46_code oc_130)) (a := 0) (n := 139) (m := 30) (od_join (f := (od_chq prog_10_method_46_code oc_130)) (a := 0) (n := 67) (m := 72) (od_join (f := (od_chq prog_10_method_46_code oc_130)) (a := 0) (n := 65) (m := 2) oq_130_0 (by decide +kernel)) oq_130_1) oq_130_2) hp
set_option maxRecDepth 100000 in
theorem oz_131 : od_good (prog_10_method_47_code, oc_131) := fun pc hp => od_allI (n := 153) (od_join (f := (od_chq prog_10_method_47_code oc_131)) (a := 0) (n := 152) (m := 1) (od_join (f := (od_chq prog_10_method_47_code oc_131)) (a := 0) (n := 151) (m := 1) (od_join (f := (od_chq prog_10_method_47_code oc_131)) (a := 0) (n := 75) (m := 76) oq_131_0 oq_131_1) (by decide +kernel)) oq_131_2) hp
set_option maxRecDepth 100000 in
theorem oz_132 : od_good (prog_10_method_48_code, oc_132) := fun pc hp => od_allI (n := 65) oq_132_0 hp
set_option maxRecDepth 100000 in
theorem oz_133 : od_good (prog_10_method_49_code, oc_133) := fun pc hp => od_allI (n := 42) oq_133_0 hp
set_option maxRecDepth 100000 in
theorem oz_134 : od_good (prog_10_method_50_code, oc_134) := fun pc hp => od_allI (n := 45) oq_134_0 hp
set_option maxRecDepth 100000 in
theorem oz_135 : od_good (prog_10_method_51_code, oc_135) := fun pc hp => od_allI (n := 45) oq_135_0 hp
set_option maxRecDepth 100000 in
theorem oz_136 : od_good (prog_10_method_52_code, oc_136) := fun pc hp => od_allI (n := 17) oq_136_0 hp
set_option maxRecDepth 100000 in
theorem oz_137 : od_good (method_3_code, oc_137) := fun pc hp => od_allI (n := 17) oq_137_0 hp
set_option maxRecDepth 100000 in
theorem oz_138 : od_good (method_4_code, oc_138) := fun pc hp => od_allI (n := 24) oq_138_0 hp
set_option maxRecDepth 100000 in
theorem oz_139 : od_good (method_5_code, oc_139) := fun pc hp => od_allI (n := 31) oq_139_0 hp
set_option maxRecDepth 100000 in
theorem oz_140 : od_good (method_6_code, oc_140) := fun pc hp => od_allI (n := 29) oq_140_0 hp
set_option maxRecDepth 100000 in
theorem oz_141 : od_good (method_7_code, oc_141) := fun pc hp => od_allI (n := 29) oq_141_0 hp
set_option maxRecDepth 100000 in
theorem oz_142 : od_good (method_8_code, oc_142) := fun pc hp => od_allI (n := 31) oq_142_0 hp
set_option maxRecDepth 100000 in
theorem oz_143 : od_good (method_9_code, oc_143) := fun pc hp => od_allI (n := 29) oq_143_0 hp
set_option maxRecDepth 100000 in
theorem oz_144 : od_good (method_10_code, oc_144) := fun pc hp => od_allI (n := 19) oq_144_0 hp
set_option maxRecDepth 100000 in
theorem oz_145 : od_good (method_11_code, oc_145) := fun pc hp => od_allI (n := 17) oq_145_0 hp
set_option maxRecDepth 100000 in
theorem oz_146 : od_good (method_12_code, oc_146) := fun pc hp => od_allI (n := 17) oq_146_0 hp
set_option maxRecDepth 100000 in
theorem oz_147 : od_good (method_13_code, oc_147) := fun pc hp => od_allI (n := 19) oq_147_0 hp
set_option maxRecDepth 100000 in
theorem oz_148 : od_good (method_14_code, oc_148) := fun pc hp => od_allI (n := 23) oq_148_0 hp
set_option maxRecDepth 100000 in
theorem oz_149 : od_good (method_15_code, oc_149) := fun pc hp => od_allI (n := 29) oq_149_0 hp
set_option maxRecDepth 100000 in
theorem oz_150 : od_good (method_16_code, oc_150) := fun pc hp => od_allI (n := 20) oq_150_0 hp
set_option maxRecDepth 100000 in
theorem oz_151 : od_good (method_17_code, oc_151) := fun pc hp => od_allI (n := 14) oq_151_0 hp
set_option maxRecDepth 100000 in
theorem oz_152 : od_good (method_18_code, oc_152) := fun pc hp => od_allI (n := 14) oq_152_0 hp
set_option maxRecDepth 100000 in
theorem oz_153 : od_good (code, oc_153) := fun pc hp => od_allI (n := 1238) (od_join (f := (od_chq code oc_153)) (a := 0) (n := 1217) (m := 21) (od_join (f := (od_chq code oc_153)) (a := 0) (n := 1215) (m := 2) (od_join (f := (od_chq code oc_153)) (a := 0) (n := 1152) (m := 63) (od_join (f := (od_chq code oc_153)) (a := 0) (n := 1094) (m := 58) (od_join (f := (od_chq code oc_153)) (a := 0) (n := 1030) (m := 64) (od_join (f := (od_chq code oc_153)) (a := 0) (n := 1028) (m := 2) (od_join (f := (od_chq code oc_153)) (a := 0) (n := 973) (m := 55) (od_join (f := (od_chq code oc_153)) (a := 0) (n := 911) (m := 62) (od_join (f := (od_chq code oc_153)) (a := 0) (n := 849) (m := 62) (od_join (f := (od_chq code oc_153)) (a := 0) (n := 787) (m := 62) (od_join (f := (od_chq code oc_153)) (a := 0) (n := 725) (m := 62) (od_join (f := (od_chq code oc_153)) (a := 0) (n := 663) (m := 62) (od_join (f := (od_chq code oc_153)) (a := 0) (n := 603) (m := 60) (od_join (f := (od_chq code oc_153)) (a := 0) (n := 543) (m := 60) (od_join (f := (od_chq code oc_153)) (a := 0) (n := 541) (m := 2) (od_join (f := (od_chq code oc_153)) (a := 0) (n := 491) (m := 50) (od_join (f := (od_chq code oc_153)) (a := 0) (n := 431) (m := 60) (od_join (f := (od_chq code oc_153)) (a := 0) (n := 371) (m := 60) (od_join (f := (od_chq code oc_153)) (a := 0) (n := 369) (m := 2) (od_join (f := (od_chq code oc_153)) (a := 0) (n := 316) (m := 53) (od_join (f := (od_chq code oc_153)) (a := 0) (n := 257) (m := 59) (od_join (f := (od_chq code oc_153)) (a := 0) (n := 202) (m := 55) (od_join (f := (od_chq code oc_153)) (a := 0) (n := 144) (m := 58) oq_153_0 oq_153_1) oq_153_2) oq_153_3) oq_153_4) (by decide +kernel)) oq_153_5) oq_153_6) oq_153_7) (by decide +kernel)) oq_153_8) oq_153_9) oq_153_10) oq_153_11) oq_153_12) oq_153_13) oq_153_14) oq_153_15) (by decide +kernel)) oq_153_16) oq_153_17) oq_153_18) (by decide +kernel)) oq_153_19) hp
set_option maxRecDepth 100000 in
theorem oz_154 : od_good (prog_16_method_69_code, oc_154) := fun pc hp => od_allI (n := 11) oq_154_0 hp
set_option maxRecDepth 100000 in
theorem oz_155 : od_good (prog_16_method_65_code, oc_155) := fun pc hp => od_allI (n := 11) oq_155_0 hp
set_option maxRecDepth 100000 in
theorem oz_156 : od_good (prog_16_method_70_code, oc_156) := fun pc hp => od_allI (n := 12) oq_156_0 hp
set_option maxRecDepth 100000 in
theorem oz_157 : od_good (prog_15_method_40_code, oc_157) := fun pc hp => od_allI (n := 20) oq_157_0 hp
set_option maxRecDepth 100000 in
theorem od_tab_ok : ∀ q ∈ od_tab, od_good q := List.forall_mem_cons.mpr ⟨oz_0, List.forall_mem_cons.mpr ⟨oz_1, List.forall_mem_cons.mpr ⟨oz_2, List.forall_mem_cons.mpr ⟨oz_3, List.forall_mem_cons.mpr ⟨oz_4, List.forall_mem_cons.mpr ⟨oz_5, List.forall_mem_cons.mpr ⟨oz_6, List.forall_mem_cons.mpr ⟨oz_7, List.forall_mem_cons.mpr ⟨oz_8, List.forall_mem_cons.mpr ⟨oz_9, List.forall_mem_cons.mpr ⟨oz_10, List.forall_mem_cons.mpr ⟨oz_11, List.forall_mem_cons.mpr ⟨oz_12, List.forall_mem_cons.mpr ⟨oz_13, List.forall_mem_cons.mpr ⟨oz_14, List.forall_mem_cons.mpr ⟨oz_15, List.forall_mem_cons.mpr ⟨oz_16, List.forall_mem_cons.mpr ⟨oz_17, List.forall_mem_cons.mpr ⟨oz_18, List.forall_mem_cons.mpr ⟨oz_19, List.forall_mem_cons.mpr ⟨oz_20, List.forall_mem_cons.mpr ⟨oz_21, List.forall_mem_cons.mpr ⟨oz_22, List.forall_mem_cons.mpr ⟨oz_23, List.forall_mem_cons.mpr ⟨oz_24, List.forall_mem_cons.mpr ⟨oz_25, List.forall_mem_cons.mpr ⟨oz_26, List.forall_mem_cons.mpr ⟨oz_27, List.forall_mem_cons.mpr ⟨oz_28, List.forall_mem_cons.mpr ⟨oz_29, List.forall_mem_cons.mpr ⟨oz_30, List.forall_mem_cons.mpr ⟨oz_31, List.forall_mem_cons.mpr ⟨oz_32, List.forall_mem_cons.mpr ⟨oz_33, List.forall_mem_cons.mpr ⟨oz_34, List.forall_mem_cons.mpr ⟨oz_35, List.forall_mem_cons.mpr ⟨oz_36, List.forall_mem_cons.mpr ⟨oz_37, List.forall_mem_cons.mpr ⟨oz_38, List.forall_mem_cons.mpr ⟨oz_39, List.forall_mem_cons.mpr ⟨oz_40, List.forall_mem_cons.mpr ⟨oz_41, List.forall_mem_cons.mpr ⟨oz_42, List.forall_mem_cons.mpr ⟨oz_43, List.forall_mem_cons.mpr ⟨oz_44, List.forall_mem_cons.mpr ⟨oz_45, List.forall_mem_cons.mpr ⟨oz_46, List.forall_mem_cons.mpr ⟨oz_47, List.forall_mem_cons.mpr ⟨oz_48, List.forall_mem_cons.mpr ⟨oz_49, List.forall_mem_cons.mpr ⟨oz_50, List.forall_mem_cons.mpr ⟨oz_51, List.forall_mem_cons.mpr ⟨oz_52, List.forall_mem_cons.mpr ⟨oz_53, List.forall_mem_cons.mpr ⟨oz_54, List.forall_mem_cons.mpr ⟨oz_55, List.forall_mem_cons.mpr ⟨oz_56, List.forall_mem_cons.mpr ⟨oz_57, List.forall_mem_cons.mpr ⟨oz_58, List.forall_mem_cons.mpr ⟨oz_59, List.forall_mem_cons.mpr ⟨oz_60, List.forall_mem_cons.mpr ⟨oz_61, List.forall_mem_cons.mpr ⟨oz_62, List.forall_mem_cons.mpr ⟨oz_63, List.forall_mem_cons.mpr ⟨oz_64, List.forall_mem_cons.mpr ⟨oz_65, List.forall_mem_cons.mpr ⟨oz_66, List.forall_mem_cons.mpr ⟨oz_67, List.forall_mem_cons.mpr ⟨oz_68, List.forall_mem_cons.mpr ⟨oz_69, List.forall_mem_cons.mpr ⟨oz_70, List.forall_mem_cons.mpr ⟨oz_71, List.forall_mem_cons.mpr ⟨oz_72, List.forall_mem_cons.mpr ⟨oz_73, List.forall_mem_cons.mpr ⟨oz_74, List.forall_mem_cons.mpr ⟨oz_75, List.forall_mem_cons.mpr ⟨oz_76, List.forall_mem_cons.mpr ⟨oz_77, List.forall_mem_cons.mpr ⟨oz_78, List.forall_mem_cons.mpr ⟨oz_79, List.forall_mem_cons.mpr ⟨oz_80, List.forall_mem_cons.mpr ⟨oz_81, List.forall_mem_cons.mpr ⟨oz_82, List.forall_mem_cons.mpr ⟨oz_83, List.forall_mem_cons.mpr ⟨oz_84, List.forall_mem_cons.mpr ⟨oz_85, List.forall_mem_cons.mpr ⟨oz_86, List.forall_mem_cons.mpr ⟨oz_87, List.forall_mem_cons.mpr ⟨oz_88, List.forall_mem_cons.mpr ⟨oz_89, List.forall_mem_cons.mpr ⟨oz_90, List.forall_mem_cons.mpr ⟨oz_91, List.forall_mem_cons.mpr ⟨oz_92, List.forall_mem_cons.mpr ⟨oz_93, List.forall_mem_cons.mpr ⟨oz_94, List.forall_mem_cons.mpr ⟨oz_95, List.forall_mem_cons.mpr ⟨oz_96, List.forall_mem_cons.mpr ⟨oz_97, List.forall_mem_cons.mpr ⟨oz_98, List.forall_mem_cons.mpr ⟨oz_99, List.forall_mem_cons.mpr ⟨oz_100, List.forall_mem_cons.mpr ⟨oz_101, List.forall_mem_cons.mpr ⟨oz_102, List.forall_mem_cons.mpr ⟨oz_103, List.forall_mem_cons.mpr ⟨oz_104, List.forall_mem_cons.mpr ⟨oz_105, List.forall_mem_cons.mpr ⟨oz_106, List.forall_mem_cons.mpr ⟨oz_107, List.forall_mem_cons.mpr ⟨oz_108, List.forall_mem_cons.mpr ⟨oz_109, List.forall_mem_cons.mpr ⟨oz_110, List.forall_mem_cons.mpr ⟨oz_111, List.forall_mem_cons.mpr ⟨oz_112, List.forall_mem_cons.mpr ⟨oz_113, List.forall_mem_cons.mpr ⟨oz_114, List.forall_mem_cons.mpr ⟨oz_115, List.forall_mem_cons.mpr ⟨oz_116, List.forall_mem_cons.mpr ⟨oz_117, List.forall_mem_cons.mpr ⟨oz_118, List.forall_mem_cons.mpr ⟨oz_119, List.forall_mem_cons.mpr ⟨oz_120, List.forall_mem_cons.mpr ⟨oz_121, List.forall_mem_cons.mpr ⟨oz_122, List.forall_mem_cons.mpr ⟨oz_123, List.forall_mem_cons.mpr ⟨oz_124, List.forall_mem_cons.mpr ⟨oz_125, List.forall_mem_cons.mpr ⟨oz_126, List.forall_mem_cons.mpr ⟨oz_127, List.forall_mem_cons.mpr ⟨oz_128, List.forall_mem_cons.mpr ⟨oz_129, List.forall_mem_cons.mpr ⟨oz_130, List.forall_mem_cons.mpr ⟨oz_131, List.forall_mem_cons.mpr ⟨oz_132, List.forall_mem_cons.mpr ⟨oz_133, List.forall_mem_cons.mpr ⟨oz_134, List.forall_mem_cons.mpr ⟨oz_135, List.forall_mem_cons.mpr ⟨oz_136, List.forall_mem_cons.mpr ⟨oz_137, List.forall_mem_cons.mpr ⟨oz_138, List.forall_mem_cons.mpr ⟨oz_139, List.forall_mem_cons.mpr ⟨oz_140, List.forall_mem_cons.mpr ⟨oz_141, List.forall_mem_cons.mpr ⟨oz_142, List.forall_mem_cons.mpr ⟨oz_143, List.forall_mem_cons.mpr ⟨oz_144, List.forall_mem_cons.mpr ⟨oz_145, List.forall_mem_cons.mpr ⟨oz_146, List.forall_mem_cons.mpr ⟨oz_147, List.forall_mem_cons.mpr ⟨oz_148, List.forall_mem_cons.mpr ⟨oz_149, List.forall_mem_cons.mpr ⟨oz_150, List.forall_mem_cons.mpr ⟨oz_151, List.forall_mem_cons.mpr ⟨oz_152, List.forall_mem_cons.mpr ⟨oz_153, List.forall_mem_cons.mpr ⟨oz_154, List.forall_mem_cons.mpr ⟨oz_155, List.forall_mem_cons.mpr ⟨oz_156, List.forall_mem_cons.mpr ⟨oz_157, fun _ h => absurd h List.not_mem_nil⟩⟩⟩⟩⟩⟩⟩⟩⟩⟩⟩⟩⟩⟩⟩⟩⟩⟩⟩⟩⟩⟩⟩⟩⟩⟩⟩⟩⟩⟩⟩⟩⟩⟩⟩⟩⟩⟩⟩⟩⟩⟩⟩⟩⟩⟩⟩⟩⟩⟩⟩⟩⟩⟩⟩⟩⟩⟩⟩⟩⟩⟩⟩⟩⟩⟩⟩⟩⟩⟩⟩⟩⟩⟩⟩⟩⟩⟩⟩⟩⟩⟩⟩⟩⟩⟩⟩⟩⟩⟩⟩⟩⟩⟩⟩⟩⟩⟩⟩⟩⟩⟩⟩⟩⟩⟩⟩⟩⟩⟩⟩⟩⟩⟩⟩⟩⟩⟩⟩⟩⟩⟩⟩⟩⟩⟩⟩⟩⟩⟩⟩⟩⟩⟩⟩⟩⟩⟩⟩⟩⟩⟩⟩⟩⟩⟩⟩⟩⟩⟩⟩⟩⟩⟩⟩⟩⟩⟩
