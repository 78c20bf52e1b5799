section
-- ===== PART A: goes FIRST, ahead of the names: the tables' words, and 'selects' of the private methods out of them =====
/-- a private method of a class that the tables say can be made, by its rows of tables_1 -/
def lw_okq (q : MethodName × Nat) : Prop := (q.1.cls ≠ "java/lang/invoke/MethodHandle" ∧ q.1.cls ≠ "java/lang/invoke/VarHandle") ∧ Cond.instantiable q.1.cls q.2 ∈ tables_1 ∧ Cond.privateMethod q.1 ∈ tables_1 ∧ Cond.instanceMethod q.1 ∈ tables_1
theorem lw_p0 : lw_okq (⟨"OrdinalDesk", "slot", "(I)LOrdinalDesk$Row;"⟩, 11) := ⟨⟨by decide +kernel, by decide +kernel⟩, List.mem_of_getElem? (i := 20) (by decide +kernel), List.mem_of_getElem? (i := 261) (by decide +kernel), List.mem_of_getElem? (i := 262) (by decide +kernel)⟩
theorem lw_p1 : lw_okq (⟨"java/lang/Throwable", "fillInStackTrace", "(I)Ljava/lang/Throwable;"⟩, 6) := ⟨⟨by decide +kernel, by decide +kernel⟩, List.mem_of_getElem? (i := 303) (by decide +kernel), List.mem_of_getElem? (i := 301) (by decide +kernel), List.mem_of_getElem? (i := 302) (by decide +kernel)⟩
theorem lw_p2 : lw_okq (⟨"OrdinalDesk$Arithmetic", "makePowerOfNumber", "(IILOrdinalDesk$Row;)V"⟩, 13) := ⟨⟨by decide +kernel, by decide +kernel⟩, List.mem_of_getElem? (i := 52) (by decide +kernel), List.mem_of_getElem? (i := 502) (by decide +kernel), List.mem_of_getElem? (i := 503) (by decide +kernel)⟩
theorem lw_p3 : lw_okq (⟨"OrdinalDesk$Arithmetic", "makePowerOfInfinite", "(LOrdinalDesk$Row;ILOrdinalDesk$Row;)V"⟩, 13) := ⟨⟨by decide +kernel, by decide +kernel⟩, List.mem_of_getElem? (i := 52) (by decide +kernel), List.mem_of_getElem? (i := 511) (by decide +kernel), List.mem_of_getElem? (i := 512) (by decide +kernel)⟩
theorem lw_p4 : lw_okq (⟨"OrdinalDesk$Arithmetic", "addNaturalProduct", "(ILOrdinalDesk$Row;LOrdinalDesk$Row;)V"⟩, 13) := ⟨⟨by decide +kernel, by decide +kernel⟩, List.mem_of_getElem? (i := 52) (by decide +kernel), List.mem_of_getElem? (i := 526) (by decide +kernel), List.mem_of_getElem? (i := 527) (by decide +kernel)⟩
theorem lw_p5 : lw_okq (⟨"OrdinalDesk$Division", "timesInRest", "(LOrdinalDesk$Row;I)I"⟩, 5) := ⟨⟨by decide +kernel, by decide +kernel⟩, List.mem_of_getElem? (i := 100) (by decide +kernel), List.mem_of_getElem? (i := 548) (by decide +kernel), List.mem_of_getElem? (i := 549) (by decide +kernel)⟩
theorem lw_p6 : lw_okq (⟨"OrdinalDesk", "keepResult", "(LOrdinalDesk$Row;)I"⟩, 11) := ⟨⟨by decide +kernel, by decide +kernel⟩, List.mem_of_getElem? (i := 20) (by decide +kernel), List.mem_of_getElem? (i := 555) (by decide +kernel), List.mem_of_getElem? (i := 556) (by decide +kernel)⟩
theorem lw_p7 : lw_okq (⟨"OrdinalDesk$Hydra", "makeThinned", "(LOrdinalDesk$Row;ILOrdinalDesk$Row;)V"⟩, 5) := ⟨⟨by decide +kernel, by decide +kernel⟩, List.mem_of_getElem? (i := 139) (by decide +kernel), List.mem_of_getElem? (i := 624) (by decide +kernel), List.mem_of_getElem? (i := 625) (by decide +kernel)⟩
theorem lw_p8 : lw_okq (⟨"OrdinalDesk$Pile", "pushes", "(LOrdinalDesk$Row;I)Z"⟩, 5) := ⟨⟨by decide +kernel, by decide +kernel⟩, List.mem_of_getElem? (i := 163) (by decide +kernel), List.mem_of_getElem? (i := 720) (by decide +kernel), List.mem_of_getElem? (i := 721) (by decide +kernel)⟩
theorem lw_p9 : lw_okq (⟨"OrdinalDesk$Pile", "appliesTop", "()Z"⟩, 5) := ⟨⟨by decide +kernel, by decide +kernel⟩, List.mem_of_getElem? (i := 163) (by decide +kernel), List.mem_of_getElem? (i := 725) (by decide +kernel), List.mem_of_getElem? (i := 726) (by decide +kernel)⟩
theorem lw_p10 : lw_okq (⟨"OrdinalDesk", "recordNumber", "(I)LOrdinalDesk$Row;"⟩, 11) := ⟨⟨by decide +kernel, by decide +kernel⟩, List.mem_of_getElem? (i := 20) (by decide +kernel), List.mem_of_getElem? (i := 751) (by decide +kernel), List.mem_of_getElem? (i := 752) (by decide +kernel)⟩
theorem lw_p11 : lw_okq (⟨"OrdinalDeskModel", "lay", "(II)V"⟩, 11) := ⟨⟨by decide +kernel, by decide +kernel⟩, List.mem_of_getElem? (i := 763) (by decide +kernel), List.mem_of_getElem? (i := 815) (by decide +kernel), List.mem_of_getElem? (i := 816) (by decide +kernel)⟩
theorem lw_p12 : lw_okq (⟨"OrdinalDeskModel", "clear", "(I)V"⟩, 11) := ⟨⟨by decide +kernel, by decide +kernel⟩, List.mem_of_getElem? (i := 763) (by decide +kernel), List.mem_of_getElem? (i := 819) (by decide +kernel), List.mem_of_getElem? (i := 820) (by decide +kernel)⟩
theorem lw_p13 : lw_okq (⟨"OrdinalDeskModel", "append", "(II)V"⟩, 11) := ⟨⟨by decide +kernel, by decide +kernel⟩, List.mem_of_getElem? (i := 763) (by decide +kernel), List.mem_of_getElem? (i := 823) (by decide +kernel), List.mem_of_getElem? (i := 824) (by decide +kernel)⟩
theorem lw_p14 : lw_okq (⟨"OrdinalDeskModel", "appendTerm", "(IIJ)V"⟩, 11) := ⟨⟨by decide +kernel, by decide +kernel⟩, List.mem_of_getElem? (i := 763) (by decide +kernel), List.mem_of_getElem? (i := 831) (by decide +kernel), List.mem_of_getElem? (i := 832) (by decide +kernel)⟩
theorem lw_p15 : lw_okq (⟨"OrdinalDeskModel", "appendPart", "(IIII)V"⟩, 11) := ⟨⟨by decide +kernel, by decide +kernel⟩, List.mem_of_getElem? (i := 763) (by decide +kernel), List.mem_of_getElem? (i := 835) (by decide +kernel), List.mem_of_getElem? (i := 836) (by decide +kernel)⟩
def lw_privs_1 : List (MethodName × Nat) := [(⟨"OrdinalDesk", "slot", "(I)LOrdinalDesk$Row;"⟩, 11), (⟨"java/lang/Throwable", "fillInStackTrace", "(I)Ljava/lang/Throwable;"⟩, 6), (⟨"OrdinalDesk$Arithmetic", "makePowerOfNumber", "(IILOrdinalDesk$Row;)V"⟩, 13), (⟨"OrdinalDesk$Arithmetic", "makePowerOfInfinite", "(LOrdinalDesk$Row;ILOrdinalDesk$Row;)V"⟩, 13), (⟨"OrdinalDesk$Arithmetic", "addNaturalProduct", "(ILOrdinalDesk$Row;LOrdinalDesk$Row;)V"⟩, 13), (⟨"OrdinalDesk$Division", "timesInRest", "(LOrdinalDesk$Row;I)I"⟩, 5), (⟨"OrdinalDesk", "keepResult", "(LOrdinalDesk$Row;)I"⟩, 11), (⟨"OrdinalDesk$Hydra", "makeThinned", "(LOrdinalDesk$Row;ILOrdinalDesk$Row;)V"⟩, 5), (⟨"OrdinalDesk$Pile", "pushes", "(LOrdinalDesk$Row;I)Z"⟩, 5), (⟨"OrdinalDesk$Pile", "appliesTop", "()Z"⟩, 5), (⟨"OrdinalDesk", "recordNumber", "(I)LOrdinalDesk$Row;"⟩, 11), (⟨"OrdinalDeskModel", "lay", "(II)V"⟩, 11), (⟨"OrdinalDeskModel", "clear", "(I)V"⟩, 11), (⟨"OrdinalDeskModel", "append", "(II)V"⟩, 11), (⟨"OrdinalDeskModel", "appendTerm", "(IIJ)V"⟩, 11), (⟨"OrdinalDeskModel", "appendPart", "(IIII)V"⟩, 11)]
theorem lw_r1 : ∀ q ∈ lw_privs_1, lw_okq q := List.forall_mem_cons.mpr ⟨lw_p0, List.forall_mem_cons.mpr ⟨lw_p1, List.forall_mem_cons.mpr ⟨lw_p2, List.forall_mem_cons.mpr ⟨lw_p3, List.forall_mem_cons.mpr ⟨lw_p4, List.forall_mem_cons.mpr ⟨lw_p5, List.forall_mem_cons.mpr ⟨lw_p6, List.forall_mem_cons.mpr ⟨lw_p7, List.forall_mem_cons.mpr ⟨lw_p8, List.forall_mem_cons.mpr ⟨lw_p9, List.forall_mem_cons.mpr ⟨lw_p10, List.forall_mem_cons.mpr ⟨lw_p11, List.forall_mem_cons.mpr ⟨lw_p12, List.forall_mem_cons.mpr ⟨lw_p13, List.forall_mem_cons.mpr ⟨lw_p14, List.forall_mem_cons.mpr ⟨lw_p15, fun _ h => absurd h List.not_mem_nil⟩⟩⟩⟩⟩⟩⟩⟩⟩⟩⟩⟩⟩⟩⟩⟩
theorem lw_p16 : lw_okq (⟨"OrdinalDeskModel", "settle", "(I)I"⟩, 11) := ⟨⟨by decide +kernel, by decide +kernel⟩, List.mem_of_getElem? (i := 763) (by decide +kernel), List.mem_of_getElem? (i := 840) (by decide +kernel), List.mem_of_getElem? (i := 841) (by decide +kernel)⟩
theorem lw_p17 : lw_okq (⟨"OrdinalDeskModel", "copy", "(II)V"⟩, 11) := ⟨⟨by decide +kernel, by decide +kernel⟩, List.mem_of_getElem? (i := 763) (by decide +kernel), List.mem_of_getElem? (i := 844) (by decide +kernel), List.mem_of_getElem? (i := 845) (by decide +kernel)⟩
theorem lw_p18 : lw_okq (⟨"OrdinalDeskModel", "order", "(II)I"⟩, 11) := ⟨⟨by decide +kernel, by decide +kernel⟩, List.mem_of_getElem? (i := 763) (by decide +kernel), List.mem_of_getElem? (i := 852) (by decide +kernel), List.mem_of_getElem? (i := 853) (by decide +kernel)⟩
theorem lw_p19 : lw_okq (⟨"OrdinalDeskModel", "token", "(II)I"⟩, 11) := ⟨⟨by decide +kernel, by decide +kernel⟩, List.mem_of_getElem? (i := 763) (by decide +kernel), List.mem_of_getElem? (i := 856) (by decide +kernel), List.mem_of_getElem? (i := 857) (by decide +kernel)⟩
theorem lw_p20 : lw_okq (⟨"OrdinalDeskModel", "sum", "(III)V"⟩, 11) := ⟨⟨by decide +kernel, by decide +kernel⟩, List.mem_of_getElem? (i := 763) (by decide +kernel), List.mem_of_getElem? (i := 860) (by decide +kernel), List.mem_of_getElem? (i := 861) (by decide +kernel)⟩
theorem lw_p21 : lw_okq (⟨"OrdinalDeskModel", "behind", "(II)I"⟩, 11) := ⟨⟨by decide +kernel, by decide +kernel⟩, List.mem_of_getElem? (i := 763) (by decide +kernel), List.mem_of_getElem? (i := 864) (by decide +kernel), List.mem_of_getElem? (i := 865) (by decide +kernel)⟩
theorem lw_p22 : lw_okq (⟨"OrdinalDeskModel", "exponent", "(IIII)V"⟩, 11) := ⟨⟨by decide +kernel, by decide +kernel⟩, List.mem_of_getElem? (i := 763) (by decide +kernel), List.mem_of_getElem? (i := 868) (by decide +kernel), List.mem_of_getElem? (i := 869) (by decide +kernel)⟩
theorem lw_p23 : lw_okq (⟨"OrdinalDeskModel", "coefficient", "(II)I"⟩, 11) := ⟨⟨by decide +kernel, by decide +kernel⟩, List.mem_of_getElem? (i := 763) (by decide +kernel), List.mem_of_getElem? (i := 872) (by decide +kernel), List.mem_of_getElem? (i := 873) (by decide +kernel)⟩
theorem lw_p24 : lw_okq (⟨"OrdinalDeskModel", "product", "(III)V"⟩, 11) := ⟨⟨by decide +kernel, by decide +kernel⟩, List.mem_of_getElem? (i := 763) (by decide +kernel), List.mem_of_getElem? (i := 876) (by decide +kernel), List.mem_of_getElem? (i := 877) (by decide +kernel)⟩
theorem lw_p25 : lw_okq (⟨"OrdinalDeskModel", "power", "(III)V"⟩, 11) := ⟨⟨by decide +kernel, by decide +kernel⟩, List.mem_of_getElem? (i := 763) (by decide +kernel), List.mem_of_getElem? (i := 880) (by decide +kernel), List.mem_of_getElem? (i := 881) (by decide +kernel)⟩
theorem lw_p26 : lw_okq (⟨"OrdinalDeskModel", "sort", "(I)I"⟩, 11) := ⟨⟨by decide +kernel, by decide +kernel⟩, List.mem_of_getElem? (i := 763) (by decide +kernel), List.mem_of_getElem? (i := 884) (by decide +kernel), List.mem_of_getElem? (i := 885) (by decide +kernel)⟩
theorem lw_p27 : lw_okq (⟨"OrdinalDeskModel", "last", "(I)I"⟩, 11) := ⟨⟨by decide +kernel, by decide +kernel⟩, List.mem_of_getElem? (i := 763) (by decide +kernel), List.mem_of_getElem? (i := 888) (by decide +kernel), List.mem_of_getElem? (i := 889) (by decide +kernel)⟩
theorem lw_p28 : lw_okq (⟨"OrdinalDeskModel", "isInfinite", "(I)Z"⟩, 11) := ⟨⟨by decide +kernel, by decide +kernel⟩, List.mem_of_getElem? (i := 763) (by decide +kernel), List.mem_of_getElem? (i := 892) (by decide +kernel), List.mem_of_getElem? (i := 893) (by decide +kernel)⟩
theorem lw_p29 : lw_okq (⟨"OrdinalDeskModel", "lower", "(I)V"⟩, 11) := ⟨⟨by decide +kernel, by decide +kernel⟩, List.mem_of_getElem? (i := 763) (by decide +kernel), List.mem_of_getElem? (i := 896) (by decide +kernel), List.mem_of_getElem? (i := 897) (by decide +kernel)⟩
theorem lw_p30 : lw_okq (⟨"OrdinalDeskModel", "merge", "(III)V"⟩, 11) := ⟨⟨by decide +kernel, by decide +kernel⟩, List.mem_of_getElem? (i := 763) (by decide +kernel), List.mem_of_getElem? (i := 904) (by decide +kernel), List.mem_of_getElem? (i := 905) (by decide +kernel)⟩
theorem lw_p31 : lw_okq (⟨"OrdinalDeskModel", "cross", "(III)V"⟩, 11) := ⟨⟨by decide +kernel, by decide +kernel⟩, List.mem_of_getElem? (i := 763) (by decide +kernel), List.mem_of_getElem? (i := 908) (by decide +kernel), List.mem_of_getElem? (i := 909) (by decide +kernel)⟩
def lw_privs_2 : List (MethodName × Nat) := [(⟨"OrdinalDeskModel", "settle", "(I)I"⟩, 11), (⟨"OrdinalDeskModel", "copy", "(II)V"⟩, 11), (⟨"OrdinalDeskModel", "order", "(II)I"⟩, 11), (⟨"OrdinalDeskModel", "token", "(II)I"⟩, 11), (⟨"OrdinalDeskModel", "sum", "(III)V"⟩, 11), (⟨"OrdinalDeskModel", "behind", "(II)I"⟩, 11), (⟨"OrdinalDeskModel", "exponent", "(IIII)V"⟩, 11), (⟨"OrdinalDeskModel", "coefficient", "(II)I"⟩, 11), (⟨"OrdinalDeskModel", "product", "(III)V"⟩, 11), (⟨"OrdinalDeskModel", "power", "(III)V"⟩, 11), (⟨"OrdinalDeskModel", "sort", "(I)I"⟩, 11), (⟨"OrdinalDeskModel", "last", "(I)I"⟩, 11), (⟨"OrdinalDeskModel", "isInfinite", "(I)Z"⟩, 11), (⟨"OrdinalDeskModel", "lower", "(I)V"⟩, 11), (⟨"OrdinalDeskModel", "merge", "(III)V"⟩, 11), (⟨"OrdinalDeskModel", "cross", "(III)V"⟩, 11)]
theorem lw_r2 : ∀ q ∈ lw_privs_2, lw_okq q := List.forall_mem_cons.mpr ⟨lw_p16, List.forall_mem_cons.mpr ⟨lw_p17, List.forall_mem_cons.mpr ⟨lw_p18, List.forall_mem_cons.mpr ⟨lw_p19, List.forall_mem_cons.mpr ⟨lw_p20, List.forall_mem_cons.mpr ⟨lw_p21, List.forall_mem_cons.mpr ⟨lw_p22, List.forall_mem_cons.mpr ⟨lw_p23, List.forall_mem_cons.mpr ⟨lw_p24, List.forall_mem_cons.mpr ⟨lw_p25, List.forall_mem_cons.mpr ⟨lw_p26, List.forall_mem_cons.mpr ⟨lw_p27, List.forall_mem_cons.mpr ⟨lw_p28, List.forall_mem_cons.mpr ⟨lw_p29, List.forall_mem_cons.mpr ⟨lw_p30, List.forall_mem_cons.mpr ⟨lw_p31, fun _ h => absurd h List.not_mem_nil⟩⟩⟩⟩⟩⟩⟩⟩⟩⟩⟩⟩⟩⟩⟩⟩
theorem lw_p32 : lw_okq (⟨"OrdinalDeskModel", "difference", "(III)V"⟩, 11) := ⟨⟨by decide +kernel, by decide +kernel⟩, List.mem_of_getElem? (i := 763) (by decide +kernel), List.mem_of_getElem? (i := 912) (by decide +kernel), List.mem_of_getElem? (i := 913) (by decide +kernel)⟩
theorem lw_p33 : lw_okq (⟨"OrdinalDeskModel", "divide", "(II)V"⟩, 11) := ⟨⟨by decide +kernel, by decide +kernel⟩, List.mem_of_getElem? (i := 763) (by decide +kernel), List.mem_of_getElem? (i := 916) (by decide +kernel), List.mem_of_getElem? (i := 917) (by decide +kernel)⟩
theorem lw_p34 : lw_okq (⟨"OrdinalDeskModel", "goes", "(III)I"⟩, 11) := ⟨⟨by decide +kernel, by decide +kernel⟩, List.mem_of_getElem? (i := 763) (by decide +kernel), List.mem_of_getElem? (i := 920) (by decide +kernel), List.mem_of_getElem? (i := 921) (by decide +kernel)⟩
theorem lw_p35 : lw_okq (⟨"OrdinalDeskModel", "memberOf", "(III)V"⟩, 11) := ⟨⟨by decide +kernel, by decide +kernel⟩, List.mem_of_getElem? (i := 763) (by decide +kernel), List.mem_of_getElem? (i := 928) (by decide +kernel), List.mem_of_getElem? (i := 929) (by decide +kernel)⟩
theorem lw_p36 : lw_okq (⟨"OrdinalDeskModel", "follow", "(II)I"⟩, 11) := ⟨⟨by decide +kernel, by decide +kernel⟩, List.mem_of_getElem? (i := 763) (by decide +kernel), List.mem_of_getElem? (i := 940) (by decide +kernel), List.mem_of_getElem? (i := 941) (by decide +kernel)⟩
theorem lw_p37 : lw_okq (⟨"OrdinalDeskModel", "thin", "(IIII)V"⟩, 11) := ⟨⟨by decide +kernel, by decide +kernel⟩, List.mem_of_getElem? (i := 763) (by decide +kernel), List.mem_of_getElem? (i := 944) (by decide +kernel), List.mem_of_getElem? (i := 945) (by decide +kernel)⟩
theorem lw_p38 : lw_okq (⟨"OrdinalDeskModel", "based", "(III)V"⟩, 11) := ⟨⟨by decide +kernel, by decide +kernel⟩, List.mem_of_getElem? (i := 763) (by decide +kernel), List.mem_of_getElem? (i := 953) (by decide +kernel), List.mem_of_getElem? (i := 954) (by decide +kernel)⟩
theorem lw_p39 : lw_okq (⟨"OrdinalDeskModel", "apply", "(I)I"⟩, 11) := ⟨⟨by decide +kernel, by decide +kernel⟩, List.mem_of_getElem? (i := 763) (by decide +kernel), List.mem_of_getElem? (i := 986) (by decide +kernel), List.mem_of_getElem? (i := 987) (by decide +kernel)⟩
def lw_privs_3 : List (MethodName × Nat) := [(⟨"OrdinalDeskModel", "difference", "(III)V"⟩, 11), (⟨"OrdinalDeskModel", "divide", "(II)V"⟩, 11), (⟨"OrdinalDeskModel", "goes", "(III)I"⟩, 11), (⟨"OrdinalDeskModel", "memberOf", "(III)V"⟩, 11), (⟨"OrdinalDeskModel", "follow", "(II)I"⟩, 11), (⟨"OrdinalDeskModel", "thin", "(IIII)V"⟩, 11), (⟨"OrdinalDeskModel", "based", "(III)V"⟩, 11), (⟨"OrdinalDeskModel", "apply", "(I)I"⟩, 11)]
theorem lw_r3 : ∀ q ∈ lw_privs_3, lw_okq q := List.forall_mem_cons.mpr ⟨lw_p32, List.forall_mem_cons.mpr ⟨lw_p33, List.forall_mem_cons.mpr ⟨lw_p34, List.forall_mem_cons.mpr ⟨lw_p35, List.forall_mem_cons.mpr ⟨lw_p36, List.forall_mem_cons.mpr ⟨lw_p37, List.forall_mem_cons.mpr ⟨lw_p38, List.forall_mem_cons.mpr ⟨lw_p39, fun _ h => absurd h List.not_mem_nil⟩⟩⟩⟩⟩⟩⟩⟩
def lw_privs : List (MethodName × Nat) := lw_privs_1 ++ (lw_privs_2 ++ (lw_privs_3))
def lw_tbl : List Cond := k2_sels lw_privs ++ tables_1
theorem lw_privs_ok : ∀ q ∈ lw_privs, lw_okq q := by
  show ∀ q ∈ lw_privs_1 ++ (lw_privs_2 ++ (lw_privs_3)), lw_okq q
  exact List.forall_mem_append.mpr ⟨lw_r1, List.forall_mem_append.mpr ⟨lw_r2, lw_r3⟩⟩
end
section
/-! Printed by wip/whole/gen.py: the code of the methods, their links and fields. -/
def od_F0 : u_T := fun k => match k with
  | 0 => ("OrdinalDesk$Row", "cells", "[I", true)
  | _ => ("OrdinalDesk$Row", "length", "I", false)
def od_t0 : Nat → FieldType := fun k => match k with
  | 0 => .array (.int)
  | _ => .int
def od_F1 : u_T := fun k => match k with
  | 0 => ("OrdinalDesk$Arithmetic", "productLead", "LOrdinalDesk$Row;", true)
  | 1 => ("OrdinalDesk$Arithmetic", "productExponent", "LOrdinalDesk$Row;", true)
  | 2 => ("OrdinalDesk$Arithmetic", "productJoined", "LOrdinalDesk$Row;", true)
  | 3 => ("OrdinalDesk$Arithmetic", "powerLimit", "LOrdinalDesk$Row;", true)
  | 4 => ("OrdinalDesk$Arithmetic", "powerExponent", "LOrdinalDesk$Row;", true)
  | 5 => ("OrdinalDesk$Arithmetic", "powerLead", "LOrdinalDesk$Row;", true)
  | 6 => ("OrdinalDesk$Arithmetic", "powerTerm", "LOrdinalDesk$Row;", true)
  | 7 => ("OrdinalDesk$Arithmetic", "naturalLeft", "LOrdinalDesk$Row;", true)
  | 8 => ("OrdinalDesk$Arithmetic", "naturalRight", "LOrdinalDesk$Row;", true)
  | 9 => ("OrdinalDesk$Arithmetic", "naturalJoined", "LOrdinalDesk$Row;", true)
  | 10 => ("OrdinalDesk$Arithmetic", "naturalTerm", "LOrdinalDesk$Row;", true)
  | 11 => ("OrdinalDesk$Arithmetic", "thisTotal", "LOrdinalDesk$Row;", true)
  | _ => ("OrdinalDesk$Arithmetic", "nextTotal", "LOrdinalDesk$Row;", true)
def od_t1 : Nat → FieldType := fun k => match k with
  | 0 => .object "OrdinalDesk$Row"
  | 1 => .object "OrdinalDesk$Row"
  | 2 => .object "OrdinalDesk$Row"
  | 3 => .object "OrdinalDesk$Row"
  | 4 => .object "OrdinalDesk$Row"
  | 5 => .object "OrdinalDesk$Row"
  | 6 => .object "OrdinalDesk$Row"
  | 7 => .object "OrdinalDesk$Row"
  | 8 => .object "OrdinalDesk$Row"
  | 9 => .object "OrdinalDesk$Row"
  | 10 => .object "OrdinalDesk$Row"
  | 11 => .object "OrdinalDesk$Row"
  | _ => .object "OrdinalDesk$Row"
def od_F2 : u_T := fun k => match k with
  | 0 => ("OrdinalDesk$Division", "lead", "LOrdinalDesk$Row;", true)
  | 1 => ("OrdinalDesk$Division", "exponent", "LOrdinalDesk$Row;", true)
  | 2 => ("OrdinalDesk$Division", "gap", "LOrdinalDesk$Row;", true)
  | 3 => ("OrdinalDesk$Division", "rest", "LOrdinalDesk$Row;", true)
  | _ => ("OrdinalDesk$Division", "multiple", "LOrdinalDesk$Row;", true)
def od_t2 : Nat → FieldType := fun k => match k with
  | 0 => .object "OrdinalDesk$Row"
  | 1 => .object "OrdinalDesk$Row"
  | 2 => .object "OrdinalDesk$Row"
  | 3 => .object "OrdinalDesk$Row"
  | _ => .object "OrdinalDesk$Row"
def od_F3 : u_T := fun k => match k with
  | 0 => ("OrdinalDesk$Descent", "thisLimit", "LOrdinalDesk$Row;", true)
  | _ => ("OrdinalDesk$Descent", "nextLimit", "LOrdinalDesk$Row;", true)
def od_t3 : Nat → FieldType := fun k => match k with
  | 0 => .object "OrdinalDesk$Row"
  | _ => .object "OrdinalDesk$Row"
def od_F4 : u_T := fun k => match k with
  | 0 => ("OrdinalDesk$Hydra", "starts", "[I", true)
  | 1 => ("OrdinalDesk$Hydra", "ends", "[I", true)
  | 2 => ("OrdinalDesk$Hydra", "headLevel", "I", false)
  | 3 => ("OrdinalDesk$Hydra", "thinned", "LOrdinalDesk$Row;", true)
  | _ => ("OrdinalDesk$Hydra", "neck", "LOrdinalDesk$Row;", true)
def od_t4 : Nat → FieldType := fun k => match k with
  | 0 => .array (.int)
  | 1 => .array (.int)
  | 2 => .int
  | 3 => .object "OrdinalDesk$Row"
  | _ => .object "OrdinalDesk$Row"
def od_F5 : u_T := fun k => match k with
  | 0 => ("OrdinalDesk$Pile", "rows", "[LOrdinalDesk$Row;", true)
  | 1 => ("OrdinalDesk$Pile", "times", "[I", true)
  | 2 => ("OrdinalDesk$Pile", "height", "I", false)
  | 3 => ("OrdinalDesk$Pile", "number", "I", false)
  | _ => ("OrdinalDesk$Pile", "made", "LOrdinalDesk$Row;", true)
def od_t5 : Nat → FieldType := fun k => match k with
  | 0 => .array (.object "OrdinalDesk$Row")
  | 1 => .array (.int)
  | 2 => .int
  | 3 => .int
  | _ => .object "OrdinalDesk$Row"
def od_F6 : u_T := fun k => match k with
  | _ => ("OrdinalDesk$Numbers", "sums", "[J", true)
def od_t6 : Nat → FieldType := fun k => match k with
  | _ => .array (.long)
def od_F7 : u_T := fun k => match k with
  | 0 => ("OrdinalDesk", "slots", "[LOrdinalDesk$Row;", true)
  | 1 => ("OrdinalDesk", "records", "[LOrdinalDesk$Row;", true)
  | 2 => ("OrdinalDesk", "recorded", "I", false)
  | 3 => ("OrdinalDesk", "result", "LOrdinalDesk$Row;", true)
  | 4 => ("OrdinalDesk", "spare", "LOrdinalDesk$Row;", true)
  | 5 => ("OrdinalDesk", "arithmetic", "LOrdinalDesk$Arithmetic;", true)
  | 6 => ("OrdinalDesk", "division", "LOrdinalDesk$Division;", true)
  | 7 => ("OrdinalDesk", "descent", "LOrdinalDesk$Descent;", true)
  | 8 => ("OrdinalDesk", "hydra", "LOrdinalDesk$Hydra;", true)
  | 9 => ("OrdinalDesk", "pile", "LOrdinalDesk$Pile;", true)
  | _ => ("OrdinalDesk", "numbers", "LOrdinalDesk$Numbers;", true)
def od_t7 : Nat → FieldType := fun k => match k with
  | 0 => .array (.object "OrdinalDesk$Row")
  | 1 => .array (.object "OrdinalDesk$Row")
  | 2 => .int
  | 3 => .object "OrdinalDesk$Row"
  | 4 => .object "OrdinalDesk$Row"
  | 5 => .object "OrdinalDesk$Arithmetic"
  | 6 => .object "OrdinalDesk$Division"
  | 7 => .object "OrdinalDesk$Descent"
  | 8 => .object "OrdinalDesk$Hydra"
  | 9 => .object "OrdinalDesk$Pile"
  | _ => .object "OrdinalDesk$Numbers"
def od_F8 : u_T := fun k => match k with
  | 0 => ("OrdinalDeskModel", "code", "I", false)
  | 1 => ("OrdinalDeskModel", "row", "[I", true)
  | 2 => ("OrdinalDeskModel", "length", "[I", true)
  | 3 => ("OrdinalDeskModel", "full", "Z", false)
  | 4 => ("OrdinalDeskModel", "records", "I", false)
  | 5 => ("OrdinalDeskModel", "pile", "I", false)
  | 6 => ("OrdinalDeskModel", "times", "[I", true)
  | 7 => ("OrdinalDeskModel", "begins", "[I", true)
  | 8 => ("OrdinalDeskModel", "starts", "[I", true)
  | 9 => ("OrdinalDeskModel", "ends", "[I", true)
  | _ => ("OrdinalDeskModel", "sums", "[J", true)
def od_t8 : Nat → FieldType := fun k => match k with
  | 0 => .int
  | 1 => .array (.int)
  | 2 => .array (.int)
  | 3 => .boolean
  | 4 => .int
  | 5 => .int
  | 6 => .array (.int)
  | 7 => .array (.int)
  | 8 => .array (.int)
  | 9 => .array (.int)
  | _ => .array (.long)
def od_FX : u_T := fun _ => ("", "", "", false)
def od_cls : List vw_C := [("OrdinalDesk$Row", od_F0, 2), ("OrdinalDesk$Arithmetic", od_F1, 13), ("OrdinalDesk$Division", od_F2, 5), ("OrdinalDesk$Descent", od_F3, 2), ("OrdinalDesk$Hydra", od_F4, 5), ("OrdinalDesk$Pile", od_F5, 5), ("OrdinalDesk$Numbers", od_F6, 1), ("OrdinalDesk", od_F7, 11), ("OrdinalDeskModel", od_F8, 11), ("java/lang/IndexOutOfBoundsException", od_FX, 0), ("java/lang/IllegalArgumentException", od_FX, 0), ("java/lang/IllegalStateException", od_FX, 0)]
def od_rn : String := "OrdinalDesk$Row"
def od_row : Nat := 0
def od_xc (x : Nat) : Nat := 9 + x
def od_cns : List String := ["OrdinalDesk$Row", "OrdinalDesk$Arithmetic", "OrdinalDesk$Division", "OrdinalDesk$Descent", "OrdinalDesk$Hydra", "OrdinalDesk$Pile", "OrdinalDesk$Numbers", "OrdinalDesk", "OrdinalDeskModel", "OrdinalDeskLaw", "java/lang/Math", "java/lang/Integer"]
def od_cn (own : Nat) : String := (od_cns[own]?).getD ""
/-- OrdinalDesk$Row.<init>()V -/
def oc_0 : List (Option (ClassFile.Instr × Nat)) := [some (.aload_n 0, 1), some (.invokespecial 3, 3), none, none, some (.aload_n 0, 1), some (.bipush 60, 2), none, some (.newarray .int, 2), none, some (.putfield 9, 3), none, none, some (.aload_n 0, 1), some (.iconst 0, 1), some (.putfield 15, 3), none, none, some (.return_, 1)]
/-- OrdinalDesk$Row.isZero()Z -/
def oc_1 : List (Option (ClassFile.Instr × Nat)) := [some (.aload_n 0, 1), some (.getfield 15, 3), none, none, some (.ifCond .ne 7, 3), none, none, some (.iconst 1, 1), some (.goto 4, 3), none, none, some (.iconst 0, 1), some (.ireturn, 1)]
/-- OrdinalDesk$Row.isFinite()Z -/
def oc_2 : List (Option (ClassFile.Instr × Nat)) := [some (.aload_n 0, 1), some (.getfield 15, 3), none, none, some (.iconst 3, 1), some (.if_icmp .gt 7, 3), none, none, some (.iconst 1, 1), some (.goto 4, 3), none, none, some (.iconst 0, 1), some (.ireturn, 1)]
/-- OrdinalDesk$Row.isOne()Z -/
def oc_3 : List (Option (ClassFile.Instr × Nat)) := [some (.aload_n 0, 1), some (.getfield 15, 3), none, none, some (.iconst 3, 1), some (.if_icmp .ne 17, 3), none, none, some (.aload_n 0, 1), some (.getfield 9, 3), none, none, some (.iconst 2, 1), some (.iaload, 1), some (.iconst 1, 1), some (.if_icmp .ne 7, 3), none, none, some (.iconst 1, 1), some (.goto 4, 3), none, none, some (.iconst 0, 1), some (.ireturn, 1)]
/-- OrdinalDesk$Row.termsInAll()I -/
def oc_4 : List (Option (ClassFile.Instr × Nat)) := [some (.aload_n 0, 1), some (.getfield 15, 3), none, none, some (.iconst 3, 1), some (.idiv, 1), some (.ireturn, 1)]
/-- OrdinalDesk$Row.sort()I -/
def oc_5 : List (Option (ClassFile.Instr × Nat)) := [some (.aload_n 0, 1), some (.getfield 15, 3), none, none, some (.ifCond .ne 5, 3), none, none, some (.iconst 0, 1), some (.ireturn, 1), some (.aload_n 0, 1), some (.iconst 0, 1), some (.aload_n 0, 1), some (.getfield 15, 3), none, none, some (.invokevirtual 19, 3), none, none, some (.ifCond .eq 7, 3), none, none, some (.iconst 1, 1), some (.goto 4, 3), none, none, some (.iconst 2, 1), some (.ireturn, 1)]
/-- OrdinalDesk$Row.endsInNumber(II)Z -/
def oc_6 : List (Option (ClassFile.Instr × Nat)) := [some (.iload_n 1, 1), some (.iload_n 2, 1), some (.if_icmp .ge 19, 3), none, none, some (.aload_n 0, 1), some (.iload_n 1, 1), some (.iload_n 2, 1), some (.invokevirtual 23, 3), none, none, some (.iload_n 2, 1), some (.iconst 3, 1), some (.isub, 1), some (.if_icmp .ne 7, 3), none, none, some (.iconst 1, 1), some (.goto 4, 3), none, none, some (.iconst 0, 1), some (.ireturn, 1)]
/-- OrdinalDesk$Row.finitePart()I -/
def oc_7 : List (Option (ClassFile.Instr × Nat)) := [some (.aload_n 0, 1), some (.iconst 0, 1), some (.aload_n 0, 1), some (.getfield 15, 3), none, none, some (.invokevirtual 19, 3), none, none, some (.ifCond .eq 14, 3), none, none, some (.aload_n 0, 1), some (.aload_n 0, 1), some (.getfield 15, 3), none, none, some (.invokevirtual 27, 3), none, none, some (.goto 4, 3), none, none, some (.iconst 0, 1), some (.ireturn, 1)]
/-- OrdinalDesk$Row.coefficient(I)I -/
def oc_8 : List (Option (ClassFile.Instr × Nat)) := [some (.iload_n 1, 1), some (.iconst 1, 1), some (.if_icmp .lt 11, 3), none, none, some (.iload_n 1, 1), some (.aload_n 0, 1), some (.getfield 15, 3), none, none, some (.if_icmp .le 7, 3), none, none, some (.iconst 0, 1), some (.goto 11, 3), none, none, some (.aload_n 0, 1), some (.getfield 9, 3), none, none, some (.iload_n 1, 1), some (.iconst 1, 1), some (.isub, 1), some (.iaload, 1), some (.ireturn, 1)]
/-- OrdinalDesk$Row.termEnd(I)I -/
def oc_9 : List (Option (ClassFile.Instr × Nat)) := [some (.iconst 0, 1), some (.istore_n 2, 1), some (.iload_n 1, 1), some (.istore_n 3, 1), some (.iload_n 3, 1), some (.aload_n 0, 1), some (.getfield 15, 3), none, none, some (.if_icmp .ge 34, 3), none, none, some (.aload_n 0, 1), some (.getfield 9, 3), none, none, some (.iload_n 3, 1), some (.iaload, 1), some (.iconst 1, 1), some (.if_icmp .ne 12, 3), none, none, some (.iinc 2 1, 3), none, none, some (.iinc 3 1, 3), none, none, some (.goto (-24), 3), none, none, some (.iinc 2 (-1), 3), none, none, some (.iinc 3 2, 3), none, none, some (.iload_n 2, 1), some (.ifCond .gt (-34), 3), none, none, some (.iload_n 3, 1), some (.ireturn, 1), some (.aload_n 0, 1), some (.getfield 15, 3), none, none, some (.ireturn, 1)]
/-- OrdinalDesk$Row.lastTerm(II)I -/
def oc_10 : List (Option (ClassFile.Instr × Nat)) := [some (.iload_n 1, 1), some (.istore_n 3, 1), some (.iconst 0, 1), some (.istore 4, 2), none, some (.iload_n 1, 1), some (.istore 5, 2), none, some (.iload 5, 2), none, some (.iload_n 2, 1), some (.if_icmp .ge 40, 3), none, none, some (.aload_n 0, 1), some (.getfield 9, 3), none, none, some (.iload 5, 2), none, some (.iaload, 1), some (.iconst 1, 1), some (.if_icmp .ne 20, 3), none, none, some (.iload 4, 2), none, some (.ifCond .ne 6, 3), none, none, some (.iload 5, 2), none, some (.istore_n 3, 1), some (.iinc 4 1, 3), none, none, some (.iinc 5 1, 3), none, none, some (.goto (-31), 3), none, none, some (.iinc 4 (-1), 3), none, none, some (.iinc 5 2, 3), none, none, some (.goto (-40), 3), none, none, some (.iload_n 3, 1), some (.ireturn, 1)]
/-- OrdinalDesk$Row.termNumber(III)I -/
def oc_11 : List (Option (ClassFile.Instr × Nat)) := [some (.iload_n 2, 1), some (.istore 4, 2), none, some (.iconst 0, 1), some (.istore 5, 2), none, some (.iload 5, 2), none, some (.iload_n 1, 1), some (.if_icmp .ge 23, 3), none, none, some (.iload 4, 2), none, some (.iload_n 3, 1), some (.if_icmp .ge 17, 3), none, none, some (.aload_n 0, 1), some (.iload 4, 2), none, some (.invokevirtual 31, 3), none, none, some (.istore 4, 2), none, some (.iinc 5 1, 3), none, none, some (.goto (-23), 3), none, none, some (.iload 4, 2), none, some (.iload_n 3, 1), some (.if_icmp .ge 8, 3), none, none, some (.iload 4, 2), none, some (.goto 4, 3), none, none, some (.iconst (-1), 1), some (.ireturn, 1)]
/-- OrdinalDesk$Row.clear()V -/
def oc_12 : List (Option (ClassFile.Instr × Nat)) := [some (.aload_n 0, 1), some (.iconst 0, 1), some (.putfield 15, 3), none, none, some (.return_, 1)]
/-- OrdinalDesk$Row.become(LOrdinalDesk$Row;)V -/
def oc_13 : List (Option (ClassFile.Instr × Nat)) := [some (.aload_n 0, 1), some (.aload_n 1, 1), some (.iconst 0, 1), some (.aload_n 1, 1), some (.getfield 15, 3), none, none, some (.invokevirtual 34, 3), none, none, some (.return_, 1)]
/-- OrdinalDesk$Row.becomePart(LOrdinalDesk$Row;II)V -/
def oc_14 : List (Option (ClassFile.Instr × Nat)) := [some (.aload_n 0, 1), some (.iconst 0, 1), some (.putfield 15, 3), none, none, some (.aload_n 0, 1), some (.aload_n 1, 1), some (.iload_n 2, 1), some (.iload_n 3, 1), some (.invokevirtual 38, 3), none, none, some (.return_, 1)]
/-- OrdinalDesk$Row.becomeExponent(LOrdinalDesk$Row;II)V -/
def oc_15 : List (Option (ClassFile.Instr × Nat)) := [some (.aload_n 0, 1), some (.aload_n 1, 1), some (.iload_n 2, 1), some (.iconst 1, 1), some (.iadd, 1), some (.iload_n 3, 1), some (.iconst 2, 1), some (.isub, 1), some (.invokevirtual 34, 3), none, none, some (.return_, 1)]
/-- OrdinalDesk$Row.becomeNumber(I)V -/
def oc_16 : List (Option (ClassFile.Instr × Nat)) := [some (.aload_n 0, 1), some (.iconst 0, 1), some (.putfield 15, 3), none, none, some (.aload_n 0, 1), some (.iload_n 1, 1), some (.i2l, 1), some (.invokevirtual 41, 3), none, none, some (.return_, 1)]
/-- OrdinalDesk$Row.becomeTerm(LOrdinalDesk$Row;J)V -/
def oc_17 : List (Option (ClassFile.Instr × Nat)) := [some (.aload_n 0, 1), some (.iconst 0, 1), some (.putfield 15, 3), none, none, some (.aload_n 0, 1), some (.aload_n 1, 1), some (.lload_n 2, 1), some (.invokevirtual 45, 3), none, none, some (.return_, 1)]
/-- OrdinalDesk$Row.putPart(LOrdinalDesk$Row;II)V -/
def oc_18 : List (Option (ClassFile.Instr × Nat)) := [some (.iload_n 2, 1), some (.ifCond .lt 16, 3), none, none, some (.iload_n 2, 1), some (.iload_n 3, 1), some (.if_icmp .ge 11, 3), none, none, some (.iload_n 3, 1), some (.aload_n 1, 1), some (.getfield 15, 3), none, none, some (.if_icmp .le 4, 3), none, none, some (.return_, 1), some (.aload_n 0, 1), some (.getfield 15, 3), none, none, some (.iload_n 3, 1), some (.iadd, 1), some (.iload_n 2, 1), some (.isub, 1), some (.bipush 60, 2), none, some (.if_icmp .le 13, 3), none, none, some (.new 49, 3), none, none, some (.dup, 1), some (.ldc 51, 2), none, some (.invokespecial 53, 3), none, none, some (.athrow, 1), some (.aload_n 1, 1), some (.getfield 9, 3), none, none, some (.iload_n 2, 1), some (.aload_n 0, 1), some (.getfield 9, 3), none, none, some (.aload_n 0, 1), some (.getfield 15, 3), none, none, some (.iload_n 3, 1), some (.iload_n 2, 1), some (.isub, 1), some (.invokestatic 56, 3), none, none, some (.aload_n 0, 1), some (.dup, 1), some (.getfield 15, 3), none, none, some (.iload_n 3, 1), some (.iload_n 2, 1), some (.isub, 1), some (.iadd, 1), some (.putfield 15, 3), none, none, some (.return_, 1)]
/-- OrdinalDesk$Row.putCell(I)V -/
def oc_19 : List (Option (ClassFile.Instr × Nat)) := [some (.aload_n 0, 1), some (.getfield 15, 3), none, none, some (.bipush 60, 2), none, some (.if_icmp .lt 13, 3), none, none, some (.new 49, 3), none, none, some (.dup, 1), some (.ldc 51, 2), none, some (.invokespecial 53, 3), none, none, some (.athrow, 1), some (.aload_n 0, 1), some (.getfield 9, 3), none, none, some (.aload_n 0, 1), some (.getfield 15, 3), none, none, some (.iload_n 1, 1), some (.iastore, 1), some (.aload_n 0, 1), some (.dup, 1), some (.getfield 15, 3), none, none, some (.iconst 1, 1), some (.iadd, 1), some (.putfield 15, 3), none, none, some (.return_, 1)]
/-- OrdinalDesk$Row.openTerm()V -/
def oc_20 : List (Option (ClassFile.Instr × Nat)) := [some (.aload_n 0, 1), some (.iconst 1, 1), some (.invokevirtual 62, 3), none, none, some (.return_, 1)]
/-- OrdinalDesk$Row.closeTerm(J)V -/
def oc_21 : List (Option (ClassFile.Instr × Nat)) := [some (.aload_n 0, 1), some (.iconst 0, 1), some (.invokevirtual 62, 3), none, none, some (.aload_n 0, 1), some (.lload_n 1, 1), some (.invokevirtual 66, 3), none, none, some (.return_, 1)]
/-- OrdinalDesk$Row.putCoefficient(J)V -/
def oc_22 : List (Option (ClassFile.Instr × Nat)) := [some (.lload_n 1, 1), some (.ldc2_w 69, 3), none, none, some (.lcmp, 1), some (.ifCond .le 13, 3), none, none, some (.new 49, 3), none, none, some (.dup, 1), some (.ldc 71, 2), none, some (.invokespecial 53, 3), none, none, some (.athrow, 1), some (.aload_n 0, 1), some (.lload_n 1, 1), some (.l2i, 1), some (.invokevirtual 62, 3), none, none, some (.return_, 1)]
/-- OrdinalDesk$Row.putTerm(LOrdinalDesk$Row;J)V -/
def oc_23 : List (Option (ClassFile.Instr × Nat)) := [some (.aload_n 0, 1), some (.invokevirtual 73, 3), none, none, some (.aload_n 0, 1), some (.aload_n 1, 1), some (.iconst 0, 1), some (.aload_n 1, 1), some (.getfield 15, 3), none, none, some (.invokevirtual 38, 3), none, none, some (.aload_n 0, 1), some (.lload_n 2, 1), some (.invokevirtual 76, 3), none, none, some (.return_, 1)]
/-- OrdinalDesk$Row.putNumber(J)V -/
def oc_24 : List (Option (ClassFile.Instr × Nat)) := [some (.lload_n 1, 1), some (.lconst 0, 1), some (.lcmp, 1), some (.ifCond .le 12, 3), none, none, some (.aload_n 0, 1), some (.invokevirtual 73, 3), none, none, some (.aload_n 0, 1), some (.lload_n 1, 1), some (.invokevirtual 76, 3), none, none, some (.return_, 1)]
/-- OrdinalDesk$Row.putTermAgain(LOrdinalDesk$Row;IIJ)V -/
def oc_25 : List (Option (ClassFile.Instr × Nat)) := [some (.lload 4, 2), none, some (.lconst 0, 1), some (.lcmp, 1), some (.ifCond .le 18, 3), none, none, some (.aload_n 0, 1), some (.aload_n 1, 1), some (.iload_n 2, 1), some (.iload_n 3, 1), some (.iconst 1, 1), some (.isub, 1), some (.invokevirtual 38, 3), none, none, some (.aload_n 0, 1), some (.lload 4, 2), none, some (.invokevirtual 66, 3), none, none, some (.return_, 1)]
/-- OrdinalDesk$Row.order(LOrdinalDesk$Row;LOrdinalDesk$Row;)I -/
def oc_26 : List (Option (ClassFile.Instr × Nat)) := [some (.aload_n 0, 1), some (.iconst 0, 1), some (.aload_n 0, 1), some (.getfield 15, 3), none, none, some (.aload_n 1, 1), some (.iconst 0, 1), some (.aload_n 1, 1), some (.getfield 15, 3), none, none, some (.invokestatic 79, 3), none, none, some (.ireturn, 1)]
/-- OrdinalDesk$Row.orderOfExponents(LOrdinalDesk$Row;IILOrdinalDesk$Row;II)I -/
def oc_27 : List (Option (ClassFile.Instr × Nat)) := [some (.aload_n 0, 1), some (.iload_n 1, 1), some (.iconst 1, 1), some (.iadd, 1), some (.iload_n 2, 1), some (.iconst 2, 1), some (.isub, 1), some (.aload_n 3, 1), some (.iload 4, 2), none, some (.iconst 1, 1), some (.iadd, 1), some (.iload 5, 2), none, some (.iconst 2, 1), some (.isub, 1), some (.invokestatic 79, 3), none, none, some (.ireturn, 1)]
/-- OrdinalDesk$Row.orderOfParts(LOrdinalDesk$Row;IILOrdinalDesk$Row;II)I -/
def oc_28 : List (Option (ClassFile.Instr × Nat)) := [some (.iload_n 2, 1), some (.iload_n 1, 1), some (.isub, 1), some (.iload 5, 2), none, some (.iload 4, 2), none, some (.isub, 1), some (.invokestatic 83, 3), none, none, some (.istore 6, 2), none, some (.iconst 0, 1), some (.istore 7, 2), none, some (.iload 7, 2), none, some (.iload 6, 2), none, some (.if_icmp .ge 41, 3), none, none, some (.aload_n 0, 1), some (.getfield 9, 3), none, none, some (.iload_n 1, 1), some (.iload 7, 2), none, some (.iadd, 1), some (.iaload, 1), some (.aload_n 3, 1), some (.getfield 9, 3), none, none, some (.iload 4, 2), none, some (.iload 7, 2), none, some (.iadd, 1), some (.iaload, 1), some (.invokestatic 88, 3), none, none, some (.istore 8, 2), none, some (.iload 8, 2), none, some (.ifCond .eq 6, 3), none, none, some (.iload 8, 2), none, some (.ireturn, 1), some (.iinc 7 1, 3), none, none, some (.goto (-42), 3), none, none, some (.iload_n 2, 1), some (.iload_n 1, 1), some (.isub, 1), some (.iload 5, 2), none, some (.iload 4, 2), none, some (.isub, 1), some (.invokestatic 88, 3), none, none, some (.ireturn, 1)]
/-- OrdinalDesk$Arithmetic.<init>()V -/
def oc_29 : List (Option (ClassFile.Instr × Nat)) := [some (.aload_n 0, 1), some (.invokespecial 3, 3), none, none, some (.aload_n 0, 1), some (.new 9, 3), none, none, some (.dup, 1), some (.invokespecial 11, 3), none, none, some (.putfield 12, 3), none, none, some (.aload_n 0, 1), some (.new 9, 3), none, none, some (.dup, 1), some (.invokespecial 11, 3), none, none, some (.putfield 18, 3), none, none, some (.aload_n 0, 1), some (.new 9, 3), none, none, some (.dup, 1), some (.invokespecial 11, 3), none, none, some (.putfield 21, 3), none, none, some (.aload_n 0, 1), some (.new 9, 3), none, none, some (.dup, 1), some (.invokespecial 11, 3), none, none, some (.putfield 24, 3), none, none, some (.aload_n 0, 1), some (.new 9, 3), none, none, some (.dup, 1), some (.invokespecial 11, 3), none, none, some (.putfield 27, 3), none, none, some (.aload_n 0, 1), some (.new 9, 3), none, none, some (.dup, 1), some (.invokespecial 11, 3), none, none, some (.putfield 30, 3), none, none, some (.aload_n 0, 1), some (.new 9, 3), none, none, some (.dup, 1), some (.invokespecial 11, 3), none, none, some (.putfield 33, 3), none, none, some (.aload_n 0, 1), some (.new 9, 3), none, none, some (.dup, 1), some (.invokespecial 11, 3), none, none, some (.putfield 36, 3), none, none, some (.aload_n 0, 1), some (.new 9, 3), none, none, some (.dup, 1), some (.invokespecial 11, 3), none, none, some (.putfield 39, 3), none, none, some (.aload_n 0, 1), some (.new 9, 3), none, none, some (.dup, 1), some (.invokespecial 11, 3), none, none, some (.putfield 42, 3), none, none, some (.aload_n 0, 1), some (.new 9, 3), none, none, some (.dup, 1), some (.invokespecial 11, 3), none, none, some (.putfield 45, 3), none, none, some (.aload_n 0, 1), some (.new 9, 3), none, none, some (.dup, 1), some (.invokespecial 11, 3), none, none, some (.putfield 48, 3), none, none, some (.aload_n 0, 1), some (.new 9, 3), none, none, some (.dup, 1), some (.invokespecial 11, 3), none, none, some (.putfield 51, 3), none, none, some (.return_, 1)]
/-- OrdinalDesk$Arithmetic.makeSum(LOrdinalDesk$Row;LOrdinalDesk$Row;LOrdinalDesk$Row;)V -/
def oc_30 : List (Option (ClassFile.Instr × Nat)) := [some (.aload_n 1, 1), some (.invokevirtual 54, 3), none, none, some (.ifCond .eq 9, 3), none, none, some (.aload_n 2, 1), some (.aload_n 0, 1), some (.invokevirtual 58, 3), none, none, some (.return_, 1), some (.aload_n 1, 1), some (.iconst 0, 1), some (.invokevirtual 62, 3), none, none, some (.istore_n 3, 1), some (.aload_n 1, 1), some (.iload_n 3, 1), some (.invokevirtual 66, 3), none, none, some (.i2l, 1), some (.lstore 4, 2), none, some (.iconst 0, 1), some (.istore 6, 2), none, some (.iconst 0, 1), some (.istore 7, 2), none, some (.iload 7, 2), none, some (.bipush 20, 2), none, some (.if_icmp .ge 68, 3), none, none, some (.iload 6, 2), none, some (.aload_n 0, 1), some (.getfield 69, 3), none, none, some (.if_icmp .ge 59, 3), none, none, some (.aload_n 0, 1), some (.iload 6, 2), none, some (.invokevirtual 62, 3), none, none, some (.istore 8, 2), none, some (.aload_n 0, 1), some (.iload 6, 2), none, some (.iload 8, 2), none, some (.aload_n 1, 1), some (.iconst 0, 1), some (.iload_n 3, 1), some (.invokestatic 73, 3), none, none, some (.istore 9, 2), none, some (.iload 9, 2), none, some (.ifCond .ne 15, 3), none, none, some (.lload 4, 2), none, some (.aload_n 0, 1), some (.iload 8, 2), none, some (.invokevirtual 66, 3), none, none, some (.i2l, 1), some (.ladd, 1), some (.lstore 4, 2), none, some (.iload 9, 2), none, some (.ifCond .gt 6, 3), none, none, some (.goto 13, 3), none, none, some (.iload 8, 2), none, some (.istore 6, 2), none, some (.iinc 7 1, 3), none, none, some (.goto (-69), 3), none, none, some (.aload_n 2, 1), some (.aload_n 0, 1), some (.iconst 0, 1), some (.iload 6, 2), none, some (.invokevirtual 77, 3), none, none, some (.aload_n 2, 1), some (.aload_n 1, 1), some (.iconst 0, 1), some (.iload_n 3, 1), some (.lload 4, 2), none, some (.invokevirtual 81, 3), none, none, some (.aload_n 2, 1), some (.aload_n 1, 1), some (.iload_n 3, 1), some (.aload_n 1, 1), some (.getfield 69, 3), none, none, some (.invokevirtual 85, 3), none, none, some (.return_, 1)]
/-- OrdinalDesk$Arithmetic.makeProduct(LOrdinalDesk$Row;LOrdinalDesk$Row;LOrdinalDesk$Row;)V -/
def oc_31 : List (Option (ClassFile.Instr × Nat)) := [some (.aload_n 3, 1), some (.invokevirtual 88, 3), none, none, some (.aload_n 1, 1), some (.invokevirtual 54, 3), none, none, some (.ifCond .eq 4, 3), none, none, some (.return_, 1), some (.aload_n 1, 1), some (.iconst 0, 1), some (.invokevirtual 62, 3), none, none, some (.istore 4, 2), none, some (.aload_n 0, 1), some (.getfield 12, 3), none, none, some (.aload_n 1, 1), some (.iconst 0, 1), some (.iload 4, 2), none, some (.invokevirtual 91, 3), none, none, some (.iconst 0, 1), some (.istore 5, 2), none, some (.iconst 0, 1), some (.istore 6, 2), none, some (.iload 6, 2), none, some (.bipush 20, 2), none, some (.if_icmp .ge 119, 3), none, none, some (.iload 5, 2), none, some (.aload_n 2, 1), some (.getfield 69, 3), none, none, some (.if_icmp .ge 110, 3), none, none, some (.aload_n 2, 1), some (.iload 5, 2), none, some (.invokevirtual 62, 3), none, none, some (.istore 7, 2), none, some (.aload_n 0, 1), some (.getfield 18, 3), none, none, some (.aload_n 2, 1), some (.iload 5, 2), none, some (.iload 7, 2), none, some (.invokevirtual 91, 3), none, none, some (.aload_n 0, 1), some (.getfield 18, 3), none, none, some (.invokevirtual 54, 3), none, none, some (.ifCond .eq 40, 3), none, none, some (.aload_n 3, 1), some (.aload_n 0, 1), some (.getfield 12, 3), none, none, some (.aload_n 1, 1), some (.iload 4, 2), none, some (.invokevirtual 66, 3), none, none, some (.i2l, 1), some (.aload_n 2, 1), some (.iload 7, 2), none, some (.invokevirtual 66, 3), none, none, some (.i2l, 1), some (.lmul, 1), some (.invokevirtual 94, 3), none, none, some (.aload_n 3, 1), some (.aload_n 1, 1), some (.iload 4, 2), none, some (.aload_n 1, 1), some (.getfield 69, 3), none, none, some (.invokevirtual 85, 3), none, none, some (.goto 33, 3), none, none, some (.aload_n 0, 1), some (.getfield 12, 3), none, none, some (.aload_n 0, 1), some (.getfield 18, 3), none, none, some (.aload_n 0, 1), some (.getfield 21, 3), none, none, some (.invokestatic 98, 3), none, none, some (.aload_n 3, 1), some (.aload_n 0, 1), some (.getfield 21, 3), none, none, some (.aload_n 2, 1), some (.iload 7, 2), none, some (.invokevirtual 66, 3), none, none, some (.i2l, 1), some (.invokevirtual 94, 3), none, none, some (.iload 7, 2), none, some (.istore 5, 2), none, some (.iinc 6 1, 3), none, none, some (.goto (-120), 3), none, none, some (.return_, 1)]
/-- OrdinalDesk$Arithmetic.makePower(LOrdinalDesk$Row;LOrdinalDesk$Row;LOrdinalDesk$Row;)V -/
def oc_32 : List (Option (ClassFile.Instr × Nat)) := [some (.aload_n 2, 1), some (.invokevirtual 54, 3), none, none, some (.ifCond .ne 10, 3), none, none, some (.aload_n 1, 1), some (.invokevirtual 102, 3), none, none, some (.ifCond .eq 9, 3), none, none, some (.aload_n 3, 1), some (.iconst 1, 1), some (.invokevirtual 105, 3), none, none, some (.return_, 1), some (.aload_n 1, 1), some (.invokevirtual 54, 3), none, none, some (.ifCond .eq 8, 3), none, none, some (.aload_n 3, 1), some (.invokevirtual 88, 3), none, none, some (.return_, 1), some (.aload_n 2, 1), some (.invokevirtual 109, 3), none, none, some (.istore 4, 2), none, some (.aload_n 0, 1), some (.getfield 24, 3), none, none, some (.aload_n 2, 1), some (.iconst 0, 1), some (.iload 4, 2), none, some (.ifCond .ne 10, 3), none, none, some (.aload_n 2, 1), some (.getfield 69, 3), none, none, some (.goto 9, 3), none, none, some (.aload_n 2, 1), some (.getfield 69, 3), none, none, some (.iconst 3, 1), some (.isub, 1), some (.invokevirtual 77, 3), none, none, some (.aload_n 1, 1), some (.invokevirtual 113, 3), none, none, some (.ifCond .eq 17, 3), none, none, some (.aload_n 0, 1), some (.aload_n 1, 1), some (.invokevirtual 109, 3), none, none, some (.iload 4, 2), none, some (.aload_n 3, 1), some (.invokevirtual 116, 3), none, none, some (.goto 11, 3), none, none, some (.aload_n 0, 1), some (.aload_n 1, 1), some (.iload 4, 2), none, some (.aload_n 3, 1), some (.invokevirtual 120, 3), none, none, some (.return_, 1)]
/-- OrdinalDesk$Arithmetic.makePowerOfNumber(IILOrdinalDesk$Row;)V -/
def oc_33 : List (Option (ClassFile.Instr × Nat)) := [some (.aload_n 0, 1), some (.getfield 33, 3), none, none, some (.invokevirtual 88, 3), none, none, some (.iconst 0, 1), some (.istore 4, 2), none, some (.iconst 0, 1), some (.istore 5, 2), none, some (.iload 5, 2), none, some (.bipush 20, 2), none, some (.if_icmp .ge 98, 3), none, none, some (.iload 4, 2), none, some (.aload_n 0, 1), some (.getfield 24, 3), none, none, some (.getfield 69, 3), none, none, some (.if_icmp .ge 86, 3), none, none, some (.aload_n 0, 1), some (.getfield 24, 3), none, none, some (.iload 4, 2), none, some (.invokevirtual 62, 3), none, none, some (.istore 6, 2), none, some (.aload_n 0, 1), some (.getfield 27, 3), none, none, some (.aload_n 0, 1), some (.getfield 24, 3), none, none, some (.iload 4, 2), none, some (.iload 6, 2), none, some (.invokevirtual 91, 3), none, none, some (.aload_n 0, 1), some (.getfield 27, 3), none, none, some (.invokevirtual 113, 3), none, none, some (.ifCond .eq 19, 3), none, none, some (.aload_n 0, 1), some (.getfield 27, 3), none, none, some (.aload_n 0, 1), some (.getfield 27, 3), none, none, some (.invokevirtual 109, 3), none, none, some (.iconst 1, 1), some (.isub, 1), some (.invokevirtual 105, 3), none, none, some (.aload_n 0, 1), some (.getfield 33, 3), none, none, some (.aload_n 0, 1), some (.getfield 27, 3), none, none, some (.aload_n 0, 1), some (.getfield 24, 3), none, none, some (.iload 6, 2), none, some (.invokevirtual 66, 3), none, none, some (.i2l, 1), some (.invokevirtual 94, 3), none, none, some (.iload 6, 2), none, some (.istore 4, 2), none, some (.iinc 5 1, 3), none, none, some (.goto (-99), 3), none, none, some (.aload_n 3, 1), some (.aload_n 0, 1), some (.getfield 33, 3), none, none, some (.iload_n 1, 1), some (.iload_n 2, 1), some (.invokestatic 124, 3), none, none, some (.invokevirtual 128, 3), none, none, some (.return_, 1)]
/-- OrdinalDesk$Arithmetic.powerOfNumber(II)J -/
def oc_34 : List (Option (ClassFile.Instr × Nat)) := [some (.lconst 1, 1), some (.lstore_n 2, 1), some (.iconst 0, 1), some (.istore 4, 2), none, some (.iload 4, 2), none, some (.iload_n 1, 1), some (.if_icmp .ge 22, 3), none, none, some (.lload_n 2, 1), some (.ldc2_w 131, 3), none, none, some (.lcmp, 1), some (.ifCond .gt 14, 3), none, none, some (.lload_n 2, 1), some (.iload_n 0, 1), some (.i2l, 1), some (.lmul, 1), some (.lstore_n 2, 1), some (.iinc 4 1, 3), none, none, some (.goto (-22), 3), none, none, some (.lload_n 2, 1), some (.lreturn, 1)]
/-- OrdinalDesk$Arithmetic.makePowerOfInfinite(LOrdinalDesk$Row;ILOrdinalDesk$Row;)V -/
def oc_35 : List (Option (ClassFile.Instr × Nat)) := [some (.iload_n 2, 1), some (.bipush 20, 2), none, some (.if_icmp .le 13, 3), none, none, some (.new 133, 3), none, none, some (.dup, 1), some (.ldc 135, 2), none, some (.invokespecial 137, 3), none, none, some (.athrow, 1), some (.aload_n 0, 1), some (.getfield 48, 3), none, none, some (.astore 4, 2), none, some (.aload_n 0, 1), some (.getfield 51, 3), none, none, some (.astore 5, 2), none, some (.aload 4, 2), none, some (.iconst 1, 1), some (.invokevirtual 105, 3), none, none, some (.iconst 0, 1), some (.istore 6, 2), none, some (.iload 6, 2), none, some (.iload_n 2, 1), some (.if_icmp .ge 30, 3), none, none, some (.aload_n 0, 1), some (.aload 4, 2), none, some (.aload_n 1, 1), some (.aload 5, 2), none, some (.invokevirtual 140, 3), none, none, some (.aload 5, 2), none, some (.astore 7, 2), none, some (.aload 4, 2), none, some (.astore 5, 2), none, some (.aload 7, 2), none, some (.astore 4, 2), none, some (.iinc 6 1, 3), none, none, some (.goto (-30), 3), none, none, some (.aload_n 0, 1), some (.getfield 30, 3), none, none, some (.aload_n 1, 1), some (.iconst 0, 1), some (.aload_n 1, 1), some (.iconst 0, 1), some (.invokevirtual 62, 3), none, none, some (.invokevirtual 91, 3), none, none, some (.aload_n 0, 1), some (.aload_n 0, 1), some (.getfield 30, 3), none, none, some (.aload_n 0, 1), some (.getfield 24, 3), none, none, some (.aload_n 0, 1), some (.getfield 27, 3), none, none, some (.invokevirtual 140, 3), none, none, some (.aload_n 0, 1), some (.getfield 33, 3), none, none, some (.aload_n 0, 1), some (.getfield 27, 3), none, none, some (.lconst 1, 1), some (.invokevirtual 128, 3), none, none, some (.aload_n 0, 1), some (.aload_n 0, 1), some (.getfield 33, 3), none, none, some (.aload 4, 2), none, some (.aload_n 3, 1), some (.invokevirtual 140, 3), none, none, some (.return_, 1)]
/-- OrdinalDesk$Arithmetic.makeNaturalSum(LOrdinalDesk$Row;LOrdinalDesk$Row;LOrdinalDesk$Row;)V -/
def oc_36 : List (Option (ClassFile.Instr × Nat)) := [some (.aload_n 2, 1), some (.invokevirtual 88, 3), none, none, some (.iconst 0, 1), some (.istore_n 3, 1), some (.iconst 0, 1), some (.istore 4, 2), none, some (.iconst 0, 1), some (.istore 5, 2), none, some (.iload 5, 2), none, some (.bipush 40, 2), none, some (.if_icmp .ge 125, 3), none, none, some (.iload_n 3, 1), some (.aload_n 0, 1), some (.getfield 69, 3), none, none, some (.if_icmp .ge 117, 3), none, none, some (.iload 4, 2), none, some (.aload_n 1, 1), some (.getfield 69, 3), none, none, some (.if_icmp .ge 108, 3), none, none, some (.aload_n 0, 1), some (.iload_n 3, 1), some (.invokevirtual 62, 3), none, none, some (.istore 6, 2), none, some (.aload_n 1, 1), some (.iload 4, 2), none, some (.invokevirtual 62, 3), none, none, some (.istore 7, 2), none, some (.aload_n 0, 1), some (.iload_n 3, 1), some (.iload 6, 2), none, some (.aload_n 1, 1), some (.iload 4, 2), none, some (.iload 7, 2), none, some (.invokestatic 73, 3), none, none, some (.istore 8, 2), none, some (.iload 8, 2), none, some (.ifCond .le 17, 3), none, none, some (.aload_n 2, 1), some (.aload_n 0, 1), some (.iload_n 3, 1), some (.iload 6, 2), none, some (.invokevirtual 85, 3), none, none, some (.iload 6, 2), none, some (.istore_n 3, 1), some (.goto 54, 3), none, none, some (.iload 8, 2), none, some (.ifCond .ge 19, 3), none, none, some (.aload_n 2, 1), some (.aload_n 1, 1), some (.iload 4, 2), none, some (.iload 7, 2), none, some (.invokevirtual 85, 3), none, none, some (.iload 7, 2), none, some (.istore 4, 2), none, some (.goto 33, 3), none, none, some (.aload_n 2, 1), some (.aload_n 0, 1), some (.iload_n 3, 1), some (.iload 6, 2), none, some (.aload_n 0, 1), some (.iload 6, 2), none, some (.invokevirtual 66, 3), none, none, some (.i2l, 1), some (.aload_n 1, 1), some (.iload 7, 2), none, some (.invokevirtual 66, 3), none, none, some (.i2l, 1), some (.ladd, 1), some (.invokevirtual 81, 3), none, none, some (.iload 6, 2), none, some (.istore_n 3, 1), some (.iload 7, 2), none, some (.istore 4, 2), none, some (.iinc 5 1, 3), none, none, some (.goto (-126), 3), none, none, some (.aload_n 2, 1), some (.aload_n 0, 1), some (.iload_n 3, 1), some (.aload_n 0, 1), some (.getfield 69, 3), none, none, some (.invokevirtual 85, 3), none, none, some (.aload_n 2, 1), some (.aload_n 1, 1), some (.iload 4, 2), none, some (.aload_n 1, 1), some (.getfield 69, 3), none, none, some (.invokevirtual 85, 3), none, none, some (.return_, 1)]
/-- OrdinalDesk$Arithmetic.makeNaturalProduct(LOrdinalDesk$Row;LOrdinalDesk$Row;LOrdinalDesk$Row;)V -/
def oc_37 : List (Option (ClassFile.Instr × Nat)) := [some (.aload_n 3, 1), some (.invokevirtual 88, 3), none, none, some (.iconst 0, 1), some (.istore 4, 2), none, some (.iconst 0, 1), some (.istore 5, 2), none, some (.iload 5, 2), none, some (.bipush 20, 2), none, some (.if_icmp .ge 54, 3), none, none, some (.iload 4, 2), none, some (.aload_n 1, 1), some (.getfield 69, 3), none, none, some (.if_icmp .ge 45, 3), none, none, some (.aload_n 1, 1), some (.iload 4, 2), none, some (.invokevirtual 62, 3), none, none, some (.istore 6, 2), none, some (.aload_n 0, 1), some (.getfield 36, 3), none, none, some (.aload_n 1, 1), some (.iload 4, 2), none, some (.iload 6, 2), none, some (.invokevirtual 91, 3), none, none, some (.aload_n 0, 1), some (.aload_n 1, 1), some (.iload 6, 2), none, some (.invokevirtual 66, 3), none, none, some (.aload_n 2, 1), some (.aload_n 3, 1), some (.invokevirtual 143, 3), none, none, some (.iload 6, 2), none, some (.istore 4, 2), none, some (.iinc 5 1, 3), none, none, some (.goto (-55), 3), none, none, some (.return_, 1)]
/-- OrdinalDesk$Arithmetic.addNaturalProduct(ILOrdinalDesk$Row;LOrdinalDesk$Row;)V -/
def oc_38 : List (Option (ClassFile.Instr × Nat)) := [some (.iconst 0, 1), some (.istore 4, 2), none, some (.iconst 0, 1), some (.istore 5, 2), none, some (.iload 5, 2), none, some (.bipush 20, 2), none, some (.if_icmp .ge 98, 3), none, none, some (.iload 4, 2), none, some (.aload_n 2, 1), some (.getfield 69, 3), none, none, some (.if_icmp .ge 89, 3), none, none, some (.aload_n 2, 1), some (.iload 4, 2), none, some (.invokevirtual 62, 3), none, none, some (.istore 6, 2), none, some (.aload_n 0, 1), some (.getfield 39, 3), none, none, some (.aload_n 2, 1), some (.iload 4, 2), none, some (.iload 6, 2), none, some (.invokevirtual 91, 3), none, none, some (.aload_n 0, 1), some (.getfield 36, 3), none, none, some (.aload_n 0, 1), some (.getfield 39, 3), none, none, some (.aload_n 0, 1), some (.getfield 42, 3), none, none, some (.invokestatic 147, 3), none, none, some (.aload_n 0, 1), some (.getfield 45, 3), none, none, some (.aload_n 0, 1), some (.getfield 42, 3), none, none, some (.iload_n 1, 1), some (.i2l, 1), some (.aload_n 2, 1), some (.iload 6, 2), none, some (.invokevirtual 66, 3), none, none, some (.i2l, 1), some (.lmul, 1), some (.invokevirtual 128, 3), none, none, some (.aload_n 3, 1), some (.aload_n 0, 1), some (.getfield 45, 3), none, none, some (.aload_n 0, 1), some (.getfield 51, 3), none, none, some (.invokestatic 147, 3), none, none, some (.aload_n 3, 1), some (.aload_n 0, 1), some (.getfield 51, 3), none, none, some (.invokevirtual 58, 3), none, none, some (.iload 6, 2), none, some (.istore 4, 2), none, some (.iinc 5 1, 3), none, none, some (.goto (-99), 3), none, none, some (.return_, 1)]
/-- OrdinalDesk$Division.<init>()V -/
def oc_39 : List (Option (ClassFile.Instr × Nat)) := [some (.aload_n 0, 1), some (.invokespecial 3, 3), none, none, some (.aload_n 0, 1), some (.new 9, 3), none, none, some (.dup, 1), some (.invokespecial 11, 3), none, none, some (.putfield 12, 3), none, none, some (.aload_n 0, 1), some (.new 9, 3), none, none, some (.dup, 1), some (.invokespecial 11, 3), none, none, some (.putfield 18, 3), none, none, some (.aload_n 0, 1), some (.new 9, 3), none, none, some (.dup, 1), some (.invokespecial 11, 3), none, none, some (.putfield 21, 3), none, none, some (.aload_n 0, 1), some (.new 9, 3), none, none, some (.dup, 1), some (.invokespecial 11, 3), none, none, some (.putfield 24, 3), none, none, some (.aload_n 0, 1), some (.new 9, 3), none, none, some (.dup, 1), some (.invokespecial 11, 3), none, none, some (.putfield 27, 3), none, none, some (.return_, 1)]
/-- OrdinalDesk$Division.makeDifference(LOrdinalDesk$Row;LOrdinalDesk$Row;LOrdinalDesk$Row;)V -/
def oc_40 : List (Option (ClassFile.Instr × Nat)) := [some (.aload_n 2, 1), some (.invokevirtual 30, 3), none, none, some (.iconst 0, 1), some (.istore_n 3, 1), some (.iconst 0, 1), some (.istore 4, 2), none, some (.iload 4, 2), none, some (.bipush 20, 2), none, some (.if_icmp .ge 96, 3), none, none, some (.iload_n 3, 1), some (.aload_n 0, 1), some (.getfield 33, 3), none, none, some (.if_icmp .ge 88, 3), none, none, some (.iload_n 3, 1), some (.aload_n 1, 1), some (.getfield 33, 3), none, none, some (.if_icmp .ge 80, 3), none, none, some (.aload_n 0, 1), some (.iload_n 3, 1), some (.invokevirtual 37, 3), none, none, some (.istore 5, 2), none, some (.aload_n 1, 1), some (.iload_n 3, 1), some (.invokevirtual 37, 3), none, none, some (.istore 6, 2), none, some (.aload_n 0, 1), some (.iload_n 3, 1), some (.iload 5, 2), none, some (.aload_n 1, 1), some (.iload_n 3, 1), some (.iload 6, 2), none, some (.invokestatic 41, 3), none, none, some (.ifCond .eq 6, 3), none, none, some (.goto 49, 3), none, none, some (.aload_n 0, 1), some (.iload 5, 2), none, some (.invokevirtual 45, 3), none, none, some (.aload_n 1, 1), some (.iload 6, 2), none, some (.invokevirtual 45, 3), none, none, some (.isub, 1), some (.istore 7, 2), none, some (.iload 7, 2), none, some (.ifCond .eq 20, 3), none, none, some (.aload_n 2, 1), some (.aload_n 0, 1), some (.iload_n 3, 1), some (.iload 5, 2), none, some (.iload 7, 2), none, some (.i2l, 1), some (.invokevirtual 48, 3), none, none, some (.iload 5, 2), none, some (.istore_n 3, 1), some (.goto 12, 3), none, none, some (.iload 5, 2), none, some (.istore_n 3, 1), some (.iinc 4 1, 3), none, none, some (.goto (-97), 3), none, none, some (.aload_n 2, 1), some (.aload_n 0, 1), some (.iload_n 3, 1), some (.aload_n 0, 1), some (.getfield 33, 3), none, none, some (.invokevirtual 52, 3), none, none, some (.return_, 1)]
/-- OrdinalDesk$Division.divide(LOrdinalDesk$Row;LOrdinalDesk$Row;LOrdinalDesk$Row;LOrdinalDesk$Row;)V -/
def oc_41 : List (Option (ClassFile.Instr × Nat)) := [some (.aload_n 2, 1), some (.iconst 0, 1), some (.invokevirtual 37, 3), none, none, some (.istore 5, 2), none, some (.aload_n 0, 1), some (.getfield 12, 3), none, none, some (.aload_n 2, 1), some (.iconst 0, 1), some (.iload 5, 2), none, some (.invokevirtual 56, 3), none, none, some (.aload_n 3, 1), some (.invokevirtual 30, 3), none, none, some (.iconst 0, 1), some (.istore 6, 2), none, some (.iconst 0, 1), some (.istore 7, 2), none, some (.iload 7, 2), none, some (.bipush 20, 2), none, some (.if_icmp .ge 90, 3), none, none, some (.iload 6, 2), none, some (.aload_n 1, 1), some (.getfield 33, 3), none, none, some (.if_icmp .ge 81, 3), none, none, some (.aload_n 1, 1), some (.iload 6, 2), none, some (.invokevirtual 37, 3), none, none, some (.istore 8, 2), none, some (.aload_n 1, 1), some (.iload 6, 2), none, some (.iload 8, 2), none, some (.aload_n 2, 1), some (.iconst 0, 1), some (.iload 5, 2), none, some (.invokestatic 41, 3), none, none, some (.ifCond .gt 6, 3), none, none, some (.goto 55, 3), none, none, some (.aload_n 0, 1), some (.getfield 18, 3), none, none, some (.aload_n 1, 1), some (.iload 6, 2), none, some (.iload 8, 2), none, some (.invokevirtual 56, 3), none, none, some (.aload_n 0, 1), some (.getfield 18, 3), none, none, some (.aload_n 0, 1), some (.getfield 12, 3), none, none, some (.aload_n 0, 1), some (.getfield 21, 3), none, none, some (.invokestatic 59, 3), none, none, some (.aload_n 3, 1), some (.aload_n 0, 1), some (.getfield 21, 3), none, none, some (.aload_n 1, 1), some (.iload 8, 2), none, some (.invokevirtual 45, 3), none, none, some (.i2l, 1), some (.invokevirtual 63, 3), none, none, some (.iload 8, 2), none, some (.istore 6, 2), none, some (.iinc 7 1, 3), none, none, some (.goto (-91), 3), none, none, some (.aload_n 0, 1), some (.getfield 24, 3), none, none, some (.aload_n 1, 1), some (.iload 6, 2), none, some (.aload_n 1, 1), some (.getfield 33, 3), none, none, some (.invokevirtual 67, 3), none, none, some (.aload_n 0, 1), some (.aload_n 2, 1), some (.iload 5, 2), none, some (.invokevirtual 70, 3), none, none, some (.istore 7, 2), none, some (.aload_n 3, 1), some (.iload 7, 2), none, some (.i2l, 1), some (.invokevirtual 74, 3), none, none, some (.aload_n 0, 1), some (.getfield 27, 3), none, none, some (.invokevirtual 30, 3), none, none, some (.iload 7, 2), none, some (.ifCond .le 39, 3), none, none, some (.aload_n 0, 1), some (.getfield 27, 3), none, none, some (.aload_n 2, 1), some (.iconst 0, 1), some (.iload 5, 2), none, some (.iload 7, 2), none, some (.i2l, 1), some (.aload_n 2, 1), some (.iload 5, 2), none, some (.invokevirtual 45, 3), none, none, some (.i2l, 1), some (.lmul, 1), some (.invokevirtual 48, 3), none, none, some (.aload_n 0, 1), some (.getfield 27, 3), none, none, some (.aload_n 2, 1), some (.iload 5, 2), none, some (.aload_n 2, 1), some (.getfield 33, 3), none, none, some (.invokevirtual 52, 3), none, none, some (.aload_n 0, 1), some (.getfield 24, 3), none, none, some (.aload_n 0, 1), some (.getfield 27, 3), none, none, some (.aload 4, 2), none, some (.invokestatic 59, 3), none, none, some (.return_, 1)]
/-- OrdinalDesk$Division.timesInRest(LOrdinalDesk$Row;I)I -/
def oc_42 : List (Option (ClassFile.Instr × Nat)) := [some (.aload_n 0, 1), some (.getfield 24, 3), none, none, some (.iconst 0, 1), some (.invokevirtual 37, 3), none, none, some (.istore_n 3, 1), some (.aload_n 1, 1), some (.iload_n 2, 1), some (.invokevirtual 45, 3), none, none, some (.istore 4, 2), none, some (.aload_n 0, 1), some (.getfield 24, 3), none, none, some (.invokevirtual 78, 3), none, none, some (.ifCond .ne 24, 3), none, none, some (.iload 4, 2), none, some (.iconst 1, 1), some (.if_icmp .lt 18, 3), none, none, some (.aload_n 0, 1), some (.getfield 24, 3), none, none, some (.iconst 0, 1), some (.iload_n 3, 1), some (.aload_n 1, 1), some (.iconst 0, 1), some (.iload_n 2, 1), some (.invokestatic 41, 3), none, none, some (.ifCond .ge 5, 3), none, none, some (.iconst 0, 1), some (.ireturn, 1), some (.aload_n 0, 1), some (.getfield 24, 3), none, none, some (.iload_n 3, 1), some (.invokevirtual 45, 3), none, none, some (.iload 4, 2), none, some (.idiv, 1), some (.istore 5, 2), none, some (.iload 5, 2), none, some (.iload 4, 2), none, some (.imul, 1), some (.aload_n 0, 1), some (.getfield 24, 3), none, none, some (.iload_n 3, 1), some (.invokevirtual 45, 3), none, none, some (.if_icmp .ne 7, 3), none, none, some (.iconst 1, 1), some (.goto 4, 3), none, none, some (.iconst 0, 1), some (.istore 6, 2), none, some (.aload_n 0, 1), some (.getfield 24, 3), none, none, some (.iload_n 3, 1), some (.aload_n 0, 1), some (.getfield 24, 3), none, none, some (.getfield 33, 3), none, none, some (.aload_n 1, 1), some (.iload_n 2, 1), some (.aload_n 1, 1), some (.getfield 33, 3), none, none, some (.invokestatic 82, 3), none, none, some (.ifCond .ge 7, 3), none, none, some (.iconst 1, 1), some (.goto 4, 3), none, none, some (.iconst 0, 1), some (.istore 7, 2), none, some (.iload 6, 2), none, some (.ifCond .eq 15, 3), none, none, some (.iload 7, 2), none, some (.ifCond .eq 10, 3), none, none, some (.iload 5, 2), none, some (.iconst 1, 1), some (.isub, 1), some (.goto 5, 3), none, none, some (.iload 5, 2), none, some (.ireturn, 1)]
/-- OrdinalDesk$Descent.<init>()V -/
def oc_43 : List (Option (ClassFile.Instr × Nat)) := [some (.aload_n 0, 1), some (.invokespecial 3, 3), none, none, some (.aload_n 0, 1), some (.new 9, 3), none, none, some (.dup, 1), some (.invokespecial 11, 3), none, none, some (.putfield 12, 3), none, none, some (.aload_n 0, 1), some (.new 9, 3), none, none, some (.dup, 1), some (.invokespecial 11, 3), none, none, some (.putfield 18, 3), none, none, some (.return_, 1)]
/-- OrdinalDesk$Descent.putBefore(LOrdinalDesk$Row;IILOrdinalDesk$Row;)V -/
def oc_44 : List (Option (ClassFile.Instr × Nat)) := [some (.aload_n 3, 1), some (.aload_n 0, 1), some (.iload_n 1, 1), some (.iload_n 2, 1), some (.iconst 3, 1), some (.isub, 1), some (.invokevirtual 21, 3), none, none, some (.aload_n 3, 1), some (.aload_n 0, 1), some (.iload_n 2, 1), some (.iconst 3, 1), some (.isub, 1), some (.iload_n 2, 1), some (.aload_n 0, 1), some (.iload_n 2, 1), some (.invokevirtual 25, 3), none, none, some (.iconst 1, 1), some (.isub, 1), some (.i2l, 1), some (.invokevirtual 29, 3), none, none, some (.return_, 1)]
/-- OrdinalDesk$Descent.makeMember(LOrdinalDesk$Row;ILOrdinalDesk$Row;)V -/
def oc_45 : List (Option (ClassFile.Instr × Nat)) := [some (.aload_n 2, 1), some (.invokevirtual 33, 3), none, none, some (.iconst 0, 1), some (.istore_n 3, 1), some (.aload_n 0, 1), some (.getfield 36, 3), none, none, some (.istore 4, 2), none, some (.iconst 0, 1), some (.istore 5, 2), none, some (.iconst 0, 1), some (.istore 6, 2), none, some (.iload 6, 2), none, some (.bipush 20, 2), none, some (.if_icmp .ge 81, 3), none, none, some (.aload_n 0, 1), some (.iload_n 3, 1), some (.iload 4, 2), none, some (.invokevirtual 40, 3), none, none, some (.istore 7, 2), none, some (.aload_n 2, 1), some (.aload_n 0, 1), some (.iload_n 3, 1), some (.iload 7, 2), none, some (.invokevirtual 21, 3), none, none, some (.aload_n 2, 1), some (.aload_n 0, 1), some (.iload 7, 2), none, some (.iload 4, 2), none, some (.aload_n 0, 1), some (.iload 4, 2), none, some (.invokevirtual 25, 3), none, none, some (.iconst 1, 1), some (.isub, 1), some (.i2l, 1), some (.invokevirtual 29, 3), none, none, some (.iload 7, 2), none, some (.iconst 1, 1), some (.iadd, 1), some (.istore_n 3, 1), some (.iload 4, 2), none, some (.iconst 2, 1), some (.isub, 1), some (.istore 4, 2), none, some (.iload_n 3, 1), some (.iload 4, 2), none, some (.if_icmp .ge 29, 3), none, none, some (.aload_n 0, 1), some (.iload_n 3, 1), some (.iload 4, 2), none, some (.invokevirtual 44, 3), none, none, some (.ifCond .eq 6, 3), none, none, some (.goto 16, 3), none, none, some (.aload_n 2, 1), some (.invokevirtual 48, 3), none, none, some (.iinc 5 1, 3), none, none, some (.iinc 6 1, 3), none, none, some (.goto (-82), 3), none, none, some (.iload_n 1, 1), some (.ifCond .le 21, 3), none, none, some (.aload_n 2, 1), some (.invokevirtual 48, 3), none, none, some (.aload_n 0, 1), some (.iload_n 3, 1), some (.iload 4, 2), none, some (.aload_n 2, 1), some (.invokestatic 51, 3), none, none, some (.aload_n 2, 1), some (.iload_n 1, 1), some (.i2l, 1), some (.invokevirtual 55, 3), none, none, some (.iconst 0, 1), some (.istore 6, 2), none, some (.iload 6, 2), none, some (.iload 5, 2), none, some (.if_icmp .ge 14, 3), none, none, some (.aload_n 2, 1), some (.lconst 1, 1), some (.invokevirtual 55, 3), none, none, some (.iinc 6 1, 3), none, none, some (.goto (-15), 3), none, none, some (.return_, 1)]
/-- OrdinalDesk$Descent.stepDown(LOrdinalDesk$Row;ILOrdinalDesk$Row;)V -/
def oc_46 : List (Option (ClassFile.Instr × Nat)) := [some (.aload_n 0, 1), some (.getfield 12, 3), none, none, some (.astore 4, 2), none, some (.aload_n 0, 1), some (.getfield 18, 3), none, none, some (.astore 5, 2), none, some (.aload 4, 2), none, some (.aload_n 1, 1), some (.invokevirtual 59, 3), none, none, some (.iconst 0, 1), some (.istore 6, 2), none, some (.iload 6, 2), none, some (.ldc 63, 2), none, some (.if_icmp .ge 38, 3), none, none, some (.aload 4, 2), none, some (.invokevirtual 64, 3), none, none, some (.iconst 2, 1), some (.if_icmp .ne 29, 3), none, none, some (.aload 4, 2), none, some (.iload_n 2, 1), some (.aload 5, 2), none, some (.invokestatic 68, 3), none, none, some (.aload 5, 2), none, some (.astore 7, 2), none, some (.aload 4, 2), none, some (.astore 5, 2), none, some (.aload 7, 2), none, some (.astore 4, 2), none, some (.iinc 6 1, 3), none, none, some (.goto (-39), 3), none, none, some (.aload_n 3, 1), some (.invokevirtual 33, 3), none, none, some (.aload 4, 2), none, some (.iconst 0, 1), some (.aload 4, 2), none, some (.getfield 36, 3), none, none, some (.aload_n 3, 1), some (.invokestatic 51, 3), none, none, some (.return_, 1)]
/-- OrdinalDesk$Hydra.<init>()V -/
def oc_47 : List (Option (ClassFile.Instr × Nat)) := [some (.aload_n 0, 1), some (.invokespecial 3, 3), none, none, some (.aload_n 0, 1), some (.bipush 20, 2), none, some (.newarray .int, 2), none, some (.putfield 9, 3), none, none, some (.aload_n 0, 1), some (.bipush 20, 2), none, some (.newarray .int, 2), none, some (.putfield 15, 3), none, none, some (.aload_n 0, 1), some (.iconst 0, 1), some (.putfield 18, 3), none, none, some (.aload_n 0, 1), some (.new 22, 3), none, none, some (.dup, 1), some (.invokespecial 24, 3), none, none, some (.putfield 25, 3), none, none, some (.aload_n 0, 1), some (.new 22, 3), none, none, some (.dup, 1), some (.invokespecial 24, 3), none, none, some (.putfield 29, 3), none, none, some (.return_, 1)]
/-- OrdinalDesk$Hydra.findsHead(LOrdinalDesk$Row;I)Z -/
def oc_48 : List (Option (ClassFile.Instr × Nat)) := [some (.iconst 0, 1), some (.istore_n 3, 1), some (.aload_n 1, 1), some (.getfield 32, 3), none, none, some (.istore 4, 2), none, some (.iload_n 2, 1), some (.istore 5, 2), none, some (.iconst 0, 1), some (.istore 6, 2), none, some (.iload 6, 2), none, some (.bipush 20, 2), none, some (.if_icmp .ge 92, 3), none, none, some (.aload_n 1, 1), some (.iload 5, 2), none, some (.bipush 8, 2), none, some (.irem, 1), some (.iload_n 3, 1), some (.iload 4, 2), none, some (.invokevirtual 35, 3), none, none, some (.istore 7, 2), none, some (.iload 7, 2), none, some (.iconst (-1), 1), some (.if_icmp .ne 5, 3), none, none, some (.iconst 0, 1), some (.ireturn, 1), some (.aload_n 1, 1), some (.iload 7, 2), none, some (.invokevirtual 39, 3), none, none, some (.istore 8, 2), none, some (.aload_n 0, 1), some (.getfield 9, 3), none, none, some (.iload 6, 2), none, some (.iload 7, 2), none, some (.iastore, 1), some (.aload_n 0, 1), some (.getfield 15, 3), none, none, some (.iload 6, 2), none, some (.iload 8, 2), none, some (.iastore, 1), some (.aload_n 0, 1), some (.iload 6, 2), none, some (.putfield 18, 3), none, none, some (.iload 8, 2), none, some (.iload 7, 2), none, some (.isub, 1), some (.iconst 3, 1), some (.if_icmp .ne 5, 3), none, none, some (.iconst 1, 1), some (.ireturn, 1), some (.iload 7, 2), none, some (.iconst 1, 1), some (.iadd, 1), some (.istore_n 3, 1), some (.iload 8, 2), none, some (.iconst 2, 1), some (.isub, 1), some (.istore 4, 2), none, some (.iload 5, 2), none, some (.bipush 8, 2), none, some (.idiv, 1), some (.istore 5, 2), none, some (.iinc 6 1, 3), none, none, some (.goto (-93), 3), none, none, some (.iconst 0, 1), some (.ireturn, 1)]
/-- OrdinalDesk$Hydra.cutHead(LOrdinalDesk$Row;ILOrdinalDesk$Row;)V -/
def oc_49 : List (Option (ClassFile.Instr × Nat)) := [some (.aload_n 0, 1), some (.aload_n 1, 1), some (.aload_n 0, 1), some (.getfield 18, 3), none, none, some (.aload_n 3, 1), some (.invokevirtual 43, 3), none, none, some (.aload_n 0, 1), some (.getfield 18, 3), none, none, some (.iconst 1, 1), some (.isub, 1), some (.istore 4, 2), none, some (.iload 4, 2), none, some (.ifCond .lt 59, 3), none, none, some (.aload_n 0, 1), some (.getfield 29, 3), none, none, some (.aload_n 3, 1), some (.iload 4, 2), none, some (.aload_n 0, 1), some (.getfield 18, 3), none, none, some (.iconst 1, 1), some (.isub, 1), some (.if_icmp .ne 10, 3), none, none, some (.iload_n 2, 1), some (.iconst 1, 1), some (.iadd, 1), some (.i2l, 1), some (.goto 4, 3), none, none, some (.lconst 1, 1), some (.invokevirtual 47, 3), none, none, some (.aload_n 0, 1), some (.aload_n 1, 1), some (.iload 4, 2), none, some (.aload_n 0, 1), some (.getfield 25, 3), none, none, some (.invokevirtual 43, 3), none, none, some (.aload_n 0, 1), some (.getfield 25, 3), none, none, some (.aload_n 0, 1), some (.getfield 29, 3), none, none, some (.aload_n 3, 1), some (.invokestatic 51, 3), none, none, some (.iinc 4 (-1), 3), none, none, some (.goto (-58), 3), none, none, some (.return_, 1)]
/-- OrdinalDesk$Hydra.makeThinned(LOrdinalDesk$Row;ILOrdinalDesk$Row;)V -/
def oc_50 : List (Option (ClassFile.Instr × Nat)) := [some (.iload_n 2, 1), some (.ifCond .ne 7, 3), none, none, some (.iconst 0, 1), some (.goto 13, 3), none, none, some (.aload_n 0, 1), some (.getfield 9, 3), none, none, some (.iload_n 2, 1), some (.iconst 1, 1), some (.isub, 1), some (.iaload, 1), some (.iconst 1, 1), some (.iadd, 1), some (.istore 4, 2), none, some (.iload_n 2, 1), some (.ifCond .ne 10, 3), none, none, some (.aload_n 1, 1), some (.getfield 32, 3), none, none, some (.goto 13, 3), none, none, some (.aload_n 0, 1), some (.getfield 15, 3), none, none, some (.iload_n 2, 1), some (.iconst 1, 1), some (.isub, 1), some (.iaload, 1), some (.iconst 2, 1), some (.isub, 1), some (.istore 5, 2), none, some (.aload_n 0, 1), some (.getfield 9, 3), none, none, some (.iload_n 2, 1), some (.iaload, 1), some (.istore 6, 2), none, some (.aload_n 0, 1), some (.getfield 15, 3), none, none, some (.iload_n 2, 1), some (.iaload, 1), some (.istore 7, 2), none, some (.aload_n 3, 1), some (.aload_n 1, 1), some (.iload 4, 2), none, some (.iload 6, 2), none, some (.invokevirtual 57, 3), none, none, some (.aload_n 3, 1), some (.aload_n 1, 1), some (.iload 6, 2), none, some (.iload 7, 2), none, some (.aload_n 1, 1), some (.iload 7, 2), none, some (.invokevirtual 61, 3), none, none, some (.iconst 1, 1), some (.isub, 1), some (.i2l, 1), some (.invokevirtual 64, 3), none, none, some (.aload_n 3, 1), some (.aload_n 1, 1), some (.iload 7, 2), none, some (.iload 5, 2), none, some (.invokevirtual 68, 3), none, none, some (.return_, 1)]
/-- OrdinalDesk$Pile.<init>()V -/
def oc_51 : List (Option (ClassFile.Instr × Nat)) := [some (.aload_n 0, 1), some (.invokespecial 3, 3), none, none, some (.aload_n 0, 1), some (.bipush 12, 2), none, some (.anewarray 9, 3), none, none, some (.putfield 11, 3), none, none, some (.aload_n 0, 1), some (.bipush 12, 2), none, some (.newarray .int, 2), none, some (.putfield 17, 3), none, none, some (.aload_n 0, 1), some (.iconst 0, 1), some (.putfield 21, 3), none, none, some (.aload_n 0, 1), some (.iconst 0, 1), some (.putfield 25, 3), none, none, some (.aload_n 0, 1), some (.new 9, 3), none, none, some (.dup, 1), some (.invokespecial 28, 3), none, none, some (.putfield 29, 3), none, none, some (.iconst 0, 1), some (.istore_n 1, 1), some (.iload_n 1, 1), some (.bipush 12, 2), none, some (.if_icmp .ge 22, 3), none, none, some (.aload_n 0, 1), some (.getfield 11, 3), none, none, some (.iload_n 1, 1), some (.new 9, 3), none, none, some (.dup, 1), some (.invokespecial 28, 3), none, none, some (.aastore, 1), some (.iinc 1 1, 3), none, none, some (.goto (-22), 3), none, none, some (.return_, 1)]
/-- OrdinalDesk$Pile.workOff(LOrdinalDesk$Row;II)I -/
def oc_52 : List (Option (ClassFile.Instr × Nat)) := [some (.aload_n 0, 1), some (.iload_n 2, 1), some (.putfield 25, 3), none, none, some (.aload_n 0, 1), some (.iconst 0, 1), some (.putfield 21, 3), none, none, some (.aload_n 0, 1), some (.aload_n 1, 1), some (.iconst 1, 1), some (.invokevirtual 33, 3), none, none, some (.pop, 1), some (.iconst 0, 1), some (.istore 4, 2), none, some (.iload 4, 2), none, some (.iload_n 3, 1), some (.if_icmp .ge 25, 3), none, none, some (.aload_n 0, 1), some (.getfield 21, 3), none, none, some (.ifCond .le 18, 3), none, none, some (.aload_n 0, 1), some (.invokevirtual 37, 3), none, none, some (.ifCond .ne 5, 3), none, none, some (.iconst (-1), 1), some (.ireturn, 1), some (.iinc 4 1, 3), none, none, some (.goto (-25), 3), none, none, some (.aload_n 0, 1), some (.getfield 21, 3), none, none, some (.ifCond .le 7, 3), none, none, some (.iconst (-1), 1), some (.goto 7, 3), none, none, some (.aload_n 0, 1), some (.getfield 25, 3), none, none, some (.ireturn, 1)]
/-- OrdinalDesk$Pile.appliesTop()Z -/
def oc_53 : List (Option (ClassFile.Instr × Nat)) := [some (.aload_n 0, 1), some (.getfield 11, 3), none, none, some (.aload_n 0, 1), some (.getfield 21, 3), none, none, some (.iconst 1, 1), some (.isub, 1), some (.aaload, 1), some (.astore_n 1, 1), some (.aload_n 0, 1), some (.getfield 17, 3), none, none, some (.aload_n 0, 1), some (.getfield 21, 3), none, none, some (.iconst 1, 1), some (.isub, 1), some (.dup2, 1), some (.iaload, 1), some (.iconst 1, 1), some (.isub, 1), some (.iastore, 1), some (.aload_n 0, 1), some (.getfield 17, 3), none, none, some (.aload_n 0, 1), some (.getfield 21, 3), none, none, some (.iconst 1, 1), some (.isub, 1), some (.iaload, 1), some (.ifCond .gt 13, 3), none, none, some (.aload_n 0, 1), some (.dup, 1), some (.getfield 21, 3), none, none, some (.iconst 1, 1), some (.isub, 1), some (.putfield 21, 3), none, none, some (.aload_n 1, 1), some (.invokevirtual 41, 3), none, none, some (.istore_n 2, 1), some (.iload_n 2, 1), some (.ifCond .ne 28, 3), none, none, some (.aload_n 0, 1), some (.dup, 1), some (.getfield 25, 3), none, none, some (.iconst 1, 1), some (.iadd, 1), some (.putfield 25, 3), none, none, some (.aload_n 0, 1), some (.getfield 25, 3), none, none, some (.ldc 45, 2), none, some (.if_icmp .gt 7, 3), none, none, some (.iconst 1, 1), some (.goto 4, 3), none, none, some (.iconst 0, 1), some (.ireturn, 1), some (.iload_n 2, 1), some (.iconst 2, 1), some (.if_icmp .ne 25, 3), none, none, some (.aload_n 1, 1), some (.aload_n 0, 1), some (.getfield 25, 3), none, none, some (.aload_n 0, 1), some (.getfield 29, 3), none, none, some (.invokestatic 46, 3), none, none, some (.aload_n 0, 1), some (.aload_n 0, 1), some (.getfield 29, 3), none, none, some (.iconst 1, 1), some (.invokevirtual 33, 3), none, none, some (.ireturn, 1), some (.aload_n 0, 1), some (.getfield 29, 3), none, none, some (.invokevirtual 52, 3), none, none, some (.aload_n 1, 1), some (.iconst 0, 1), some (.aload_n 1, 1), some (.getfield 55, 3), none, none, some (.aload_n 0, 1), some (.getfield 29, 3), none, none, some (.invokestatic 58, 3), none, none, some (.aload_n 0, 1), some (.aload_n 0, 1), some (.getfield 29, 3), none, none, some (.aload_n 0, 1), some (.getfield 25, 3), none, none, some (.invokevirtual 33, 3), none, none, some (.ireturn, 1)]
/-- OrdinalDesk$Pile.pushes(LOrdinalDesk$Row;I)Z -/
def oc_54 : List (Option (ClassFile.Instr × Nat)) := [some (.iload_n 2, 1), some (.ifCond .gt 5, 3), none, none, some (.iconst 1, 1), some (.ireturn, 1), some (.aload_n 0, 1), some (.getfield 21, 3), none, none, some (.bipush 12, 2), none, some (.if_icmp .lt 5, 3), none, none, some (.iconst 0, 1), some (.ireturn, 1), some (.aload_n 0, 1), some (.getfield 11, 3), none, none, some (.aload_n 0, 1), some (.getfield 21, 3), none, none, some (.aaload, 1), some (.aload_n 1, 1), some (.invokevirtual 62, 3), none, none, some (.aload_n 0, 1), some (.getfield 17, 3), none, none, some (.aload_n 0, 1), some (.getfield 21, 3), none, none, some (.iload_n 2, 1), some (.iastore, 1), some (.aload_n 0, 1), some (.dup, 1), some (.getfield 21, 3), none, none, some (.iconst 1, 1), some (.iadd, 1), some (.putfield 21, 3), none, none, some (.iconst 1, 1), some (.ireturn, 1)]
/-- OrdinalDesk$Numbers.<init>()V -/
def oc_55 : List (Option (ClassFile.Instr × Nat)) := [some (.aload_n 0, 1), some (.invokespecial 3, 3), none, none, some (.aload_n 0, 1), some (.bipush 21, 2), none, some (.newarray .long, 2), none, some (.putfield 9, 3), none, none, some (.return_, 1)]
/-- OrdinalDesk$Numbers.makeInBase(IILOrdinalDesk$Row;)V -/
def oc_56 : List (Option (ClassFile.Instr × Nat)) := [some (.aload_n 2, 1), some (.invokevirtual 15, 3), none, none, some (.iload_n 0, 1), some (.iload_n 1, 1), some (.aload_n 2, 1), some (.iconst 0, 1), some (.invokestatic 20, 3), none, none, some (.return_, 1)]
/-- OrdinalDesk$Numbers.putInBase(IILOrdinalDesk$Row;I)V -/
def oc_57 : List (Option (ClassFile.Instr × Nat)) := [some (.iload_n 3, 1), some (.bipush 20, 2), none, some (.if_icmp .le 13, 3), none, none, some (.new 24, 3), none, none, some (.dup, 1), some (.ldc 26, 2), none, some (.invokespecial 28, 3), none, none, some (.athrow, 1), some (.lconst 1, 1), some (.lstore 4, 2), none, some (.iconst 0, 1), some (.istore 6, 2), none, some (.iload 6, 2), none, some (.bipush 30, 2), none, some (.if_icmp .ge 27, 3), none, none, some (.lload 4, 2), none, some (.iload_n 1, 1), some (.i2l, 1), some (.lmul, 1), some (.iload_n 0, 1), some (.i2l, 1), some (.lcmp, 1), some (.ifCond .gt 16, 3), none, none, some (.lload 4, 2), none, some (.iload_n 1, 1), some (.i2l, 1), some (.lmul, 1), some (.lstore 4, 2), none, some (.iinc 6 1, 3), none, none, some (.goto (-28), 3), none, none, some (.iload_n 0, 1), some (.i2l, 1), some (.lstore 7, 2), none, some (.iload 6, 2), none, some (.istore 9, 2), none, some (.iload 9, 2), none, some (.ifCond .lt 67, 3), none, none, some (.lload 4, 2), none, some (.lconst 0, 1), some (.lcmp, 1), some (.ifCond .le 60, 3), none, none, some (.lload 7, 2), none, some (.lload 4, 2), none, some (.ldiv, 1), some (.lstore 10, 2), none, some (.lload 10, 2), none, some (.lconst 0, 1), some (.lcmp, 1), some (.ifCond .le 23, 3), none, none, some (.aload_n 2, 1), some (.invokevirtual 31, 3), none, none, some (.iload 9, 2), none, some (.iload_n 1, 1), some (.aload_n 2, 1), some (.iload_n 3, 1), some (.iconst 1, 1), some (.iadd, 1), some (.invokestatic 20, 3), none, none, some (.aload_n 2, 1), some (.lload 10, 2), none, some (.invokevirtual 34, 3), none, none, some (.lload 7, 2), none, some (.lload 10, 2), none, some (.lload 4, 2), none, some (.lmul, 1), some (.lsub, 1), some (.lstore 7, 2), none, some (.lload 4, 2), none, some (.iload_n 1, 1), some (.i2l, 1), some (.ldiv, 1), some (.lstore 4, 2), none, some (.iinc 9 (-1), 3), none, none, some (.goto (-66), 3), none, none, some (.return_, 1)]
/-- OrdinalDesk$Numbers.worth(LOrdinalDesk$Row;I)J -/
def oc_58 : List (Option (ClassFile.Instr × Nat)) := [some (.iconst 0, 1), some (.istore_n 3, 1), some (.aload_n 0, 1), some (.getfield 9, 3), none, none, some (.iconst 0, 1), some (.lconst 0, 1), some (.lastore, 1), some (.iconst 0, 1), some (.istore 4, 2), none, some (.iload 4, 2), none, some (.aload_n 1, 1), some (.getfield 38, 3), none, none, some (.if_icmp .ge 90, 3), none, none, some (.aload_n 1, 1), some (.getfield 42, 3), none, none, some (.iload 4, 2), none, some (.iaload, 1), some (.iconst 1, 1), some (.if_icmp .ne 25, 3), none, none, some (.iload_n 3, 1), some (.bipush 20, 2), none, some (.if_icmp .ge 19, 3), none, none, some (.iinc 3 1, 3), none, none, some (.aload_n 0, 1), some (.getfield 9, 3), none, none, some (.iload_n 3, 1), some (.lconst 0, 1), some (.lastore, 1), some (.iinc 4 1, 3), none, none, some (.goto (-39), 3), none, none, some (.aload_n 1, 1), some (.iload 4, 2), none, some (.iconst 2, 1), some (.iadd, 1), some (.invokevirtual 46, 3), none, none, some (.i2l, 1), some (.iload_n 2, 1), some (.aload_n 0, 1), some (.getfield 9, 3), none, none, some (.iload_n 3, 1), some (.laload, 1), some (.invokestatic 50, 3), none, none, some (.lmul, 1), some (.lstore 5, 2), none, some (.iload_n 3, 1), some (.iconst 1, 1), some (.isub, 1), some (.iconst 0, 1), some (.invokestatic 54, 3), none, none, some (.istore_n 3, 1), some (.aload_n 0, 1), some (.getfield 9, 3), none, none, some (.iload_n 3, 1), some (.aload_n 0, 1), some (.getfield 9, 3), none, none, some (.iload_n 3, 1), some (.laload, 1), some (.lload 5, 2), none, some (.ladd, 1), some (.invokestatic 60, 3), none, none, some (.lastore, 1), some (.iinc 4 2, 3), none, none, some (.goto (-93), 3), none, none, some (.aload_n 0, 1), some (.getfield 9, 3), none, none, some (.iconst 0, 1), some (.laload, 1), some (.lreturn, 1)]
/-- OrdinalDesk$Numbers.powerOf(IJ)J -/
def oc_59 : List (Option (ClassFile.Instr × Nat)) := [some (.iload_n 0, 1), some (.iconst 2, 1), some (.if_icmp .ge 20, 3), none, none, some (.iload_n 0, 1), some (.iconst 1, 1), some (.if_icmp .eq 9, 3), none, none, some (.lload_n 1, 1), some (.lconst 0, 1), some (.lcmp, 1), some (.ifCond .ne 7, 3), none, none, some (.lconst 1, 1), some (.goto 4, 3), none, none, some (.lconst 0, 1), some (.lreturn, 1), some (.lconst 1, 1), some (.lstore_n 3, 1), some (.lconst 0, 1), some (.lstore 5, 2), none, some (.lload 5, 2), none, some (.lload_n 1, 1), some (.lcmp, 1), some (.ifCond .ge 28, 3), none, none, some (.lload_n 3, 1), some (.ldc2_w 64, 3), none, none, some (.lcmp, 1), some (.ifCond .gt 20, 3), none, none, some (.lload_n 3, 1), some (.iload_n 0, 1), some (.i2l, 1), some (.lmul, 1), some (.invokestatic 60, 3), none, none, some (.lstore_n 3, 1), some (.lload 5, 2), none, some (.lconst 1, 1), some (.ladd, 1), some (.lstore 5, 2), none, some (.goto (-29), 3), none, none, some (.lload_n 3, 1), some (.lreturn, 1)]
/-- OrdinalDesk$Numbers.atMostBeyond(J)J -/
def oc_60 : List (Option (ClassFile.Instr × Nat)) := [some (.lload_n 0, 1), some (.ldc2_w 66, 3), none, none, some (.invokestatic 68, 3), none, none, some (.lreturn, 1)]
/-- OrdinalDesk.<init>()V -/
def oc_61 : List (Option (ClassFile.Instr × Nat)) := [some (.aload_n 0, 1), some (.invokespecial 3, 3), none, none, some (.aload_n 0, 1), some (.bipush 8, 2), none, some (.anewarray 9, 3), none, none, some (.putfield 11, 3), none, none, some (.aload_n 0, 1), some (.bipush 12, 2), none, some (.anewarray 9, 3), none, none, some (.putfield 15, 3), none, none, some (.aload_n 0, 1), some (.iconst 0, 1), some (.putfield 18, 3), none, none, some (.aload_n 0, 1), some (.new 9, 3), none, none, some (.dup, 1), some (.invokespecial 22, 3), none, none, some (.putfield 23, 3), none, none, some (.aload_n 0, 1), some (.new 9, 3), none, none, some (.dup, 1), some (.invokespecial 22, 3), none, none, some (.putfield 27, 3), none, none, some (.aload_n 0, 1), some (.new 30, 3), none, none, some (.dup, 1), some (.invokespecial 32, 3), none, none, some (.putfield 33, 3), none, none, some (.aload_n 0, 1), some (.new 37, 3), none, none, some (.dup, 1), some (.invokespecial 39, 3), none, none, some (.putfield 40, 3), none, none, some (.aload_n 0, 1), some (.new 44, 3), none, none, some (.dup, 1), some (.invokespecial 46, 3), none, none, some (.putfield 47, 3), none, none, some (.aload_n 0, 1), some (.new 51, 3), none, none, some (.dup, 1), some (.invokespecial 53, 3), none, none, some (.putfield 54, 3), none, none, some (.aload_n 0, 1), some (.new 58, 3), none, none, some (.dup, 1), some (.invokespecial 60, 3), none, none, some (.putfield 61, 3), none, none, some (.aload_n 0, 1), some (.new 65, 3), none, none, some (.dup, 1), some (.invokespecial 67, 3), none, none, some (.putfield 68, 3), none, none, some (.iconst 0, 1), some (.istore_n 1, 1), some (.iload_n 1, 1), some (.bipush 8, 2), none, some (.if_icmp .ge 22, 3), none, none, some (.aload_n 0, 1), some (.getfield 11, 3), none, none, some (.iload_n 1, 1), some (.new 9, 3), none, none, some (.dup, 1), some (.invokespecial 22, 3), none, none, some (.aastore, 1), some (.iinc 1 1, 3), none, none, some (.goto (-22), 3), none, none, some (.iconst 0, 1), some (.istore_n 1, 1), some (.iload_n 1, 1), some (.bipush 12, 2), none, some (.if_icmp .ge 22, 3), none, none, some (.aload_n 0, 1), some (.getfield 15, 3), none, none, some (.iload_n 1, 1), some (.new 9, 3), none, none, some (.dup, 1), some (.invokespecial 22, 3), none, none, some (.aastore, 1), some (.iinc 1 1, 3), none, none, some (.goto (-22), 3), none, none, some (.return_, 1)]
/-- OrdinalDesk.finite(II)V -/
def oc_62 : List (Option (ClassFile.Instr × Nat)) := [some (.aload_n 0, 1), some (.iload_n 2, 1), some (.invokevirtual 72, 3), none, none, some (.astore_n 3, 1), some (.iload_n 1, 1), some (.iconst 0, 1), some (.ldc 76, 2), none, some (.invokestatic 77, 3), none, none, some (.invokestatic 81, 3), none, none, some (.aload_n 3, 1), some (.iload_n 1, 1), some (.invokevirtual 85, 3), none, none, some (.return_, 1)]
/-- OrdinalDesk.raise(III)V -/
def oc_63 : List (Option (ClassFile.Instr × Nat)) := [some (.aload_n 0, 1), some (.iload_n 1, 1), some (.invokevirtual 72, 3), none, none, some (.astore 4, 2), none, some (.aload_n 0, 1), some (.iload_n 3, 1), some (.invokevirtual 72, 3), none, none, some (.astore 5, 2), none, some (.iload_n 2, 1), some (.iconst 1, 1), some (.ldc 76, 2), none, some (.invokestatic 77, 3), none, none, some (.invokestatic 81, 3), none, none, some (.aload_n 0, 1), some (.getfield 23, 3), none, none, some (.aload 4, 2), none, some (.iload_n 2, 1), some (.i2l, 1), some (.invokevirtual 89, 3), none, none, some (.aload 5, 2), none, some (.aload_n 0, 1), some (.getfield 23, 3), none, none, some (.invokevirtual 93, 3), none, none, some (.return_, 1)]
/-- OrdinalDesk.op(IIII)I -/
def oc_64 : List (Option (ClassFile.Instr × Nat)) := [some (.aload_n 0, 1), some (.iload_n 2, 1), some (.invokevirtual 72, 3), none, none, some (.astore 5, 2), none, some (.aload_n 0, 1), some (.iload_n 3, 1), some (.invokevirtual 72, 3), none, none, some (.astore 6, 2), none, some (.aload_n 0, 1), some (.iload 4, 2), none, some (.invokevirtual 72, 3), none, none, some (.astore 7, 2), none, some (.iload_n 1, 1), some (.iconst 0, 1), some (.bipush 7, 2), none, some (.invokestatic 77, 3), none, none, some (.invokestatic 81, 3), none, none, some (.iload_n 1, 1), some (.iconst 5, 1), some (.if_icmp .ne 13, 3), none, none, some (.aload 5, 2), none, some (.aload 6, 2), none, some (.invokestatic 97, 3), none, none, some (.ifCond .lt 7, 3), none, none, some (.iconst 1, 1), some (.goto 4, 3), none, none, some (.iconst 0, 1), some (.invokestatic 81, 3), none, none, some (.iload_n 1, 1), some (.bipush 6, 2), none, some (.if_icmp .eq 9, 3), none, none, some (.iload_n 1, 1), some (.bipush 7, 2), none, some (.if_icmp .ne 11, 3), none, none, some (.aload 6, 2), none, some (.invokevirtual 101, 3), none, none, some (.ifCond .ne 7, 3), none, none, some (.iconst 1, 1), some (.goto 4, 3), none, none, some (.iconst 0, 1), some (.invokestatic 81, 3), none, none, some (.iload_n 1, 1), some (.tableswitch 162 0 6 #[44, 58, 76, 94, 108, 126, 140], 44), none, none, none, none, none, none, none, none, none, none, none, none, none, none, none, none, none, none, none, none, none, none, none, none, none, none, none, none, none, none, none, none, none, none, none, none, none, none, none, none, none, none, none, some (.aload 5, 2), none, some (.aload 6, 2), none, some (.aload_n 0, 1), some (.getfield 23, 3), none, none, some (.invokestatic 105, 3), none, none, some (.goto 126, 3), none, none, some (.aload_n 0, 1), some (.getfield 33, 3), none, none, some (.aload 5, 2), none, some (.aload 6, 2), none, some (.aload_n 0, 1), some (.getfield 23, 3), none, none, some (.invokevirtual 109, 3), none, none, some (.goto 108, 3), none, none, some (.aload_n 0, 1), some (.getfield 33, 3), none, none, some (.aload 5, 2), none, some (.aload 6, 2), none, some (.aload_n 0, 1), some (.getfield 23, 3), none, none, some (.invokevirtual 112, 3), none, none, some (.goto 90, 3), none, none, some (.aload 5, 2), none, some (.aload 6, 2), none, some (.aload_n 0, 1), some (.getfield 23, 3), none, none, some (.invokestatic 115, 3), none, none, some (.goto 76, 3), none, none, some (.aload_n 0, 1), some (.getfield 33, 3), none, none, some (.aload 5, 2), none, some (.aload 6, 2), none, some (.aload_n 0, 1), some (.getfield 23, 3), none, none, some (.invokevirtual 118, 3), none, none, some (.goto 58, 3), none, none, some (.aload 5, 2), none, some (.aload 6, 2), none, some (.aload_n 0, 1), some (.getfield 23, 3), none, none, some (.invokestatic 121, 3), none, none, some (.goto 44, 3), none, none, some (.aload_n 0, 1), some (.getfield 40, 3), none, none, some (.aload 5, 2), none, some (.aload 6, 2), none, some (.aload_n 0, 1), some (.getfield 23, 3), none, none, some (.aload_n 0, 1), some (.getfield 27, 3), none, none, some (.invokevirtual 124, 3), none, none, some (.goto 22, 3), none, none, some (.aload_n 0, 1), some (.getfield 40, 3), none, none, some (.aload 5, 2), none, some (.aload 6, 2), none, some (.aload_n 0, 1), some (.getfield 27, 3), none, none, some (.aload_n 0, 1), some (.getfield 23, 3), none, none, some (.invokevirtual 124, 3), none, none, some (.aload_n 0, 1), some (.aload 7, 2), none, some (.invokevirtual 128, 3), none, none, some (.ireturn, 1)]
/-- OrdinalDesk.member(III)I -/
def oc_65 : List (Option (ClassFile.Instr × Nat)) := [some (.aload_n 0, 1), some (.iload_n 1, 1), some (.invokevirtual 72, 3), none, none, some (.astore 4, 2), none, some (.aload_n 0, 1), some (.iload_n 3, 1), some (.invokevirtual 72, 3), none, none, some (.astore 5, 2), none, some (.aload 4, 2), none, some (.invokevirtual 132, 3), none, none, some (.iconst 2, 1), some (.if_icmp .ne 7, 3), none, none, some (.iconst 1, 1), some (.goto 4, 3), none, none, some (.iconst 0, 1), some (.invokestatic 81, 3), none, none, some (.iload_n 2, 1), some (.iconst 0, 1), some (.ldc 76, 2), none, some (.invokestatic 77, 3), none, none, some (.invokestatic 81, 3), none, none, some (.aload 4, 2), none, some (.iload_n 2, 1), some (.aload_n 0, 1), some (.getfield 23, 3), none, none, some (.invokestatic 136, 3), none, none, some (.aload_n 0, 1), some (.aload 5, 2), none, some (.invokevirtual 128, 3), none, none, some (.ireturn, 1)]
/-- OrdinalDesk.step(III)I -/
def oc_66 : List (Option (ClassFile.Instr × Nat)) := [some (.aload_n 0, 1), some (.iload_n 1, 1), some (.invokevirtual 72, 3), none, none, some (.astore 4, 2), none, some (.aload_n 0, 1), some (.iload_n 3, 1), some (.invokevirtual 72, 3), none, none, some (.astore 5, 2), none, some (.aload 4, 2), none, some (.invokevirtual 101, 3), none, none, some (.ifCond .ne 7, 3), none, none, some (.iconst 1, 1), some (.goto 4, 3), none, none, some (.iconst 0, 1), some (.invokestatic 81, 3), none, none, some (.iload_n 2, 1), some (.iconst 2, 1), some (.ldc 76, 2), none, some (.invokestatic 77, 3), none, none, some (.invokestatic 81, 3), none, none, some (.aload_n 0, 1), some (.getfield 47, 3), none, none, some (.aload 4, 2), none, some (.iload_n 2, 1), some (.aload_n 0, 1), some (.getfield 23, 3), none, none, some (.invokevirtual 140, 3), none, none, some (.aload_n 0, 1), some (.aload 5, 2), none, some (.invokevirtual 128, 3), none, none, some (.ireturn, 1)]
/-- OrdinalDesk.chop(IIII)I -/
def oc_67 : List (Option (ClassFile.Instr × Nat)) := [some (.aload_n 0, 1), some (.iload_n 1, 1), some (.invokevirtual 72, 3), none, none, some (.astore 5, 2), none, some (.aload_n 0, 1), some (.iload 4, 2), none, some (.invokevirtual 72, 3), none, none, some (.astore 6, 2), none, some (.iload_n 3, 1), some (.iconst 0, 1), some (.sipush 1000, 3), none, none, some (.invokestatic 77, 3), none, none, some (.invokestatic 81, 3), none, none, some (.iload_n 2, 1), some (.ifCond .lt 20, 3), none, none, some (.aload_n 0, 1), some (.getfield 54, 3), none, none, some (.aload 5, 2), none, some (.iload_n 2, 1), some (.invokevirtual 143, 3), none, none, some (.ifCond .eq 7, 3), none, none, some (.iconst 1, 1), some (.goto 4, 3), none, none, some (.iconst 0, 1), some (.invokestatic 81, 3), none, none, some (.aload_n 0, 1), some (.getfield 54, 3), none, none, some (.aload 5, 2), none, some (.iload_n 3, 1), some (.aload_n 0, 1), some (.getfield 23, 3), none, none, some (.invokevirtual 147, 3), none, none, some (.aload_n 0, 1), some (.aload 6, 2), none, some (.invokevirtual 128, 3), none, none, some (.ireturn, 1)]
/-- OrdinalDesk.start(III)I -/
def oc_68 : List (Option (ClassFile.Instr × Nat)) := [some (.aload_n 0, 1), some (.iload_n 3, 1), some (.invokevirtual 72, 3), none, none, some (.astore 4, 2), none, some (.iload_n 1, 1), some (.iconst 0, 1), some (.ldc 150, 2), none, some (.invokestatic 77, 3), none, none, some (.invokestatic 81, 3), none, none, some (.iload_n 2, 1), some (.iconst 2, 1), some (.sipush 1000, 3), none, none, some (.invokestatic 77, 3), none, none, some (.invokestatic 81, 3), none, none, some (.iload_n 1, 1), some (.iload_n 2, 1), some (.aload_n 0, 1), some (.getfield 23, 3), none, none, some (.invokestatic 151, 3), none, none, some (.aload_n 0, 1), some (.aload 4, 2), none, some (.invokevirtual 128, 3), none, none, some (.ireturn, 1)]
/-- OrdinalDesk.compare(II)I -/
def oc_69 : List (Option (ClassFile.Instr × Nat)) := [some (.aload_n 0, 1), some (.iload_n 1, 1), some (.invokevirtual 72, 3), none, none, some (.aload_n 0, 1), some (.iload_n 2, 1), some (.invokevirtual 72, 3), none, none, some (.invokestatic 97, 3), none, none, some (.ireturn, 1)]
/-- OrdinalDesk.kind(I)I -/
def oc_70 : List (Option (ClassFile.Instr × Nat)) := [some (.aload_n 0, 1), some (.iload_n 1, 1), some (.invokevirtual 72, 3), none, none, some (.invokevirtual 132, 3), none, none, some (.ireturn, 1)]
/-- OrdinalDesk.size(I)I -/
def oc_71 : List (Option (ClassFile.Instr × Nat)) := [some (.aload_n 0, 1), some (.iload_n 1, 1), some (.invokevirtual 72, 3), none, none, some (.invokevirtual 155, 3), none, none, some (.ireturn, 1)]
/-- OrdinalDesk.at(II)I -/
def oc_72 : List (Option (ClassFile.Instr × Nat)) := [some (.aload_n 0, 1), some (.iload_n 1, 1), some (.invokevirtual 72, 3), none, none, some (.astore_n 3, 1), some (.iload_n 2, 1), some (.ifCond .lt 11, 3), none, none, some (.iload_n 2, 1), some (.aload_n 3, 1), some (.getfield 158, 3), none, none, some (.if_icmp .lt 7, 3), none, none, some (.iconst (-1), 1), some (.goto 9, 3), none, none, some (.aload_n 3, 1), some (.getfield 161, 3), none, none, some (.iload_n 2, 1), some (.iaload, 1), some (.ireturn, 1)]
/-- OrdinalDesk.value(II)I -/
def oc_73 : List (Option (ClassFile.Instr × Nat)) := [some (.aload_n 0, 1), some (.iload_n 1, 1), some (.invokevirtual 72, 3), none, none, some (.astore_n 3, 1), some (.iload_n 2, 1), some (.iconst 0, 1), some (.sipush 1000, 3), none, none, some (.invokestatic 77, 3), none, none, some (.invokestatic 81, 3), none, none, some (.aload_n 0, 1), some (.getfield 68, 3), none, none, some (.aload_n 3, 1), some (.iload_n 2, 1), some (.invokevirtual 165, 3), none, none, some (.lstore 4, 2), none, some (.lload 4, 2), none, some (.ldc2_w 169, 3), none, none, some (.lcmp, 1), some (.ifCond .le 7, 3), none, none, some (.iconst (-1), 1), some (.goto 6, 3), none, none, some (.lload 4, 2), none, some (.l2i, 1), some (.ireturn, 1)]
/-- OrdinalDesk.fast(III)I -/
def oc_74 : List (Option (ClassFile.Instr × Nat)) := [some (.aload_n 0, 1), some (.iload_n 1, 1), some (.invokevirtual 72, 3), none, none, some (.astore 4, 2), none, some (.iload_n 2, 1), some (.iconst 0, 1), some (.sipush 1000, 3), none, none, some (.invokestatic 77, 3), none, none, some (.invokestatic 81, 3), none, none, some (.iload_n 3, 1), some (.iconst 0, 1), some (.sipush 2000, 3), none, none, some (.invokestatic 77, 3), none, none, some (.invokestatic 81, 3), none, none, some (.aload_n 0, 1), some (.getfield 61, 3), none, none, some (.aload 4, 2), none, some (.iload_n 2, 1), some (.iload_n 3, 1), some (.invokevirtual 171, 3), none, none, some (.ireturn, 1)]
/-- OrdinalDesk.record(I)I -/
def oc_75 : List (Option (ClassFile.Instr × Nat)) := [some (.aload_n 0, 1), some (.iload_n 1, 1), some (.invokevirtual 72, 3), none, none, some (.astore_n 2, 1), some (.aload_n 0, 1), some (.getfield 18, 3), none, none, some (.bipush 12, 2), none, some (.if_icmp .lt 13, 3), none, none, some (.new 175, 3), none, none, some (.dup, 1), some (.ldc 177, 2), none, some (.invokespecial 179, 3), none, none, some (.athrow, 1), some (.aload_n 0, 1), some (.getfield 15, 3), none, none, some (.aload_n 0, 1), some (.getfield 18, 3), none, none, some (.aaload, 1), some (.aload_n 2, 1), some (.invokevirtual 93, 3), none, none, some (.aload_n 0, 1), some (.dup, 1), some (.getfield 18, 3), none, none, some (.iconst 1, 1), some (.iadd, 1), some (.putfield 18, 3), none, none, some (.aload_n 0, 1), some (.getfield 18, 3), none, none, some (.ireturn, 1)]
/-- OrdinalDesk.rise()I -/
def oc_76 : List (Option (ClassFile.Instr × Nat)) := [some (.iconst 1, 1), some (.istore_n 1, 1), some (.iload_n 1, 1), some (.aload_n 0, 1), some (.getfield 18, 3), none, none, some (.if_icmp .ge 31, 3), none, none, some (.aload_n 0, 1), some (.getfield 15, 3), none, none, some (.iload_n 1, 1), some (.aaload, 1), some (.aload_n 0, 1), some (.getfield 15, 3), none, none, some (.iload_n 1, 1), some (.iconst 1, 1), some (.isub, 1), some (.aaload, 1), some (.invokestatic 97, 3), none, none, some (.ifCond .lt 5, 3), none, none, some (.iload_n 1, 1), some (.ireturn, 1), some (.iinc 1 1, 3), none, none, some (.goto (-33), 3), none, none, some (.iconst (-1), 1), some (.ireturn, 1)]
/-- OrdinalDesk.replace(II)V -/
def oc_77 : List (Option (ClassFile.Instr × Nat)) := [some (.aload_n 0, 1), some (.iload_n 1, 1), some (.invokevirtual 182, 3), none, none, some (.aload_n 0, 1), some (.iload_n 2, 1), some (.invokevirtual 72, 3), none, none, some (.invokevirtual 93, 3), none, none, some (.return_, 1)]
/-- OrdinalDesk.recall(II)V -/
def oc_78 : List (Option (ClassFile.Instr × Nat)) := [some (.aload_n 0, 1), some (.iload_n 2, 1), some (.invokevirtual 72, 3), none, none, some (.aload_n 0, 1), some (.iload_n 1, 1), some (.invokevirtual 182, 3), none, none, some (.invokevirtual 93, 3), none, none, some (.return_, 1)]
/-- OrdinalDesk.wipe()I -/
def oc_79 : List (Option (ClassFile.Instr × Nat)) := [some (.aload_n 0, 1), some (.getfield 18, 3), none, none, some (.istore_n 1, 1), some (.aload_n 0, 1), some (.iconst 0, 1), some (.putfield 18, 3), none, none, some (.iload_n 1, 1), some (.ireturn, 1)]
/-- OrdinalDesk.slot(I)LOrdinalDesk$Row; -/
def oc_80 : List (Option (ClassFile.Instr × Nat)) := [some (.iload_n 1, 1), some (.ifCond .lt 9, 3), none, none, some (.iload_n 1, 1), some (.bipush 8, 2), none, some (.if_icmp .lt 13, 3), none, none, some (.new 185, 3), none, none, some (.dup, 1), some (.ldc 187, 2), none, some (.invokespecial 189, 3), none, none, some (.athrow, 1), some (.aload_n 0, 1), some (.getfield 11, 3), none, none, some (.iload_n 1, 1), some (.aaload, 1), some (.areturn, 1)]
/-- OrdinalDesk.recordNumber(I)LOrdinalDesk$Row; -/
def oc_81 : List (Option (ClassFile.Instr × Nat)) := [some (.iload_n 1, 1), some (.ifCond .lt 11, 3), none, none, some (.iload_n 1, 1), some (.aload_n 0, 1), some (.getfield 18, 3), none, none, some (.if_icmp .lt 13, 3), none, none, some (.new 185, 3), none, none, some (.dup, 1), some (.ldc 190, 2), none, some (.invokespecial 189, 3), none, none, some (.athrow, 1), some (.aload_n 0, 1), some (.getfield 15, 3), none, none, some (.iload_n 1, 1), some (.aaload, 1), some (.areturn, 1)]
/-- OrdinalDesk.isWithin(III)Z -/
def oc_82 : List (Option (ClassFile.Instr × Nat)) := [some (.iload_n 0, 1), some (.iload_n 1, 1), some (.if_icmp .lt 12, 3), none, none, some (.iload_n 0, 1), some (.iload_n 2, 1), some (.if_icmp .gt 7, 3), none, none, some (.iconst 1, 1), some (.goto 4, 3), none, none, some (.iconst 0, 1), some (.ireturn, 1)]
/-- OrdinalDesk.refuseUnless(Z)V -/
def oc_83 : List (Option (ClassFile.Instr × Nat)) := [some (.iload_n 0, 1), some (.ifCond .ne 13, 3), none, none, some (.new 192, 3), none, none, some (.dup, 1), some (.ldc 194, 2), none, some (.invokespecial 196, 3), none, none, some (.athrow, 1), some (.return_, 1)]
/-- OrdinalDesk.keepResult(LOrdinalDesk$Row;)I -/
def oc_84 : List (Option (ClassFile.Instr × Nat)) := [some (.aload_n 1, 1), some (.aload_n 0, 1), some (.getfield 23, 3), none, none, some (.invokevirtual 93, 3), none, none, some (.aload_n 1, 1), some (.invokevirtual 155, 3), none, none, some (.ireturn, 1)]
/-- OrdinalDeskModel.<init>()V -/
def oc_85 : List (Option (ClassFile.Instr × Nat)) := [some (.aload_n 0, 1), some (.invokespecial 1, 3), none, none, some (.aload_n 0, 1), some (.sipush 7360, 3), none, none, some (.newarray .int, 2), none, some (.putfield 7, 3), none, none, some (.aload_n 0, 1), some (.bipush 113, 2), none, some (.newarray .int, 2), none, some (.putfield 13, 3), none, none, some (.aload_n 0, 1), some (.bipush 12, 2), none, some (.newarray .int, 2), none, some (.putfield 16, 3), none, none, some (.aload_n 0, 1), some (.bipush 24, 2), none, some (.newarray .int, 2), none, some (.putfield 19, 3), none, none, some (.aload_n 0, 1), some (.bipush 24, 2), none, some (.newarray .int, 2), none, some (.putfield 22, 3), none, none, some (.aload_n 0, 1), some (.bipush 24, 2), none, some (.newarray .int, 2), none, some (.putfield 25, 3), none, none, some (.aload_n 0, 1), some (.bipush 24, 2), none, some (.newarray .long, 2), none, some (.putfield 28, 3), none, none, some (.return_, 1)]
/-- OrdinalDeskModel.thrown()I -/
def oc_86 : List (Option (ClassFile.Instr × Nat)) := [some (.aload_n 0, 1), some (.getfield 32, 3), none, none, some (.ireturn, 1)]
/-- OrdinalDeskModel.clear(I)V -/
def oc_87 : List (Option (ClassFile.Instr × Nat)) := [some (.aload_n 0, 1), some (.getfield 13, 3), none, none, some (.iload_n 1, 1), some (.iconst 0, 1), some (.iastore, 1), some (.return_, 1)]
/-- OrdinalDeskModel.append(II)V -/
def oc_88 : List (Option (ClassFile.Instr × Nat)) := [some (.aload_n 0, 1), some (.getfield 13, 3), none, none, some (.iload_n 1, 1), some (.iaload, 1), some (.bipush 60, 2), none, some (.if_icmp .ne 11, 3), none, none, some (.aload_n 0, 1), some (.iconst 1, 1), some (.putfield 36, 3), none, none, some (.goto 30, 3), none, none, some (.aload_n 0, 1), some (.getfield 7, 3), none, none, some (.bipush 64, 2), none, some (.iload_n 1, 1), some (.imul, 1), some (.aload_n 0, 1), some (.getfield 13, 3), none, none, some (.iload_n 1, 1), some (.iaload, 1), some (.iadd, 1), some (.iload_n 2, 1), some (.iastore, 1), some (.aload_n 0, 1), some (.getfield 13, 3), none, none, some (.iload_n 1, 1), some (.dup2, 1), some (.iaload, 1), some (.iconst 1, 1), some (.iadd, 1), some (.iastore, 1), some (.return_, 1)]
/-- OrdinalDeskModel.appendPart(IIII)V -/
def oc_89 : List (Option (ClassFile.Instr × Nat)) := [some (.iload_n 3, 1), some (.istore 5, 2), none, some (.iload 5, 2), none, some (.iload 4, 2), none, some (.if_icmp .ge 26, 3), none, none, some (.aload_n 0, 1), some (.iload_n 1, 1), some (.aload_n 0, 1), some (.getfield 7, 3), none, none, some (.bipush 64, 2), none, some (.iload_n 2, 1), some (.imul, 1), some (.iload 5, 2), none, some (.iadd, 1), some (.iaload, 1), some (.invokevirtual 40, 3), none, none, some (.iinc 5 1, 3), none, none, some (.goto (-27), 3), none, none, some (.return_, 1)]
/-- OrdinalDeskModel.appendTerm(IIJ)V -/
def oc_90 : List (Option (ClassFile.Instr × Nat)) := [some (.aload_n 0, 1), some (.iload_n 1, 1), some (.iconst 1, 1), some (.invokevirtual 40, 3), none, none, some (.aload_n 0, 1), some (.iload_n 1, 1), some (.iload_n 2, 1), some (.iconst 0, 1), some (.aload_n 0, 1), some (.getfield 13, 3), none, none, some (.iload_n 2, 1), some (.iaload, 1), some (.invokevirtual 44, 3), none, none, some (.aload_n 0, 1), some (.iload_n 1, 1), some (.iconst 0, 1), some (.invokevirtual 40, 3), none, none, some (.aload_n 0, 1), some (.aload_n 0, 1), some (.getfield 36, 3), none, none, some (.ifCond .ne 11, 3), none, none, some (.lload_n 3, 1), some (.ldc2_w 48, 3), none, none, some (.lcmp, 1), some (.ifCond .le 7, 3), none, none, some (.iconst 1, 1), some (.goto 4, 3), none, none, some (.iconst 0, 1), some (.putfield 36, 3), none, none, some (.aload_n 0, 1), some (.iload_n 1, 1), some (.lload_n 3, 1), some (.ldc2_w 48, 3), none, none, some (.lcmp, 1), some (.ifCond .le 8, 3), none, none, some (.ldc 50, 2), none, some (.goto 5, 3), none, none, some (.lload_n 3, 1), some (.l2i, 1), some (.invokevirtual 40, 3), none, none, some (.return_, 1)]
/-- OrdinalDeskModel.copy(II)V -/
def oc_91 : List (Option (ClassFile.Instr × Nat)) := [some (.aload_n 0, 1), some (.iload_n 2, 1), some (.invokevirtual 51, 3), none, none, some (.aload_n 0, 1), some (.iload_n 2, 1), some (.iload_n 1, 1), some (.iconst 0, 1), some (.aload_n 0, 1), some (.getfield 13, 3), none, none, some (.iload_n 1, 1), some (.iaload, 1), some (.invokevirtual 44, 3), none, none, some (.return_, 1)]
/-- OrdinalDeskModel.token(II)I -/
def oc_92 : List (Option (ClassFile.Instr × Nat)) := [some (.iload_n 2, 1), some (.aload_n 0, 1), some (.getfield 13, 3), none, none, some (.iload_n 1, 1), some (.iaload, 1), some (.if_icmp .ge 17, 3), none, none, some (.aload_n 0, 1), some (.getfield 7, 3), none, none, some (.bipush 64, 2), none, some (.iload_n 1, 1), some (.imul, 1), some (.iload_n 2, 1), some (.iadd, 1), some (.iaload, 1), some (.goto 4, 3), none, none, some (.iconst 0, 1), some (.ireturn, 1)]
/-- OrdinalDeskModel.behind(II)I -/
def oc_93 : List (Option (ClassFile.Instr × Nat)) := [some (.iconst 0, 1), some (.istore_n 3, 1), some (.iload_n 2, 1), some (.istore 4, 2), none, some (.iconst 1, 1), some (.istore 5, 2), none, some (.iload 5, 2), none, some (.ifCond .eq 43, 3), none, none, some (.aload_n 0, 1), some (.iload_n 1, 1), some (.iload 4, 2), none, some (.invokevirtual 55, 3), none, none, some (.iconst 1, 1), some (.if_icmp .ne 12, 3), none, none, some (.iinc 3 1, 3), none, none, some (.iinc 4 1, 3), none, none, some (.goto 9, 3), none, none, some (.iinc 3 (-1), 3), none, none, some (.iinc 4 2, 3), none, none, some (.iload_n 3, 1), some (.ifCond .le 7, 3), none, none, some (.iconst 1, 1), some (.goto 4, 3), none, none, some (.iconst 0, 1), some (.istore 5, 2), none, some (.goto (-42), 3), none, none, some (.iload 4, 2), none, some (.ireturn, 1)]
/-- OrdinalDeskModel.coefficient(II)I -/
def oc_94 : List (Option (ClassFile.Instr × Nat)) := [some (.aload_n 0, 1), some (.getfield 7, 3), none, none, some (.bipush 64, 2), none, some (.iload_n 1, 1), some (.imul, 1), some (.iload_n 2, 1), some (.iadd, 1), some (.iconst 1, 1), some (.isub, 1), some (.iaload, 1), some (.ireturn, 1)]
/-- OrdinalDeskModel.exponent(IIII)V -/
def oc_95 : List (Option (ClassFile.Instr × Nat)) := [some (.aload_n 0, 1), some (.iload 4, 2), none, some (.invokevirtual 51, 3), none, none, some (.aload_n 0, 1), some (.iload 4, 2), none, some (.iload_n 1, 1), some (.iload_n 2, 1), some (.iconst 1, 1), some (.iadd, 1), some (.iload_n 3, 1), some (.iconst 2, 1), some (.isub, 1), some (.invokevirtual 44, 3), none, none, some (.return_, 1)]
/-- OrdinalDeskModel.order(II)I -/
def oc_96 : List (Option (ClassFile.Instr × Nat)) := [some (.iconst 0, 1), some (.istore_n 3, 1), some (.iload_n 3, 1), some (.bipush 60, 2), none, some (.if_icmp .ge 45, 3), none, none, some (.aload_n 0, 1), some (.iload_n 1, 1), some (.iload_n 3, 1), some (.invokevirtual 55, 3), none, none, some (.aload_n 0, 1), some (.iload_n 2, 1), some (.iload_n 3, 1), some (.invokevirtual 55, 3), none, none, some (.if_icmp .eq 24, 3), none, none, some (.aload_n 0, 1), some (.iload_n 1, 1), some (.iload_n 3, 1), some (.invokevirtual 55, 3), none, none, some (.aload_n 0, 1), some (.iload_n 2, 1), some (.iload_n 3, 1), some (.invokevirtual 55, 3), none, none, some (.if_icmp .ge 7, 3), none, none, some (.iconst (-1), 1), some (.goto 4, 3), none, none, some (.iconst 1, 1), some (.ireturn, 1), some (.iinc 3 1, 3), none, none, some (.goto (-45), 3), none, none, some (.iconst 0, 1), some (.ireturn, 1)]
/-- OrdinalDeskModel.last(I)I -/
def oc_97 : List (Option (ClassFile.Instr × Nat)) := [some (.iconst 0, 1), some (.istore_n 2, 1), some (.iconst 0, 1), some (.istore_n 3, 1), some (.iload_n 2, 1), some (.aload_n 0, 1), some (.getfield 13, 3), none, none, some (.iload_n 1, 1), some (.iaload, 1), some (.if_icmp .ge 15, 3), none, none, some (.iload_n 2, 1), some (.istore_n 3, 1), some (.aload_n 0, 1), some (.iload_n 1, 1), some (.iload_n 2, 1), some (.invokevirtual 59, 3), none, none, some (.istore_n 2, 1), some (.goto (-19), 3), none, none, some (.iload_n 3, 1), some (.ireturn, 1)]
/-- OrdinalDeskModel.sort(I)I -/
def oc_98 : List (Option (ClassFile.Instr × Nat)) := [some (.aload_n 0, 1), some (.getfield 13, 3), none, none, some (.iload_n 1, 1), some (.iaload, 1), some (.istore_n 2, 1), some (.iload_n 2, 1), some (.ifCond .ne 7, 3), none, none, some (.iconst 0, 1), some (.goto 19, 3), none, none, some (.aload_n 0, 1), some (.iload_n 1, 1), some (.invokevirtual 62, 3), none, none, some (.iload_n 2, 1), some (.iconst 3, 1), some (.isub, 1), some (.if_icmp .ne 7, 3), none, none, some (.iconst 1, 1), some (.goto 4, 3), none, none, some (.iconst 2, 1), some (.ireturn, 1)]
/-- OrdinalDeskModel.isInfinite(I)Z -/
def oc_99 : List (Option (ClassFile.Instr × Nat)) := [some (.aload_n 0, 1), some (.getfield 13, 3), none, none, some (.iload_n 1, 1), some (.iaload, 1), some (.iconst 3, 1), some (.if_icmp .le 7, 3), none, none, some (.iconst 1, 1), some (.goto 4, 3), none, none, some (.iconst 0, 1), some (.ireturn, 1)]
/-- OrdinalDeskModel.lay(II)V -/
def oc_100 : List (Option (ClassFile.Instr × Nat)) := [some (.aload_n 0, 1), some (.iload_n 1, 1), some (.invokevirtual 51, 3), none, none, some (.iload_n 2, 1), some (.ifCond .le 21, 3), none, none, some (.aload_n 0, 1), some (.iload_n 1, 1), some (.iconst 1, 1), some (.invokevirtual 40, 3), none, none, some (.aload_n 0, 1), some (.iload_n 1, 1), some (.iconst 0, 1), some (.invokevirtual 40, 3), none, none, some (.aload_n 0, 1), some (.iload_n 1, 1), some (.iload_n 2, 1), some (.invokevirtual 40, 3), none, none, some (.return_, 1)]
/-- OrdinalDeskModel.lower(I)V -/
def oc_101 : List (Option (ClassFile.Instr × Nat)) := [some (.aload_n 0, 1), some (.getfield 13, 3), none, none, some (.iload_n 1, 1), some (.iaload, 1), some (.istore_n 2, 1), some (.aload_n 0, 1), some (.getfield 7, 3), none, none, some (.bipush 64, 2), none, some (.iload_n 1, 1), some (.imul, 1), some (.iload_n 2, 1), some (.iadd, 1), some (.iconst 1, 1), some (.isub, 1), some (.iaload, 1), some (.iconst 1, 1), some (.if_icmp .ne 15, 3), none, none, some (.aload_n 0, 1), some (.getfield 13, 3), none, none, some (.iload_n 1, 1), some (.iload_n 2, 1), some (.iconst 3, 1), some (.isub, 1), some (.iastore, 1), some (.goto 20, 3), none, none, some (.aload_n 0, 1), some (.getfield 7, 3), none, none, some (.bipush 64, 2), none, some (.iload_n 1, 1), some (.imul, 1), some (.iload_n 2, 1), some (.iadd, 1), some (.iconst 1, 1), some (.isub, 1), some (.dup2, 1), some (.iaload, 1), some (.iconst 1, 1), some (.isub, 1), some (.iastore, 1), some (.return_, 1)]
/-- OrdinalDeskModel.sum(III)V -/
def oc_102 : List (Option (ClassFile.Instr × Nat)) := [some (.aload_n 0, 1), some (.iload_n 3, 1), some (.invokevirtual 51, 3), none, none, some (.aload_n 0, 1), some (.getfield 13, 3), none, none, some (.iload_n 2, 1), some (.iaload, 1), some (.ifCond .ne 10, 3), none, none, some (.aload_n 0, 1), some (.iload_n 1, 1), some (.iload_n 3, 1), some (.invokevirtual 66, 3), none, none, some (.return_, 1), some (.aload_n 0, 1), some (.iload_n 2, 1), some (.iconst 0, 1), some (.invokevirtual 59, 3), none, none, some (.istore 4, 2), none, some (.aload_n 0, 1), some (.iload_n 2, 1), some (.iconst 0, 1), some (.iload 4, 2), none, some (.bipush 65, 2), none, some (.invokevirtual 69, 3), none, none, some (.aload_n 0, 1), some (.iload_n 2, 1), some (.iload 4, 2), none, some (.invokevirtual 72, 3), none, none, some (.i2l, 1), some (.lstore 5, 2), none, some (.iconst 0, 1), some (.istore 7, 2), none, some (.iconst 1, 1), some (.istore 8, 2), none, some (.iload 8, 2), none, some (.ifCond .eq 101, 3), none, none, some (.iload 7, 2), none, some (.aload_n 0, 1), some (.getfield 13, 3), none, none, some (.iload_n 1, 1), some (.iaload, 1), some (.if_icmp .ge 90, 3), none, none, some (.aload_n 0, 1), some (.iload_n 1, 1), some (.iload 7, 2), none, some (.invokevirtual 59, 3), none, none, some (.istore 9, 2), none, some (.aload_n 0, 1), some (.iload_n 1, 1), some (.iload 7, 2), none, some (.iload 9, 2), none, some (.bipush 64, 2), none, some (.invokevirtual 69, 3), none, none, some (.aload_n 0, 1), some (.bipush 64, 2), none, some (.bipush 65, 2), none, some (.invokevirtual 75, 3), none, none, some (.istore 10, 2), none, some (.iload 10, 2), none, some (.ifCond .le 13, 3), none, none, some (.aload_n 0, 1), some (.iload_n 3, 1), some (.iload_n 1, 1), some (.iload 7, 2), none, some (.iload 9, 2), none, some (.invokevirtual 44, 3), none, none, some (.iload 10, 2), none, some (.ifCond .ne 17, 3), none, none, some (.lload 5, 2), none, some (.aload_n 0, 1), some (.iload_n 1, 1), some (.iload 9, 2), none, some (.invokevirtual 72, 3), none, none, some (.i2l, 1), some (.ladd, 1), some (.goto 5, 3), none, none, some (.lload 5, 2), none, some (.lstore 5, 2), none, some (.iload 10, 2), none, some (.ifCond .le 7, 3), none, none, some (.iconst 1, 1), some (.goto 4, 3), none, none, some (.iconst 0, 1), some (.istore 8, 2), none, some (.iload 9, 2), none, some (.istore 7, 2), none, some (.goto (-100), 3), none, none, some (.aload_n 0, 1), some (.iload_n 3, 1), some (.bipush 65, 2), none, some (.lload 5, 2), none, some (.invokevirtual 78, 3), none, none, some (.aload_n 0, 1), some (.iload_n 3, 1), some (.iload_n 2, 1), some (.iload 4, 2), none, some (.aload_n 0, 1), some (.getfield 13, 3), none, none, some (.iload_n 2, 1), some (.iaload, 1), some (.invokevirtual 44, 3), none, none, some (.return_, 1)]
/-- OrdinalDeskModel.merge(III)V -/
def oc_103 : List (Option (ClassFile.Instr × Nat)) := [some (.aload_n 0, 1), some (.iload_n 3, 1), some (.invokevirtual 51, 3), none, none, some (.iconst 0, 1), some (.istore 4, 2), none, some (.iconst 0, 1), some (.istore 5, 2), none, some (.iload 4, 2), none, some (.aload_n 0, 1), some (.getfield 13, 3), none, none, some (.iload_n 1, 1), some (.iaload, 1), some (.if_icmp .ge 155, 3), none, none, some (.iload 5, 2), none, some (.aload_n 0, 1), some (.getfield 13, 3), none, none, some (.iload_n 2, 1), some (.iaload, 1), some (.if_icmp .ge 144, 3), none, none, some (.aload_n 0, 1), some (.iload_n 1, 1), some (.iload 4, 2), none, some (.invokevirtual 59, 3), none, none, some (.istore 6, 2), none, some (.aload_n 0, 1), some (.iload_n 2, 1), some (.iload 5, 2), none, some (.invokevirtual 59, 3), none, none, some (.istore 7, 2), none, some (.aload_n 0, 1), some (.iload_n 1, 1), some (.iload 4, 2), none, some (.iload 6, 2), none, some (.bipush 66, 2), none, some (.invokevirtual 69, 3), none, none, some (.aload_n 0, 1), some (.iload_n 2, 1), some (.iload 5, 2), none, some (.iload 7, 2), none, some (.bipush 67, 2), none, some (.invokevirtual 69, 3), none, none, some (.aload_n 0, 1), some (.bipush 66, 2), none, some (.bipush 67, 2), none, some (.invokevirtual 75, 3), none, none, some (.istore 8, 2), none, some (.iload 8, 2), none, some (.ifCond .le 16, 3), none, none, some (.aload_n 0, 1), some (.iload_n 3, 1), some (.iload_n 1, 1), some (.iload 4, 2), none, some (.iload 6, 2), none, some (.invokevirtual 44, 3), none, none, some (.goto 45, 3), none, none, some (.iload 8, 2), none, some (.ifCond .ge 16, 3), none, none, some (.aload_n 0, 1), some (.iload_n 3, 1), some (.iload_n 2, 1), some (.iload 5, 2), none, some (.iload 7, 2), none, some (.invokevirtual 44, 3), none, none, some (.goto 27, 3), none, none, some (.aload_n 0, 1), some (.iload_n 3, 1), some (.bipush 66, 2), none, some (.aload_n 0, 1), some (.iload_n 1, 1), some (.iload 6, 2), none, some (.invokevirtual 72, 3), none, none, some (.i2l, 1), some (.aload_n 0, 1), some (.iload_n 2, 1), some (.iload 7, 2), none, some (.invokevirtual 72, 3), none, none, some (.i2l, 1), some (.ladd, 1), some (.invokevirtual 78, 3), none, none, some (.iload 8, 2), none, some (.ifCond .lt 8, 3), none, none, some (.iload 6, 2), none, some (.goto 5, 3), none, none, some (.iload 4, 2), none, some (.istore 4, 2), none, some (.iload 8, 2), none, some (.ifCond .gt 8, 3), none, none, some (.iload 7, 2), none, some (.goto 5, 3), none, none, some (.iload 5, 2), none, some (.istore 5, 2), none, some (.goto (-160), 3), none, none, some (.aload_n 0, 1), some (.iload_n 3, 1), some (.iload_n 1, 1), some (.iload 4, 2), none, some (.aload_n 0, 1), some (.getfield 13, 3), none, none, some (.iload_n 1, 1), some (.iaload, 1), some (.invokevirtual 44, 3), none, none, some (.aload_n 0, 1), some (.iload_n 3, 1), some (.iload_n 2, 1), some (.iload 5, 2), none, some (.aload_n 0, 1), some (.getfield 13, 3), none, none, some (.iload_n 2, 1), some (.iaload, 1), some (.invokevirtual 44, 3), none, none, some (.return_, 1)]
/-- OrdinalDeskModel.product(III)V -/
def oc_104 : List (Option (ClassFile.Instr × Nat)) := [some (.aload_n 0, 1), some (.iload_n 3, 1), some (.invokevirtual 51, 3), none, none, some (.aload_n 0, 1), some (.getfield 13, 3), none, none, some (.iload_n 1, 1), some (.iaload, 1), some (.ifCond .ne 4, 3), none, none, some (.return_, 1), some (.aload_n 0, 1), some (.iload_n 1, 1), some (.iconst 0, 1), some (.invokevirtual 59, 3), none, none, some (.istore 4, 2), none, some (.aload_n 0, 1), some (.iload_n 1, 1), some (.iconst 0, 1), some (.iload 4, 2), none, some (.bipush 68, 2), none, some (.invokevirtual 69, 3), none, none, some (.aload_n 0, 1), some (.iload_n 1, 1), some (.iload 4, 2), none, some (.invokevirtual 72, 3), none, none, some (.i2l, 1), some (.lstore 5, 2), none, some (.iconst 0, 1), some (.istore 7, 2), none, some (.iload 7, 2), none, some (.aload_n 0, 1), some (.getfield 13, 3), none, none, some (.iload_n 2, 1), some (.iaload, 1), some (.if_icmp .ge 98, 3), none, none, some (.aload_n 0, 1), some (.iload_n 2, 1), some (.iload 7, 2), none, some (.invokevirtual 59, 3), none, none, some (.istore 8, 2), none, some (.aload_n 0, 1), some (.iload_n 2, 1), some (.iload 7, 2), none, some (.iload 8, 2), none, some (.bipush 69, 2), none, some (.invokevirtual 69, 3), none, none, some (.aload_n 0, 1), some (.iload_n 2, 1), some (.iload 8, 2), none, some (.invokevirtual 72, 3), none, none, some (.i2l, 1), some (.lstore 9, 2), none, some (.aload_n 0, 1), some (.getfield 13, 3), none, none, some (.bipush 69, 2), none, some (.iaload, 1), some (.ifCond .ne 32, 3), none, none, some (.aload_n 0, 1), some (.iload_n 3, 1), some (.bipush 68, 2), none, some (.lload 5, 2), none, some (.lload 9, 2), none, some (.lmul, 1), some (.invokevirtual 78, 3), none, none, some (.aload_n 0, 1), some (.iload_n 3, 1), some (.iload_n 1, 1), some (.iload 4, 2), none, some (.aload_n 0, 1), some (.getfield 13, 3), none, none, some (.iload_n 1, 1), some (.iaload, 1), some (.invokevirtual 44, 3), none, none, some (.goto 22, 3), none, none, some (.aload_n 0, 1), some (.bipush 68, 2), none, some (.bipush 69, 2), none, some (.bipush 70, 2), none, some (.invokevirtual 82, 3), none, none, some (.aload_n 0, 1), some (.iload_n 3, 1), some (.bipush 70, 2), none, some (.lload 9, 2), none, some (.invokevirtual 78, 3), none, none, some (.iload 8, 2), none, some (.istore 7, 2), none, some (.goto (-103), 3), none, none, some (.return_, 1)]
/-- OrdinalDeskModel.cross(III)V -/
def oc_105 : List (Option (ClassFile.Instr × Nat)) := [some (.aload_n 0, 1), some (.iload_n 3, 1), some (.invokevirtual 51, 3), none, none, some (.iconst 0, 1), some (.istore 4, 2), none, some (.iload 4, 2), none, some (.aload_n 0, 1), some (.getfield 13, 3), none, none, some (.iload_n 1, 1), some (.iaload, 1), some (.if_icmp .ge 138, 3), none, none, some (.aload_n 0, 1), some (.iload_n 1, 1), some (.iload 4, 2), none, some (.invokevirtual 59, 3), none, none, some (.istore 5, 2), none, some (.aload_n 0, 1), some (.iload_n 1, 1), some (.iload 4, 2), none, some (.iload 5, 2), none, some (.bipush 71, 2), none, some (.invokevirtual 69, 3), none, none, some (.iconst 0, 1), some (.istore 6, 2), none, some (.iload 6, 2), none, some (.aload_n 0, 1), some (.getfield 13, 3), none, none, some (.iload_n 2, 1), some (.iaload, 1), some (.if_icmp .ge 92, 3), none, none, some (.aload_n 0, 1), some (.iload_n 2, 1), some (.iload 6, 2), none, some (.invokevirtual 59, 3), none, none, some (.istore 7, 2), none, some (.aload_n 0, 1), some (.iload_n 2, 1), some (.iload 6, 2), none, some (.iload 7, 2), none, some (.bipush 72, 2), none, some (.invokevirtual 69, 3), none, none, some (.aload_n 0, 1), some (.bipush 71, 2), none, some (.bipush 72, 2), none, some (.bipush 73, 2), none, some (.invokevirtual 86, 3), none, none, some (.aload_n 0, 1), some (.bipush 74, 2), none, some (.invokevirtual 51, 3), none, none, some (.aload_n 0, 1), some (.bipush 74, 2), none, some (.bipush 73, 2), none, some (.aload_n 0, 1), some (.iload_n 1, 1), some (.iload 5, 2), none, some (.invokevirtual 72, 3), none, none, some (.i2l, 1), some (.aload_n 0, 1), some (.iload_n 2, 1), some (.iload 7, 2), none, some (.invokevirtual 72, 3), none, none, some (.i2l, 1), some (.lmul, 1), some (.invokevirtual 78, 3), none, none, some (.aload_n 0, 1), some (.iload_n 3, 1), some (.bipush 75, 2), none, some (.invokevirtual 66, 3), none, none, some (.aload_n 0, 1), some (.bipush 75, 2), none, some (.bipush 74, 2), none, some (.iload_n 3, 1), some (.invokevirtual 86, 3), none, none, some (.aload_n 0, 1), some (.iload_n 2, 1), some (.iload 6, 2), none, some (.invokevirtual 59, 3), none, none, some (.istore 6, 2), none, some (.goto (-97), 3), none, none, some (.aload_n 0, 1), some (.iload_n 1, 1), some (.iload 4, 2), none, some (.invokevirtual 59, 3), none, none, some (.istore 4, 2), none, some (.goto (-143), 3), none, none, some (.return_, 1)]
/-- OrdinalDeskModel.difference(III)V -/
def oc_106 : List (Option (ClassFile.Instr × Nat)) := [some (.aload_n 0, 1), some (.iload_n 3, 1), some (.invokevirtual 51, 3), none, none, some (.iconst 0, 1), some (.istore 4, 2), none, some (.iconst 1, 1), some (.istore 5, 2), none, some (.iload 5, 2), none, some (.ifCond .eq 120, 3), none, none, some (.iload 4, 2), none, some (.aload_n 0, 1), some (.getfield 13, 3), none, none, some (.iload_n 2, 1), some (.iaload, 1), some (.if_icmp .ge 109, 3), none, none, some (.iload 4, 2), none, some (.aload_n 0, 1), some (.getfield 13, 3), none, none, some (.iload_n 1, 1), some (.iaload, 1), some (.if_icmp .ge 98, 3), none, none, some (.aload_n 0, 1), some (.iload_n 1, 1), some (.iload 4, 2), none, some (.invokevirtual 59, 3), none, none, some (.istore 6, 2), none, some (.aload_n 0, 1), some (.iload_n 2, 1), some (.iload 4, 2), none, some (.invokevirtual 59, 3), none, none, some (.istore 7, 2), none, some (.iload 6, 2), none, some (.iload 7, 2), none, some (.if_icmp .ne 7, 3), none, none, some (.iconst 1, 1), some (.goto 4, 3), none, none, some (.iconst 0, 1), some (.istore 5, 2), none, some (.iload 4, 2), none, some (.istore 8, 2), none, some (.iload 8, 2), none, some (.iload 6, 2), none, some (.if_icmp .ge 38, 3), none, none, some (.iload 5, 2), none, some (.ifCond .eq 24, 3), none, none, some (.aload_n 0, 1), some (.iload_n 1, 1), some (.iload 8, 2), none, some (.invokevirtual 55, 3), none, none, some (.aload_n 0, 1), some (.iload_n 2, 1), some (.iload 8, 2), none, some (.invokevirtual 55, 3), none, none, some (.if_icmp .ne 7, 3), none, none, some (.iconst 1, 1), some (.goto 4, 3), none, none, some (.iconst 0, 1), some (.istore 5, 2), none, some (.iinc 8 1, 3), none, none, some (.goto (-39), 3), none, none, some (.iload 5, 2), none, some (.ifCond .eq 8, 3), none, none, some (.iload 6, 2), none, some (.goto 5, 3), none, none, some (.iload 4, 2), none, some (.istore 4, 2), none, some (.goto (-119), 3), none, none, some (.iload 4, 2), none, some (.aload_n 0, 1), some (.getfield 13, 3), none, none, some (.iload_n 1, 1), some (.iaload, 1), some (.if_icmp .ne 4, 3), none, none, some (.return_, 1), some (.aload_n 0, 1), some (.iload_n 1, 1), some (.iload 4, 2), none, some (.invokevirtual 59, 3), none, none, some (.istore 6, 2), none, some (.iload 4, 2), none, some (.aload_n 0, 1), some (.getfield 13, 3), none, none, some (.iload_n 2, 1), some (.iaload, 1), some (.if_icmp .ge 87, 3), none, none, some (.aload_n 0, 1), some (.iload_n 2, 1), some (.iload 4, 2), none, some (.invokevirtual 59, 3), none, none, some (.iload 6, 2), none, some (.if_icmp .ne 75, 3), none, none, some (.aload_n 0, 1), some (.iload_n 1, 1), some (.iload 4, 2), none, some (.iload 6, 2), none, some (.bipush 76, 2), none, some (.invokevirtual 69, 3), none, none, some (.aload_n 0, 1), some (.iload_n 2, 1), some (.iload 4, 2), none, some (.iload 6, 2), none, some (.bipush 77, 2), none, some (.invokevirtual 69, 3), none, none, some (.aload_n 0, 1), some (.bipush 76, 2), none, some (.bipush 77, 2), none, some (.invokevirtual 75, 3), none, none, some (.ifCond .ne 42, 3), none, none, some (.aload_n 0, 1), some (.iload_n 3, 1), some (.bipush 76, 2), none, some (.aload_n 0, 1), some (.iload_n 1, 1), some (.iload 6, 2), none, some (.invokevirtual 72, 3), none, none, some (.i2l, 1), some (.aload_n 0, 1), some (.iload_n 2, 1), some (.iload 6, 2), none, some (.invokevirtual 72, 3), none, none, some (.i2l, 1), some (.lsub, 1), some (.invokevirtual 78, 3), none, none, some (.aload_n 0, 1), some (.iload_n 3, 1), some (.iload_n 1, 1), some (.iload 6, 2), none, some (.aload_n 0, 1), some (.getfield 13, 3), none, none, some (.iload_n 1, 1), some (.iaload, 1), some (.invokevirtual 44, 3), none, none, some (.return_, 1), some (.aload_n 0, 1), some (.iload_n 3, 1), some (.iload_n 1, 1), some (.iload 4, 2), none, some (.aload_n 0, 1), some (.getfield 13, 3), none, none, some (.iload_n 1, 1), some (.iaload, 1), some (.invokevirtual 44, 3), none, none, some (.return_, 1)]
/-- OrdinalDeskModel.goes(III)I -/
def oc_107 : List (Option (ClassFile.Instr × Nat)) := [some (.aload_n 0, 1), some (.iload_n 1, 1), some (.iload_n 2, 1), some (.invokevirtual 59, 3), none, none, some (.istore 4, 2), none, some (.aload_n 0, 1), some (.iload_n 3, 1), some (.iconst 0, 1), some (.invokevirtual 59, 3), none, none, some (.istore 5, 2), none, some (.aload_n 0, 1), some (.iload_n 1, 1), some (.iload 4, 2), none, some (.invokevirtual 72, 3), none, none, some (.aload_n 0, 1), some (.iload_n 3, 1), some (.iload 5, 2), none, some (.invokevirtual 72, 3), none, none, some (.idiv, 1), some (.istore 6, 2), none, some (.iload 6, 2), none, some (.aload_n 0, 1), some (.iload_n 3, 1), some (.iload 5, 2), none, some (.invokevirtual 72, 3), none, none, some (.imul, 1), some (.aload_n 0, 1), some (.iload_n 1, 1), some (.iload 4, 2), none, some (.invokevirtual 72, 3), none, none, some (.if_icmp .ne 67, 3), none, none, some (.aload_n 0, 1), some (.bipush 76, 2), none, some (.invokevirtual 51, 3), none, none, some (.aload_n 0, 1), some (.bipush 76, 2), none, some (.iload_n 1, 1), some (.iload 4, 2), none, some (.aload_n 0, 1), some (.getfield 13, 3), none, none, some (.iload_n 1, 1), some (.iaload, 1), some (.invokevirtual 44, 3), none, none, some (.aload_n 0, 1), some (.bipush 77, 2), none, some (.invokevirtual 51, 3), none, none, some (.aload_n 0, 1), some (.bipush 77, 2), none, some (.iload_n 3, 1), some (.iload 5, 2), none, some (.aload_n 0, 1), some (.getfield 13, 3), none, none, some (.iload_n 3, 1), some (.iaload, 1), some (.invokevirtual 44, 3), none, none, some (.aload_n 0, 1), some (.bipush 76, 2), none, some (.bipush 77, 2), none, some (.invokevirtual 75, 3), none, none, some (.ifCond .ge 10, 3), none, none, some (.iload 6, 2), none, some (.iconst 1, 1), some (.isub, 1), some (.goto 5, 3), none, none, some (.iload 6, 2), none, some (.istore 6, 2), none, some (.iload 6, 2), none, some (.ireturn, 1)]
/-- OrdinalDeskModel.divide(II)V -/
def oc_108 : List (Option (ClassFile.Instr × Nat)) := [some (.aload_n 0, 1), some (.bipush 79, 2), none, some (.invokevirtual 51, 3), none, none, some (.aload_n 0, 1), some (.iload_n 2, 1), some (.iconst 0, 1), some (.invokevirtual 59, 3), none, none, some (.istore_n 3, 1), some (.iconst 0, 1), some (.istore 4, 2), none, some (.iconst 1, 1), some (.istore 5, 2), none, some (.iload 5, 2), none, some (.ifCond .eq 99, 3), none, none, some (.iload 4, 2), none, some (.aload_n 0, 1), some (.getfield 13, 3), none, none, some (.iload_n 1, 1), some (.iaload, 1), some (.if_icmp .ge 88, 3), none, none, some (.aload_n 0, 1), some (.iload_n 1, 1), some (.iload 4, 2), none, some (.invokevirtual 59, 3), none, none, some (.istore 6, 2), none, some (.aload_n 0, 1), some (.iload_n 1, 1), some (.iload 4, 2), none, some (.iload 6, 2), none, some (.bipush 87, 2), none, some (.invokevirtual 69, 3), none, none, some (.aload_n 0, 1), some (.iload_n 2, 1), some (.iconst 0, 1), some (.iload_n 3, 1), some (.bipush 88, 2), none, some (.invokevirtual 69, 3), none, none, some (.aload_n 0, 1), some (.bipush 87, 2), none, some (.bipush 88, 2), none, some (.invokevirtual 75, 3), none, none, some (.ifCond .le 7, 3), none, none, some (.iconst 1, 1), some (.goto 4, 3), none, none, some (.iconst 0, 1), some (.istore 5, 2), none, some (.iload 5, 2), none, some (.ifCond .eq 33, 3), none, none, some (.aload_n 0, 1), some (.bipush 87, 2), none, some (.bipush 88, 2), none, some (.bipush 78, 2), none, some (.invokevirtual 89, 3), none, none, some (.aload_n 0, 1), some (.bipush 79, 2), none, some (.bipush 78, 2), none, some (.aload_n 0, 1), some (.iload_n 1, 1), some (.iload 6, 2), none, some (.invokevirtual 72, 3), none, none, some (.i2l, 1), some (.invokevirtual 78, 3), none, none, some (.iload 6, 2), none, some (.istore 4, 2), none, some (.goto (-98), 3), none, none, some (.aload_n 0, 1), some (.bipush 80, 2), none, some (.invokevirtual 51, 3), none, none, some (.aload_n 0, 1), some (.bipush 80, 2), none, some (.iload_n 1, 1), some (.iload 4, 2), none, some (.aload_n 0, 1), some (.getfield 13, 3), none, none, some (.iload_n 1, 1), some (.iaload, 1), some (.invokevirtual 44, 3), none, none, some (.iload 4, 2), none, some (.aload_n 0, 1), some (.getfield 13, 3), none, none, some (.iload_n 1, 1), some (.iaload, 1), some (.if_icmp .ge 108, 3), none, none, some (.aload_n 0, 1), some (.bipush 87, 2), none, some (.bipush 88, 2), none, some (.invokevirtual 75, 3), none, none, some (.ifCond .ne 97, 3), none, none, some (.aload_n 0, 1), some (.iload_n 1, 1), some (.iload 4, 2), none, some (.iload_n 2, 1), some (.invokevirtual 92, 3), none, none, some (.istore 6, 2), none, some (.iload 6, 2), none, some (.ifCond .le 82, 3), none, none, some (.aload_n 0, 1), some (.bipush 78, 2), none, some (.invokevirtual 51, 3), none, none, some (.aload_n 0, 1), some (.bipush 78, 2), none, some (.bipush 88, 2), none, some (.iload 6, 2), none, some (.i2l, 1), some (.aload_n 0, 1), some (.iload_n 2, 1), some (.iload_n 3, 1), some (.invokevirtual 72, 3), none, none, some (.i2l, 1), some (.lmul, 1), some (.invokevirtual 78, 3), none, none, some (.aload_n 0, 1), some (.bipush 78, 2), none, some (.iload_n 2, 1), some (.iload_n 3, 1), some (.aload_n 0, 1), some (.getfield 13, 3), none, none, some (.iload_n 2, 1), some (.iaload, 1), some (.invokevirtual 44, 3), none, none, some (.aload_n 0, 1), some (.bipush 80, 2), none, some (.bipush 87, 2), none, some (.invokevirtual 66, 3), none, none, some (.aload_n 0, 1), some (.bipush 87, 2), none, some (.bipush 78, 2), none, some (.bipush 80, 2), none, some (.invokevirtual 89, 3), none, none, some (.aload_n 0, 1), some (.bipush 79, 2), none, some (.iconst 1, 1), some (.invokevirtual 40, 3), none, none, some (.aload_n 0, 1), some (.bipush 79, 2), none, some (.iconst 0, 1), some (.invokevirtual 40, 3), none, none, some (.aload_n 0, 1), some (.bipush 79, 2), none, some (.iload 6, 2), none, some (.invokevirtual 40, 3), none, none, some (.return_, 1)]
/-- OrdinalDeskModel.numberPower(II)I -/
def oc_109 : List (Option (ClassFile.Instr × Nat)) := [some (.lconst 1, 1), some (.lstore_n 2, 1), some (.iconst 0, 1), some (.istore 4, 2), none, some (.iload 4, 2), none, some (.iload_n 1, 1), some (.if_icmp .ge 22, 3), none, none, some (.lload_n 2, 1), some (.ldc2_w 48, 3), none, none, some (.lcmp, 1), some (.ifCond .gt 14, 3), none, none, some (.lload_n 2, 1), some (.iload_n 0, 1), some (.i2l, 1), some (.lmul, 1), some (.lstore_n 2, 1), some (.iinc 4 1, 3), none, none, some (.goto (-22), 3), none, none, some (.lload_n 2, 1), some (.ldc2_w 48, 3), none, none, some (.lcmp, 1), some (.ifCond .le 8, 3), none, none, some (.ldc 96, 2), none, some (.goto 5, 3), none, none, some (.lload_n 2, 1), some (.l2i, 1), some (.ireturn, 1)]
/-- OrdinalDeskModel.power(III)V -/
def oc_110 : List (Option (ClassFile.Instr × Nat)) := [some (.aload_n 0, 1), some (.iload_n 3, 1), some (.invokevirtual 51, 3), none, none, some (.aload_n 0, 1), some (.getfield 13, 3), none, none, some (.iload_n 2, 1), some (.iaload, 1), some (.ifCond .eq 28, 3), none, none, some (.aload_n 0, 1), some (.getfield 13, 3), none, none, some (.iload_n 1, 1), some (.iaload, 1), some (.iconst 3, 1), some (.if_icmp .ne 25, 3), none, none, some (.aload_n 0, 1), some (.getfield 7, 3), none, none, some (.bipush 64, 2), none, some (.iload_n 1, 1), some (.imul, 1), some (.iconst 2, 1), some (.iadd, 1), some (.iaload, 1), some (.iconst 1, 1), some (.if_icmp .ne 10, 3), none, none, some (.aload_n 0, 1), some (.iload_n 3, 1), some (.iconst 1, 1), some (.invokevirtual 97, 3), none, none, some (.return_, 1), some (.aload_n 0, 1), some (.getfield 13, 3), none, none, some (.iload_n 1, 1), some (.iaload, 1), some (.ifCond .ne 4, 3), none, none, some (.return_, 1), some (.aload_n 0, 1), some (.iload_n 2, 1), some (.invokevirtual 100, 3), none, none, some (.iconst 1, 1), some (.if_icmp .ne 7, 3), none, none, some (.iconst 1, 1), some (.goto 4, 3), none, none, some (.iconst 0, 1), some (.istore 4, 2), none, some (.iload 4, 2), none, some (.ifCond .eq 24, 3), none, none, some (.aload_n 0, 1), some (.getfield 7, 3), none, none, some (.bipush 64, 2), none, some (.iload_n 2, 1), some (.imul, 1), some (.aload_n 0, 1), some (.getfield 13, 3), none, none, some (.iload_n 2, 1), some (.iaload, 1), some (.iadd, 1), some (.iconst 1, 1), some (.isub, 1), some (.iaload, 1), some (.goto 4, 3), none, none, some (.iconst 0, 1), some (.istore 5, 2), none, some (.aload_n 0, 1), some (.bipush 83, 2), none, some (.invokevirtual 51, 3), none, none, some (.aload_n 0, 1), some (.bipush 83, 2), none, some (.iload_n 2, 1), some (.iconst 0, 1), some (.iload 4, 2), none, some (.ifCond .eq 14, 3), none, none, some (.aload_n 0, 1), some (.getfield 13, 3), none, none, some (.iload_n 2, 1), some (.iaload, 1), some (.iconst 3, 1), some (.isub, 1), some (.goto 9, 3), none, none, some (.aload_n 0, 1), some (.getfield 13, 3), none, none, some (.iload_n 2, 1), some (.iaload, 1), some (.invokevirtual 44, 3), none, none, some (.aload_n 0, 1), some (.iload_n 1, 1), some (.invokevirtual 103, 3), none, none, some (.ifCond .ne 116, 3), none, none, some (.aload_n 0, 1), some (.bipush 84, 2), none, some (.invokevirtual 51, 3), none, none, some (.iconst 0, 1), some (.istore 6, 2), none, some (.iload 6, 2), none, some (.aload_n 0, 1), some (.getfield 13, 3), none, none, some (.bipush 83, 2), none, some (.iaload, 1), some (.if_icmp .ge 70, 3), none, none, some (.aload_n 0, 1), some (.bipush 83, 2), none, some (.iload 6, 2), none, some (.invokevirtual 59, 3), none, none, some (.istore 7, 2), none, some (.aload_n 0, 1), some (.bipush 83, 2), none, some (.iload 6, 2), none, some (.iload 7, 2), none, some (.bipush 76, 2), none, some (.invokevirtual 69, 3), none, none, some (.aload_n 0, 1), some (.bipush 76, 2), none, some (.invokevirtual 103, 3), none, none, some (.ifCond .ne 9, 3), none, none, some (.aload_n 0, 1), some (.bipush 76, 2), none, some (.invokevirtual 107, 3), none, none, some (.aload_n 0, 1), some (.bipush 84, 2), none, some (.bipush 76, 2), none, some (.aload_n 0, 1), some (.bipush 83, 2), none, some (.iload 7, 2), none, some (.invokevirtual 72, 3), none, none, some (.i2l, 1), some (.invokevirtual 78, 3), none, none, some (.aload_n 0, 1), some (.bipush 83, 2), none, some (.iload 6, 2), none, some (.invokevirtual 59, 3), none, none, some (.istore 6, 2), none, some (.goto (-76), 3), none, none, some (.aload_n 0, 1), some (.iload_n 3, 1), some (.bipush 84, 2), none, some (.aload_n 0, 1), some (.getfield 7, 3), none, none, some (.bipush 64, 2), none, some (.iload_n 1, 1), some (.imul, 1), some (.iconst 2, 1), some (.iadd, 1), some (.iaload, 1), some (.iload 5, 2), none, some (.invokestatic 110, 3), none, none, some (.i2l, 1), some (.invokevirtual 78, 3), none, none, some (.return_, 1), some (.aload_n 0, 1), some (.aload_n 0, 1), some (.getfield 36, 3), none, none, some (.ifCond .ne 10, 3), none, none, some (.iload 5, 2), none, some (.bipush 20, 2), none, some (.if_icmp .le 7, 3), none, none, some (.iconst 1, 1), some (.goto 4, 3), none, none, some (.iconst 0, 1), some (.putfield 36, 3), none, none, some (.aload_n 0, 1), some (.bipush 81, 2), none, some (.iconst 1, 1), some (.invokevirtual 97, 3), none, none, some (.iconst 0, 1), some (.istore 6, 2), none, some (.iload 6, 2), none, some (.iload 5, 2), none, some (.if_icmp .ge 33, 3), none, none, some (.aload_n 0, 1), some (.getfield 36, 3), none, none, some (.ifCond .ne 26, 3), none, none, some (.aload_n 0, 1), some (.bipush 81, 2), none, some (.iload_n 1, 1), some (.bipush 82, 2), none, some (.invokevirtual 113, 3), none, none, some (.aload_n 0, 1), some (.bipush 82, 2), none, some (.bipush 81, 2), none, some (.invokevirtual 66, 3), none, none, some (.iinc 6 1, 3), none, none, some (.goto (-34), 3), none, none, some (.aload_n 0, 1), some (.iload_n 1, 1), some (.iconst 0, 1), some (.aload_n 0, 1), some (.iload_n 1, 1), some (.iconst 0, 1), some (.invokevirtual 59, 3), none, none, some (.bipush 76, 2), none, some (.invokevirtual 69, 3), none, none, some (.aload_n 0, 1), some (.bipush 76, 2), none, some (.bipush 83, 2), none, some (.bipush 82, 2), none, some (.invokevirtual 113, 3), none, none, some (.aload_n 0, 1), some (.bipush 84, 2), none, some (.invokevirtual 51, 3), none, none, some (.aload_n 0, 1), some (.bipush 84, 2), none, some (.bipush 82, 2), none, some (.lconst 1, 1), some (.invokevirtual 78, 3), none, none, some (.aload_n 0, 1), some (.bipush 84, 2), none, some (.bipush 81, 2), none, some (.iload_n 3, 1), some (.invokevirtual 113, 3), none, none, some (.return_, 1)]
/-- OrdinalDeskModel.memberOf(III)V -/
def oc_111 : List (Option (ClassFile.Instr × Nat)) := [some (.iconst 0, 1), some (.istore 4, 2), none, some (.iconst 0, 1), some (.istore 5, 2), none, some (.aload_n 0, 1), some (.getfield 13, 3), none, none, some (.iload_n 1, 1), some (.iaload, 1), some (.istore 6, 2), none, some (.iconst 1, 1), some (.istore 7, 2), none, some (.iload 7, 2), none, some (.ifCond .eq 107, 3), none, none, some (.iload 5, 2), none, some (.istore 8, 2), none, some (.iload 5, 2), none, some (.istore 9, 2), none, some (.iload 8, 2), none, some (.iload 6, 2), none, some (.if_icmp .ge 19, 3), none, none, some (.iload 8, 2), none, some (.istore 9, 2), none, some (.aload_n 0, 1), some (.iload_n 1, 1), some (.iload 8, 2), none, some (.invokevirtual 59, 3), none, none, some (.istore 8, 2), none, some (.goto (-20), 3), none, none, some (.aload_n 0, 1), some (.getfield 19, 3), none, none, some (.iload 4, 2), none, some (.iload 5, 2), none, some (.iastore, 1), some (.aload_n 0, 1), some (.getfield 22, 3), none, none, some (.iload 4, 2), none, some (.iload 9, 2), none, some (.iastore, 1), some (.aload_n 0, 1), some (.getfield 25, 3), none, none, some (.iload 4, 2), none, some (.iload 6, 2), none, some (.iastore, 1), some (.iinc 4 1, 3), none, none, some (.aload_n 0, 1), some (.iload_n 1, 1), some (.iload 9, 2), none, some (.iload 6, 2), none, some (.bipush 85, 2), none, some (.invokevirtual 69, 3), none, none, some (.aload_n 0, 1), some (.bipush 85, 2), none, some (.invokevirtual 100, 3), none, none, some (.iconst 2, 1), some (.if_icmp .ne 7, 3), none, none, some (.iconst 1, 1), some (.goto 4, 3), none, none, some (.iconst 0, 1), some (.istore 7, 2), none, some (.iload 9, 2), none, some (.iconst 1, 1), some (.iadd, 1), some (.istore 5, 2), none, some (.iload 6, 2), none, some (.iconst 2, 1), some (.isub, 1), some (.istore 6, 2), none, some (.goto (-106), 3), none, none, some (.iload 4, 2), none, some (.iconst 1, 1), some (.isub, 1), some (.istore 8, 2), none, some (.iload 8, 2), none, some (.ifCond .lt 154, 3), none, none, some (.aload_n 0, 1), some (.getfield 22, 3), none, none, some (.iload 8, 2), none, some (.iaload, 1), some (.istore 9, 2), none, some (.aload_n 0, 1), some (.getfield 25, 3), none, none, some (.iload 8, 2), none, some (.iaload, 1), some (.istore 10, 2), none, some (.aload_n 0, 1), some (.getfield 7, 3), none, none, some (.bipush 64, 2), none, some (.iload_n 1, 1), some (.imul, 1), some (.iload 10, 2), none, some (.iadd, 1), some (.iconst 1, 1), some (.isub, 1), some (.iaload, 1), some (.istore 11, 2), none, some (.aload_n 0, 1), some (.bipush 86, 2), none, some (.invokevirtual 51, 3), none, none, some (.aload_n 0, 1), some (.bipush 86, 2), none, some (.iload_n 1, 1), some (.aload_n 0, 1), some (.getfield 19, 3), none, none, some (.iload 8, 2), none, some (.iaload, 1), some (.iload 9, 2), none, some (.invokevirtual 44, 3), none, none, some (.iload 11, 2), none, some (.iconst 1, 1), some (.if_icmp .le 26, 3), none, none, some (.aload_n 0, 1), some (.bipush 86, 2), none, some (.iload_n 1, 1), some (.iload 9, 2), none, some (.iload 10, 2), none, some (.iconst 1, 1), some (.isub, 1), some (.invokevirtual 44, 3), none, none, some (.aload_n 0, 1), some (.bipush 86, 2), none, some (.iload 11, 2), none, some (.iconst 1, 1), some (.isub, 1), some (.invokevirtual 40, 3), none, none, some (.iload 8, 2), none, some (.iload 4, 2), none, some (.iconst 1, 1), some (.isub, 1), some (.if_icmp .ne 37, 3), none, none, some (.aload_n 0, 1), some (.iload_n 1, 1), some (.iload 9, 2), none, some (.iload 10, 2), none, some (.bipush 85, 2), none, some (.invokevirtual 69, 3), none, none, some (.aload_n 0, 1), some (.bipush 85, 2), none, some (.invokevirtual 107, 3), none, none, some (.iload_n 2, 1), some (.ifCond .le 25, 3), none, none, some (.aload_n 0, 1), some (.bipush 86, 2), none, some (.bipush 85, 2), none, some (.iload_n 2, 1), some (.i2l, 1), some (.invokevirtual 78, 3), none, none, some (.goto 12, 3), none, none, some (.aload_n 0, 1), some (.bipush 86, 2), none, some (.bipush 85, 2), none, some (.lconst 1, 1), some (.invokevirtual 78, 3), none, none, some (.aload_n 0, 1), some (.bipush 86, 2), none, some (.bipush 85, 2), none, some (.invokevirtual 66, 3), none, none, some (.iinc 8 (-1), 3), none, none, some (.goto (-153), 3), none, none, some (.aload_n 0, 1), some (.bipush 85, 2), none, some (.iload_n 3, 1), some (.invokevirtual 66, 3), none, none, some (.return_, 1)]
/-- OrdinalDeskModel.thin(IIII)V -/
def oc_112 : List (Option (ClassFile.Instr × Nat)) := [some (.aload_n 0, 1), some (.iload 4, 2), none, some (.invokevirtual 51, 3), none, none, some (.aload_n 0, 1), some (.iload 4, 2), none, some (.iload_n 1, 1), some (.iconst 0, 1), some (.iload_n 2, 1), some (.invokevirtual 44, 3), none, none, some (.aload_n 0, 1), some (.getfield 7, 3), none, none, some (.bipush 64, 2), none, some (.iload_n 1, 1), some (.imul, 1), some (.iload_n 3, 1), some (.iadd, 1), some (.iconst 1, 1), some (.isub, 1), some (.iaload, 1), some (.istore 5, 2), none, some (.iload 5, 2), none, some (.iconst 1, 1), some (.if_icmp .le 24, 3), none, none, some (.aload_n 0, 1), some (.iload 4, 2), none, some (.iload_n 1, 1), some (.iload_n 2, 1), some (.iload_n 3, 1), some (.iconst 1, 1), some (.isub, 1), some (.invokevirtual 44, 3), none, none, some (.aload_n 0, 1), some (.iload 4, 2), none, some (.iload 5, 2), none, some (.iconst 1, 1), some (.isub, 1), some (.invokevirtual 40, 3), none, none, some (.aload_n 0, 1), some (.iload 4, 2), none, some (.iload_n 1, 1), some (.iload_n 3, 1), some (.aload_n 0, 1), some (.getfield 13, 3), none, none, some (.iload_n 1, 1), some (.iaload, 1), some (.invokevirtual 44, 3), none, none, some (.return_, 1)]
/-- OrdinalDeskModel.noSlot(I)Z -/
def oc_113 : List (Option (ClassFile.Instr × Nat)) := [some (.iload_n 0, 1), some (.ifCond .lt 9, 3), none, none, some (.iload_n 0, 1), some (.bipush 7, 2), none, some (.if_icmp .le 7, 3), none, none, some (.iconst 1, 1), some (.goto 4, 3), none, none, some (.iconst 0, 1), some (.ireturn, 1)]
/-- OrdinalDeskModel.settle(I)I -/
def oc_114 : List (Option (ClassFile.Instr × Nat)) := [some (.aload_n 0, 1), some (.aload_n 0, 1), some (.getfield 36, 3), none, none, some (.ifCond .eq 7, 3), none, none, some (.iconst 3, 1), some (.goto 4, 3), none, none, some (.iconst 0, 1), some (.putfield 32, 3), none, none, some (.aload_n 0, 1), some (.getfield 32, 3), none, none, some (.ifCond .le 5, 3), none, none, some (.iconst 0, 1), some (.ireturn, 1), some (.aload_n 0, 1), some (.bipush 89, 2), none, some (.iload_n 1, 1), some (.invokevirtual 66, 3), none, none, some (.aload_n 0, 1), some (.getfield 13, 3), none, none, some (.iload_n 1, 1), some (.iaload, 1), some (.iconst 3, 1), some (.idiv, 1), some (.ireturn, 1)]
/-- OrdinalDeskModel.finite(II)V -/
def oc_115 : List (Option (ClassFile.Instr × Nat)) := [some (.aload_n 0, 1), some (.iload_n 2, 1), some (.invokestatic 116, 3), none, none, some (.ifCond .eq 7, 3), none, none, some (.iconst 1, 1), some (.goto 18, 3), none, none, some (.iload_n 1, 1), some (.ifCond .lt 9, 3), none, none, some (.iload_n 1, 1), some (.ldc 50, 2), none, some (.if_icmp .le 7, 3), none, none, some (.iconst 2, 1), some (.goto 4, 3), none, none, some (.iconst 0, 1), some (.putfield 32, 3), none, none, some (.aload_n 0, 1), some (.getfield 32, 3), none, none, some (.ifCond .ne 9, 3), none, none, some (.aload_n 0, 1), some (.iload_n 2, 1), some (.iload_n 1, 1), some (.invokevirtual 97, 3), none, none, some (.return_, 1)]
/-- OrdinalDeskModel.raise(III)V -/
def oc_116 : List (Option (ClassFile.Instr × Nat)) := [some (.aload_n 0, 1), some (.iload_n 1, 1), some (.invokestatic 116, 3), none, none, some (.ifCond .ne 10, 3), none, none, some (.iload_n 3, 1), some (.invokestatic 116, 3), none, none, some (.ifCond .eq 7, 3), none, none, some (.iconst 1, 1), some (.goto 19, 3), none, none, some (.iload_n 2, 1), some (.iconst 1, 1), some (.if_icmp .lt 9, 3), none, none, some (.iload_n 2, 1), some (.ldc 50, 2), none, some (.if_icmp .le 7, 3), none, none, some (.iconst 2, 1), some (.goto 4, 3), none, none, some (.iconst 0, 1), some (.putfield 32, 3), none, none, some (.aload_n 0, 1), some (.getfield 32, 3), none, none, some (.ifCond .le 4, 3), none, none, some (.return_, 1), some (.aload_n 0, 1), some (.iconst 0, 1), some (.putfield 36, 3), none, none, some (.aload_n 0, 1), some (.bipush 89, 2), none, some (.invokevirtual 51, 3), none, none, some (.aload_n 0, 1), some (.bipush 89, 2), none, some (.iload_n 1, 1), some (.iload_n 2, 1), some (.i2l, 1), some (.invokevirtual 78, 3), none, none, some (.aload_n 0, 1), some (.iload_n 3, 1), some (.invokevirtual 119, 3), none, none, some (.istore 4, 2), none, some (.return_, 1)]
/-- OrdinalDeskModel.op(IIII)I -/
def oc_117 : List (Option (ClassFile.Instr × Nat)) := [some (.aload_n 0, 1), some (.iload_n 2, 1), some (.invokestatic 116, 3), none, none, some (.ifCond .ne 18, 3), none, none, some (.iload_n 3, 1), some (.invokestatic 116, 3), none, none, some (.ifCond .ne 11, 3), none, none, some (.iload 4, 2), none, some (.invokestatic 116, 3), none, none, some (.ifCond .eq 7, 3), none, none, some (.iconst 1, 1), some (.goto 18, 3), none, none, some (.iload_n 1, 1), some (.ifCond .lt 9, 3), none, none, some (.iload_n 1, 1), some (.bipush 7, 2), none, some (.if_icmp .le 7, 3), none, none, some (.iconst 2, 1), some (.goto 4, 3), none, none, some (.iconst 0, 1), some (.putfield 32, 3), none, none, some (.aload_n 0, 1), some (.getfield 32, 3), none, none, some (.ifCond .le 5, 3), none, none, some (.iconst 0, 1), some (.ireturn, 1), some (.aload_n 0, 1), some (.iload_n 1, 1), some (.iconst 5, 1), some (.if_icmp .ne 12, 3), none, none, some (.aload_n 0, 1), some (.iload_n 2, 1), some (.iload_n 3, 1), some (.invokevirtual 75, 3), none, none, some (.ifCond .lt 17, 3), none, none, some (.iload_n 1, 1), some (.iconst 5, 1), some (.if_icmp .le 16, 3), none, none, some (.aload_n 0, 1), some (.getfield 13, 3), none, none, some (.iload_n 3, 1), some (.iaload, 1), some (.ifCond .ne 7, 3), none, none, some (.iconst 2, 1), some (.goto 4, 3), none, none, some (.iconst 0, 1), some (.putfield 32, 3), none, none, some (.aload_n 0, 1), some (.getfield 32, 3), none, none, some (.ifCond .le 5, 3), none, none, some (.iconst 0, 1), some (.ireturn, 1), some (.aload_n 0, 1), some (.iconst 0, 1), some (.putfield 36, 3), none, none, some (.iload_n 1, 1), some (.tableswitch 104 0 5 #[38, 49, 60, 71, 82, 93], 38), none, none, none, none, none, none, none, none, none, none, none, none, none, none, none, none, none, none, none, none, none, none, none, none, none, none, none, none, none, none, none, none, none, none, none, none, none, some (.aload_n 0, 1), some (.iload_n 2, 1), some (.iload_n 3, 1), some (.bipush 89, 2), none, some (.invokevirtual 82, 3), none, none, some (.goto 83, 3), none, none, some (.aload_n 0, 1), some (.iload_n 2, 1), some (.iload_n 3, 1), some (.bipush 89, 2), none, some (.invokevirtual 113, 3), none, none, some (.goto 72, 3), none, none, some (.aload_n 0, 1), some (.iload_n 2, 1), some (.iload_n 3, 1), some (.bipush 89, 2), none, some (.invokevirtual 122, 3), none, none, some (.goto 61, 3), none, none, some (.aload_n 0, 1), some (.iload_n 2, 1), some (.iload_n 3, 1), some (.bipush 89, 2), none, some (.invokevirtual 86, 3), none, none, some (.goto 50, 3), none, none, some (.aload_n 0, 1), some (.iload_n 2, 1), some (.iload_n 3, 1), some (.bipush 89, 2), none, some (.invokevirtual 125, 3), none, none, some (.goto 39, 3), none, none, some (.aload_n 0, 1), some (.iload_n 2, 1), some (.iload_n 3, 1), some (.bipush 89, 2), none, some (.invokevirtual 89, 3), none, none, some (.goto 28, 3), none, none, some (.aload_n 0, 1), some (.iload_n 2, 1), some (.iload_n 3, 1), some (.invokevirtual 128, 3), none, none, some (.aload_n 0, 1), some (.iload_n 1, 1), some (.bipush 6, 2), none, some (.if_icmp .ne 8, 3), none, none, some (.bipush 79, 2), none, some (.goto 5, 3), none, none, some (.bipush 80, 2), none, some (.bipush 89, 2), none, some (.invokevirtual 66, 3), none, none, some (.aload_n 0, 1), some (.iload 4, 2), none, some (.invokevirtual 119, 3), none, none, some (.ireturn, 1)]
/-- OrdinalDeskModel.member(III)I -/
def oc_118 : List (Option (ClassFile.Instr × Nat)) := [some (.aload_n 0, 1), some (.iload_n 1, 1), some (.invokestatic 116, 3), none, none, some (.ifCond .ne 10, 3), none, none, some (.iload_n 3, 1), some (.invokestatic 116, 3), none, none, some (.ifCond .eq 7, 3), none, none, some (.iconst 1, 1), some (.goto 27, 3), none, none, some (.aload_n 0, 1), some (.iload_n 1, 1), some (.invokevirtual 100, 3), none, none, some (.iconst 2, 1), some (.if_icmp .ne 13, 3), none, none, some (.iload_n 2, 1), some (.ifCond .lt 9, 3), none, none, some (.iload_n 2, 1), some (.ldc 50, 2), none, some (.if_icmp .le 7, 3), none, none, some (.iconst 2, 1), some (.goto 4, 3), none, none, some (.iconst 0, 1), some (.putfield 32, 3), none, none, some (.aload_n 0, 1), some (.getfield 32, 3), none, none, some (.ifCond .le 5, 3), none, none, some (.iconst 0, 1), some (.ireturn, 1), some (.aload_n 0, 1), some (.iconst 0, 1), some (.putfield 36, 3), none, none, some (.aload_n 0, 1), some (.iload_n 1, 1), some (.iload_n 2, 1), some (.bipush 89, 2), none, some (.invokevirtual 131, 3), none, none, some (.aload_n 0, 1), some (.iload_n 3, 1), some (.invokevirtual 119, 3), none, none, some (.ireturn, 1)]
/-- OrdinalDeskModel.step(III)I -/
def oc_119 : List (Option (ClassFile.Instr × Nat)) := [some (.aload_n 0, 1), some (.iload_n 1, 1), some (.invokestatic 116, 3), none, none, some (.ifCond .ne 10, 3), none, none, some (.iload_n 3, 1), some (.invokestatic 116, 3), none, none, some (.ifCond .eq 7, 3), none, none, some (.iconst 1, 1), some (.goto 28, 3), none, none, some (.aload_n 0, 1), some (.getfield 13, 3), none, none, some (.iload_n 1, 1), some (.iaload, 1), some (.ifCond .eq 14, 3), none, none, some (.iload_n 2, 1), some (.iconst 2, 1), some (.if_icmp .lt 9, 3), none, none, some (.iload_n 2, 1), some (.ldc 50, 2), none, some (.if_icmp .le 7, 3), none, none, some (.iconst 2, 1), some (.goto 4, 3), none, none, some (.iconst 0, 1), some (.putfield 32, 3), none, none, some (.aload_n 0, 1), some (.getfield 32, 3), none, none, some (.ifCond .le 5, 3), none, none, some (.iconst 0, 1), some (.ireturn, 1), some (.aload_n 0, 1), some (.iconst 0, 1), some (.putfield 36, 3), none, none, some (.aload_n 0, 1), some (.iload_n 1, 1), some (.bipush 89, 2), none, some (.invokevirtual 66, 3), none, none, some (.aload_n 0, 1), some (.getfield 36, 3), none, none, some (.ifCond .ne 33, 3), none, none, some (.aload_n 0, 1), some (.bipush 89, 2), none, some (.invokevirtual 100, 3), none, none, some (.iconst 2, 1), some (.if_icmp .ne 23, 3), none, none, some (.aload_n 0, 1), some (.bipush 89, 2), none, some (.bipush 87, 2), none, some (.invokevirtual 66, 3), none, none, some (.aload_n 0, 1), some (.bipush 87, 2), none, some (.iload_n 2, 1), some (.bipush 89, 2), none, some (.invokevirtual 131, 3), none, none, some (.goto (-34), 3), none, none, some (.aload_n 0, 1), some (.getfield 36, 3), none, none, some (.ifCond .ne 9, 3), none, none, some (.aload_n 0, 1), some (.bipush 89, 2), none, some (.invokevirtual 107, 3), none, none, some (.aload_n 0, 1), some (.iload_n 3, 1), some (.invokevirtual 119, 3), none, none, some (.ireturn, 1)]
/-- OrdinalDeskModel.follow(II)I -/
def oc_120 : List (Option (ClassFile.Instr × Nat)) := [some (.aload_n 0, 1), some (.iload_n 1, 1), some (.bipush 90, 2), none, some (.invokevirtual 66, 3), none, none, some (.iconst 0, 1), some (.istore_n 3, 1), some (.iload_n 2, 1), some (.istore 4, 2), none, some (.iconst 1, 1), some (.istore 5, 2), none, some (.iload 5, 2), none, some (.ifCond .eq 139, 3), none, none, some (.bipush 90, 2), none, some (.iload_n 3, 1), some (.iadd, 1), some (.istore 6, 2), none, some (.iconst 0, 1), some (.istore 7, 2), none, some (.iconst 0, 1), some (.istore 8, 2), none, some (.iload 8, 2), none, some (.iload 4, 2), none, some (.bipush 8, 2), none, some (.irem, 1), some (.if_icmp .ge 31, 3), none, none, some (.iload 7, 2), none, some (.aload_n 0, 1), some (.getfield 13, 3), none, none, some (.iload 6, 2), none, some (.iaload, 1), some (.if_icmp .ge 19, 3), none, none, some (.aload_n 0, 1), some (.iload 6, 2), none, some (.iload 7, 2), none, some (.invokevirtual 59, 3), none, none, some (.istore 7, 2), none, some (.iinc 8 1, 3), none, none, some (.goto (-35), 3), none, none, some (.iload 7, 2), none, some (.aload_n 0, 1), some (.getfield 13, 3), none, none, some (.iload 6, 2), none, some (.iaload, 1), some (.if_icmp .lt 5, 3), none, none, some (.iconst 0, 1), some (.ireturn, 1), some (.aload_n 0, 1), some (.iload 6, 2), none, some (.iload 7, 2), none, some (.invokevirtual 59, 3), none, none, some (.istore 8, 2), none, some (.aload_n 0, 1), some (.getfield 22, 3), none, none, some (.iload_n 3, 1), some (.iload 7, 2), none, some (.iastore, 1), some (.aload_n 0, 1), some (.getfield 25, 3), none, none, some (.iload_n 3, 1), some (.iload 8, 2), none, some (.iastore, 1), some (.iinc 3 1, 3), none, none, some (.aload_n 0, 1), some (.iload 6, 2), none, some (.iload 7, 2), none, some (.iload 8, 2), none, some (.bipush 90, 2), none, some (.iload_n 3, 1), some (.iadd, 1), some (.invokevirtual 69, 3), none, none, some (.aload_n 0, 1), some (.getfield 13, 3), none, none, some (.bipush 90, 2), none, some (.iload_n 3, 1), some (.iadd, 1), some (.iaload, 1), some (.ifCond .le 7, 3), none, none, some (.iconst 1, 1), some (.goto 4, 3), none, none, some (.iconst 0, 1), some (.istore 5, 2), none, some (.iload 4, 2), none, some (.bipush 8, 2), none, some (.idiv, 1), some (.istore 4, 2), none, some (.goto (-138), 3), none, none, some (.iload_n 3, 1), some (.ireturn, 1)]
/-- OrdinalDeskModel.chop(IIII)I -/
def oc_121 : List (Option (ClassFile.Instr × Nat)) := [some (.aload_n 0, 1), some (.iload_n 1, 1), some (.invokestatic 116, 3), none, none, some (.ifCond .ne 11, 3), none, none, some (.iload 4, 2), none, some (.invokestatic 116, 3), none, none, some (.ifCond .eq 7, 3), none, none, some (.iconst 1, 1), some (.goto 12, 3), none, none, some (.iload_n 2, 1), some (.ifCond .ge 7, 3), none, none, some (.iconst 2, 1), some (.goto 4, 3), none, none, some (.iconst 0, 1), some (.putfield 32, 3), none, none, some (.aload_n 0, 1), some (.getfield 32, 3), none, none, some (.ifCond .le 5, 3), none, none, some (.iconst 0, 1), some (.ireturn, 1), some (.aload_n 0, 1), some (.iconst 0, 1), some (.putfield 36, 3), none, none, some (.aload_n 0, 1), some (.iload_n 1, 1), some (.iload_n 2, 1), some (.invokevirtual 134, 3), none, none, some (.istore 5, 2), none, some (.aload_n 0, 1), some (.iload 5, 2), none, some (.ifCond .eq 14, 3), none, none, some (.iload_n 3, 1), some (.ifCond .lt 10, 3), none, none, some (.iload_n 3, 1), some (.sipush 1000, 3), none, none, some (.if_icmp .le 7, 3), none, none, some (.iconst 2, 1), some (.goto 4, 3), none, none, some (.iconst 0, 1), some (.putfield 32, 3), none, none, some (.aload_n 0, 1), some (.getfield 32, 3), none, none, some (.ifCond .le 5, 3), none, none, some (.iconst 0, 1), some (.ireturn, 1), some (.aload_n 0, 1), some (.bipush 90, 2), none, some (.iload 5, 2), none, some (.iadd, 1), some (.iconst 1, 1), some (.isub, 1), some (.aload_n 0, 1), some (.getfield 22, 3), none, none, some (.iload 5, 2), none, some (.iconst 1, 1), some (.isub, 1), some (.iaload, 1), some (.aload_n 0, 1), some (.getfield 25, 3), none, none, some (.iload 5, 2), none, some (.iconst 1, 1), some (.isub, 1), some (.iaload, 1), some (.bipush 89, 2), none, some (.invokevirtual 137, 3), none, none, some (.iload 5, 2), none, some (.iconst 2, 1), some (.isub, 1), some (.istore 6, 2), none, some (.iload 6, 2), none, some (.ifCond .lt 75, 3), none, none, some (.aload_n 0, 1), some (.bipush 90, 2), none, some (.iload 6, 2), none, some (.iadd, 1), some (.aload_n 0, 1), some (.getfield 22, 3), none, none, some (.iload 6, 2), none, some (.iaload, 1), some (.aload_n 0, 1), some (.getfield 25, 3), none, none, some (.iload 6, 2), none, some (.iaload, 1), some (.bipush 87, 2), none, some (.invokevirtual 137, 3), none, none, some (.aload_n 0, 1), some (.bipush 88, 2), none, some (.invokevirtual 51, 3), none, none, some (.aload_n 0, 1), some (.bipush 88, 2), none, some (.bipush 89, 2), none, some (.iload 6, 2), none, some (.iload 5, 2), none, some (.iconst 2, 1), some (.isub, 1), some (.if_icmp .ne 10, 3), none, none, some (.iload_n 3, 1), some (.iconst 1, 1), some (.iadd, 1), some (.i2l, 1), some (.goto 4, 3), none, none, some (.lconst 1, 1), some (.invokevirtual 78, 3), none, none, some (.aload_n 0, 1), some (.bipush 87, 2), none, some (.bipush 88, 2), none, some (.bipush 89, 2), none, some (.invokevirtual 86, 3), none, none, some (.iinc 6 (-1), 3), none, none, some (.goto (-74), 3), none, none, some (.aload_n 0, 1), some (.iload 4, 2), none, some (.invokevirtual 119, 3), none, none, some (.ireturn, 1)]
/-- OrdinalDeskModel.based(III)V -/
def oc_122 : List (Option (ClassFile.Instr × Nat)) := [some (.aload_n 0, 1), some (.iload_n 3, 1), some (.invokevirtual 51, 3), none, none, some (.lconst 1, 1), some (.lstore 4, 2), none, some (.iconst 0, 1), some (.istore 6, 2), none, some (.lload 4, 2), none, some (.iload_n 2, 1), some (.i2l, 1), some (.lmul, 1), some (.iload_n 1, 1), some (.i2l, 1), some (.lcmp, 1), some (.ifCond .gt 16, 3), none, none, some (.lload 4, 2), none, some (.iload_n 2, 1), some (.i2l, 1), some (.lmul, 1), some (.lstore 4, 2), none, some (.iinc 6 1, 3), none, none, some (.goto (-21), 3), none, none, some (.iload_n 1, 1), some (.istore 7, 2), none, some (.iload 6, 2), none, some (.ifCond .lt 52, 3), none, none, some (.iload 7, 2), none, some (.i2l, 1), some (.lload 4, 2), none, some (.ldiv, 1), some (.l2i, 1), some (.istore 8, 2), none, some (.iload 7, 2), none, some (.i2l, 1), some (.lload 4, 2), none, some (.lrem, 1), some (.l2i, 1), some (.istore 7, 2), none, some (.iload 8, 2), none, some (.ifCond .le 16, 3), none, none, some (.aload_n 0, 1), some (.iload_n 3, 1), some (.bipush 32, 2), none, some (.iload 6, 2), none, some (.iadd, 1), some (.iload 8, 2), none, some (.i2l, 1), some (.invokevirtual 78, 3), none, none, some (.lload 4, 2), none, some (.iload_n 2, 1), some (.i2l, 1), some (.ldiv, 1), some (.lstore 4, 2), none, some (.iinc 6 (-1), 3), none, none, some (.goto (-51), 3), none, none, some (.return_, 1)]
/-- OrdinalDeskModel.start(III)I -/
def oc_123 : List (Option (ClassFile.Instr × Nat)) := [some (.aload_n 0, 1), some (.iload_n 3, 1), some (.invokestatic 116, 3), none, none, some (.ifCond .eq 7, 3), none, none, some (.iconst 1, 1), some (.goto 30, 3), none, none, some (.iload_n 1, 1), some (.ifCond .lt 21, 3), none, none, some (.iload_n 1, 1), some (.ldc 140, 2), none, some (.if_icmp .gt 15, 3), none, none, some (.iload_n 2, 1), some (.iconst 2, 1), some (.if_icmp .lt 10, 3), none, none, some (.iload_n 2, 1), some (.sipush 1000, 3), none, none, some (.if_icmp .le 7, 3), none, none, some (.iconst 2, 1), some (.goto 4, 3), none, none, some (.iconst 0, 1), some (.putfield 32, 3), none, none, some (.aload_n 0, 1), some (.getfield 32, 3), none, none, some (.ifCond .le 5, 3), none, none, some (.iconst 0, 1), some (.ireturn, 1), some (.aload_n 0, 1), some (.iconst 0, 1), some (.putfield 36, 3), none, none, some (.iconst 0, 1), some (.istore 4, 2), none, some (.iload 4, 2), none, some (.bipush 30, 2), none, some (.if_icmp .ge 21, 3), none, none, some (.aload_n 0, 1), some (.iload 4, 2), none, some (.iload_n 2, 1), some (.bipush 32, 2), none, some (.iload 4, 2), none, some (.iadd, 1), some (.invokevirtual 141, 3), none, none, some (.iinc 4 1, 3), none, none, some (.goto (-22), 3), none, none, some (.aload_n 0, 1), some (.iload_n 1, 1), some (.iload_n 2, 1), some (.bipush 89, 2), none, some (.invokevirtual 141, 3), none, none, some (.aload_n 0, 1), some (.iload_n 3, 1), some (.invokevirtual 119, 3), none, none, some (.ireturn, 1)]
/-- OrdinalDeskModel.compare(II)I -/
def oc_124 : List (Option (ClassFile.Instr × Nat)) := [some (.aload_n 0, 1), some (.iload_n 1, 1), some (.invokestatic 116, 3), none, none, some (.ifCond .ne 10, 3), none, none, some (.iload_n 2, 1), some (.invokestatic 116, 3), none, none, some (.ifCond .eq 7, 3), none, none, some (.iconst 1, 1), some (.goto 4, 3), none, none, some (.iconst 0, 1), some (.putfield 32, 3), none, none, some (.aload_n 0, 1), some (.getfield 32, 3), none, none, some (.ifCond .le 7, 3), none, none, some (.iconst 0, 1), some (.goto 9, 3), none, none, some (.aload_n 0, 1), some (.iload_n 1, 1), some (.iload_n 2, 1), some (.invokevirtual 75, 3), none, none, some (.ireturn, 1)]
/-- OrdinalDeskModel.kind(I)I -/
def oc_125 : List (Option (ClassFile.Instr × Nat)) := [some (.aload_n 0, 1), some (.iload_n 1, 1), some (.invokestatic 116, 3), none, none, some (.ifCond .eq 7, 3), none, none, some (.iconst 1, 1), some (.goto 4, 3), none, none, some (.iconst 0, 1), some (.putfield 32, 3), none, none, some (.aload_n 0, 1), some (.getfield 32, 3), none, none, some (.ifCond .le 7, 3), none, none, some (.iconst 0, 1), some (.goto 8, 3), none, none, some (.aload_n 0, 1), some (.iload_n 1, 1), some (.invokevirtual 100, 3), none, none, some (.ireturn, 1)]
/-- OrdinalDeskModel.size(I)I -/
def oc_126 : List (Option (ClassFile.Instr × Nat)) := [some (.aload_n 0, 1), some (.iload_n 1, 1), some (.invokestatic 116, 3), none, none, some (.ifCond .eq 7, 3), none, none, some (.iconst 1, 1), some (.goto 4, 3), none, none, some (.iconst 0, 1), some (.putfield 32, 3), none, none, some (.aload_n 0, 1), some (.getfield 32, 3), none, none, some (.ifCond .le 7, 3), none, none, some (.iconst 0, 1), some (.goto 11, 3), none, none, some (.aload_n 0, 1), some (.getfield 13, 3), none, none, some (.iload_n 1, 1), some (.iaload, 1), some (.iconst 3, 1), some (.idiv, 1), some (.ireturn, 1)]
/-- OrdinalDeskModel.at(II)I -/
def oc_127 : List (Option (ClassFile.Instr × Nat)) := [some (.aload_n 0, 1), some (.iload_n 1, 1), some (.invokestatic 116, 3), none, none, some (.ifCond .eq 7, 3), none, none, some (.iconst 1, 1), some (.goto 4, 3), none, none, some (.iconst 0, 1), some (.putfield 32, 3), none, none, some (.aload_n 0, 1), some (.getfield 32, 3), none, none, some (.ifCond .le 7, 3), none, none, some (.iconst 0, 1), some (.goto 32, 3), none, none, some (.iload_n 2, 1), some (.ifCond .lt 13, 3), none, none, some (.iload_n 2, 1), some (.aload_n 0, 1), some (.getfield 13, 3), none, none, some (.iload_n 1, 1), some (.iaload, 1), some (.if_icmp .lt 7, 3), none, none, some (.iconst (-1), 1), some (.goto 14, 3), none, none, some (.aload_n 0, 1), some (.getfield 7, 3), none, none, some (.bipush 64, 2), none, some (.iload_n 1, 1), some (.imul, 1), some (.iload_n 2, 1), some (.iadd, 1), some (.iaload, 1), some (.ireturn, 1)]
/-- OrdinalDeskModel.risen(IJ)J -/
def oc_128 : List (Option (ClassFile.Instr × Nat)) := [some (.iload_n 0, 1), some (.iconst 2, 1), some (.if_icmp .ge 20, 3), none, none, some (.iload_n 0, 1), some (.iconst 1, 1), some (.if_icmp .eq 9, 3), none, none, some (.lload_n 1, 1), some (.lconst 0, 1), some (.lcmp, 1), some (.ifCond .ne 7, 3), none, none, some (.lconst 1, 1), some (.goto 4, 3), none, none, some (.lconst 0, 1), some (.lreturn, 1), some (.lconst 1, 1), some (.lstore_n 3, 1), some (.lconst 0, 1), some (.lstore 5, 2), none, some (.lload 5, 2), none, some (.lload_n 1, 1), some (.lcmp, 1), some (.ifCond .ge 25, 3), none, none, some (.lload_n 3, 1), some (.ldc2_w 144, 3), none, none, some (.lcmp, 1), some (.ifCond .ge 17, 3), none, none, some (.lload_n 3, 1), some (.iload_n 0, 1), some (.i2l, 1), some (.lmul, 1), some (.lstore_n 3, 1), some (.lload 5, 2), none, some (.lconst 1, 1), some (.ladd, 1), some (.lstore 5, 2), none, some (.goto (-26), 3), none, none, some (.lload_n 3, 1), some (.ldc2_w 144, 3), none, none, some (.lcmp, 1), some (.ifCond .le 9, 3), none, none, some (.ldc2_w 144, 3), none, none, some (.goto 4, 3), none, none, some (.lload_n 3, 1), some (.lreturn, 1)]
/-- OrdinalDeskModel.value(II)I -/
def oc_129 : List (Option (ClassFile.Instr × Nat)) := [some (.aload_n 0, 1), some (.iload_n 1, 1), some (.invokestatic 116, 3), none, none, some (.ifCond .eq 7, 3), none, none, some (.iconst 1, 1), some (.goto 19, 3), none, none, some (.iload_n 2, 1), some (.ifCond .lt 10, 3), none, none, some (.iload_n 2, 1), some (.sipush 1000, 3), none, none, some (.if_icmp .le 7, 3), none, none, some (.iconst 2, 1), some (.goto 4, 3), none, none, some (.iconst 0, 1), some (.putfield 32, 3), none, none, some (.aload_n 0, 1), some (.getfield 32, 3), none, none, some (.ifCond .le 5, 3), none, none, some (.iconst 0, 1), some (.ireturn, 1), some (.iconst 0, 1), some (.istore_n 3, 1), some (.aload_n 0, 1), some (.getfield 28, 3), none, none, some (.iconst 0, 1), some (.lconst 0, 1), some (.lastore, 1), some (.iconst 0, 1), some (.istore 4, 2), none, some (.iload 4, 2), none, some (.aload_n 0, 1), some (.getfield 13, 3), none, none, some (.iload_n 1, 1), some (.iaload, 1), some (.if_icmp .ge 109, 3), none, none, some (.aload_n 0, 1), some (.getfield 7, 3), none, none, some (.bipush 64, 2), none, some (.iload_n 1, 1), some (.imul, 1), some (.iload 4, 2), none, some (.iadd, 1), some (.iaload, 1), some (.iconst 1, 1), some (.if_icmp .ne 19, 3), none, none, some (.iinc 3 1, 3), none, none, some (.aload_n 0, 1), some (.getfield 28, 3), none, none, some (.iload_n 3, 1), some (.lconst 0, 1), some (.lastore, 1), some (.iinc 4 1, 3), none, none, some (.goto (-40), 3), none, none, some (.iload_n 2, 1), some (.aload_n 0, 1), some (.getfield 28, 3), none, none, some (.iload_n 3, 1), some (.laload, 1), some (.invokestatic 146, 3), none, none, some (.aload_n 0, 1), some (.getfield 7, 3), none, none, some (.bipush 64, 2), none, some (.iload_n 1, 1), some (.imul, 1), some (.iload 4, 2), none, some (.iadd, 1), some (.iconst 1, 1), some (.iadd, 1), some (.iaload, 1), some (.i2l, 1), some (.lmul, 1), some (.lstore 5, 2), none, some (.iinc 3 (-1), 3), none, none, some (.aload_n 0, 1), some (.getfield 28, 3), none, none, some (.iload_n 3, 1), some (.aload_n 0, 1), some (.getfield 28, 3), none, none, some (.iload_n 3, 1), some (.laload, 1), some (.lload 5, 2), none, some (.ladd, 1), some (.ldc2_w 144, 3), none, none, some (.lcmp, 1), some (.ifCond .le 9, 3), none, none, some (.ldc2_w 144, 3), none, none, some (.goto 12, 3), none, none, some (.aload_n 0, 1), some (.getfield 28, 3), none, none, some (.iload_n 3, 1), some (.laload, 1), some (.lload 5, 2), none, some (.ladd, 1), some (.lastore, 1), some (.iinc 4 2, 3), none, none, some (.goto (-114), 3), none, none, some (.aload_n 0, 1), some (.getfield 28, 3), none, none, some (.iconst 0, 1), some (.laload, 1), some (.ldc2_w 150, 3), none, none, some (.lcmp, 1), some (.ifCond .le 7, 3), none, none, some (.iconst (-1), 1), some (.goto 10, 3), none, none, some (.aload_n 0, 1), some (.getfield 28, 3), none, none, some (.iconst 0, 1), some (.laload, 1), some (.l2i, 1), some (.ireturn, 1)]
/-- OrdinalDeskModel.apply(I)I -/
def oc_130 : List (Option (ClassFile.Instr × Nat)) := [some (.aload_n 0, 1), some (.bipush 20, 2), none, some (.aload_n 0, 1), some (.getfield 152, 3), none, none, some (.iadd, 1), some (.iconst 1, 1), some (.isub, 1), some (.bipush 87, 2), none, some (.invokevirtual 66, 3), none, none, some (.aload_n 0, 1), some (.getfield 16, 3), none, none, some (.aload_n 0, 1), some (.getfield 152, 3), none, none, some (.iconst 1, 1), some (.isub, 1), some (.dup2, 1), some (.iaload, 1), some (.iconst 1, 1), some (.isub, 1), some (.iastore, 1), some (.aload_n 0, 1), some (.aload_n 0, 1), some (.getfield 16, 3), none, none, some (.aload_n 0, 1), some (.getfield 152, 3), none, none, some (.iconst 1, 1), some (.isub, 1), some (.iaload, 1), some (.ifCond .ne 12, 3), none, none, some (.aload_n 0, 1), some (.getfield 152, 3), none, none, some (.iconst 1, 1), some (.isub, 1), some (.goto 7, 3), none, none, some (.aload_n 0, 1), some (.getfield 152, 3), none, none, some (.putfield 152, 3), none, none, some (.aload_n 0, 1), some (.bipush 87, 2), none, some (.invokevirtual 100, 3), none, none, some (.istore_n 2, 1), some (.iload_n 2, 1), some (.ifCond .ne 7, 3), none, none, some (.iload_n 1, 1), some (.iconst 1, 1), some (.iadd, 1), some (.ireturn, 1), some (.iload_n 2, 1), some (.iconst 1, 1), some (.if_icmp .ne 12, 3), none, none, some (.aload_n 0, 1), some (.bipush 87, 2), none, some (.invokevirtual 107, 3), none, none, some (.goto 20, 3), none, none, some (.aload_n 0, 1), some (.bipush 87, 2), none, some (.bipush 88, 2), none, some (.invokevirtual 66, 3), none, none, some (.aload_n 0, 1), some (.bipush 88, 2), none, some (.iload_n 1, 1), some (.bipush 87, 2), none, some (.invokevirtual 131, 3), none, none, some (.iload_n 2, 1), some (.iconst 2, 1), some (.if_icmp .eq 7, 3), none, none, some (.iload_n 1, 1), some (.ifCond .le 54, 3), none, none, some (.aload_n 0, 1), some (.getfield 152, 3), none, none, some (.bipush 12, 2), none, some (.if_icmp .ge 35, 3), none, none, some (.aload_n 0, 1), some (.bipush 87, 2), none, some (.bipush 20, 2), none, some (.aload_n 0, 1), some (.getfield 152, 3), none, none, some (.iadd, 1), some (.invokevirtual 66, 3), none, none, some (.aload_n 0, 1), some (.getfield 16, 3), none, none, some (.aload_n 0, 1), some (.getfield 152, 3), none, none, some (.iload_n 2, 1), some (.iconst 1, 1), some (.if_icmp .ne 7, 3), none, none, some (.iload_n 1, 1), some (.goto 4, 3), none, none, some (.iconst 1, 1), some (.iastore, 1), some (.aload_n 0, 1), some (.dup, 1), some (.getfield 152, 3), none, none, some (.iconst 1, 1), some (.iadd, 1), some (.putfield 152, 3), none, none, some (.iload_n 1, 1), some (.ireturn, 1)]
/-- OrdinalDeskModel.fast(III)I -/
def oc_131 : List (Option (ClassFile.Instr × Nat)) := [some (.aload_n 0, 1), some (.iload_n 1, 1), some (.invokestatic 116, 3), none, none, some (.ifCond .eq 7, 3), none, none, some (.iconst 1, 1), some (.goto 30, 3), none, none, some (.iload_n 2, 1), some (.ifCond .lt 21, 3), none, none, some (.iload_n 2, 1), some (.sipush 1000, 3), none, none, some (.if_icmp .gt 14, 3), none, none, some (.iload_n 3, 1), some (.ifCond .lt 10, 3), none, none, some (.iload_n 3, 1), some (.sipush 2000, 3), none, none, some (.if_icmp .le 7, 3), none, none, some (.iconst 2, 1), some (.goto 4, 3), none, none, some (.iconst 0, 1), some (.putfield 32, 3), none, none, some (.aload_n 0, 1), some (.getfield 32, 3), none, none, some (.ifCond .le 5, 3), none, none, some (.iconst 0, 1), some (.ireturn, 1), some (.aload_n 0, 1), some (.iconst 0, 1), some (.putfield 36, 3), none, none, some (.aload_n 0, 1), some (.iconst 1, 1), some (.putfield 152, 3), none, none, some (.aload_n 0, 1), some (.iload_n 1, 1), some (.bipush 20, 2), none, some (.invokevirtual 66, 3), none, none, some (.aload_n 0, 1), some (.getfield 16, 3), none, none, some (.iconst 0, 1), some (.iconst 1, 1), some (.iastore, 1), some (.iload_n 2, 1), some (.istore 4, 2), none, some (.iconst 0, 1), some (.istore 5, 2), none, some (.aload_n 0, 1), some (.getfield 152, 3), none, none, some (.ifCond .le 54, 3), none, none, some (.iload 5, 2), none, some (.iload_n 3, 1), some (.if_icmp .eq 10, 3), none, none, some (.iload 4, 2), none, some (.ldc 50, 2), none, some (.if_icmp .le 5, 3), none, none, some (.iconst (-1), 1), some (.ireturn, 1), some (.iinc 5 1, 3), none, none, some (.aload_n 0, 1), some (.iload 4, 2), none, some (.invokevirtual 155, 3), none, none, some (.istore 4, 2), none, some (.aload_n 0, 1), some (.getfield 36, 3), none, none, some (.ifCond .eq 10, 3), none, none, some (.aload_n 0, 1), some (.iconst 3, 1), some (.putfield 32, 3), none, none, some (.iconst 0, 1), some (.ireturn, 1), some (.aload_n 0, 1), some (.getfield 152, 3), none, none, some (.bipush 12, 2), none, some (.if_icmp .le (-53), 3), none, none, some (.iconst (-1), 1), some (.ireturn, 1), some (.iload 4, 2), none, some (.ldc 50, 2), none, some (.if_icmp .le 7, 3), none, none, some (.iconst (-1), 1), some (.goto 5, 3), none, none, some (.iload 4, 2), none, some (.ireturn, 1)]
/-- OrdinalDeskModel.record(I)I -/
def oc_132 : List (Option (ClassFile.Instr × Nat)) := [some (.aload_n 0, 1), some (.iload_n 1, 1), some (.invokestatic 116, 3), none, none, some (.ifCond .eq 7, 3), none, none, some (.iconst 1, 1), some (.goto 17, 3), none, none, some (.aload_n 0, 1), some (.getfield 158, 3), none, none, some (.bipush 12, 2), none, some (.if_icmp .ne 7, 3), none, none, some (.iconst 2, 1), some (.goto 4, 3), none, none, some (.iconst 0, 1), some (.putfield 32, 3), none, none, some (.aload_n 0, 1), some (.getfield 32, 3), none, none, some (.ifCond .le 5, 3), none, none, some (.iconst 0, 1), some (.ireturn, 1), some (.aload_n 0, 1), some (.iload_n 1, 1), some (.bipush 8, 2), none, some (.aload_n 0, 1), some (.getfield 158, 3), none, none, some (.iadd, 1), some (.invokevirtual 66, 3), none, none, some (.aload_n 0, 1), some (.dup, 1), some (.getfield 158, 3), none, none, some (.iconst 1, 1), some (.iadd, 1), some (.putfield 158, 3), none, none, some (.aload_n 0, 1), some (.getfield 158, 3), none, none, some (.ireturn, 1)]
/-- OrdinalDeskModel.rise()I -/
def oc_133 : List (Option (ClassFile.Instr × Nat)) := [some (.aload_n 0, 1), some (.iconst 0, 1), some (.putfield 32, 3), none, none, some (.iconst 1, 1), some (.istore_n 1, 1), some (.iload_n 1, 1), some (.aload_n 0, 1), some (.getfield 158, 3), none, none, some (.if_icmp .ge 28, 3), none, none, some (.aload_n 0, 1), some (.bipush 8, 2), none, some (.iload_n 1, 1), some (.iadd, 1), some (.bipush 8, 2), none, some (.iload_n 1, 1), some (.iadd, 1), some (.iconst 1, 1), some (.isub, 1), some (.invokevirtual 75, 3), none, none, some (.ifCond .lt 5, 3), none, none, some (.iload_n 1, 1), some (.ireturn, 1), some (.iinc 1 1, 3), none, none, some (.goto (-30), 3), none, none, some (.iconst (-1), 1), some (.ireturn, 1)]
/-- OrdinalDeskModel.replace(II)V -/
def oc_134 : List (Option (ClassFile.Instr × Nat)) := [some (.aload_n 0, 1), some (.iload_n 1, 1), some (.ifCond .lt 18, 3), none, none, some (.iload_n 1, 1), some (.aload_n 0, 1), some (.getfield 158, 3), none, none, some (.if_icmp .ge 10, 3), none, none, some (.iload_n 2, 1), some (.invokestatic 116, 3), none, none, some (.ifCond .eq 7, 3), none, none, some (.iconst 1, 1), some (.goto 4, 3), none, none, some (.iconst 0, 1), some (.putfield 32, 3), none, none, some (.aload_n 0, 1), some (.getfield 32, 3), none, none, some (.ifCond .ne 12, 3), none, none, some (.aload_n 0, 1), some (.iload_n 2, 1), some (.bipush 8, 2), none, some (.iload_n 1, 1), some (.iadd, 1), some (.invokevirtual 66, 3), none, none, some (.return_, 1)]
/-- OrdinalDeskModel.recall(II)V -/
def oc_135 : List (Option (ClassFile.Instr × Nat)) := [some (.aload_n 0, 1), some (.iload_n 1, 1), some (.ifCond .lt 18, 3), none, none, some (.iload_n 1, 1), some (.aload_n 0, 1), some (.getfield 158, 3), none, none, some (.if_icmp .ge 10, 3), none, none, some (.iload_n 2, 1), some (.invokestatic 116, 3), none, none, some (.ifCond .eq 7, 3), none, none, some (.iconst 1, 1), some (.goto 4, 3), none, none, some (.iconst 0, 1), some (.putfield 32, 3), none, none, some (.aload_n 0, 1), some (.getfield 32, 3), none, none, some (.ifCond .ne 12, 3), none, none, some (.aload_n 0, 1), some (.bipush 8, 2), none, some (.iload_n 1, 1), some (.iadd, 1), some (.iload_n 2, 1), some (.invokevirtual 66, 3), none, none, some (.return_, 1)]
/-- OrdinalDeskModel.wipe()I -/
def oc_136 : List (Option (ClassFile.Instr × Nat)) := [some (.aload_n 0, 1), some (.iconst 0, 1), some (.putfield 32, 3), none, none, some (.aload_n 0, 1), some (.getfield 158, 3), none, none, some (.istore_n 1, 1), some (.aload_n 0, 1), some (.iconst 0, 1), some (.putfield 158, 3), none, none, some (.iload_n 1, 1), some (.ireturn, 1)]
/-- OrdinalDeskLaw.finite(LOrdinalDesk;II)I -/
def oc_137 : List (Option (ClassFile.Instr × Nat)) := [some (.aload_n 0, 1), some (.iload_n 1, 1), some (.iload_n 2, 1), some (.invokevirtual 7, 3), none, none, some (.goto 9, 3), none, none, some (.astore_n 3, 1), some (.iconst 1, 1), some (.ireturn, 1), some (.astore_n 3, 1), some (.iconst 2, 1), some (.ireturn, 1), some (.iconst 0, 1), some (.ireturn, 1)]
/-- OrdinalDeskLaw.raise(LOrdinalDesk;III)I -/
def oc_138 : List (Option (ClassFile.Instr × Nat)) := [some (.aload_n 0, 1), some (.iload_n 1, 1), some (.iload_n 2, 1), some (.iload_n 3, 1), some (.invokevirtual 17, 3), none, none, some (.goto 15, 3), none, none, some (.astore 4, 2), none, some (.iconst 1, 1), some (.ireturn, 1), some (.astore 4, 2), none, some (.iconst 2, 1), some (.ireturn, 1), some (.astore 4, 2), none, some (.iconst 3, 1), some (.ireturn, 1), some (.iconst 0, 1), some (.ireturn, 1)]
/-- OrdinalDeskLaw.op(LOrdinalDesk;IIII[J)I -/
def oc_139 : List (Option (ClassFile.Instr × Nat)) := [some (.aload 5, 2), none, some (.iconst 0, 1), some (.aload_n 0, 1), some (.iload_n 1, 1), some (.iload_n 2, 1), some (.iload_n 3, 1), some (.iload 4, 2), none, some (.invokevirtual 23, 3), none, none, some (.i2l, 1), some (.lastore, 1), some (.goto 15, 3), none, none, some (.astore 6, 2), none, some (.iconst 1, 1), some (.ireturn, 1), some (.astore 6, 2), none, some (.iconst 2, 1), some (.ireturn, 1), some (.astore 6, 2), none, some (.iconst 3, 1), some (.ireturn, 1), some (.iconst 0, 1), some (.ireturn, 1)]
/-- OrdinalDeskLaw.member(LOrdinalDesk;III[J)I -/
def oc_140 : List (Option (ClassFile.Instr × Nat)) := [some (.aload 4, 2), none, some (.iconst 0, 1), some (.aload_n 0, 1), some (.iload_n 1, 1), some (.iload_n 2, 1), some (.iload_n 3, 1), some (.invokevirtual 27, 3), none, none, some (.i2l, 1), some (.lastore, 1), some (.goto 15, 3), none, none, some (.astore 5, 2), none, some (.iconst 1, 1), some (.ireturn, 1), some (.astore 5, 2), none, some (.iconst 2, 1), some (.ireturn, 1), some (.astore 5, 2), none, some (.iconst 3, 1), some (.ireturn, 1), some (.iconst 0, 1), some (.ireturn, 1)]
/-- OrdinalDeskLaw.step(LOrdinalDesk;III[J)I -/
def oc_141 : List (Option (ClassFile.Instr × Nat)) := [some (.aload 4, 2), none, some (.iconst 0, 1), some (.aload_n 0, 1), some (.iload_n 1, 1), some (.iload_n 2, 1), some (.iload_n 3, 1), some (.invokevirtual 31, 3), none, none, some (.i2l, 1), some (.lastore, 1), some (.goto 15, 3), none, none, some (.astore 5, 2), none, some (.iconst 1, 1), some (.ireturn, 1), some (.astore 5, 2), none, some (.iconst 2, 1), some (.ireturn, 1), some (.astore 5, 2), none, some (.iconst 3, 1), some (.ireturn, 1), some (.iconst 0, 1), some (.ireturn, 1)]
/-- OrdinalDeskLaw.chop(LOrdinalDesk;IIII[J)I -/
def oc_142 : List (Option (ClassFile.Instr × Nat)) := [some (.aload 5, 2), none, some (.iconst 0, 1), some (.aload_n 0, 1), some (.iload_n 1, 1), some (.iload_n 2, 1), some (.iload_n 3, 1), some (.iload 4, 2), none, some (.invokevirtual 34, 3), none, none, some (.i2l, 1), some (.lastore, 1), some (.goto 15, 3), none, none, some (.astore 6, 2), none, some (.iconst 1, 1), some (.ireturn, 1), some (.astore 6, 2), none, some (.iconst 2, 1), some (.ireturn, 1), some (.astore 6, 2), none, some (.iconst 3, 1), some (.ireturn, 1), some (.iconst 0, 1), some (.ireturn, 1)]
/-- OrdinalDeskLaw.start(LOrdinalDesk;III[J)I -/
def oc_143 : List (Option (ClassFile.Instr × Nat)) := [some (.aload 4, 2), none, some (.iconst 0, 1), some (.aload_n 0, 1), some (.iload_n 1, 1), some (.iload_n 2, 1), some (.iload_n 3, 1), some (.invokevirtual 37, 3), none, none, some (.i2l, 1), some (.lastore, 1), some (.goto 15, 3), none, none, some (.astore 5, 2), none, some (.iconst 1, 1), some (.ireturn, 1), some (.astore 5, 2), none, some (.iconst 2, 1), some (.ireturn, 1), some (.astore 5, 2), none, some (.iconst 3, 1), some (.ireturn, 1), some (.iconst 0, 1), some (.ireturn, 1)]
/-- OrdinalDeskLaw.compare(LOrdinalDesk;II[J)I -/
def oc_144 : List (Option (ClassFile.Instr × Nat)) := [some (.aload_n 3, 1), some (.iconst 0, 1), some (.aload_n 0, 1), some (.iload_n 1, 1), some (.iload_n 2, 1), some (.invokevirtual 40, 3), none, none, some (.i2l, 1), some (.lastore, 1), some (.goto 7, 3), none, none, some (.astore 4, 2), none, some (.iconst 1, 1), some (.ireturn, 1), some (.iconst 0, 1), some (.ireturn, 1)]
/-- OrdinalDeskLaw.kind(LOrdinalDesk;I[J)I -/
def oc_145 : List (Option (ClassFile.Instr × Nat)) := [some (.aload_n 2, 1), some (.iconst 0, 1), some (.aload_n 0, 1), some (.iload_n 1, 1), some (.invokevirtual 44, 3), none, none, some (.i2l, 1), some (.lastore, 1), some (.goto 6, 3), none, none, some (.astore_n 3, 1), some (.iconst 1, 1), some (.ireturn, 1), some (.iconst 0, 1), some (.ireturn, 1)]
/-- OrdinalDeskLaw.size(LOrdinalDesk;I[J)I -/
def oc_146 : List (Option (ClassFile.Instr × Nat)) := [some (.aload_n 2, 1), some (.iconst 0, 1), some (.aload_n 0, 1), some (.iload_n 1, 1), some (.invokevirtual 48, 3), none, none, some (.i2l, 1), some (.lastore, 1), some (.goto 6, 3), none, none, some (.astore_n 3, 1), some (.iconst 1, 1), some (.ireturn, 1), some (.iconst 0, 1), some (.ireturn, 1)]
/-- OrdinalDeskLaw.at(LOrdinalDesk;II[J)I -/
def oc_147 : List (Option (ClassFile.Instr × Nat)) := [some (.aload_n 3, 1), some (.iconst 0, 1), some (.aload_n 0, 1), some (.iload_n 1, 1), some (.iload_n 2, 1), some (.invokevirtual 51, 3), none, none, some (.i2l, 1), some (.lastore, 1), some (.goto 7, 3), none, none, some (.astore 4, 2), none, some (.iconst 1, 1), some (.ireturn, 1), some (.iconst 0, 1), some (.ireturn, 1)]
/-- OrdinalDeskLaw.value(LOrdinalDesk;II[J)I -/
def oc_148 : List (Option (ClassFile.Instr × Nat)) := [some (.aload_n 3, 1), some (.iconst 0, 1), some (.aload_n 0, 1), some (.iload_n 1, 1), some (.iload_n 2, 1), some (.invokevirtual 54, 3), none, none, some (.i2l, 1), some (.lastore, 1), some (.goto 11, 3), none, none, some (.astore 4, 2), none, some (.iconst 1, 1), some (.ireturn, 1), some (.astore 4, 2), none, some (.iconst 2, 1), some (.ireturn, 1), some (.iconst 0, 1), some (.ireturn, 1)]
/-- OrdinalDeskLaw.fast(LOrdinalDesk;III[J)I -/
def oc_149 : List (Option (ClassFile.Instr × Nat)) := [some (.aload 4, 2), none, some (.iconst 0, 1), some (.aload_n 0, 1), some (.iload_n 1, 1), some (.iload_n 2, 1), some (.iload_n 3, 1), some (.invokevirtual 57, 3), none, none, some (.i2l, 1), some (.lastore, 1), some (.goto 15, 3), none, none, some (.astore 5, 2), none, some (.iconst 1, 1), some (.ireturn, 1), some (.astore 5, 2), none, some (.iconst 2, 1), some (.ireturn, 1), some (.astore 5, 2), none, some (.iconst 3, 1), some (.ireturn, 1), some (.iconst 0, 1), some (.ireturn, 1)]
/-- OrdinalDeskLaw.record(LOrdinalDesk;I[J)I -/
def oc_150 : List (Option (ClassFile.Instr × Nat)) := [some (.aload_n 2, 1), some (.iconst 0, 1), some (.aload_n 0, 1), some (.iload_n 1, 1), some (.invokevirtual 60, 3), none, none, some (.i2l, 1), some (.lastore, 1), some (.goto 9, 3), none, none, some (.astore_n 3, 1), some (.iconst 1, 1), some (.ireturn, 1), some (.astore_n 3, 1), some (.iconst 2, 1), some (.ireturn, 1), some (.iconst 0, 1), some (.ireturn, 1)]
/-- OrdinalDeskLaw.replace(LOrdinalDesk;II)I -/
def oc_151 : List (Option (ClassFile.Instr × Nat)) := [some (.aload_n 0, 1), some (.iload_n 1, 1), some (.iload_n 2, 1), some (.invokevirtual 63, 3), none, none, some (.goto 6, 3), none, none, some (.astore_n 3, 1), some (.iconst 1, 1), some (.ireturn, 1), some (.iconst 0, 1), some (.ireturn, 1)]
/-- OrdinalDeskLaw.recall(LOrdinalDesk;II)I -/
def oc_152 : List (Option (ClassFile.Instr × Nat)) := [some (.aload_n 0, 1), some (.iload_n 1, 1), some (.iload_n 2, 1), some (.invokevirtual 66, 3), none, none, some (.goto 6, 3), none, none, some (.astore_n 3, 1), some (.iconst 1, 1), some (.ireturn, 1), some (.iconst 0, 1), some (.ireturn, 1)]
/-- OrdinalDeskLaw.law([I)Z -/
def oc_153 : List (Option (ClassFile.Instr × Nat)) := [some (.new 8, 3), none, none, some (.dup, 1), some (.invokespecial 69, 3), none, none, some (.astore_n 1, 1), some (.new 70, 3), none, none, some (.dup, 1), some (.invokespecial 72, 3), none, none, some (.astore_n 2, 1), some (.iconst 1, 1), some (.newarray .long, 2), none, some (.astore_n 3, 1), some (.iconst 0, 1), some (.istore 4, 2), none, some (.iload 4, 2), none, some (.aload_n 0, 1), some (.arraylength, 1), some (.iconst 5, 1), some (.isub, 1), some (.if_icmp .gt 1207, 3), none, none, some (.aload_n 0, 1), some (.iload 4, 2), none, some (.iaload, 1), some (.bipush 31, 2), none, some (.iand, 1), some (.tableswitch 1191 0 17 #[85, 133, 193, 285, 365, 445, 537, 617, 685, 741, 797, 865, 933, 1013, 1069, 1082, 1130, 1178], 85), none, none, none, none, none, none, none, none, none, none, none, none, none, none, none, none, none, none, none, none, none, none, none, none, none, none, none, none, none, none, none, none, none, none, none, none, none, none, none, none, none, none, none, none, none, none, none, none, none, none, none, none, none, none, none, none, none, none, none, none, none, none, none, none, none, none, none, none, none, none, none, none, none, none, none, none, none, none, none, none, none, none, none, none, some (.aload_n 1, 1), some (.aload_n 0, 1), some (.iload 4, 2), none, some (.iconst 1, 1), some (.iadd, 1), some (.iaload, 1), some (.aload_n 0, 1), some (.iload 4, 2), none, some (.iconst 2, 1), some (.iadd, 1), some (.iaload, 1), some (.invokestatic 73, 3), none, none, some (.istore 5, 2), none, some (.aload_n 2, 1), some (.aload_n 0, 1), some (.iload 4, 2), none, some (.iconst 1, 1), some (.iadd, 1), some (.iaload, 1), some (.aload_n 0, 1), some (.iload 4, 2), none, some (.iconst 2, 1), some (.iadd, 1), some (.iaload, 1), some (.invokevirtual 78, 3), none, none, some (.aload_n 2, 1), some (.invokevirtual 79, 3), none, none, some (.iload 5, 2), none, some (.if_icmp .eq 5, 3), none, none, some (.iconst 0, 1), some (.ireturn, 1), some (.goto 1061, 3), none, none, some (.aload_n 1, 1), some (.aload_n 0, 1), some (.iload 4, 2), none, some (.iconst 1, 1), some (.iadd, 1), some (.iaload, 1), some (.aload_n 0, 1), some (.iload 4, 2), none, some (.iconst 2, 1), some (.iadd, 1), some (.iaload, 1), some (.aload_n 0, 1), some (.iload 4, 2), none, some (.iconst 3, 1), some (.iadd, 1), some (.iaload, 1), some (.invokestatic 83, 3), none, none, some (.istore 5, 2), none, some (.aload_n 2, 1), some (.aload_n 0, 1), some (.iload 4, 2), none, some (.iconst 1, 1), some (.iadd, 1), some (.iaload, 1), some (.aload_n 0, 1), some (.iload 4, 2), none, some (.iconst 2, 1), some (.iadd, 1), some (.iaload, 1), some (.aload_n 0, 1), some (.iload 4, 2), none, some (.iconst 3, 1), some (.iadd, 1), some (.iaload, 1), some (.invokevirtual 86, 3), none, none, some (.aload_n 2, 1), some (.invokevirtual 79, 3), none, none, some (.iload 5, 2), none, some (.if_icmp .eq 5, 3), none, none, some (.iconst 0, 1), some (.ireturn, 1), some (.goto 1001, 3), none, none, some (.aload_n 1, 1), some (.aload_n 0, 1), some (.iload 4, 2), none, some (.iconst 1, 1), some (.iadd, 1), some (.iaload, 1), some (.aload_n 0, 1), some (.iload 4, 2), none, some (.iconst 2, 1), some (.iadd, 1), some (.iaload, 1), some (.aload_n 0, 1), some (.iload 4, 2), none, some (.iconst 3, 1), some (.iadd, 1), some (.iaload, 1), some (.aload_n 0, 1), some (.iload 4, 2), none, some (.iconst 4, 1), some (.iadd, 1), some (.iaload, 1), some (.aload_n 3, 1), some (.invokestatic 87, 3), none, none, some (.istore 5, 2), none, some (.aload_n 2, 1), some (.aload_n 0, 1), some (.iload 4, 2), none, some (.iconst 1, 1), some (.iadd, 1), some (.iaload, 1), some (.aload_n 0, 1), some (.iload 4, 2), none, some (.iconst 2, 1), some (.iadd, 1), some (.iaload, 1), some (.aload_n 0, 1), some (.iload 4, 2), none, some (.iconst 3, 1), some (.iadd, 1), some (.iaload, 1), some (.aload_n 0, 1), some (.iload 4, 2), none, some (.iconst 4, 1), some (.iadd, 1), some (.iaload, 1), some (.invokevirtual 90, 3), none, none, some (.istore 6, 2), none, some (.aload_n 2, 1), some (.invokevirtual 79, 3), none, none, some (.iload 5, 2), none, some (.if_icmp .eq 5, 3), none, none, some (.iconst 0, 1), some (.ireturn, 1), some (.iload 5, 2), none, some (.ifCond .ne 15, 3), none, none, some (.aload_n 3, 1), some (.iconst 0, 1), some (.laload, 1), some (.iload 6, 2), none, some (.i2l, 1), some (.lcmp, 1), some (.ifCond .eq 5, 3), none, none, some (.iconst 0, 1), some (.ireturn, 1), some (.goto 909, 3), none, none, some (.aload_n 1, 1), some (.aload_n 0, 1), some (.iload 4, 2), none, some (.iconst 1, 1), some (.iadd, 1), some (.iaload, 1), some (.aload_n 0, 1), some (.iload 4, 2), none, some (.iconst 2, 1), some (.iadd, 1), some (.iaload, 1), some (.aload_n 0, 1), some (.iload 4, 2), none, some (.iconst 3, 1), some (.iadd, 1), some (.iaload, 1), some (.aload_n 3, 1), some (.invokestatic 91, 3), none, none, some (.istore 5, 2), none, some (.aload_n 2, 1), some (.aload_n 0, 1), some (.iload 4, 2), none, some (.iconst 1, 1), some (.iadd, 1), some (.iaload, 1), some (.aload_n 0, 1), some (.iload 4, 2), none, some (.iconst 2, 1), some (.iadd, 1), some (.iaload, 1), some (.aload_n 0, 1), some (.iload 4, 2), none, some (.iconst 3, 1), some (.iadd, 1), some (.iaload, 1), some (.invokevirtual 94, 3), none, none, some (.istore 6, 2), none, some (.aload_n 2, 1), some (.invokevirtual 79, 3), none, none, some (.iload 5, 2), none, some (.if_icmp .eq 5, 3), none, none, some (.iconst 0, 1), some (.ireturn, 1), some (.iload 5, 2), none, some (.ifCond .ne 15, 3), none, none, some (.aload_n 3, 1), some (.iconst 0, 1), some (.laload, 1), some (.iload 6, 2), none, some (.i2l, 1), some (.lcmp, 1), some (.ifCond .eq 5, 3), none, none, some (.iconst 0, 1), some (.ireturn, 1), some (.goto 829, 3), none, none, some (.aload_n 1, 1), some (.aload_n 0, 1), some (.iload 4, 2), none, some (.iconst 1, 1), some (.iadd, 1), some (.iaload, 1), some (.aload_n 0, 1), some (.iload 4, 2), none, some (.iconst 2, 1), some (.iadd, 1), some (.iaload, 1), some (.aload_n 0, 1), some (.iload 4, 2), none, some (.iconst 3, 1), some (.iadd, 1), some (.iaload, 1), some (.aload_n 3, 1), some (.invokestatic 95, 3), none, none, some (.istore 5, 2), none, some (.aload_n 2, 1), some (.aload_n 0, 1), some (.iload 4, 2), none, some (.iconst 1, 1), some (.iadd, 1), some (.iaload, 1), some (.aload_n 0, 1), some (.iload 4, 2), none, some (.iconst 2, 1), some (.iadd, 1), some (.iaload, 1), some (.aload_n 0, 1), some (.iload 4, 2), none, some (.iconst 3, 1), some (.iadd, 1), some (.iaload, 1), some (.invokevirtual 97, 3), none, none, some (.istore 6, 2), none, some (.aload_n 2, 1), some (.invokevirtual 79, 3), none, none, some (.iload 5, 2), none, some (.if_icmp .eq 5, 3), none, none, some (.iconst 0, 1), some (.ireturn, 1), some (.iload 5, 2), none, some (.ifCond .ne 15, 3), none, none, some (.aload_n 3, 1), some (.iconst 0, 1), some (.laload, 1), some (.iload 6, 2), none, some (.i2l, 1), some (.lcmp, 1), some (.ifCond .eq 5, 3), none, none, some (.iconst 0, 1), some (.ireturn, 1), some (.goto 749, 3), none, none, some (.aload_n 1, 1), some (.aload_n 0, 1), some (.iload 4, 2), none, some (.iconst 1, 1), some (.iadd, 1), some (.iaload, 1), some (.aload_n 0, 1), some (.iload 4, 2), none, some (.iconst 2, 1), some (.iadd, 1), some (.iaload, 1), some (.aload_n 0, 1), some (.iload 4, 2), none, some (.iconst 3, 1), some (.iadd, 1), some (.iaload, 1), some (.aload_n 0, 1), some (.iload 4, 2), none, some (.iconst 4, 1), some (.iadd, 1), some (.iaload, 1), some (.aload_n 3, 1), some (.invokestatic 98, 3), none, none, some (.istore 5, 2), none, some (.aload_n 2, 1), some (.aload_n 0, 1), some (.iload 4, 2), none, some (.iconst 1, 1), some (.iadd, 1), some (.iaload, 1), some (.aload_n 0, 1), some (.iload 4, 2), none, some (.iconst 2, 1), some (.iadd, 1), some (.iaload, 1), some (.aload_n 0, 1), some (.iload 4, 2), none, some (.iconst 3, 1), some (.iadd, 1), some (.iaload, 1), some (.aload_n 0, 1), some (.iload 4, 2), none, some (.iconst 4, 1), some (.iadd, 1), some (.iaload, 1), some (.invokevirtual 100, 3), none, none, some (.istore 6, 2), none, some (.aload_n 2, 1), some (.invokevirtual 79, 3), none, none, some (.iload 5, 2), none, some (.if_icmp .eq 5, 3), none, none, some (.iconst 0, 1), some (.ireturn, 1), some (.iload 5, 2), none, some (.ifCond .ne 15, 3), none, none, some (.aload_n 3, 1), some (.iconst 0, 1), some (.laload, 1), some (.iload 6, 2), none, some (.i2l, 1), some (.lcmp, 1), some (.ifCond .eq 5, 3), none, none, some (.iconst 0, 1), some (.ireturn, 1), some (.goto 657, 3), none, none, some (.aload_n 1, 1), some (.aload_n 0, 1), some (.iload 4, 2), none, some (.iconst 1, 1), some (.iadd, 1), some (.iaload, 1), some (.aload_n 0, 1), some (.iload 4, 2), none, some (.iconst 2, 1), some (.iadd, 1), some (.iaload, 1), some (.aload_n 0, 1), some (.iload 4, 2), none, some (.iconst 3, 1), some (.iadd, 1), some (.iaload, 1), some (.aload_n 3, 1), some (.invokestatic 101, 3), none, none, some (.istore 5, 2), none, some (.aload_n 2, 1), some (.aload_n 0, 1), some (.iload 4, 2), none, some (.iconst 1, 1), some (.iadd, 1), some (.iaload, 1), some (.aload_n 0, 1), some (.iload 4, 2), none, some (.iconst 2, 1), some (.iadd, 1), some (.iaload, 1), some (.aload_n 0, 1), some (.iload 4, 2), none, some (.iconst 3, 1), some (.iadd, 1), some (.iaload, 1), some (.invokevirtual 103, 3), none, none, some (.istore 6, 2), none, some (.aload_n 2, 1), some (.invokevirtual 79, 3), none, none, some (.iload 5, 2), none, some (.if_icmp .eq 5, 3), none, none, some (.iconst 0, 1), some (.ireturn, 1), some (.iload 5, 2), none, some (.ifCond .ne 15, 3), none, none, some (.aload_n 3, 1), some (.iconst 0, 1), some (.laload, 1), some (.iload 6, 2), none, some (.i2l, 1), some (.lcmp, 1), some (.ifCond .eq 5, 3), none, none, some (.iconst 0, 1), some (.ireturn, 1), some (.goto 577, 3), none, none, some (.aload_n 1, 1), some (.aload_n 0, 1), some (.iload 4, 2), none, some (.iconst 1, 1), some (.iadd, 1), some (.iaload, 1), some (.aload_n 0, 1), some (.iload 4, 2), none, some (.iconst 2, 1), some (.iadd, 1), some (.iaload, 1), some (.aload_n 3, 1), some (.invokestatic 104, 3), none, none, some (.istore 5, 2), none, some (.aload_n 2, 1), some (.aload_n 0, 1), some (.iload 4, 2), none, some (.iconst 1, 1), some (.iadd, 1), some (.iaload, 1), some (.aload_n 0, 1), some (.iload 4, 2), none, some (.iconst 2, 1), some (.iadd, 1), some (.iaload, 1), some (.invokevirtual 107, 3), none, none, some (.istore 6, 2), none, some (.aload_n 2, 1), some (.invokevirtual 79, 3), none, none, some (.iload 5, 2), none, some (.if_icmp .eq 5, 3), none, none, some (.iconst 0, 1), some (.ireturn, 1), some (.iload 5, 2), none, some (.ifCond .ne 15, 3), none, none, some (.aload_n 3, 1), some (.iconst 0, 1), some (.laload, 1), some (.iload 6, 2), none, some (.i2l, 1), some (.lcmp, 1), some (.ifCond .eq 5, 3), none, none, some (.iconst 0, 1), some (.ireturn, 1), some (.goto 509, 3), none, none, some (.aload_n 1, 1), some (.aload_n 0, 1), some (.iload 4, 2), none, some (.iconst 1, 1), some (.iadd, 1), some (.iaload, 1), some (.aload_n 3, 1), some (.invokestatic 108, 3), none, none, some (.istore 5, 2), none, some (.aload_n 2, 1), some (.aload_n 0, 1), some (.iload 4, 2), none, some (.iconst 1, 1), some (.iadd, 1), some (.iaload, 1), some (.invokevirtual 111, 3), none, none, some (.istore 6, 2), none, some (.aload_n 2, 1), some (.invokevirtual 79, 3), none, none, some (.iload 5, 2), none, some (.if_icmp .eq 5, 3), none, none, some (.iconst 0, 1), some (.ireturn, 1), some (.iload 5, 2), none, some (.ifCond .ne 15, 3), none, none, some (.aload_n 3, 1), some (.iconst 0, 1), some (.laload, 1), some (.iload 6, 2), none, some (.i2l, 1), some (.lcmp, 1), some (.ifCond .eq 5, 3), none, none, some (.iconst 0, 1), some (.ireturn, 1), some (.goto 453, 3), none, none, some (.aload_n 1, 1), some (.aload_n 0, 1), some (.iload 4, 2), none, some (.iconst 1, 1), some (.iadd, 1), some (.iaload, 1), some (.aload_n 3, 1), some (.invokestatic 112, 3), none, none, some (.istore 5, 2), none, some (.aload_n 2, 1), some (.aload_n 0, 1), some (.iload 4, 2), none, some (.iconst 1, 1), some (.iadd, 1), some (.iaload, 1), some (.invokevirtual 114, 3), none, none, some (.istore 6, 2), none, some (.aload_n 2, 1), some (.invokevirtual 79, 3), none, none, some (.iload 5, 2), none, some (.if_icmp .eq 5, 3), none, none, some (.iconst 0, 1), some (.ireturn, 1), some (.iload 5, 2), none, some (.ifCond .ne 15, 3), none, none, some (.aload_n 3, 1), some (.iconst 0, 1), some (.laload, 1), some (.iload 6, 2), none, some (.i2l, 1), some (.lcmp, 1), some (.ifCond .eq 5, 3), none, none, some (.iconst 0, 1), some (.ireturn, 1), some (.goto 397, 3), none, none, some (.aload_n 1, 1), some (.aload_n 0, 1), some (.iload 4, 2), none, some (.iconst 1, 1), some (.iadd, 1), some (.iaload, 1), some (.aload_n 0, 1), some (.iload 4, 2), none, some (.iconst 2, 1), some (.iadd, 1), some (.iaload, 1), some (.aload_n 3, 1), some (.invokestatic 115, 3), none, none, some (.istore 5, 2), none, some (.aload_n 2, 1), some (.aload_n 0, 1), some (.iload 4, 2), none, some (.iconst 1, 1), some (.iadd, 1), some (.iaload, 1), some (.aload_n 0, 1), some (.iload 4, 2), none, some (.iconst 2, 1), some (.iadd, 1), some (.iaload, 1), some (.invokevirtual 117, 3), none, none, some (.istore 6, 2), none, some (.aload_n 2, 1), some (.invokevirtual 79, 3), none, none, some (.iload 5, 2), none, some (.if_icmp .eq 5, 3), none, none, some (.iconst 0, 1), some (.ireturn, 1), some (.iload 5, 2), none, some (.ifCond .ne 15, 3), none, none, some (.aload_n 3, 1), some (.iconst 0, 1), some (.laload, 1), some (.iload 6, 2), none, some (.i2l, 1), some (.lcmp, 1), some (.ifCond .eq 5, 3), none, none, some (.iconst 0, 1), some (.ireturn, 1), some (.goto 329, 3), none, none, some (.aload_n 1, 1), some (.aload_n 0, 1), some (.iload 4, 2), none, some (.iconst 1, 1), some (.iadd, 1), some (.iaload, 1), some (.aload_n 0, 1), some (.iload 4, 2), none, some (.iconst 2, 1), some (.iadd, 1), some (.iaload, 1), some (.aload_n 3, 1), some (.invokestatic 118, 3), none, none, some (.istore 5, 2), none, some (.aload_n 2, 1), some (.aload_n 0, 1), some (.iload 4, 2), none, some (.iconst 1, 1), some (.iadd, 1), some (.iaload, 1), some (.aload_n 0, 1), some (.iload 4, 2), none, some (.iconst 2, 1), some (.iadd, 1), some (.iaload, 1), some (.invokevirtual 120, 3), none, none, some (.istore 6, 2), none, some (.aload_n 2, 1), some (.invokevirtual 79, 3), none, none, some (.iload 5, 2), none, some (.if_icmp .eq 5, 3), none, none, some (.iconst 0, 1), some (.ireturn, 1), some (.iload 5, 2), none, some (.ifCond .ne 15, 3), none, none, some (.aload_n 3, 1), some (.iconst 0, 1), some (.laload, 1), some (.iload 6, 2), none, some (.i2l, 1), some (.lcmp, 1), some (.ifCond .eq 5, 3), none, none, some (.iconst 0, 1), some (.ireturn, 1), some (.goto 261, 3), none, none, some (.aload_n 1, 1), some (.aload_n 0, 1), some (.iload 4, 2), none, some (.iconst 1, 1), some (.iadd, 1), some (.iaload, 1), some (.aload_n 0, 1), some (.iload 4, 2), none, some (.iconst 2, 1), some (.iadd, 1), some (.iaload, 1), some (.aload_n 0, 1), some (.iload 4, 2), none, some (.iconst 3, 1), some (.iadd, 1), some (.iaload, 1), some (.aload_n 3, 1), some (.invokestatic 121, 3), none, none, some (.istore 5, 2), none, some (.aload_n 2, 1), some (.aload_n 0, 1), some (.iload 4, 2), none, some (.iconst 1, 1), some (.iadd, 1), some (.iaload, 1), some (.aload_n 0, 1), some (.iload 4, 2), none, some (.iconst 2, 1), some (.iadd, 1), some (.iaload, 1), some (.aload_n 0, 1), some (.iload 4, 2), none, some (.iconst 3, 1), some (.iadd, 1), some (.iaload, 1), some (.invokevirtual 123, 3), none, none, some (.istore 6, 2), none, some (.aload_n 2, 1), some (.invokevirtual 79, 3), none, none, some (.iload 5, 2), none, some (.if_icmp .eq 5, 3), none, none, some (.iconst 0, 1), some (.ireturn, 1), some (.iload 5, 2), none, some (.ifCond .ne 15, 3), none, none, some (.aload_n 3, 1), some (.iconst 0, 1), some (.laload, 1), some (.iload 6, 2), none, some (.i2l, 1), some (.lcmp, 1), some (.ifCond .eq 5, 3), none, none, some (.iconst 0, 1), some (.ireturn, 1), some (.goto 181, 3), none, none, some (.aload_n 1, 1), some (.aload_n 0, 1), some (.iload 4, 2), none, some (.iconst 1, 1), some (.iadd, 1), some (.iaload, 1), some (.aload_n 3, 1), some (.invokestatic 124, 3), none, none, some (.istore 5, 2), none, some (.aload_n 2, 1), some (.aload_n 0, 1), some (.iload 4, 2), none, some (.iconst 1, 1), some (.iadd, 1), some (.iaload, 1), some (.invokevirtual 126, 3), none, none, some (.istore 6, 2), none, some (.aload_n 2, 1), some (.invokevirtual 79, 3), none, none, some (.iload 5, 2), none, some (.if_icmp .eq 5, 3), none, none, some (.iconst 0, 1), some (.ireturn, 1), some (.iload 5, 2), none, some (.ifCond .ne 15, 3), none, none, some (.aload_n 3, 1), some (.iconst 0, 1), some (.laload, 1), some (.iload 6, 2), none, some (.i2l, 1), some (.lcmp, 1), some (.ifCond .eq 5, 3), none, none, some (.iconst 0, 1), some (.ireturn, 1), some (.goto 125, 3), none, none, some (.aload_n 1, 1), some (.invokevirtual 127, 3), none, none, some (.aload_n 2, 1), some (.invokevirtual 130, 3), none, none, some (.if_icmp .eq 114, 3), none, none, some (.iconst 0, 1), some (.ireturn, 1), some (.aload_n 1, 1), some (.aload_n 0, 1), some (.iload 4, 2), none, some (.iconst 1, 1), some (.iadd, 1), some (.iaload, 1), some (.aload_n 0, 1), some (.iload 4, 2), none, some (.iconst 2, 1), some (.iadd, 1), some (.iaload, 1), some (.invokestatic 131, 3), none, none, some (.istore 5, 2), none, some (.aload_n 2, 1), some (.aload_n 0, 1), some (.iload 4, 2), none, some (.iconst 1, 1), some (.iadd, 1), some (.iaload, 1), some (.aload_n 0, 1), some (.iload 4, 2), none, some (.iconst 2, 1), some (.iadd, 1), some (.iaload, 1), some (.invokevirtual 133, 3), none, none, some (.aload_n 2, 1), some (.invokevirtual 79, 3), none, none, some (.iload 5, 2), none, some (.if_icmp .eq 5, 3), none, none, some (.iconst 0, 1), some (.ireturn, 1), some (.goto 64, 3), none, none, some (.aload_n 1, 1), some (.aload_n 0, 1), some (.iload 4, 2), none, some (.iconst 1, 1), some (.iadd, 1), some (.iaload, 1), some (.aload_n 0, 1), some (.iload 4, 2), none, some (.iconst 2, 1), some (.iadd, 1), some (.iaload, 1), some (.invokestatic 134, 3), none, none, some (.istore 5, 2), none, some (.aload_n 2, 1), some (.aload_n 0, 1), some (.iload 4, 2), none, some (.iconst 1, 1), some (.iadd, 1), some (.iaload, 1), some (.aload_n 0, 1), some (.iload 4, 2), none, some (.iconst 2, 1), some (.iadd, 1), some (.iaload, 1), some (.invokevirtual 136, 3), none, none, some (.aload_n 2, 1), some (.invokevirtual 79, 3), none, none, some (.iload 5, 2), none, some (.if_icmp .eq 5, 3), none, none, some (.iconst 0, 1), some (.ireturn, 1), some (.goto 16, 3), none, none, some (.aload_n 1, 1), some (.invokevirtual 137, 3), none, none, some (.aload_n 2, 1), some (.invokevirtual 140, 3), none, none, some (.if_icmp .eq 5, 3), none, none, some (.iconst 0, 1), some (.ireturn, 1), some (.iinc 4 5, 3), none, none, some (.goto (-1210), 3), none, none, some (.iconst 1, 1), some (.ireturn, 1)]
/-- java/lang/Math.min(II)I -/
def oc_154 : List (Option (ClassFile.Instr × Nat)) := [some (.iload_n 0, 1), some (.iload_n 1, 1), some (.if_icmp .gt 7, 3), none, none, some (.iload_n 0, 1), some (.goto 4, 3), none, none, some (.iload_n 1, 1), some (.ireturn, 1)]
/-- java/lang/Math.max(II)I -/
def oc_155 : List (Option (ClassFile.Instr × Nat)) := [some (.iload_n 0, 1), some (.iload_n 1, 1), some (.if_icmp .lt 7, 3), none, none, some (.iload_n 0, 1), some (.goto 4, 3), none, none, some (.iload_n 1, 1), some (.ireturn, 1)]
/-- java/lang/Math.min(JJ)J -/
def oc_156 : List (Option (ClassFile.Instr × Nat)) := [some (.lload_n 0, 1), some (.lload_n 2, 1), some (.lcmp, 1), some (.ifCond .gt 7, 3), none, none, some (.lload_n 0, 1), some (.goto 4, 3), none, none, some (.lload_n 2, 1), some (.lreturn, 1)]
/-- java/lang/Integer.compare(II)I -/
def oc_157 : List (Option (ClassFile.Instr × Nat)) := [some (.iload_n 0, 1), some (.iload_n 1, 1), some (.if_icmp .ge 7, 3), none, none, some (.iconst (-1), 1), some (.goto 13, 3), none, none, some (.iload_n 0, 1), some (.iload_n 1, 1), some (.if_icmp .ne 7, 3), none, none, some (.iconst 0, 1), some (.goto 4, 3), none, none, some (.iconst 1, 1), some (.ireturn, 1)]
def od_tab : List (ByteArray × List (Option (ClassFile.Instr × Nat))) := [(prog_8_method_1_code, oc_0), (prog_8_method_2_code, oc_1), (prog_8_method_3_code, oc_2), (prog_8_method_4_code, oc_3), (prog_8_method_5_code, oc_4), (prog_8_method_6_code, oc_5), (prog_8_method_7_code, oc_6), (prog_8_method_8_code, oc_7), (prog_8_method_9_code, oc_8), (prog_8_method_10_code, oc_9), (prog_8_method_11_code, oc_10), (prog_8_method_12_code, oc_11), (prog_8_method_13_code, oc_12), (prog_8_method_14_code, oc_13), (prog_8_method_15_code, oc_14), (prog_8_method_16_code, oc_15), (prog_8_method_17_code, oc_16), (prog_8_method_18_code, oc_17), (prog_8_method_19_code, oc_18), (prog_8_method_20_code, oc_19), (prog_8_method_21_code, oc_20), (prog_8_method_22_code, oc_21), (prog_8_method_23_code, oc_22), (prog_8_method_24_code, oc_23), (prog_8_method_25_code, oc_24), (prog_8_method_26_code, oc_25), (prog_8_method_27_code, oc_26), (prog_8_method_28_code, oc_27), (prog_8_method_29_code, oc_28), (prog_2_method_1_code, oc_29), (prog_2_method_2_code, oc_30), (prog_2_method_3_code, oc_31), (prog_2_method_4_code, oc_32), (prog_2_method_5_code, oc_33), (prog_2_method_6_code, oc_34), (prog_2_method_7_code, oc_35), (prog_2_method_8_code, oc_36), (prog_2_method_9_code, oc_37), (prog_2_method_10_code, oc_38), (prog_4_method_1_code, oc_39), (prog_4_method_2_code, oc_40), (prog_4_method_3_code, oc_41), (prog_4_method_4_code, oc_42), (prog_3_method_1_code, oc_43), (prog_3_method_2_code, oc_44), (prog_3_method_3_code, oc_45), (prog_3_method_4_code, oc_46), (prog_5_method_1_code, oc_47), (prog_5_method_2_code, oc_48), (prog_5_method_3_code, oc_49), (prog_5_method_4_code, oc_50), (prog_7_method_1_code, oc_51), (prog_7_method_2_code, oc_52), (prog_7_method_3_code, oc_53), (prog_7_method_4_code, oc_54), (prog_6_method_1_code, oc_55), (prog_6_method_2_code, oc_56), (prog_6_method_3_code, oc_57), (prog_6_method_4_code, oc_58), (prog_6_method_5_code, oc_59), (prog_6_method_6_code, oc_60), (prog_1_method_1_code, oc_61), (prog_1_method_2_code, oc_62), (prog_1_method_3_code, oc_63), (prog_1_method_4_code, oc_64), (prog_1_method_5_code, oc_65), (prog_1_method_6_code, oc_66), (prog_1_method_7_code, oc_67), (prog_1_method_8_code, oc_68), (prog_1_method_9_code, oc_69), (prog_1_method_10_code, oc_70), (prog_1_method_11_code, oc_71), (prog_1_method_12_code, oc_72), (prog_1_method_13_code, oc_73), (prog_1_method_14_code, oc_74), (prog_1_method_15_code, oc_75), (prog_1_method_16_code, oc_76), (prog_1_method_17_code, oc_77), (prog_1_method_18_code, oc_78), (prog_1_method_19_code, oc_79), (prog_1_method_20_code, oc_80), (prog_1_method_21_code, oc_81), (prog_1_method_22_code, oc_82), (prog_1_method_23_code, oc_83), (prog_1_method_24_code, oc_84), (prog_10_method_1_code, oc_85), (prog_10_method_2_code, oc_86), (prog_10_method_3_code, oc_87), (prog_10_method_4_code, oc_88), (prog_10_method_5_code, oc_89), (prog_10_method_6_code, oc_90), (prog_10_method_7_code, oc_91), (prog_10_method_8_code, oc_92), (prog_10_method_9_code, oc_93), (prog_10_method_10_code, oc_94), (prog_10_method_11_code, oc_95), (prog_10_method_12_code, oc_96), (prog_10_method_13_code, oc_97), (prog_10_method_14_code, oc_98), (prog_10_method_15_code, oc_99), (prog_10_method_16_code, oc_100), (prog_10_method_17_code, oc_101), (prog_10_method_18_code, oc_102), (prog_10_method_19_code, oc_103), (prog_10_method_20_code, oc_104), (prog_10_method_21_code, oc_105), (prog_10_method_22_code, oc_106), (prog_10_method_23_code, oc_107), (prog_10_method_24_code, oc_108), (prog_10_method_25_code, oc_109), (prog_10_method_26_code, oc_110), (prog_10_method_27_code, oc_111), (prog_10_method_28_code, oc_112), (prog_10_method_29_code, oc_113), (prog_10_method_30_code, oc_114), (prog_10_method_31_code, oc_115), (prog_10_method_32_code, oc_116), (prog_10_method_33_code, oc_117), (prog_10_method_34_code, oc_118), (prog_10_method_35_code, oc_119), (prog_10_method_36_code, oc_120), (prog_10_method_37_code, oc_121), (prog_10_method_38_code, oc_122), (prog_10_method_39_code, oc_123), (prog_10_method_40_code, oc_124), (prog_10_method_41_code, oc_125), (prog_10_method_42_code, oc_126), (prog_10_method_43_code, oc_127), (prog_10_method_44_code, oc_128), (prog_10_method_45_code, oc_129), (prog_10_method_46_code, oc_130), (prog_10_method_47_code, oc_131), (prog_10_method_48_code, oc_132), (prog_10_method_49_code, oc_133), (prog_10_method_50_code, oc_134), (prog_10_method_51_code, oc_135), (prog_10_method_52_code, oc_136), (method_3_code, oc_137), (method_4_code, oc_138), (method_5_code, oc_139), (method_6_code, oc_140), (method_7_code, oc_141), (method_8_code, oc_142), (method_9_code, oc_143), (method_10_code, oc_144), (method_11_code, oc_145), (method_12_code, oc_146), (method_13_code, oc_147), (method_14_code, oc_148), (method_15_code, oc_149), (method_16_code, oc_150), (method_17_code, oc_151), (method_18_code, oc_152), (code, oc_153), (prog_16_method_69_code, oc_154), (prog_16_method_65_code, oc_155), (prog_16_method_70_code, oc_156), (prog_15_method_40_code, oc_157)]
def od_by (k : Nat) : ByteArray := ((od_tab[k]?).map fun q => q.1).getD ⟨#[]⟩
def od_cd (k pc : Nat) : Option (ClassFile.Instr × Nat) := ((((od_tab[k]?).map fun q => q.2).getD [])[pc]?).getD none
def od_ys : List MethodName := [⟨"OrdinalDesk$Row", "<init>", "()V"⟩, ⟨"OrdinalDesk$Row", "isZero", "()Z"⟩, ⟨"OrdinalDesk$Row", "isFinite", "()Z"⟩, ⟨"OrdinalDesk$Row", "isOne", "()Z"⟩, ⟨"OrdinalDesk$Row", "termsInAll", "()I"⟩, ⟨"OrdinalDesk$Row", "sort", "()I"⟩, ⟨"OrdinalDesk$Row", "endsInNumber", "(II)Z"⟩, ⟨"OrdinalDesk$Row", "finitePart", "()I"⟩, ⟨"OrdinalDesk$Row", "coefficient", "(I)I"⟩, ⟨"OrdinalDesk$Row", "termEnd", "(I)I"⟩, ⟨"OrdinalDesk$Row", "lastTerm", "(II)I"⟩, ⟨"OrdinalDesk$Row", "termNumber", "(III)I"⟩, ⟨"OrdinalDesk$Row", "clear", "()V"⟩, ⟨"OrdinalDesk$Row", "become", "(LOrdinalDesk$Row;)V"⟩, ⟨"OrdinalDesk$Row", "becomePart", "(LOrdinalDesk$Row;II)V"⟩, ⟨"OrdinalDesk$Row", "becomeExponent", "(LOrdinalDesk$Row;II)V"⟩, ⟨"OrdinalDesk$Row", "becomeNumber", "(I)V"⟩, ⟨"OrdinalDesk$Row", "becomeTerm", "(LOrdinalDesk$Row;J)V"⟩, ⟨"OrdinalDesk$Row", "putPart", "(LOrdinalDesk$Row;II)V"⟩, ⟨"OrdinalDesk$Row", "putCell", "(I)V"⟩, ⟨"OrdinalDesk$Row", "openTerm", "()V"⟩, ⟨"OrdinalDesk$Row", "closeTerm", "(J)V"⟩, ⟨"OrdinalDesk$Row", "putCoefficient", "(J)V"⟩, ⟨"OrdinalDesk$Row", "putTerm", "(LOrdinalDesk$Row;J)V"⟩, ⟨"OrdinalDesk$Row", "putNumber", "(J)V"⟩, ⟨"OrdinalDesk$Row", "putTermAgain", "(LOrdinalDesk$Row;IIJ)V"⟩, ⟨"OrdinalDesk$Row", "order", "(LOrdinalDesk$Row;LOrdinalDesk$Row;)I"⟩, ⟨"OrdinalDesk$Row", "orderOfExponents", "(LOrdinalDesk$Row;IILOrdinalDesk$Row;II)I"⟩, ⟨"OrdinalDesk$Row", "orderOfParts", "(LOrdinalDesk$Row;IILOrdinalDesk$Row;II)I"⟩, ⟨"OrdinalDesk$Arithmetic", "<init>", "()V"⟩, ⟨"OrdinalDesk$Arithmetic", "makeSum", "(LOrdinalDesk$Row;LOrdinalDesk$Row;LOrdinalDesk$Row;)V"⟩, ⟨"OrdinalDesk$Arithmetic", "makeProduct", "(LOrdinalDesk$Row;LOrdinalDesk$Row;LOrdinalDesk$Row;)V"⟩, ⟨"OrdinalDesk$Arithmetic", "makePower", "(LOrdinalDesk$Row;LOrdinalDesk$Row;LOrdinalDesk$Row;)V"⟩, ⟨"OrdinalDesk$Arithmetic", "makePowerOfNumber", "(IILOrdinalDesk$Row;)V"⟩, ⟨"OrdinalDesk$Arithmetic", "powerOfNumber", "(II)J"⟩, ⟨"OrdinalDesk$Arithmetic", "makePowerOfInfinite", "(LOrdinalDesk$Row;ILOrdinalDesk$Row;)V"⟩, ⟨"OrdinalDesk$Arithmetic", "makeNaturalSum", "(LOrdinalDesk$Row;LOrdinalDesk$Row;LOrdinalDesk$Row;)V"⟩, ⟨"OrdinalDesk$Arithmetic", "makeNaturalProduct", "(LOrdinalDesk$Row;LOrdinalDesk$Row;LOrdinalDesk$Row;)V"⟩, ⟨"OrdinalDesk$Arithmetic", "addNaturalProduct", "(ILOrdinalDesk$Row;LOrdinalDesk$Row;)V"⟩, ⟨"OrdinalDesk$Division", "<init>", "()V"⟩, ⟨"OrdinalDesk$Division", "makeDifference", "(LOrdinalDesk$Row;LOrdinalDesk$Row;LOrdinalDesk$Row;)V"⟩, ⟨"OrdinalDesk$Division", "divide", "(LOrdinalDesk$Row;LOrdinalDesk$Row;LOrdinalDesk$Row;LOrdinalDesk$Row;)V"⟩, ⟨"OrdinalDesk$Division", "timesInRest", "(LOrdinalDesk$Row;I)I"⟩, ⟨"OrdinalDesk$Descent", "<init>", "()V"⟩, ⟨"OrdinalDesk$Descent", "putBefore", "(LOrdinalDesk$Row;IILOrdinalDesk$Row;)V"⟩, ⟨"OrdinalDesk$Descent", "makeMember", "(LOrdinalDesk$Row;ILOrdinalDesk$Row;)V"⟩, ⟨"OrdinalDesk$Descent", "stepDown", "(LOrdinalDesk$Row;ILOrdinalDesk$Row;)V"⟩, ⟨"OrdinalDesk$Hydra", "<init>", "()V"⟩, ⟨"OrdinalDesk$Hydra", "findsHead", "(LOrdinalDesk$Row;I)Z"⟩, ⟨"OrdinalDesk$Hydra", "cutHead", "(LOrdinalDesk$Row;ILOrdinalDesk$Row;)V"⟩, ⟨"OrdinalDesk$Hydra", "makeThinned", "(LOrdinalDesk$Row;ILOrdinalDesk$Row;)V"⟩, ⟨"OrdinalDesk$Pile", "<init>", "()V"⟩, ⟨"OrdinalDesk$Pile", "workOff", "(LOrdinalDesk$Row;II)I"⟩, ⟨"OrdinalDesk$Pile", "appliesTop", "()Z"⟩, ⟨"OrdinalDesk$Pile", "pushes", "(LOrdinalDesk$Row;I)Z"⟩, ⟨"OrdinalDesk$Numbers", "<init>", "()V"⟩, ⟨"OrdinalDesk$Numbers", "makeInBase", "(IILOrdinalDesk$Row;)V"⟩, ⟨"OrdinalDesk$Numbers", "putInBase", "(IILOrdinalDesk$Row;I)V"⟩, ⟨"OrdinalDesk$Numbers", "worth", "(LOrdinalDesk$Row;I)J"⟩, ⟨"OrdinalDesk$Numbers", "powerOf", "(IJ)J"⟩, ⟨"OrdinalDesk$Numbers", "atMostBeyond", "(J)J"⟩, ⟨"OrdinalDesk", "<init>", "()V"⟩, ⟨"OrdinalDesk", "finite", "(II)V"⟩, ⟨"OrdinalDesk", "raise", "(III)V"⟩, ⟨"OrdinalDesk", "op", "(IIII)I"⟩, ⟨"OrdinalDesk", "member", "(III)I"⟩, ⟨"OrdinalDesk", "step", "(III)I"⟩, ⟨"OrdinalDesk", "chop", "(IIII)I"⟩, ⟨"OrdinalDesk", "start", "(III)I"⟩, ⟨"OrdinalDesk", "compare", "(II)I"⟩, ⟨"OrdinalDesk", "kind", "(I)I"⟩, ⟨"OrdinalDesk", "size", "(I)I"⟩, ⟨"OrdinalDesk", "at", "(II)I"⟩, ⟨"OrdinalDesk", "value", "(II)I"⟩, ⟨"OrdinalDesk", "fast", "(III)I"⟩, ⟨"OrdinalDesk", "record", "(I)I"⟩, ⟨"OrdinalDesk", "rise", "()I"⟩, ⟨"OrdinalDesk", "replace", "(II)V"⟩, ⟨"OrdinalDesk", "recall", "(II)V"⟩, ⟨"OrdinalDesk", "wipe", "()I"⟩, ⟨"OrdinalDesk", "slot", "(I)LOrdinalDesk$Row;"⟩, ⟨"OrdinalDesk", "recordNumber", "(I)LOrdinalDesk$Row;"⟩, ⟨"OrdinalDesk", "isWithin", "(III)Z"⟩, ⟨"OrdinalDesk", "refuseUnless", "(Z)V"⟩, ⟨"OrdinalDesk", "keepResult", "(LOrdinalDesk$Row;)I"⟩, ⟨"OrdinalDeskModel", "<init>", "()V"⟩, ⟨"OrdinalDeskModel", "thrown", "()I"⟩, ⟨"OrdinalDeskModel", "clear", "(I)V"⟩, ⟨"OrdinalDeskModel", "append", "(II)V"⟩, ⟨"OrdinalDeskModel", "appendPart", "(IIII)V"⟩, ⟨"OrdinalDeskModel", "appendTerm", "(IIJ)V"⟩, ⟨"OrdinalDeskModel", "copy", "(II)V"⟩, ⟨"OrdinalDeskModel", "token", "(II)I"⟩, ⟨"OrdinalDeskModel", "behind", "(II)I"⟩, ⟨"OrdinalDeskModel", "coefficient", "(II)I"⟩, ⟨"OrdinalDeskModel", "exponent", "(IIII)V"⟩, ⟨"OrdinalDeskModel", "order", "(II)I"⟩, ⟨"OrdinalDeskModel", "last", "(I)I"⟩, ⟨"OrdinalDeskModel", "sort", "(I)I"⟩, ⟨"OrdinalDeskModel", "isInfinite", "(I)Z"⟩, ⟨"OrdinalDeskModel", "lay", "(II)V"⟩, ⟨"OrdinalDeskModel", "lower", "(I)V"⟩, ⟨"OrdinalDeskModel", "sum", "(III)V"⟩, ⟨"OrdinalDeskModel", "merge", "(III)V"⟩, ⟨"OrdinalDeskModel", "product", "(III)V"⟩, ⟨"OrdinalDeskModel", "cross", "(III)V"⟩, ⟨"OrdinalDeskModel", "difference", "(III)V"⟩, ⟨"OrdinalDeskModel", "goes", "(III)I"⟩, ⟨"OrdinalDeskModel", "divide", "(II)V"⟩, ⟨"OrdinalDeskModel", "numberPower", "(II)I"⟩, ⟨"OrdinalDeskModel", "power", "(III)V"⟩, ⟨"OrdinalDeskModel", "memberOf", "(III)V"⟩, ⟨"OrdinalDeskModel", "thin", "(IIII)V"⟩, ⟨"OrdinalDeskModel", "noSlot", "(I)Z"⟩, ⟨"OrdinalDeskModel", "settle", "(I)I"⟩, ⟨"OrdinalDeskModel", "finite", "(II)V"⟩, ⟨"OrdinalDeskModel", "raise", "(III)V"⟩, ⟨"OrdinalDeskModel", "op", "(IIII)I"⟩, ⟨"OrdinalDeskModel", "member", "(III)I"⟩, ⟨"OrdinalDeskModel", "step", "(III)I"⟩, ⟨"OrdinalDeskModel", "follow", "(II)I"⟩, ⟨"OrdinalDeskModel", "chop", "(IIII)I"⟩, ⟨"OrdinalDeskModel", "based", "(III)V"⟩, ⟨"OrdinalDeskModel", "start", "(III)I"⟩, ⟨"OrdinalDeskModel", "compare", "(II)I"⟩, ⟨"OrdinalDeskModel", "kind", "(I)I"⟩, ⟨"OrdinalDeskModel", "size", "(I)I"⟩, ⟨"OrdinalDeskModel", "at", "(II)I"⟩, ⟨"OrdinalDeskModel", "risen", "(IJ)J"⟩, ⟨"OrdinalDeskModel", "value", "(II)I"⟩, ⟨"OrdinalDeskModel", "apply", "(I)I"⟩, ⟨"OrdinalDeskModel", "fast", "(III)I"⟩, ⟨"OrdinalDeskModel", "record", "(I)I"⟩, ⟨"OrdinalDeskModel", "rise", "()I"⟩, ⟨"OrdinalDeskModel", "replace", "(II)V"⟩, ⟨"OrdinalDeskModel", "recall", "(II)V"⟩, ⟨"OrdinalDeskModel", "wipe", "()I"⟩, ⟨"OrdinalDeskLaw", "finite", "(LOrdinalDesk;II)I"⟩, ⟨"OrdinalDeskLaw", "raise", "(LOrdinalDesk;III)I"⟩, ⟨"OrdinalDeskLaw", "op", "(LOrdinalDesk;IIII[J)I"⟩, ⟨"OrdinalDeskLaw", "member", "(LOrdinalDesk;III[J)I"⟩, ⟨"OrdinalDeskLaw", "step", "(LOrdinalDesk;III[J)I"⟩, ⟨"OrdinalDeskLaw", "chop", "(LOrdinalDesk;IIII[J)I"⟩, ⟨"OrdinalDeskLaw", "start", "(LOrdinalDesk;III[J)I"⟩, ⟨"OrdinalDeskLaw", "compare", "(LOrdinalDesk;II[J)I"⟩, ⟨"OrdinalDeskLaw", "kind", "(LOrdinalDesk;I[J)I"⟩, ⟨"OrdinalDeskLaw", "size", "(LOrdinalDesk;I[J)I"⟩, ⟨"OrdinalDeskLaw", "at", "(LOrdinalDesk;II[J)I"⟩, ⟨"OrdinalDeskLaw", "value", "(LOrdinalDesk;II[J)I"⟩, ⟨"OrdinalDeskLaw", "fast", "(LOrdinalDesk;III[J)I"⟩, ⟨"OrdinalDeskLaw", "record", "(LOrdinalDesk;I[J)I"⟩, ⟨"OrdinalDeskLaw", "replace", "(LOrdinalDesk;II)I"⟩, ⟨"OrdinalDeskLaw", "recall", "(LOrdinalDesk;II)I"⟩, ⟨"OrdinalDeskLaw", "law", "([I)Z"⟩, ⟨"java/lang/Math", "min", "(II)I"⟩, ⟨"java/lang/Math", "max", "(II)I"⟩, ⟨"java/lang/Math", "min", "(JJ)J"⟩, ⟨"java/lang/Integer", "compare", "(II)I"⟩]
def od_y (k : Nat) : MethodName := (od_ys[k]?).getD ⟨"", "", ""⟩
def od_ats : List (Nat × Nat × Option FieldType × List (Nat × Nat × Nat × Nat)) := [(0, 1, none, []), (0, 1, some .boolean, []), (0, 1, some .boolean, []), (0, 1, some .boolean, []), (0, 1, some .int, []), (0, 1, some .int, []), (0, 3, some .boolean, []), (0, 1, some .int, []), (0, 2, some .int, []), (0, 4, some .int, []), (0, 6, some .int, []), (0, 6, some .int, []), (0, 1, none, []), (0, 2, none, []), (0, 4, none, []), (0, 4, none, []), (0, 2, none, []), (0, 4, none, []), (0, 4, none, []), (0, 2, none, []), (0, 1, none, []), (0, 3, none, []), (0, 3, none, []), (0, 4, none, []), (0, 3, none, []), (0, 6, none, []), (0, 2, some .int, []), (0, 6, some .int, []), (0, 9, some .int, []), (1, 1, none, []), (1, 10, none, []), (1, 8, none, []), (1, 5, none, []), (1, 7, none, []), (1, 5, some .long, []), (1, 8, none, []), (1, 9, none, []), (1, 7, none, []), (1, 7, none, []), (2, 1, none, []), (2, 8, none, []), (2, 9, none, []), (2, 8, some .int, []), (3, 1, none, []), (3, 4, none, []), (3, 8, none, []), (3, 8, none, []), (4, 1, none, []), (4, 9, some .boolean, []), (4, 5, none, []), (4, 8, none, []), (5, 2, none, []), (5, 5, some .int, []), (5, 3, some .boolean, []), (5, 3, some .boolean, []), (6, 1, none, []), (6, 3, none, []), (6, 12, none, []), (6, 7, some .long, []), (6, 7, some .long, []), (6, 2, some .long, []), (7, 2, none, []), (7, 4, none, []), (7, 6, none, []), (7, 8, some .int, []), (7, 6, some .int, []), (7, 6, some .int, []), (7, 7, some .int, []), (7, 5, some .int, []), (7, 3, some .int, []), (7, 2, some .int, []), (7, 2, some .int, []), (7, 4, some .int, []), (7, 6, some .int, []), (7, 5, some .int, []), (7, 3, some .int, []), (7, 2, some .int, []), (7, 3, none, []), (7, 3, none, []), (7, 2, some .int, []), (7, 2, some (.object "OrdinalDesk$Row"), []), (7, 2, some (.object "OrdinalDesk$Row"), []), (7, 3, some .boolean, []), (7, 1, none, []), (7, 2, some .int, []), (8, 1, none, []), (8, 1, some .int, []), (8, 2, none, []), (8, 3, none, []), (8, 6, none, []), (8, 5, none, []), (8, 3, none, []), (8, 3, some .int, []), (8, 6, some .int, []), (8, 3, some .int, []), (8, 5, none, []), (8, 4, some .int, []), (8, 4, some .int, []), (8, 3, some .int, []), (8, 2, some .boolean, []), (8, 3, none, []), (8, 3, none, []), (8, 11, none, []), (8, 9, none, []), (8, 11, none, []), (8, 8, none, []), (8, 9, none, []), (8, 7, some .int, []), (8, 7, none, []), (8, 5, some .int, []), (8, 8, none, []), (8, 12, none, []), (8, 6, none, []), (8, 1, some .boolean, []), (8, 2, some .int, []), (8, 3, none, []), (8, 5, none, []), (8, 5, some .int, []), (8, 4, some .int, []), (8, 4, some .int, []), (8, 9, some .int, []), (8, 7, some .int, []), (8, 9, none, []), (8, 5, some .int, []), (8, 3, some .int, []), (8, 2, some .int, []), (8, 2, some .int, []), (8, 3, some .int, []), (8, 7, some .long, []), (8, 7, some .int, []), (8, 3, some .int, []), (8, 6, some .int, []), (8, 2, some .int, []), (8, 2, some .int, []), (8, 3, none, []), (8, 3, none, []), (8, 2, some .int, []), (9, 4, some .int, [(0, 6, 9, 13), (0, 6, 12, 15)]), (9, 5, some .int, [(0, 7, 10, 13), (0, 7, 14, 15), (0, 7, 18, 21)]), (9, 7, some .int, [(0, 14, 17, 13), (0, 14, 21, 15), (0, 14, 25, 21)]), (9, 6, some .int, [(0, 12, 15, 13), (0, 12, 19, 15), (0, 12, 23, 21)]), (9, 6, some .int, [(0, 12, 15, 13), (0, 12, 19, 15), (0, 12, 23, 21)]), (9, 7, some .int, [(0, 14, 17, 13), (0, 14, 21, 15), (0, 14, 25, 21)]), (9, 6, some .int, [(0, 12, 15, 13), (0, 12, 19, 15), (0, 12, 23, 21)]), (9, 5, some .int, [(0, 10, 13, 13)]), (9, 4, some .int, [(0, 9, 12, 13)]), (9, 4, some .int, [(0, 9, 12, 13)]), (9, 5, some .int, [(0, 10, 13, 13)]), (9, 5, some .int, [(0, 10, 13, 13), (0, 10, 17, 15)]), (9, 6, some .int, [(0, 12, 15, 13), (0, 12, 19, 15), (0, 12, 23, 21)]), (9, 4, some .int, [(0, 9, 12, 13), (0, 9, 15, 21)]), (9, 4, some .int, [(0, 6, 9, 13)]), (9, 4, some .int, [(0, 6, 9, 13)]), (9, 7, some .boolean, []), (10, 2, some .int, []), (10, 2, some .int, []), (10, 4, some .long, []), (11, 2, some .int, [])]
def od_at0 (k : Nat) : Nat × Nat × Option FieldType × List (Nat × Nat × Nat × Nat) := (od_ats[k]?).getD (0, 0, none, [])
def od_ow (k : Nat) : Nat := (od_at0 k).1
def od_nl (k : Nat) : Nat := (od_at0 k).2.1
def od_rf (k : Nat) : Option FieldType := (od_at0 k).2.2.1
def od_ht (k : Nat) : List (Nat × Nat × Nat × Nat) := (od_at0 k).2.2.2
def od_oc (k : Nat) : Nat := od_ow k
def od_in (k : Nat) : Bool := [0, 29, 39, 43, 47, 51, 55, 61, 85].contains k
def od_fdl : List (List (Nat × Nat × Nat × Nat)) := [[(9, 0, 0, 3), (15, 0, 1, 0)], [(12, 1, 0, 3), (18, 1, 1, 3), (21, 1, 2, 3), (24, 1, 3, 3), (27, 1, 4, 3), (30, 1, 5, 3), (33, 1, 6, 3), (36, 1, 7, 3), (39, 1, 8, 3), (42, 1, 9, 3), (45, 1, 10, 3), (48, 1, 11, 3), (51, 1, 12, 3), (69, 0, 1, 0)], [(12, 2, 0, 3), (18, 2, 1, 3), (21, 2, 2, 3), (24, 2, 3, 3), (27, 2, 4, 3), (33, 0, 1, 0)], [(12, 3, 0, 3), (18, 3, 1, 3), (36, 0, 1, 0)], [(9, 4, 0, 3), (15, 4, 1, 3), (18, 4, 2, 0), (25, 4, 3, 3), (29, 4, 4, 3), (32, 0, 1, 0)], [(11, 5, 0, 3), (17, 5, 1, 3), (21, 5, 2, 0), (25, 5, 3, 0), (29, 5, 4, 3), (55, 0, 1, 0)], [(9, 6, 0, 3), (38, 0, 1, 0), (42, 0, 0, 5)], [(11, 7, 0, 3), (15, 7, 1, 3), (18, 7, 2, 0), (23, 7, 3, 3), (27, 7, 4, 3), (33, 7, 5, 3), (40, 7, 6, 3), (47, 7, 7, 3), (54, 7, 8, 3), (61, 7, 9, 3), (68, 7, 10, 3), (158, 0, 1, 0), (161, 0, 0, 5)], [(7, 8, 1, 3), (13, 8, 2, 3), (16, 8, 6, 3), (19, 8, 7, 3), (22, 8, 8, 3), (25, 8, 9, 3), (28, 8, 10, 3), (32, 8, 0, 0), (36, 8, 3, 1), (152, 8, 5, 0), (158, 8, 4, 0)], [], [], []]
def od_fd (own ix : Nat) : Option (Nat × Nat × Nat) := (((od_fdl[own]?).getD []).lookup ix)
def od_mdl : List (List (Nat × Nat × Nat × Nat)) := [[(3, 0, 8, 1), (19, 6, 0, 3), (23, 10, 0, 3), (27, 8, 0, 2), (31, 9, 0, 2), (34, 14, 0, 4), (38, 18, 0, 4), (41, 24, 0, 2), (45, 23, 0, 3), (56, 0, 7, 5), (62, 19, 0, 2), (66, 22, 0, 2), (73, 20, 0, 1), (76, 21, 0, 2), (79, 28, 1, 6), (83, 154, 1, 2), (88, 157, 1, 2)], [(3, 0, 8, 1), (11, 0, 2, 1), (54, 1, 0, 1), (58, 13, 0, 2), (62, 9, 0, 2), (66, 8, 0, 2), (73, 27, 1, 6), (77, 14, 0, 4), (81, 25, 0, 5), (85, 18, 0, 4), (88, 12, 0, 1), (91, 15, 0, 4), (94, 23, 0, 3), (98, 30, 1, 3), (102, 3, 0, 1), (105, 16, 0, 2), (109, 7, 0, 1), (113, 2, 0, 1), (116, 33, 0, 4), (120, 35, 0, 4), (124, 34, 1, 2), (128, 17, 0, 3), (140, 31, 0, 4), (143, 38, 0, 4), (147, 36, 1, 3)], [(3, 0, 8, 1), (11, 0, 2, 1), (30, 12, 0, 1), (37, 9, 0, 2), (41, 27, 1, 6), (45, 8, 0, 2), (48, 25, 0, 5), (52, 18, 0, 4), (56, 15, 0, 4), (59, 40, 1, 3), (63, 23, 0, 3), (67, 14, 0, 4), (70, 42, 0, 3), (74, 24, 0, 2), (78, 1, 0, 1), (82, 28, 1, 6)], [(3, 0, 8, 1), (11, 0, 2, 1), (21, 18, 0, 4), (25, 8, 0, 2), (29, 25, 0, 5), (33, 12, 0, 1), (40, 10, 0, 3), (44, 6, 0, 3), (48, 20, 0, 1), (51, 44, 1, 4), (55, 21, 0, 2), (59, 13, 0, 2), (64, 5, 0, 1), (68, 45, 1, 3)], [(3, 0, 8, 1), (24, 0, 2, 1), (35, 11, 0, 4), (39, 9, 0, 2), (43, 50, 0, 4), (47, 17, 0, 3), (51, 36, 1, 3), (57, 14, 0, 4), (61, 8, 0, 2), (64, 25, 0, 5), (68, 18, 0, 4)], [(3, 0, 8, 1), (28, 0, 2, 1), (33, 54, 0, 3), (37, 53, 0, 1), (41, 5, 0, 1), (46, 45, 1, 3), (52, 12, 0, 1), (58, 44, 1, 4), (62, 13, 0, 2)], [(3, 0, 8, 1), (15, 12, 0, 1), (20, 57, 1, 4), (31, 20, 0, 1), (34, 21, 0, 2), (46, 8, 0, 2), (50, 59, 1, 2), (54, 155, 1, 2), (60, 60, 1, 1), (68, 156, 1, 2)], [(3, 0, 8, 1), (22, 0, 2, 1), (32, 29, 2, 1), (39, 39, 2, 1), (46, 43, 2, 1), (53, 47, 2, 1), (60, 51, 2, 1), (67, 55, 2, 1), (72, 80, 0, 2), (77, 82, 1, 3), (81, 83, 1, 1), (85, 16, 0, 2), (89, 17, 0, 3), (93, 13, 0, 2), (97, 26, 1, 2), (101, 1, 0, 1), (105, 30, 1, 3), (109, 31, 0, 4), (112, 32, 0, 4), (115, 36, 1, 3), (118, 37, 0, 4), (121, 40, 1, 3), (124, 41, 0, 5), (128, 84, 0, 2), (132, 5, 0, 1), (136, 45, 1, 3), (140, 46, 0, 4), (143, 48, 0, 3), (147, 49, 0, 4), (151, 56, 1, 3), (155, 4, 0, 1), (165, 58, 0, 3), (171, 52, 0, 4), (182, 81, 0, 2)], [(1, 0, 8, 1), (40, 88, 0, 3), (44, 89, 0, 5), (51, 87, 0, 2), (55, 92, 0, 3), (59, 93, 0, 3), (62, 97, 0, 2), (66, 91, 0, 3), (69, 95, 0, 5), (72, 94, 0, 3), (75, 96, 0, 3), (78, 90, 0, 4), (82, 102, 0, 4), (86, 103, 0, 4), (89, 106, 0, 4), (92, 107, 0, 4), (97, 100, 0, 3), (100, 98, 0, 2), (103, 99, 0, 2), (107, 101, 0, 2), (110, 109, 1, 2), (113, 104, 0, 4), (116, 113, 1, 1), (119, 114, 0, 2), (122, 110, 0, 4), (125, 105, 0, 4), (128, 108, 0, 3), (131, 111, 0, 4), (134, 120, 0, 3), (137, 112, 0, 5), (141, 122, 0, 4), (146, 128, 1, 2), (155, 130, 0, 2)], [(7, 62, 0, 3), (17, 63, 0, 4), (23, 64, 0, 5), (27, 65, 0, 4), (31, 66, 0, 4), (34, 67, 0, 5), (37, 68, 0, 4), (40, 69, 0, 3), (44, 70, 0, 2), (48, 71, 0, 2), (51, 72, 0, 3), (54, 73, 0, 3), (57, 74, 0, 4), (60, 75, 0, 2), (63, 77, 0, 3), (66, 78, 0, 3), (69, 61, 2, 1), (72, 85, 2, 1), (73, 137, 1, 3), (78, 115, 0, 3), (79, 86, 0, 1), (83, 138, 1, 4), (86, 116, 0, 4), (87, 139, 1, 6), (90, 117, 0, 5), (91, 140, 1, 5), (94, 118, 0, 4), (95, 141, 1, 5), (97, 119, 0, 4), (98, 142, 1, 6), (100, 121, 0, 5), (101, 143, 1, 5), (103, 123, 0, 4), (104, 144, 1, 4), (107, 124, 0, 3), (108, 145, 1, 3), (111, 125, 0, 2), (112, 146, 1, 3), (114, 126, 0, 2), (115, 147, 1, 4), (117, 127, 0, 3), (118, 148, 1, 4), (120, 129, 0, 3), (121, 149, 1, 5), (123, 131, 0, 4), (124, 150, 1, 3), (126, 132, 0, 2), (127, 76, 0, 1), (130, 133, 0, 1), (131, 151, 1, 3), (133, 134, 0, 3), (134, 152, 1, 3), (136, 135, 0, 3), (137, 79, 0, 1), (140, 136, 0, 1)], [], []]
def od_md (own ix : Nat) : Option (Nat × Nat × Nat) := (((od_mdl[own]?).getD []).lookup ix)
def od_nwl : List (List (Nat × Nat × List Value)) := [[], [(9, 0, [.null, .int 0])], [(9, 0, [.null, .int 0])], [(9, 0, [.null, .int 0])], [(22, 0, [.null, .int 0])], [(9, 0, [.null, .int 0])], [], [(9, 0, [.null, .int 0]), (30, 1, [.null, .null, .null, .null, .null, .null, .null, .null, .null, .null, .null, .null, .null]), (37, 2, [.null, .null, .null, .null, .null]), (44, 3, [.null, .null]), (51, 4, [.null, .null, .int 0, .null, .null]), (58, 5, [.null, .null, .int 0, .int 0, .null]), (65, 6, [.null])], [], [(8, 7, [.null, .null, .int 0, .null, .null, .null, .null, .null, .null, .null, .null]), (70, 8, [.int 0, .null, .null, .int 0, .int 0, .int 0, .null, .null, .null, .null, .null])], [], []]
def od_nw (own ix : Nat) : Option (Nat × List Value) := (((od_nwl[own]?).getD []).lookup ix)
def od_kil : List (List (Nat × Int32)) := [[], [], [], [(63, 1000000)], [], [(45, 1000000)], [], [(76, 1000000), (150, 1000000000)], [(50, 1000000), (96, 1000001), (140, 1000000000)], [], [], []]
def od_ki (own ix : Nat) : Option (Int32) := (((od_kil[own]?).getD []).lookup ix)
def od_kll : List (List (Nat × Int64)) := [[(69, 1000000)], [(131, 1000000)], [], [], [], [], [(64, 1000000000), (66, 1000000001)], [(169, 1000000000)], [(48, 1000000), (144, 2000000000), (150, 1000000000)], [], [], []]
def od_kl (own ix : Nat) : Option (Int64) := (((od_kll[own]?).getD []).lookup ix)
def od_anl : List (List Nat) := [[], [], [], [], [], [9], [], [9], [], [], [], []]
def od_an (own ix : Nat) : Bool := ((od_anl[own]?).getD []).contains ix
def od_hx0l : List (List (Nat × Nat)) := [[], [], [], [], [], [], [], [], [], [(13, 0), (15, 1), (21, 2)], [], []]
def od_hx0 (own ix : Nat) : Option (Nat) := (((od_hx0l[own]?).getD []).lookup ix)
def od_hx (own ix : Nat) : Nat := (od_hx0 own ix).getD 99
/-- where exceptions are made: method, place, kind -/
def od_xs : List ((Nat × Nat) × Nat) := [((18, 31), 2), ((19, 9), 2), ((22, 8), 2), ((35, 6), 2), ((57, 6), 2), ((75, 15), 2), ((80, 10), 0), ((81, 12), 0), ((83, 4), 1)]
def od_xn (k pc : Nat) : Option Nat := od_xs.lookup (k, pc)
def od_ncs : List (String × String) := [("java/lang/IndexOutOfBoundsException", "java/lang/IllegalArgumentException"), ("java/lang/IndexOutOfBoundsException", "java/lang/IllegalStateException"), ("java/lang/IllegalArgumentException", "java/lang/IndexOutOfBoundsException"), ("java/lang/IllegalArgumentException", "java/lang/IllegalStateException"), ("java/lang/IllegalStateException", "java/lang/IndexOutOfBoundsException"), ("java/lang/IllegalStateException", "java/lang/IllegalArgumentException")]
def od_sts : List (String × Nat × String) := [("OrdinalDesk$Numbers", 26, "there is no room for so deep an exponent"), ("OrdinalDesk$Row", 51, "there is no room for so many terms"), ("OrdinalDesk$Row", 51, "there is no room for so many terms"), ("OrdinalDesk$Row", 71, "there is no room for so great a coefficient"), ("OrdinalDesk$Arithmetic", 135, "there is no room for so many factors"), ("OrdinalDesk", 177, "all records are in use"), ("OrdinalDesk", 187, "there is no such slot"), ("OrdinalDesk", 190, "there is no such record"), ("OrdinalDesk", 194, "an argument does not fit the call")]
end
section
/-! Printed by wip/whole/gen.py: the code lists against the bytes. -/
def od_chq (b : ByteArray) (l : List (Option (ClassFile.Instr × Nat))) (pc : Nat) : Bool := match (l[pc]?).getD none with
  | some q => decide (decode b pc = .ok q)
  | none => true
theorem oq_0_0 : ((List.range' 0 18).all (od_chq prog_8_method_1_code oc_0)) = true := by decide +kernel
theorem oq_1_0 : ((List.range' 0 13).all (od_chq prog_8_method_2_code oc_1)) = true := by decide +kernel
theorem oq_2_0 : ((List.range' 0 14).all (od_chq prog_8_method_3_code oc_2)) = true := by decide +kernel
theorem oq_3_0 : ((List.range' 0 24).all (od_chq prog_8_method_4_code oc_3)) = true := by decide +kernel
theorem oq_4_0 : ((List.range' 0 7).all (od_chq prog_8_method_5_code oc_4)) = true := by decide +kernel
theorem oq_5_0 : ((List.range' 0 27).all (od_chq prog_8_method_6_code oc_5)) = true := by decide +kernel
theorem oq_6_0 : ((List.range' 0 23).all (od_chq prog_8_method_7_code oc_6)) = true := by decide +kernel
theorem oq_7_0 : ((List.range' 0 25).all (od_chq prog_8_method_8_code oc_7)) = true := by decide +kernel
theorem oq_8_0 : ((List.range' 0 26).all (od_chq prog_8_method_9_code oc_8)) = true := by decide +kernel
theorem oq_9_0 : ((List.range' 0 48).all (od_chq prog_8_method_10_code oc_9)) = true := by decide +kernel
theorem oq_10_0 : ((List.range' 0 53).all (od_chq prog_8_method_11_code oc_10)) = true := by decide +kernel
theorem oq_11_0 : ((List.range' 0 45).all (od_chq prog_8_method_12_code oc_11)) = true := by decide +kernel
theorem oq_12_0 : ((List.range' 0 6).all (od_chq prog_8_method_13_code oc_12)) = true := by decide +kernel
theorem oq_13_0 : ((List.range' 0 11).all (od_chq prog_8_method_14_code oc_13)) = true := by decide +kernel
theorem oq_14_0 : ((List.range' 0 13).all (od_chq prog_8_method_15_code oc_14)) = true := by decide +kernel
theorem oq_15_0 : ((List.range' 0 12).all (od_chq prog_8_method_16_code oc_15)) = true := by decide +kernel
theorem oq_16_0 : ((List.range' 0 12).all (od_chq prog_8_method_17_code oc_16)) = true := by decide +kernel
theorem oq_17_0 : ((List.range' 0 12).all (od_chq prog_8_method_18_code oc_17)) = true := by decide +kernel
theorem oq_18_0 : ((List.range' 0 68).all (od_chq prog_8_method_19_code oc_18)) = true := by decide +kernel
theorem oq_18_1 : ((List.range' 68 5).all (od_chq prog_8_method_19_code oc_18)) = true := by decide +kernel
theorem oq_19_0 : ((List.range' 0 40).all (od_chq prog_8_method_20_code oc_19)) = true := by decide +kernel
theorem oq_20_0 : ((List.range' 0 6).all (od_chq prog_8_method_21_code oc_20)) = true := by decide +kernel
theorem oq_21_0 : ((List.range' 0 11).all (od_chq prog_8_method_22_code oc_21)) = true := by decide +kernel
theorem oq_22_0 : ((List.range' 0 25).all (od_chq prog_8_method_23_code oc_22)) = true := by decide +kernel
theorem oq_23_0 : ((List.range' 0 20).all (od_chq prog_8_method_24_code oc_23)) = true := by decide +kernel
theorem oq_24_0 : ((List.range' 0 16).all (od_chq prog_8_method_25_code oc_24)) = true := by decide +kernel
theorem oq_25_0 : ((List.range' 0 23).all (od_chq prog_8_method_26_code oc_25)) = true := by decide +kernel
theorem oq_26_0 : ((List.range' 0 16).all (od_chq prog_8_method_27_code oc_26)) = true := by decide +kernel
theorem oq_27_0 : ((List.range' 0 20).all (od_chq prog_8_method_28_code oc_27)) = true := by decide +kernel
theorem oq_28_0 : ((List.range' 0 70).all (od_chq prog_8_method_29_code oc_28)) = true := by decide +kernel
theorem oq_28_1 : ((List.range' 72 1).all (od_chq prog_8_method_29_code oc_28)) = true := by decide +kernel
theorem oq_29_0 : ((List.range' 0 86).all (od_chq prog_2_method_1_code oc_29)) = true := by decide +kernel
theorem oq_29_1 : ((List.range' 86 62).all (od_chq prog_2_method_1_code oc_29)) = true := by decide +kernel
end
section
/-! Printed by wip/whole/gen.py: the code lists against the bytes. -/
theorem oq_30_0 : ((List.range' 0 71).all (od_chq prog_2_method_2_code oc_30)) = true := by decide +kernel
theorem oq_30_1 : ((List.range' 72 61).all (od_chq prog_2_method_2_code oc_30)) = true := by decide +kernel
theorem oq_31_0 : ((List.range' 0 77).all (od_chq prog_2_method_3_code oc_31)) = true := by decide +kernel
theorem oq_31_1 : ((List.range' 79 78).all (od_chq prog_2_method_3_code oc_31)) = true := by decide +kernel
theorem oq_31_2 : ((List.range' 159 1).all (od_chq prog_2_method_3_code oc_31)) = true := by decide +kernel
theorem oq_32_0 : ((List.range' 0 78).all (od_chq prog_2_method_4_code oc_32)) = true := by decide +kernel
theorem oq_32_1 : ((List.range' 79 16).all (od_chq prog_2_method_4_code oc_32)) = true := by decide +kernel
theorem oq_33_0 : ((List.range' 0 85).all (od_chq prog_2_method_5_code oc_33)) = true := by decide +kernel
theorem oq_33_1 : ((List.range' 85 44).all (od_chq prog_2_method_5_code oc_33)) = true := by decide +kernel
theorem oq_34_0 : ((List.range' 0 32).all (od_chq prog_2_method_6_code oc_34)) = true := by decide +kernel
theorem oq_35_0 : ((List.range' 0 77).all (od_chq prog_2_method_7_code oc_35)) = true := by decide +kernel
theorem oq_35_1 : ((List.range' 77 47).all (od_chq prog_2_method_7_code oc_35)) = true := by decide +kernel
theorem oq_36_0 : ((List.range' 0 73).all (od_chq prog_2_method_8_code oc_36)) = true := by decide +kernel
theorem oq_36_1 : ((List.range' 73 73).all (od_chq prog_2_method_8_code oc_36)) = true := by decide +kernel
theorem oq_36_2 : ((List.range' 148 15).all (od_chq prog_2_method_8_code oc_36)) = true := by decide +kernel
theorem oq_37_0 : ((List.range' 0 69).all (od_chq prog_2_method_9_code oc_37)) = true := by decide +kernel
end
section
/-! Printed by wip/whole/gen.py: the code lists against the bytes. -/
theorem oq_38_0 : ((List.range' 0 76).all (od_chq prog_2_method_10_code oc_38)) = true := by decide +kernel
theorem oq_38_1 : ((List.range' 78 31).all (od_chq prog_2_method_10_code oc_38)) = true := by decide +kernel
theorem oq_39_0 : ((List.range' 0 60).all (od_chq prog_4_method_1_code oc_39)) = true := by decide +kernel
theorem oq_40_0 : ((List.range' 0 73).all (od_chq prog_4_method_2_code oc_40)) = true := by decide +kernel
theorem oq_40_1 : ((List.range' 75 45).all (od_chq prog_4_method_2_code oc_40)) = true := by decide +kernel
theorem oq_41_0 : ((List.range' 0 76).all (od_chq prog_4_method_3_code oc_41)) = true := by decide +kernel
theorem oq_41_1 : ((List.range' 77 80).all (od_chq prog_4_method_3_code oc_41)) = true := by decide +kernel
theorem oq_41_2 : ((List.range' 159 55).all (od_chq prog_4_method_3_code oc_41)) = true := by decide +kernel
theorem oq_42_0 : ((List.range' 0 72).all (od_chq prog_4_method_4_code oc_42)) = true := by decide +kernel
theorem oq_42_1 : ((List.range' 72 64).all (od_chq prog_4_method_4_code oc_42)) = true := by decide +kernel
theorem oq_43_0 : ((List.range' 0 27).all (od_chq prog_3_method_1_code oc_43)) = true := by decide +kernel
theorem oq_44_0 : ((List.range' 0 27).all (od_chq prog_3_method_2_code oc_44)) = true := by decide +kernel
theorem oq_45_0 : ((List.range' 0 66).all (od_chq prog_3_method_3_code oc_45)) = true := by decide +kernel
theorem oq_45_1 : ((List.range' 67 77).all (od_chq prog_3_method_3_code oc_45)) = true := by decide +kernel
theorem oq_45_2 : ((List.range' 146 1).all (od_chq prog_3_method_3_code oc_45)) = true := by decide +kernel
theorem oq_46_0 : ((List.range' 0 80).all (od_chq prog_3_method_4_code oc_46)) = true := by decide +kernel
end
section
/-! Printed by wip/whole/gen.py: the code lists against the bytes. -/
theorem oq_47_0 : ((List.range' 0 48).all (od_chq prog_5_method_1_code oc_47)) = true := by decide +kernel
theorem oq_48_0 : ((List.range' 0 70).all (od_chq prog_5_method_2_code oc_48)) = true := by decide +kernel
theorem oq_48_1 : ((List.range' 70 42).all (od_chq prog_5_method_2_code oc_48)) = true := by decide +kernel
theorem oq_49_0 : ((List.range' 0 70).all (od_chq prog_5_method_3_code oc_49)) = true := by decide +kernel
theorem oq_49_1 : ((List.range' 70 10).all (od_chq prog_5_method_3_code oc_49)) = true := by decide +kernel
theorem oq_50_0 : ((List.range' 0 62).all (od_chq prog_5_method_4_code oc_50)) = true := by decide +kernel
theorem oq_50_1 : ((List.range' 63 33).all (od_chq prog_5_method_4_code oc_50)) = true := by decide +kernel
theorem oq_51_0 : ((List.range' 0 70).all (od_chq prog_7_method_1_code oc_51)) = true := by decide +kernel
theorem oq_52_0 : ((List.range' 0 64).all (od_chq prog_7_method_2_code oc_52)) = true := by decide +kernel
theorem oq_53_0 : ((List.range' 0 62).all (od_chq prog_7_method_3_code oc_53)) = true := by decide +kernel
theorem oq_53_1 : ((List.range' 62 73).all (od_chq prog_7_method_3_code oc_53)) = true := by decide +kernel
theorem oq_53_2 : ((List.range' 137 8).all (od_chq prog_7_method_3_code oc_53)) = true := by decide +kernel
theorem oq_54_0 : ((List.range' 0 52).all (od_chq prog_7_method_4_code oc_54)) = true := by decide +kernel
theorem oq_55_0 : ((List.range' 0 13).all (od_chq prog_6_method_1_code oc_55)) = true := by decide +kernel
theorem oq_56_0 : ((List.range' 0 12).all (od_chq prog_6_method_2_code oc_56)) = true := by decide +kernel
theorem oq_57_0 : ((List.range' 0 70).all (od_chq prog_6_method_3_code oc_57)) = true := by decide +kernel
theorem oq_57_1 : ((List.range' 70 61).all (od_chq prog_6_method_3_code oc_57)) = true := by decide +kernel
end
section
/-! Printed by wip/whole/gen.py: the code lists against the bytes. -/
theorem oq_58_0 : ((List.range' 0 69).all (od_chq prog_6_method_4_code oc_58)) = true := by decide +kernel
theorem oq_58_1 : ((List.range' 69 46).all (od_chq prog_6_method_4_code oc_58)) = true := by decide +kernel
theorem oq_59_0 : ((List.range' 0 61).all (od_chq prog_6_method_5_code oc_59)) = true := by decide +kernel
theorem oq_60_0 : ((List.range' 0 8).all (od_chq prog_6_method_6_code oc_60)) = true := by decide +kernel
theorem oq_61_0 : ((List.range' 0 84).all (od_chq prog_1_method_1_code oc_61)) = true := by decide +kernel
theorem oq_61_1 : ((List.range' 86 78).all (od_chq prog_1_method_1_code oc_61)) = true := by decide +kernel
theorem oq_61_2 : ((List.range' 166 4).all (od_chq prog_1_method_1_code oc_61)) = true := by decide +kernel
theorem oq_62_0 : ((List.range' 0 22).all (od_chq prog_1_method_2_code oc_62)) = true := by decide +kernel
theorem oq_63_0 : ((List.range' 0 45).all (od_chq prog_1_method_3_code oc_63)) = true := by decide +kernel
theorem oq_64_0 : ((List.range' 0 80).all (od_chq prog_1_method_4_code oc_64)) = true := by decide +kernel
theorem oq_64_1 : ((List.range' 80 131).all (od_chq prog_1_method_4_code oc_64)) = true := by decide +kernel
theorem oq_64_2 : ((List.range' 212 60).all (od_chq prog_1_method_4_code oc_64)) = true := by decide +kernel
theorem oq_65_0 : ((List.range' 0 58).all (od_chq prog_1_method_5_code oc_65)) = true := by decide +kernel
theorem oq_66_0 : ((List.range' 0 61).all (od_chq prog_1_method_6_code oc_66)) = true := by decide +kernel
theorem oq_67_0 : ((List.range' 0 72).all (od_chq prog_1_method_7_code oc_67)) = true := by decide +kernel
theorem oq_68_0 : ((List.range' 0 44).all (od_chq prog_1_method_8_code oc_68)) = true := by decide +kernel
end
section
/-! Printed by wip/whole/gen.py: the code lists against the bytes. -/
theorem oq_69_0 : ((List.range' 0 14).all (od_chq prog_1_method_9_code oc_69)) = true := by decide +kernel
theorem oq_70_0 : ((List.range' 0 9).all (od_chq prog_1_method_10_code oc_70)) = true := by decide +kernel
theorem oq_71_0 : ((List.range' 0 9).all (od_chq prog_1_method_11_code oc_71)) = true := by decide +kernel
theorem oq_72_0 : ((List.range' 0 29).all (od_chq prog_1_method_12_code oc_72)) = true := by decide +kernel
theorem oq_73_0 : ((List.range' 0 45).all (od_chq prog_1_method_13_code oc_73)) = true := by decide +kernel
theorem oq_74_0 : ((List.range' 0 41).all (od_chq prog_1_method_14_code oc_74)) = true := by decide +kernel
theorem oq_75_0 : ((List.range' 0 53).all (od_chq prog_1_method_15_code oc_75)) = true := by decide +kernel
theorem oq_76_0 : ((List.range' 0 40).all (od_chq prog_1_method_16_code oc_76)) = true := by decide +kernel
theorem oq_77_0 : ((List.range' 0 14).all (od_chq prog_1_method_17_code oc_77)) = true := by decide +kernel
theorem oq_78_0 : ((List.range' 0 14).all (od_chq prog_1_method_18_code oc_78)) = true := by decide +kernel
theorem oq_79_0 : ((List.range' 0 12).all (od_chq prog_1_method_19_code oc_79)) = true := by decide +kernel
theorem oq_80_0 : ((List.range' 0 27).all (od_chq prog_1_method_20_code oc_80)) = true := by decide +kernel
theorem oq_81_0 : ((List.range' 0 29).all (od_chq prog_1_method_21_code oc_81)) = true := by decide +kernel
theorem oq_82_0 : ((List.range' 0 16).all (od_chq prog_1_method_22_code oc_82)) = true := by decide +kernel
theorem oq_83_0 : ((List.range' 0 15).all (od_chq prog_1_method_23_code oc_83)) = true := by decide +kernel
theorem oq_84_0 : ((List.range' 0 13).all (od_chq prog_1_method_24_code oc_84)) = true := by decide +kernel
theorem oq_85_0 : ((List.range' 0 62).all (od_chq prog_10_method_1_code oc_85)) = true := by decide +kernel
theorem oq_86_0 : ((List.range' 0 5).all (od_chq prog_10_method_2_code oc_86)) = true := by decide +kernel
theorem oq_87_0 : ((List.range' 0 8).all (od_chq prog_10_method_3_code oc_87)) = true := by decide +kernel
theorem oq_88_0 : ((List.range' 0 47).all (od_chq prog_10_method_4_code oc_88)) = true := by decide +kernel
theorem oq_89_0 : ((List.range' 0 34).all (od_chq prog_10_method_5_code oc_89)) = true := by decide +kernel
theorem oq_90_0 : ((List.range' 0 67).all (od_chq prog_10_method_6_code oc_90)) = true := by decide +kernel
theorem oq_90_1 : ((List.range' 69 1).all (od_chq prog_10_method_6_code oc_90)) = true := by decide +kernel
theorem oq_91_0 : ((List.range' 0 19).all (od_chq prog_10_method_7_code oc_91)) = true := by decide +kernel
theorem oq_92_0 : ((List.range' 0 26).all (od_chq prog_10_method_8_code oc_92)) = true := by decide +kernel
theorem oq_93_0 : ((List.range' 0 56).all (od_chq prog_10_method_9_code oc_93)) = true := by decide +kernel
theorem oq_94_0 : ((List.range' 0 14).all (od_chq prog_10_method_10_code oc_94)) = true := by decide +kernel
theorem oq_95_0 : ((List.range' 0 20).all (od_chq prog_10_method_11_code oc_95)) = true := by decide +kernel
theorem oq_96_0 : ((List.range' 0 52).all (od_chq prog_10_method_12_code oc_96)) = true := by decide +kernel
end
section
/-! Printed by wip/whole/gen.py: the code lists against the bytes. -/
theorem oq_97_0 : ((List.range' 0 28).all (od_chq prog_10_method_13_code oc_97)) = true := by decide +kernel
theorem oq_98_0 : ((List.range' 0 32).all (od_chq prog_10_method_14_code oc_98)) = true := by decide +kernel
theorem oq_99_0 : ((List.range' 0 16).all (od_chq prog_10_method_15_code oc_99)) = true := by decide +kernel
theorem oq_100_0 : ((List.range' 0 28).all (od_chq prog_10_method_16_code oc_100)) = true := by decide +kernel
theorem oq_101_0 : ((List.range' 0 54).all (od_chq prog_10_method_17_code oc_101)) = true := by decide +kernel
theorem oq_102_0 : ((List.range' 0 67).all (od_chq prog_10_method_18_code oc_102)) = true := by decide +kernel
theorem oq_102_1 : ((List.range' 67 75).all (od_chq prog_10_method_18_code oc_102)) = true := by decide +kernel
theorem oq_102_2 : ((List.range' 144 38).all (od_chq prog_10_method_18_code oc_102)) = true := by decide +kernel
theorem oq_103_0 : ((List.range' 0 69).all (od_chq prog_10_method_19_code oc_103)) = true := by decide +kernel
theorem oq_103_1 : ((List.range' 70 74).all (od_chq prog_10_method_19_code oc_103)) = true := by decide +kernel
theorem oq_103_2 : ((List.range' 145 58).all (od_chq prog_10_method_19_code oc_103)) = true := by decide +kernel
theorem oq_104_0 : ((List.range' 0 67).all (od_chq prog_10_method_20_code oc_104)) = true := by decide +kernel
theorem oq_104_1 : ((List.range' 67 71).all (od_chq prog_10_method_20_code oc_104)) = true := by decide +kernel
theorem oq_104_2 : ((List.range' 138 15).all (od_chq prog_10_method_20_code oc_104)) = true := by decide +kernel
theorem oq_105_0 : ((List.range' 0 69).all (od_chq prog_10_method_21_code oc_105)) = true := by decide +kernel
theorem oq_105_1 : ((List.range' 70 73).all (od_chq prog_10_method_21_code oc_105)) = true := by decide +kernel
theorem oq_105_2 : ((List.range' 143 12).all (od_chq prog_10_method_21_code oc_105)) = true := by decide +kernel
end
section
/-! Printed by wip/whole/gen.py: the code lists against the bytes. -/
theorem oq_106_0 : ((List.range' 0 73).all (od_chq prog_10_method_22_code oc_106)) = true := by decide +kernel
theorem oq_106_1 : ((List.range' 74 81).all (od_chq prog_10_method_22_code oc_106)) = true := by decide +kernel
theorem oq_106_2 : ((List.range' 156 71).all (od_chq prog_10_method_22_code oc_106)) = true := by decide +kernel
theorem oq_106_3 : ((List.range' 229 35).all (od_chq prog_10_method_22_code oc_106)) = true := by decide +kernel
theorem oq_107_0 : ((List.range' 0 67).all (od_chq prog_10_method_23_code oc_107)) = true := by decide +kernel
theorem oq_107_1 : ((List.range' 69 51).all (od_chq prog_10_method_23_code oc_107)) = true := by decide +kernel
theorem oq_108_0 : ((List.range' 0 68).all (od_chq prog_10_method_24_code oc_108)) = true := by decide +kernel
theorem oq_108_1 : ((List.range' 69 76).all (od_chq prog_10_method_24_code oc_108)) = true := by decide +kernel
theorem oq_108_2 : ((List.range' 147 68).all (od_chq prog_10_method_24_code oc_108)) = true := by decide +kernel
theorem oq_108_3 : ((List.range' 217 41).all (od_chq prog_10_method_24_code oc_108)) = true := by decide +kernel
theorem oq_109_0 : ((List.range' 0 46).all (od_chq prog_10_method_25_code oc_109)) = true := by decide +kernel
theorem oq_110_0 : ((List.range' 0 63).all (od_chq prog_10_method_26_code oc_110)) = true := by decide +kernel
theorem oq_110_1 : ((List.range' 65 65).all (od_chq prog_10_method_26_code oc_110)) = true := by decide +kernel
theorem oq_110_2 : ((List.range' 132 77).all (od_chq prog_10_method_26_code oc_110)) = true := by decide +kernel
theorem oq_110_3 : ((List.range' 209 74).all (od_chq prog_10_method_26_code oc_110)) = true := by decide +kernel
theorem oq_110_4 : ((List.range' 284 76).all (od_chq prog_10_method_26_code oc_110)) = true := by decide +kernel
theorem oq_110_5 : ((List.range' 361 16).all (od_chq prog_10_method_26_code oc_110)) = true := by decide +kernel
end
section
/-! Printed by wip/whole/gen.py: the code lists against the bytes. -/
theorem oq_111_0 : ((List.range' 0 73).all (od_chq prog_10_method_27_code oc_111)) = true := by decide +kernel
theorem oq_111_1 : ((List.range' 75 72).all (od_chq prog_10_method_27_code oc_111)) = true := by decide +kernel
theorem oq_111_2 : ((List.range' 147 67).all (od_chq prog_10_method_27_code oc_111)) = true := by decide +kernel
theorem oq_111_3 : ((List.range' 215 75).all (od_chq prog_10_method_27_code oc_111)) = true := by decide +kernel
theorem oq_111_4 : ((List.range' 291 5).all (od_chq prog_10_method_27_code oc_111)) = true := by decide +kernel
theorem oq_112_0 : ((List.range' 0 61).all (od_chq prog_10_method_28_code oc_112)) = true := by decide +kernel
theorem oq_112_1 : ((List.range' 61 11).all (od_chq prog_10_method_28_code oc_112)) = true := by decide +kernel
theorem oq_113_0 : ((List.range' 0 16).all (od_chq prog_10_method_29_code oc_113)) = true := by decide +kernel
theorem oq_114_0 : ((List.range' 0 41).all (od_chq prog_10_method_30_code oc_114)) = true := by decide +kernel
theorem oq_115_0 : ((List.range' 0 44).all (od_chq prog_10_method_31_code oc_115)) = true := by decide +kernel
theorem oq_116_0 : ((List.range' 0 74).all (od_chq prog_10_method_32_code oc_116)) = true := by decide +kernel
theorem oq_117_0 : ((List.range' 0 76).all (od_chq prog_10_method_33_code oc_117)) = true := by decide +kernel
theorem oq_117_1 : ((List.range' 78 105).all (od_chq prog_10_method_33_code oc_117)) = true := by decide +kernel
theorem oq_117_2 : ((List.range' 185 57).all (od_chq prog_10_method_33_code oc_117)) = true := by decide +kernel
theorem oq_118_0 : ((List.range' 0 74).all (od_chq prog_10_method_34_code oc_118)) = true := by decide +kernel
end
section
/-! Printed by wip/whole/gen.py: the code lists against the bytes. -/
theorem oq_119_0 : ((List.range' 0 76).all (od_chq prog_10_method_35_code oc_119)) = true := by decide +kernel
theorem oq_119_1 : ((List.range' 76 48).all (od_chq prog_10_method_35_code oc_119)) = true := by decide +kernel
theorem oq_120_0 : ((List.range' 0 73).all (od_chq prog_10_method_36_code oc_120)) = true := by decide +kernel
theorem oq_120_1 : ((List.range' 73 71).all (od_chq prog_10_method_36_code oc_120)) = true := by decide +kernel
theorem oq_120_2 : ((List.range' 144 14).all (od_chq prog_10_method_36_code oc_120)) = true := by decide +kernel
theorem oq_121_0 : ((List.range' 0 77).all (od_chq prog_10_method_37_code oc_121)) = true := by decide +kernel
theorem oq_121_1 : ((List.range' 79 65).all (od_chq prog_10_method_37_code oc_121)) = true := by decide +kernel
theorem oq_121_2 : ((List.range' 144 65).all (od_chq prog_10_method_37_code oc_121)) = true := by decide +kernel
theorem oq_122_0 : ((List.range' 0 64).all (od_chq prog_10_method_38_code oc_122)) = true := by decide +kernel
theorem oq_122_1 : ((List.range' 66 27).all (od_chq prog_10_method_38_code oc_122)) = true := by decide +kernel
theorem oq_123_0 : ((List.range' 0 75).all (od_chq prog_10_method_39_code oc_123)) = true := by decide +kernel
theorem oq_123_1 : ((List.range' 75 23).all (od_chq prog_10_method_39_code oc_123)) = true := by decide +kernel
theorem oq_124_0 : ((List.range' 0 41).all (od_chq prog_10_method_40_code oc_124)) = true := by decide +kernel
theorem oq_125_0 : ((List.range' 0 33).all (od_chq prog_10_method_41_code oc_125)) = true := by decide +kernel
theorem oq_126_0 : ((List.range' 0 36).all (od_chq prog_10_method_42_code oc_126)) = true := by decide +kernel
theorem oq_127_0 : ((List.range' 0 57).all (od_chq prog_10_method_43_code oc_127)) = true := by decide +kernel
end
section
/-! Printed by wip/whole/gen.py: the code lists against the bytes. -/
theorem oq_128_0 : ((List.range' 0 62).all (od_chq prog_10_method_44_code oc_128)) = true := by decide +kernel
theorem oq_128_1 : ((List.range' 64 8).all (od_chq prog_10_method_44_code oc_128)) = true := by decide +kernel
theorem oq_129_0 : ((List.range' 0 71).all (od_chq prog_10_method_45_code oc_129)) = true := by decide +kernel
theorem oq_129_1 : ((List.range' 71 66).all (od_chq prog_10_method_45_code oc_129)) = true := by decide +kernel
theorem oq_129_2 : ((List.range' 137 57).all (od_chq prog_10_method_45_code oc_129)) = true := by decide +kernel
theorem oq_130_0 : ((List.range' 0 65).all (od_chq prog_10_method_46_code oc_130)) = true := by decide +kernel
theorem oq_130_1 : ((List.range' 67 72).all (od_chq prog_10_method_46_code oc_130)) = true := by decide +kernel
theorem oq_130_2 : ((List.range' 139 30).all (od_chq prog_10_method_46_code oc_130)) = true := by decide +kernel
theorem oq_131_0 : ((List.range' 0 75).all (od_chq prog_10_method_47_code oc_131)) = true := by decide +kernel
theorem oq_131_1 : ((List.range' 75 76).all (od_chq prog_10_method_47_code oc_131)) = true := by decide +kernel
theorem oq_131_2 : ((List.range' 152 1).all (od_chq prog_10_method_47_code oc_131)) = true := by decide +kernel
theorem oq_132_0 : ((List.range' 0 65).all (od_chq prog_10_method_48_code oc_132)) = true := by decide +kernel
theorem oq_133_0 : ((List.range' 0 42).all (od_chq prog_10_method_49_code oc_133)) = true := by decide +kernel
theorem oq_134_0 : ((List.range' 0 45).all (od_chq prog_10_method_50_code oc_134)) = true := by decide +kernel
theorem oq_135_0 : ((List.range' 0 45).all (od_chq prog_10_method_51_code oc_135)) = true := by decide +kernel
theorem oq_136_0 : ((List.range' 0 17).all (od_chq prog_10_method_52_code oc_136)) = true := by decide +kernel
end
section
/-! Printed by wip/whole/gen.py: the code lists against the bytes. -/
theorem oq_137_0 : ((List.range' 0 17).all (od_chq method_3_code oc_137)) = true := by decide +kernel
theorem oq_138_0 : ((List.range' 0 24).all (od_chq method_4_code oc_138)) = true := by decide +kernel
theorem oq_139_0 : ((List.range' 0 31).all (od_chq method_5_code oc_139)) = true := by decide +kernel
theorem oq_140_0 : ((List.range' 0 29).all (od_chq method_6_code oc_140)) = true := by decide +kernel
theorem oq_141_0 : ((List.range' 0 29).all (od_chq method_7_code oc_141)) = true := by decide +kernel
theorem oq_142_0 : ((List.range' 0 31).all (od_chq method_8_code oc_142)) = true := by decide +kernel
theorem oq_143_0 : ((List.range' 0 29).all (od_chq method_9_code oc_143)) = true := by decide +kernel
theorem oq_144_0 : ((List.range' 0 19).all (od_chq method_10_code oc_144)) = true := by decide +kernel
theorem oq_145_0 : ((List.range' 0 17).all (od_chq method_11_code oc_145)) = true := by decide +kernel
theorem oq_146_0 : ((List.range' 0 17).all (od_chq method_12_code oc_146)) = true := by decide +kernel
theorem oq_147_0 : ((List.range' 0 19).all (od_chq method_13_code oc_147)) = true := by decide +kernel
theorem oq_148_0 : ((List.range' 0 23).all (od_chq method_14_code oc_148)) = true := by decide +kernel
theorem oq_149_0 : ((List.range' 0 29).all (od_chq method_15_code oc_149)) = true := by decide +kernel
theorem oq_150_0 : ((List.range' 0 20).all (od_chq method_16_code oc_150)) = true := by decide +kernel
theorem oq_151_0 : ((List.range' 0 14).all (od_chq method_17_code oc_151)) = true := by decide +kernel
theorem oq_152_0 : ((List.range' 0 14).all (od_chq method_18_code oc_152)) = true := by decide +kernel
theorem oq_153_0 : ((List.range' 0 144).all (od_chq code oc_153)) = true := by decide +kernel
theorem oq_153_1 : ((List.range' 144 58).all (od_chq code oc_153)) = true := by decide +kernel
theorem oq_153_2 : ((List.range' 202 55).all (od_chq code oc_153)) = true := by decide +kernel
theorem oq_153_3 : ((List.range' 257 59).all (od_chq code oc_153)) = true := by decide +kernel
theorem oq_153_4 : ((List.range' 316 53).all (od_chq code oc_153)) = true := by decide +kernel
theorem oq_153_5 : ((List.range' 371 60).all (od_chq code oc_153)) = true := by decide +kernel
theorem oq_153_6 : ((List.range' 431 60).all (od_chq code oc_153)) = true := by decide +kernel
theorem oq_153_7 : ((List.range' 491 50).all (od_chq code oc_153)) = true := by decide +kernel
theorem oq_153_8 : ((List.range' 543 60).all (od_chq code oc_153)) = true := by decide +kernel
theorem oq_153_9 : ((List.range' 603 60).all (od_chq code oc_153)) = true := by decide +kernel
theorem oq_153_10 : ((List.range' 663 62).all (od_chq code oc_153)) = true := by decide +kernel
theorem oq_153_11 : ((List.range' 725 62).all (od_chq code oc_153)) = true := by decide +kernel
theorem oq_153_12 : ((List.range' 787 62).all (od_chq code oc_153)) = true := by decide +kernel
theorem oq_153_13 : ((List.range' 849 62).all (od_chq code oc_153)) = true := by decide +kernel
theorem oq_153_14 : ((List.range' 911 62).all (od_chq code oc_153)) = true := by decide +kernel
theorem oq_153_15 : ((List.range' 973 55).all (od_chq code oc_153)) = true := by decide +kernel
theorem oq_153_16 : ((List.range' 1030 64).all (od_chq code oc_153)) = true := by decide +kernel
theorem oq_153_17 : ((List.range' 1094 58).all (od_chq code oc_153)) = true := by decide +kernel
theorem oq_153_18 : ((List.range' 1152 63).all (od_chq code oc_153)) = true := by decide +kernel
theorem oq_153_19 : ((List.range' 1217 21).all (od_chq code oc_153)) = true := by decide +kernel
end
section
/-! Printed by wip/whole/gen.py: the code lists against the bytes. -/
theorem oq_154_0 : ((List.range' 0 11).all (od_chq prog_16_method_69_code oc_154)) = true := by decide +kernel
theorem oq_155_0 : ((List.range' 0 11).all (od_chq prog_16_method_65_code oc_155)) = true := by decide +kernel
theorem oq_156_0 : ((List.range' 0 12).all (od_chq prog_16_method_70_code oc_156)) = true := by decide +kernel
theorem oq_157_0 : ((List.range' 0 20).all (od_chq prog_15_method_40_code oc_157)) = true := by decide +kernel
end
section
/-! Printed by wip/whole/gen.py: the code lists against the bytes, all places. -/
theorem od_join {f : Nat → Bool} {a n m : Nat} (h1 : (List.range' a n).all f = true) (h2 : (List.range' (a + n) m).all f = true) : (List.range' a (n + m)).all f = true := by
  rw [← List.range'_append_1, List.all_append, h1, h2]
  rfl
theorem od_allI {f : Nat → Bool} {n : Nat} (h : (List.range' 0 n).all f = true) {pc : Nat} (hp : pc < n) : f pc = true := List.all_eq_true.mp h pc (List.mem_range'_1.mpr ⟨Nat.zero_le _, by omega⟩)
def od_good (q : ByteArray × List (Option (ClassFile.Instr × Nat))) : Prop := ∀ pc, pc < q.2.length → od_chq q.1 q.2 pc = true
set_option maxRecDepth 100000 in
theorem oz_0 : od_good (prog_8_method_1_code, oc_0) := fun pc hp => od_allI (n := 18) oq_0_0 hp
set_option maxRecDepth 100000 in
theorem oz_1 : od_good (prog_8_method_2_code, oc_1) := fun pc hp => od_allI (n := 13) oq_1_0 hp
set_option maxRecDepth 100000 in
theorem oz_2 : od_good (prog_8_method_3_code, oc_2) := fun pc hp => od_allI (n := 14) oq_2_0 hp
set_option maxRecDepth 100000 in
theorem oz_3 : od_good (prog_8_method_4_code, oc_3) := fun pc hp => od_allI (n := 24) oq_3_0 hp
set_option maxRecDepth 100000 in
theorem oz_4 : od_good (prog_8_method_5_code, oc_4) := fun pc hp => od_allI (n := 7) oq_4_0 hp
set_option maxRecDepth 100000 in
theorem oz_5 : od_good (prog_8_method_6_code, oc_5) := fun pc hp => od_allI (n := 27) oq_5_0 hp
set_option maxRecDepth 100000 in
theorem oz_6 : od_good (prog_8_method_7_code, oc_6) := fun pc hp => od_allI (n := 23) oq_6_0 hp
set_option maxRecDepth 100000 in
theorem oz_7 : od_good (prog_8_method_8_code, oc_7) := fun pc hp => od_allI (n := 25) oq_7_0 hp
set_option maxRecDepth 100000 in
theorem oz_8 : od_good (prog_8_method_9_code, oc_8) := fun pc hp => od_allI (n := 26) oq_8_0 hp
set_option maxRecDepth 100000 in
theorem oz_9 : od_good (prog_8_method_10_code, oc_9) := fun pc hp => od_allI (n := 48) oq_9_0 hp
set_option maxRecDepth 100000 in
theorem oz_10 : od_good (prog_8_method_11_code, oc_10) := fun pc hp => od_allI (n := 53) oq_10_0 hp
set_option maxRecDepth 100000 in
theorem oz_11 : od_good (prog_8_method_12_code, oc_11) := fun pc hp => od_allI (n := 45) oq_11_0 hp
set_option maxRecDepth 100000 in
theorem oz_12 : od_good (prog_8_method_13_code, oc_12) := fun pc hp => od_allI (n := 6) oq_12_0 hp
set_option maxRecDepth 100000 in
theorem oz_13 : od_good (prog_8_method_14_code, oc_13) := fun pc hp => od_allI (n := 11) oq_13_0 hp
set_option maxRecDepth 100000 in
theorem oz_14 : od_good (prog_8_method_15_code, oc_14) := fun pc hp => od_allI (n := 13) oq_14_0 hp
set_option maxRecDepth 100000 in
theorem oz_15 : od_good (prog_8_method_16_code, oc_15) := fun pc hp => od_allI (n := 12) oq_15_0 hp
set_option maxRecDepth 100000 in
theorem oz_16 : od_good (prog_8_method_17_code, oc_16) := fun pc hp => od_allI (n := 12) oq_16_0 hp
set_option maxRecDepth 100000 in
theorem oz_17 : od_good (prog_8_method_18_code, oc_17) := fun pc hp => od_allI (n := 12) oq_17_0 hp
set_option maxRecDepth 100000 in
theorem oz_18 : od_good (prog_8_method_19_code, oc_18) := fun pc hp => od_allI (n := 73) (od_join (f := (od_chq prog_8_method_19_code oc_18)) (a := 0) (n := 68) (m := 5) oq_18_0 oq_18_1) hp
set_option maxRecDepth 100000 in
theorem oz_19 : od_good (prog_8_method_20_code, oc_19) := fun pc hp => od_allI (n := 40) oq_19_0 hp
set_option maxRecDepth 100000 in
theorem oz_20 : od_good (prog_8_method_21_code, oc_20) := fun pc hp => od_allI (n := 6) oq_20_0 hp
set_option maxRecDepth 100000 in
theorem oz_21 : od_good (prog_8_method_22_code, oc_21) := fun pc hp => od_allI (n := 11) oq_21_0 hp
set_option maxRecDepth 100000 in
theorem oz_22 : od_good (prog_8_method_23_code, oc_22) := fun pc hp => od_allI (n := 25) oq_22_0 hp
set_option maxRecDepth 100000 in
theorem oz_23 : od_good (prog_8_method_24_code, oc_23) := fun pc hp => od_allI (n := 20) oq_23_0 hp
set_option maxRecDepth 100000 in
theorem oz_24 : od_good (prog_8_method_25_code, oc_24) := fun pc hp => od_allI (n := 16) oq_24_0 hp
set_option maxRecDepth 100000 in
theorem oz_25 : od_good (prog_8_method_26_code, oc_25) := fun pc hp => od_allI (n := 23) oq_25_0 hp
set_option maxRecDepth 100000 in
theorem oz_26 : od_good (prog_8_method_27_code, oc_26) := fun pc hp => od_allI (n := 16) oq_26_0 hp
set_option maxRecDepth 100000 in
theorem oz_27 : od_good (prog_8_method_28_code, oc_27) := fun pc hp => od_allI (n := 20) oq_27_0 hp
set_option maxRecDepth 100000 in
theorem oz_28 : od_good (prog_8_method_29_code, oc_28) := fun pc hp => od_allI (n := 73) (od_join (f := (od_chq prog_8_method_29_code oc_28)) (a := 0) (n := 72) (m := 1) (od_join (f := (od_chq prog_8_method_29_code oc_28)) (a := 0) (n := 70) (m := 2) oq_28_0 (by decide +kernel)) oq_28_1) hp
set_option maxRecDepth 100000 in
theorem oz_29 : od_good (prog_2_method_1_code, oc_29) := fun pc hp => od_allI (n := 148) (od_join (f := (od_chq prog_2_method_1_code oc_29)) (a := 0) (n := 86) (m := 62) oq_29_0 oq_29_1) hp
set_option maxRecDepth 100000 in
theorem oz_30 : od_good (prog_2_method_2_code, oc_30) := fun pc hp => od_allI (n := 133) (od_join (f := (od_chq prog_2_method_2_code oc_30)) (a := 0) (n := 72) (m := 61) (od_join (f := (od_chq prog_2_method_2_code oc_30)) (a := 0) (n := 71) (m := 1) oq_30_0 (by decide +kernel)) oq_30_1) hp
set_option maxRecDepth 100000 in
theorem oz_31 : od_good (prog_2_method_3_code, oc_31) := fun pc hp => od_allI (n := 160) (od_join (f := (od_chq prog_2_method_3_code oc_31)) (a := 0) (n := 159) (m := 1) (od_join (f := (od_chq prog_2_method_3_code oc_31)) (a := 0) (n := 157) (m := 2) (od_join (f := (od_chq prog_2_method_3_code oc_31)) (a := 0) (n := 79) (m := 78) (od_join (f := (od_chq prog_2_method_3_code oc_31)) (a := 0) (n := 77) (m := 2) oq_31_0 (by decide +kernel)) oq_31_1) (by decide +kernel)) oq_31_2) hp
set_option maxRecDepth 100000 in
theorem oz_32 : od_good (prog_2_method_4_code, oc_32) := fun pc hp => od_allI (n := 95) (od_join (f := (od_chq prog_2_method_4_code oc_32)) (a := 0) (n := 79) (m := 16) (od_join (f := (od_chq prog_2_method_4_code oc_32)) (a := 0) (n := 78) (m := 1) oq_32_0 (by decide +kernel)) oq_32_1) hp
set_option maxRecDepth 100000 in
theorem oz_33 : od_good (prog_2_method_5_code, oc_33) := fun pc hp => od_allI (n := 129) (od_join (f := (od_chq prog_2_method_5_code oc_33)) (a := 0) (n := 85) (m := 44) oq_33_0 oq_33_1) hp
set_option maxRecDepth 100000 in
theorem oz_34 : od_good (prog_2_method_6_code, oc_34) := fun pc hp => od_allI (n := 32) oq_34_0 hp
set_option maxRecDepth 100000 in
theorem oz_35 : od_good (prog_2_method_7_code, oc_35) := fun pc hp => od_allI (n := 124) (od_join (f := (od_chq prog_2_method_7_code oc_35)) (a := 0) (n := 77) (m := 47) oq_35_0 oq_35_1) hp
set_option maxRecDepth 100000 in
theorem oz_36 : od_good (prog_2_method_8_code, oc_36) := fun pc hp => od_allI (n := 163) (od_join (f := (od_chq prog_2_method_8_code oc_36)) (a := 0) (n := 148) (m := 15) (od_join (f := (od_chq prog_2_method_8_code oc_36)) (a := 0) (n := 146) (m := 2) (od_join (f := (od_chq prog_2_method_8_code oc_36)) (a := 0) (n := 73) (m := 73) oq_36_0 oq_36_1) (by decide +kernel)) oq_36_2) hp
set_option maxRecDepth 100000 in
theorem oz_37 : od_good (prog_2_method_9_code, oc_37) := fun pc hp => od_allI (n := 69) oq_37_0 hp
set_option maxRecDepth 100000 in
theorem oz_38 : od_good (prog_2_method_10_code, oc_38) := fun pc hp => od_allI (n := 109) (od_join (f := (od_chq prog_2_method_10_code oc_38)) (a := 0) (n := 78) (m := 31) (od_join (f := (od_chq prog_2_method_10_code oc_38)) (a := 0) (n := 76) (m := 2) oq_38_0 (by decide +kernel)) oq_38_1) hp
set_option maxRecDepth 100000 in
theorem oz_39 : od_good (prog_4_method_1_code, oc_39) := fun pc hp => od_allI (n := 60) oq_39_0 hp
set_option maxRecDepth 100000 in
theorem oz_40 : od_good (prog_4_method_2_code, oc_40) := fun pc hp => od_allI (n := 120) (od_join (f := (od_chq prog_4_method_2_code oc_40)) (a := 0) (n := 75) (m := 45) (od_join (f := (od_chq prog_4_method_2_code oc_40)) (a := 0) (n := 73) (m := 2) oq_40_0 (by decide +kernel)) oq_40_1) hp
set_option maxRecDepth 100000 in
theorem oz_41 : od_good (prog_4_method_3_code, oc_41) := fun pc hp => od_allI (n := 214) (od_join (f := (od_chq prog_4_method_3_code oc_41)) (a := 0) (n := 159) (m := 55) (od_join (f := (od_chq prog_4_method_3_code oc_41)) (a := 0) (n := 157) (m := 2) (od_join (f := (od_chq prog_4_method_3_code oc_41)) (a := 0) (n := 77) (m := 80) (od_join (f := (od_chq prog_4_method_3_code oc_41)) (a := 0) (n := 76) (m := 1) oq_41_0 (by decide +kernel)) oq_41_1) (by decide +kernel)) oq_41_2) hp
set_option maxRecDepth 100000 in
theorem oz_42 : od_good (prog_4_method_4_code, oc_42) := fun pc hp => od_allI (n := 136) (od_join (f := (od_chq prog_4_method_4_code oc_42)) (a := 0) (n := 72) (m := 64) oq_42_0 oq_42_1) hp
set_option maxRecDepth 100000 in
theorem oz_43 : od_good (prog_3_method_1_code, oc_43) := fun pc hp => od_allI (n := 27) oq_43_0 hp
set_option maxRecDepth 100000 in
theorem oz_44 : od_good (prog_3_method_2_code, oc_44) := fun pc hp => od_allI (n := 27) oq_44_0 hp
set_option maxRecDepth 100000 in
theorem oz_45 : od_good (prog_3_method_3_code, oc_45) := fun pc hp => od_allI (n := 147) (od_join (f := (od_chq prog_3_method_3_code oc_45)) (a := 0) (n := 146) (m := 1) (od_join (f := (od_chq prog_3_method_3_code oc_45)) (a := 0) (n := 144) (m := 2) (od_join (f := (od_chq prog_3_method_3_code oc_45)) (a := 0) (n := 67) (m := 77) (od_join (f := (od_chq prog_3_method_3_code oc_45)) (a := 0) (n := 66) (m := 1) oq_45_0 (by decide +kernel)) oq_45_1) (by decide +kernel)) oq_45_2) hp
set_option maxRecDepth 100000 in
theorem oz_46 : od_good (prog_3_method_4_code, oc_46) := fun pc hp => od_allI (n := 80) oq_46_0 hp
set_option maxRecDepth 100000 in
theorem oz_47 : od_good (prog_5_method_1_code, oc_47) := fun pc hp => od_allI (n := 48) oq_47_0 hp
set_option maxRecDepth 100000 in
theorem oz_48 : od_good (prog_5_method_2_code, oc_48) := fun pc hp => od_allI (n := 112) (od_join (f := (od_chq prog_5_method_2_code oc_48)) (a := 0) (n := 70) (m := 42) oq_48_0 oq_48_1) hp
set_option maxRecDepth 100000 in
theorem oz_49 : od_good (prog_5_method_3_code, oc_49) := fun pc hp => od_allI (n := 80) (od_join (f := (od_chq prog_5_method_3_code oc_49)) (a := 0) (n := 70) (m := 10) oq_49_0 oq_49_1) hp
set_option maxRecDepth 100000 in
theorem oz_50 : od_good (prog_5_method_4_code, oc_50) := fun pc hp => od_allI (n := 96) (od_join (f := (od_chq prog_5_method_4_code oc_50)) (a := 0) (n := 63) (m := 33) (od_join (f := (od_chq prog_5_method_4_code oc_50)) (a := 0) (n := 62) (m := 1) oq_50_0 (by decide +kernel)) oq_50_1) hp
set_option maxRecDepth 100000 in
theorem oz_51 : od_good (prog_7_method_1_code, oc_51) := fun pc hp => od_allI (n := 70) oq_51_0 hp
set_option maxRecDepth 100000 in
theorem oz_52 : od_good (prog_7_method_2_code, oc_52) := fun pc hp => od_allI (n := 64) oq_52_0 hp
set_option maxRecDepth 100000 in
theorem oz_53 : od_good (prog_7_method_3_code, oc_53) := fun pc hp => od_allI (n := 145) (od_join (f := (od_chq prog_7_method_3_code oc_53)) (a := 0) (n := 137) (m := 8) (od_join (f := (od_chq prog_7_method_3_code oc_53)) (a := 0) (n := 135) (m := 2) (od_join (f := (od_chq prog_7_method_3_code oc_53)) (a := 0) (n := 62) (m := 73) oq_53_0 oq_53_1) (by decide +kernel)) oq_53_2) hp
set_option maxRecDepth 100000 in
theorem oz_54 : od_good (prog_7_method_4_code, oc_54) := fun pc hp => od_allI (n := 52) oq_54_0 hp
set_option maxRecDepth 100000 in
theorem oz_55 : od_good (prog_6_method_1_code, oc_55) := fun pc hp => od_allI (n := 13) oq_55_0 hp
set_option maxRecDepth 100000 in
theorem oz_56 : od_good (prog_6_method_2_code, oc_56) := fun pc hp => od_allI (n := 12) oq_56_0 hp
set_option maxRecDepth 100000 in
theorem oz_57 : od_good (prog_6_method_3_code, oc_57) := fun pc hp => od_allI (n := 131) (od_join (f := (od_chq prog_6_method_3_code oc_57)) (a := 0) (n := 70) (m := 61) oq_57_0 oq_57_1) hp
set_option maxRecDepth 100000 in
theorem oz_58 : od_good (prog_6_method_4_code, oc_58) := fun pc hp => od_allI (n := 115) (od_join (f := (od_chq prog_6_method_4_code oc_58)) (a := 0) (n := 69) (m := 46) oq_58_0 oq_58_1) hp
set_option maxRecDepth 100000 in
theorem oz_59 : od_good (prog_6_method_5_code, oc_59) := fun pc hp => od_allI (n := 61) oq_59_0 hp
set_option maxRecDepth 100000 in
theorem oz_60 : od_good (prog_6_method_6_code, oc_60) := fun pc hp => od_allI (n := 8) oq_60_0 hp
set_option maxRecDepth 100000 in
theorem oz_61 : od_good (prog_1_method_1_code, oc_61) := fun pc hp => od_allI (n := 170) (od_join (f := (od_chq prog_1_method_1_code oc_61)) (a := 0) (n := 166) (m := 4) (od_join (f := (od_chq prog_1_method_1_code oc_61)) (a := 0) (n := 164) (m := 2) (od_join (f := (od_chq prog_1_method_1_code oc_61)) (a := 0) (n := 86) (m := 78) (od_join (f := (od_chq prog_1_method_1_code oc_61)) (a := 0) (n := 84) (m := 2) oq_61_0 (by decide +kernel)) oq_61_1) (by decide +kernel)) oq_61_2) hp
set_option maxRecDepth 100000 in
theorem oz_62 : od_good (prog_1_method_2_code, oc_62) := fun pc hp => od_allI (n := 22) oq_62_0 hp
set_option maxRecDepth 100000 in
theorem oz_63 : od_good (prog_1_method_3_code, oc_63) := fun pc hp => od_allI (n := 45) oq_63_0 hp
set_option maxRecDepth 100000 in
theorem oz_64 : od_good (prog_1_method_4_code, oc_64) := fun pc hp => od_allI (n := 272) (od_join (f := (od_chq prog_1_method_4_code oc_64)) (a := 0) (n := 212) (m := 60) (od_join (f := (od_chq prog_1_method_4_code oc_64)) (a := 0) (n := 211) (m := 1) (od_join (f := (od_chq prog_1_method_4_code oc_64)) (a := 0) (n := 80) (m := 131) oq_64_0 oq_64_1) (by decide +kernel)) oq_64_2) hp
set_option maxRecDepth 100000 in
theorem oz_65 : od_good (prog_1_method_5_code, oc_65) := fun pc hp => od_allI (n := 58) oq_65_0 hp
set_option maxRecDepth 100000 in
theorem oz_66 : od_good (prog_1_method_6_code, oc_66) := fun pc hp => od_allI (n := 61) oq_66_0 hp
set_option maxRecDepth 100000 in
theorem oz_67 : od_good (prog_1_method_7_code, oc_67) := fun pc hp => od_allI (n := 72) oq_67_0 hp
set_option maxRecDepth 100000 in
theorem oz_68 : od_good (prog_1_method_8_code, oc_68) := fun pc hp => od_allI (n := 44) oq_68_0 hp
set_option maxRecDepth 100000 in
theorem oz_69 : od_good (prog_1_method_9_code, oc_69) := fun pc hp => od_allI (n := 14) oq_69_0 hp
set_option maxRecDepth 100000 in
theorem oz_70 : od_good (prog_1_method_10_code, oc_70) := fun pc hp => od_allI (n := 9) oq_70_0 hp
set_option maxRecDepth 100000 in
theorem oz_71 : od_good (prog_1_method_11_code, oc_71) := fun pc hp => od_allI (n := 9) oq_71_0 hp
set_option maxRecDepth 100000 in
theorem oz_72 : od_good (prog_1_method_12_code, oc_72) := fun pc hp => od_allI (n := 29) oq_72_0 hp
set_option maxRecDepth 100000 in
theorem oz_73 : od_good (prog_1_method_13_code, oc_73) := fun pc hp => od_allI (n := 45) oq_73_0 hp
set_option maxRecDepth 100000 in
theorem oz_74 : od_good (prog_1_method_14_code, oc_74) := fun pc hp => od_allI (n := 41) oq_74_0 hp
set_option maxRecDepth 100000 in
theorem oz_75 : od_good (prog_1_method_15_code, oc_75) := fun pc hp => od_allI (n := 53) oq_75_0 hp
set_option maxRecDepth 100000 in
theorem oz_76 : od_good (prog_1_method_16_code, oc_76) := fun pc hp => od_allI (n := 40) oq_76_0 hp
set_option maxRecDepth 100000 in
theorem oz_77 : od_good (prog_1_method_17_code, oc_77) := fun pc hp => od_allI (n := 14) oq_77_0 hp
set_option maxRecDepth 100000 in
theorem oz_78 : od_good (prog_1_method_18_code, oc_78) := fun pc hp => od_allI (n := 14) oq_78_0 hp
set_option maxRecDepth 100000 in
theorem oz_79 : od_good (prog_1_method_19_code, oc_79) := fun pc hp => od_allI (n := 12) oq_79_0 hp
set_option maxRecDepth 100000 in
theorem oz_80 : od_good (prog_1_method_20_code, oc_80) := fun pc hp => od_allI (n := 27) oq_80_0 hp
set_option maxRecDepth 100000 in
theorem oz_81 : od_good (prog_1_method_21_code, oc_81) := fun pc hp => od_allI (n := 29) oq_81_0 hp
set_option maxRecDepth 100000 in
theorem oz_82 : od_good (prog_1_method_22_code, oc_82) := fun pc hp => od_allI (n := 16) oq_82_0 hp
set_option maxRecDepth 100000 in
theorem oz_83 : od_good (prog_1_method_23_code, oc_83) := fun pc hp => od_allI (n := 15) oq_83_0 hp
set_option maxRecDepth 100000 in
theorem oz_84 : od_good (prog_1_method_24_code, oc_84) := fun pc hp => od_allI (n := 13) oq_84_0 hp
set_option maxRecDepth 100000 in
theorem oz_85 : od_good (prog_10_method_1_code, oc_85) := fun pc hp => od_allI (n := 62) oq_85_0 hp
set_option maxRecDepth 100000 in
theorem oz_86 : od_good (prog_10_method_2_code, oc_86) := fun pc hp => od_allI (n := 5) oq_86_0 hp
set_option maxRecDepth 100000 in
theorem oz_87 : od_good (prog_10_method_3_code, oc_87) := fun pc hp => od_allI (n := 8) oq_87_0 hp
set_option maxRecDepth 100000 in
theorem oz_88 : od_good (prog_10_method_4_code, oc_88) := fun pc hp => od_allI (n := 47) oq_88_0 hp
set_option maxRecDepth 100000 in
theorem oz_89 : od_good (prog_10_method_5_code, oc_89) := fun pc hp => od_allI (n := 34) oq_89_0 hp
set_option maxRecDepth 100000 in
theorem oz_90 : od_good (prog_10_method_6_code, oc_90) := fun pc hp => od_allI (n := 70) (od_join (f := (od_chq prog_10_method_6_code oc_90)) (a := 0) (n := 69) (m := 1) (od_join (f := (od_chq prog_10_method_6_code oc_90)) (a := 0) (n := 67) (m := 2) oq_90_0 (by decide +kernel)) oq_90_1) hp
set_option maxRecDepth 100000 in
theorem oz_91 : od_good (prog_10_method_7_code, oc_91) := fun pc hp => od_allI (n := 19) oq_91_0 hp
set_option maxRecDepth 100000 in
theorem oz_92 : od_good (prog_10_method_8_code, oc_92) := fun pc hp => od_allI (n := 26) oq_92_0 hp
set_option maxRecDepth 100000 in
theorem oz_93 : od_good (prog_10_method_9_code, oc_93) := fun pc hp => od_allI (n := 56) oq_93_0 hp
set_option maxRecDepth 100000 in
theorem oz_94 : od_good (prog_10_method_10_code, oc_94) := fun pc hp => od_allI (n := 14) oq_94_0 hp
set_option maxRecDepth 100000 in
theorem oz_95 : od_good (prog_10_method_11_code, oc_95) := fun pc hp => od_allI (n := 20) oq_95_0 hp
set_option maxRecDepth 100000 in
theorem oz_96 : od_good (prog_10_method_12_code, oc_96) := fun pc hp => od_allI (n := 52) oq_96_0 hp
set_option maxRecDepth 100000 in
theorem oz_97 : od_good (prog_10_method_13_code, oc_97) := fun pc hp => od_allI (n := 28) oq_97_0 hp
set_option maxRecDepth 100000 in
theorem oz_98 : od_good (prog_10_method_14_code, oc_98) := fun pc hp => od_allI (n := 32) oq_98_0 hp
set_option maxRecDepth 100000 in
theorem oz_99 : od_good (prog_10_method_15_code, oc_99) := fun pc hp => od_allI (n := 16) oq_99_0 hp
set_option maxRecDepth 100000 in
theorem oz_100 : od_good (prog_10_method_16_code, oc_100) := fun pc hp => od_allI (n := 28) oq_100_0 hp
set_option maxRecDepth 100000 in
theorem oz_101 : od_good (prog_10_method_17_code, oc_101) := fun pc hp => od_allI (n := 54) oq_101_0 hp
set_option maxRecDepth 100000 in
theorem oz_102 : od_good (prog_10_method_18_code, oc_102) := fun pc hp => od_allI (n := 182) (od_join (f := (od_chq prog_10_method_18_code oc_102)) (a := 0) (n := 144) (m := 38) (od_join (f := (od_chq prog_10_method_18_code oc_102)) (a := 0) (n := 142) (m := 2) (od_join (f := (od_chq prog_10_method_18_code oc_102)) (a := 0) (n := 67) (m := 75) oq_102_0 oq_102_1) (by decide +kernel)) oq_102_2) hp
set_option maxRecDepth 100000 in
theorem oz_103 : od_good (prog_10_method_19_code, oc_103) := fun pc hp => od_allI (n := 203) (od_join (f := (od_chq prog_10_method_19_code oc_103)) (a := 0) (n := 145) (m := 58) (od_join (f := (od_chq prog_10_method_19_code oc_103)) (a := 0) (n := 144) (m := 1) (od_join (f := (od_chq prog_10_method_19_code oc_103)) (a := 0) (n := 70) (m := 74) (od_join (f := (od_chq prog_10_method_19_code oc_103)) (a := 0) (n := 69) (m := 1) oq_103_0 (by decide +kernel)) oq_103_1) (by decide +kernel)) oq_103_2) hp
set_option maxRecDepth 100000 in
theorem oz_104 : od_good (prog_10_method_20_code, oc_104) := fun pc hp => od_allI (n := 153) (od_join (f := (od_chq prog_10_method_20_code oc_104)) (a := 0) (n := 138) (m := 15) (od_join (f := (od_chq prog_10_method_20_code oc_104)) (a := 0) (n := 67) (m := 71) oq_104_0 oq_104_1) oq_104_2) hp
set_option maxRecDepth 100000 in
theorem oz_105 : od_good (prog_10_method_21_code, oc_105) := fun pc hp => od_allI (n := 155) (od_join (f := (od_chq prog_10_method_21_code oc_105)) (a := 0) (n := 143) (m := 12) (od_join (f := (od_chq prog_10_method_21_code oc_105)) (a := 0) (n := 70) (m := 73) (od_join (f := (od_chq prog_10_method_21_code oc_105)) (a := 0) (n := 69) (m := 1) oq_105_0 (by decide +kernel)) oq_105_1) oq_105_2) hp
set_option maxRecDepth 100000 in
theorem oz_106 : od_good (prog_10_method_22_code, oc_106) := fun pc hp => od_allI (n := 264) (od_join (f := (od_chq prog_10_method_22_code oc_106)) (a := 0) (n := 229) (m := 35) (od_join (f := (od_chq prog_10_method_22_code oc_106)) (a := 0) (n := 227) (m := 2) (od_join (f := (od_chq prog_10_method_22_code oc_106)) (a := 0) (n := 156) (m := 71) (od_join (f := (od_chq prog_10_method_22_code oc_106)) (a := 0) (n := 155) (m := 1) (od_join (f := (od_chq prog_10_method_22_code oc_106)) (a := 0) (n := 74) (m := 81) (od_join (f := (od_chq prog_10_method_22_code oc_106)) (a := 0) (n := 73) (m := 1) oq_106_0 (by decide +kernel)) oq_106_1) (by decide +kernel)) oq_106_2) (by decide +kernel)) oq_106_3) hp
set_option maxRecDepth 100000 in
theorem oz_107 : od_good (prog_10_method_23_code, oc_107) := fun pc hp => od_allI (n := 120) (od_join (f := (od_chq prog_10_method_23_code oc_107)) (a := 0) (n := 69) (m := 51) (od_join (f := (od_chq prog_10_method_23_code oc_107)) (a := 0) (n := 67) (m := 2) oq_107_0 (by decide +kernel)) oq_107_1) hp
set_option maxRecDepth 100000 in
theorem oz_108 : od_good (prog_10_method_24_code, oc_108) := fun pc hp => od_allI (n := 258) (od_join (f := (od_chq prog_10_method_24_code oc_108)) (a := 0) (n := 217) (m := 41) (od_join (f := (od_chq prog_10_method_24_code oc_108)) (a := 0) (n := 215) (m := 2) (od_join (f := (od_chq prog_10_method_24_code oc_108)) (a := 0) (n := 147) (m := 68) (od_join (f := (od_chq prog_10_method_24_code oc_108)) (a := 0) (n := 145) (m := 2) (od_join (f := (od_chq prog_10_method_24_code oc_108)) (a := 0) (n := 69) (m := 76) (od_join (f := (od_chq prog_10_method_24_code oc_108)) (a := 0) (n := 68) (m := 1) oq_108_0 (by decide +kernel)) oq_108_1) (by decide +kernel)) oq_108_2) (by decide +kernel)) oq_108_3) hp
set_option maxRecDepth 100000 in
theorem oz_109 : od_good (prog_10_method_25_code, oc_109) := fun pc hp => od_allI (n := 46) oq_109_0 hp
set_option maxRecDepth 100000 in
theorem oz_110 : od_good (prog_10_method_26_code, oc_110) := fun pc hp => od_allI (n := 377) (od_join (f := (od_chq prog_10_method_26_code oc_110)) (a := 0) (n := 361) (m := 16) (od_join (f := (od_chq prog_10_method_26_code oc_110)) (a := 0) (n := 360) (m := 1) (od_join (f := (od_chq prog_10_method_26_code oc_110)) (a := 0) (n := 284) (m := 76) (od_join (f := (od_chq prog_10_method_26_code oc_110)) (a := 0) (n := 283) (m := 1) (od_join (f := (od_chq prog_10_method_26_code oc_110)) (a := 0) (n := 209) (m := 74) (od_join (f := (od_chq prog_10_method_26_code oc_110)) (a := 0) (n := 132) (m := 77) (od_join (f := (od_chq prog_10_method_26_code oc_110)) (a := 0) (n := 130) (m := 2) (od_join (f := (od_chq prog_10_method_26_code oc_110)) (a := 0) (n := 65) (m := 65) (od_join (f := (od_chq prog_10_method_26_code oc_110)) (a := 0) (n := 63) (m := 2) oq_110_0 (by decide +kernel)) oq_110_1) (by decide +kernel)) oq_110_2) oq_110_3) (by decide +kernel)) oq_110_4) (by decide +kernel)) oq_110_5) hp
set_option maxRecDepth 100000 in
theorem oz_111 : od_good (prog_10_method_27_code, oc_111) := fun pc hp => od_allI (n := 296) (od_join (f := (od_chq prog_10_method_27_code oc_111)) (a := 0) (n := 291) (m := 5) (od_join (f := (od_chq prog_10_method_27_code oc_111)) (a := 0) (n := 290) (m := 1) (od_join (f := (od_chq prog_10_method_27_code oc_111)) (a := 0) (n := 215) (m := 75) (od_join (f := (od_chq prog_10_method_27_code oc_111)) (a := 0) (n := 214) (m := 1) (od_join (f := (od_chq prog_10_method_27_code oc_111)) (a := 0) (n := 147) (m := 67) (od_join (f := (od_chq prog_10_method_27_code oc_111)) (a := 0) (n := 75) (m := 72) (od_join (f := (od_chq prog_10_method_27_code oc_111)) (a := 0) (n := 73) (m := 2) oq_111_0 (by decide +kernel)) oq_111_1) oq_111_2) (by decide +kernel)) oq_111_3) (by decide +kernel)) oq_111_4) hp
set_option maxRecDepth 100000 in
theorem oz_112 : od_good (prog_10_method_28_code, oc_112) := fun pc hp => od_allI (n := 72) (od_join (f := (od_chq prog_10_method_28_code oc_112)) (a := 0) (n := 61) (m := 11) oq_112_0 oq_112_1) hp
set_option maxRecDepth 100000 in
theorem oz_113 : od_good (prog_10_method_29_code, oc_113) := fun pc hp => od_allI (n := 16) oq_113_0 hp
set_option maxRecDepth 100000 in
theorem oz_114 : od_good (prog_10_method_30_code, oc_114) := fun pc hp => od_allI (n := 41) oq_114_0 hp
set_option maxRecDepth 100000 in
theorem oz_115 : od_good (prog_10_method_31_code, oc_115) := fun pc hp => od_allI (n := 44) oq_115_0 hp
set_option maxRecDepth 100000 in
theorem oz_116 : od_good (prog_10_method_32_code, oc_116) := fun pc hp => od_allI (n := 74) oq_116_0 hp
set_option maxRecDepth 100000 in
theorem oz_117 : od_good (prog_10_method_33_code, oc_117) := fun pc hp => od_allI (n := 242) (od_join (f := (od_chq prog_10_method_33_code oc_117)) (a := 0) (n := 185) (m := 57) (od_join (f := (od_chq prog_10_method_33_code oc_117)) (a := 0) (n := 183) (m := 2) (od_join (f := (od_chq prog_10_method_33_code oc_117)) (a := 0) (n := 78) (m := 105) (od_join (f := (od_chq prog_10_method_33_code oc_117)) (a := 0) (n := 76) (m := 2) oq_117_0 (by decide +kernel)) oq_117_1) (by decide +kernel)) oq_117_2) hp
set_option maxRecDepth 100000 in
theorem oz_118 : od_good (prog_10_method_34_code, oc_118) := fun pc hp => od_allI (n := 74) oq_118_0 hp
set_option maxRecDepth 100000 in
theorem oz_119 : od_good (prog_10_method_35_code, oc_119) := fun pc hp => od_allI (n := 124) (od_join (f := (od_chq prog_10_method_35_code oc_119)) (a := 0) (n := 76) (m := 48) oq_119_0 oq_119_1) hp
set_option maxRecDepth 100000 in
theorem oz_120 : od_good (prog_10_method_36_code, oc_120) := fun pc hp => od_allI (n := 158) (od_join (f := (od_chq prog_10_method_36_code oc_120)) (a := 0) (n := 144) (m := 14) (od_join (f := (od_chq prog_10_method_36_code oc_120)) (a := 0) (n := 73) (m := 71) oq_120_0 oq_120_1) oq_120_2) hp
set_option maxRecDepth 100000 in
theorem oz_121 : od_good (prog_10_method_37_code, oc_121) := fun pc hp => od_allI (n := 209) (od_join (f := (od_chq prog_10_method_37_code oc_121)) (a := 0) (n := 144) (m := 65) (od_join (f := (od_chq prog_10_method_37_code oc_121)) (a := 0) (n := 79) (m := 65) (od_join (f := (od_chq prog_10_method_37_code oc_121)) (a := 0) (n := 77) (m := 2) oq_121_0 (by decide +kernel)) oq_121_1) oq_121_2) hp
set_option maxRecDepth 100000 in
theorem oz_122 : od_good (prog_10_method_38_code, oc_122) := fun pc hp => od_allI (n := 93) (od_join (f := (od_chq prog_10_method_38_code oc_122)) (a := 0) (n := 66) (m := 27) (od_join (f := (od_chq prog_10_method_38_code oc_122)) (a := 0) (n := 64) (m := 2) oq_122_0 (by decide +kernel)) oq_122_1) hp
set_option maxRecDepth 100000 in
theorem oz_123 : od_good (prog_10_method_39_code, oc_123) := fun pc hp => od_allI (n := 98) (od_join (f := (od_chq prog_10_method_39_code oc_123)) (a := 0) (n := 75) (m := 23) oq_123_0 oq_123_1) hp
set_option maxRecDepth 100000 in
theorem oz_124 : od_good (prog_10_method_40_code, oc_124) := fun pc hp => od_allI (n := 41) oq_124_0 hp
set_option maxRecDepth 100000 in
theorem oz_125 : od_good (prog_10_method_41_code, oc_125) := fun pc hp => od_allI (n := 33) oq_125_0 hp
set_option maxRecDepth 100000 in
theorem oz_126 : od_good (prog_10_method_42_code, oc_126) := fun pc hp => od_allI (n := 36) oq_126_0 hp
set_option maxRecDepth 100000 in
theorem oz_127 : od_good (prog_10_method_43_code, oc_127) := fun pc hp => od_allI (n := 57) oq_127_0 hp
set_option maxRecDepth 100000 in
theorem oz_128 : od_good (prog_10_method_44_code, oc_128) := fun pc hp => od_allI (n := 72) (od_join (f := (od_chq prog_10_method_44_code oc_128)) (a := 0) (n := 64) (m := 8) (od_join (f := (od_chq prog_10_method_44_code oc_128)) (a := 0) (n := 62) (m := 2) oq_128_0 (by decide +kernel)) oq_128_1) hp
set_option maxRecDepth 100000 in
theorem oz_129 : od_good (prog_10_method_45_code, oc_129) := fun pc hp => od_allI (n := 194) (od_join (f := (od_chq prog_10_method_45_code oc_129)) (a := 0) (n := 137) (m := 57) (od_join (f := (od_chq prog_10_method_45_code oc_129)) (a := 0) (n := 71) (m := 66) oq_129_0 oq_129_1) oq_129_2) hp
set_option maxRecDepth 100000 in
theorem oz_130 : od_good (prog_10_method_46_code, oc_130) := fun pc hp => od_allI (n := 169) (od_join (f := (od_chq prog_10_method_46_code oc_130)) (a := 0) (n := 139) (m := 30) (od_join (f := (od_chq prog_10_method_46_code oc_130)) (a := 0) (n := 67) (m := 72) (od_join (f := (od_chq prog_10_method_46_code oc_130)) (a := 0) (n := 65) (m := 2) oq_130_0 (by decide +kernel)) oq_130_1) oq_130_2) hp
set_option maxRecDepth 100000 in
theorem oz_131 : od_good (prog_10_method_47_code, oc_131) := fun pc hp => od_allI (n := 153) (od_join (f := (od_chq prog_10_method_47_code oc_131)) (a := 0) (n := 152) (m := 1) (od_join (f := (od_chq prog_10_method_47_code oc_131)) (a := 0) (n := 151) (m := 1) (od_join (f := (od_chq prog_10_method_47_code oc_131)) (a := 0) (n := 75) (m := 76) oq_131_0 oq_131_1) (by decide +kernel)) oq_131_2) hp
set_option maxRecDepth 100000 in
theorem oz_132 : od_good (prog_10_method_48_code, oc_132) := fun pc hp => od_allI (n := 65) oq_132_0 hp
set_option maxRecDepth 100000 in
theorem oz_133 : od_good (prog_10_method_49_code, oc_133) := fun pc hp => od_allI (n := 42) oq_133_0 hp
set_option maxRecDepth 100000 in
theorem oz_134 : od_good (prog_10_method_50_code, oc_134) := fun pc hp => od_allI (n := 45) oq_134_0 hp
set_option maxRecDepth 100000 in
theorem oz_135 : od_good (prog_10_method_51_code, oc_135) := fun pc hp => od_allI (n := 45) oq_135_0 hp
set_option maxRecDepth 100000 in
theorem oz_136 : od_good (prog_10_method_52_code, oc_136) := fun pc hp => od_allI (n := 17) oq_136_0 hp
set_option maxRecDepth 100000 in
theorem oz_137 : od_good (method_3_code, oc_137) := fun pc hp => od_allI (n := 17) oq_137_0 hp
set_option maxRecDepth 100000 in
theorem oz_138 : od_good (method_4_code, oc_138) := fun pc hp => od_allI (n := 24) oq_138_0 hp
set_option maxRecDepth 100000 in
theorem oz_139 : od_good (method_5_code, oc_139) := fun pc hp => od_allI (n := 31) oq_139_0 hp
set_option maxRecDepth 100000 in
theorem oz_140 : od_good (method_6_code, oc_140) := fun pc hp => od_allI (n := 29) oq_140_0 hp
set_option maxRecDepth 100000 in
theorem oz_141 : od_good (method_7_code, oc_141) := fun pc hp => od_allI (n := 29) oq_141_0 hp
set_option maxRecDepth 100000 in
theorem oz_142 : od_good (method_8_code, oc_142) := fun pc hp => od_allI (n := 31) oq_142_0 hp
set_option maxRecDepth 100000 in
theorem oz_143 : od_good (method_9_code, oc_143) := fun pc hp => od_allI (n := 29) oq_143_0 hp
set_option maxRecDepth 100000 in
theorem oz_144 : od_good (method_10_code, oc_144) := fun pc hp => od_allI (n := 19) oq_144_0 hp
set_option maxRecDepth 100000 in
theorem oz_145 : od_good (method_11_code, oc_145) := fun pc hp => od_allI (n := 17) oq_145_0 hp
set_option maxRecDepth 100000 in
theorem oz_146 : od_good (method_12_code, oc_146) := fun pc hp => od_allI (n := 17) oq_146_0 hp
set_option maxRecDepth 100000 in
theorem oz_147 : od_good (method_13_code, oc_147) := fun pc hp => od_allI (n := 19) oq_147_0 hp
set_option maxRecDepth 100000 in
theorem oz_148 : od_good (method_14_code, oc_148) := fun pc hp => od_allI (n := 23) oq_148_0 hp
set_option maxRecDepth 100000 in
theorem oz_149 : od_good (method_15_code, oc_149) := fun pc hp => od_allI (n := 29) oq_149_0 hp
set_option maxRecDepth 100000 in
theorem oz_150 : od_good (method_16_code, oc_150) := fun pc hp => od_allI (n := 20) oq_150_0 hp
set_option maxRecDepth 100000 in
theorem oz_151 : od_good (method_17_code, oc_151) := fun pc hp => od_allI (n := 14) oq_151_0 hp
set_option maxRecDepth 100000 in
theorem oz_152 : od_good (method_18_code, oc_152) := fun pc hp => od_allI (n := 14) oq_152_0 hp
set_option maxRecDepth 100000 in
theorem oz_153 : od_good (code, oc_153) := fun pc hp => od_allI (n := 1238) (od_join (f := (od_chq code oc_153)) (a := 0) (n := 1217) (m := 21) (od_join (f := (od_chq code oc_153)) (a := 0) (n := 1215) (m := 2) (od_join (f := (od_chq code oc_153)) (a := 0) (n := 1152) (m := 63) (od_join (f := (od_chq code oc_153)) (a := 0) (n := 1094) (m := 58) (od_join (f := (od_chq code oc_153)) (a := 0) (n := 1030) (m := 64) (od_join (f := (od_chq code oc_153)) (a := 0) (n := 1028) (m := 2) (od_join (f := (od_chq code oc_153)) (a := 0) (n := 973) (m := 55) (od_join (f := (od_chq code oc_153)) (a := 0) (n := 911) (m := 62) (od_join (f := (od_chq code oc_153)) (a := 0) (n := 849) (m := 62) (od_join (f := (od_chq code oc_153)) (a := 0) (n := 787) (m := 62) (od_join (f := (od_chq code oc_153)) (a := 0) (n := 725) (m := 62) (od_join (f := (od_chq code oc_153)) (a := 0) (n := 663) (m := 62) (od_join (f := (od_chq code oc_153)) (a := 0) (n := 603) (m := 60) (od_join (f := (od_chq code oc_153)) (a := 0) (n := 543) (m := 60) (od_join (f := (od_chq code oc_153)) (a := 0) (n := 541) (m := 2) (od_join (f := (od_chq code oc_153)) (a := 0) (n := 491) (m := 50) (od_join (f := (od_chq code oc_153)) (a := 0) (n := 431) (m := 60) (od_join (f := (od_chq code oc_153)) (a := 0) (n := 371) (m := 60) (od_join (f := (od_chq code oc_153)) (a := 0) (n := 369) (m := 2) (od_join (f := (od_chq code oc_153)) (a := 0) (n := 316) (m := 53) (od_join (f := (od_chq code oc_153)) (a := 0) (n := 257) (m := 59) (od_join (f := (od_chq code oc_153)) (a := 0) (n := 202) (m := 55) (od_join (f := (od_chq code oc_153)) (a := 0) (n := 144) (m := 58) oq_153_0 oq_153_1) oq_153_2) oq_153_3) oq_153_4) (by decide +kernel)) oq_153_5) oq_153_6) oq_153_7) (by decide +kernel)) oq_153_8) oq_153_9) oq_153_10) oq_153_11) oq_153_12) oq_153_13) oq_153_14) oq_153_15) (by decide +kernel)) oq_153_16) oq_153_17) oq_153_18) (by decide +kernel)) oq_153_19) hp
set_option maxRecDepth 100000 in
theorem oz_154 : od_good (prog_16_method_69_code, oc_154) := fun pc hp => od_allI (n := 11) oq_154_0 hp
set_option maxRecDepth 100000 in
theorem oz_155 : od_good (prog_16_method_65_code, oc_155) := fun pc hp => od_allI (n := 11) oq_155_0 hp
set_option maxRecDepth 100000 in
theorem oz_156 : od_good (prog_16_method_70_code, oc_156) := fun pc hp => od_allI (n := 12) oq_156_0 hp
set_option maxRecDepth 100000 in
theorem oz_157 : od_good (prog_15_method_40_code, oc_157) := fun pc hp => od_allI (n := 20) oq_157_0 hp
set_option maxRecDepth 100000 in
theorem od_tab_ok : ∀ q ∈ od_tab, od_good q := List.forall_mem_cons.mpr ⟨oz_0, List.forall_mem_cons.mpr ⟨oz_1, List.forall_mem_cons.mpr ⟨oz_2, List.forall_mem_cons.mpr ⟨oz_3, List.forall_mem_cons.mpr ⟨oz_4, List.forall_mem_cons.mpr ⟨oz_5, List.forall_mem_cons.mpr ⟨oz_6, List.forall_mem_cons.mpr ⟨oz_7, List.forall_mem_cons.mpr ⟨oz_8, List.forall_mem_cons.mpr ⟨oz_9, List.forall_mem_cons.mpr ⟨oz_10, List.forall_mem_cons.mpr ⟨oz_11, List.forall_mem_cons.mpr ⟨oz_12, List.forall_mem_cons.mpr ⟨oz_13, List.forall_mem_cons.mpr ⟨oz_14, List.forall_mem_cons.mpr ⟨oz_15, List.forall_mem_cons.mpr ⟨oz_16, List.forall_mem_cons.mpr ⟨oz_17, List.forall_mem_cons.mpr ⟨oz_18, List.forall_mem_cons.mpr ⟨oz_19, List.forall_mem_cons.mpr ⟨oz_20, List.forall_mem_cons.mpr ⟨oz_21, List.forall_mem_cons.mpr ⟨oz_22, List.forall_mem_cons.mpr ⟨oz_23, List.forall_mem_cons.mpr ⟨oz_24, List.forall_mem_cons.mpr ⟨oz_25, List.forall_mem_cons.mpr ⟨oz_26, List.forall_mem_cons.mpr ⟨oz_27, List.forall_mem_cons.mpr ⟨oz_28, List.forall_mem_cons.mpr ⟨oz_29, List.forall_mem_cons.mpr ⟨oz_30, List.forall_mem_cons.mpr ⟨oz_31, List.forall_mem_cons.mpr ⟨oz_32, List.forall_mem_cons.mpr ⟨oz_33, List.forall_mem_cons.mpr ⟨oz_34, List.forall_mem_cons.mpr ⟨oz_35, List.forall_mem_cons.mpr ⟨oz_36, List.forall_mem_cons.mpr ⟨oz_37, List.forall_mem_cons.mpr ⟨oz_38, List.forall_mem_cons.mpr ⟨oz_39, List.forall_mem_cons.mpr ⟨oz_40, List.forall_mem_cons.mpr ⟨oz_41, List.forall_mem_cons.mpr ⟨oz_42, List.forall_mem_cons.mpr ⟨oz_43, List.forall_mem_cons.mpr ⟨oz_44, List.forall_mem_cons.mpr ⟨oz_45, List.forall_mem_cons.mpr ⟨oz_46, List.forall_mem_cons.mpr ⟨oz_47, List.forall_mem_cons.mpr ⟨oz_48, List.forall_mem_cons.mpr ⟨oz_49, List.forall_mem_cons.mpr ⟨oz_50, List.forall_mem_cons.mpr ⟨oz_51, List.forall_mem_cons.mpr ⟨oz_52, List.forall_mem_cons.mpr ⟨oz_53, List.forall_mem_cons.mpr ⟨oz_54, List.forall_mem_cons.mpr ⟨oz_55, List.forall_mem_cons.mpr ⟨oz_56, List.forall_mem_cons.mpr ⟨oz_57, List.forall_mem_cons.mpr ⟨oz_58, List.forall_mem_cons.mpr ⟨oz_59, List.forall_mem_cons.mpr ⟨oz_60, List.forall_mem_cons.mpr ⟨oz_61, List.forall_mem_cons.mpr ⟨oz_62, List.forall_mem_cons.mpr ⟨oz_63, List.forall_mem_cons.mpr ⟨oz_64, List.forall_mem_cons.mpr ⟨oz_65, List.forall_mem_cons.mpr ⟨oz_66, List.forall_mem_cons.mpr ⟨oz_67, List.forall_mem_cons.mpr ⟨oz_68, List.forall_mem_cons.mpr ⟨oz_69, List.forall_mem_cons.mpr ⟨oz_70, List.forall_mem_cons.mpr ⟨oz_71, List.forall_mem_cons.mpr ⟨oz_72, List.forall_mem_cons.mpr ⟨oz_73, List.forall_mem_cons.mpr ⟨oz_74, List.forall_mem_cons.mpr ⟨oz_75, List.forall_mem_cons.mpr ⟨oz_76, List.forall_mem_cons.mpr ⟨oz_77, List.forall_mem_cons.mpr ⟨oz_78, List.forall_mem_cons.mpr ⟨oz_79, List.forall_mem_cons.mpr ⟨oz_80, List.forall_mem_cons.mpr ⟨oz_81, List.forall_mem_cons.mpr ⟨oz_82, List.forall_mem_cons.mpr ⟨oz_83, List.forall_mem_cons.mpr ⟨oz_84, List.forall_mem_cons.mpr ⟨oz_85, List.forall_mem_cons.mpr ⟨oz_86, List.forall_mem_cons.mpr ⟨oz_87, List.forall_mem_cons.mpr ⟨oz_88, List.forall_mem_cons.mpr ⟨oz_89, List.forall_mem_cons.mpr ⟨oz_90, List.forall_mem_cons.mpr ⟨oz_91, List.forall_mem_cons.mpr ⟨oz_92, List.forall_mem_cons.mpr ⟨oz_93, List.forall_mem_cons.mpr ⟨oz_94, List.forall_mem_cons.mpr ⟨oz_95, List.forall_mem_cons.mpr ⟨oz_96, List.forall_mem_cons.mpr ⟨oz_97, List.forall_mem_cons.mpr ⟨oz_98, List.forall_mem_cons.mpr ⟨oz_99, List.forall_mem_cons.mpr ⟨oz_100, List.forall_mem_cons.mpr ⟨oz_101, List.forall_mem_cons.mpr ⟨oz_102, List.forall_mem_cons.mpr ⟨oz_103, List.forall_mem_cons.mpr ⟨oz_104, List.forall_mem_cons.mpr ⟨oz_105, List.forall_mem_cons.mpr ⟨oz_106, List.forall_mem_cons.mpr ⟨oz_107, List.forall_mem_cons.mpr ⟨oz_108, List.forall_mem_cons.mpr ⟨oz_109, List.forall_mem_cons.mpr ⟨oz_110, List.forall_mem_cons.mpr ⟨oz_111, List.forall_mem_cons.mpr ⟨oz_112, List.forall_mem_cons.mpr ⟨oz_113, List.forall_mem_cons.mpr ⟨oz_114, List.forall_mem_cons.mpr ⟨oz_115, List.forall_mem_cons.mpr ⟨oz_116, List.forall_mem_cons.mpr ⟨oz_117, List.forall_mem_cons.mpr ⟨oz_118, List.forall_mem_cons.mpr ⟨oz_119, List.forall_mem_cons.mpr ⟨oz_120, List.forall_mem_cons.mpr ⟨oz_121, List.forall_mem_cons.mpr ⟨oz_122, List.forall_mem_cons.mpr ⟨oz_123, List.forall_mem_cons.mpr ⟨oz_124, List.forall_mem_cons.mpr ⟨oz_125, List.forall_mem_cons.mpr ⟨oz_126, List.forall_mem_cons.mpr ⟨oz_127, List.forall_mem_cons.mpr ⟨oz_128, List.forall_mem_cons.mpr ⟨oz_129, List.forall_mem_cons.mpr ⟨oz_130, List.forall_mem_cons.mpr ⟨oz_131, List.forall_mem_cons.mpr ⟨oz_132, List.forall_mem_cons.mpr ⟨oz_133, List.forall_mem_cons.mpr ⟨oz_134, List.forall_mem_cons.mpr ⟨oz_135, List.forall_mem_cons.mpr ⟨oz_136, List.forall_mem_cons.mpr ⟨oz_137, List.forall_mem_cons.mpr ⟨oz_138, List.forall_mem_cons.mpr ⟨oz_139, List.forall_mem_cons.mpr ⟨oz_140, List.forall_mem_cons.mpr ⟨oz_141, List.forall_mem_cons.mpr ⟨oz_142, List.forall_mem_cons.mpr ⟨oz_143, List.forall_mem_cons.mpr ⟨oz_144, List.forall_mem_cons.mpr ⟨oz_145, List.forall_mem_cons.mpr ⟨oz_146, List.forall_mem_cons.mpr ⟨oz_147, List.forall_mem_cons.mpr ⟨oz_148, List.forall_mem_cons.mpr ⟨oz_149, List.forall_mem_cons.mpr ⟨oz_150, List.forall_mem_cons.mpr ⟨oz_151, List.forall_mem_cons.mpr ⟨oz_152, List.forall_mem_cons.mpr ⟨oz_153, List.forall_mem_cons.mpr ⟨oz_154, List.forall_mem_cons.mpr ⟨oz_155, List.forall_mem_cons.mpr ⟨oz_156, List.forall_mem_cons.mpr ⟨oz_157, fun _ h => absurd h List.not_mem_nil⟩⟩⟩⟩⟩⟩⟩⟩⟩⟩⟩⟩⟩⟩⟩⟩⟩⟩⟩⟩⟩⟩⟩⟩⟩⟩⟩⟩⟩⟩⟩⟩⟩⟩⟩⟩⟩⟩⟩⟩⟩⟩⟩⟩⟩⟩⟩⟩⟩⟩⟩⟩⟩⟩⟩⟩⟩⟩⟩⟩⟩⟩⟩⟩⟩⟩⟩⟩⟩⟩⟩⟩⟩⟩⟩⟩⟩⟩⟩⟩⟩⟩⟩⟩⟩⟩⟩⟩⟩⟩⟩⟩⟩⟩⟩⟩⟩⟩⟩⟩⟩⟩⟩⟩⟩⟩⟩⟩⟩⟩⟩⟩⟩⟩⟩⟩⟩⟩⟩⟩⟩⟩⟩⟩⟩⟩⟩⟩⟩⟩⟩⟩⟩⟩⟩⟩⟩⟩⟩⟩⟩⟩⟩⟩⟩⟩⟩⟩⟩⟩⟩⟩⟩⟩⟩⟩⟩⟩
end
section
/-! A small machine of its own over the decoded bytecode: memory by addresses, one step an instruction, a run by fuel and depth. What it does, the real machine does (part 05). -/
/-- what a cell holds: ints, longs, references, an object (number of its class, fields), the law's script (only read) -/
abbrev od_E : Type := (Nat × (Nat → Int32)) ⊕ (Nat × (Nat → Int64)) ⊕ (Nat × (Nat → Option Nat)) ⊕ (Nat × List Value) ⊕ (Nat × (Nat → Int32))
abbrev od_ia (n : Nat) (f : Nat → Int32) : od_E := .inl (n, f)
abbrev od_la (n : Nat) (f : Nat → Int64) : od_E := .inr (.inl (n, f))
abbrev od_ra (n : Nat) (f : Nat → Option Nat) : od_E := .inr (.inr (.inl (n, f)))
abbrev od_ob (c : Nat) (fs : List Value) : od_E := .inr (.inr (.inr (.inl (c, fs))))
abbrev od_sc (n : Nat) (f : Nat → Int32) : od_E := .inr (.inr (.inr (.inr (n, f))))
/-- a memory: the next address, the slots that were made, the cells -/
abbrev od_M : Type := Nat × Nat × (Nat → Option od_E)
def od_set (M : od_M) (a : Nat) (e : od_E) : od_M := (M.1, M.2.1, va_up M.2.2 a (some e))
def od_add (M : od_M) (n : Nat) (e : od_E) : od_M := (M.1 + 1, M.2.1 + n, va_up M.2.2 M.1 (some e))
/-- an end: a value or none is given back; or an exception of a kind (0 index, 1 argument, 2 state) at an address -/
abbrev od_O : Type := Option Value ⊕ (Nat × Nat)
abbrev od_L : Type := List (Option Value)
/-- what a step leads to: on in the method; a call (callee, arguments, the rest of the stack); the method's end -/
abbrev od_R : Type := Option ((Nat × od_L × List Value × od_M) ⊕ (Nat × List Value × List Value) ⊕ (od_O × od_M))
def od_go (pc : Nat) (ls : od_L) (st : List Value) (M : od_M) : od_R := some (.inl (pc, ls, st, M))
def od_fin (o : od_O) (M : od_M) : od_R := some (.inr (.inr (o, M)))
def od_br (pc : Nat) (off : Int) (ls : od_L) (st : List Value) (M : od_M) : od_R := if 0 ≤ (pc : Int) + off then od_go ((pc : Int) + off).toNat ls st M else none
/-- a local by its place -/
def od_lo (ls : od_L) (j : Nat) : Option Value := (ls[j]?).getD none
/-- a store at i spoils a long that begins one below -/
def od_c2 (ls : od_L) (i : Nat) : od_L := match i with
  | 0 => ls
  | j + 1 => match od_lo ls j with
    | some v => if v.category = 2 then ls.set j none else ls
    | none => ls
def od_s1 (ls : od_L) (i : Nat) (v : Value) : od_L := (od_c2 ls i).set i (some v)
def od_s2 (ls : od_L) (i : Nat) (v : Value) : od_L := ((od_c2 ls i).set (i + 1) none).set i (some v)
def od_ild (pc n : Nat) (j : Nat) (ls : od_L) (st : List Value) (M : od_M) : od_R := match od_lo ls j with
  | some (.int x) => od_go (pc + n) ls (.int x :: st) M
  | _ => none
def od_lld (pc n : Nat) (j : Nat) (ls : od_L) (st : List Value) (M : od_M) : od_R := match od_lo ls j with
  | some (.long x) => od_go (pc + n) ls (.long x :: st) M
  | _ => none
def od_ald (pc n : Nat) (j : Nat) (ls : od_L) (st : List Value) (M : od_M) : od_R := match od_lo ls j with
  | some (.ref x) => od_go (pc + n) ls (.ref x :: st) M
  | _ => none
def od_ist (pc n : Nat) (j : Nat) (ls : od_L) (st : List Value) (M : od_M) : od_R := match st with
  | .int x :: r => if j < ls.length then od_go (pc + n) (od_s1 ls j (.int x)) r M else none
  | _ => none
def od_lst (pc n : Nat) (j : Nat) (ls : od_L) (st : List Value) (M : od_M) : od_R := match st with
  | .long x :: r => if j + 1 < ls.length then od_go (pc + n) (od_s2 ls j (.long x)) r M else none
  | _ => none
def od_ast (pc n : Nat) (j : Nat) (ls : od_L) (st : List Value) (M : od_M) : od_R := match st with
  | .ref x :: r => if j < ls.length then od_go (pc + n) (od_s1 ls j (.ref x)) r M else none
  | _ => none
def od_iinc (pc : Nat) (j : Nat) (d : Int) (ls : od_L) (st : List Value) (M : od_M) : od_R := match od_lo ls j with
  | some (.int x) => if j < ls.length then od_go (pc + 3) (od_s1 ls j (.int (x + Int32.ofInt d))) st M else none
  | _ => none
def od_i2 (pc : Nat) (f : Int32 → Int32 → Option Int32) (ls : od_L) (st : List Value) (M : od_M) : od_R := match st with
  | .int y :: .int x :: r => match f x y with
    | some z => od_go (pc + 1) ls (.int z :: r) M
    | none => none
  | _ => none
def od_l2 (pc : Nat) (f : Int64 → Int64 → Option Int64) (ls : od_L) (st : List Value) (M : od_M) : od_R := match st with
  | .long y :: .long x :: r => match f x y with
    | some z => od_go (pc + 1) ls (.long z :: r) M
    | none => none
  | _ => none
def od_cond (c : ClassFile.Cond) (x y : Int32) : Bool := match c with
  | .eq => decide (x = y)
  | .ne => !decide (x = y)
  | .lt => decide (x < y)
  | .ge => decide (y ≤ x)
  | .gt => decide (y < x)
  | .le => decide (x ≤ y)
def od_if1 (pc : Nat) (c : ClassFile.Cond) (off : Int) (ls : od_L) (st : List Value) (M : od_M) : od_R := match st with
  | .int x :: r => if 0 ≤ (pc : Int) + off then (if od_cond c x 0 = true then od_go ((pc : Int) + off).toNat ls r M else od_go (pc + 3) ls r M) else none
  | _ => none
def od_if2 (pc : Nat) (c : ClassFile.Cond) (off : Int) (ls : od_L) (st : List Value) (M : od_M) : od_R := match st with
  | .int y :: .int x :: r => if 0 ≤ (pc : Int) + off then (if od_cond c x y = true then od_go ((pc : Int) + off).toNat ls r M else od_go (pc + 3) ls r M) else none
  | _ => none
def od_sw (pc : Nat) (dflt lo hi : Int) (offs : Array Int) (ls : od_L) (st : List Value) (M : od_M) : od_R := match st with
  | .int x :: r => if x.toInt < lo ∨ hi < x.toInt then od_br pc dflt ls r M else match offs[(x.toInt - lo).toNat]? with
    | some off => od_br pc off ls r M
    | none => none
  | _ => none
def od_dup (pc : Nat) (ls : od_L) (st : List Value) (M : od_M) : od_R := match st with
  | v :: r => if v.category = 1 then od_go (pc + 1) ls (v :: v :: r) M else none
  | _ => none
def od_dup2 (pc : Nat) (ls : od_L) (st : List Value) (M : od_M) : od_R := match st with
  | v :: w :: r => if v.category = 1 ∧ w.category = 1 then od_go (pc + 1) ls (v :: w :: v :: w :: r) M else none
  | _ => none
def od_pop (pc : Nat) (ls : od_L) (st : List Value) (M : od_M) : od_R := match st with
  | v :: r => if v.category = 1 then od_go (pc + 1) ls r M else none
  | _ => none
def od_i2l (pc : Nat) (ls : od_L) (st : List Value) (M : od_M) : od_R := match st with
  | .int x :: r => od_go (pc + 1) ls (.long x.toInt64 :: r) M
  | _ => none
def od_l2i (pc : Nat) (ls : od_L) (st : List Value) (M : od_M) : od_R := match st with
  | .long x :: r => od_go (pc + 1) ls (.int x.toInt32 :: r) M
  | _ => none
def od_lcmp (pc : Nat) (ls : od_L) (st : List Value) (M : od_M) : od_R := match st with
  | .long y :: .long x :: r => od_go (pc + 1) ls (.int (lg_cmp x y) :: r) M
  | _ => none
/-- the place i of an array of n -/
def od_ix (i : Int32) (n : Nat) : Bool := decide (0 ≤ i) && decide (i.toNatClampNeg < n)
def od_iald (pc : Nat) (ls : od_L) (st : List Value) (M : od_M) : od_R := match st with
  | .int i :: .ref a :: r => match M.2.2 a with
    | some (.inl (n, f)) => if od_ix i n = true then od_go (pc + 1) ls (.int (f i.toNatClampNeg) :: r) M else none
    | some (.inr (.inr (.inr (.inr (n, f))))) => if od_ix i n = true then od_go (pc + 1) ls (.int (f i.toNatClampNeg) :: r) M else none
    | _ => none
  | _ => none
def od_lald (pc : Nat) (ls : od_L) (st : List Value) (M : od_M) : od_R := match st with
  | .int i :: .ref a :: r => match M.2.2 a with
    | some (.inr (.inl (n, f))) => if od_ix i n = true then od_go (pc + 1) ls (.long (f i.toNatClampNeg) :: r) M else none
    | _ => none
  | _ => none
def od_aald (pc : Nat) (ls : od_L) (st : List Value) (M : od_M) : od_R := match st with
  | .int i :: .ref a :: r => match M.2.2 a with
    | some (.inr (.inr (.inl (n, f)))) => if od_ix i n = true then od_go (pc + 1) ls (va_rf (f i.toNatClampNeg) :: r) M else none
    | _ => none
  | _ => none
def od_alen (pc : Nat) (ls : od_L) (st : List Value) (M : od_M) : od_R := match st with
  | .ref a :: r => match M.2.2 a with
    | some (.inl (n, _)) => od_go (pc + 1) ls (.int (Int32.ofNat n) :: r) M
    | some (.inr (.inr (.inr (.inr (n, _))))) => od_go (pc + 1) ls (.int (Int32.ofNat n) :: r) M
    | _ => none
  | _ => none
def od_iast (pc : Nat) (ls : od_L) (st : List Value) (M : od_M) : od_R := match st with
  | .int x :: .int i :: .ref a :: r => match M.2.2 a with
    | some (.inl (n, f)) => if od_ix i n = true then od_go (pc + 1) ls r (od_set M a (od_ia n (upd f i.toNatClampNeg x))) else none
    | _ => none
  | _ => none
def od_last (pc : Nat) (ls : od_L) (st : List Value) (M : od_M) : od_R := match st with
  | .long x :: .int i :: .ref a :: r => match M.2.2 a with
    | some (.inr (.inl (n, f))) => if od_ix i n = true then od_go (pc + 1) ls r (od_set M a (od_la n (vp_updL f i.toNatClampNeg x))) else none
    | _ => none
  | _ => none
/-- a Row (class 0 of the worlds' classes) into an array of Rows -/
def od_aast (pc : Nat) (ls : od_L) (st : List Value) (M : od_M) : od_R := match st with
  | .ref v :: .int i :: .ref a :: r => match M.2.2 a, M.2.2 v with
    | some (.inr (.inr (.inl (n, f)))), some (.inr (.inr (.inr (.inl (c, _))))) => if od_ix i n = true ∧ c = od_row then od_go (pc + 1) ls r (od_set M a (od_ra n (va_up f i.toNatClampNeg (some v)))) else none
    | _, _ => none
  | _ => none
def od_get (own pc ix : Nat) (ls : od_L) (st : List Value) (M : od_M) : od_R := match st with
  | .ref a :: r => match M.2.2 a, od_fd own ix with
    | some (.inr (.inr (.inr (.inl (c, fs))))), some (c', k, _) => if c = c' then match fs[k]? with
        | some v => od_go (pc + 3) ls (v :: r) M
        | none => none
      else none
    | _, _ => none
  | _ => none
/-- a value that a field of this type code takes: 0 int, 1 boolean, 2 a reference, 3 a final reference, 4 a final int -/
def od_tk (t : Nat) (v : Value) : Bool := match v with
  | .int x => t == 0 || (t == 1 && (x == 0 || x == 1))
  | .ref _ => t == 2 || t == 3
  | _ => false
def od_put (own pc ix : Nat) (ini : Bool) (ls : od_L) (st : List Value) (M : od_M) : od_R := match st with
  | v :: .ref a :: r => match M.2.2 a, od_fd own ix with
    | some (.inr (.inr (.inr (.inl (c, fs))))), some (c', k, t) => if c = c' ∧ k < fs.length ∧ od_tk t v = true ∧ (t = 3 → ini = true) then od_go (pc + 3) ls r (od_set M a (od_ob c (fs.set k v))) else none
    | _, _ => none
  | _ => none
def od_new (k own pc ix : Nat) (ls : od_L) (st : List Value) (M : od_M) : od_R := match od_nw own ix with
  | some (c, fs) => od_go (pc + 3) ls (.ref M.1 :: st) (od_add M fs.length (od_ob c fs))
  | none => match od_xn k pc with
    | some x => match st with
      | [] => od_fin (.inr (x, M.1)) (od_add M 6 (od_ob (od_xc x) []))
      | _ :: _ => none
    | none => none
def od_newa (pc : Nat) (t : ClassFile.ArrayType) (ls : od_L) (st : List Value) (M : od_M) : od_R := match st with
  | .int n :: r => if 0 ≤ n ∧ n.toNatClampNeg ≤ 100000 then match t with
      | .int => od_go (pc + 2) ls (.ref M.1 :: r) (od_add M n.toNatClampNeg (od_ia n.toNatClampNeg (fun _ => 0)))
      | .long => od_go (pc + 2) ls (.ref M.1 :: r) (od_add M n.toNatClampNeg (od_la n.toNatClampNeg (fun _ => 0)))
      | _ => none
    else none
  | _ => none
def od_anew (own pc ix : Nat) (ls : od_L) (st : List Value) (M : od_M) : od_R := match st with
  | .int n :: r => if 0 ≤ n ∧ n.toNatClampNeg ≤ 100000 ∧ od_an own ix = true then od_go (pc + 3) ls (.ref M.1 :: r) (od_add M n.toNatClampNeg (od_ra n.toNatClampNeg (fun _ => none))) else none
  | _ => none
/-- System.arraycopy between two arrays of ints -/
def od_cpy (pc : Nat) (ls : od_L) (st : List Value) (M : od_M) : od_R := match st with
  | .int n :: .int dp :: .ref a :: .int sp :: .ref b :: r => match M.2.2 b, M.2.2 a with
    | some (.inl (nb, f)), some (.inl (na, g)) => if 0 ≤ n ∧ 0 ≤ dp ∧ 0 ≤ sp ∧ sp.toNatClampNeg + n.toNatClampNeg ≤ nb ∧ dp.toNatClampNeg + n.toNatClampNeg ≤ na ∧ (r.map fun v => v.category).sum ≤ 30 then
        od_go (pc + 3) ls r (od_set M a (od_ia na (va_cpy f g sp.toNatClampNeg dp.toNatClampNeg n.toNatClampNeg)))
      else none
    | _, _ => none
  | _ => none
/-- arguments as locals -/
def od_fl : List Value → od_L
  | [] => []
  | v :: r => if v.category = 2 then some v :: none :: od_fl r else some v :: od_fl r
/-- the receiver: an object of the callee's class (virtual), or an object (a constructor) -/
def od_rcv (kd j : Nat) (as : List Value) (M : od_M) : Bool := match as with
  | .ref b :: _ => match M.2.2 b with
    | some (.inr (.inr (.inr (.inl (c, _))))) => decide (kd = 2) || decide (c = od_oc j)
    | _ => false
  | _ => false
/-- an invoke: kind kd (0 virtual, 1 static, 2 special) as the table has it; 7: arraycopy; 8: Object's constructor -/
def od_inv (own kd pc ix : Nat) (ls : od_L) (st : List Value) (M : od_M) : od_R := match od_md own ix with
  | some (j, kd', n) => if kd' = 7 then (if kd = 1 then od_cpy pc ls st M else none)
      else if kd' = 8 then (if kd = 2 then match st with
        | .ref _ :: r => if (r.map fun v => v.category).sum ≤ 30 then od_go (pc + 3) ls r M else none
        | _ => none else none)
      else if kd = kd' ∧ n ≤ st.length ∧ ((st.drop n).map fun v => v.category).sum ≤ 30 ∧ (kd = 1 ∨ od_rcv kd j ((st.take n).reverse) M = true) ∧ (od_fl ((st.take n).reverse)).length ≤ od_nl j then some (.inr (.inl (j, (st.take n).reverse, st.drop n))) else none
  | none => none
def od_rv (k : Nat) (st : List Value) (M : od_M) : od_R := match st, od_rf k with
  | [], none => od_fin (.inl none) M
  | _, _ => none
def od_ri (k : Nat) (st : List Value) (M : od_M) : od_R := match st, od_rf k with
  | [.int x], some .int => od_fin (.inl (some (.int x))) M
  | [.int x], some .boolean => if x = 0 ∨ x = 1 then od_fin (.inl (some (.int x))) M else none
  | _, _ => none
def od_rl (k : Nat) (st : List Value) (M : od_M) : od_R := match st, od_rf k with
  | [.long x], some .long => od_fin (.inl (some (.long x))) M
  | _, _ => none
def od_rr (k : Nat) (st : List Value) (M : od_M) : od_R := match st, od_rf k with
  | [.ref x], some (.object _) => od_fin (.inl (some (.ref x))) M
  | _, _ => none
def od_ins (k pc n : Nat) (i : ClassFile.Instr) (ls : od_L) (st : List Value) (M : od_M) : od_R := match i with
  | .iconst v => if n = 1 then od_go (pc + 1) ls (.int (Int32.ofInt v) :: st) M else none
  | .bipush v => if n = 2 then od_go (pc + 2) ls (.int (Int8.ofInt v).toInt32 :: st) M else none
  | .sipush v => if n = 3 then od_go (pc + 3) ls (.int (Int16.ofInt v).toInt32 :: st) M else none
  | .lconst v => if n = 1 then od_go (pc + 1) ls (.long (Int64.ofNat v) :: st) M else none
  | .ldc ix => if n = 2 then match od_ki (od_ow k) ix with
      | some v => od_go (pc + 2) ls (.int v :: st) M
      | none => none
    else none
  | .ldc2_w ix => if n = 3 then match od_kl (od_ow k) ix with
      | some v => od_go (pc + 3) ls (.long v :: st) M
      | none => none
    else none
  | .iload j => if n = 2 then od_ild pc n j ls st M else none
  | .iload_n j => if n = 1 then od_ild pc n j ls st M else none
  | .lload j => if n = 2 then od_lld pc n j ls st M else none
  | .lload_n j => if n = 1 then od_lld pc n j ls st M else none
  | .aload j => if n = 2 then od_ald pc n j ls st M else none
  | .aload_n j => if n = 1 then od_ald pc n j ls st M else none
  | .istore j => if n = 2 then od_ist pc n j ls st M else none
  | .istore_n j => if n = 1 then od_ist pc n j ls st M else none
  | .lstore j => if n = 2 then od_lst pc n j ls st M else none
  | .lstore_n j => if n = 1 then od_lst pc n j ls st M else none
  | .astore j => if n = 2 then od_ast pc n j ls st M else none
  | .astore_n j => if n = 1 then od_ast pc n j ls st M else none
  | .iinc j d => if n = 3 then od_iinc pc j d ls st M else none
  | .iadd => if n = 1 then od_i2 pc (fun x y => some (x + y)) ls st M else none
  | .isub => if n = 1 then od_i2 pc (fun x y => some (x - y)) ls st M else none
  | .imul => if n = 1 then od_i2 pc (fun x y => some (x * y)) ls st M else none
  | .iand => if n = 1 then od_i2 pc (fun x y => some (x &&& y)) ls st M else none
  | .idiv => if n = 1 then od_i2 pc (fun x y => if y = 0 then none else some (x / y)) ls st M else none
  | .irem => if n = 1 then od_i2 pc (fun x y => if y = 0 then none else some (x - x / y * y)) ls st M else none
  | .ladd => if n = 1 then od_l2 pc (fun x y => some (x + y)) ls st M else none
  | .lsub => if n = 1 then od_l2 pc (fun x y => some (x - y)) ls st M else none
  | .lmul => if n = 1 then od_l2 pc (fun x y => some (x * y)) ls st M else none
  | .ldiv => if n = 1 then od_l2 pc (fun x y => if y = 0 then none else some (x / y)) ls st M else none
  | .lrem => if n = 1 then od_l2 pc (fun x y => if y = 0 then none else some (x - x / y * y)) ls st M else none
  | .lcmp => if n = 1 then od_lcmp pc ls st M else none
  | .i2l => if n = 1 then od_i2l pc ls st M else none
  | .l2i => if n = 1 then od_l2i pc ls st M else none
  | .dup => if n = 1 then od_dup pc ls st M else none
  | .dup2 => if n = 1 then od_dup2 pc ls st M else none
  | .pop => if n = 1 then od_pop pc ls st M else none
  | .ifCond c off => if n = 3 then od_if1 pc c off ls st M else none
  | .if_icmp c off => if n = 3 then od_if2 pc c off ls st M else none
  | .goto off => if n = 3 then od_br pc off ls st M else none
  | .tableswitch dflt lo hi offs => od_sw pc dflt lo hi offs ls st M
  | .iaload => if n = 1 then od_iald pc ls st M else none
  | .laload => if n = 1 then od_lald pc ls st M else none
  | .aaload => if n = 1 then od_aald pc ls st M else none
  | .iastore => if n = 1 then od_iast pc ls st M else none
  | .lastore => if n = 1 then od_last pc ls st M else none
  | .aastore => if n = 1 then od_aast pc ls st M else none
  | .arraylength => if n = 1 then od_alen pc ls st M else none
  | .getfield ix => if n = 3 then od_get (od_ow k) pc ix ls st M else none
  | .putfield ix => if n = 3 then od_put (od_ow k) pc ix (od_in k) ls st M else none
  | .new ix => if n = 3 then od_new k (od_ow k) pc ix ls st M else none
  | .newarray t => if n = 2 then od_newa pc t ls st M else none
  | .anewarray ix => if n = 3 then od_anew (od_ow k) pc ix ls st M else none
  | .invokevirtual ix => if n = 3 then od_inv (od_ow k) 0 pc ix ls st M else none
  | .invokestatic ix => if n = 3 then od_inv (od_ow k) 1 pc ix ls st M else none
  | .invokespecial ix => if n = 3 then od_inv (od_ow k) 2 pc ix ls st M else none
  | .return_ => if n = 1 then od_rv k st M else none
  | .ireturn => if n = 1 then od_ri k st M else none
  | .lreturn => if n = 1 then od_rl k st M else none
  | .areturn => if n = 1 then od_rr k st M else none
  | _ => none
def od_step (k pc : Nat) (ls : od_L) (st : List Value) (M : od_M) : od_R := match od_cd k pc with
  | some (i, n) => od_ins k pc n i ls st M
  | none => none
/-- the locals at a method's entry -/
def od_ent (k : Nat) (as : List Value) : od_L := od_fl as ++ List.replicate (od_nl k - (od_fl as).length) none
/-- a method's handlers: from, to, handler, kind of exception -/
def od_hd (k : Nat) : List (Nat × Nat × Nat × Nat) := (od_ht k).map fun h => (h.1, h.2.1, h.2.2.1, od_hx (od_ow k) h.2.2.2)
/-- the handler of the call at pc for an exception of the kind x -/
def od_hn (k pc x : Nat) : Option (Option Nat) := if (od_hd k).all (fun h => !(decide (h.1 ≤ pc) && decide (pc < h.2.1))) = true then some none else
  match (od_hd k).find? (fun h => decide (h.1 ≤ pc) && decide (pc < h.2.1) && decide (h.2.2.2 = x)) with
  | some h => some (some h.2.2.1)
  | none => none
/-- a run: fuel, depth left for calls, method, place, locals, stack, memory -/
def od_ev : Nat → Nat → Nat → Nat → od_L → List Value → od_M → Option (od_O × od_M)
  | 0, _, _, _, _, _, _ => none
  | n + 1, d, k, pc, ls, st, M => match od_step k pc ls st M with
    | none => none
    | some (.inl q) => od_ev n d k q.1 q.2.1 q.2.2.1 q.2.2.2
    | some (.inr (.inr q)) => some q
    | some (.inr (.inl q)) => match d with
      | 0 => none
      | d' + 1 => match od_ev n d' q.1 0 (od_ent q.1 q.2.1) [] M with
        | none => none
        | some (.inl r, M1) => od_ev n (d' + 1) k (pc + 3) ls (r.toList ++ q.2.2) M1
        | some (.inr xa, M1) => match od_hn k pc xa.1 with
          | some (some h) => od_ev n (d' + 1) k h ls [.ref xa.2] M1
          | some none => some (.inr xa, M1)
          | none => none
theorem od_hn_out {k pc x : Nat} (h : od_hn k pc x = some none) : ∀ q ∈ od_ht k, (decide (q.1 ≤ pc) && decide (pc < q.2.1)) = false := by
  unfold od_hn at h
  split at h
  · rename_i ha
    intro q hq
    rw [List.all_eq_true] at ha
    have h2 := ha _ (List.mem_map.mpr ⟨q, hq, rfl⟩)
    dsimp only at h2
    cases h3 : (decide (q.1 ≤ pc) && decide (pc < q.2.1)) with
    | false => rfl
    | true => rw [h3] at h2; cases h2
  · split at h <;> cases h
end
section
/-! Runs of the small machine: more fuel and more depth change nothing; rules that lead a run on. -/
theorem od_ev_s (n d k pc : Nat) (ls : od_L) (st : List Value) (M : od_M) : od_ev (n + 1) d k pc ls st M = match od_step k pc ls st M with
    | none => none
    | some (.inl q) => od_ev n d k q.1 q.2.1 q.2.2.1 q.2.2.2
    | some (.inr (.inr q)) => some q
    | some (.inr (.inl q)) => match d with
      | 0 => none
      | d' + 1 => match od_ev n d' q.1 0 (od_ent q.1 q.2.1) [] M with
        | none => none
        | some (.inl r, M1) => od_ev n (d' + 1) k (pc + 3) ls (r.toList ++ q.2.2) M1
        | some (.inr xa, M1) => match od_hn k pc xa.1 with
          | some (some h) => od_ev n (d' + 1) k h ls [.ref xa.2] M1
          | some none => some (.inr xa, M1)
          | none => none := by rw [od_ev]; rfl
theorem od_fuel1 : ∀ (n d k pc : Nat) (ls : od_L) (st : List Value) (M : od_M) (r : od_O × od_M), od_ev n d k pc ls st M = some r → od_ev (n + 1) d k pc ls st M = some r := by
  intro n
  induction n with
  | zero => intro d k pc ls st M r h; rw [od_ev] at h; cases h
  | succ n ih =>
    intro d k pc ls st M r h
    rw [od_ev_s] at h ⊢
    rcases hs : od_step k pc ls st M with _ | q | q | q
    · rw [hs] at h; cases h
    · rw [hs] at h
      exact ih _ _ _ _ _ _ _ h
    · rw [hs] at h
      cases d with
      | zero => cases h
      | succ d' =>
        dsimp only at h ⊢
        rcases hc : od_ev n d' q.1 0 (od_ent q.1 q.2.1) [] M with _ | ⟨v | xa, M1⟩
        · rw [hc] at h; cases h
        · rw [hc] at h; rw [ih _ _ _ _ _ _ _ hc]
          exact ih _ _ _ _ _ _ _ h
        · rw [hc] at h; rw [ih _ _ _ _ _ _ _ hc]
          dsimp only at h ⊢
          rcases hh : od_hn k pc xa.1 with _ | _ | p
          · rw [hh] at h; cases h
          · rw [hh] at h; exact h
          · rw [hh] at h
            exact ih _ _ _ _ _ _ _ h
    · rw [hs] at h
      exact h
theorem od_fuel {n n' d k pc : Nat} {ls : od_L} {st : List Value} {M : od_M} {r : od_O × od_M} (hn : n ≤ n') (h : od_ev n d k pc ls st M = some r) : od_ev n' d k pc ls st M = some r := by
  obtain ⟨j, rfl⟩ := Nat.le.dest hn
  clear hn
  induction j with
  | zero => exact h
  | succ j ih => exact od_fuel1 _ _ _ _ _ _ _ _ ih
theorem od_deep1 : ∀ (n d k pc : Nat) (ls : od_L) (st : List Value) (M : od_M) (r : od_O × od_M), od_ev n d k pc ls st M = some r → od_ev n (d + 1) k pc ls st M = some r := by
  intro n
  induction n with
  | zero => intro d k pc ls st M r h; rw [od_ev] at h; cases h
  | succ n ih =>
    intro d k pc ls st M r h
    rw [od_ev_s] at h ⊢
    rcases hs : od_step k pc ls st M with _ | q | q | q
    · rw [hs] at h; cases h
    · rw [hs] at h
      exact ih _ _ _ _ _ _ _ h
    · rw [hs] at h
      cases d with
      | zero => cases h
      | succ d' =>
        dsimp only at h ⊢
        rcases hc : od_ev n d' q.1 0 (od_ent q.1 q.2.1) [] M with _ | ⟨v | xa, M1⟩
        · rw [hc] at h; cases h
        · rw [hc] at h; rw [ih _ _ _ _ _ _ _ hc]
          exact ih _ _ _ _ _ _ _ h
        · rw [hc] at h; rw [ih _ _ _ _ _ _ _ hc]
          dsimp only at h ⊢
          rcases hh : od_hn k pc xa.1 with _ | _ | p
          · rw [hh] at h; cases h
          · rw [hh] at h; exact h
          · rw [hh] at h
            exact ih _ _ _ _ _ _ _ h
    · rw [hs] at h
      exact h
theorem od_deep {n d d' k pc : Nat} {ls : od_L} {st : List Value} {M : od_M} {r : od_O × od_M} (hd : d ≤ d') (h : od_ev n d k pc ls st M = some r) : od_ev n d' k pc ls st M = some r := by
  obtain ⟨j, rfl⟩ := Nat.le.dest hd
  clear hd
  induction j with
  | zero => exact h
  | succ j ih => exact od_deep1 _ _ _ _ _ _ _ _ ih
/-- from here the run ends, with Q -/
def od_W (d k pc : Nat) (ls : od_L) (st : List Value) (M : od_M) (Q : od_O → od_M → Prop) : Prop := ∃ (n : Nat) (o : od_O) (M' : od_M), od_ev n d k pc ls st M = some (o, M') ∧ Q o M'
theorem od_W.mono {d k pc : Nat} {ls : od_L} {st : List Value} {M : od_M} {Q Q' : od_O → od_M → Prop} (h : od_W d k pc ls st M Q) (hq : ∀ o M', Q o M' → Q' o M') : od_W d k pc ls st M Q' := by
  obtain ⟨n, o, M', h1, h2⟩ := h
  exact ⟨n, o, M', h1, hq o M' h2⟩
theorem od_W.deep {d d' k pc : Nat} {ls : od_L} {st : List Value} {M : od_M} {Q : od_O → od_M → Prop} (h : od_W d k pc ls st M Q) (hd : d ≤ d') : od_W d' k pc ls st M Q := by
  obtain ⟨n, o, M', h1, h2⟩ := h
  exact ⟨n, o, M', od_deep hd h1, h2⟩
theorem od_W.go {d k pc : Nat} {ls : od_L} {st : List Value} {M : od_M} {Q : od_O → od_M → Prop} {pc' : Nat} {ls' : od_L} {st' : List Value} {M' : od_M} (hs : od_step k pc ls st M = some (.inl (pc', ls', st', M'))) (h : od_W d k pc' ls' st' M' Q) : od_W d k pc ls st M Q := by
  obtain ⟨n, o, M2, h1, h2⟩ := h
  refine ⟨n + 1, o, M2, ?_, h2⟩
  rw [od_ev_s, hs]
  exact h1
theorem od_W.fin {d k pc : Nat} {ls : od_L} {st : List Value} {M : od_M} {Q : od_O → od_M → Prop} {o : od_O} {M' : od_M} (hs : od_step k pc ls st M = some (.inr (.inr (o, M')))) (h : Q o M') : od_W d k pc ls st M Q := by
  refine ⟨1, o, M', ?_, h⟩
  rw [od_ev_s, hs]
/-- what follows a call: the value onto the stack; or an exception: to its handler, or out -/
def od_K (d k pc : Nat) (ls : od_L) (rest : List Value) (Q : od_O → od_M → Prop) (o : od_O) (M : od_M) : Prop := match o with
  | .inl v => od_W d k (pc + 3) ls (v.toList ++ rest) M Q
  | .inr xa => match od_hn k pc xa.1 with
    | some (some h) => od_W d k h ls [.ref xa.2] M Q
    | some none => Q (.inr xa) M
    | none => False
theorem od_W.call {d d' k pc : Nat} {ls : od_L} {st : List Value} {M : od_M} {Q Q1 : od_O → od_M → Prop} {j : Nat} {as rest : List Value} (hs : od_step k pc ls st M = some (.inr (.inl (j, as, rest)))) (hc : od_W d' j 0 (od_ent j as) [] M Q1) (hd : d' ≤ d) (h : ∀ o M1, Q1 o M1 → od_K (d + 1) k pc ls rest Q o M1) : od_W (d + 1) k pc ls st M Q := by
  obtain ⟨n, o, M1, h1, h2⟩ := hc.deep hd
  have h3 := h o M1 h2
  cases o with
  | inl v =>
    obtain ⟨n2, o2, M2, h4, h5⟩ := h3
    refine ⟨max n n2 + 1, o2, M2, ?_, h5⟩
    rw [od_ev_s, hs]
    dsimp only
    rw [od_fuel (Nat.le_max_left n n2) h1]
    exact od_fuel (Nat.le_max_right n n2) h4
  | inr xa =>
    unfold od_K at h3
    dsimp only at h3
    rcases hh : od_hn k pc xa.1 with _ | _ | hp
    · rw [hh] at h3
      exact h3.elim
    · rw [hh] at h3
      refine ⟨n + 1, .inr xa, M1, ?_, h3⟩
      rw [od_ev_s, hs]
      dsimp only
      rw [h1]
      dsimp only
      rw [hh]
    · rw [hh] at h3
      obtain ⟨n2, o2, M2, h4, h5⟩ := h3
      refine ⟨max n n2 + 1, o2, M2, ?_, h5⟩
      rw [od_ev_s, hs]
      dsimp only
      rw [od_fuel (Nat.le_max_left n n2) h1]
      dsimp only
      rw [hh]
      exact od_fuel (Nat.le_max_right n n2) h4
/-- several steps within the method -/
def od_run : Nat → Nat → Nat × od_L × List Value × od_M → Option (Nat × od_L × List Value × od_M)
  | 0, _, q => some q
  | n + 1, k, q => match od_step k q.1 q.2.1 q.2.2.1 q.2.2.2 with
    | some (.inl q') => od_run n k q'
    | _ => none
theorem od_W.run {d k : Nat} {Q : od_O → od_M → Prop} : ∀ (n : Nat) {pc : Nat} {ls : od_L} {st : List Value} {M : od_M} {pc' : Nat} {ls' : od_L} {st' : List Value} {M' : od_M}, od_run n k (pc, ls, st, M) = some (pc', ls', st', M') → od_W d k pc' ls' st' M' Q → od_W d k pc ls st M Q := by
  intro n
  induction n with
  | zero =>
    intro pc ls st M pc' ls' st' M' h hk
    rw [od_run] at h
    cases h
    exact hk
  | succ n ih =>
    intro pc ls st M pc' ls' st' M' h hk
    rw [od_run] at h
    dsimp only at h
    rcases hs : od_step k pc ls st M with _ | ⟨a, b, c, e⟩ | q | q
    · rw [hs] at h; cases h
    · rw [hs] at h
      exact od_W.go hs (ih h hk)
    · rw [hs] at h; cases h
    · rw [hs] at h; cases h
end
section
/-! Calls whose callee may throw: a contract with both ends, the invokes one by one up to the callee's first step, the callee run by its contract. -/
/-- a contract whose method may end in an exception too -/
def mx_M (l : Launch) (y : MethodName) (ws : List Cond) (rm : Room) (Pc : Array Value → State → Prop) (Qc : Array Value → State → Outcome → State → Prop) (mc ms : Nat) (free : Addr → Prop) : Prop :=
  MetFree l y (headSpec ws rm) Pc (fun _ _ _ _ _ => True) (fun a st o t => Qc a st o t ∧ ∃ L : List Loc, (st.WarmedH t.vm ∧ st.sameButNew ({ t with vm := st.vm } : State) L mc ms) ∧ ∀ q ∈ L, free q.base)
/-- where the caller stands behind a call: over the next instruction, or with the exception laid over its frame -/
def mx_after (o : Outcome) (T : State) (g : JFrame) (len : Nat) : State := match o with
  | .returned v => T.setTop { g with pc := g.pc + len, stack := v.toList ++ g.stack }
  | .threw x => (T.setTop g).pushFrame (.throwing x)
section MXR
variable {p : Program} {l : Launch} {e : Env} {R : Room} {s : State} {m : MethodId} {sargs : Array Value} {below : List Frame} {meth : Method} {c : Code} {U : State} {Ls : List Loc} {c0 s0 : Nat}
theorem mx_run {y : MethodName} {ws : List Cond} {rm : Room} {Pc : Array Value → State → Prop} {Qc : Array Value → State → Outcome → State → Prop} {mc ms len maxL Wn : Nat} {free : Addr → Prop}
    (X : Stand p l e R s m sargs below meth c U Ls c0 s0) (hM : mx_M l y ws rm Pc Qc mc ms free) (hrc : rm.cells = mc) (hrs : rm.slots = ms) (hframes : rm.frames + 1 ≤ R.frames) (hlocals : Wn + (maxL + 11) + rm.locals ≤ R.locals)
    {g : JFrame} {ig : Instr} {mk : MethodId} {a : Array Value} (hg : g.method = m) (hsize : g.locals.size = c.maxLocals) (hdg : decode c.code g.pc = .ok (ig, len)) (hW : 2 * g.monitorRoom + (g.stack.map fun v => v.category).sum ≤ Wn)
    (hn : U.methodNamed? y = some mk) (hws : ∀ w ∈ ws, w.before a U = true) (hcode : ∃ (methY : Method) (cY : Code), U.vm.method? mk = some methY ∧ methY.code = some cY ∧ cY.maxLocals = maxL) (hini : (Cond.initialized y.cls).before a U = true)
    (hcells : c0 + mc ≤ R.cells) (hslots : s0 + ms ≤ R.slots) (hP : Pc a (U.calling g mk a)) :
    ∃ (o : Outcome) (t T' : State) (L : List Loc), Stand p l e R s m sargs below meth c T' (Ls ++ L) (c0 + mc) (s0 + ms) ∧ (∀ q ∈ L, free q.base) ∧ T'.heap = t.heap ∧ T'.vm = t.vm ∧ Qc a (U.calling g mk a) o t ∧ U.WarmedH t.vm ∧
      Steps p.tables e below (doInvoke e (U.setTop g) [] mk a).1 (mx_after o T' g len) := by
  obtain ⟨methY, cY, hmY, hcY, hlY⟩ := hcode
  obtain ⟨kY, hkY, -⟩ := className_of_methodNamed hn
  have hinitY : kY.init = .initialized := Cond.initialized_spec (findClass_of_methodNamed hn) hkY hini
  have h : At U g.method c below := by rw [hg]; exact X.here
  have happ : (headSpec ws rm).appliesLoose y e.platform (U.calling g mk a) = true :=
    Spec.appliesLoose_calling (g := g) h hdg hn hkY hinitY
      (X.room_calling (g := g) (R' := (headSpec ws rm).room) hsize hmY hcY hframes (by rw [hlY]; show _ + rm.locals ≤ _; omega) (by show c0 + rm.cells ≤ _; rw [hrc]; exact hcells) (by show s0 + rm.slots ≤ _; rw [hrs]; exact hslots)) (atoms_intro hws)
  obtain ⟨mid, hmid⟩ := h.above
  have hfr : (U.setTop g).frames = (.java g :: mid) ++ below := by rw [State.frames_setTop' g h.top, hmid]; rfl
  obtain ⟨o, t, hsteps, -, hend, hq⟩ := Steps.callFree hM p X.admits X.cas X.clock (acts := []) hfr happ hP trivial
  rw [State.frames_setTop' g h.top] at hend
  have hq' : Qc a (U.calling g mk a) o t ∧ ∃ L : List Loc, ((U.calling g mk a).WarmedH t.vm ∧ (U.calling g mk a).sameButNew ({ t with vm := (U.calling g mk a).vm } : State) L mc ms) ∧ ∀ q ∈ L, free q.base := hq
  obtain ⟨hQ, L, ⟨hW2, e2, q2, q3, q4, q5, q6⟩, hL⟩ := hq'
  have hW' : U.WarmedH t.vm := hW2
  have e3 : t = ({ (U.calling g mk a).setFrames t.frames with heap := t.heap, slotsUsed := t.slotsUsed } : State).setVm t.vm := by
    have e4 : t = ({ t with vm := (U.calling g mk a).vm } : State).setVm t.vm := rfl
    rw [e2] at e4
    exact e4
  obtain ⟨g₀, hg0⟩ := Option.isSome_iff_exists.mp h.top
  obtain ⟨r, hr⟩ := State.topJava?_eq_some.mp hg0
  have hr' : (({ U with heap := t.heap, slotsUsed := t.slotsUsed } : State).setVm t.vm).frames = .java g₀ :: r := hr
  have hsame : U.sameButNew ({ U with heap := t.heap, slotsUsed := t.slotsUsed } : State) L mc ms := by
    refine ⟨?_, q2, q3, q4, q5, q6⟩
    obtain ⟨th, ht, -⟩ := State.frames_cons hr
    show ({ U with heap := t.heap, slotsUsed := t.slotsUsed } : State) = { U.setFrames U.frames with heap := t.heap, slotsUsed := t.slotsUsed }
    rw [State.setFrames_self ht]
  have hs2 : t = mx_after o (({ U with heap := t.heap, slotsUsed := t.slotsUsed } : State).setVm t.vm) g len := by
    cases o with
    | returned v =>
      obtain ⟨c₂, i₂, len₂, hc₂, hd₂, hf₂⟩ := hend
      have hcc : c₂ = c := by
        have h1 : t.code? g.method = U.code? g.method := by
          rw [State.code?_eq, State.code?_eq, hW'.alike.method?]
        exact Option.some.inj (hc₂.symm.trans (h1.trans h.code))
      subst hcc
      have hlen : len₂ = len := by rw [hdg] at hd₂; cases hd₂; rfl
      subst hlen
      refine e3.trans ?_
      show _ = (({ U with heap := t.heap, slotsUsed := t.slotsUsed } : State).setVm t.vm).setTop { g with pc := g.pc + len₂, stack := v.toList ++ g.stack }
      rw [hf₂, State.calling_eq h.top, State.setFrames_setFrames, State.setTop_of_frames _ hr', hr]
      rfl
    | threw x =>
      have hf₂ : t.frames = .throwing x :: .java g :: U.frames.tail := hend
      refine e3.trans ?_
      show _ = ((({ U with heap := t.heap, slotsUsed := t.slotsUsed } : State).setVm t.vm).setTop g).pushFrame (.throwing x)
      rw [hf₂, State.calling_eq h.top, State.setFrames_setFrames, State.pushFrame, State.frames_setTop _ hr', State.setTop_of_frames _ hr', State.setFrames_setFrames, hr]
      rfl
  subst hg
  refine ⟨o, t, ({ U with heap := t.heap, slotsUsed := t.slotsUsed } : State).setVm t.vm, L,
    ⟨X.admits, X.cas, X.clock, X.frames, X.room, X.hears, X.method, X.code, (X.here.setHeapUsed t.heap t.slotsUsed).setVm hW'.alike, X.tail, State.WarmedH.trans X.warmed hW', X.limits, X.bytes, X.same.trans (hsame.setVm s.vm)⟩,
    hL, rfl, rfl, hQ, hW', ?_⟩
  rw [← hs2]
  exact hsteps
end MXR
section MXI
variable {p : Program} {l : Launch} {e : Env} {R : Room} {s : State} {m : MethodId} {args : Array Value} {below : List Frame} {meth : Method} {c : Code} {T : State} {locs : List Loc} {cells slots : Nat}
/-- an invoke has come to its callee's first step -/
def mx_I (p : Program) (l : Launch) (e : Env) (R : Room) (s : State) (m : MethodId) (args : Array Value) (below : List Frame) (meth : Method) (c : Code) (T : State) (locs : List Loc) (cells slots : Nat) (y : MethodName) (g : JFrame) (a : Array Value) (rest : List Value) : Prop :=
  ∃ (vm₁ : Vm) (mk : MethodId), s.WarmedH vm₁ ∧ Stand p l e R s m args below meth c (T.setVm vm₁) locs cells slots ∧ (T.setVm vm₁).methodNamed? y = some mk ∧
    ∀ tg, Steps p.tables e below (doInvoke e ((T.setVm vm₁).setTop { g with stack := rest }) [] mk a).1 tg → Steps p.tables e below (T.setTop g) tg
theorem mx_iV (X : Stand p l e R s m args below meth c T locs cells slots) (hexec : p.tables.exec = Jvm.exec) {own C : String} {index : Nat} {y : MethodName}
    (hown : s.vm.findClass own = some m.cls) (hlink : (Cond.methodLink own index y).before args s = true) (hinst : (Cond.instanceMethod y).before args s = true) (hsel : (Cond.selects C y y).before args s = true)
    (hsig : ∀ (mk : MethodId) (methM : Method), s.methodNamed? y = some mk → s.vm.method? mk = some methM → parseMethodDescriptor y.desc = some methM.sig) (hy : y.cls ≠ "java/lang/invoke/MethodHandle" ∧ y.cls ≠ "java/lang/invoke/VarHandle")
    {b : Addr} {cellB : Cell} (hcell : T.heap[b]? = some cellB) (hobj : cellB.vm.isStatics = false) (hcls : s.vm.findClass C = some cellB.cls)
    {g : JFrame} (hg : g.method = m) {argsL rest : List Value} (hlen : ∀ sig, parseMethodDescriptor y.desc = some sig → argsL.length = sig.parameters.length)
    (hstack : g.stack = argsL.reverse ++ .ref b :: rest) (hdg : decode c.code g.pc = .ok (.invokevirtual index, 3)) :
    mx_I p l e R s m args below meth c T locs cells slots y g (Value.ref b :: argsL).toArray rest := by
  obtain ⟨mk, methM, hnamed, hmethM, hstM, habM⟩ := Cond.instanceMethod_spec hinst
  obtain ⟨c2, r2, m2, q1, q2, q3, q4, kP, hkP, hkPi⟩ := Cond.selects_spec hsel
  cases hcls.symm.trans q1
  cases (State.methodFound?_of_named hnamed hy).symm.trans q2
  cases hnamed.symm.trans q3
  have hselP : selectMethod e.platform s.vm cellB.cls mk = .method mk := by rw [Launch.admits_selectMethod X.admits]; exact q4
  obtain ⟨vm₁, X₁, hstep₁⟩ := X.invokevirtual hexec hown hlink hnamed hmethM hstM hkP hkPi hy (a := b) (cell := cellB) hcell
    (fun z h => by rw [h] at hobj; cases hobj) hselP hmethM habM hkP hkPi (g := g) hg (argsL := argsL) (rest := rest) (hlen _ (hsig mk methM hnamed hmethM)) hstack hdg
  exact ⟨vm₁, mk, X₁.warmed, X₁, X₁.named hnamed, fun tg h => hstep₁ _ fun acts => by rw [doInvoke_state]; exact h⟩
theorem mx_iS (X : Stand p l e R s m args below meth c T locs cells slots) (hexec : p.tables.exec = Jvm.exec) {own : String} {index : Nat} {y : MethodName}
    (hown : s.vm.findClass own = some m.cls) (hlink : (Cond.methodLink own index y).before args s = true) (hstat : (Cond.static y).before args s = true) (hinit : (Cond.initialized y.cls).before args s = true)
    {mk : MethodId} {methM : Method} (hnamed : s.methodNamed? y = some mk) (hmethM : s.vm.method? mk = some methM) (hsig : parseMethodDescriptor y.desc = some methM.sig) (hy : y.cls ≠ "java/lang/invoke/MethodHandle" ∧ y.cls ≠ "java/lang/invoke/VarHandle")
    {g : JFrame} (hg : g.method = m) {argsL rest : List Value} (hlen : ∀ sig, parseMethodDescriptor y.desc = some sig → argsL.length = sig.parameters.length)
    (hstack : g.stack = argsL.reverse ++ rest) (hdg : decode c.code g.pc = .ok (.invokestatic index, 3)) :
    mx_I p l e R s m args below meth c T locs cells slots y g argsL.toArray rest := by
  have hstatic : methM.isStatic = true := Cond.static_spec hnamed hmethM hstat
  obtain ⟨kP, hkP, -⟩ := className_of_methodNamed hnamed
  have hinitP : kP.init = .initialized := Cond.initialized_spec (findClass_of_methodNamed hnamed) hkP hinit
  obtain ⟨vm₁, X₁, hstep₁⟩ := X.invokestatic hexec hown hlink hnamed hmethM hstatic hkP hinitP hy (g := g) hg (argsL := argsL) (rest := rest) (hlen _ hsig) hstack hdg
  exact ⟨vm₁, mk, X₁.warmed, X₁, X₁.named hnamed, fun tg h => hstep₁ _ fun acts => by rw [doInvoke_state]; exact h⟩
theorem mx_iI (X : Stand p l e R s m args below meth c T locs cells slots) (hexec : p.tables.exec = Jvm.exec) {own : String} {index : Nat} {y : MethodName} {bytes : ByteArray} {maxL : Nat}
    (hown : s.vm.findClass own = some m.cls) (hy1 : y.name = "<init>") (hlink : (Cond.methodLink own index y).before args s = true) (hinst : (Cond.instanceMethod y).before args s = true)
    (hcode : (Cond.code y bytes maxL none).before args s = true) (hy : y.cls ≠ "java/lang/invoke/MethodHandle" ∧ y.cls ≠ "java/lang/invoke/VarHandle")
    {g : JFrame} (hg : g.method = m) {a : Addr} {argsL rest : List Value} (hlen : ∀ sig, parseMethodDescriptor y.desc = some sig → argsL.length = sig.parameters.length)
    (hstack : g.stack = argsL.reverse ++ .ref a :: rest) (hdg : decode c.code g.pc = .ok (.invokespecial index, 3)) :
    mx_I p l e R s m args below meth c T locs cells slots y g (Value.ref a :: argsL).toArray rest := by
  subst hg
  have hpl : e.platform.magicAccessors = ({} : Platform).magicAccessors := by rw [X.admits.platform]
  obtain ⟨mk, methM, cM, kP, vm₁, hnamed, hmethM, hcodeM, -, hlocalsM, -, hkP, -, hW₁, hstep₁⟩ := Steps.initColdArgs (e := e) X.here hexec X.warmed hpl hown hy1 hy hlink hinst hcode (f := g) rfl hlen hstack hdg
  have X₁ := X.noted hW₁
  exact ⟨vm₁, mk, X₁.warmed, X₁, X₁.named hnamed, fun tg h => hstep₁ _ fun acts => by rw [doInvoke_state]; exact h⟩
theorem mx_iIN (X : Stand p l e R s m args below meth c T locs cells slots) (hexec : p.tables.exec = Jvm.exec) {own host : String} {index : Nat} {y : MethodName} {bytes : ByteArray} {maxL : Nat}
    (hown : s.vm.findClass own = some m.cls) (hy1 : y.name = "<init>") (hlink : (Cond.methodLinkNest own index y host).before args s = true) (hinst : (Cond.instanceMethod y).before args s = true)
    (hcode : (Cond.code y bytes maxL none).before args s = true) (hy : y.cls ≠ "java/lang/invoke/MethodHandle" ∧ y.cls ≠ "java/lang/invoke/VarHandle")
    {g : JFrame} (hg : g.method = m) {a : Addr} {argsL rest : List Value} (hlen : ∀ sig, parseMethodDescriptor y.desc = some sig → argsL.length = sig.parameters.length)
    (hstack : g.stack = argsL.reverse ++ .ref a :: rest) (hdg : decode c.code g.pc = .ok (.invokespecial index, 3)) :
    mx_I p l e R s m args below meth c T locs cells slots y g (Value.ref a :: argsL).toArray rest := by
  subst hg
  have hpl : e.platform.magicAccessors = ({} : Platform).magicAccessors := by rw [X.admits.platform]
  obtain ⟨mk, methM, cM, kP, vm₁, hnamed, hmethM, hcodeM, -, hlocalsM, -, hkP, -, hW₁, hstep₁⟩ := Steps.initColdArgsNest (e := e) X.here hexec X.warmed hpl hown hy1 hy hlink hinst hcode (f := g) rfl hlen hstack hdg
  have X₁ := X.noted hW₁
  exact ⟨vm₁, mk, X₁.warmed, X₁, X₁.named hnamed, fun tg h => hstep₁ _ fun acts => by rw [doInvoke_state]; exact h⟩
end MXI
end
section
/-! The small machine and the real one: locals, memory. -/
def od_prs (ls : od_L) : List (Nat × Value) := (List.range ls.length).filterMap (fun j => (od_lo ls j).map (fun v => (j, v)))
theorem od_lo_lt {ls : od_L} {j : Nat} {v : Value} (h : od_lo ls j = some v) : j < ls.length := by
  apply Nat.lt_of_not_le
  intro hle
  unfold od_lo at h
  rw [List.getElem?_eq_none hle] at h
  cases h
theorem od_prs_of {ls : od_L} {j : Nat} {v : Value} (h : od_lo ls j = some v) : (j, v) ∈ od_prs ls :=
  List.mem_filterMap.mpr ⟨j, List.mem_range.mpr (od_lo_lt h), by rw [h]; rfl⟩
theorem od_prs_to {ls : od_L} {q : Nat × Value} (h : q ∈ od_prs ls) : od_lo ls q.1 = some q.2 := by
  obtain ⟨j, -, h1⟩ := List.mem_filterMap.mp h
  cases hl : od_lo ls j with
  | none => rw [hl] at h1; cases h1
  | some v => rw [hl] at h1; cases h1; exact hl
theorem od_has_sub {ls : Array Slot} {nL : Nat} {l l' : List (Nat × Value)} (h : lv_has ls nL l) (hs : ∀ q ∈ l', q ∈ l) : lv_has ls nL l' := ⟨h.1, h.2.1, fun q hq => h.2.2 q (hs q hq)⟩
theorem od_has_at {lsM : Array Slot} {nL : Nat} {ls : od_L} {j : Nat} {v : Value} (h : lv_has lsM nL (od_prs ls)) (hl : od_lo ls j = some v) : lsM[j]? = some (.val v) := h.2.2 (j, v) (od_prs_of hl)
theorem od_lo_set (ls : od_L) (i j : Nat) (v : Option Value) : od_lo (ls.set i v) j = if j = i then (if i < ls.length then v else none) else od_lo ls j := by
  unfold od_lo
  rw [List.getElem?_set]
  by_cases h : i = j
  · subst h
    by_cases h2 : i < ls.length <;> simp [h2]
  · rw [if_neg h, if_neg (fun q => h q.symm)]
theorem od_c2_len (ls : od_L) (i : Nat) : (od_c2 ls i).length = ls.length := by
  unfold od_c2
  cases i with
  | zero => rfl
  | succ j =>
    dsimp only
    split
    · split
      · rw [List.length_set]
      · rfl
    · rfl
theorem od_c2_lo {ls : od_L} {i j : Nat} {w : Value} (h : od_lo (od_c2 ls i) j = some w) : od_lo ls j = some w ∧ ¬ (j + 1 = i ∧ w.category = 2) := by
  unfold od_c2 at h
  cases i with
  | zero => exact ⟨h, fun q => by omega⟩
  | succ i' =>
    dsimp only at h
    split at h
    · rename_i u hu
      split at h
      · rename_i hc
        rw [od_lo_set] at h
        by_cases hj : j = i'
        · rw [if_pos hj] at h
          split at h <;> cases h
        · rw [if_neg hj] at h
          exact ⟨h, fun q => hj (by omega)⟩
      · rename_i hc
        refine ⟨h, fun q => ?_⟩
        have hj : j = i' := by omega
        subst hj
        rw [h] at hu
        cases hu
        exact hc q.2
    · rename_i hu
      refine ⟨h, fun q => ?_⟩
      have hj : j = i' := by omega
      subst hj
      rw [hu] at h
      cases h
theorem od_s1_len (ls : od_L) (i : Nat) (v : Value) : (od_s1 ls i v).length = ls.length := by
  unfold od_s1
  rw [List.length_set, od_c2_len]
theorem od_s2_len (ls : od_L) (i : Nat) (v : Value) : (od_s2 ls i v).length = ls.length := by
  unfold od_s2
  rw [List.length_set, List.length_set, od_c2_len]
theorem od_has_s1 {ls' : Array Slot} {nL i : Nat} {v : Value} {ls : od_L} (h : lv_has ls' nL ((i, v) :: (od_prs ls).filter (fun q => !(q.1 == i) && !(q.1 + 1 == i && q.2.category == 2)))) : lv_has ls' nL (od_prs (od_s1 ls i v)) := by
  refine od_has_sub h fun q hq => ?_
  have h1 := od_prs_to hq
  unfold od_s1 at h1
  rw [od_lo_set] at h1
  by_cases hj : q.1 = i
  · rw [if_pos hj] at h1
    split at h1
    · cases h1
      rw [show q = (i, q.2) from by rw [← hj]]
      exact List.mem_cons_self
    · cases h1
  · rw [if_neg hj] at h1
    obtain ⟨h2, h3⟩ := od_c2_lo h1
    refine List.mem_cons_of_mem _ (List.mem_filter.mpr ⟨od_prs_of h2, ?_⟩)
    simp only [Bool.and_eq_true, Bool.not_eq_true', Bool.and_eq_false_iff, beq_eq_false_iff_ne, ne_eq]
    refine ⟨hj, ?_⟩
    by_cases h4 : q.1 + 1 = i
    · exact Or.inr (fun h5 => h3 ⟨h4, h5⟩)
    · exact Or.inl h4
theorem od_has_s2 {ls' : Array Slot} {nL i : Nat} {v : Value} {ls : od_L} (h : lv_has ls' nL ((i, v) :: (od_prs ls).filter (fun q => !(q.1 == i) && (!(q.1 == i + 1) && !(q.1 + 1 == i && q.2.category == 2))))) : lv_has ls' nL (od_prs (od_s2 ls i v)) := by
  refine od_has_sub h fun q hq => ?_
  have h1 := od_prs_to hq
  unfold od_s2 at h1
  rw [od_lo_set] at h1
  by_cases hj : q.1 = i
  · rw [if_pos hj] at h1
    split at h1
    · cases h1
      rw [show q = (i, q.2) from by rw [← hj]]
      exact List.mem_cons_self
    · cases h1
  · rw [if_neg hj, od_lo_set] at h1
    by_cases hj2 : q.1 = i + 1
    · rw [if_pos hj2] at h1
      split at h1 <;> cases h1
    · rw [if_neg hj2] at h1
      obtain ⟨h2, h3⟩ := od_c2_lo h1
      refine List.mem_cons_of_mem _ (List.mem_filter.mpr ⟨od_prs_of h2, ?_⟩)
      simp only [Bool.and_eq_true, Bool.not_eq_true', Bool.and_eq_false_iff, beq_eq_false_iff_ne, ne_eq]
      refine ⟨hj, hj2, ?_⟩
      by_cases h4 : q.1 + 1 = i
      · exact Or.inr (fun h5 => h3 ⟨h4, h5⟩)
      · exact Or.inl h4
/-- a cell of the small memory in the real heap; K: the classes of int[], long[], Row[] -/
def od_at (D : va_G) (K : Nat × Nat × Nat) (s : State) (a : Nat) (e : od_E) (H : Heap) : Prop := match e with
  | .inl x => H[a]? = some (vp_cell K.1 (x.1, .inl x.2))
  | .inr (.inl x) => H[a]? = some (vp_cell K.2.1 (x.1, .inr (.inl x.2)))
  | .inr (.inr (.inl x)) => H[a]? = some (vp_cell K.2.2 (x.1, .inr (.inr (.inr (.inr x.2)))))
  | .inr (.inr (.inr (.inl x))) => va_at D od_cls (a, .inr x) H
  | .inr (.inr (.inr (.inr x))) => va_X a x.1 x.2 s H
theorem od_at.kept {D : va_G} {K : Nat × Nat × Nat} {s : State} {a : Nat} {e : od_E} {H H1 : Heap} (h : od_at D K s a e H) (hq : H1[a]? = H[a]?) : od_at D K s a e H1 := by
  rcases e with x | x | x | x | x
  · exact hq.trans h
  · exact hq.trans h
  · exact hq.trans h
  · exact va_at.kept (q := (a, .inr x)) h hq
  · exact va_X.kept h hq
theorem od_at.lt {D : va_G} {K : Nat × Nat × Nat} {s : State} {a : Nat} {e : od_E} {H : Heap} (h : od_at D K s a e H) : a < H.size := by
  rcases e with x | x | x | x | x
  · exact (Array.getElem?_eq_some_iff.mp h).1
  · exact (Array.getElem?_eq_some_iff.mp h).1
  · exact (Array.getElem?_eq_some_iff.mp h).1
  · exact va_at.lt (q := (a, .inr x)) h
  · obtain ⟨scr, h1, -⟩ := h
    exact (Array.getElem?_eq_some_iff.mp h1).1
theorem od_at.moved {D : va_G} {K : Nat × Nat × Nat} {u U : State} {a : Nat} {e : od_E} {H : Heap} (hvm : u.vm.Alike U.vm) (h : od_at D K u a e H) : od_at D K U a e H := by
  rcases e with x | x | x | x | x
  · exact h
  · exact h
  · exact h
  · exact h
  · exact va_X.moved hvm h
theorem od_at.ns {D : va_G} {K : Nat × Nat × Nat} {s : State} {a : Nat} {e : od_E} {H : Heap} {cell : Cell} (h : od_at D K s a e H) (hc : H[a]? = some cell) : cell.vm.isStatics = false := by
  rcases e with x | x | x | x | x
  · have h1 : H[a]? = some (vp_cell K.1 (x.1, .inl x.2)) := h
    cases hc.symm.trans h1; rfl
  · have h1 : H[a]? = some (vp_cell K.2.1 (x.1, .inr (.inl x.2))) := h
    cases hc.symm.trans h1; rfl
  · have h1 : H[a]? = some (vp_cell K.2.2 (x.1, .inr (.inr (.inr (.inr x.2))))) := h
    cases hc.symm.trans h1; rfl
  · obtain ⟨r, -, cell2, q1, -, q3, -⟩ := h
    cases hc.symm.trans q1
    rw [q3]; rfl
  · obtain ⟨scr, h1, h2, -⟩ := h
    cases hc.symm.trans h1
    obtain ⟨hobj, -⟩ := h2
    cases hv : cell.vm <;> first | rfl | exact absurd hv (hobj _)
/-- the small memory lies in the real heap; all of it but the script from B on -/
def od_Rp (D : va_G) (K : Nat × Nat × Nat) (B : Nat) (s : State) (M : od_M) (H : Heap) : Prop := H.size = M.1 ∧ B ≤ M.1 ∧ (∀ (a : Nat) (e : od_E), M.2.2 a = some e → od_at D K s a e H ∧ (B ≤ a ∨ ∃ x : Nat × (Nat → Int32), e = .inr (.inr (.inr (.inr x))))) ∧ ∀ (q : Nat) (cell : Cell), B ≤ q → H[q]? = some cell → cell.vm.isStatics = false
theorem od_Rp.at {D : va_G} {K : Nat × Nat × Nat} {B : Nat} {s : State} {M : od_M} {H : Heap} (h : od_Rp D K B s M H) {a : Nat} {e : od_E} (ha : M.2.2 a = some e) : od_at D K s a e H := (h.2.2.1 a e ha).1
theorem od_Rp.moved {D : va_G} {K : Nat × Nat × Nat} {B : Nat} {u U : State} {M : od_M} {H : Heap} (hvm : u.vm.Alike U.vm) (h : od_Rp D K B u M H) : od_Rp D K B U M H := ⟨h.1, h.2.1, fun a e ha => ⟨(h.2.2.1 a e ha).1.moved hvm, (h.2.2.1 a e ha).2⟩, h.2.2.2⟩
theorem od_Rp.set {D : va_G} {K : Nat × Nat × Nat} {B : Nat} {s : State} {M : od_M} {H H1 : Heap} {a : Nat} {e : od_E} (h : od_Rp D K B s M H) (hz : H1.size = H.size) (ho : ∀ q, q ≠ a → H1[q]? = H[q]?) (ha : od_at D K s a e H1) (hb : B ≤ a) : od_Rp D K B s (od_set M a e) H1 := by
  refine ⟨hz.trans h.1, h.2.1, fun b x hx => ?_, fun q cell hq hc => ?_⟩
  · have hx' : va_up M.2.2 a (some e) b = some x := hx
    by_cases hq : b = a
    · subst hq
      rw [va_up_self] at hx'
      cases hx'
      exact ⟨ha, Or.inl hb⟩
    · rw [va_up_ne _ _ hq] at hx'
      exact ⟨(h.2.2.1 b x hx').1.kept (ho b hq), (h.2.2.1 b x hx').2⟩
  · by_cases hqa : q = a
    · subst hqa
      exact ha.ns hc
    · rw [ho q hqa] at hc
      exact h.2.2.2 q cell hq hc
theorem od_Rp.add {D : va_G} {K : Nat × Nat × Nat} {B n : Nat} {s : State} {M : od_M} {H H1 : Heap} {e : od_E} (h : od_Rp D K B s M H) (hz : H1.size = M.1 + 1) (ho : ∀ q, q < M.1 → H1[q]? = H[q]?) (ha : od_at D K s M.1 e H1) : od_Rp D K B s (od_add M n e) H1 := by
  refine ⟨hz, Nat.le_succ_of_le h.2.1, fun b x hx => ?_, fun q cell hq hc => ?_⟩
  · have hx' : va_up M.2.2 M.1 (some e) b = some x := hx
    by_cases hq : b = M.1
    · subst hq
      rw [va_up_self] at hx'
      cases hx'
      exact ⟨ha, Or.inl h.2.1⟩
    · rw [va_up_ne _ _ hq] at hx'
      have hk := (h.2.2.1 b x hx').1
      have hlt := hk.lt
      rw [h.1] at hlt
      exact ⟨hk.kept (ho b hlt), (h.2.2.1 b x hx').2⟩
  · by_cases hqa : q = M.1
    · subst hqa
      exact ha.ns hc
    · have hlt : q < H1.size := (Array.getElem?_eq_some_iff.mp hc).1
      rw [ho q (by omega)] at hc
      exact h.2.2.2 q cell hq hc
theorem od_locs {B a i : Nat} {locs : List Loc} (h : ∀ q ∈ locs, B ≤ q.base) (ha : B ≤ a) : ∀ q ∈ locs ++ [(⟨a, i⟩ : Loc)], B ≤ q.base := fun q hq => by
  rcases List.mem_append.mp hq with h1 | h1
  · exact h q h1
  · rw [List.mem_singleton.mp h1]
    exact ha
theorem od_ix_in {i : Int32} {n : Nat} (h : od_ix i n = true) : vp_in i n := by
  unfold od_ix at h
  simp only [Bool.and_eq_true, decide_eq_true_eq] at h
  intro q
  rcases q with q | q
  · exact absurd h.1 (Int32.not_le.mpr q)
  · omega
theorem od_cell_i (cA : ClassId) (n j : Nat) (f : Nat → Int32) (x : Int32) : (vp_cell cA (n, .inl f)).setSlot j (.int x) = vp_cell cA (n, .inl (upd f j x)) := by
  rw [vp_cell_i, vp_cell_i, arrV_store]
  congr 1
  funext q
  by_cases hq : q = j
  · subst hq; simp [updV, upd]
  · simp [updV, upd, hq]
theorem od_cell_l (cA : ClassId) (n j : Nat) (f : Nat → Int64) (x : Int64) : (vp_cell cA (n, .inr (.inl f))).setSlot j (.long x) = vp_cell cA (n, .inr (.inl (vp_updL f j x))) := by
  rw [vp_cell_l, vp_cell_l, arrV_store]
  congr 1
  funext q
  by_cases hq : q = j
  · subst hq; simp [updV, vp_updL]
  · simp [updV, vp_updL, hq]
theorem od_cell_q (cA : ClassId) (n j : Nat) (f : Nat → Option Nat) (v : Nat) : (vp_cell cA (n, .inr (.inr (.inr (.inr f))))).setSlot j (.ref v) = vp_cell cA (n, .inr (.inr (.inr (.inr (va_up f j (some v)))))) := by
  rw [vp_cell_q, vp_cell_q, arrV_store]
  congr 1
  funext q
  by_cases hq : q = j
  · subst hq; simp [updV, va_up, va_rf]
  · simp [updV, va_up, hq]
/-- a world of one cell -/
theorem od_one {D : va_G} {cl : List vw_C} {q : Nat × va_E} {H : Heap} (h : va_at D cl q H) : va_P D cl [q] H := fun k x hx => by
  have hz : k < 1 := (List.getElem?_eq_some_iff.mp hx).1
  rw [show k = 0 by omega] at hx
  cases hx
  exact h
end
section
/-! One step of the small machine within a method is a step of the real one. -/
def od_tyok (t : Nat) (ty : FieldType) (fin : Bool) : Prop := (t = 0 ∧ ty = .int ∧ fin = false) ∨ (t = 1 ∧ ty = .boolean ∧ fin = false) ∨ ((t = 2 ∧ fin = false ∨ t = 3 ∧ fin = true ∨ t = 5 ∧ fin = true) ∧ ((∃ n, ty = .object n) ∨ ∃ u, ty = .array u))
def od_fok (WS : List Cond) (own ix c k t : Nat) : Prop := ∃ (C : String) (T : u_T) (N : Nat) (ty : Nat → FieldType), od_cls[c]? = some (C, T, N) ∧ (∀ w ∈ u_ws C T N, w ∈ WS) ∧ (∀ j, j < N → parseFieldDescriptor (T j).2.2.1 = some (ty j)) ∧ (∀ a, a < N → ∀ b, b < N → a ≠ b → (T a).2.1 ≠ (T b).2.1) ∧ k < N ∧ Cond.fieldLink (od_cn own) ix (T k).1 (T k).2.1 (T k).2.2.1 ∈ WS ∧ od_tyok t (ty k) (T k).2.2.2 ∧ (t = 3 → (T k).1 = od_cn own)
def od_nok (WS : List Cond) (own ix c : Nat) (fs : List Value) : Prop := ∃ (C : String) (T : u_T) (N : Nat) (ty : Nat → FieldType), od_cls[c]? = some (C, T, N) ∧ (∀ w ∈ u_ws C T N, w ∈ WS) ∧ (∀ j, j < N → parseFieldDescriptor (T j).2.2.1 = some (ty j)) ∧ Cond.classLink (od_cn own) ix C ∈ WS ∧ Cond.instantiable C N ∈ WS ∧ Cond.initialized C ∈ WS ∧ fs.length = N ∧ ∀ j, j < N → defaultValue (ty j) = vp_V fs j
def od_T (WS : List Cond) : Prop :=
  (∀ k pc i n, od_cd k pc = some (i, n) → decode (od_by k) pc = .ok (i, n)) ∧
  (∀ own ix c k t, od_fd own ix = some (c, k, t) → od_fok WS own ix c k t) ∧
  (∀ own ix c fs, od_nw own ix = some (c, fs) → od_nok WS own ix c fs) ∧
  (∀ own ix, od_an own ix = true → Cond.classLink (od_cn own) ix od_rn ∈ WS ∧ Cond.arrayOver (.object od_rn) ∈ WS) ∧
  (∀ own ix v, od_ki own ix = some v → Cond.constant (od_cn own) ix v ∈ WS) ∧
  (∀ own ix v, od_kl own ix = some v → Cond.constantLong (od_cn own) ix v ∈ WS) ∧
  (∀ own ix j n, od_md own ix = some (j, 7, n) → Cond.methodLink (od_cn own) ix arraycopyName ∈ WS ∧ Cond.native arraycopyName ∈ WS ∧ Cond.static arraycopyName ∈ WS ∧ Cond.initialized "java/lang/System" ∈ WS) ∧
  (∀ own ix j n, od_md own ix = some (j, 8, n) → Cond.methodLink (od_cn own) ix objectInit ∈ WS ∧ Cond.instanceMethod objectInit ∈ WS ∧ Cond.code objectInit ⟨#[0xb1]⟩ 1 none ∈ WS) ∧
  (Cond.arrayClass .int ∈ WS ∧ Cond.arrayClass .long ∈ WS) ∧ (∃ (T : u_T) (N : Nat), od_cls[od_row]? = some (od_rn, T, N))
def od_Kx (D : va_G) (K : Nat × Nat × Nat) (s : State) : Prop := va_K D od_cls [(K.1, .int), (K.2.1, .long), (K.2.2, .object od_rn)] s
/-- a method's frame stands on the tables of method k -/
def od_Cx (WS : List Cond) (p : Program) (s : State) (m : MethodId) (args : Array Value) (meth : Method) (c : Code) (k : Nat) : Prop :=
  p.tables.exec = Jvm.exec ∧ c.code = od_by k ∧ meth.sig.returnType = od_rf k ∧ c.maxLocals = od_nl k ∧ s.vm.findClass (od_cn (od_ow k)) = some m.cls ∧ (∀ w ∈ WS, w.before args s = true) ∧ meth.locks = false ∧ (od_in k = true → meth.name = "<init>")
theorem od_br_to {pc : Nat} {off : Int} {ls : od_L} {st : List Value} {M : od_M} {q : Nat × od_L × List Value × od_M} (h : od_br pc off ls st M = some (.inl q)) : (pc : Int) + off = (q.1 : Int) ∧ q.2.1 = ls ∧ q.2.2.1 = st ∧ q.2.2.2 = M := by
  unfold od_br at h
  split at h
  · rename_i h0
    unfold od_go at h
    cases h
    exact ⟨(Int.toNat_of_nonneg h0).symm, rfl, rfl, rfl⟩
  · cases h
theorem od_tk_ok {t : Nat} {v : Value} {ty : FieldType} {fin : Bool} (h : od_tk t v = true) (ht : od_tyok t ty fin) : narrow ty v = v ∧ fits ty v = true := by
  unfold od_tk at h
  rcases ht with ⟨rfl, rfl, -⟩ | ⟨rfl, rfl, -⟩ | ⟨ht, hty⟩
  · split at h
    · exact ⟨rfl, rfl⟩
    · simp at h
    · cases h
  · split at h
    · rename_i x
      simp at h
      rcases h with rfl | rfl
      · exact ⟨by decide +kernel, by decide +kernel⟩
      · exact ⟨by decide +kernel, by decide +kernel⟩
    · simp at h
    · cases h
  · split at h
    · rcases ht with ⟨rfl, -⟩ | ⟨rfl, -⟩ | ⟨rfl, -⟩ <;> simp at h
    · rcases hty with ⟨n, rfl⟩ | ⟨u, rfl⟩ <;> exact ⟨rfl, rfl⟩
    · cases h
section ODS
variable {p : Program} {l : Launch} {e : Env} {R : Room} {s : State} {m : MethodId} {args : Array Value} {below : List Frame} {meth : Method} {c : Code} {H : Heap} {locs : List Loc} {cells slots : Nat} {Q : State → Prop} {D : va_G} {K : Nat × Nat × Nat} {B : Nat} {WS : List Cond}
theorem od_Wput (hT : od_T WS) {k pc ix cn kf t : Nat} (hx : p.tables.exec = Jvm.exec) (hb : c.code = od_by k) (hown : s.vm.findClass (od_cn (od_ow k)) = some m.cls) (hts : ∀ w ∈ WS, w.before args s = true) (hin : od_in k = true → meth.name = "<init>") (hK : od_Kx D K s) {a : Nat} {fs : List Value} {v : Value} (ha : va_at D od_cls (a, .inr (cn, fs)) H) (hfd : od_fd (od_ow k) ix = some (cn, kf, t)) (hl : kf < fs.length) (htk : od_tk t v = true) (h3 : t = 3 → od_in k = true) {lsM : Array Slot} {rest : List Value} (hdg : decode (od_by k) pc = .ok (.putfield ix, 3))
    (kk : ∀ (H1 : Heap) (i : Nat), va_at D od_cls (a, .inr (cn, fs.set kf v)) H1 → H1.size = H.size → (∀ q, q ≠ a → H1[q]? = H[q]?) → W p l e R s m args below meth c H1 (locs ++ [⟨a, i⟩]) cells slots Q (F0 m (pc + 3) lsM rest)) : W p l e R s m args below meth c H locs cells slots Q (F0 m pc lsM (v :: .ref a :: rest)) := by
  obtain ⟨C, T, N, ty, hc, hws, hty, hnm, hkN, hlk, htyo, hdecl⟩ := hT.2.1 _ _ _ _ _ hfd
  have hap := va_apart (own := od_cn (od_ow k)) hts hws ty hty hnm hK hc
  obtain ⟨r, h1, cell, q1, q2, q3, q4⟩ := ha
  have hr : r = (C, T, N) := Option.some.inj (h1.symm.trans hc)
  subst hr
  obtain ⟨hS, hfc, kC, hkC, hkind⟩ := hK.1 cn _ hc
  obtain ⟨cf, kx, fi, f, hi, hsl⟩ := hS kf hkN
  have hlay := hts _ (hws _ (u_in_lay hkN))
  unfold u_lay at hlay
  have hst := (u_facts hfc hkC (u_lays hts hws hkN) hi).1
  obtain ⟨hnar, hfit⟩ := od_tk_ok htk htyo
  have fin : ∀ (H1 : Heap), H1[a]? = some (cell.setSlot f.slot v) → va_at D od_cls (a, .inr (cn, fs.set kf v)) H1 := fun H1 e1 => by
    rw [hsl] at e1
    exact ⟨_, hc, t_OB.to (V := updV (vp_V fs) kf v) ⟨_, e1, q2, q3, t_set q4 hap hkN v⟩ (fun j _ => vp_updV_set hl v j)⟩
  cases hfin : (T kf).2.2.2 with
  | false =>
    rw [if_neg (by rw [hfin]; decide)] at hlay
    have h6 := u_store hfc hkC hkind hlay hi (hty kf hkN) hnar hfit
    exact W.putK hx hb (f := f) ⟨hown, hts _ hlk, ⟨_, _, _, hi⟩, hst⟩ (by rw [q2]; exact h6) q1 q3 (by rw [hsl]; exact k2_hasslot (q4 kf hkN)) rfl rfl hdg fun H' e1 e2 e3 => kk H' _ (fin H' e1) e2 e3
  | true =>
    have ht3 : t = 3 := by
      rcases htyo with ⟨-, -, h⟩ | ⟨-, -, h⟩ | ⟨⟨-, h⟩ | ⟨h, -⟩ | ⟨h, -⟩, -⟩
      · rw [hfin] at h; cases h
      · rw [hfin] at h; cases h
      · rw [hfin] at h; cases h
      · exact h
      · rw [h] at htk
        unfold od_tk at htk
        split at htk <;> simp at htk
    rw [if_pos hfin] at hlay
    have hcf : m.cls = cf := by
      obtain ⟨_, _, c', _, _, _, -, -, hf', -, -, -, hown2, -⟩ := Cond.laysFinal_spec hlay
      have e1 : c' = cf := by have := hi.symm.trans hf'; simp at this; exact this.1.symm
      rw [hdecl ht3] at hown2
      rw [← e1]; exact Option.some.inj (hown.symm.trans hown2)
    have h6 := u_fits hfc hkC hkind (Or.inr hlay) hi (hty kf hkN) hnar hfit
    exact W.putFinK hx hb hown (hts _ hlk) hi hst hcf (hin (h3 ht3)) (by rw [q2]; exact h6) q1 q3 (by rw [hsl]; exact k2_hasslot (q4 kf hkN)) rfl rfl hdg fun H' e1 e2 e3 => kk H' _ (fin H' e1) e2 e3
theorem od_Wcpy {cc : ByteArray} {pc : Nat} {ls : Array Slot} {rest : List Value} (hexec : p.tables.exec = Jvm.exec) (hb : c.code = cc) (hml : c.maxLocals = ls.size) {own : String} {index : Nat} (hown : s.vm.findClass own = some m.cls) (hlink : (Cond.methodLink own index arraycopyName).before args s = true) (hnat : (Cond.native arraycopyName).before args s = true) (hstat : (Cond.static arraycopyName).before args s = true) (hini : (Cond.initialized "java/lang/System").before args s = true)
    {a b na nb : Nat} {cI : ClassId} {f g : Nat → Int32} (hcb : H[b]? = some (vp_cell cI (nb, .inl f))) (hca : H[a]? = some (vp_cell cI (na, .inl g))) (hA : ArrOfT s cI .int)
    {sp dp n : Int32} (h1 : ¬ sp < 0) (h2 : ¬ dp < 0) (h3 : ¬ n < 0) (h4 : sp.toNatClampNeg + n.toNatClampNeg ≤ nb) (h5 : dp.toNatClampNeg + n.toNatClampNeg ≤ na)
    (hframes : 1 ≤ R.frames) (hlocals : (rest.map fun v => v.category).sum + (nativeFrameWords "java/lang/System" "arraycopy" 5 + 11) ≤ R.locals) (hdg : decode cc pc = .ok (.invokestatic index, 3))
    (kk : ∀ (L : List Loc), (∀ q ∈ L, q.base = a) → W p l e R s m args below meth c (H.setIfInBounds a (vp_cell cI (na, .inl (va_cpy f g sp.toNatClampNeg dp.toNatClampNeg n.toNatClampNeg)))) (locs ++ L) cells slots Q (F0 m (pc + 3) ls rest)) : W p l e R s m args below meth c H locs cells slots Q (F0 m pc ls (.int n :: .int dp :: .ref a :: .int sp :: .ref b :: rest)) := by
  have nn : ∀ z : Int32, ¬ z < 0 → z.toInt = (z.toNatClampNeg : Int) := by
    intro z hz
    have hz0 : (0 : Int) ≤ z.toInt := by
      have := Int32.not_lt.mp hz
      simpa using Int32.le_iff_toInt_le.mp this
    show z.toInt = ((z.toInt.toNat : Nat) : Int)
    omega
  intro T hT X
  obtain ⟨-, k0, hk0, cm0, hkk0⟩ := hA nb (fun j => .int (f j))
  obtain ⟨-, k1, hk1, cm1, hkk1⟩ := hA na (fun j => .int (g j))
  obtain ⟨vm', X', step⟩ := X.arraycopy hexec hown hlink hnat hstat hini (src := b) (dst := a) (cs := vp_cell cI (nb, .inl f)) (cd := vp_cell cI (na, .inl g)) (srcPos := sp) (destPos := dp) (n := n) (by rw [hT]; exact hcb) (by rw [hT]; exact hca)
    (fun _ h => by cases h) (fun _ h => by cases h) (fun h => by cases h) (fun h => by cases h) hk0 hk1 hkk0 hkk1 (by simp [refKind]) h1 h2 h3
    (by rw [nn sp h1, nn n h3]; show ¬ _ > ((arrV cI nb (fun j => .int (f j))).slots.size : Int); rw [arrV_size]; omega)
    (by rw [nn dp h2, nn n h3]; show ¬ _ > ((arrV cI na (fun j => .int (g j))).slots.size : Int); rw [arrV_size]; omega)
    (fun vm₁ _ i hi => by
      have e : (vp_cell cI (nb, .inl f)).slots.getD (sp.toNatClampNeg + i) .null = .int (f (sp.toNatClampNeg + i)) := by
        show (arrV cI nb (fun j => .int (f j))).slots.getD _ _ = _
        rw [Array.getD_eq_getD_getElem?, arrV_read _ _ (by omega)]
        rfl
      refine ⟨?_, ?_⟩
      · rw [e]
        rfl
      · rw [e]
        exact trivial)
    (g := F0 m pc ls (.int n :: .int dp :: .ref a :: .int sp :: .ref b :: rest)) rfl (by rw [hml]) (rest := rest) rfl (by rw [hb]; exact hdg) hframes (by show 2 * 0 + _ + _ ≤ _; omega)
  have e1 : copied (vp_cell cI (nb, .inl f)) (vp_cell cI (na, .inl g)) sp dp n = vp_cell cI (na, .inl (va_cpy f g sp.toNatClampNeg dp.toNatClampNeg n.toNatClampNeg)) := va_copied (fun z => .int z) cI cI f g h4
  rw [e1] at X' step
  have hheap : ((T.setVm vm').setCell a (vp_cell cI (na, .inl (va_cpy f g sp.toNatClampNeg dp.toNatClampNeg n.toNatClampNeg)))).heap = H.setIfInBounds a (vp_cell cI (na, .inl (va_cpy f g sp.toNatClampNeg dp.toNatClampNeg n.toNatClampNeg))) := by rw [← hT]; rfl
  obtain ⟨t, a1, b1⟩ := kk _ (fun q hq => by
    obtain ⟨z, -, hz⟩ := List.mem_map.mp hq
    rw [← hz]) _ hheap X'
  exact ⟨t, step t a1, b1⟩
set_option maxHeartbeats 4000000 in
theorem od_step_go (hT : od_T WS) {k pc : Nat} {ls : od_L} {st : List Value} {M : od_M} {lsM : Array Slot} (hC : od_Cx WS p s m args meth c k) (hL : lv_has lsM (od_nl k) (od_prs ls)) (hn : ls.length = od_nl k) (hK : od_Kx D K s) (hR : od_Rp D K B s M H) (hf : ∀ q ∈ locs, B ≤ q.base)
    {pc' : Nat} {ls' : od_L} {st' : List Value} {M' : od_M} (hs : od_step k pc ls st M = some (.inl (pc', ls', st', M'))) (hcl : cells + (M'.1 - M.1) ≤ R.cells) (hsl : slots + (M'.2.1 - M.2.1) ≤ R.slots) (hrf : 1 ≤ R.frames) (hrl : 100 ≤ R.locals)
    (kk : ∀ (H' : Heap) (locs' : List Loc) (lsM' : Array Slot), lv_has lsM' (od_nl k) (od_prs ls') → ls'.length = od_nl k → od_Rp D K B s M' H' → (∀ q ∈ locs', B ≤ q.base) →
      W p l e R s m args below meth c H' locs' (cells + (M'.1 - M.1)) (slots + (M'.2.1 - M.2.1)) Q (F0 m pc' lsM' st')) :
    W p l e R s m args below meth c H locs cells slots Q (F0 m pc lsM st) := by
  obtain ⟨hx, hb, hr, hml, hown, hts, hlk, hin⟩ := hC
  obtain ⟨tCd, tFd, tNw, tAn, tKi, tKl, tM7, tM8, tAr, tRow⟩ := hT
  have kk0 : M' = M → ∀ lsM' : Array Slot, lv_has lsM' (od_nl k) (od_prs ls') → ls'.length = od_nl k → W p l e R s m args below meth c H locs cells slots Q (F0 m pc' lsM' st') := by
    intro hM lsM' h1 h2
    subst hM
    have h3 := kk H locs lsM' h1 h2 hR hf
    rw [Nat.sub_self, Nat.sub_self, Nat.add_zero, Nat.add_zero] at h3
    exact h3
  have kk1 : ∀ (a : Nat) (x : od_E), M' = od_set M a x → ls' = ls → ∀ (H1 : Heap) (locs1 : List Loc), B ≤ a → H1.size = H.size → (∀ q, q ≠ a → H1[q]? = H[q]?) → od_at D K s a x H1 → (∀ q ∈ locs1, B ≤ q.base) → W p l e R s m args below meth c H1 locs1 cells slots Q (F0 m pc' lsM st') := by
    intro a x hM hls H1 locs1 hBa hz ho ha hf1
    subst hM
    subst hls
    have h3 := kk H1 locs1 lsM hL hn (hR.set hz ho ha hBa) hf1
    have e1 : (od_set M a x).1 - M.1 = 0 := Nat.sub_self _
    have e2 : (od_set M a x).2.1 - M.2.1 = 0 := Nat.sub_self _
    rw [e1, e2, Nat.add_zero, Nat.add_zero] at h3
    exact h3
  have kk2 : ∀ (n2 : Nat) (x : od_E), M' = od_add M n2 x → ls' = ls → ∀ (H1 : Heap), H1.size = M.1 + 1 → (∀ q, q < M.1 → H1[q]? = H[q]?) → od_at D K s M.1 x H1 → W p l e R s m args below meth c H1 locs (cells + 1) (slots + n2) Q (F0 m pc' lsM st') := by
    intro n2 x hM hls H1 hz ho ha
    subst hM
    subst hls
    have h3 := kk H1 locs lsM hL hn (hR.add hz ho ha) hf
    have e1 : (od_add M n2 x).1 - M.1 = 1 := Nat.add_sub_cancel_left _ _
    have e2 : (od_add M n2 x).2.1 - M.2.1 = n2 := Nat.add_sub_cancel_left _ _
    rw [e1, e2] at h3
    exact h3
  have rm2 : ∀ (n2 : Nat) (x : od_E), M' = od_add M n2 x → cells + 1 ≤ R.cells ∧ slots + n2 ≤ R.slots := by
    intro n2 x hM
    subst hM
    have e1 : (od_add M n2 x).1 - M.1 = 1 := Nat.add_sub_cancel_left _ _
    have e2 : (od_add M n2 x).2.1 - M.2.1 = n2 := Nat.add_sub_cancel_left _ _
    rw [e1] at hcl
    rw [e2] at hsl
    exact ⟨hcl, hsl⟩
  have noS : ∀ {a : Nat} {x : od_E}, M.2.2 a = some x → (∀ y, x ≠ .inr (.inr (.inr (.inr y)))) → B ≤ a := by
    intro a x h1 h2
    rcases (hR.2.2.1 a x h1).2 with h | ⟨y, h⟩
    · exact h
    · exact absurd h (h2 y)
  unfold od_step at hs
  cases hcd : od_cd k pc with
  | none => rw [hcd] at hs; cases hs
  | some q =>
  obtain ⟨i, n⟩ := q
  rw [hcd] at hs
  have hdg := tCd k pc i n hcd
  dsimp only at hs
  cases i
  case iconst v =>
    simp only [od_ins] at hs; split at hs
    · rename_i hq; subst hq; unfold od_go at hs; cases hs; exact lv_iconst hx hb hdg rfl (kk0 rfl lsM hL hn)
    · cases hs
  case bipush v =>
    simp only [od_ins] at hs; split at hs
    · rename_i hq; subst hq; unfold od_go at hs; cases hs; exact lv_bipush hx hb hdg rfl (kk0 rfl lsM hL hn)
    · cases hs
  case sipush v =>
    simp only [od_ins] at hs; split at hs
    · rename_i hq; subst hq; unfold od_go at hs; cases hs; exact lv_sipush hx hb hdg rfl (kk0 rfl lsM hL hn)
    · cases hs
  case lconst v =>
    simp only [od_ins] at hs; split at hs
    · rename_i hq; subst hq; unfold od_go at hs; cases hs; exact lv_lconst hx hb hdg rfl (kk0 rfl lsM hL hn)
    · cases hs
  case ldc ix =>
    simp only [od_ins] at hs; split at hs
    · rename_i hq; subst hq; split at hs
      · rename_i v hv; unfold od_go at hs; cases hs; exact lv_ldc hx hb hown (hts _ (tKi _ _ _ hv)) hdg (kk0 rfl lsM hL hn)
      · cases hs
    · cases hs
  case ldc2_w ix =>
    simp only [od_ins] at hs; split at hs
    · rename_i hq; subst hq; split at hs
      · rename_i v hv; unfold od_go at hs; cases hs; exact lv_ldc2 hx hb hown (hts _ (tKl _ _ _ hv)) hdg (kk0 rfl lsM hL hn)
      · cases hs
    · cases hs
  case iload j =>
    simp only [od_ins] at hs; split at hs
    · rename_i hq; subst hq; unfold od_ild at hs; split at hs
      · rename_i x hv; unfold od_go at hs; cases hs; exact lv_iload hx hb hdg (od_has_at hL hv) (kk0 rfl lsM hL hn)
      · cases hs
    · cases hs
  case iload_n j =>
    simp only [od_ins] at hs; split at hs
    · rename_i hq; subst hq; unfold od_ild at hs; split at hs
      · rename_i x hv; unfold od_go at hs; cases hs; exact lv_iload_n hx hb hdg rfl (od_has_at hL hv) (kk0 rfl lsM hL hn)
      · cases hs
    · cases hs
  case lload j =>
    simp only [od_ins] at hs; split at hs
    · rename_i hq; subst hq; unfold od_lld at hs; split at hs
      · rename_i x hv; unfold od_go at hs; cases hs; exact lv_lload hx hb hdg (od_has_at hL hv) (kk0 rfl lsM hL hn)
      · cases hs
    · cases hs
  case lload_n j =>
    simp only [od_ins] at hs; split at hs
    · rename_i hq; subst hq; unfold od_lld at hs; split at hs
      · rename_i x hv; unfold od_go at hs; cases hs; exact lv_lload_n hx hb hdg rfl (od_has_at hL hv) (kk0 rfl lsM hL hn)
      · cases hs
    · cases hs
  case aload j =>
    simp only [od_ins] at hs; split at hs
    · rename_i hq; subst hq; unfold od_ald at hs; split at hs
      · rename_i x hv; unfold od_go at hs; cases hs; exact lv_aload hx hb hdg (od_has_at hL hv) (kk0 rfl lsM hL hn)
      · cases hs
    · cases hs
  case aload_n j =>
    simp only [od_ins] at hs; split at hs
    · rename_i hq; subst hq; unfold od_ald at hs; split at hs
      · rename_i x hv; unfold od_go at hs; cases hs; exact lv_aload_n hx hb hdg rfl (od_has_at hL hv) (kk0 rfl lsM hL hn)
      · cases hs
    · cases hs
  case istore j =>
    simp only [od_ins] at hs; split at hs
    · rename_i hq; subst hq; unfold od_ist at hs; split at hs
      · split at hs
        · rename_i hj; unfold od_go at hs; cases hs
          exact lv_istore hx hb hdg hL (by rw [← hn]; exact hj) rfl (fun ls2 h2 => kk0 rfl ls2 (od_has_s1 h2) (by rw [od_s1_len]; exact hn))
        · cases hs
      · cases hs
    · cases hs
  case istore_n j =>
    simp only [od_ins] at hs; split at hs
    · rename_i hq; subst hq; unfold od_ist at hs; split at hs
      · split at hs
        · rename_i hj; unfold od_go at hs; cases hs
          exact lv_istore_n hx hb hdg rfl hL (by rw [← hn]; exact hj) rfl (fun ls2 h2 => kk0 rfl ls2 (od_has_s1 h2) (by rw [od_s1_len]; exact hn))
        · cases hs
      · cases hs
    · cases hs
  case lstore j =>
    simp only [od_ins] at hs; split at hs
    · rename_i hq; subst hq; unfold od_lst at hs; split at hs
      · split at hs
        · rename_i hj; unfold od_go at hs; cases hs
          exact lv_lstore hx hb hdg hL (by rw [← hn]; exact hj) rfl (fun ls2 h2 => kk0 rfl ls2 (od_has_s2 h2) (by rw [od_s2_len]; exact hn))
        · cases hs
      · cases hs
    · cases hs
  case lstore_n j =>
    simp only [od_ins] at hs; split at hs
    · rename_i hq; subst hq; unfold od_lst at hs; split at hs
      · split at hs
        · rename_i hj; unfold od_go at hs; cases hs
          exact lv_lstore_n hx hb hdg rfl hL (by rw [← hn]; exact hj) rfl (fun ls2 h2 => kk0 rfl ls2 (od_has_s2 h2) (by rw [od_s2_len]; exact hn))
        · cases hs
      · cases hs
    · cases hs
  case astore j =>
    simp only [od_ins] at hs; split at hs
    · rename_i hq; subst hq; unfold od_ast at hs; split at hs
      · split at hs
        · rename_i hj; unfold od_go at hs; cases hs
          exact lv_astore hx hb hdg hL (by rw [← hn]; exact hj) rfl (fun ls2 h2 => kk0 rfl ls2 (od_has_s1 h2) (by rw [od_s1_len]; exact hn))
        · cases hs
      · cases hs
    · cases hs
  case astore_n j =>
    simp only [od_ins] at hs; split at hs
    · rename_i hq; subst hq; unfold od_ast at hs; split at hs
      · split at hs
        · rename_i hj; unfold od_go at hs; cases hs
          exact lv_astore_n hx hb hdg rfl hL (by rw [← hn]; exact hj) rfl (fun ls2 h2 => kk0 rfl ls2 (od_has_s1 h2) (by rw [od_s1_len]; exact hn))
        · cases hs
      · cases hs
    · cases hs
  case iinc j d =>
    simp only [od_ins] at hs; split at hs
    · rename_i hq; subst hq; unfold od_iinc at hs; split at hs
      · rename_i x hv
        split at hs
        · rename_i hj; unfold od_go at hs; cases hs
          obtain ⟨kx, hkx⟩ := List.getElem?_of_mem (od_prs_of hv)
          exact lv_iinc hx hb hdg hL hkx rfl (by rw [← hn]; exact hj) rfl (fun ls2 h2 => kk0 rfl ls2 (od_has_s1 h2) (by rw [od_s1_len]; exact hn))
        · cases hs
      · cases hs
    · cases hs
  case iadd =>
    simp only [od_ins] at hs; split at hs
    · rename_i hq; subst hq; unfold od_i2 at hs; split at hs
      · dsimp only at hs; unfold od_go at hs; cases hs; exact lv_iadd hx hb hdg (kk0 rfl lsM hL hn)
      · cases hs
    · cases hs
  case isub =>
    simp only [od_ins] at hs; split at hs
    · rename_i hq; subst hq; unfold od_i2 at hs; split at hs
      · dsimp only at hs; unfold od_go at hs; cases hs; exact lv_isub hx hb hdg (kk0 rfl lsM hL hn)
      · cases hs
    · cases hs
  case imul =>
    simp only [od_ins] at hs; split at hs
    · rename_i hq; subst hq; unfold od_i2 at hs; split at hs
      · dsimp only at hs; unfold od_go at hs; cases hs; exact lv_imul hx hb hdg (kk0 rfl lsM hL hn)
      · cases hs
    · cases hs
  case iand =>
    simp only [od_ins] at hs; split at hs
    · rename_i hq; subst hq; unfold od_i2 at hs; split at hs
      · dsimp only at hs; unfold od_go at hs; cases hs; exact lv_iand hx hb hdg (kk0 rfl lsM hL hn)
      · cases hs
    · cases hs
  case ladd =>
    simp only [od_ins] at hs; split at hs
    · rename_i hq; subst hq; unfold od_l2 at hs; split at hs
      · dsimp only at hs; unfold od_go at hs; cases hs; exact lv_ladd hx hb hdg (kk0 rfl lsM hL hn)
      · cases hs
    · cases hs
  case lsub =>
    simp only [od_ins] at hs; split at hs
    · rename_i hq; subst hq; unfold od_l2 at hs; split at hs
      · dsimp only at hs; unfold od_go at hs; cases hs; exact lv_lsub hx hb hdg (kk0 rfl lsM hL hn)
      · cases hs
    · cases hs
  case lmul =>
    simp only [od_ins] at hs; split at hs
    · rename_i hq; subst hq; unfold od_l2 at hs; split at hs
      · dsimp only at hs; unfold od_go at hs; cases hs; exact lv_lmul hx hb hdg (kk0 rfl lsM hL hn)
      · cases hs
    · cases hs
  case idiv =>
    simp only [od_ins] at hs; split at hs
    · rename_i hq; subst hq; unfold od_i2 at hs; split at hs
      · rename_i y x r; dsimp only at hs; by_cases hy : y = 0
        · rw [if_pos hy] at hs; cases hs
        · rw [if_neg hy] at hs; dsimp only at hs; unfold od_go at hs; cases hs; exact lv_idiv hx hb hdg hy (kk0 rfl lsM hL hn)
      · cases hs
    · cases hs
  case irem =>
    simp only [od_ins] at hs; split at hs
    · rename_i hq; subst hq; unfold od_i2 at hs; split at hs
      · rename_i y x r; dsimp only at hs; by_cases hy : y = 0
        · rw [if_pos hy] at hs; cases hs
        · rw [if_neg hy] at hs; dsimp only at hs; unfold od_go at hs; cases hs; exact lv_irem hx hb hdg hy (kk0 rfl lsM hL hn)
      · cases hs
    · cases hs
  case ldiv =>
    simp only [od_ins] at hs; split at hs
    · rename_i hq; subst hq; unfold od_l2 at hs; split at hs
      · rename_i y x r; dsimp only at hs; by_cases hy : y = 0
        · rw [if_pos hy] at hs; cases hs
        · rw [if_neg hy] at hs; dsimp only at hs; unfold od_go at hs; cases hs; exact lv_ldiv hx hb hdg hy (kk0 rfl lsM hL hn)
      · cases hs
    · cases hs
  case lrem =>
    simp only [od_ins] at hs; split at hs
    · rename_i hq; subst hq; unfold od_l2 at hs; split at hs
      · rename_i y x r; dsimp only at hs; by_cases hy : y = 0
        · rw [if_pos hy] at hs; cases hs
        · rw [if_neg hy] at hs; dsimp only at hs; unfold od_go at hs; cases hs; exact lv_lrem hx hb hdg hy (kk0 rfl lsM hL hn)
      · cases hs
    · cases hs
  case lcmp =>
    simp only [od_ins] at hs; split at hs
    · rename_i hq; subst hq; unfold od_lcmp at hs; split at hs
      · unfold od_go at hs; cases hs; exact W.lcmp hx hb hdg (kk0 rfl lsM hL hn)
      · cases hs
    · cases hs
  case i2l =>
    simp only [od_ins] at hs; split at hs
    · rename_i hq; subst hq; unfold od_i2l at hs; split at hs
      · unfold od_go at hs; cases hs; exact lv_i2l hx hb hdg rfl (kk0 rfl lsM hL hn)
      · cases hs
    · cases hs
  case l2i =>
    simp only [od_ins] at hs; split at hs
    · rename_i hq; subst hq; unfold od_l2i at hs; split at hs
      · unfold od_go at hs; cases hs; exact lv_l2i hx hb hdg rfl (kk0 rfl lsM hL hn)
      · cases hs
    · cases hs
  case dup =>
    simp only [od_ins] at hs; split at hs
    · rename_i hq; subst hq; unfold od_dup at hs; split at hs
      · split at hs
        · rename_i hv; unfold od_go at hs; cases hs; exact lv_dup hx hb hdg hv (kk0 rfl lsM hL hn)
        · cases hs
      · cases hs
    · cases hs
  case dup2 =>
    simp only [od_ins] at hs; split at hs
    · rename_i hq; subst hq; unfold od_dup2 at hs; split at hs
      · split at hs
        · rename_i hv; unfold od_go at hs; cases hs; exact lv_dup2_11 hx hb hdg hv.1 hv.2 (kk0 rfl lsM hL hn)
        · cases hs
      · cases hs
    · cases hs
  case pop =>
    simp only [od_ins] at hs; split at hs
    · rename_i hq; subst hq; unfold od_pop at hs; split at hs
      · split at hs
        · rename_i hv; unfold od_go at hs; cases hs; exact lv_pop hx hb hdg hv (kk0 rfl lsM hL hn)
        · cases hs
      · cases hs
    · cases hs
  case goto off =>
    simp only [od_ins] at hs; split at hs
    · rename_i hq; subst hq; obtain ⟨h1, h2, h3, h4⟩ := od_br_to hs; dsimp only at h1 h2 h3 h4; subst h2; subst h3; exact lv_goto hx hb hdg h1 (kk0 h4 lsM hL hn)
    · cases hs
  case ifCond cnd off =>
    simp only [od_ins] at hs; split at hs
    · rename_i hq; subst hq; unfold od_if1 at hs; split at hs
      · rename_i x r; split at hs
        · rename_i h0
          have ht : (pc : Int) + off = ((((pc : Int) + off).toNat : Nat) : Int) := (Int.toNat_of_nonneg h0).symm
          by_cases hc : od_cond cnd x 0 = true
          · rw [if_pos hc] at hs; unfold od_go at hs; cases hs
            have K0 := kk0 rfl lsM hL hn
            cases cnd
            · exact lv_if_eq hx hb hdg ht (fun _ => K0) (fun h => absurd (of_decide_eq_true hc) h)
            · exact lv_if_ne hx hb hdg ht (fun _ => K0) (fun h => absurd hc (by simp [od_cond, h]))
            · exact lv_if_lt hx hb hdg ht (fun _ => K0) (fun h => absurd (of_decide_eq_true hc) h)
            · exact lv_if_ge hx hb hdg ht (fun _ => K0) (fun h => absurd (of_decide_eq_true hc) h)
            · exact lv_if_gt hx hb hdg ht (fun _ => K0) (fun h => absurd (of_decide_eq_true hc) h)
            · exact lv_if_le hx hb hdg ht (fun _ => K0) (fun h => absurd (of_decide_eq_true hc) h)
          · rw [if_neg hc] at hs; unfold od_go at hs; cases hs
            have K0 := kk0 rfl lsM hL hn
            cases cnd
            · exact lv_if_eq hx hb hdg ht (fun h => absurd (decide_eq_true h) hc) (fun _ => K0)
            · exact lv_if_ne hx hb hdg ht (fun h => absurd (by simp [od_cond, h]) hc) (fun _ => K0)
            · exact lv_if_lt hx hb hdg ht (fun h => absurd (decide_eq_true h) hc) (fun _ => K0)
            · exact lv_if_ge hx hb hdg ht (fun h => absurd (decide_eq_true h) hc) (fun _ => K0)
            · exact lv_if_gt hx hb hdg ht (fun h => absurd (decide_eq_true h) hc) (fun _ => K0)
            · exact lv_if_le hx hb hdg ht (fun h => absurd (decide_eq_true h) hc) (fun _ => K0)
        · cases hs
      · cases hs
    · cases hs
  case if_icmp cnd off =>
    simp only [od_ins] at hs; split at hs
    · rename_i hq; subst hq; unfold od_if2 at hs; split at hs
      · rename_i y x r; split at hs
        · rename_i h0
          have ht : (pc : Int) + off = ((((pc : Int) + off).toNat : Nat) : Int) := (Int.toNat_of_nonneg h0).symm
          by_cases hc : od_cond cnd x y = true
          · rw [if_pos hc] at hs; unfold od_go at hs; cases hs
            have K0 := kk0 rfl lsM hL hn
            cases cnd
            · exact lv_icmp_eq hx hb hdg ht (fun _ => K0) (fun h => absurd (of_decide_eq_true hc) h)
            · exact lv_icmp_ne hx hb hdg ht (fun _ => K0) (fun h => absurd hc (by simp [od_cond, h]))
            · exact lv_icmp_lt hx hb hdg ht (fun _ => K0) (fun h => absurd (of_decide_eq_true hc) h)
            · exact lv_icmp_ge hx hb hdg ht (fun _ => K0) (fun h => absurd (of_decide_eq_true hc) h)
            · exact lv_icmp_gt hx hb hdg ht (fun _ => K0) (fun h => absurd (of_decide_eq_true hc) h)
            · exact lv_icmp_le hx hb hdg ht (fun _ => K0) (fun h => absurd (of_decide_eq_true hc) h)
          · rw [if_neg hc] at hs; unfold od_go at hs; cases hs
            have K0 := kk0 rfl lsM hL hn
            cases cnd
            · exact lv_icmp_eq hx hb hdg ht (fun h => absurd (decide_eq_true h) hc) (fun _ => K0)
            · exact lv_icmp_ne hx hb hdg ht (fun h => absurd (by simp [od_cond, h]) hc) (fun _ => K0)
            · exact lv_icmp_lt hx hb hdg ht (fun h => absurd (decide_eq_true h) hc) (fun _ => K0)
            · exact lv_icmp_ge hx hb hdg ht (fun h => absurd (decide_eq_true h) hc) (fun _ => K0)
            · exact lv_icmp_gt hx hb hdg ht (fun h => absurd (decide_eq_true h) hc) (fun _ => K0)
            · exact lv_icmp_le hx hb hdg ht (fun h => absurd (decide_eq_true h) hc) (fun _ => K0)
        · cases hs
      · cases hs
    · cases hs
  case tableswitch dflt lo hi offs =>
    simp only [od_ins] at hs
    unfold od_sw at hs; split at hs
    · rename_i x r; split at hs
      · rename_i ho
        obtain ⟨h1, h2, h3, h4⟩ := od_br_to hs; dsimp only at h1 h2 h3 h4; subst h2; subst h3
        exact lv_tableOut hx hb hdg ho h1 (kk0 h4 lsM hL hn)
      · rename_i ho
        split at hs
        · rename_i off hof
          obtain ⟨h1, h2, h3, h4⟩ := od_br_to hs; dsimp only at h1 h2 h3 h4; subst h2; subst h3
          exact lv_tableIn hx hb hdg (fun h => ho (Or.inl h)) (fun h => ho (Or.inr h)) hof h1 (kk0 h4 lsM hL hn)
        · cases hs
    · cases hs
  case iaload =>
    simp only [od_ins] at hs; split at hs
    · rename_i hq; subst hq; unfold od_iald at hs; split at hs
      · rename_i i a r; split at hs
        · rename_i n f hM; split at hs
          · rename_i hi; unfold od_go at hs; cases hs
            exact va_iald hx hb hK (od_one (q := (a, .inl (K.1, n, .inl f))) (hR.at hM)) 0 0 rfl rfl (od_ix_in hi) hdg (kk0 rfl lsM hL hn)
          · cases hs
        · rename_i n f hM; split at hs
          · rename_i hi; unfold od_go at hs; cases hs
            obtain ⟨scr, g1, g2, g3, g4, g5⟩ := hR.at hM
            have hin' := od_ix_in hi
            exact W.iald (v := .int (f i.toNatClampNeg)) hx hb g1 g2 g3 (by rw [g4]; exact hin') (g5 _ (Nat.not_le.mp fun q => hin' (Or.inr q))) rfl rfl hdg (kk0 rfl lsM hL hn)
          · cases hs
        · cases hs
      · cases hs
    · cases hs
  case laload =>
    simp only [od_ins] at hs; split at hs
    · rename_i hq; subst hq; unfold od_lald at hs; split at hs
      · rename_i i a r; split at hs
        · rename_i n f hM; split at hs
          · rename_i hi; unfold od_go at hs; cases hs
            exact va_lald hx hb hK (od_one (q := (a, .inl (K.2.1, n, .inr (.inl f)))) (hR.at hM)) 0 1 rfl rfl (od_ix_in hi) hdg (kk0 rfl lsM hL hn)
          · cases hs
        · cases hs
      · cases hs
    · cases hs
  case aaload =>
    simp only [od_ins] at hs; split at hs
    · rename_i hq; subst hq; unfold od_aald at hs; split at hs
      · rename_i i a r; split at hs
        · rename_i n f hM; split at hs
          · rename_i hi; unfold od_go at hs; cases hs
            exact va_aldq hx hb hK (od_one (q := (a, .inl (K.2.2, n, .inr (.inr (.inr (.inr f)))))) (hR.at hM)) 0 2 rfl rfl (od_ix_in hi) hdg (kk0 rfl lsM hL hn)
          · cases hs
        · cases hs
      · cases hs
    · cases hs
  case arraylength =>
    simp only [od_ins] at hs; split at hs
    · rename_i hq; subst hq; unfold od_alen at hs; split at hs
      · rename_i a r; split at hs
        · rename_i n f hM; unfold od_go at hs; cases hs
          exact va_alen (x := (n, .inl f)) hx hb hK (od_one (q := (a, .inl (K.1, n, .inl f))) (hR.at hM)) 0 0 rfl rfl rfl hdg (kk0 rfl lsM hL hn)
        · rename_i n f hM; unfold od_go at hs; cases hs
          obtain ⟨scr, g1, g2, g3, g4, g5⟩ := hR.at hM
          exact W.alen (n := Int32.ofNat n) hx hb g1 g2 (by rw [g4] <;> rfl) rfl rfl hdg (kk0 rfl lsM hL hn)
        · cases hs
      · cases hs
    · cases hs
  case iastore =>
    simp only [od_ins] at hs; split at hs
    · rename_i hq; subst hq; unfold od_iast at hs; split at hs
      · rename_i x i a r; split at hs
        · rename_i n f hM; split at hs
          · rename_i hi; unfold od_go at hs; cases hs
            have hBa := noS hM (fun y h => by cases h)
            refine W.iast hx hb (hR.at hM) ((hK.2 0 _ rfl).1 n (fun j => .int (f j))) (fun q => by cases q) (by show ¬ (i < 0 ∨ (arrV _ _ _).slots.size ≤ _); rw [arrV_size]; exact od_ix_in hi) rfl rfl hdg (fun H1 e1 z1 o1 => ?_)
            exact kk1 a _ rfl rfl H1 _ hBa z1 o1 (by show H1[a]? = some (vp_cell _ _); rw [e1]; exact congrArg some (od_cell_i _ _ _ _ _)) (od_locs hf hBa)
          · cases hs
        · cases hs
      · cases hs
    · cases hs
  case lastore =>
    simp only [od_ins] at hs; split at hs
    · rename_i hq; subst hq; unfold od_last at hs; split at hs
      · rename_i x i a r; split at hs
        · rename_i n f hM; split at hs
          · rename_i hi; unfold od_go at hs; cases hs
            have hBa := noS hM (fun y h => by cases h)
            refine W.last hx hb (hR.at hM) ((hK.2 1 _ rfl).1 n (fun j => .long (f j))) (fun q => by cases q) (by show ¬ (i < 0 ∨ (arrV _ _ _).slots.size ≤ _); rw [arrV_size]; exact od_ix_in hi) rfl rfl hdg (fun H1 e1 z1 o1 => ?_)
            exact kk1 a _ rfl rfl H1 _ hBa z1 o1 (by show H1[a]? = some (vp_cell _ _); rw [e1]; exact congrArg some (od_cell_l _ _ _ _ _)) (od_locs hf hBa)
          · cases hs
        · cases hs
      · cases hs
    · cases hs
  case aastore =>
    simp only [od_ins] at hs; split at hs
    · rename_i hq; subst hq; unfold od_aast at hs; split at hs
      · rename_i v i a r; split at hs
        · rename_i n f cv fv hM hV; split at hs
          · rename_i hi; unfold od_go at hs; cases hs
            obtain ⟨hi, hcv⟩ := hi
            subst hcv
            have hBa := noS hM (fun y h => by cases h)
            have hin' := od_ix_in hi
            obtain ⟨rT, rN, hrow⟩ := tRow
            obtain ⟨r', hr', cellV, g1, g2, g3, -⟩ := (hR.at hV)
            have hcls := (hK.1 od_row _ hrow).2
            obtain ⟨kA, comp, k1, k2, k3, -⟩ := (hK.2 2 _ rfl).2
            have hcomp : comp = D.1 od_row := Option.some.inj (k3.symm.trans hcls.1)
            subst hcomp
            obtain ⟨kC, hkC, -⟩ := hcls.2
            refine W.aast hx hb (hR.at hM) (fun q h => by cases h) (fun h => by cases h) k1 k2 rfl hkC ⟨fun q => hin' (Or.inl q), by show _ < (arrV _ _ _).slots.size; rw [arrV_size]; exact Nat.not_le.mp fun q => hin' (Or.inr q)⟩ g1 (fun q h => by rw [g3] at h; cases h) (by rw [g2]; exact hkC) (by rw [g2]; exact va_assign hcls) rfl rfl hdg (fun H1 e1 z1 o1 => ?_)
            exact kk1 a _ rfl rfl H1 _ hBa z1 o1 (by show H1[a]? = some (vp_cell _ _); rw [e1]; exact congrArg some (od_cell_q _ _ _ _ _)) (od_locs hf hBa)
          · cases hs
        · cases hs
      · cases hs
    · cases hs
  case getfield ix =>
    simp only [od_ins] at hs; split at hs
    · rename_i hq; subst hq; unfold od_get at hs; split at hs
      · rename_i a r; split at hs
        · rename_i cn fs cn' kf tt hM hfd; split at hs
          · rename_i hcn; subst hcn; split at hs
            · rename_i v hv; unfold od_go at hs; cases hs
              obtain ⟨C, T, N, ty, hc, hws, hty, hnm, hkN, hlk, htyo, hdecl⟩ := tFd _ _ _ _ _ hfd
              exact va_get hx hb hts hws hown hK (od_one (q := (a, .inr (cn, fs))) (hR.at hM)) 0 rfl hc kf hkN (hts _ hlk) (fun _ h => h) hv hdg (kk0 rfl lsM hL hn)
            · cases hs
          · cases hs
        · cases hs
      · cases hs
    · cases hs
  case putfield ix =>
    simp only [od_ins] at hs; split at hs
    · rename_i hq; subst hq; unfold od_put at hs; split at hs
      · rename_i v a r; split at hs
        · rename_i cn fs cn' kf tt hM hfd; split at hs
          · rename_i hcn; unfold od_go at hs; cases hs
            obtain ⟨rfl, h2, h3, h4⟩ := hcn
            have hBa := noS hM (fun y h => by cases h)
            exact od_Wput ⟨tCd, tFd, tNw, tAn, tKi, tKl, tM7, tM8, tAr, tRow⟩ hx hb hown hts hin hK (hR.at hM) hfd h2 h3 h4 hdg (fun H1 i e1 z1 o1 => kk1 a _ rfl rfl H1 _ hBa z1 o1 e1 (od_locs hf hBa))
          · cases hs
        · cases hs
      · cases hs
    · cases hs
  case new ix =>
    simp only [od_ins] at hs; split at hs
    · rename_i hq; subst hq; unfold od_new at hs; split at hs
      · rename_i cn fs hnw; unfold od_go at hs; cases hs
        obtain ⟨C, T, N, ty, hc, hws, hty, hlk, hinst, hini, hlen, hdef⟩ := tNw _ _ _ _ hnw
        obtain ⟨hc1, hs1⟩ := rm2 _ _ rfl
        rw [hlen] at hs1
        have hKn := hK.1 cn _ hc
        refine W.newcK hx hb hown (hts _ hlk) (hts _ hinst) (hts _ hini) rfl hdg hc1 hs1 hKn.2.1 hR.1 (fun H1 kC hkC e1 z1 o1 => ?_)
        have h3 := kk2 _ _ rfl rfl H1 z1 o1 ⟨_, hc, (u_born ty hts hws hKn hkC e1 hty).to hdef⟩
        rw [hlen] at h3
        exact h3
      · split at hs
        · split at hs <;> cases hs
        · cases hs
    · cases hs
  case newarray t =>
    simp only [od_ins] at hs; split at hs
    · rename_i hq; subst hq; unfold od_newa at hs; split at hs
      · rename_i n r; split at hs
        · rename_i hn0
          have hn1 : ¬ n < 0 := fun h => absurd hn0.1 (Int32.not_le.mpr h)
          split at hs
          · unfold od_go at hs; cases hs
            obtain ⟨hc1, hs1⟩ := rm2 _ _ rfl
            refine va_newaK (atype := .int) hx hb (hts _ tAr.1) rfl hdg rfl hn1 rfl (by show n.toNatClampNeg * 4 ≤ _; omega) hc1 hs1 hR.1 (fun H1 cA e1 z1 o1 hA hN => ?_)
            have hcA : cA = K.1 := Option.some.inj (hN.symm.trans (hK.2 0 _ rfl).2)
            subst hcA
            exact kk2 _ _ rfl rfl H1 z1 o1 e1
          · unfold od_go at hs; cases hs
            obtain ⟨hc1, hs1⟩ := rm2 _ _ rfl
            refine va_newaK (atype := .long) hx hb (hts _ tAr.2) rfl hdg rfl hn1 rfl (by show n.toNatClampNeg * 8 ≤ _; omega) hc1 hs1 hR.1 (fun H1 cA e1 z1 o1 hA hN => ?_)
            have hcA : cA = K.2.1 := Option.some.inj (hN.symm.trans (hK.2 1 _ rfl).2)
            subst hcA
            exact kk2 _ _ rfl rfl H1 z1 o1 e1
          · cases hs
        · cases hs
      · cases hs
    · cases hs
  case anewarray ix =>
    simp only [od_ins] at hs; split at hs
    · rename_i hq; subst hq; unfold od_anew at hs; split at hs
      · rename_i n r; split at hs
        · rename_i hn0; unfold od_go at hs; cases hs
          have hn1 : ¬ n < 0 := fun h => absurd hn0.1 (Int32.not_le.mpr h)
          obtain ⟨hc1, hs1⟩ := rm2 _ _ rfl
          obtain ⟨hl1, hl2⟩ := tAn _ _ hn0.2.2
          refine W.anew hx hb hown (hts _ hl1) (hts _ hl2) rfl hdg rfl hn1 (by omega) hc1 hs1 (fun cA kA comp h1 h2 h3 h4 => ?_)
          obtain ⟨kA', comp', k1, k2, k3, k4⟩ := (hK.2 2 _ rfl).2
          have hcA : cA = K.2.2 := Option.some.inj (h1.symm.trans k4)
          subst hcA
          refine W.eq (g2 := F0 m (pc + 3) lsM (.ref M.1 :: r)) (by rw [← hR.1]) ?_
          refine kk2 _ _ rfl rfl (H.push { cls := K.2.2, slots := Array.replicate n.toNatClampNeg .null, vm := .none }) (by rw [Array.size_push, hR.1]) (fun q hq => by rw [Array.getElem?_push, if_neg (by rw [hR.1]; omega)]) ?_
          show (H.push _)[M.1]? = some (vp_cell _ _)
          rw [vp_cell_q, ← hR.1]
          simp [arrV, va_rf, Array.ext_iff]
        · cases hs
      · cases hs
    · cases hs
  case invokevirtual ix =>
    simp only [od_ins] at hs; split at hs
    · rename_i hq; subst hq; unfold od_inv at hs; split at hs
      · rename_i j kd' n hmd; split at hs
        · rename_i h7; subst h7
          rw [if_neg (by decide)] at hs; cases hs
        · split at hs
          · rename_i h8; subst h8
            rw [if_neg (by decide)] at hs; cases hs
          · split at hs
            · cases hs
            · cases hs
      · cases hs
    · cases hs
  case invokestatic ix =>
    simp only [od_ins] at hs; split at hs
    · rename_i hq; subst hq; unfold od_inv at hs; split at hs
      · rename_i j kd' n hmd; split at hs
        · rename_i h7; subst h7
          rw [if_pos rfl] at hs
          unfold od_cpy at hs; split at hs
          · rename_i n dp a sp b r; split at hs
            · rename_i nb f na g hMb hMa; split at hs
              · rename_i hh; unfold od_go at hs; cases hs
                obtain ⟨h1, h2, h3, h4, h5, h6⟩ := hh
                have hBa := noS hMa (fun y h => by cases h)
                obtain ⟨l1, l2, l3, l4⟩ := tM7 _ _ _ _ hmd
                have hnw : nativeFrameWords "java/lang/System" "arraycopy" 5 ≤ 50 := by decide +kernel
                have hla : a < H.size := (hR.at hMa).lt
                refine od_Wcpy hx hb (hml.trans hL.1.symm) hown (hts _ l1) (hts _ l2) (hts _ l3) (hts _ l4) (hR.at hMb) (hR.at hMa) (hK.2 0 _ rfl).1 (fun h => absurd h3 (Int32.not_le.mpr h)) (fun h => absurd h2 (Int32.not_le.mpr h)) (fun h => absurd h1 (Int32.not_le.mpr h)) h4 h5 hrf (by omega) hdg (fun L hLq => ?_)
                refine kk1 a _ rfl rfl _ _ hBa (by simp) (fun q hq => by simp [Array.getElem?_setIfInBounds, Ne.symm hq]) ?_ (fun q hq => ?_)
                · show (H.setIfInBounds a _)[a]? = some (vp_cell _ _)
                  simp [Array.getElem?_setIfInBounds, hla]
                · rcases List.mem_append.mp hq with h | h
                  · exact hf q h
                  · rw [hLq q h]; exact hBa
              · cases hs
            · cases hs
          · cases hs
        · split at hs
          · rename_i h8; subst h8
            rw [if_neg (by decide)] at hs; cases hs
          · split at hs
            · cases hs
            · cases hs
      · cases hs
    · cases hs
  case invokespecial ix =>
    simp only [od_ins] at hs; split at hs
    · rename_i hq; subst hq; unfold od_inv at hs; split at hs
      · rename_i j kd' n hmd; split at hs
        · rename_i h7; subst h7
          rw [if_neg (by decide)] at hs; cases hs
        · split at hs
          · rename_i h8; subst h8
            rw [if_pos rfl] at hs
            split at hs
            · rename_i a r; split at hs
              · rename_i hw; unfold od_go at hs; cases hs
                obtain ⟨l1, l2, l3⟩ := tM8 _ _ _ _ hmd
                exact W.objInit hx hb hown (hts _ l1) (hts _ l2) (hts _ l3) rfl (hL.1.trans hml.symm) rfl hdg hrf (by show 2 * 0 + _ + 12 ≤ _; omega) (kk0 rfl lsM hL hn)
              · cases hs
            · cases hs
          · split at hs
            · cases hs
            · cases hs
      · cases hs
    · cases hs
  case return_ =>
    simp only [od_ins] at hs; split at hs
    · rename_i hq; subst hq; unfold od_rv at hs; split at hs
      all_goals first | (cases hs; done) | (split at hs <;> cases hs)
    · cases hs
  case ireturn =>
    simp only [od_ins] at hs; split at hs
    · rename_i hq; subst hq; unfold od_ri at hs; split at hs
      all_goals first | (cases hs; done) | (split at hs <;> cases hs)
    · cases hs
  case lreturn =>
    simp only [od_ins] at hs; split at hs
    · rename_i hq; subst hq; unfold od_rl at hs; split at hs
      all_goals first | (cases hs; done) | (split at hs <;> cases hs)
    · cases hs
  case areturn =>
    simp only [od_ins] at hs; split at hs
    · rename_i hq; subst hq; unfold od_rr at hs; split at hs
      all_goals first | (cases hs; done) | (split at hs <;> cases hs)
    · cases hs
  all_goals (simp only [od_ins] at hs; cases hs)
end ODS
end
section
/-! A run of the small machine is a run of the real one. -/
def od_is (U : State) (k : Nat) : Prop := ∃ (mk : MethodId) (methY : Method) (cY : Code), U.methodNamed? (od_y k) = some mk ∧ U.vm.method? mk = some methY ∧ methY.code = some cY ∧ cY.code = od_by k ∧ cY.maxLocals = od_nl k ∧ methY.sig.returnType = od_rf k ∧ methY.locks = false ∧ cY.exceptionTable.toList.map (fun h => (h.startPc, h.endPc, h.handlerPc, h.catchType)) = od_ht k ∧ parseMethodDescriptor (od_y k).desc = some methY.sig
/-- the words of a call from the class own by the pool's entry ix to the method j, of kind kd with n arguments -/
def od_lk (WS : List Cond) (own ix j kd n : Nat) : Prop := (kd = 0 ∨ kd = 1 ∨ kd = 2) ∧ ((od_y j).cls ≠ "java/lang/invoke/MethodHandle" ∧ (od_y j).cls ≠ "java/lang/invoke/VarHandle") ∧
  (kd = 0 → Cond.methodLink (od_cn own) ix (od_y j) ∈ WS ∧ Cond.instanceMethod (od_y j) ∈ WS ∧ (∃ (C : String) (T : u_T) (N : Nat), od_cls[od_oc j]? = some (C, T, N) ∧ Cond.selects C (od_y j) (od_y j) ∈ WS) ∧ (parseMethodDescriptor (od_y j).desc).map (fun g => g.parameters.length + 1) = some n) ∧
  (kd = 1 → Cond.methodLink (od_cn own) ix (od_y j) ∈ WS ∧ Cond.static (od_y j) ∈ WS ∧ (parseMethodDescriptor (od_y j).desc).map (fun g => g.parameters.length) = some n) ∧
  (kd = 2 → (Cond.methodLink (od_cn own) ix (od_y j) ∈ WS ∨ ∃ host, Cond.methodLinkNest (od_cn own) ix (od_y j) host ∈ WS) ∧ Cond.instanceMethod (od_y j) ∈ WS ∧ (od_y j).name = "<init>" ∧ Cond.code (od_y j) (od_by j) (od_nl j) none ∈ WS ∧ (parseMethodDescriptor (od_y j).desc).map (fun g => g.parameters.length + 1) = some n)
def od_MT (WS : List Cond) : Prop :=
  (∀ own ix j kd n, od_md own ix = some (j, kd, n) → kd ≠ 7 → kd ≠ 8 → od_lk WS own ix j kd n ∧ (∀ (args : Array Value) (U : State), (∀ w ∈ WS, w.before args U = true) → od_is U j) ∧ Cond.initialized (od_y j).cls ∈ WS ∧ plainFor (od_y j) = true ∧ (od_y j).cls = od_cn (od_ow j) ∧ (od_in j = true → (od_y j).name = "<init>") ∧ od_nl j ≤ 50) ∧
  (∀ w ∈ WS, ∀ (args a' : Array Value) (s U : State), s.WarmedH U.vm → w.before args s = true → w.before a' U = true)
def od_oR (o : od_O) (o' : Outcome) : Prop := match o with
  | .inl v => o' = .returned v
  | .inr xa => o' = .threw xa.2
def od_Z (D : va_G) (K : Nat × Nat × Nat) (B : Nat) (s : State) (below : List Frame) (o : od_O) (M' : od_M) (C S : Nat) : State → Prop := fun t => ∃ o', t.status = .running ∧ Ended t below o' ∧ od_oR o o' ∧ od_Rp D K B s M' t.heap ∧ s.WarmedH t.vm ∧ ∃ L : List Loc, s.sameButNew ({ t with vm := s.vm } : State) L C S ∧ ∀ q ∈ L, B ≤ q.base
def od_room (R : Room) (d : Nat) : Prop := 8 + d ≤ R.frames ∧ 200 + 100 * d ≤ R.locals
def od_rm (d C S : Nat) : Room := { frames := 8 + d, cells := C, slots := S, locals := 200 + 100 * d }
def od_tb (c : Code) (k : Nat) : Prop := c.exceptionTable.toList.map (fun h => (h.startPc, h.endPc, h.handlerPc, h.catchType)) = od_ht k
theorem od_Wm {p : Program} {l : Launch} {e : Env} {R : Room} {s : State} {m : MethodId} {args : Array Value} {below : List Frame} {meth : Method} {c : Code} {H : Heap} {locs : List Loc} {cells slots : Nat} {Q Q' : State → Prop} {g : JFrame} (h : W p l e R s m args below meth c H locs cells slots Q g) (hq : ∀ t, Q t → Q' t) : W p l e R s m args below meth c H locs cells slots Q' g := fun T hT X => by
  obtain ⟨t, a, b⟩ := h T hT X
  exact ⟨t, a, hq t b⟩
theorem od_MQ {D : va_G} {K : Nat × Nat × Nat} {B : Nat} {s : State} {args : Array Value} {below : List Frame} {o : od_O} {M' : od_M} {C S : Nat} {t : State} (h : MQ below (fun _ st o' t => od_oR o o' ∧ od_Rp D K B st M' t.heap) args s C S (fun q => B ≤ q) t) : od_Z D K B s below o M' C S t := by
  obtain ⟨o', h1, h2, ⟨h3, h4⟩, L, ⟨-, h5, h6⟩, h7⟩ := h
  exact ⟨o', h1, h2, h3, h4, h5, L, h6, h7⟩
/-- sizes only grow -/
theorem od_grow1 {k pc : Nat} {ls : od_L} {st : List Value} {M : od_M} {q : Nat × od_L × List Value × od_M} (h : od_step k pc ls st M = some (.inl q)) : M.1 ≤ q.2.2.2.1 ∧ M.2.1 ≤ q.2.2.2.2.1 := by
  unfold od_step at h
  split at h
  · rename_i i n hcd
    clear hcd
    cases i <;> simp only [od_ins, od_ild, od_lld, od_ald, od_ist, od_lst, od_ast, od_iinc, od_i2, od_l2, od_if1, od_if2, od_sw, od_dup, od_dup2, od_pop, od_i2l, od_l2i, od_lcmp, od_iald, od_lald, od_aald, od_alen, od_iast, od_last, od_aast, od_get, od_put, od_new, od_newa, od_anew, od_cpy, od_inv, od_rv, od_ri, od_rl, od_rr, od_go, od_br, od_fin] at h <;> (repeat' split at h) <;> cases h <;> first | exact ⟨Nat.le_refl _, Nat.le_refl _⟩ | exact ⟨Nat.le_succ _, Nat.le_add_right _ _⟩
  · cases h
theorem od_grow2 {k pc : Nat} {ls : od_L} {st : List Value} {M : od_M} {q : od_O × od_M} (h : od_step k pc ls st M = some (.inr (.inr q))) : M.1 ≤ q.2.1 ∧ M.2.1 ≤ q.2.2.1 := by
  unfold od_step at h
  split at h
  · rename_i i n hcd
    clear hcd
    cases i <;> simp only [od_ins, od_ild, od_lld, od_ald, od_ist, od_lst, od_ast, od_iinc, od_i2, od_l2, od_if1, od_if2, od_sw, od_dup, od_dup2, od_pop, od_i2l, od_l2i, od_lcmp, od_iald, od_lald, od_aald, od_alen, od_iast, od_last, od_aast, od_get, od_put, od_new, od_newa, od_anew, od_cpy, od_inv, od_rv, od_ri, od_rl, od_rr, od_go, od_br, od_fin] at h <;> (repeat' split at h) <;> cases h <;> first | exact ⟨Nat.le_refl _, Nat.le_refl _⟩ | exact ⟨Nat.le_succ _, Nat.le_add_right _ _⟩
  · cases h
theorem od_grow : ∀ (n d k pc : Nat) (ls : od_L) (st : List Value) (M : od_M) (o : od_O) (M' : od_M), od_ev n d k pc ls st M = some (o, M') → M.1 ≤ M'.1 ∧ M.2.1 ≤ M'.2.1 := by
  intro n
  induction n with
  | zero => intro d k pc ls st M o M' h; rw [od_ev] at h; cases h
  | succ n ih =>
    intro d k pc ls st M o M' h
    rw [od_ev_s] at h
    rcases hs : od_step k pc ls st M with _ | q | q | q
    · rw [hs] at h; cases h
    · rw [hs] at h
      have h1 := od_grow1 hs
      have h2 := ih _ _ _ _ _ _ _ _ h
      omega
    · rw [hs] at h
      cases d with
      | zero => cases h
      | succ d' =>
        dsimp only at h
        rcases hc : od_ev n d' q.1 0 (od_ent q.1 q.2.1) [] M with _ | ⟨v | xa, M1⟩
        · rw [hc] at h; cases h
        · rw [hc] at h
          have h1 := ih _ _ _ _ _ _ _ _ hc
          have h2 := ih _ _ _ _ _ _ _ _ h
          omega
        · rw [hc] at h
          have h1 := ih _ _ _ _ _ _ _ _ hc
          dsimp only at h
          rcases hh : od_hn k pc xa.1 with _ | _ | p
          · rw [hh] at h; cases h
          · rw [hh] at h; cases h; exact h1
          · rw [hh] at h
            have h2 := ih _ _ _ _ _ _ _ _ h
            omega
    · rw [hs] at h
      cases h
      exact od_grow2 hs
theorem od_fl_args : ∀ (as : List Value) (off i : Nat) (v : Value), (od_fl as)[i]? = some (some v) → (off + i, v) ∈ lv_args off as := by
  intro as
  induction as with
  | nil => intro off i v h; cases h
  | cons a r ih =>
    intro off i v h
    rw [od_fl] at h
    rw [lv_args]
    by_cases hc : a.category = 2
    · rw [if_pos hc] at h ⊢
      match i, h with
      | 0, h => cases h; exact List.mem_cons_self
      | 1, h => cases h
      | i + 2, h =>
        have h2 := ih (off + 2) i v h
        rw [show off + 2 + i = off + (i + 2) by omega] at h2
        exact List.mem_cons_of_mem _ h2
    · rw [if_neg hc] at h ⊢
      match i, h with
      | 0, h => cases h; exact List.mem_cons_self
      | i + 1, h =>
        have h2 := ih (off + 1) i v h
        rw [show off + 1 + i = off + (i + 1) by omega] at h2
        exact List.mem_cons_of_mem _ h2
theorem od_ent_args {j : Nat} {as : List Value} {q : Nat × Value} (h : q ∈ od_prs (od_ent j as)) : q ∈ lv_args 0 as := by
  have h1 := od_prs_to h
  unfold od_lo od_ent at h1
  by_cases hl : q.1 < (od_fl as).length
  · rw [List.getElem?_append_left hl] at h1
    cases h2 : (od_fl as)[q.1]? with
    | none => rw [h2] at h1; cases h1
    | some u =>
      rw [h2] at h1
      have h3 : u = some q.2 := h1
      subst h3
      have h4 := od_fl_args as 0 q.1 q.2 h2
      rw [Nat.zero_add] at h4
      exact h4
  · rw [List.getElem?_append_right (by omega)] at h1
    rw [List.getElem?_replicate] at h1
    split at h1 <;> cases h1
theorem od_ent_len {j : Nat} {as : List Value} (h : (od_fl as).length ≤ od_nl j) : (od_ent j as).length = od_nl j := by
  unfold od_ent
  rw [List.length_append, List.length_replicate]
  omega
theorem od_fl_len : ∀ as : List Value, (lg_sl as).length = (od_fl as).length := by
  intro as
  induction as with
  | nil => rfl
  | cons a r ih =>
    rw [od_fl]
    have e : lg_sl (a :: r) = (if a.category = 2 then [.val a, .second] else [.val a]) ++ lg_sl r := by simp [lg_sl]
    rw [e, List.length_append, ih]
    by_cases hc : a.category = 2
    · rw [if_pos hc, if_pos hc]; simp only [List.length_cons, List.length_nil]; omega
    · rw [if_neg hc, if_neg hc]; simp only [List.length_cons, List.length_nil]; omega
/-- beside the tables: static fields of Throwable, classes that are not castable, String constants; no statics from B on -/
def od_St (B : Nat) (n d : String) (s : State) : Prop := (Cond.laysStatic "java/lang/Throwable" n d).before #[] s = true ∧ (Cond.isRef (.static "java/lang/Throwable" n d)).before #[] s = true ∧ ∀ (x : ClassId × Class × Nat × Field) (a : Nat), s.fieldFound? "java/lang/Throwable" n d = some x → x.2.1.statics = some a → a < B
def od_Ky (B : Nat) (s : State) : Prop := od_St B "UNASSIGNED_STACK" "[Ljava/lang/StackTraceElement;" s ∧ od_St B "SUPPRESSED_SENTINEL" "Ljava/util/List;" s ∧ (∀ q ∈ od_ncs, va_Nc q.1 q.2 s) ∧ (∀ q ∈ od_sts, ∃ a, vk_R q.1 q.2.1 q.2.2 a s) ∧ ∀ (q : Nat) (cell : Cell), B ≤ q → s.heap[q]? = some cell → cell.vm.isStatics = false
/-- an exception is made and leaves the method -/
def od_Thr (l : Launch) (WS : List Cond) (D : va_G) (K : Nat × Nat × Nat) (B : Nat) : Prop := ∀ {p : Program} {e : Env} {R : Room} {s : State} {m : MethodId} {args : Array Value} {below : List Frame} {meth : Method} {c : Code} {H : Heap} {locs : List Loc} {cells slots k pc x ix : Nat} {lsM : Array Slot} {M : od_M},
  od_Cx WS p s m args meth c k → od_tb c k → lsM.size = od_nl k → od_Kx D K s → od_Ky B s → od_Rp D K B s M H → (∀ q ∈ locs, B ≤ q.base) → od_room R 0 → od_cd k pc = some (.new ix, 3) → od_xn k pc = some x → cells + 1 ≤ R.cells → slots + 6 ≤ R.slots →
  W p l e R s m args below meth c H locs cells slots (od_Z D K B s below (.inr (x, M.1)) (od_add M 6 (od_ob (od_xc x) [])) (cells + 1) (slots + 6)) (F0 m pc lsM [])
/-- an exception of the kind x at a comes to its handler -/
def od_Cat (l : Launch) (WS : List Cond) (D : va_G) (K : Nat × Nat × Nat) (B : Nat) : Prop := ∀ {p : Program} {e : Env} {R : Room} {s : State} {m : MethodId} {args : Array Value} {below : List Frame} {meth : Method} {c : Code} {T : State} {locs : List Loc} {cells slots k pc x a h : Nat} {lsM : Array Slot} {st : List Value},
  od_Cx WS p s m args meth c k → od_tb c k → od_Kx D K s → od_Ky B s → od_at D K s a (od_ob (od_xc x) []) T.heap → od_hn k pc x = some (some h) → Stand p l e R s m args below meth c T locs cells slots →
  ∃ vm' : Vm, Stand p l e R s m args below meth c (T.setVm vm') locs cells slots ∧ ∀ tg, Steps p.tables e below ((T.setVm vm').setTop (F0 m h lsM [.ref a])) tg → Steps p.tables e below ((T.setTop (F0 m pc lsM st)).pushFrame (.throwing a)) tg
/-- an exception that leaves has its cell -/
theorem od_cell : ∀ (n d k pc : Nat) (ls : od_L) (st : List Value) (M : od_M) (xa : Nat × Nat) (M' : od_M), od_ev n d k pc ls st M = some (.inr xa, M') → M'.2.2 xa.2 = some (od_ob (od_xc xa.1) []) := by
  intro n
  induction n with
  | zero => intro d k pc ls st M xa M' h; rw [od_ev] at h; cases h
  | succ n ih =>
    intro d k pc ls st M xa M' h
    rw [od_ev_s] at h
    rcases hs : od_step k pc ls st M with _ | q | q | q
    · rw [hs] at h; cases h
    · rw [hs] at h
      exact ih _ _ _ _ _ _ _ _ h
    · rw [hs] at h
      cases d with
      | zero => cases h
      | succ d' =>
        dsimp only at h
        rcases hc : od_ev n d' q.1 0 (od_ent q.1 q.2.1) [] M with _ | ⟨v | ya, M1⟩
        · rw [hc] at h; cases h
        · rw [hc] at h
          exact ih _ _ _ _ _ _ _ _ h
        · rw [hc] at h
          have h1 := ih _ _ _ _ _ _ _ _ hc
          dsimp only at h
          rcases hh : od_hn k pc ya.1 with _ | _ | p
          · rw [hh] at h; cases h
          · rw [hh] at h; cases h; exact h1
          · rw [hh] at h
            exact ih _ _ _ _ _ _ _ _ h
    · rw [hs] at h
      cases h
      unfold od_step at hs
      split at hs
      · rename_i i n' hcd
        clear hcd ih
        cases i <;> simp only [od_ins, od_ild, od_lld, od_ald, od_ist, od_lst, od_ast, od_iinc, od_i2, od_l2, od_if1, od_if2, od_sw, od_dup, od_dup2, od_pop, od_i2l, od_l2i, od_lcmp, od_iald, od_lald, od_aald, od_alen, od_iast, od_last, od_aast, od_get, od_put, od_new, od_newa, od_anew, od_cpy, od_inv, od_rv, od_ri, od_rl, od_rr, od_go, od_br, od_fin] at hs <;> (repeat' split at hs) <;> cases hs <;> exact va_up_self _ _ _
      · cases hs
end
section
/-! Exceptions: a walk seen from where it stands now; the five instructions that make and throw one; the way to a handler. -/
section MXB
variable {p : Program} {l : Launch} {e : Env} {R : Room} {s : State} {m : MethodId} {args : Array Value} {below : List Frame} {meth : Method} {c : Code} {T : State} {locs : List Loc} {cells slots : Nat}
/-- the walk, as if the method had been invoked just now -/
theorem mx_rebase (X : Stand p l e R s m args below meth c T locs cells slots) (hc : cells ≤ R.cells) (hs : slots ≤ R.slots) : Stand p l e { R with cells := R.cells - cells, slots := R.slots - slots } (T.setFrames (.invoking m args :: below)) m args below meth c T [] 0 0 := by
  obtain ⟨g₀, hfr⟩ := X.frames_eq
  have hcur : T.cur < T.threads.size := State.cur_lt_of_frames hfr
  have hF : (T.setFrames (.invoking m args :: below)).frames = .invoking m args :: below := State.frames_setFrames _ hcur
  obtain ⟨r1, r2, r3, r4⟩ := State.hasRoom_stack X.room
  have r5 := State.hasRoom_real X.room
  have r6 := State.hasRoom_plain X.room
  have hh := X.room
  simp only [State.hasRoom, Bool.and_eq_true, decide_eq_true_eq] at hh
  rw [State.localsInUse_invoking X.frames X.method X.code] at r3 r4 r5
  rw [X.frames, List.length_cons] at r1 r2
  have hm' : (T.setFrames (.invoking m args :: below)).vm.method? m = some meth := X.method'
  have hU := State.localsInUse_invoking hF hm' X.code
  have hz := X.heapSize
  have hu := X.used
  obtain ⟨th, ht, -⟩ := State.frames_cons hfr
  refine ⟨X.admits, X.cas, X.clock, hF, ?_, ?_, X.method', X.code, X.here, X.tail, State.WarmedH.refl (T.setFrames (.invoking m args :: below)), ?_, ?_, ?_⟩
  · simp only [State.hasRoom, Bool.and_eq_true, decide_eq_true_eq, hF, hU, List.length_cons, State.stackLimits_setFrames, State.stackBytes_setFrames, X.limits, X.bytes]
    refine ⟨⟨⟨⟨by omega, by omega, by omega, by omega, by omega, r6⟩, ?_⟩, ?_⟩, X.book⟩
    · have := hh.1.1.2
      show T.heap.size + (R.cells - cells) ≤ _
      omega
    · have := hh.1.2
      show T.slotsUsed + (R.slots - slots) ≤ _
      omega
  · have hH := X.hears
    have hcode : ∀ q, (T.setFrames (.invoking m args :: below)).code? q = s.code? q := fun q => by
      rw [State.code?_eq, State.code?_eq]
      show (T.vm.method? q).bind _ = _
      rw [X.warmed.alike.method?]
    have hmm : (T.setFrames (.invoking m args :: below)).vm.method? m = s.vm.method? m := by rw [hm', X.method]
    unfold State.hears at hH ⊢
    split
    · simp only at hH
      rw [hcode]
      exact hH
    · rfl
    · rfl
    · rename_i h1 h2 h3
      rw [hmm]
      split at hH
      · exact absurd rfl (h1 _ _)
      · exact absurd rfl (h2 _ _)
      · exact absurd rfl (h3 _ _)
      · exact hH
  · rw [State.stackLimits_setFrames]
  · rw [State.stackBytes_setFrames]
  · have ht2 : (T.setFrames (.invoking m args :: below)).threads[(T.setFrames (.invoking m args :: below)).cur]? = some { th with frames := .invoking m args :: below } := by
      simp [State.setFrames, Array.getElem?_modify, ht]
    have h := (State.sameButNew.refl (T.setFrames (.invoking m args :: below)) ht2).setFrames T.frames (State.cur_lt_of_frames hF)
    rw [State.setFrames_setFrames, State.setFrames_self ht] at h
    exact h
end MXB
section FH
variable {E : CtlPost} {e : Env} {d : Bool} {acts : List Action} {s : State} {f : JFrame} {a : Addr} {Q : Handler → Pre}
/-- a catch type, resolved at need -/
theorem fh_go {x : ExceptionTableEntry} {t : List ExceptionTableEntry} {c : ClassId} {vm' : Vm} {cell : Cell} (hx : covers x f.pc = true) (h0 : x.catchType ≠ 0) (hg : (Jvm.resolveClass f.method.cls x.catchType).Gives e.toSetting s.vm (.ok c) vm') (hsz : vm'.classes.size ≤ s.vm.classes.size)
    (hcell : s.heap[a]? = some cell) (hobj : ∀ k, cell.vm ≠ .statics k) (hk : ∃ k, vm'.classes[cell.cls]? = some k) (hc : ∃ k, vm'.classes[c]? = some k) :
    wp (findHandler.go f a (x :: t)) Q E e d acts s ↔ if vm'.assignable cell.cls c = true then Q (.found x.handlerPc) d acts (s.setVm vm') else wp (findHandler.go f a t) Q E e d acts (s.setVm vm') := by
  simp only [covers] at hx
  obtain ⟨ha, ht⟩ := hg.op (op := VmOp.resolveClass f.method.cls x.catchType) rfl
  have hcell' : (s.setVm vm').heap[a]? = some cell := hcell
  have hk' : ∃ k, (s.setVm vm').vm.classes[cell.cls]? = some k := hk
  have hc' : ∃ k, (s.setVm vm').vm.classes[c]? = some k := hc
  cases hfit : vm'.assignable cell.cls c <;>
    simp [findHandler.go, hx, h0, ha, ht, hsz, hcell, hobj, hk, hc, hfit, VmOp.dirties, VmOp.acts]
end FH
/-! words on static fields, which stand in the heap: kept where the statics' cells are kept -/
theorem od_ff_vm {A A' : State} (hvm : A'.vm = A.vm) (C n d : String) : A'.fieldFound? C n d = A.fieldFound? C n d := by
  unfold State.fieldFound?
  rw [hvm]
theorem od_ride_ls {A A' : State} {args args' : Array Value} {C n d : String} (h : (Cond.laysStatic C n d).before args A = true) (hvm : A'.vm = A.vm) (hk : ∀ (x : ClassId × Class × Nat × Field) (a : Nat), A.fieldFound? C n d = some x → x.2.1.statics = some a → A'.heap[a]? = A.heap[a]?) : (Cond.laysStatic C n d).before args' A' = true := by
  simp only [Cond.before, Cond.holds, Cond.value] at h ⊢
  rw [hvm, od_ff_vm hvm]
  cases h1 : A.vm.findClass C with
  | none => rw [h1] at h; simp at h
  | some c =>
    rw [h1] at h
    cases h2 : A.fieldFound? C n d with
    | none => rw [h2] at h; simp at h
    | some x =>
      rw [h2] at h
      obtain ⟨c', k, i, f⟩ := x
      dsimp only at h ⊢
      cases h3 : k.statics with
      | none => rw [h3] at h; simp at h
      | some a =>
        rw [h3] at h
        have h4 := hk _ a h2 h3
        simp only [Option.bind_some] at h ⊢
        rw [h4]
        exact h
theorem od_ride_ir {A A' : State} {args args' : Array Value} {C n d : String} (h : (Cond.isRef (.static C n d)).before args A = true) (hvm : A'.vm = A.vm) (hk : ∀ (x : ClassId × Class × Nat × Field) (a : Nat), A.fieldFound? C n d = some x → x.2.1.statics = some a → A'.heap[a]? = A.heap[a]?) : (Cond.isRef (.static C n d)).before args' A' = true := by
  have e : (Term.static C n d).eval args' A' none [] A' = (Term.static C n d).eval args A none [] A := by
    simp only [Term.eval]
    have e1 : A'.fieldNamed? C n d true = A.fieldNamed? C n d true := by
      unfold State.fieldNamed?
      rw [od_ff_vm hvm]
    rw [e1]
    cases h2 : A.fieldFound? C n d with
    | none =>
      have : A.fieldNamed? C n d true = none := by unfold State.fieldNamed?; rw [h2]; rfl
      rw [this]; rfl
    | some x =>
      obtain ⟨c', k, i, f⟩ := x
      cases h3 : A.fieldNamed? C n d true with
      | none => rfl
      | some y =>
        obtain ⟨c2, k2, sl⟩ := y
        have hkk : k2 = k := by
          unfold State.fieldNamed? at h3
          rw [h2] at h3
          simp at h3
          exact h3.2.2.1.symm
        subst hkk
        simp only [Option.bind_eq_bind, Option.bind_some]
        cases h4 : k2.statics with
        | none => rfl
        | some a =>
          simp only [Option.bind_some]
          rw [hk _ a h2 h4]
  simp only [Cond.before, Cond.holds, Cond.value] at h ⊢
  rw [e]
  exact h
section CAT
variable {p : Program} {l : Launch} {e : Env} {R : Room} {s : State} {m : MethodId} {args : Array Value} {below : List Frame} {meth : Method} {c : Code} {T : State} {locs : List Loc} {cells slots : Nat}
theorem st_catch {S : State} {a : Addr} {f : JFrame} {r : List Frame} {pc : Nat} {vm' : Vm} (hfind : ∀ (Q : Handler → Pre) (E : CtlPost) (d : Bool) (acts : List Action), wp (findHandler f a) Q E e d acts S ↔ Q (.found pc) d acts (S.setVm vm')) :
    (stepThrowing e S a (.java f :: r)).Is ((S.setVm vm').setFrames (.java { f with pc := pc, stack := [.ref a] } :: r)) [] := by
  simp only [stepThrowing, searchFrame, vmDo]
  generalize hr : Sem.go _ e false [] S = res
  obtain ⟨as, rfl, ha⟩ := Sem.eq_ok_of hr (a := Handler.found pc) (s' := S.setVm vm') (acts' := []) (by simp [hfind _ _ _ _])
  exact ⟨rfl, ha⟩
theorem st_caught (X : Stand p l e R s m args below meth c T locs cells slots) {a : Addr} {g : JFrame} (hg : g.method = m) {pc : Nat} {vm' : Vm}
    (hfind : ∀ (Q : Handler → Pre) (E : CtlPost) (d : Bool) (acts : List Action), wp (findHandler g a) Q E e d acts ((T.setTop g).pushFrame (.throwing a)) ↔ Q (.found pc) d acts (((T.setTop g).pushFrame (.throwing a)).setVm vm')) {target : State}
    (hrest : Steps p.tables e below ((T.setVm vm').setTop { g with pc := pc, stack := [.ref a] }) target) : Steps p.tables e below ((T.setTop g).pushFrame (.throwing a)) target := by
  have h : At T g.method c below := by rw [hg]; exact X.here
  obtain ⟨hgo, hw⟩ := h.throwing a
  refine Steps.head hgo hw ?_
  rw [stepThread_throwing (frames_entered h.top _), (st_catch hfind).1]
  obtain ⟨g₀, hg0⟩ := Option.isSome_iff_exists.mp h.top
  obtain ⟨r, hr⟩ := State.topJava?_eq_some.mp hg0
  have hr' : (T.setVm vm').frames = .java g₀ :: r := hr
  rw [State.setTop_of_frames _ hr'] at hrest
  rw [State.pushFrame, State.setTop_of_frames _ hr]
  have e1 : ∀ (A : State) (f1 f2 f3 : List Frame), (((A.setFrames f1).setFrames f2).setVm vm').setFrames f3 = (A.setVm vm').setFrames f3 := fun A f1 f2 f3 => by
    show (((A.setVm vm').setFrames f1).setFrames f2).setFrames f3 = _
    rw [State.setFrames_setFrames, State.setFrames_setFrames]
  rw [e1, hr]
  exact hrest
end CAT
end
section
/-! The soundness of the small machine. -/
section ODM
variable {p : Program} {l : Launch} {e : Env} {R : Room} {s : State} {m : MethodId} {args : Array Value} {below : List Frame} {meth : Method} {c : Code} {H : Heap} {locs : List Loc} {cells slots : Nat} {D : va_G} {K : Nat × Nat × Nat} {B : Nat} {WS : List Cond}
set_option maxHeartbeats 4000000 in
theorem od_step_fin (hT : od_T WS) (hThr : od_Thr l WS D K B) {d k pc : Nat} {ls : od_L} {st : List Value} {M : od_M} {lsM : Array Slot} (hC : od_Cx WS p s m args meth c k) (htb : od_tb c k) (hL : lv_has lsM (od_nl k) (od_prs ls)) (hK : od_Kx D K s) (hY : od_Ky B s) (hR : od_Rp D K B s M H) (hf : ∀ q ∈ locs, B ≤ q.base) (hrm : od_room R d)
    {o : od_O} {M' : od_M} (hs : od_step k pc ls st M = some (.inr (.inr (o, M')))) (hcl : cells + (M'.1 - M.1) ≤ R.cells) (hsl : slots + (M'.2.1 - M.2.1) ≤ R.slots) :
    W p l e R s m args below meth c H locs cells slots (od_Z D K B s below o M' (cells + (M'.1 - M.1)) (slots + (M'.2.1 - M.2.1))) (F0 m pc lsM st) := by
  have hC0 := hC
  obtain ⟨hx, hb, hr, hml, hown, hts, hlk, hin⟩ := hC
  have hdg0 := hT.1
  unfold od_step at hs
  cases hcd : od_cd k pc with
  | none => rw [hcd] at hs; cases hs
  | some q =>
  obtain ⟨i, n⟩ := q
  rw [hcd] at hs
  have hdg := hdg0 k pc i n hcd
  dsimp only at hs
  cases i
  case return_ =>
    simp only [od_ins] at hs; split at hs
    · rename_i hq; subst hq; unfold od_rv at hs; split at hs
      · rename_i hrf; unfold od_fin at hs; cases hs
        rw [Nat.sub_self, Nat.sub_self, Nat.add_zero, Nat.add_zero]
        exact od_Wm (W.vret (Qc := fun _ st o' t => od_oR (.inl none) o' ∧ od_Rp D K B st M t.heap) (free := fun q => B ≤ q) hx hb (hr.trans hrf) (fun t ht hW => ⟨rfl, by rw [ht]; exact hR⟩) hf hdg (hlocks := hlk)) (fun t h => od_MQ h)
      · cases hs
    · cases hs
  case ireturn =>
    simp only [od_ins] at hs; split at hs
    · rename_i hq; subst hq; unfold od_ri at hs; split at hs
      · rename_i x hrf; unfold od_fin at hs; cases hs
        rw [Nat.sub_self, Nat.sub_self, Nat.add_zero, Nat.add_zero]
        exact od_Wm (W.iret (Qc := fun _ st o' t => od_oR (.inl (some (.int x))) o' ∧ od_Rp D K B st M t.heap) (free := fun q => B ≤ q) hx hb (hr.trans hrf) (fun t ht hW => ⟨rfl, by rw [ht]; exact hR⟩) hf hdg (hlocks := hlk)) (fun t h => od_MQ h)
      · rename_i x hrf; split at hs
        · rename_i h01; unfold od_fin at hs; cases hs
          rw [Nat.sub_self, Nat.sub_self, Nat.add_zero, Nat.add_zero]
          exact od_Wm (W.zret (Qc := fun _ st o' t => od_oR (.inl (some (.int x))) o' ∧ od_Rp D K B st M t.heap) (free := fun q => B ≤ q) hx hb (hr.trans hrf) (by rcases h01 with rfl | rfl <;> decide +kernel) (fun t ht hW => ⟨rfl, by rw [ht]; exact hR⟩) hf hdg (hlocks := hlk)) (fun t h => od_MQ h)
        · cases hs
      · cases hs
    · cases hs
  case lreturn =>
    simp only [od_ins] at hs; split at hs
    · rename_i hq; subst hq; unfold od_rl at hs; split at hs
      · rename_i x hrf; unfold od_fin at hs; cases hs
        rw [Nat.sub_self, Nat.sub_self, Nat.add_zero, Nat.add_zero]
        exact od_Wm (W.lret (Qc := fun _ st o' t => od_oR (.inl (some (.long x))) o' ∧ od_Rp D K B st M t.heap) (free := fun q => B ≤ q) hx hb (hr.trans hrf) (fun t ht hW => ⟨rfl, by rw [ht]; exact hR⟩) hf hdg (hlocks := hlk)) (fun t h => od_MQ h)
      · cases hs
    · cases hs
  case areturn =>
    simp only [od_ins] at hs; split at hs
    · rename_i hq; subst hq; unfold od_rr at hs; split at hs
      · rename_i x cn hrf; unfold od_fin at hs; cases hs
        rw [Nat.sub_self, Nat.sub_self, Nat.add_zero, Nat.add_zero]
        exact od_Wm (W.aret (Qc := fun _ st o' t => od_oR (.inl (some (.ref x))) o' ∧ od_Rp D K B st M t.heap) (free := fun q => B ≤ q) hx hb (hr.trans hrf) (Or.inl ⟨_, rfl⟩) (Or.inr ⟨_, rfl⟩) (fun t ht hW => ⟨rfl, by rw [ht]; exact hR⟩) hf hdg (hlocks := hlk)) (fun t h => od_MQ h)
      · cases hs
    · cases hs
  case new ix =>
    simp only [od_ins] at hs; split at hs
    · rename_i hq; subst hq; unfold od_new at hs; split at hs
      · cases hs
      · split at hs
        · rename_i x hxn; split at hs
          rotate_left
          · cases hs
          unfold od_fin at hs; cases hs
          have e1 : (od_add M 6 (od_ob (od_xc x) [])).1 - M.1 = 1 := Nat.add_sub_cancel_left _ _
          have e2 : (od_add M 6 (od_ob (od_xc x) [])).2.1 - M.2.1 = 6 := Nat.add_sub_cancel_left _ _
          rw [e1] at hcl ⊢
          rw [e2] at hsl ⊢
          exact hThr hC0 htb hL.1 hK hY hR hf ⟨by have := hrm.1; omega, by have := hrm.2; omega⟩ hcd hxn hcl hsl
        · cases hs
    · cases hs
  all_goals (simp only [od_ins, od_ild, od_lld, od_ald, od_ist, od_lst, od_ast, od_iinc, od_i2, od_l2, od_if1, od_if2, od_sw, od_dup, od_dup2, od_pop, od_i2l, od_l2i, od_lcmp, od_iald, od_lald, od_aald, od_alen, od_iast, od_last, od_aast, od_get, od_put, od_newa, od_anew, od_cpy, od_inv, od_go, od_br] at hs; repeat' (split at hs))
  all_goals first | (cases hs; done) | skip
/-- a method run by the small machine meets the contract that says so -/
theorem od_met (hMT : od_MT WS) {d j : Nat} {as : List Value} {M M1 : od_M} {o : od_O} (hj : (∀ (args : Array Value) (U : State), (∀ w ∈ WS, w.before args U = true) → od_is U j) ∧ Cond.initialized (od_y j).cls ∈ WS ∧ plainFor (od_y j) = true ∧ (od_y j).cls = od_cn (od_ow j) ∧ (od_in j = true → (od_y j).name = "<init>") ∧ od_nl j ≤ 50) (hfl : (od_fl as).length ≤ od_nl j)
    (IH : ∀ {p : Program} {e : Env} {R : Room} {s : State} {m : MethodId} {args : Array Value} {below : List Frame} {meth : Method} {c : Code} {H : Heap} {locs : List Loc} {cells slots : Nat} {lsM : Array Slot}, od_Cx WS p s m args meth c j → od_tb c j → lv_has lsM (od_nl j) (od_prs (od_ent j as)) → (od_ent j as).length = od_nl j → od_Kx D K s → od_Ky B s → od_Rp D K B s M H → (∀ q ∈ locs, B ≤ q.base) → od_room R d → cells + (M1.1 - M.1) ≤ R.cells → slots + (M1.2.1 - M.2.1) ≤ R.slots →
      W p l e R s m args below meth c H locs cells slots (od_Z D K B s below o M1 (cells + (M1.1 - M.1)) (slots + (M1.2.1 - M.2.1))) (F0 m 0 lsM [])) :
    mx_M l (od_y j) WS (od_rm d (M1.1 - M.1) (M1.2.1 - M.2.1)) (fun a U => a = as.toArray ∧ od_Kx D K U ∧ od_Ky B U ∧ od_Rp D K B U M U.heap) (fun _ st o' t => od_oR o o' ∧ od_Rp D K B st M1 t.heap) (M1.1 - M.1) (M1.2.1 - M.2.1) (fun q => B ≤ q) := by
  obtain ⟨his, hini, hpl, hcn, hinn, hnl⟩ := hj
  refine MetFree.of_bodySF (code := od_by j) (maxLocals := od_nl j) (ret := od_rf j) hpl ?_ ?_
  · intro args s m h hn
    obtain ⟨mk, methY, cY, h1, h2, h3, h4, h5, h6, h7, -, -⟩ := his args s (atoms_spec (ws := WS) h)
    cases hn.symm.trans h1
    exact ⟨methY, cY, h2, h3, h4, h5, h6, h7⟩
  · intro p e s m args below meth c s₁ Bd hml hP _
    obtain ⟨rfl, hKx, hKy, hRp⟩ := hP
    have hts := atoms_spec (ws := WS) Bd.pre
    have X₀ := Stand.of_body Bd
    have hh0 : s₁.heap = s.heap := by rw [Bd.state]; rfl
    obtain ⟨mk, methY, cY, h1, h2, h3, h4, h5, h6, h7, h8, h9⟩ := his _ s hts
    cases Bd.named.symm.trans h1
    cases Bd.method.symm.trans h2
    cases X₀.code.symm.trans h3
    have hl := lv_entry as (n := od_nl j) (by rw [od_fl_len]; exact hfl)
    have hw := @IH p e (od_rm d (M1.1 - M.1) (M1.2.1 - M.2.1)) s m as.toArray below meth c s.heap [] 0 0 _ ⟨Bd.exec, Bd.bytes, Bd.returns, hml, by rw [← hcn]; exact findClass_of_methodNamed Bd.named, hts, Bd.notSynchronized, fun h => by rw [(name_of_methodNamed Bd.named Bd.method).1]; exact hinn h⟩ h8 (od_has_sub hl (fun q hq => od_ent_args hq)) (od_ent_len hfl) hKx hKy hRp (fun q h => by cases h) ⟨Nat.le_refl _, Nat.le_refl _⟩ (by rw [Nat.zero_add]; exact Nat.le_refl _) (by rw [Nat.zero_add]; exact Nat.le_refl _)
    obtain ⟨t, a1, o', b1, b2, b3, b4, b5, L, b6, b7⟩ := hw s₁ hh0 X₀
    rw [Nat.zero_add, Nat.zero_add] at b6
    refine ⟨t, o', ?_, b1, b2, ⟨b3, b4⟩, L, ⟨b5, b6⟩, b7⟩
    rw [lg_entry_eq]
    exact a1
theorem od_step_call {k pc : Nat} {ls : od_L} {st : List Value} {M : od_M} {j : Nat} {as rest : List Value} (hs : od_step k pc ls st M = some (.inr (.inl (j, as, rest)))) :
    ∃ ix kd n, (od_cd k pc = some (.invokevirtual ix, 3) ∧ kd = 0 ∨ od_cd k pc = some (.invokestatic ix, 3) ∧ kd = 1 ∨ od_cd k pc = some (.invokespecial ix, 3) ∧ kd = 2) ∧ od_md (od_ow k) ix = some (j, kd, n) ∧ kd ≠ 7 ∧ kd ≠ 8 ∧ as = (st.take n).reverse ∧ rest = st.drop n ∧ n ≤ st.length ∧ (rest.map fun v => v.category).sum ≤ 30 ∧ (kd = 1 ∨ od_rcv kd j as M = true) ∧ (od_fl as).length ≤ od_nl j := by
  have key : ∀ (kd ix : Nat), od_inv (od_ow k) kd pc ix ls st M = some (.inr (.inl (j, as, rest))) → ∃ n, od_md (od_ow k) ix = some (j, kd, n) ∧ kd ≠ 7 ∧ kd ≠ 8 ∧ as = (st.take n).reverse ∧ rest = st.drop n ∧ n ≤ st.length ∧ (rest.map fun v => v.category).sum ≤ 30 ∧ (kd = 1 ∨ od_rcv kd j as M = true) ∧ (od_fl as).length ≤ od_nl j := by
    intro kd ix h
    unfold od_inv at h
    split at h
    · rename_i j' kd' n hmd
      split at h
      · split at h
        · unfold od_cpy at h; simp only [od_go] at h; (repeat' split at h) <;> cases h
        · cases h
      · rename_i h7
        split at h
        · simp only [od_go] at h; (repeat' split at h) <;> cases h
        · rename_i h8
          split at h
          · rename_i hh
            cases h
            obtain ⟨rfl, h2, h3, h4, h5⟩ := hh
            exact ⟨n, hmd, h7, h8, rfl, rfl, h2, h3, h4, h5⟩
          · cases h
    · cases h
  unfold od_step at hs
  cases hcd : od_cd k pc with
  | none => rw [hcd] at hs; cases hs
  | some q =>
  obtain ⟨i, n⟩ := q
  rw [hcd] at hs
  dsimp only at hs
  cases i
  case invokevirtual ix =>
    simp only [od_ins] at hs; split at hs
    · rename_i hq; subst hq
      obtain ⟨n, h⟩ := key 0 ix hs
      exact ⟨ix, 0, n, Or.inl ⟨rfl, rfl⟩, h⟩
    · cases hs
  case invokestatic ix =>
    simp only [od_ins] at hs; split at hs
    · rename_i hq; subst hq
      obtain ⟨n, h⟩ := key 1 ix hs
      exact ⟨ix, 1, n, Or.inr (Or.inl ⟨rfl, rfl⟩), h⟩
    · cases hs
  case invokespecial ix =>
    simp only [od_ins] at hs; split at hs
    · rename_i hq; subst hq
      obtain ⟨n, h⟩ := key 2 ix hs
      exact ⟨ix, 2, n, Or.inr (Or.inr ⟨rfl, rfl⟩), h⟩
    · cases hs
  all_goals (simp only [od_ins, od_ild, od_lld, od_ald, od_ist, od_lst, od_ast, od_iinc, od_i2, od_l2, od_if1, od_if2, od_sw, od_dup, od_dup2, od_pop, od_i2l, od_l2i, od_lcmp, od_iald, od_lald, od_aald, od_alen, od_iast, od_last, od_aast, od_get, od_put, od_new, od_newa, od_anew, od_rv, od_ri, od_rl, od_rr, od_go, od_br, od_fin] at hs; repeat' (split at hs))
  all_goals first | (cases hs; done) | skip
end ODM
end
section
/-! Calls, and the soundness of the small machine. -/
section ODM
variable {p : Program} {l : Launch} {e : Env} {R : Room} {s : State} {m : MethodId} {args : Array Value} {below : List Frame} {meth : Method} {c : Code} {H : Heap} {locs : List Loc} {cells slots : Nat} {D : va_G} {K : Nat × Nat × Nat} {B : Nat} {WS : List Cond}
theorem od_to_I (hT : od_T WS) (hMT : od_MT WS) {k pc ix kd n j : Nat} {st as rest : List Value} {M : od_M} {lsM : Array Slot} {T : State} (hC : od_Cx WS p s m args meth c k) (hK : od_Kx D K s) (hR : od_Rp D K B s M T.heap) (X : Stand p l e R s m args below meth c T locs cells slots)
    (hcd : od_cd k pc = some (.invokevirtual ix, 3) ∧ kd = 0 ∨ od_cd k pc = some (.invokestatic ix, 3) ∧ kd = 1 ∨ od_cd k pc = some (.invokespecial ix, 3) ∧ kd = 2) (hmd : od_md (od_ow k) ix = some (j, kd, n)) (h7 : kd ≠ 7) (h8 : kd ≠ 8) (has : as = (st.take n).reverse) (hre : rest = st.drop n) (hnl : n ≤ st.length) (hrc : kd = 1 ∨ od_rcv kd j as M = true) :
    mx_I p l e R s m args below meth c T locs cells slots (od_y j) (F0 m pc lsM st) as.toArray rest := by
  obtain ⟨hx, hb, hr, hml, hown, hts, hlk, hin⟩ := hC
  obtain ⟨⟨hkd, hy, l0, l1, l2⟩, his, hini, hpl, hcn, hinn, -⟩ := hMT.1 _ _ _ _ _ hmd h7 h8
  obtain ⟨mk0, methY, cY, i1, i2, i3, i4, i5, i6, i7, i8, i9⟩ := his args s hts
  have hst : st = as.reverse ++ rest := by rw [has, hre, List.reverse_reverse, List.take_append_drop]
  have hlen : as.length = n := by rw [has, List.length_reverse, List.length_take]; omega
  rcases hcd with ⟨hcd, rfl⟩ | ⟨hcd, rfl⟩ | ⟨hcd, rfl⟩
  · obtain ⟨k1, k2, ⟨C, CT, CN, hcls, k3⟩, k4⟩ := l0 rfl
    have hrc2 := hrc.resolve_left (by decide)
    clear hrc
    unfold od_rcv at hrc2
    split at hrc2
    · rename_i b argsL
      split at hrc2
      · rename_i cn fs hMb
        have hcn2 : cn = od_oc j := by simpa using hrc2
        subst hcn2
        obtain ⟨cell, g1, g2, g3⟩ := va_recv (ws := [(b, .inr (od_oc j, fs))]) (q0 := 0) hK (od_one (q := (b, .inr (od_oc j, fs))) (hR.at hMb)) hcls rfl
        refine mx_iV X hx hown (hts _ k1) (hts _ k2) (hts _ k3) (fun mk methM h1 h2 => ?_) hy g1 g2 g3 rfl (fun sig hsig => ?_) (by show st = _; rw [hst]; simp) (by rw [hb]; exact hT.1 _ _ _ _ hcd)
        · cases h1.symm.trans i1
          cases h2.symm.trans i2
          exact i9
        · rw [hsig] at k4
          have k5 : sig.parameters.length + 1 = n := Option.some.inj k4
          rw [List.length_cons] at hlen
          omega
      · cases hrc2
    · cases hrc2
  · obtain ⟨k1, k2, k4⟩ := l1 rfl
    refine mx_iS X hx hown (hts _ k1) (hts _ k2) (hts _ hini) i1 i2 i9 hy rfl (fun sig hsig => ?_) hst (by rw [hb]; exact hT.1 _ _ _ _ hcd)
    rw [hsig] at k4
    have k5 : sig.parameters.length = n := Option.some.inj k4
    omega
  · obtain ⟨k1, k2, k3, k5, k4⟩ := l2 rfl
    have hrc2 := hrc.resolve_left (by decide)
    clear hrc
    unfold od_rcv at hrc2
    split at hrc2
    · rename_i b argsL
      have hl2 : ∀ sig, parseMethodDescriptor (od_y j).desc = some sig → argsL.length = sig.parameters.length := fun sig hsig => by
        rw [hsig] at k4
        have k6 : sig.parameters.length + 1 = n := Option.some.inj k4
        rw [List.length_cons] at hlen
        omega
      rcases k1 with k1 | ⟨host, k1⟩
      · exact mx_iI X hx hown k3 (hts _ k1) (hts _ k2) (hts _ k5) hy rfl hl2 (by show st = _; rw [hst]; simp) (by rw [hb]; exact hT.1 _ _ _ _ hcd)
      · exact mx_iIN X hx hown k3 (hts _ k1) (hts _ k2) (hts _ k5) hy rfl hl2 (by show st = _; rw [hst]; simp) (by rw [hb]; exact hT.1 _ _ _ _ hcd)
    · cases hrc2
end ODM
/-- below B nothing has changed since the method's entry -/
theorem od_low {p : Program} {l : Launch} {e : Env} {R : Room} {s : State} {m : MethodId} {args : Array Value} {below : List Frame} {meth : Method} {c : Code} {T : State} {locs : List Loc} {cells slots B : Nat} (X : Stand p l e R s m args below meth c T locs cells slots) (hf : ∀ q ∈ locs, B ≤ q.base) {q : Nat} (hq : q < B) {cell : Cell} (hc : s.heap[q]? = some cell) : T.heap[q]? = some cell := by
  obtain ⟨c', h1, h2, h3, h4⟩ := X.same.2.2.2.2.2 q cell hc
  have hsl : c'.slots = cell.slots := Array.ext_getElem? fun i => h4 i (fun hm => by have := hf _ hm; exact absurd this (by show ¬ B ≤ q; omega))
  have h5 : c' = cell := by rw [h2, hsl]
  rw [← h5]
  exact h1
theorem od_St.call {p : Program} {l : Launch} {e : Env} {R : Room} {s : State} {m : MethodId} {args : Array Value} {below : List Frame} {meth : Method} {c : Code} {T : State} {locs : List Loc} {cells slots B : Nat} {n d : String} (X : Stand p l e R s m args below meth c T locs cells slots) (hf : ∀ q ∈ locs, B ≤ q.base) {vm₁ : Vm} (hW : s.WarmedH vm₁) {U : State} (hU : U.vm = vm₁) (hH : U.heap = T.heap) (h : od_St B n d s) : od_St B n d U := by
  obtain ⟨h1, h2, h3⟩ := h
  have k1 : (Cond.laysStatic "java/lang/Throwable" n d).before #[] (s.setVm vm₁) = true := Cond.before_shiftedFace (State.Shifted.of_warmed hW) _ rfl h1
  have k2 : (Cond.isRef (.static "java/lang/Throwable" n d)).before #[] (s.setVm vm₁) = true := Cond.before_shiftedFace (State.Shifted.of_warmed hW) _ rfl h2
  have k3 : ∀ (x : ClassId × Class × Nat × Field) (a : Nat), (s.setVm vm₁).fieldFound? "java/lang/Throwable" n d = some x → x.2.1.statics = some a → a < B ∧ ∃ cell, s.heap[a]? = some cell := by
    intro x a hx ha
    obtain ⟨c0, k0, i0, f0, a0, cell0, -, hi0, -, ha0, hcell0, -⟩ := Cond.laysStatic_spec h1
    obtain ⟨k', hi', he⟩ := State.fieldFound?_setVm hW.alike hi0
    have hxx : x = (c0, k', i0, f0) := Option.some.inj (hx.symm.trans hi')
    subst hxx
    have ha' : k0.statics = some a := by rw [← ha]; dsimp only; rw [he]
    exact ⟨h3 _ a hi0 ha', cell0, by cases ha0.symm.trans ha'; exact hcell0⟩
  have k4 : ∀ (x : ClassId × Class × Nat × Field) (a : Nat), (s.setVm vm₁).fieldFound? "java/lang/Throwable" n d = some x → x.2.1.statics = some a → U.heap[a]? = (s.setVm vm₁).heap[a]? := by
    intro x a hx ha
    obtain ⟨hlt, cell, hcell⟩ := k3 x a hx ha
    rw [hH, od_low X hf hlt hcell]
    exact hcell.symm
  refine ⟨od_ride_ls k1 hU k4, od_ride_ir k2 hU k4, fun x a hx ha => ?_⟩
  rw [od_ff_vm (A := s.setVm vm₁) (A' := U) hU] at hx
  exact (k3 x a hx ha).1
theorem od_Ky.call {p : Program} {l : Launch} {e : Env} {R : Room} {s : State} {m : MethodId} {args : Array Value} {below : List Frame} {meth : Method} {c : Code} {T : State} {locs : List Loc} {cells slots B : Nat} {D : va_G} {K : Nat × Nat × Nat} {M : od_M} (X : Stand p l e R s m args below meth c T locs cells slots) (hf : ∀ q ∈ locs, B ≤ q.base) {vm₁ : Vm} (hW : s.WarmedH vm₁) (hR : od_Rp D K B s M T.heap) (h : od_Ky B s) {g : JFrame} {mk : MethodId} {a : Array Value} : od_Ky B ((T.setVm vm₁).calling g mk a) :=
  ⟨od_St.call X hf hW rfl rfl h.1, od_St.call X hf hW rfl rfl h.2.1, fun q hq => va_Nc.moved (u := s) hW.alike (h.2.2.1 q hq), fun q hq => by
    obtain ⟨z, hz⟩ := h.2.2.2.1 q hq
    exact ⟨z, vk_R.warm (s := s) hW hz⟩, fun q cell hq hc => hR.2.2.2 q cell hq hc⟩
set_option maxHeartbeats 4000000 in
theorem od_sound {l : Launch} {WS : List Cond} {D : va_G} {K : Nat × Nat × Nat} {B : Nat} (hT : od_T WS) (hMT : od_MT WS) (hThr : od_Thr l WS D K B) (hCat : od_Cat l WS D K B) : ∀ (n d k pc : Nat) (ls : od_L) (st : List Value) (M : od_M) (o : od_O) (M' : od_M), od_ev n d k pc ls st M = some (o, M') →
    ∀ {p : Program} {e : Env} {R : Room} {s : State} {m : MethodId} {args : Array Value} {below : List Frame} {meth : Method} {c : Code} {H : Heap} {locs : List Loc} {cells slots : Nat} {lsM : Array Slot}, od_Cx WS p s m args meth c k → od_tb c k → lv_has lsM (od_nl k) (od_prs ls) → ls.length = od_nl k → od_Kx D K s → od_Ky B s → od_Rp D K B s M H → (∀ q ∈ locs, B ≤ q.base) → od_room R d → cells + (M'.1 - M.1) ≤ R.cells → slots + (M'.2.1 - M.2.1) ≤ R.slots →
      W p l e R s m args below meth c H locs cells slots (od_Z D K B s below o M' (cells + (M'.1 - M.1)) (slots + (M'.2.1 - M.2.1))) (F0 m pc lsM st) := by
  intro n
  induction n with
  | zero => intro d k pc ls st M o M' h; rw [od_ev] at h; cases h
  | succ n ih =>
    intro d k pc ls st M o M' h p e R s m args below meth c H locs cells slots lsM hC htb hL hn hK hY hR hf hrm hcl hsl
    have gAll := od_grow _ _ _ _ _ _ _ _ _ h
    rw [od_ev_s] at h
    rcases hs : od_step k pc ls st M with _ | ⟨pc', ls', st', M2⟩ | ⟨j, as, rest⟩ | ⟨o2, M2⟩
    · rw [hs] at h; cases h
    · rw [hs] at h
      dsimp only at h
      have g1 := od_grow1 hs
      dsimp only at g1
      have g2 := od_grow _ _ _ _ _ _ _ _ _ h
      refine od_step_go hT hC hL hn hK hR hf hs (by omega) (by omega) (by have := hrm.1; omega) (by have := hrm.2; omega) (fun H' locs' lsM' h1 h2 h3 h4 => ?_)
      have hw := ih _ _ _ _ _ _ _ _ h hC htb h1 h2 hK hY h3 h4 hrm (cells := cells + (M2.1 - M.1)) (slots := slots + (M2.2.1 - M.2.1)) (e := e) (below := below) (by omega) (by omega)
      rw [show cells + (M2.1 - M.1) + (M'.1 - M2.1) = cells + (M'.1 - M.1) by omega, show slots + (M2.2.1 - M.2.1) + (M'.2.1 - M2.2.1) = slots + (M'.2.1 - M.2.1) by omega] at hw
      exact hw
    · rw [hs] at h
      cases d with
      | zero => cases h
      | succ d' =>
      dsimp only at h
      obtain ⟨ix, kd, na, hcd, hmd, h7, h8, has, hre, hnle, hsum, hrc, hfl⟩ := od_step_call hs
      have hj := (hMT.1 _ _ _ _ _ hmd h7 h8).2
      have hts := hC.2.2.2.2.2.1
      rcases hc : od_ev n d' j 0 (od_ent j as) [] M with _ | ⟨o1, M1⟩
      · rw [hc] at h; cases h
      rw [hc] at h
      have g1 := od_grow _ _ _ _ _ _ _ _ _ hc
      have g2 : M1.1 ≤ M'.1 ∧ M1.2.1 ≤ M'.2.1 := by
        cases o1 with
        | inl v => exact od_grow _ _ _ _ _ _ _ _ _ h
        | inr xa =>
          dsimp only at h
          rcases hh : od_hn k pc xa.1 with _ | _ | hp
          · rw [hh] at h; cases h
          · rw [hh] at h; cases h; exact ⟨Nat.le_refl _, Nat.le_refl _⟩
          · rw [hh] at h; exact od_grow _ _ _ _ _ _ _ _ _ h
      have hmet := od_met (l := l) (D := D) (K := K) (B := B) hMT hj hfl (fun {p e R s m args below meth c H locs cells slots lsM} => ih d' j 0 (od_ent j as) [] M o1 M1 hc (p := p) (e := e) (R := R) (s := s) (m := m) (args := args) (below := below) (meth := meth) (c := c) (H := H) (locs := locs) (cells := cells) (slots := slots) (lsM := lsM))
      intro T hTh X
      have hR' : od_Rp D K B s M T.heap := by rw [hTh]; exact hR
      obtain ⟨vm₁, mk, hW₁, X₁, hnm, hstep⟩ := od_to_I (lsM := lsM) hT hMT hC hK hR' X hcd hmd h7 h8 has hre hnle hrc
      have hws : ∀ w ∈ WS, w.before as.toArray (T.setVm vm₁) = true := fun w hw => hMT.2 w hw args _ s (T.setVm vm₁) hW₁ (hts w hw)
      obtain ⟨mk2, methY, cY, i1, i2, i3, i4, i5, i6, i7, i8, i9⟩ := hj.1 _ _ hws
      cases hnm.symm.trans i1
      have hdec : ∃ ig : Instr, decode c.code pc = .ok (ig, 3) := by
        rw [hC.2.1]
        rcases hcd with ⟨q, -⟩ | ⟨q, -⟩ | ⟨q, -⟩ <;> exact ⟨_, hT.1 _ _ _ _ q⟩
      obtain ⟨ig, hdec⟩ := hdec
      obtain ⟨o', t, T', L, X', hLq, e1, e2, ⟨hoR, hRp⟩, hWt, hsteps⟩ := mx_run (Wn := 30) (maxL := od_nl j) (g := F0 m pc lsM rest) (a := as.toArray) (mk := mk) X₁ hmet rfl rfl (by show 8 + d' + 1 ≤ _; have := hrm.1; omega) (by show 30 + (od_nl j + 11) + (200 + 100 * d') ≤ _; have := hrm.2; have := hj.2.2.2.2.2; omega) rfl (hL.1.trans hC.2.2.2.1.symm) hdec (by show 2 * 0 + (rest.map fun v => v.category).sum ≤ 30; omega) i1 hws ⟨methY, cY, i2, i3, i5⟩ (hws _ hj.2.1) (by omega) (by omega) ⟨rfl, va_K.moved (u := s) hW₁.alike hK, od_Ky.call X hf hW₁ hR' hY, hR'.moved (U := (T.setVm vm₁).calling (F0 m pc lsM rest) mk as.toArray) hW₁.alike⟩
      have hRp' : od_Rp D K B s M1 T'.heap := by rw [e1]; exact hRp.moved hW₁.alike.symm
      have hf' : ∀ q ∈ locs ++ L, B ≤ q.base := fun q hq => by
        rcases List.mem_append.mp hq with h | h
        · exact hf q h
        · exact hLq q h
      cases o1 with
      | inl v =>
        dsimp only at h
        have ho : o' = .returned v := hoR
        subst ho
        have hw := ih _ _ _ _ _ _ _ _ h hC htb hL hn hK hY hRp' hf' hrm (cells := cells + (M1.1 - M.1)) (slots := slots + (M1.2.1 - M.2.1)) (e := e) (below := below) (by omega) (by omega)
        obtain ⟨t2, s2, q2⟩ := hw T' rfl X'
        refine ⟨t2, hstep _ (hsteps.trans s2), ?_⟩
        rw [show cells + (M1.1 - M.1) + (M'.1 - M1.1) = cells + (M'.1 - M.1) by omega, show slots + (M1.2.1 - M.2.1) + (M'.2.1 - M1.2.1) = slots + (M'.2.1 - M.2.1) by omega] at q2
        exact q2
      | inr xa =>
        dsimp only at h
        have ho : o' = .threw xa.2 := hoR
        subst ho
        rcases hh : od_hn k pc xa.1 with _ | _ | hp
        · rw [hh] at h; cases h
        · rw [hh] at h
          cases h
          have hout : ∀ x ∈ c.exceptionTable.toList, covers x pc = false := by
            intro y hy
            have h1 : (y.startPc, y.endPc, y.handlerPc, y.catchType) ∈ od_ht k := by rw [← htb]; exact List.mem_map.mpr ⟨y, hy, rfl⟩
            exact od_hn_out hh _ h1
          obtain ⟨s2, b1, b2, b3, b4⟩ := X'.leaveThrown xa.2 (g := F0 m pc lsM rest) rfl rfl rfl hout (hlocks := hC.2.2.2.2.2.2.1)
          exact ⟨_, hstep _ (hsteps.trans s2), .threw xa.2, b1, b2, rfl, hRp', b3, _, b4, hf'⟩
        · rw [hh] at h
          have hcell := od_cell _ _ _ _ _ _ _ _ _ hc
          obtain ⟨vm2, X2, s2⟩ := hCat (lsM := lsM) (st := rest) hC htb hK hY (hRp'.at hcell) hh X'
          have hw := ih _ _ _ _ _ _ _ _ h hC htb hL hn hK hY hRp' hf' hrm (cells := cells + (M1.1 - M.1)) (slots := slots + (M1.2.1 - M.2.1)) (e := e) (below := below) (by omega) (by omega)
          obtain ⟨t2, s3, q2⟩ := hw (T'.setVm vm2) rfl X2
          refine ⟨t2, hstep _ (hsteps.trans (s2 _ s3)), ?_⟩
          rw [show cells + (M1.1 - M.1) + (M'.1 - M1.1) = cells + (M'.1 - M.1) by omega, show slots + (M1.2.1 - M.2.1) + (M'.2.1 - M1.2.1) = slots + (M'.2.1 - M.2.1) by omega] at q2
          exact q2
    · rw [hs] at h
      cases h
      exact od_step_fin hT hThr hC htb hL hK hY hR hf hrm hs hcl hsl
end
section
/-! The two ways of an exception, proved: it is made and leaves; it comes to its handler. -/
def od_hw : List Cond := [.laysStatic "java/lang/Throwable" "UNASSIGNED_STACK" "[Ljava/lang/StackTraceElement;", .isRef (.static "java/lang/Throwable" "UNASSIGNED_STACK" "[Ljava/lang/StackTraceElement;"), .laysStatic "java/lang/Throwable" "SUPPRESSED_SENTINEL" "Ljava/util/List;", .isRef (.static "java/lang/Throwable" "SUPPRESSED_SENTINEL" "Ljava/util/List;")]
def od_xok (WS : List Cond) (k pc x : Nat) : Prop := ∃ (ix is ic : Nat) (X tx : String) (names : List String), od_cls[od_xc x]? = some (X, od_FX, 0) ∧ od_cd k pc = some (.new ix, 3) ∧ od_cd k (pc + 3) = some (.dup, 1) ∧ od_cd k (pc + 4) = some (.ldc is, 2) ∧ od_cd k (pc + 6) = some (.invokespecial ic, 3) ∧ od_cd k (pc + 9) = some (.athrow, 1) ∧
  Cond.classLink (od_cn (od_ow k)) ix X ∈ WS ∧ Cond.instantiable X 6 ∈ WS ∧ Cond.initialized X ∈ WS ∧ (∀ w ∈ Bundle.ownAtoms (od_cn (od_ow k)) ic X names, w ∈ WS ∨ w ∈ od_hw) ∧ (od_cn (od_ow k), is, tx) ∈ od_sts ∧ Bundle.fit X = true ∧ (∀ n ∈ names, Bundle.fit n = true) ∧ names.length ≤ 3 ∧ od_ht k = []
theorem od_hw_at {B : Nat} {s : State} {args : Array Value} (h1 : od_St B "UNASSIGNED_STACK" "[Ljava/lang/StackTraceElement;" s) (h2 : od_St B "SUPPRESSED_SENTINEL" "Ljava/util/List;" s) : ∀ w ∈ od_hw, w.before args s = true := by
  intro w hw
  simp only [od_hw, List.mem_cons, List.not_mem_nil, or_false] at hw
  rcases hw with rfl | rfl | rfl | rfl
  · exact od_ride_ls h1.1 rfl (fun _ _ _ _ => rfl)
  · exact od_ride_ir h1.2.1 rfl (fun _ _ _ _ => rfl)
  · exact od_ride_ls h2.1 rfl (fun _ _ _ _ => rfl)
  · exact od_ride_ir h2.2.1 rfl (fun _ _ _ _ => rfl)
set_option maxHeartbeats 4000000 in
theorem od_thr {l : Launch} {WS : List Cond} {D : va_G} {K : Nat × Nat × Nat} {B : Nat} (hl : ∀ e : Env, l.admits e → e.platform.stackTraces = false) (hT : od_T WS) (hMT : od_MT WS) (hX : ∀ k pc x, od_xn k pc = some x → od_xok WS k pc x) : od_Thr l WS D K B := by
  intro p e R s m args below meth c H locs cells slots k pc x ix lsM M hC htb hsz hK hY hR hf hrm hcd hxn hcl hsl T hTh Xs
  obtain ⟨ix', is, ic, X, tx, names, hcls, hc0, hc3, hc4, hc6, hc9, wl, wi, wn, wa, hst, hfX, hfn, hln, hht⟩ := hX k pc x hxn
  cases hcd.symm.trans hc0
  obtain ⟨hx, hb, hr, hml, hown, hts, hlk, hin⟩ := hC
  have X0 := mx_rebase Xs (by omega) (by omega)
  have hR' : od_Rp D K B s M T.heap := by rw [hTh]; exact hR
  generalize hs0 : T.setFrames (.invoking m args :: below) = s0 at X0
  have hvm0 : s0.vm = T.vm := by rw [← hs0]; rfl
  have hheap0 : s0.heap = T.heap := by rw [← hs0]; rfl
  have hWs : s.WarmedH s0.vm := by rw [hvm0]; exact Xs.warmed
  have hts0 : ∀ w ∈ WS, w.before args s0 = true := fun w hw => hMT.2 w hw args args s s0 hWs (hts w hw)
  have hK0 : od_Kx D K s0 := va_K.moved hWs.alike hK
  have hown0 : s0.vm.findClass (od_cn (od_ow k)) = some m.cls := by rw [hWs.alike.findClass]; exact hown
  have hY1 : od_St B "UNASSIGNED_STACK" "[Ljava/lang/StackTraceElement;" s0 := od_St.call Xs hf hWs rfl hheap0 hY.1
  have hY2 : od_St B "SUPPRESSED_SENTINEL" "Ljava/util/List;" s0 := od_St.call Xs hf hWs rfl hheap0 hY.2.1
  obtain ⟨qa, hZ⟩ := hY.2.2.2.1 _ hst
  have hZ0 : vk_R (od_cn (od_ow k)) is tx qa s0 := vk_R.warm (s := s) hWs hZ
  have hat : ∀ w ∈ Bundle.ownAtoms (od_cn (od_ow k)) ic X names, w.before args s0 = true := fun w hw => (wa w hw).elim (fun h => hts0 w h) (fun h => od_hw_at hY1 hY2 w h)
  have hfc : s0.vm.findClass X = some (D.1 (od_xc x)) := (hK0.1 (od_xc x) _ hcls).2.1
  have htr : e.platform.stackTraces = false := hl e Xs.admits
  have hnoh : c.exceptionTable.toList = [] := by
    have h1 := htb
    unfold od_tb at h1
    rw [hht] at h1
    exact List.map_eq_nil_iff.mp h1
  have w : W p l e { R with cells := R.cells - cells, slots := R.slots - slots } s0 m args below meth c T.heap [] 0 0 (fun U => U.status = .running ∧ Ended U below (.threw T.heap.size) ∧ s0.WarmedH U.vm ∧ s0.sameButNew ({ U with vm := s0.vm } : State) [] 1 6 ∧ ∃ ce, U.heap[T.heap.size]? = some ce ∧ Bundle.OwnCell args s0 X T.heap.size (.ref qa) ce) (F0 m pc lsM []) := by
    refine W.newcK hx hb hown0 (hts0 _ wl) (hts0 _ wi) (hts0 _ wn) rfl (hT.1 _ _ _ _ hc0) (by show 0 + 1 ≤ R.cells - cells; omega) (by show 0 + 6 ≤ R.slots - slots; omega) hfc rfl (fun H1 kC hkC e1 z1 o1 => ?_)
    refine lv_dup hx hb (hT.1 _ _ _ _ hc3) rfl ?_
    refine va_ldcS hx hb hown0 hZ0 (hT.1 _ _ _ _ hc4) ?_
    intro T2 hT2 X2
    obtain ⟨U, q1, q2, q3, q4, q5, ce, q6, q7⟩ := X2.ctorThrowS hx htr (own := od_cn (od_ow k)) (cls := X) (names := names) (ic := ic) hown0 hfX hfn hat (fun y hy => by cases hy) hfc hkC (a := T.heap.size) (by rw [hT2]; exact e1) (by rw [hheap0]; exact Nat.le_refl _) (msg := .ref qa) rfl
      (g := F0 m (pc + 3 + 1 + 2) lsM (.ref qa :: .ref T.heap.size :: .ref T.heap.size :: [])) rfl (hsz.trans hml.symm) rfl rfl (rest := []) rfl (by rw [hb]; exact hT.1 _ _ _ _ hc6) (by rw [hb]; exact hT.1 _ _ _ _ hc9) (fun y hy => by rw [hnoh] at hy; cases hy)
      (by show names.length + 3 < R.frames; have := hrm.1; omega) (by show 2 * 0 + (1 + 0) + (13 * (names.length + 1) + 42) ≤ R.locals; have := hrm.2; omega) (hlocks := hlk)
    exact ⟨U, q1, q2, q3, q4, q5, ce, q6, q7⟩
  obtain ⟨U, st1, u1, u2, u3, u4, ce, u5, u6⟩ := w T rfl X0
  have hsz0 : T.heap.size = M.1 := hR'.1
  have hold : ∀ q, q < M.1 → U.heap[q]? = T.heap[q]? := fun q hq => by
    cases hc : T.heap[q]? with
    | none =>
      rw [← hsz0] at hq
      have := Array.getElem?_eq_none_iff.mp hc
      omega
    | some cq => exact State.sameButNew.old_cell u4 (by rw [hheap0]; exact hc)
  have hzU : U.heap.size = M.1 + 1 := by
    have h1 : U.heap.size ≤ s0.heap.size + 1 := u4.2.2.1
    have h2 := (Array.getElem?_eq_some_iff.mp u5).1
    rw [hheap0] at h1
    omega
  have hRU : od_Rp D K B s (od_add M 6 (od_ob (od_xc x) [])) U.heap := by
    refine hR'.add hzU hold ⟨_, hcls, ce, by rw [← hsz0]; exact u5, ?_, u6.vm, fun j hj => absurd hj (Nat.not_lt_zero j)⟩
    exact Option.some.inj (u6.cls.symm.trans hfc)
  have hs2 : T.sameButNew (U.setVm T.vm) [] 1 6 := by
    subst hs0
    refine ⟨?_, u4.2⟩
    have h1 := u4.1
    rw [State.setFrames_setFrames] at h1
    exact h1
  refine ⟨U, st1, .threw T.heap.size, u1, u2, by show Outcome.threw T.heap.size = .threw M.1; rw [hsz0], hRU, ?_, locs, ?_, hf⟩
  · subst hs0
    exact State.WarmedH.trans Xs.warmed u3
  · have h3 := Xs.same.trans (hs2.setVm s.vm)
    rw [List.append_nil] at h3
    exact h3
end
section
/-! An exception comes to its handler. -/
/-- the handlers' classes -/
def od_hok (WS : List Cond) : Prop := ∀ k, ∀ q ∈ od_ht k, q.2.2.2 ≠ 0 ∧ ∃ X, Cond.classLink (od_cn (od_ow k)) q.2.2.2 X ∈ WS ∧ od_cls[od_xc (od_hx (od_ow k) q.2.2.2)]? = some (X, od_FX, 0)
theorem od_ncs_in : ∀ x, x < 3 → ∀ y, y < 3 → x ≠ y → ∀ X Y, od_cls[od_xc x]? = some (X, od_FX, 0) → od_cls[od_xc y]? = some (Y, od_FX, 0) → (X, Y) ∈ od_ncs := by
  intro x hx y hy hne X Y h1 h2
  have hx' : x = 0 ∨ x = 1 ∨ x = 2 := by omega
  have hy' : y = 0 ∨ y = 1 ∨ y = 2 := by omega
  rcases hx' with rfl | rfl | rfl <;> rcases hy' with rfl | rfl | rfl <;> first | exact absurd rfl hne | (cases h1; cases h2; decide +kernel)
theorem od_xc_lt {x : Nat} {q : vw_C} (h : od_cls[od_xc x]? = some q) : x < 3 := by
  have h1 := (List.getElem?_eq_some_iff.mp h).1
  have h2 : od_cls.length = 12 := rfl
  unfold od_xc at h1
  omega
set_option maxHeartbeats 4000000 in
theorem od_cat {l : Launch} {WS : List Cond} {D : va_G} {K : Nat × Nat × Nat} {B : Nat} (hH : od_hok WS) : od_Cat l WS D K B := by
  intro p e R s m args below meth c T locs cells slots k pc x a h lsM st hC htb hK hY hat hhn X
  obtain ⟨hx, hb, hr, hml, hown, hts, hlk, hin⟩ := hC
  obtain ⟨rX, hrX, cell, q1, q2, q3, -⟩ := hat
  have hx3 := od_xc_lt hrX
  have hrX2 : ∃ XX, rX = (XX, od_FX, 0) := by
    have hx' : x = 0 ∨ x = 1 ∨ x = 2 := by omega
    rcases hx' with rfl | rfl | rfl <;> exact ⟨_, (Option.some.inj hrX).symm⟩
  obtain ⟨XX, rfl⟩ := hrX2
  have hAtX := (hK.1 (od_xc x) _ hrX).2
  have hpl : e.platform.magicAccessors = ({} : Platform).magicAccessors := by rw [X.admits.platform]
  generalize hg0 : F0 m pc lsM st = g
  have hgm : g.method = m := by rw [← hg0]
  have hgpc : g.pc = pc := by rw [← hg0]
  generalize hS : (T.setTop g).pushFrame (.throwing a) = S
  have hSvm : S.vm = T.vm := by rw [← hS]; exact Stand.throwing_vm T g a
  have hSheap : S.heap = T.heap := by rw [← hS]; exact Stand.throwing_heap T g a
  have key : ∀ (es : List ExceptionTableEntry) (vm : Vm) (hq : Nat × Nat × Nat × Nat), s.WarmedH vm → (∀ y ∈ es, (y.startPc, y.endPc, y.handlerPc, y.catchType) ∈ od_ht k) →
      ((es.map (fun y => (y.startPc, y.endPc, y.handlerPc, y.catchType))).map (fun y => (y.1, y.2.1, y.2.2.1, od_hx (od_ow k) y.2.2.2))).find? (fun y => decide (y.1 ≤ pc) && decide (pc < y.2.1) && decide (y.2.2.2 = x)) = some hq →
      ∃ vm', s.WarmedH vm' ∧ ∀ (Q : Handler → Pre) (E : CtlPost) (d : Bool) (acts : List Action), wp (findHandler.go g a es) Q E e d acts (S.setVm vm) ↔ Q (.found hq.2.2.1) d acts (S.setVm vm') := by
    intro es
    induction es with
    | nil => intro vm hq hW hes hfi; cases hfi
    | cons y t ih =>
      intro vm hq hW hes hfi
      have hy := hes y List.mem_cons_self
      have hest : ∀ z ∈ t, (z.startPc, z.endPc, z.handlerPc, z.catchType) ∈ od_ht k := fun z hz => hes z (List.mem_cons_of_mem _ hz)
      rw [List.map_cons, List.map_cons, List.find?_cons] at hfi
      cases hcv : covers y g.pc with
      | false =>
        have hcv2 : (decide (y.startPc ≤ pc) && decide (pc < y.endPc)) = false := by rw [← hgpc]; exact hcv
        dsimp only at hfi
        rw [hcv2] at hfi
        simp only [Bool.false_and] at hfi
        obtain ⟨vm', h1, h2⟩ := ih vm hq hW hest hfi
        exact ⟨vm', h1, fun Q E d acts => (W.findHandler_go_skip hcv).trans (h2 Q E d acts)⟩
      | true =>
        have hcv2 : (decide (y.startPc ≤ pc) && decide (pc < y.endPc)) = true := by rw [← hgpc]; exact hcv
        dsimp only at hfi
        rw [hcv2] at hfi
        simp only [Bool.true_and] at hfi
        obtain ⟨hne0, Y, hlink, hclY⟩ := hH k _ hy
        dsimp only at hne0 hlink hclY
        have hAtY := (hK.1 _ _ hclY).2
        obtain ⟨cY, hcY, hcl⟩ := Cond.classLink_spec hown (hts _ hlink) e.platform hpl
        have hcYe : cY = D.1 (od_xc (od_hx (od_ow k) y.catchType)) := Option.some.inj (hcY.symm.trans hAtY.1)
        obtain ⟨hg₁, hwarm₁, hready₁⟩ := State.classEntry (e := e) hW hcl
        have hsz : (vm.noted m.cls y.catchType (.cls cY)).classes.size ≤ vm.classes.size := by rw [Vm.size_noted]; exact Nat.le_refl _
        generalize vm.noted m.cls y.catchType (.cls cY) = vm₁ at hg₁ hwarm₁ hready₁ hsz
        obtain ⟨kX, hkX, -⟩ := hAtX.2
        obtain ⟨kY, hkY, -⟩ := hAtY.2
        obtain ⟨kX', hkX', -⟩ := hwarm₁.alike.2.2 _ _ hkX
        obtain ⟨kY', hkY', -⟩ := hwarm₁.alike.2.2 _ _ hkY
        have go := fun (Q : Handler → Pre) (E : CtlPost) (d : Bool) (acts : List Action) => fh_go (Q := Q) (E := E) (e := e) (d := d) (acts := acts) (s := S.setVm vm) (f := g) (a := a) (x := y) (t := t) (c := cY) (vm' := vm₁) (cell := cell) hcv hne0 (by rw [hgm]; exact hg₁) hsz (by show S.heap[a]? = _; rw [hSheap]; exact q1) (fun z hz => by rw [q3] at hz; cases hz) ⟨kX', by rw [q2]; exact hkX'⟩ ⟨kY', by rw [hcYe]; exact hkY'⟩
        have hasg : vm₁.assignable cell.cls cY = s.vm.assignable (D.1 (od_xc x)) cY := by rw [hwarm₁.alike.assignable, q2]
        by_cases hkind : od_hx (od_ow k) y.catchType = x
        · rw [decide_eq_true hkind] at hfi
          cases hfi
          have h1 : vm₁.assignable cell.cls cY = true := by
            rw [hasg, hcYe, hkind]
            exact va_assign hAtX
          exact ⟨vm₁, hwarm₁, fun Q E d acts => by rw [go Q E d acts, if_pos h1]; rfl⟩
        · rw [decide_eq_false hkind] at hfi
          obtain ⟨vm', h2, h3⟩ := ih vm₁ hq hwarm₁ hest hfi
          have h1 : vm₁.assignable cell.cls cY = false := by
            obtain ⟨c1, t1, n1, n2, n3⟩ := hY.2.2.1 _ (od_ncs_in x hx3 _ (od_xc_lt hclY) (fun z => hkind z.symm) XX Y hrX hclY)
            have e1 : c1 = D.1 (od_xc x) := Option.some.inj (n1.symm.trans hAtX.1)
            have e2 : t1 = cY := Option.some.inj (n2.symm.trans hcY)
            rw [hasg, ← e1, ← e2]
            exact n3
          refine ⟨vm', h2, fun Q E d acts => ?_⟩
          rw [go Q E d acts, if_neg (by rw [h1]; decide)]
          exact h3 Q E d acts
  unfold od_hn at hhn
  split at hhn
  · cases hhn
  · split at hhn
    · rename_i hq hfi
      cases hhn
      unfold od_hd at hfi
      have htb' : c.exceptionTable.toList.map (fun y => (y.startPc, y.endPc, y.handlerPc, y.catchType)) = od_ht k := htb
      rw [← htb'] at hfi
      obtain ⟨vm', h1, h2⟩ := key c.exceptionTable.toList T.vm hq X.warmed (fun y hy => by rw [← htb']; exact List.mem_map.mpr ⟨y, hy, rfl⟩) hfi
      refine ⟨vm', X.noted h1, fun tg hsteps => ?_⟩
      rw [← hS]
      refine st_caught X hgm (pc := hq.2.2.1) (vm' := vm') (fun Q E d acts => ?_) ?_
      · rw [hS]
        have h3 := h2 Q E d acts
        have e0 : S.setVm T.vm = S := by rw [← hSvm]; rfl
        rw [e0] at h3
        refine Iff.trans (W.findHandler_eq (meth := meth) (code := c) ?_ X.code) h3
        rw [hSvm, hgm]
        exact X.method'
      · rw [← hg0]
        exact hsteps
    · cases hhn
end
section
/-! The tables of the small machine against the Statement's words: checks by program. -/
def od_gw (w : Cond) : Bool := match w with
  | .methodLinkNest .. => true
  | .declares _ => true
  | .castable .. => true
  | .arrayOver (.object _) => true
  | w => goodWord w
def od_WS : List Cond := lw_tbl.filter od_gw
def od_has (w : Cond) : Bool := od_gw w && (decide (w ∈ tables_1) || decide (w ∈ k2_sels lw_privs))
theorem od_hasI {w : Cond} (h : od_has w = true) : w ∈ od_WS := by
  unfold od_has at h
  simp only [Bool.and_eq_true, Bool.or_eq_true, decide_eq_true_eq] at h
  refine List.mem_filter.mpr ⟨?_, h.1⟩
  unfold lw_tbl
  rcases h.2 with h | h
  · exact List.mem_append_right _ h
  · exact List.mem_append_left _ h
theorem od_ride : ∀ w ∈ od_WS, ∀ (args a' : Array Value) (s U : State), s.WarmedH U.vm → w.before args s = true → w.before a' U = true := by
  intro w hw args a' s U hW hb
  have hg := (List.mem_filter.mp hw).2
  unfold od_gw at hg
  split at hg
  · exact va_Nw.use rfl (va_Nw.warmM hW (va_Nw.of rfl hb))
  · exact va_Nw.use rfl (va_Nw.warmD hW (va_Nw.of rfl hb))
  · rename_i a b
    have hal := hW.alike
    simp only [Cond.before, Cond.holds, Cond.value] at hb ⊢
    rw [hal.findClass, hal.findClass]
    cases h1 : s.vm.findClass a with
    | none => rw [h1] at hb; exact hb
    | some x =>
      rw [h1] at hb
      cases h2 : s.vm.findClass b with
      | none => rw [h2] at hb; exact hb
      | some y =>
        rw [h2] at hb
        dsimp only at hb ⊢
        rw [hal.assignable]
        exact hb
  · exact va_AO.use (va_AO.moved hW.alike (va_AO.of hb))
  · exact word_at hW (good_of_word hg) hb
theorem od_look {α : Type} {l : List (Nat × α)} {k : Nat} {v : α} (h : l.lookup k = some v) : (k, v) ∈ l := by
  induction l with
  | nil => cases h
  | cons q r ih =>
    obtain ⟨k', v'⟩ := q
    rw [List.lookup_cons] at h
    split at h
    · rename_i hk
      cases h
      have : k = k' := by simpa using hk
      subst this
      exact List.mem_cons_self
    · exact List.mem_cons_of_mem _ (ih h)
/-- a check of every row of a table by classes -/
theorem od_rows {α : Type} {L : List (List (Nat × α))} {f : Nat → Nat × α → Bool} (h : (List.range 12).all (fun own => ((L[own]?).getD []).all (f own)) = true) (hl : L.length = 12) {own ix : Nat} {v : α} (hv : ((L[own]?).getD []).lookup ix = some v) : f own (ix, v) = true := by
  have hm := od_look hv
  have ho : own < 12 := by
    apply Nat.lt_of_not_le
    intro hle
    rw [List.getElem?_eq_none (by omega)] at hm
    cases hm
  exact List.all_eq_true.mp (List.all_eq_true.mp h own (List.mem_range.mpr ho)) _ hm
def od_ty (T : u_T) (j : Nat) : FieldType := (parseFieldDescriptor (T j).2.2.1).getD .int
def od_tyc (t : Nat) (ty : FieldType) (fin : Bool) : Bool := match ty with
  | .int => t == 0 && !fin
  | .boolean => t == 1 && !fin
  | .object _ => (t == 2 && !fin) || ((t == 3 && fin) || (t == 5 && fin))
  | .array _ => (t == 2 && !fin) || ((t == 3 && fin) || (t == 5 && fin))
  | _ => false
theorem od_tycI {t : Nat} {ty : FieldType} {fin : Bool} (h : od_tyc t ty fin = true) : od_tyok t ty fin := by
  unfold od_tyc at h
  split at h
  · simp at h; exact Or.inl ⟨h.1, rfl, h.2⟩
  · simp at h; exact Or.inr (Or.inl ⟨h.1, rfl, h.2⟩)
  · rename_i n
    simp at h
    refine Or.inr (Or.inr ⟨?_, Or.inl ⟨n, rfl⟩⟩)
    rcases h with h | h | h
    · exact Or.inl h
    · exact Or.inr (Or.inl h)
    · exact Or.inr (Or.inr h)
  · rename_i n
    simp at h
    refine Or.inr (Or.inr ⟨?_, Or.inr ⟨n, rfl⟩⟩)
    rcases h with h | h | h
    · exact Or.inl h
    · exact Or.inr (Or.inl h)
    · exact Or.inr (Or.inr h)
  · cases h
def od_clc (C : String) (T : u_T) (N : Nat) : Bool := (u_ws C T N).all od_has && (List.range N).all (fun j => (parseFieldDescriptor (T j).2.2.1).isSome) && (List.range N).all (fun a => (List.range N).all (fun b => a == b || (T a).2.1 != (T b).2.1))
theorem od_clcI {C : String} {T : u_T} {N : Nat} (h : od_clc C T N = true) : (∀ w ∈ u_ws C T N, w ∈ od_WS) ∧ (∀ j, j < N → parseFieldDescriptor (T j).2.2.1 = some (od_ty T j)) ∧ (∀ a, a < N → ∀ b, b < N → a ≠ b → (T a).2.1 ≠ (T b).2.1) := by
  unfold od_clc at h
  simp only [Bool.and_eq_true] at h
  obtain ⟨⟨h1, h2⟩, h3⟩ := h
  refine ⟨fun w hw => od_hasI (List.all_eq_true.mp h1 w hw), fun j hj => ?_, fun a ha b hb hab => ?_⟩
  · have h4 := List.all_eq_true.mp h2 j (List.mem_range.mpr hj)
    obtain ⟨y, hy⟩ := Option.isSome_iff_exists.mp h4
    unfold od_ty
    rw [hy]
    rfl
  · have h4 := List.all_eq_true.mp (List.all_eq_true.mp h3 a (List.mem_range.mpr ha)) b (List.mem_range.mpr hb)
    simp only [Bool.or_eq_true, beq_iff_eq, bne_iff_ne] at h4
    exact h4.resolve_left hab
theorem od_cl_ok : od_cls.all (fun q => od_clc q.1 q.2.1 q.2.2) = true := by decide +kernel
theorem od_clI {c : Nat} {C : String} {T : u_T} {N : Nat} (h : od_cls[c]? = some (C, T, N)) : (∀ w ∈ u_ws C T N, w ∈ od_WS) ∧ (∀ j, j < N → parseFieldDescriptor (T j).2.2.1 = some (od_ty T j)) ∧ (∀ a, a < N → ∀ b, b < N → a ≠ b → (T a).2.1 ≠ (T b).2.1) :=
  od_clcI (List.all_eq_true.mp od_cl_ok _ (List.mem_of_getElem? h))
def od_fck (own : Nat) (q : Nat × Nat × Nat × Nat) : Bool := match od_cls[q.2.1]? with
  | some r => decide (q.2.2.1 < r.2.2) && od_has (.fieldLink (od_cn own) q.1 (r.2.1 q.2.2.1).1 (r.2.1 q.2.2.1).2.1 (r.2.1 q.2.2.1).2.2.1) && od_tyc q.2.2.2 (od_ty r.2.1 q.2.2.1) (r.2.1 q.2.2.1).2.2.2 && (q.2.2.2 != 3 || (r.2.1 q.2.2.1).1 == od_cn own)
  | none => false
theorem od_f_ok : (List.range 12).all (fun own => ((od_fdl[own]?).getD []).all (od_fck own)) = true := by decide +kernel
theorem od_fd_ok {own ix c k t : Nat} (h : od_fd own ix = some (c, k, t)) : od_fok od_WS own ix c k t := by
  have h1 := od_rows od_f_ok rfl h
  unfold od_fck at h1
  cases hc : od_cls[c]? with
  | none => simp only [hc] at h1; cases h1
  | some r =>
    simp only [hc, Bool.and_eq_true, decide_eq_true_eq] at h1
    obtain ⟨⟨⟨h2, h3⟩, h4⟩, h5⟩ := h1
    obtain ⟨C, T, N⟩ := r
    obtain ⟨g1, g2, g3⟩ := od_clI hc
    refine ⟨C, T, N, od_ty T, hc, g1, g2, g3, h2, od_hasI h3, od_tycI h4, fun ht => ?_⟩
    simpa [ht] using h5
def od_nck (own : Nat) (q : Nat × Nat × List Value) : Bool := match od_cls[q.2.1]? with
  | some r => od_has (.classLink (od_cn own) q.1 r.1) && od_has (.instantiable r.1 r.2.2) && od_has (.initialized r.1) && q.2.2.length == r.2.2 && (List.range r.2.2).all (fun j => decide (defaultValue (od_ty r.2.1 j) = vp_V q.2.2 j))
  | none => false
theorem od_n_ok : (List.range 12).all (fun own => ((od_nwl[own]?).getD []).all (od_nck own)) = true := by decide +kernel
theorem od_nw_ok {own ix c : Nat} {fs : List Value} (h : od_nw own ix = some (c, fs)) : od_nok od_WS own ix c fs := by
  have h1 := od_rows od_n_ok rfl h
  unfold od_nck at h1
  cases hc : od_cls[c]? with
  | none => simp only [hc] at h1; cases h1
  | some r =>
    simp only [hc, Bool.and_eq_true, beq_iff_eq] at h1
    obtain ⟨⟨⟨⟨h2, h3⟩, h4⟩, h5⟩, h6⟩ := h1
    obtain ⟨C, T, N⟩ := r
    obtain ⟨g1, g2, g3⟩ := od_clI hc
    exact ⟨C, T, N, od_ty T, hc, g1, g2, od_hasI h2, od_hasI h3, od_hasI h4, h5, fun j hj => of_decide_eq_true (List.all_eq_true.mp h6 j (List.mem_range.mpr hj))⟩
theorem od_cd_ok {k pc n : Nat} {i : ClassFile.Instr} (h : od_cd k pc = some (i, n)) : decode (od_by k) pc = .ok (i, n) := by
  unfold od_cd at h
  unfold od_by
  cases hk : od_tab[k]? with
  | none => rw [hk] at h; cases h
  | some q =>
    rw [hk] at h
    have h1 := od_tab_ok q (List.mem_of_getElem? hk)
    simp only [Option.map_some, Option.getD_some] at h ⊢
    have hl : pc < q.2.length := by
      apply Nat.lt_of_not_le
      intro hle
      rw [List.getElem?_eq_none hle] at h
      cases h
    have h2 := h1 pc hl
    unfold od_chq at h2
    rw [h] at h2
    exact of_decide_eq_true h2
end
section
/-! Calls and methods of the small machine against the Statement's words: the checks. -/
def od_hasA (i : Nat) (w : Cond) : Bool := od_gw w && decide (lw_tbl[i]? = some w)
theorem od_hasAI {i : Nat} {w : Cond} (h : od_hasA i w = true) : w ∈ od_WS := by
  unfold od_hasA at h
  simp only [Bool.and_eq_true, decide_eq_true_eq] at h
  exact List.mem_filter.mpr ⟨List.mem_of_getElem? h.2, h.1⟩
theorem od_hasR (i : Nat) {w : Cond} (h : lw_tbl[i]? = some w) (hg : od_gw w = true) : w ∈ od_WS := List.mem_filter.mpr ⟨List.mem_of_getElem? h, hg⟩
/-- a method's code among the words -/
def od_cw (j : Nat) : Cond := match od_ht j with
  | [] => .code (od_y j) (od_by j) (od_nl j) (od_rf j)
  | q :: r => .codeWith (od_y j) (od_by j) (od_nl j) (od_rf j) (q :: r)
/-- a method: its number, the places of its code and of its class's being initialised -/
def od_mrc (r : Nat × Nat × Nat) : Bool := od_hasA r.2.2 (.initialized (od_y r.1).cls) && plainFor (od_y r.1) && (od_y r.1).cls == od_cn (od_ow r.1) && (!od_in r.1 || (od_y r.1).name == "<init>") && decide (od_nl r.1 ≤ 50)
/-- a link: class, pool's entry, callee, kind, arguments, the places of three words -/
def od_lrc (r : Nat × Nat × Nat × Nat × Nat × Nat × Nat × Nat) : Bool := match r with
  | (own, ix, j, kd, n, i1, i2, i3) => (od_y j).cls != "java/lang/invoke/MethodHandle" && (od_y j).cls != "java/lang/invoke/VarHandle" &&
    (match kd with
    | 0 => od_hasA i1 (.methodLink (od_cn own) ix (od_y j)) && od_hasA i2 (.instanceMethod (od_y j)) && (match od_cls[od_oc j]? with
      | some q => od_hasA i3 (.selects q.1 (od_y j) (od_y j))
      | none => false) && decide ((parseMethodDescriptor (od_y j).desc).map (fun g => g.parameters.length + 1) = some n)
    | 1 => od_hasA i1 (.methodLink (od_cn own) ix (od_y j)) && od_hasA i2 (.static (od_y j)) && decide ((parseMethodDescriptor (od_y j).desc).map (fun g => g.parameters.length) = some n)
    | 2 => (od_hasA i1 (.methodLink (od_cn own) ix (od_y j)) || od_hasA i1 (.methodLinkNest (od_cn own) ix (od_y j) "OrdinalDesk")) && od_hasA i2 (.instanceMethod (od_y j)) && (od_y j).name == "<init>" && decide (od_rf j = none) && decide (od_ht j = []) && decide ((parseMethodDescriptor (od_y j).desc).map (fun g => g.parameters.length + 1) = some n)
    | _ => false)
/-! Printed by wip/whole/gen.py: the words of calls and methods by their places in lw_tbl. -/
def ol_0 : List (Nat × Nat × Nat × Nat × Nat × Nat × Nat × Nat) := [(0, 19, 6, 0, 3, 528, 529, 530), (0, 23, 10, 0, 3, 532, 533, 534), (0, 27, 8, 0, 2, 536, 489, 490), (0, 31, 9, 0, 2, 657, 485, 486), (0, 34, 14, 0, 4, 464, 465, 466), (0, 38, 18, 0, 4, 453, 454, 455), (0, 41, 24, 0, 2, 399, 400, 401), (0, 45, 23, 0, 3, 449, 450, 451), (0, 62, 19, 0, 2, 407, 408, 409), (0, 66, 22, 0, 2, 431, 432, 433)]
theorem ol_0_ok : ol_0.all od_lrc = true := by decide +kernel
def ol_1 : List (Nat × Nat × Nat × Nat × Nat × Nat × Nat × Nat) := [(0, 73, 20, 0, 1, 403, 404, 405), (0, 76, 21, 0, 2, 427, 428, 429), (0, 79, 28, 1, 6, 278, 279, 0), (0, 83, 154, 1, 2, 281, 282, 0), (0, 88, 157, 1, 2, 284, 285, 0), (1, 11, 0, 2, 1, 98, 71, 72), (1, 54, 1, 0, 1, 482, 476, 477), (1, 58, 13, 0, 2, 483, 461, 462), (1, 62, 9, 0, 2, 484, 485, 486), (1, 66, 8, 0, 2, 488, 489, 490)]
theorem ol_1_ok : ol_1.all od_lrc = true := by decide +kernel
def ol_2 : List (Nat × Nat × Nat × Nat × Nat × Nat × Nat × Nat) := [(1, 73, 27, 1, 6, 492, 493, 0), (1, 77, 14, 0, 4, 495, 465, 466), (1, 81, 25, 0, 5, 496, 497, 498), (1, 85, 18, 0, 4, 500, 454, 455), (1, 88, 12, 0, 1, 505, 506, 507), (1, 91, 15, 0, 4, 509, 510, 511), (1, 94, 23, 0, 3, 513, 450, 451), (1, 98, 30, 1, 3, 514, 480, 0), (1, 102, 3, 0, 1, 519, 520, 521), (1, 105, 16, 0, 2, 523, 396, 397)]
theorem ol_2_ok : ol_2.all od_lrc = true := by decide +kernel
def ol_3 : List (Nat × Nat × Nat × Nat × Nat × Nat × Nat × Nat) := [(1, 109, 7, 0, 1, 524, 525, 526), (1, 113, 2, 0, 1, 537, 538, 539), (1, 116, 33, 0, 4, 541, 543, 2), (1, 120, 35, 0, 4, 550, 552, 3), (1, 124, 34, 1, 2, 545, 546, 0), (1, 128, 17, 0, 3, 549, 446, 447), (1, 140, 31, 0, 4, 557, 502, 503), (1, 143, 38, 0, 4, 565, 567, 4), (1, 147, 36, 1, 3, 569, 559, 0), (2, 11, 0, 2, 1, 146, 71, 72)]
theorem ol_3_ok : ol_3.all od_lrc = true := by decide +kernel
def ol_4 : List (Nat × Nat × Nat × Nat × Nat × Nat × Nat × Nat) := [(2, 30, 12, 0, 1, 573, 506, 507), (2, 37, 9, 0, 2, 574, 485, 486), (2, 41, 27, 1, 6, 575, 493, 0), (2, 45, 8, 0, 2, 576, 489, 490), (2, 48, 25, 0, 5, 577, 497, 498), (2, 52, 18, 0, 4, 578, 454, 455), (2, 56, 15, 0, 4, 583, 510, 511), (2, 59, 40, 1, 3, 584, 571, 0), (2, 63, 23, 0, 3, 585, 450, 451), (2, 67, 14, 0, 4, 586, 465, 466)]
theorem ol_4_ok : ol_4.all od_lrc = true := by decide +kernel
def ol_5 : List (Nat × Nat × Nat × Nat × Nat × Nat × Nat × Nat) := [(2, 70, 42, 0, 3, 587, 589, 5), (2, 74, 24, 0, 2, 593, 400, 401), (2, 78, 1, 0, 1, 591, 476, 477), (2, 82, 28, 1, 6, 592, 279, 0), (3, 11, 0, 2, 1, 170, 71, 72), (3, 21, 18, 0, 4, 618, 454, 455), (3, 25, 8, 0, 2, 619, 489, 490), (3, 29, 25, 0, 5, 620, 497, 498), (3, 33, 12, 0, 1, 616, 506, 507), (3, 40, 10, 0, 3, 617, 533, 534)]
theorem ol_5_ok : ol_5.all od_lrc = true := by decide +kernel
def ol_6 : List (Nat × Nat × Nat × Nat × Nat × Nat × Nat × Nat) := [(3, 44, 6, 0, 3, 621, 529, 530), (3, 48, 20, 0, 1, 622, 404, 405), (3, 51, 44, 1, 4, 623, 624, 0), (3, 55, 21, 0, 2, 626, 428, 429), (3, 59, 13, 0, 2, 638, 461, 462), (3, 64, 5, 0, 1, 640, 610, 611), (3, 68, 45, 1, 3, 641, 614, 0), (4, 24, 0, 2, 1, 185, 71, 72), (4, 35, 11, 0, 4, 653, 654, 655), (4, 39, 9, 0, 2, 658, 485, 486)]
theorem ol_6_ok : ol_6.all od_lrc = true := by decide +kernel
def ol_7 : List (Nat × Nat × Nat × Nat × Nat × Nat × Nat × Nat) := [(4, 43, 50, 0, 4, 663, 665, 7), (4, 47, 17, 0, 3, 671, 446, 447), (4, 51, 36, 1, 3, 672, 559, 0), (4, 57, 14, 0, 4, 667, 465, 466), (4, 61, 8, 0, 2, 668, 489, 490), (4, 64, 25, 0, 5, 669, 497, 498), (4, 68, 18, 0, 4, 670, 454, 455), (5, 28, 0, 2, 1, 209, 71, 72), (5, 33, 54, 0, 3, 759, 761, 8), (5, 37, 53, 0, 1, 764, 766, 9)]
theorem ol_7_ok : ol_7.all od_lrc = true := by decide +kernel
def ol_8 : List (Nat × Nat × Nat × Nat × Nat × Nat × Nat × Nat) := [(5, 41, 5, 0, 1, 768, 610, 611), (5, 46, 45, 1, 3, 770, 614, 0), (5, 52, 12, 0, 1, 771, 506, 507), (5, 58, 44, 1, 4, 772, 624, 0), (5, 62, 13, 0, 2, 763, 461, 462), (6, 15, 12, 0, 1, 684, 506, 507), (6, 20, 57, 1, 4, 685, 686, 0), (6, 31, 20, 0, 1, 691, 404, 405), (6, 34, 21, 0, 2, 692, 428, 429), (6, 46, 8, 0, 2, 732, 489, 490)]
theorem ol_8_ok : ol_8.all od_lrc = true := by decide +kernel
def ol_9 : List (Nat × Nat × Nat × Nat × Nat × Nat × Nat × Nat) := [(6, 50, 59, 1, 2, 733, 734, 0), (6, 54, 155, 1, 2, 744, 745, 0), (6, 60, 60, 1, 1, 737, 738, 0), (6, 68, 156, 1, 2, 741, 742, 0), (7, 22, 0, 2, 1, 70, 71, 72), (7, 32, 29, 2, 1, 93, 94, 95), (7, 39, 39, 2, 1, 141, 142, 143), (7, 46, 43, 2, 1, 165, 166, 167), (7, 53, 47, 2, 1, 180, 181, 182), (7, 60, 51, 2, 1, 204, 205, 206)]
theorem ol_9_ok : ol_9.all od_lrc = true := by decide +kernel
def ol_10 : List (Nat × Nat × Nat × Nat × Nat × Nat × Nat × Nat) := [(7, 67, 55, 2, 1, 228, 229, 230), (7, 72, 80, 0, 2, 300, 302, 0), (7, 77, 82, 1, 3, 373, 374, 0), (7, 81, 83, 1, 1, 376, 377, 0), (7, 85, 16, 0, 2, 395, 396, 397), (7, 89, 17, 0, 3, 445, 446, 447), (7, 93, 13, 0, 2, 460, 461, 462), (7, 97, 26, 1, 2, 275, 276, 0), (7, 101, 1, 0, 1, 475, 476, 477), (7, 105, 30, 1, 3, 479, 480, 0)]
theorem ol_10_ok : ol_10.all od_lrc = true := by decide +kernel
def ol_11 : List (Nat × Nat × Nat × Nat × Nat × Nat × Nat × Nat) := [(7, 109, 31, 0, 4, 501, 502, 503), (7, 112, 32, 0, 4, 515, 516, 517), (7, 115, 36, 1, 3, 558, 559, 0), (7, 118, 37, 0, 4, 561, 562, 563), (7, 121, 40, 1, 3, 570, 571, 0), (7, 124, 41, 0, 5, 579, 580, 581), (7, 128, 84, 0, 2, 594, 596, 6), (7, 132, 5, 0, 1, 609, 610, 611), (7, 136, 45, 1, 3, 613, 614, 0), (7, 140, 46, 0, 4, 634, 635, 636)]
theorem ol_11_ok : ol_11.all od_lrc = true := by decide +kernel
def ol_12 : List (Nat × Nat × Nat × Nat × Nat × Nat × Nat × Nat) := [(7, 143, 48, 0, 3, 649, 650, 651), (7, 147, 49, 0, 4, 659, 660, 661), (7, 151, 56, 1, 3, 681, 682, 0), (7, 155, 4, 0, 1, 598, 599, 600), (7, 165, 58, 0, 3, 728, 729, 730), (7, 171, 52, 0, 4, 755, 756, 757), (7, 182, 81, 0, 2, 790, 792, 10), (8, 40, 88, 0, 3, 862, 864, 13), (8, 44, 89, 0, 5, 874, 876, 15), (8, 51, 87, 0, 2, 858, 860, 12)]
theorem ol_12_ok : ol_12.all od_lrc = true := by decide +kernel
def ol_13 : List (Nat × Nat × Nat × Nat × Nat × Nat × Nat × Nat) := [(8, 55, 92, 0, 3, 895, 897, 19), (8, 59, 93, 0, 3, 903, 905, 21), (8, 62, 97, 0, 2, 927, 929, 27), (8, 66, 91, 0, 3, 883, 885, 17), (8, 69, 95, 0, 5, 907, 909, 22), (8, 72, 94, 0, 3, 911, 913, 23), (8, 75, 96, 0, 3, 891, 893, 18), (8, 78, 90, 0, 4, 870, 872, 14), (8, 82, 102, 0, 4, 899, 901, 20), (8, 86, 103, 0, 4, 943, 945, 30)]
theorem ol_13_ok : ol_13.all od_lrc = true := by decide +kernel
def ol_14 : List (Nat × Nat × Nat × Nat × Nat × Nat × Nat × Nat) := [(8, 89, 106, 0, 4, 951, 953, 32), (8, 92, 107, 0, 4, 959, 961, 34), (8, 97, 100, 0, 3, 854, 856, 11), (8, 100, 98, 0, 2, 923, 925, 26), (8, 103, 99, 0, 2, 931, 933, 28), (8, 107, 101, 0, 2, 935, 937, 29), (8, 110, 109, 1, 2, 939, 940, 0), (8, 113, 104, 0, 4, 915, 917, 24), (8, 116, 113, 1, 1, 850, 851, 0), (8, 119, 114, 0, 2, 879, 881, 16)]
theorem ol_14_ok : ol_14.all od_lrc = true := by decide +kernel
def ol_15 : List (Nat × Nat × Nat × Nat × Nat × Nat × Nat × Nat) := [(8, 122, 110, 0, 4, 919, 921, 25), (8, 125, 105, 0, 4, 947, 949, 31), (8, 128, 108, 0, 3, 955, 957, 33), (8, 131, 111, 0, 4, 967, 969, 35), (8, 134, 120, 0, 3, 979, 981, 36), (8, 137, 112, 0, 5, 983, 985, 37), (8, 141, 122, 0, 4, 992, 994, 38), (8, 146, 128, 1, 2, 1016, 1017, 0), (8, 155, 130, 0, 2, 1025, 1027, 39), (9, 7, 62, 0, 3, 296, 297, 298)]
theorem ol_15_ok : ol_15.all od_lrc = true := by decide +kernel
def ol_16 : List (Nat × Nat × Nat × Nat × Nat × Nat × Nat × Nat) := [(9, 17, 63, 0, 4, 441, 442, 443), (9, 23, 64, 0, 5, 471, 472, 473), (9, 27, 65, 0, 4, 605, 606, 607), (9, 31, 66, 0, 4, 630, 631, 632), (9, 34, 67, 0, 5, 645, 646, 647), (9, 37, 68, 0, 4, 676, 677, 678), (9, 40, 69, 0, 3, 696, 697, 698), (9, 44, 70, 0, 2, 703, 704, 705), (9, 48, 71, 0, 2, 710, 711, 712), (9, 51, 72, 0, 3, 717, 718, 719)]
theorem ol_16_ok : ol_16.all od_lrc = true := by decide +kernel
def ol_17 : List (Nat × Nat × Nat × Nat × Nat × Nat × Nat × Nat) := [(9, 54, 73, 0, 3, 724, 725, 726), (9, 57, 74, 0, 4, 751, 752, 753), (9, 60, 75, 0, 2, 776, 777, 778), (9, 63, 77, 0, 3, 786, 787, 788), (9, 66, 78, 0, 3, 798, 799, 800), (9, 69, 61, 2, 1, 61, 62, 63), (9, 72, 85, 2, 1, 804, 805, 806), (9, 73, 137, 1, 3, 291, 292, 0), (9, 78, 115, 0, 3, 846, 847, 848), (9, 79, 86, 0, 1, 842, 843, 844)]
theorem ol_17_ok : ol_17.all od_lrc = true := by decide +kernel
def ol_18 : List (Nat × Nat × Nat × Nat × Nat × Nat × Nat × Nat) := [(9, 83, 138, 1, 4, 437, 438, 0), (9, 86, 116, 0, 4, 866, 867, 868), (9, 87, 139, 1, 6, 468, 469, 0), (9, 90, 117, 0, 5, 887, 888, 889), (9, 91, 140, 1, 5, 602, 603, 0), (9, 94, 118, 0, 4, 963, 964, 965), (9, 95, 141, 1, 5, 627, 628, 0), (9, 97, 119, 0, 4, 971, 972, 973), (9, 98, 142, 1, 6, 642, 643, 0), (9, 100, 121, 0, 5, 975, 976, 977)]
theorem ol_18_ok : ol_18.all od_lrc = true := by decide +kernel
def ol_19 : List (Nat × Nat × Nat × Nat × Nat × Nat × Nat × Nat) := [(9, 101, 143, 1, 5, 673, 674, 0), (9, 103, 123, 0, 4, 987, 988, 989), (9, 104, 144, 1, 4, 693, 694, 0), (9, 107, 124, 0, 3, 996, 997, 998), (9, 108, 145, 1, 3, 700, 701, 0), (9, 111, 125, 0, 2, 1000, 1001, 1002), (9, 112, 146, 1, 3, 707, 708, 0), (9, 114, 126, 0, 2, 1004, 1005, 1006), (9, 115, 147, 1, 4, 714, 715, 0), (9, 117, 127, 0, 3, 1008, 1009, 1010)]
theorem ol_19_ok : ol_19.all od_lrc = true := by decide +kernel
def ol_20 : List (Nat × Nat × Nat × Nat × Nat × Nat × Nat × Nat) := [(9, 118, 148, 1, 4, 721, 722, 0), (9, 120, 129, 0, 3, 1012, 1013, 1014), (9, 121, 149, 1, 5, 748, 749, 0), (9, 123, 131, 0, 4, 1021, 1022, 1023), (9, 124, 150, 1, 3, 773, 774, 0), (9, 126, 132, 0, 2, 1029, 1030, 1031), (9, 127, 76, 0, 1, 271, 272, 273), (9, 130, 133, 0, 1, 1033, 1034, 1035), (9, 131, 151, 1, 3, 783, 784, 0), (9, 133, 134, 0, 3, 1037, 1038, 1039)]
theorem ol_20_ok : ol_20.all od_lrc = true := by decide +kernel
def ol_21 : List (Nat × Nat × Nat × Nat × Nat × Nat × Nat × Nat) := [(9, 134, 152, 1, 3, 795, 796, 0), (9, 136, 135, 0, 3, 1041, 1042, 1043), (9, 137, 79, 0, 1, 287, 288, 289), (9, 140, 136, 0, 1, 1045, 1046, 1047)]
theorem ol_21_ok : ol_21.all od_lrc = true := by decide +kernel
def om_0 : List (Nat × Nat × Nat) := [(0, 72, 42), (1, 478, 42), (2, 540, 42), (3, 522, 42), (4, 601, 42), (5, 612, 42), (6, 531, 42), (7, 527, 42)]
theorem om_0_ok : om_0.all od_mrc = true := by decide +kernel
def om_1 : List (Nat × Nat × Nat) := [(8, 491, 42), (9, 487, 42), (10, 535, 42), (11, 656, 42), (12, 508, 42), (13, 463, 42), (14, 467, 42), (15, 512, 42)]
theorem om_1_ok : om_1.all od_mrc = true := by decide +kernel
def om_2 : List (Nat × Nat × Nat) := [(16, 398, 42), (17, 448, 42), (18, 456, 42), (19, 410, 42), (20, 406, 42), (21, 430, 42), (22, 434, 42), (23, 452, 42)]
theorem om_2_ok : om_2.all od_mrc = true := by decide +kernel
def om_3 : List (Nat × Nat × Nat) := [(24, 402, 42), (25, 499, 42), (26, 277, 42), (27, 494, 42), (28, 280, 42), (29, 95, 43), (30, 481, 43), (31, 504, 43)]
theorem om_3_ok : om_3.all od_mrc = true := by decide +kernel
def om_4 : List (Nat × Nat × Nat) := [(32, 518, 43), (33, 544, 43), (34, 547, 43), (35, 553, 43), (36, 560, 43), (37, 564, 43), (38, 568, 43), (39, 143, 44)]
theorem om_4_ok : om_4.all od_mrc = true := by decide +kernel
def om_5 : List (Nat × Nat × Nat) := [(40, 572, 44), (41, 582, 44), (42, 590, 44), (43, 167, 45), (44, 625, 45), (45, 615, 45), (46, 637, 45), (47, 182, 46)]
theorem om_5_ok : om_5.all od_mrc = true := by decide +kernel
def om_6 : List (Nat × Nat × Nat) := [(48, 652, 46), (49, 662, 46), (50, 666, 46), (51, 206, 47), (52, 758, 47), (53, 767, 47), (54, 762, 47), (55, 230, 48)]
theorem om_6_ok : om_6.all od_mrc = true := by decide +kernel
def om_7 : List (Nat × Nat × Nat) := [(56, 683, 48), (57, 687, 48), (58, 731, 48), (59, 735, 48), (60, 739, 48), (61, 63, 41), (62, 299, 41), (63, 444, 41)]
theorem om_7_ok : om_7.all od_mrc = true := by decide +kernel
def om_8 : List (Nat × Nat × Nat) := [(64, 474, 41), (65, 608, 41), (66, 633, 41), (67, 648, 41), (68, 679, 41), (69, 699, 41), (70, 706, 41), (71, 713, 41)]
theorem om_8_ok : om_8.all od_mrc = true := by decide +kernel
def om_9 : List (Nat × Nat × Nat) := [(72, 720, 41), (73, 727, 41), (74, 754, 41), (75, 779, 41), (76, 274, 41), (77, 789, 41), (78, 801, 41), (79, 290, 41)]
theorem om_9_ok : om_9.all od_mrc = true := by decide +kernel
def om_10 : List (Nat × Nat × Nat) := [(80, 303, 41), (81, 793, 41), (82, 375, 41), (83, 378, 41), (84, 597, 41), (85, 806, 49), (86, 845, 49), (87, 861, 49)]
theorem om_10_ok : om_10.all od_mrc = true := by decide +kernel
def om_11 : List (Nat × Nat × Nat) := [(88, 865, 49), (89, 877, 49), (90, 873, 49), (91, 886, 49), (92, 898, 49), (93, 906, 49), (94, 914, 49), (95, 910, 49)]
theorem om_11_ok : om_11.all od_mrc = true := by decide +kernel
def om_12 : List (Nat × Nat × Nat) := [(96, 894, 49), (97, 930, 49), (98, 926, 49), (99, 934, 49), (100, 857, 49), (101, 938, 49), (102, 902, 49), (103, 946, 49)]
theorem om_12_ok : om_12.all od_mrc = true := by decide +kernel
def om_13 : List (Nat × Nat × Nat) := [(104, 918, 49), (105, 950, 49), (106, 954, 49), (107, 962, 49), (108, 958, 49), (109, 941, 49), (110, 922, 49), (111, 970, 49)]
theorem om_13_ok : om_13.all od_mrc = true := by decide +kernel
def om_14 : List (Nat × Nat × Nat) := [(112, 986, 49), (113, 852, 49), (114, 882, 49), (115, 849, 49), (116, 869, 49), (117, 890, 49), (118, 966, 49), (119, 974, 49)]
theorem om_14_ok : om_14.all od_mrc = true := by decide +kernel
def om_15 : List (Nat × Nat × Nat) := [(120, 982, 49), (121, 978, 49), (122, 995, 49), (123, 990, 49), (124, 999, 49), (125, 1003, 49), (126, 1007, 49), (127, 1011, 49)]
theorem om_15_ok : om_15.all od_mrc = true := by decide +kernel
def om_16 : List (Nat × Nat × Nat) := [(128, 1018, 49), (129, 1015, 49), (130, 1028, 49), (131, 1024, 49), (132, 1032, 49), (133, 1036, 49), (134, 1040, 49), (135, 1044, 49)]
theorem om_16_ok : om_16.all od_mrc = true := by decide +kernel
def om_17 : List (Nat × Nat × Nat) := [(136, 1048, 49), (137, 293, 40), (138, 439, 40), (139, 470, 40), (140, 604, 40), (141, 629, 40), (142, 644, 40), (143, 675, 40)]
theorem om_17_ok : om_17.all od_mrc = true := by decide +kernel
def om_18 : List (Nat × Nat × Nat) := [(144, 695, 40), (145, 702, 40), (146, 709, 40), (147, 716, 40), (148, 723, 40), (149, 750, 40), (150, 775, 40), (151, 785, 40)]
theorem om_18_ok : om_18.all od_mrc = true := by decide +kernel
def om_19 : List (Nat × Nat × Nat) := [(152, 797, 40), (154, 283, 57), (155, 746, 57), (156, 743, 57), (157, 286, 58)]
theorem om_19_ok : om_19.all od_mrc = true := by decide +kernel
def od_lks : List (Nat × Nat × Nat × Nat × Nat × Nat × Nat × Nat) := 
  ol_0 ++ (ol_1 ++ (ol_2 ++ (ol_3 ++ (ol_4 ++ (ol_5 ++ (ol_6 ++ (ol_7 ++ (ol_8 ++ (ol_9 ++ (ol_10 ++ (ol_11 ++ (ol_12 ++ (ol_13 ++ (ol_14 ++ (ol_15 ++ (ol_16 ++ (ol_17 ++ (ol_18 ++ (ol_19 ++ (ol_20 ++ (ol_21)))))))))))))))))))))
theorem od_lks_ok : ∀ r ∈ od_lks, od_lrc r = true := List.forall_mem_append.mpr ⟨List.all_eq_true.mp ol_0_ok, List.forall_mem_append.mpr ⟨List.all_eq_true.mp ol_1_ok, List.forall_mem_append.mpr ⟨List.all_eq_true.mp ol_2_ok, List.forall_mem_append.mpr ⟨List.all_eq_true.mp ol_3_ok, List.forall_mem_append.mpr ⟨List.all_eq_true.mp ol_4_ok, List.forall_mem_append.mpr ⟨List.all_eq_true.mp ol_5_ok, List.forall_mem_append.mpr ⟨List.all_eq_true.mp ol_6_ok, List.forall_mem_append.mpr ⟨List.all_eq_true.mp ol_7_ok, List.forall_mem_append.mpr ⟨List.all_eq_true.mp ol_8_ok, List.forall_mem_append.mpr ⟨List.all_eq_true.mp ol_9_ok, List.forall_mem_append.mpr ⟨List.all_eq_true.mp ol_10_ok, List.forall_mem_append.mpr ⟨List.all_eq_true.mp ol_11_ok, List.forall_mem_append.mpr ⟨List.all_eq_true.mp ol_12_ok, List.forall_mem_append.mpr ⟨List.all_eq_true.mp ol_13_ok, List.forall_mem_append.mpr ⟨List.all_eq_true.mp ol_14_ok, List.forall_mem_append.mpr ⟨List.all_eq_true.mp ol_15_ok, List.forall_mem_append.mpr ⟨List.all_eq_true.mp ol_16_ok, List.forall_mem_append.mpr ⟨List.all_eq_true.mp ol_17_ok, List.forall_mem_append.mpr ⟨List.all_eq_true.mp ol_18_ok, List.forall_mem_append.mpr ⟨List.all_eq_true.mp ol_19_ok, List.forall_mem_append.mpr ⟨List.all_eq_true.mp ol_20_ok, List.all_eq_true.mp ol_21_ok⟩⟩⟩⟩⟩⟩⟩⟩⟩⟩⟩⟩⟩⟩⟩⟩⟩⟩⟩⟩⟩
def od_mks : List (Nat × Nat × Nat) := 
  om_0 ++ (om_1 ++ (om_2 ++ (om_3 ++ (om_4 ++ (om_5 ++ (om_6 ++ (om_7 ++ (om_8 ++ (om_9 ++ (om_10 ++ (om_11 ++ (om_12 ++ (om_13 ++ (om_14 ++ (om_15 ++ (om_16 ++ (om_17 ++ (om_18 ++ (om_19)))))))))))))))))))
set_option maxRecDepth 100000 in
theorem on_0_ok : ∀ r ∈ om_0, od_cw r.1 ∈ od_WS := List.forall_mem_cons.mpr ⟨od_hasR 72 rfl rfl, List.forall_mem_cons.mpr ⟨od_hasR 478 rfl rfl, List.forall_mem_cons.mpr ⟨od_hasR 540 rfl rfl, List.forall_mem_cons.mpr ⟨od_hasR 522 rfl rfl, List.forall_mem_cons.mpr ⟨od_hasR 601 rfl rfl, List.forall_mem_cons.mpr ⟨od_hasR 612 rfl rfl, List.forall_mem_cons.mpr ⟨od_hasR 531 rfl rfl, List.forall_mem_cons.mpr ⟨od_hasR 527 rfl rfl, fun _ h => absurd h List.not_mem_nil⟩⟩⟩⟩⟩⟩⟩⟩
set_option maxRecDepth 100000 in
theorem on_1_ok : ∀ r ∈ om_1, od_cw r.1 ∈ od_WS := List.forall_mem_cons.mpr ⟨od_hasR 491 rfl rfl, List.forall_mem_cons.mpr ⟨od_hasR 487 rfl rfl, List.forall_mem_cons.mpr ⟨od_hasR 535 rfl rfl, List.forall_mem_cons.mpr ⟨od_hasR 656 rfl rfl, List.forall_mem_cons.mpr ⟨od_hasR 508 rfl rfl, List.forall_mem_cons.mpr ⟨od_hasR 463 rfl rfl, List.forall_mem_cons.mpr ⟨od_hasR 467 rfl rfl, List.forall_mem_cons.mpr ⟨od_hasR 512 rfl rfl, fun _ h => absurd h List.not_mem_nil⟩⟩⟩⟩⟩⟩⟩⟩
set_option maxRecDepth 100000 in
theorem on_2_ok : ∀ r ∈ om_2, od_cw r.1 ∈ od_WS := List.forall_mem_cons.mpr ⟨od_hasR 398 rfl rfl, List.forall_mem_cons.mpr ⟨od_hasR 448 rfl rfl, List.forall_mem_cons.mpr ⟨od_hasR 456 rfl rfl, List.forall_mem_cons.mpr ⟨od_hasR 410 rfl rfl, List.forall_mem_cons.mpr ⟨od_hasR 406 rfl rfl, List.forall_mem_cons.mpr ⟨od_hasR 430 rfl rfl, List.forall_mem_cons.mpr ⟨od_hasR 434 rfl rfl, List.forall_mem_cons.mpr ⟨od_hasR 452 rfl rfl, fun _ h => absurd h List.not_mem_nil⟩⟩⟩⟩⟩⟩⟩⟩
set_option maxRecDepth 100000 in
theorem on_3_ok : ∀ r ∈ om_3, od_cw r.1 ∈ od_WS := List.forall_mem_cons.mpr ⟨od_hasR 402 rfl rfl, List.forall_mem_cons.mpr ⟨od_hasR 499 rfl rfl, List.forall_mem_cons.mpr ⟨od_hasR 277 rfl rfl, List.forall_mem_cons.mpr ⟨od_hasR 494 rfl rfl, List.forall_mem_cons.mpr ⟨od_hasR 280 rfl rfl, List.forall_mem_cons.mpr ⟨od_hasR 95 rfl rfl, List.forall_mem_cons.mpr ⟨od_hasR 481 rfl rfl, List.forall_mem_cons.mpr ⟨od_hasR 504 rfl rfl, fun _ h => absurd h List.not_mem_nil⟩⟩⟩⟩⟩⟩⟩⟩
set_option maxRecDepth 100000 in
theorem on_4_ok : ∀ r ∈ om_4, od_cw r.1 ∈ od_WS := List.forall_mem_cons.mpr ⟨od_hasR 518 rfl rfl, List.forall_mem_cons.mpr ⟨od_hasR 544 rfl rfl, List.forall_mem_cons.mpr ⟨od_hasR 547 rfl rfl, List.forall_mem_cons.mpr ⟨od_hasR 553 rfl rfl, List.forall_mem_cons.mpr ⟨od_hasR 560 rfl rfl, List.forall_mem_cons.mpr ⟨od_hasR 564 rfl rfl, List.forall_mem_cons.mpr ⟨od_hasR 568 rfl rfl, List.forall_mem_cons.mpr ⟨od_hasR 143 rfl rfl, fun _ h => absurd h List.not_mem_nil⟩⟩⟩⟩⟩⟩⟩⟩
set_option maxRecDepth 100000 in
theorem on_5_ok : ∀ r ∈ om_5, od_cw r.1 ∈ od_WS := List.forall_mem_cons.mpr ⟨od_hasR 572 rfl rfl, List.forall_mem_cons.mpr ⟨od_hasR 582 rfl rfl, List.forall_mem_cons.mpr ⟨od_hasR 590 rfl rfl, List.forall_mem_cons.mpr ⟨od_hasR 167 rfl rfl, List.forall_mem_cons.mpr ⟨od_hasR 625 rfl rfl, List.forall_mem_cons.mpr ⟨od_hasR 615 rfl rfl, List.forall_mem_cons.mpr ⟨od_hasR 637 rfl rfl, List.forall_mem_cons.mpr ⟨od_hasR 182 rfl rfl, fun _ h => absurd h List.not_mem_nil⟩⟩⟩⟩⟩⟩⟩⟩
set_option maxRecDepth 100000 in
theorem on_6_ok : ∀ r ∈ om_6, od_cw r.1 ∈ od_WS := List.forall_mem_cons.mpr ⟨od_hasR 652 rfl rfl, List.forall_mem_cons.mpr ⟨od_hasR 662 rfl rfl, List.forall_mem_cons.mpr ⟨od_hasR 666 rfl rfl, List.forall_mem_cons.mpr ⟨od_hasR 206 rfl rfl, List.forall_mem_cons.mpr ⟨od_hasR 758 rfl rfl, List.forall_mem_cons.mpr ⟨od_hasR 767 rfl rfl, List.forall_mem_cons.mpr ⟨od_hasR 762 rfl rfl, List.forall_mem_cons.mpr ⟨od_hasR 230 rfl rfl, fun _ h => absurd h List.not_mem_nil⟩⟩⟩⟩⟩⟩⟩⟩
set_option maxRecDepth 100000 in
theorem on_7_ok : ∀ r ∈ om_7, od_cw r.1 ∈ od_WS := List.forall_mem_cons.mpr ⟨od_hasR 683 rfl rfl, List.forall_mem_cons.mpr ⟨od_hasR 687 rfl rfl, List.forall_mem_cons.mpr ⟨od_hasR 731 rfl rfl, List.forall_mem_cons.mpr ⟨od_hasR 735 rfl rfl, List.forall_mem_cons.mpr ⟨od_hasR 739 rfl rfl, List.forall_mem_cons.mpr ⟨od_hasR 63 rfl rfl, List.forall_mem_cons.mpr ⟨od_hasR 299 rfl rfl, List.forall_mem_cons.mpr ⟨od_hasR 444 rfl rfl, fun _ h => absurd h List.not_mem_nil⟩⟩⟩⟩⟩⟩⟩⟩
set_option maxRecDepth 100000 in
theorem on_8_ok : ∀ r ∈ om_8, od_cw r.1 ∈ od_WS := List.forall_mem_cons.mpr ⟨od_hasR 474 rfl rfl, List.forall_mem_cons.mpr ⟨od_hasR 608 rfl rfl, List.forall_mem_cons.mpr ⟨od_hasR 633 rfl rfl, List.forall_mem_cons.mpr ⟨od_hasR 648 rfl rfl, List.forall_mem_cons.mpr ⟨od_hasR 679 rfl rfl, List.forall_mem_cons.mpr ⟨od_hasR 699 rfl rfl, List.forall_mem_cons.mpr ⟨od_hasR 706 rfl rfl, List.forall_mem_cons.mpr ⟨od_hasR 713 rfl rfl, fun _ h => absurd h List.not_mem_nil⟩⟩⟩⟩⟩⟩⟩⟩
set_option maxRecDepth 100000 in
theorem on_9_ok : ∀ r ∈ om_9, od_cw r.1 ∈ od_WS := List.forall_mem_cons.mpr ⟨od_hasR 720 rfl rfl, List.forall_mem_cons.mpr ⟨od_hasR 727 rfl rfl, List.forall_mem_cons.mpr ⟨od_hasR 754 rfl rfl, List.forall_mem_cons.mpr ⟨od_hasR 779 rfl rfl, List.forall_mem_cons.mpr ⟨od_hasR 274 rfl rfl, List.forall_mem_cons.mpr ⟨od_hasR 789 rfl rfl, List.forall_mem_cons.mpr ⟨od_hasR 801 rfl rfl, List.forall_mem_cons.mpr ⟨od_hasR 290 rfl rfl, fun _ h => absurd h List.not_mem_nil⟩⟩⟩⟩⟩⟩⟩⟩
set_option maxRecDepth 100000 in
theorem on_10_ok : ∀ r ∈ om_10, od_cw r.1 ∈ od_WS := List.forall_mem_cons.mpr ⟨od_hasR 303 rfl rfl, List.forall_mem_cons.mpr ⟨od_hasR 793 rfl rfl, List.forall_mem_cons.mpr ⟨od_hasR 375 rfl rfl, List.forall_mem_cons.mpr ⟨od_hasR 378 rfl rfl, List.forall_mem_cons.mpr ⟨od_hasR 597 rfl rfl, List.forall_mem_cons.mpr ⟨od_hasR 806 rfl rfl, List.forall_mem_cons.mpr ⟨od_hasR 845 rfl rfl, List.forall_mem_cons.mpr ⟨od_hasR 861 rfl rfl, fun _ h => absurd h List.not_mem_nil⟩⟩⟩⟩⟩⟩⟩⟩
set_option maxRecDepth 100000 in
theorem on_11_ok : ∀ r ∈ om_11, od_cw r.1 ∈ od_WS := List.forall_mem_cons.mpr ⟨od_hasR 865 rfl rfl, List.forall_mem_cons.mpr ⟨od_hasR 877 rfl rfl, List.forall_mem_cons.mpr ⟨od_hasR 873 rfl rfl, List.forall_mem_cons.mpr ⟨od_hasR 886 rfl rfl, List.forall_mem_cons.mpr ⟨od_hasR 898 rfl rfl, List.forall_mem_cons.mpr ⟨od_hasR 906 rfl rfl, List.forall_mem_cons.mpr ⟨od_hasR 914 rfl rfl, List.forall_mem_cons.mpr ⟨od_hasR 910 rfl rfl, fun _ h => absurd h List.not_mem_nil⟩⟩⟩⟩⟩⟩⟩⟩
set_option maxRecDepth 100000 in
theorem on_12_ok : ∀ r ∈ om_12, od_cw r.1 ∈ od_WS := List.forall_mem_cons.mpr ⟨od_hasR 894 rfl rfl, List.forall_mem_cons.mpr ⟨od_hasR 930 rfl rfl, List.forall_mem_cons.mpr ⟨od_hasR 926 rfl rfl, List.forall_mem_cons.mpr ⟨od_hasR 934 rfl rfl, List.forall_mem_cons.mpr ⟨od_hasR 857 rfl rfl, List.forall_mem_cons.mpr ⟨od_hasR 938 rfl rfl, List.forall_mem_cons.mpr ⟨od_hasR 902 rfl rfl, List.forall_mem_cons.mpr ⟨od_hasR 946 rfl rfl, fun _ h => absurd h List.not_mem_nil⟩⟩⟩⟩⟩⟩⟩⟩
set_option maxRecDepth 100000 in
theorem on_13_ok : ∀ r ∈ om_13, od_cw r.1 ∈ od_WS := List.forall_mem_cons.mpr ⟨od_hasR 918 rfl rfl, List.forall_mem_cons.mpr ⟨od_hasR 950 rfl rfl, List.forall_mem_cons.mpr ⟨od_hasR 954 rfl rfl, List.forall_mem_cons.mpr ⟨od_hasR 962 rfl rfl, List.forall_mem_cons.mpr ⟨od_hasR 958 rfl rfl, List.forall_mem_cons.mpr ⟨od_hasR 941 rfl rfl, List.forall_mem_cons.mpr ⟨od_hasR 922 rfl rfl, List.forall_mem_cons.mpr ⟨od_hasR 970 rfl rfl, fun _ h => absurd h List.not_mem_nil⟩⟩⟩⟩⟩⟩⟩⟩
set_option maxRecDepth 100000 in
theorem on_14_ok : ∀ r ∈ om_14, od_cw r.1 ∈ od_WS := List.forall_mem_cons.mpr ⟨od_hasR 986 rfl rfl, List.forall_mem_cons.mpr ⟨od_hasR 852 rfl rfl, List.forall_mem_cons.mpr ⟨od_hasR 882 rfl rfl, List.forall_mem_cons.mpr ⟨od_hasR 849 rfl rfl, List.forall_mem_cons.mpr ⟨od_hasR 869 rfl rfl, List.forall_mem_cons.mpr ⟨od_hasR 890 rfl rfl, List.forall_mem_cons.mpr ⟨od_hasR 966 rfl rfl, List.forall_mem_cons.mpr ⟨od_hasR 974 rfl rfl, fun _ h => absurd h List.not_mem_nil⟩⟩⟩⟩⟩⟩⟩⟩
set_option maxRecDepth 100000 in
theorem on_15_ok : ∀ r ∈ om_15, od_cw r.1 ∈ od_WS := List.forall_mem_cons.mpr ⟨od_hasR 982 rfl rfl, List.forall_mem_cons.mpr ⟨od_hasR 978 rfl rfl, List.forall_mem_cons.mpr ⟨od_hasR 995 rfl rfl, List.forall_mem_cons.mpr ⟨od_hasR 990 rfl rfl, List.forall_mem_cons.mpr ⟨od_hasR 999 rfl rfl, List.forall_mem_cons.mpr ⟨od_hasR 1003 rfl rfl, List.forall_mem_cons.mpr ⟨od_hasR 1007 rfl rfl, List.forall_mem_cons.mpr ⟨od_hasR 1011 rfl rfl, fun _ h => absurd h List.not_mem_nil⟩⟩⟩⟩⟩⟩⟩⟩
set_option maxRecDepth 100000 in
theorem on_16_ok : ∀ r ∈ om_16, od_cw r.1 ∈ od_WS := List.forall_mem_cons.mpr ⟨od_hasR 1018 rfl rfl, List.forall_mem_cons.mpr ⟨od_hasR 1015 rfl rfl, List.forall_mem_cons.mpr ⟨od_hasR 1028 rfl rfl, List.forall_mem_cons.mpr ⟨od_hasR 1024 rfl rfl, List.forall_mem_cons.mpr ⟨od_hasR 1032 rfl rfl, List.forall_mem_cons.mpr ⟨od_hasR 1036 rfl rfl, List.forall_mem_cons.mpr ⟨od_hasR 1040 rfl rfl, List.forall_mem_cons.mpr ⟨od_hasR 1044 rfl rfl, fun _ h => absurd h List.not_mem_nil⟩⟩⟩⟩⟩⟩⟩⟩
set_option maxRecDepth 100000 in
theorem on_17_ok : ∀ r ∈ om_17, od_cw r.1 ∈ od_WS := List.forall_mem_cons.mpr ⟨od_hasR 1048 rfl rfl, List.forall_mem_cons.mpr ⟨od_hasR 293 rfl rfl, List.forall_mem_cons.mpr ⟨od_hasR 439 rfl rfl, List.forall_mem_cons.mpr ⟨od_hasR 470 rfl rfl, List.forall_mem_cons.mpr ⟨od_hasR 604 rfl rfl, List.forall_mem_cons.mpr ⟨od_hasR 629 rfl rfl, List.forall_mem_cons.mpr ⟨od_hasR 644 rfl rfl, List.forall_mem_cons.mpr ⟨od_hasR 675 rfl rfl, fun _ h => absurd h List.not_mem_nil⟩⟩⟩⟩⟩⟩⟩⟩
set_option maxRecDepth 100000 in
theorem on_18_ok : ∀ r ∈ om_18, od_cw r.1 ∈ od_WS := List.forall_mem_cons.mpr ⟨od_hasR 695 rfl rfl, List.forall_mem_cons.mpr ⟨od_hasR 702 rfl rfl, List.forall_mem_cons.mpr ⟨od_hasR 709 rfl rfl, List.forall_mem_cons.mpr ⟨od_hasR 716 rfl rfl, List.forall_mem_cons.mpr ⟨od_hasR 723 rfl rfl, List.forall_mem_cons.mpr ⟨od_hasR 750 rfl rfl, List.forall_mem_cons.mpr ⟨od_hasR 775 rfl rfl, List.forall_mem_cons.mpr ⟨od_hasR 785 rfl rfl, fun _ h => absurd h List.not_mem_nil⟩⟩⟩⟩⟩⟩⟩⟩
set_option maxRecDepth 100000 in
theorem on_19_ok : ∀ r ∈ om_19, od_cw r.1 ∈ od_WS := List.forall_mem_cons.mpr ⟨od_hasR 797 rfl rfl, List.forall_mem_cons.mpr ⟨od_hasR 283 rfl rfl, List.forall_mem_cons.mpr ⟨od_hasR 746 rfl rfl, List.forall_mem_cons.mpr ⟨od_hasR 743 rfl rfl, List.forall_mem_cons.mpr ⟨od_hasR 286 rfl rfl, fun _ h => absurd h List.not_mem_nil⟩⟩⟩⟩⟩
theorem od_cws_ok : ∀ r ∈ od_mks, od_cw r.1 ∈ od_WS := List.forall_mem_append.mpr ⟨on_0_ok, List.forall_mem_append.mpr ⟨on_1_ok, List.forall_mem_append.mpr ⟨on_2_ok, List.forall_mem_append.mpr ⟨on_3_ok, List.forall_mem_append.mpr ⟨on_4_ok, List.forall_mem_append.mpr ⟨on_5_ok, List.forall_mem_append.mpr ⟨on_6_ok, List.forall_mem_append.mpr ⟨on_7_ok, List.forall_mem_append.mpr ⟨on_8_ok, List.forall_mem_append.mpr ⟨on_9_ok, List.forall_mem_append.mpr ⟨on_10_ok, List.forall_mem_append.mpr ⟨on_11_ok, List.forall_mem_append.mpr ⟨on_12_ok, List.forall_mem_append.mpr ⟨on_13_ok, List.forall_mem_append.mpr ⟨on_14_ok, List.forall_mem_append.mpr ⟨on_15_ok, List.forall_mem_append.mpr ⟨on_16_ok, List.forall_mem_append.mpr ⟨on_17_ok, List.forall_mem_append.mpr ⟨on_18_ok, on_19_ok⟩⟩⟩⟩⟩⟩⟩⟩⟩⟩⟩⟩⟩⟩⟩⟩⟩⟩⟩
theorem od_mks_ok : ∀ r ∈ od_mks, od_mrc r = true := List.forall_mem_append.mpr ⟨List.all_eq_true.mp om_0_ok, List.forall_mem_append.mpr ⟨List.all_eq_true.mp om_1_ok, List.forall_mem_append.mpr ⟨List.all_eq_true.mp om_2_ok, List.forall_mem_append.mpr ⟨List.all_eq_true.mp om_3_ok, List.forall_mem_append.mpr ⟨List.all_eq_true.mp om_4_ok, List.forall_mem_append.mpr ⟨List.all_eq_true.mp om_5_ok, List.forall_mem_append.mpr ⟨List.all_eq_true.mp om_6_ok, List.forall_mem_append.mpr ⟨List.all_eq_true.mp om_7_ok, List.forall_mem_append.mpr ⟨List.all_eq_true.mp om_8_ok, List.forall_mem_append.mpr ⟨List.all_eq_true.mp om_9_ok, List.forall_mem_append.mpr ⟨List.all_eq_true.mp om_10_ok, List.forall_mem_append.mpr ⟨List.all_eq_true.mp om_11_ok, List.forall_mem_append.mpr ⟨List.all_eq_true.mp om_12_ok, List.forall_mem_append.mpr ⟨List.all_eq_true.mp om_13_ok, List.forall_mem_append.mpr ⟨List.all_eq_true.mp om_14_ok, List.forall_mem_append.mpr ⟨List.all_eq_true.mp om_15_ok, List.forall_mem_append.mpr ⟨List.all_eq_true.mp om_16_ok, List.forall_mem_append.mpr ⟨List.all_eq_true.mp om_17_ok, List.forall_mem_append.mpr ⟨List.all_eq_true.mp om_18_ok, List.all_eq_true.mp om_19_ok⟩⟩⟩⟩⟩⟩⟩⟩⟩⟩⟩⟩⟩⟩⟩⟩⟩⟩⟩
end
section
/-! Calls, exceptions and constants of the small machine against the Statement's words. -/
def od_mck (own : Nat) (q : Nat × Nat × Nat × Nat) : Bool := match q.2.2.1 with
  | 7 => od_has (.methodLink (od_cn own) q.1 arraycopyName) && od_has (.native arraycopyName) && od_has (.static arraycopyName) && od_has (.initialized "java/lang/System")
  | 8 => od_has (.methodLink (od_cn own) q.1 objectInit) && od_has (.instanceMethod objectInit) && od_has (.code objectInit ⟨#[0xb1]⟩ 1 none)
  | _ => od_lks.any (fun r => r.1 == own && r.2.1 == q.1 && r.2.2.1 == q.2.1 && r.2.2.2.1 == q.2.2.1 && r.2.2.2.2.1 == q.2.2.2) && od_mks.any (fun r => r.1 == q.2.1)
theorem od_m_ok : (List.range 12).all (fun own => ((od_mdl[own]?).getD []).all (od_mck own)) = true := by decide +kernel
theorem od_is_of {j : Nat} (hw : Cond.code (od_y j) (od_by j) (od_nl j) (od_rf j) ∈ od_WS) (hh : od_ht j = []) (args : Array Value) (U : State) (h : ∀ w ∈ od_WS, w.before args U = true) : od_is U j := by
  have hb := h _ hw
  obtain ⟨mk, hn⟩ := Cond.code_named hb
  obtain ⟨meth, c, h1, h2, h3, h4, h5, h6, h7, h8⟩ := Cond.code_spec hn hb
  refine ⟨mk, meth, c, hn, h1, h2, h3, h4, h5, h6, ?_, h8⟩
  have h9 : c.exceptionTable = #[] := Array.isEmpty_iff.mp h7
  rw [hh, h9]
  rfl
theorem od_is_ofW {j : Nat} (hw : Cond.codeWith (od_y j) (od_by j) (od_nl j) (od_rf j) (od_ht j) ∈ od_WS) (args : Array Value) (U : State) (h : ∀ w ∈ od_WS, w.before args U = true) : od_is U j := by
  obtain ⟨mk, meth, c, hn, h1, h2, h3, h4, h5, h6, h7, h8⟩ := Cond.codeWith_spec (h _ hw)
  exact ⟨mk, meth, c, hn, h1, h2, h3, h4, h6, h7, h5, h8⟩
theorem od_mocI {j i1 i2 : Nat} (h : od_mrc (j, i1, i2) = true) (hw : od_cw j ∈ od_WS) : (∀ (args : Array Value) (U : State), (∀ w ∈ od_WS, w.before args U = true) → od_is U j) ∧ Cond.initialized (od_y j).cls ∈ od_WS ∧ plainFor (od_y j) = true ∧ (od_y j).cls = od_cn (od_ow j) ∧ (od_in j = true → (od_y j).name = "<init>") ∧ od_nl j ≤ 50 := by
  unfold od_mrc at h
  dsimp only at h
  simp only [Bool.and_eq_true, beq_iff_eq, decide_eq_true_eq, Bool.or_eq_true, Bool.not_eq_true'] at h
  obtain ⟨⟨⟨⟨h2, h3⟩, h4⟩, h5⟩, h6⟩ := h
  refine ⟨fun args U hU => ?_, od_hasAI h2, h3, h4, fun hi => h5.resolve_left (by rw [hi]; decide), h6⟩
  unfold od_cw at hw
  split at hw
  · rename_i hh
    exact od_is_of hw hh args U hU
  · rename_i q r hh
    rw [← hh] at hw
    exact od_is_ofW hw args U hU
theorem od_lkI {own ix j kd n i1 i2 i3 : Nat} (h : od_lrc (own, ix, j, kd, n, i1, i2, i3) = true) (hw : od_cw j ∈ od_WS) : od_lk od_WS own ix j kd n := by
  unfold od_lrc at h
  dsimp only at h
  simp only [Bool.and_eq_true, bne_iff_ne] at h
  obtain ⟨h0, h1⟩ := h
  split at h1
  · simp only [Bool.and_eq_true, decide_eq_true_eq] at h1
    obtain ⟨⟨⟨h2, h3⟩, h4⟩, h5⟩ := h1
    refine ⟨Or.inl rfl, h0, fun _ => ⟨od_hasAI h2, od_hasAI h3, ?_, h5⟩, fun h => (by cases h), fun h => (by cases h)⟩
    split at h4
    · rename_i r hr
      exact ⟨r.1, r.2.1, r.2.2, hr, od_hasAI h4⟩
    · cases h4
  · simp only [Bool.and_eq_true, decide_eq_true_eq] at h1
    obtain ⟨⟨h2, h3⟩, h5⟩ := h1
    exact ⟨Or.inr (Or.inl rfl), h0, fun h => (by cases h), fun _ => ⟨od_hasAI h2, od_hasAI h3, h5⟩, fun h => (by cases h)⟩
  · simp only [Bool.and_eq_true, decide_eq_true_eq, Bool.or_eq_true, beq_iff_eq] at h1
    obtain ⟨⟨⟨⟨⟨h2, h3⟩, h4⟩, h5⟩, h5b⟩, h6⟩ := h1
    have hw2 : Cond.code (od_y j) (od_by j) (od_nl j) none ∈ od_WS := by
      unfold od_cw at hw
      rw [h5b, h5] at hw
      exact hw
    refine ⟨Or.inr (Or.inr rfl), h0, fun h => (by cases h), fun h => (by cases h), fun _ => ⟨?_, od_hasAI h3, h4, hw2, h6⟩⟩
    rcases h2 with h2 | h2
    · exact Or.inl (od_hasAI h2)
    · exact Or.inr ⟨_, od_hasAI h2⟩
  · cases h1
theorem od_MT_ok : od_MT od_WS := by
  refine ⟨fun own ix j kd n h h7 h8 => ?_, od_ride⟩
  have h1 := od_rows od_m_ok rfl h
  unfold od_mck at h1
  dsimp only at h1
  split at h1
  · exact absurd rfl h7
  · exact absurd rfl h8
  · simp only [Bool.and_eq_true, List.any_eq_true, beq_iff_eq] at h1
    obtain ⟨⟨⟨a1, a2, a3, a4, a5, i1, i2, i3⟩, hr, ⟨⟨⟨rfl, rfl⟩, rfl⟩, rfl⟩, rfl⟩, ⟨b1, b2, b3⟩, hm, rfl⟩ := h1
    have hw := od_cws_ok _ hm
    exact ⟨od_lkI (od_lks_ok _ hr) hw, od_mocI (od_mks_ok _ hm) hw⟩
end
section
/-! The rest of the tables: constants, arrays, exceptions, handlers. -/
theorem od_an_ok : (od_has (.arrayOver (.object od_rn)) && (List.range 12).all (fun own => ((od_anl[own]?).getD []).all (fun ix => od_has (.classLink (od_cn own) ix od_rn)))) = true := by decide +kernel
theorem od_ki_ok : (List.range 12).all (fun own => ((od_kil[own]?).getD []).all (fun q => od_has (.constant (od_cn own) q.1 q.2))) = true := by decide +kernel
theorem od_kl_ok : (List.range 12).all (fun own => ((od_kll[own]?).getD []).all (fun q => od_has (.constantLong (od_cn own) q.1 q.2))) = true := by decide +kernel
theorem od_ar_ok : (od_has (.arrayClass .int) && od_has (.arrayClass .long)) = true := by decide +kernel
theorem od_T_ok : od_T od_WS := by
  refine ⟨fun k pc i n h => od_cd_ok h, fun own ix c k t h => od_fd_ok h, fun own ix c fs h => od_nw_ok h, fun own ix h => ?_, fun own ix v h => ?_, fun own ix v h => ?_, fun own ix j n h => ?_, fun own ix j n h => ?_, ?_, ⟨od_F0, 2, rfl⟩⟩
  · have h1 := od_an_ok
    rw [Bool.and_eq_true] at h1
    unfold od_an at h
    have hm : ix ∈ (od_anl[own]?).getD [] := by simpa using h
    have ho : own < 12 := by
      apply Nat.lt_of_not_le
      intro hle
      have hl : od_anl.length = 12 := rfl
      rw [List.getElem?_eq_none (by omega)] at hm
      cases hm
    exact ⟨od_hasI (List.all_eq_true.mp (List.all_eq_true.mp h1.2 own (List.mem_range.mpr ho)) ix hm), od_hasI h1.1⟩
  · exact od_hasI (od_rows (f := fun own q => od_has (.constant (od_cn own) q.1 q.2)) od_ki_ok rfl h)
  · exact od_hasI (od_rows (f := fun own q => od_has (.constantLong (od_cn own) q.1 q.2)) od_kl_ok rfl h)
  · have h1 := od_rows od_m_ok rfl h
    unfold od_mck at h1
    simp only [Bool.and_eq_true] at h1
    exact ⟨od_hasI h1.1.1.1, od_hasI h1.1.1.2, od_hasI h1.1.2, od_hasI h1.2⟩
  · have h1 := od_rows od_m_ok rfl h
    unfold od_mck at h1
    simp only [Bool.and_eq_true] at h1
    exact ⟨od_hasI h1.1.1, od_hasI h1.1.2, od_hasI h1.2⟩
  · have h1 := od_ar_ok
    rw [Bool.and_eq_true] at h1
    exact ⟨od_hasI h1.1, od_hasI h1.2⟩
def od_oa (w : Cond) : Bool := od_has w || decide (w ∈ od_hw)
theorem od_oaI {ws : List Cond} (h : ws.all od_oa = true) : ∀ w ∈ ws, w ∈ od_WS ∨ w ∈ od_hw := fun w hw => by
  have h1 := List.all_eq_true.mp h w hw
  unfold od_oa at h1
  simp only [Bool.or_eq_true, decide_eq_true_eq] at h1
  exact h1.elim (fun h => Or.inl (od_hasI h)) Or.inr
theorem od_own0 : (Bundle.ownAtoms "OrdinalDesk$Row" 53 "java/lang/IllegalStateException" ["java/lang/RuntimeException", "java/lang/Exception"]).all od_oa = true := by decide +kernel
theorem od_own1 : (Bundle.ownAtoms "OrdinalDesk$Arithmetic" 137 "java/lang/IllegalStateException" ["java/lang/RuntimeException", "java/lang/Exception"]).all od_oa = true := by decide +kernel
theorem od_own2 : (Bundle.ownAtoms "OrdinalDesk$Numbers" 28 "java/lang/IllegalStateException" ["java/lang/RuntimeException", "java/lang/Exception"]).all od_oa = true := by decide +kernel
theorem od_own3 : (Bundle.ownAtoms "OrdinalDesk" 179 "java/lang/IllegalStateException" ["java/lang/RuntimeException", "java/lang/Exception"]).all od_oa = true := by decide +kernel
theorem od_own4 : (Bundle.ownAtoms "OrdinalDesk" 189 "java/lang/IndexOutOfBoundsException" ["java/lang/RuntimeException", "java/lang/Exception"]).all od_oa = true := by decide +kernel
theorem od_own5 : (Bundle.ownAtoms "OrdinalDesk" 196 "java/lang/IllegalArgumentException" ["java/lang/RuntimeException", "java/lang/Exception"]).all od_oa = true := by decide +kernel
theorem od_x0 : (od_has (.classLink "OrdinalDesk$Row" 49 "java/lang/IllegalStateException") && od_has (.instantiable "java/lang/IllegalStateException" 6) && od_has (.initialized "java/lang/IllegalStateException")) = true := by decide +kernel
theorem od_x1 : (od_has (.classLink "OrdinalDesk$Row" 49 "java/lang/IllegalStateException") && od_has (.instantiable "java/lang/IllegalStateException" 6) && od_has (.initialized "java/lang/IllegalStateException")) = true := by decide +kernel
theorem od_x2 : (od_has (.classLink "OrdinalDesk$Row" 49 "java/lang/IllegalStateException") && od_has (.instantiable "java/lang/IllegalStateException" 6) && od_has (.initialized "java/lang/IllegalStateException")) = true := by decide +kernel
theorem od_x3 : (od_has (.classLink "OrdinalDesk$Arithmetic" 133 "java/lang/IllegalStateException") && od_has (.instantiable "java/lang/IllegalStateException" 6) && od_has (.initialized "java/lang/IllegalStateException")) = true := by decide +kernel
theorem od_x4 : (od_has (.classLink "OrdinalDesk$Numbers" 24 "java/lang/IllegalStateException") && od_has (.instantiable "java/lang/IllegalStateException" 6) && od_has (.initialized "java/lang/IllegalStateException")) = true := by decide +kernel
theorem od_x5 : (od_has (.classLink "OrdinalDesk" 175 "java/lang/IllegalStateException") && od_has (.instantiable "java/lang/IllegalStateException" 6) && od_has (.initialized "java/lang/IllegalStateException")) = true := by decide +kernel
theorem od_x6 : (od_has (.classLink "OrdinalDesk" 185 "java/lang/IndexOutOfBoundsException") && od_has (.instantiable "java/lang/IndexOutOfBoundsException" 6) && od_has (.initialized "java/lang/IndexOutOfBoundsException")) = true := by decide +kernel
theorem od_x7 : (od_has (.classLink "OrdinalDesk" 185 "java/lang/IndexOutOfBoundsException") && od_has (.instantiable "java/lang/IndexOutOfBoundsException" 6) && od_has (.initialized "java/lang/IndexOutOfBoundsException")) = true := by decide +kernel
theorem od_x8 : (od_has (.classLink "OrdinalDesk" 192 "java/lang/IllegalArgumentException") && od_has (.instantiable "java/lang/IllegalArgumentException" 6) && od_has (.initialized "java/lang/IllegalArgumentException")) = true := by decide +kernel
theorem od_x_ok : ∀ k pc x, od_xn k pc = some x → od_xok od_WS k pc x := by
  intro k pc x h
  have hm : ((k, pc), x) ∈ od_xs := by
    unfold od_xn at h
    generalize od_xs = l at h
    induction l with
    | nil => cases h
    | cons q r ih =>
      obtain ⟨k', v'⟩ := q
      rw [List.lookup_cons] at h
      split at h
      · rename_i hk
        cases h
        have hk2 : (k, pc) = k' := by simpa using hk
        rw [hk2]
        exact List.mem_cons_self
      · exact List.mem_cons_of_mem _ (ih h)
  simp only [od_xs, List.mem_cons, List.not_mem_nil, or_false, Prod.mk.injEq] at hm
  rcases hm with ⟨⟨rfl, rfl⟩, rfl⟩ | ⟨⟨rfl, rfl⟩, rfl⟩ | ⟨⟨rfl, rfl⟩, rfl⟩ | ⟨⟨rfl, rfl⟩, rfl⟩ | ⟨⟨rfl, rfl⟩, rfl⟩ | ⟨⟨rfl, rfl⟩, rfl⟩ | ⟨⟨rfl, rfl⟩, rfl⟩ | ⟨⟨rfl, rfl⟩, rfl⟩ | ⟨⟨rfl, rfl⟩, rfl⟩
  · have h1 := od_x0
    simp only [Bool.and_eq_true] at h1
    exact ⟨49, 51, 53, "java/lang/IllegalStateException", "there is no room for so many terms", ["java/lang/RuntimeException", "java/lang/Exception"], rfl, rfl, rfl, rfl, rfl, rfl, od_hasI h1.1.1, od_hasI h1.1.2, od_hasI h1.2, od_oaI od_own0, by decide +kernel, by decide +kernel, by decide +kernel, by decide, rfl⟩
  · have h1 := od_x1
    simp only [Bool.and_eq_true] at h1
    exact ⟨49, 51, 53, "java/lang/IllegalStateException", "there is no room for so many terms", ["java/lang/RuntimeException", "java/lang/Exception"], rfl, rfl, rfl, rfl, rfl, rfl, od_hasI h1.1.1, od_hasI h1.1.2, od_hasI h1.2, od_oaI od_own0, by decide +kernel, by decide +kernel, by decide +kernel, by decide, rfl⟩
  · have h1 := od_x2
    simp only [Bool.and_eq_true] at h1
    exact ⟨49, 71, 53, "java/lang/IllegalStateException", "there is no room for so great a coefficient", ["java/lang/RuntimeException", "java/lang/Exception"], rfl, rfl, rfl, rfl, rfl, rfl, od_hasI h1.1.1, od_hasI h1.1.2, od_hasI h1.2, od_oaI od_own0, by decide +kernel, by decide +kernel, by decide +kernel, by decide, rfl⟩
  · have h1 := od_x3
    simp only [Bool.and_eq_true] at h1
    exact ⟨133, 135, 137, "java/lang/IllegalStateException", "there is no room for so many factors", ["java/lang/RuntimeException", "java/lang/Exception"], rfl, rfl, rfl, rfl, rfl, rfl, od_hasI h1.1.1, od_hasI h1.1.2, od_hasI h1.2, od_oaI od_own1, by decide +kernel, by decide +kernel, by decide +kernel, by decide, rfl⟩
  · have h1 := od_x4
    simp only [Bool.and_eq_true] at h1
    exact ⟨24, 26, 28, "java/lang/IllegalStateException", "there is no room for so deep an exponent", ["java/lang/RuntimeException", "java/lang/Exception"], rfl, rfl, rfl, rfl, rfl, rfl, od_hasI h1.1.1, od_hasI h1.1.2, od_hasI h1.2, od_oaI od_own2, by decide +kernel, by decide +kernel, by decide +kernel, by decide, rfl⟩
  · have h1 := od_x5
    simp only [Bool.and_eq_true] at h1
    exact ⟨175, 177, 179, "java/lang/IllegalStateException", "all records are in use", ["java/lang/RuntimeException", "java/lang/Exception"], rfl, rfl, rfl, rfl, rfl, rfl, od_hasI h1.1.1, od_hasI h1.1.2, od_hasI h1.2, od_oaI od_own3, by decide +kernel, by decide +kernel, by decide +kernel, by decide, rfl⟩
  · have h1 := od_x6
    simp only [Bool.and_eq_true] at h1
    exact ⟨185, 187, 189, "java/lang/IndexOutOfBoundsException", "there is no such slot", ["java/lang/RuntimeException", "java/lang/Exception"], rfl, rfl, rfl, rfl, rfl, rfl, od_hasI h1.1.1, od_hasI h1.1.2, od_hasI h1.2, od_oaI od_own4, by decide +kernel, by decide +kernel, by decide +kernel, by decide, rfl⟩
  · have h1 := od_x7
    simp only [Bool.and_eq_true] at h1
    exact ⟨185, 190, 189, "java/lang/IndexOutOfBoundsException", "there is no such record", ["java/lang/RuntimeException", "java/lang/Exception"], rfl, rfl, rfl, rfl, rfl, rfl, od_hasI h1.1.1, od_hasI h1.1.2, od_hasI h1.2, od_oaI od_own4, by decide +kernel, by decide +kernel, by decide +kernel, by decide, rfl⟩
  · have h1 := od_x8
    simp only [Bool.and_eq_true] at h1
    exact ⟨192, 194, 196, "java/lang/IllegalArgumentException", "an argument does not fit the call", ["java/lang/RuntimeException", "java/lang/Exception"], rfl, rfl, rfl, rfl, rfl, rfl, od_hasI h1.1.1, od_hasI h1.1.2, od_hasI h1.2, od_oaI od_own5, by decide +kernel, by decide +kernel, by decide +kernel, by decide, rfl⟩
def od_hck (k : Nat) : Bool := (od_ht k).all (fun q => decide (q.2.2.2 ≠ 0) && (match od_hx (od_ow k) q.2.2.2 with
  | 0 => od_has (.classLink (od_cn (od_ow k)) q.2.2.2 "java/lang/IndexOutOfBoundsException")
  | 1 => od_has (.classLink (od_cn (od_ow k)) q.2.2.2 "java/lang/IllegalArgumentException")
  | 2 => od_has (.classLink (od_cn (od_ow k)) q.2.2.2 "java/lang/IllegalStateException")
  | _ => false))
theorem od_h_ok : (List.range 158).all od_hck = true := by decide +kernel
theorem od_hok_ok : od_hok od_WS := by
  intro k q hq
  have hk : k < 158 := by
    apply Nat.lt_of_not_le
    intro hle
    have hl : od_ats.length = 158 := rfl
    unfold od_ht od_at0 at hq
    rw [List.getElem?_eq_none (by omega)] at hq
    cases hq
  have h1 := List.all_eq_true.mp (List.all_eq_true.mp od_h_ok k (List.mem_range.mpr hk)) q hq
  simp only [Bool.and_eq_true, decide_eq_true_eq] at h1
  refine ⟨h1.1, ?_⟩
  have h2 := h1.2
  split at h2
  · rename_i hx; exact ⟨_, od_hasI h2, by rw [hx]; rfl⟩
  · rename_i hx; exact ⟨_, od_hasI h2, by rw [hx]; rfl⟩
  · rename_i hx; exact ⟨_, od_hasI h2, by rw [hx]; rfl⟩
  · cases h2
end
section
/-! THE CLAIM OUT OF ONE WALK OF THE LAW'S BODY. Your part is whole_start (and what it stands on); all else here is the same for every law, but numbers. -/
def R_law : String := "OrdinalDeskLaw"
def lw_P (b : Addr) (xs : List Int32) (args : Array Value) (s : State) : Prop := args = #[.ref b] ∧ s.IntsAt b xs ∧ xs.length ≤ 2560 ∧ (Jvm.Cond.and given_1 narrow_1).before args s = true
def lw_Q (_ : Array Value) (s : State) (o : Outcome) (t : State) : Prop := o = .returned (some (.int 1)) ∧ Framed s o t [] 601024 7293034
def lw_Z (below : List Frame) (a : Array Value) (s : State) : State → Prop := fun t => ∃ o, t.status = .running ∧ Ended t below o ∧ lw_Q a s o t
/-- the law's own end, with 1 on the stack, nothing written that was there before, its room as the claim has it -/
theorem lw_ret {p : Program} {l : Launch} {e : Env} {s : State} {m : MethodId} {below : List Frame} {meth : Method} {c : Code} {b : Nat} (hx : p.tables.exec = Jvm.exec) (hb : c.code = code) (hr : meth.sig.returnType = ret) (hlocks : meth.locks = false) {pc : Nat} {H : Heap} {ls : Array Slot} (hdg : decode code pc = .ok (.ireturn, 1)) : W p l e room_1 s m #[Value.ref b] below meth c H [] 601024 7293034 (lw_Z below #[Value.ref b] s) (F0 m pc ls [.int 1]) := by
  intro T hT X
  obtain ⟨fs, hret, hrun, hended, hW, hframe⟩ := X.leave (v := some (.int 1)) (hlocks := hlocks) (fun h => by rw [hr] at h; cases h)
  have hmeth' : T.vm.method? m = some meth := X.method'
  refine ⟨T.setFrames fs, ?_, .returned (some (.int 1)), hrun, hended, rfl, ⟨_, rfl⟩, hW, hframe⟩
  jvm_step X.here [X.here.top, hx, hb, hdg, hmeth', hr, ret, narrow_b1]
  (try refine ⟨rfl, ?_⟩); (try refine ⟨rfl, ?_⟩)
  first | (intro acts; rw [hret _ acts rfl rfl rfl]) | rw [hret _ _ rfl rfl rfl]
  exact Steps.refl _
/-- what holds at the law's entry: the machine, the code, the tables' words (any of lw_tbl by 'hts w (by decide +kernel)'), the script of L ints xs at the cell b, what the Statement gives of the start (any of its parts by flat_of_before) -/
def lw_At (p : Program) (s : State) (m : MethodId) (meth : Method) (c : Code) (b L : Nat) (xs : Nat → Int32) : Prop :=
  p.tables.exec = Jvm.exec ∧ c.code = code ∧ meth.sig.returnType = ret ∧ c.maxLocals = 7 ∧ s.vm.findClass R_law = some m.cls ∧ (∀ w ∈ lw_tbl, w.before #[Value.ref b] s = true) ∧ va_X b L xs s s.heap ∧ b < s.heap.size ∧ meth.locks = false ∧ (Jvm.Cond.and given_1 narrow_1).before #[Value.ref b] s = true ∧ c.exceptionTable.isEmpty = true
/-- the law's runs of the small machine: on every script of at most N ints they end with 1, within the room -/
def od_Law (N C S : Nat) : Prop := ∀ (b B L : Nat) (xs : Nat → Int32), b < B → L ≤ N → od_W 60 153 0 (od_ent 153 [.ref b]) [] (B, 0, va_up (fun _ => none) b (some (od_sc L xs))) (fun o M' => o = .inl (some (.int 1)) ∧ M'.1 ≤ B + C ∧ M'.2.1 ≤ S)
theorem od_ins_ok : od_cls.all (fun q => od_has (.instantiable q.1 (if q.2.2 = 0 then 6 else q.2.2))) = true := by decide +kernel
theorem od_known {s : State} {args : Array Value} (hts : ∀ w ∈ od_WS, w.before args s = true) : ∃ D : va_G, ∀ (c : Nat) (q : vw_C), od_cls[c]? = some q → u_Kn s q.1 q.2.1 q.2.2 (D.1 c) (D.2 c) := by
  have h : ∀ c : Nat, ∃ z : ClassId × (Nat → Nat), ∀ q : vw_C, od_cls[c]? = some q → u_Kn s q.1 q.2.1 q.2.2 z.1 z.2 := by
    intro c
    cases hc : od_cls[c]? with
    | none => exact ⟨(0, fun _ => 0), fun q h => by cases h⟩
    | some q =>
      obtain ⟨C, T, N⟩ := q
      have h1 := List.all_eq_true.mp od_ins_ok _ (List.mem_of_getElem? hc)
      obtain ⟨cC, iS, hk⟩ := u_known (T := T) (N := N) hts (od_clI hc).1 (hts _ (od_hasI h1))
      exact ⟨(cC, iS), fun q h => by cases h; exact hk⟩
  exact ⟨(fun c => (Classical.choose (h c)).1, fun c => (Classical.choose (h c)).2), fun c q hq => Classical.choose_spec (h c) q hq⟩
theorem od_arrs {s : State} {args : Array Value} (hts : ∀ w ∈ od_WS, w.before args s = true) : ∃ K : Nat × Nat × Nat, ∀ (k : Nat) (q : ClassId × FieldType), ([(K.1, .int), (K.2.1, .long), (K.2.2, .object od_rn)] : List (ClassId × FieldType))[k]? = some q → ArrOfT s q.1 q.2 ∧ va_RA s q.1 q.2 := by
  have har := od_ar_ok
  rw [Bool.and_eq_true] at har
  have hao := od_an_ok
  rw [Bool.and_eq_true] at hao
  have prim : ∀ ty : FieldType, (Cond.arrayClass ty).before args s = true → ∃ (c : ClassId) (k : Class) (comp : ClassId), s.vm.findClass ("[" ++ ty.toString) = some c ∧ s.vm.classes[c]? = some k ∧ k.kind = .array comp ty := by
    intro ty h
    simp only [Cond.before, Cond.holds, Cond.value] at h
    cases h1 : s.vm.findClass ("[" ++ ty.toString) with
    | none => rw [h1] at h; simp at h
    | some c =>
      rw [h1] at h
      simp only [Option.bind_some] at h
      cases h2 : s.vm.classes[c]? with
      | none => rw [h2] at h; simp at h
      | some k =>
        rw [h2] at h
        simp only [Option.map_some] at h
        cases h3 : k.kind with
        | array comp ty' =>
          rw [h3] at h
          simp at h
          exact ⟨c, k, comp, rfl, h2, by rw [h3, h]⟩
        | _ => rw [h3] at h; simp at h
  obtain ⟨c1, k1, m1, a1, a2, a3⟩ := prim .int (hts _ (od_hasI har.1))
  obtain ⟨c2, k2, m2, b1, b2, b3⟩ := prim .long (hts _ (od_hasI har.2))
  have over : ∃ (c : ClassId) (k : Class) (comp : ClassId), s.vm.findClass ("[" ++ (FieldType.object od_rn).toString) = some c ∧ s.vm.classes[c]? = some k ∧ k.kind = .array comp (.object od_rn) ∧ s.vm.findClass od_rn = some comp := by
    have h := hts _ (od_hasI hao.1)
    simp only [Cond.before, Cond.holds, Cond.value, beq_iff_eq] at h
    cases hc : s.vm.findClass od_rn with
    | none => simp [hc] at h
    | some comp =>
      simp only [hc, Option.bind_some, Option.bind_eq_some_iff, Option.map_eq_some_iff] at h
      obtain ⟨c, hi, k, hk, hb⟩ := h
      obtain ⟨hlt, hp, -⟩ := Array.findIdx?_eq_some_iff_getElem.mp hi
      have hkk : s.vm.classes[c] = k := (Array.getElem?_eq_some_iff.mp hk).2
      rw [hkk] at hp
      cases hkind : k.kind with
      | array component ty =>
        rw [hkind] at hb hp
        simp at hb hp
        exact ⟨c, k, comp, hb.2, hk, by rw [hkind, hp, hb.1], rfl⟩
      | _ => rw [hkind] at hb; simp at hb
  obtain ⟨c3, k3, m3, d1, d2, d3, d4⟩ := over
  refine ⟨(c1, c2, c3), fun k q hq => ?_⟩
  have hk3 : k < 3 := (List.getElem?_eq_some_iff.mp hq).1
  have hk : k = 0 ∨ k = 1 ∨ k = 2 := by omega
  rcases hk with rfl | rfl | rfl
  · cases hq
    exact ⟨fun n z => ⟨fun k h => (by cases h), k1, a2, m1, a3⟩, a1⟩
  · cases hq
    exact ⟨fun n z => ⟨fun k h => (by cases h), k2, b2, m2, b3⟩, b1⟩
  · cases hq
    exact ⟨fun n z => ⟨fun k h => (by cases h), k3, d2, m3, d3⟩, k3, m3, d2, d3, d4, d1⟩
theorem od_ls_in : Cond.laysStatic "java/lang/Throwable" "UNASSIGNED_STACK" "[Ljava/lang/StackTraceElement;" ∈ tables_1 ∧ Cond.laysStatic "java/lang/Throwable" "SUPPRESSED_SENTINEL" "Ljava/util/List;" ∈ tables_1 := ⟨by decide +kernel, by decide +kernel⟩
theorem od_sr_in : ∀ q ∈ od_sts, Cond.stringRef q.1 q.2.1 q.2.2 ∈ tables_1 ∧ Cond.initialized q.1 ∈ tables_1 := by decide +kernel
theorem od_St0 {s : State} {args : Array Value} {n d : String} (h1 : (Cond.laysStatic "java/lang/Throwable" n d).before args s = true) (h2 : (Cond.isRef (.static "java/lang/Throwable" n d)).before args s = true) : od_St s.heap.size n d s := by
  refine ⟨od_ride_ls h1 rfl (fun _ _ _ _ => rfl), od_ride_ir h2 rfl (fun _ _ _ _ => rfl), fun x a hx ha => ?_⟩
  obtain ⟨c0, k0, i0, f0, a0, cell0, -, hi0, -, ha0, hcell0, -⟩ := Cond.laysStatic_spec h1
  cases hx.symm.trans hi0
  cases ha.symm.trans ha0
  exact (Array.getElem?_eq_some_iff.mp hcell0).1
theorem od_Ky0 {s : State} {b : Nat} (hts : ∀ w ∈ lw_tbl, w.before #[Value.ref b] s = true) (hgv : (Jvm.Cond.and given_1 narrow_1).before #[Value.ref b] s = true) : od_Ky s.heap.size s := by
  have hs := flat_of_before _ hgv
  have htt : ∀ w ∈ tables_1, w.before #[Value.ref b] s = true := fun w hw => hts w (List.mem_append_right _ hw)
  refine ⟨od_St0 (htt _ od_ls_in.1) (hs _ (by decide +kernel)), od_St0 (htt _ od_ls_in.2) (hs _ (by decide +kernel)), fun q hq => ?_, fun q hq => ?_, fun q cell hq hc => ?_⟩
  · simp only [od_ncs, List.mem_cons, List.not_mem_nil, or_false] at hq
    rcases hq with rfl | rfl | rfl | rfl | rfl | rfl <;> exact va_Nc.of (hs _ (by decide +kernel))
  · obtain ⟨h1, h2⟩ := od_sr_in q hq
    have h3 := htt _ h1
    have h4 := htt _ h2
    have h5 : ∃ cur, s.vm.findClass q.1 = some cur := by
      cases hc : s.vm.findClass q.1 with
      | some c => exact ⟨c, rfl⟩
      | none =>
        exfalso
        simp only [Cond.before, Cond.holds, Cond.value, hc] at h3
        simp at h3
    obtain ⟨cur, hcur⟩ := h5
    obtain ⟨k, cf, i, a, -, -, -, -, -, he⟩ := Cond.stringRef_spec hcur h3
    exact ⟨a, vk_R.of h3 he⟩
  · exact absurd (Array.getElem?_eq_some_iff.mp hc).1 (by omega)
set_option maxHeartbeats 4000000 in
set_option maxRecDepth 100000 in
theorem whole_start_of (hLaw : od_Law 2560 601024 7293034) {p : Program} {e : Env} {s : State} {m : MethodId} {below : List Frame} {meth : Method} {c : Code} (l : Launch) (hfl : l.flags = flags0) {b L : Nat} {xs : Nat → Int32} (hL : L ≤ 2560) (C0 : lw_At p s m meth c b L xs) : W p l e room_1 s m #[Value.ref b] below meth c s.heap [] 0 0 (lw_Z below #[Value.ref b] s) (entryFrame m ([Value.ref b] : List Value).toArray 7) := by
  obtain ⟨hx, hb, hr, hml, hown, hts, hX, hbl, hlk, hgv, hne⟩ := C0
  have htw : ∀ w ∈ od_WS, w.before #[Value.ref b] s = true := fun w hw => hts w (List.mem_filter.mp hw).1
  obtain ⟨D, hD⟩ := od_known htw
  obtain ⟨K, hK⟩ := od_arrs htw
  have hKx : od_Kx D K s := ⟨hD, hK⟩
  have hKy : od_Ky s.heap.size s := od_Ky0 hts hgv
  obtain ⟨n, o, M', hev, ho, hc1, hs1⟩ := hLaw b s.heap.size L xs hbl hL
  have hRp : od_Rp D K s.heap.size s (s.heap.size, 0, va_up (fun _ => none) b (some (od_sc L xs))) s.heap := by
    refine ⟨rfl, Nat.le_refl _, fun a x hx => ?_, fun q cell hq hc => absurd (Array.getElem?_eq_some_iff.mp hc).1 (by omega)⟩
    have hx' : va_up (fun _ => none) b (some (od_sc L xs)) a = some x := hx
    by_cases hab : a = b
    · subst hab
      rw [va_up_self] at hx'
      cases hx'
      exact ⟨hX, Or.inr ⟨_, rfl⟩⟩
    · rw [va_up_ne _ _ hab] at hx'
      cases hx'
  have hthr : od_Thr l od_WS D K s.heap.size := od_thr (fun e ha => Launch.traces_off hfl ha) od_T_ok od_MT_ok od_x_ok
  have hcat : od_Cat l od_WS D K s.heap.size := od_cat od_hok_ok
  have hl := lv_entry ([Value.ref b]) (n := 7) (Nat.le_of_ble_eq_true rfl)
  have htb : od_tb c 153 := by
    have h9 : c.exceptionTable = #[] := Array.isEmpty_iff.mp hne
    unfold od_tb
    rw [h9]
    rfl
  have hw := od_sound od_T_ok od_MT_ok hthr hcat n 60 153 0 _ [] _ o M' hev (p := p) (e := e) (R := room_1) (s := s) (m := m) (args := #[Value.ref b]) (below := below) (meth := meth) (c := c) (H := s.heap) (locs := []) (cells := 0) (slots := 0)
    ⟨hx, hb, hr, hml, hown, htw, hlk, fun h => by cases h⟩ htb (od_has_sub hl (fun q hq => od_ent_args hq)) rfl hKx hKy hRp (fun q h => by cases h) ⟨by decide, by decide⟩ (by show 0 + (M'.1 - s.heap.size) ≤ 601024; omega) (by show 0 + (M'.2.1 - 0) ≤ 7293034; omega)
  rw [lg_entry_eq]
  refine od_Wm hw (fun t ht => ?_)
  obtain ⟨o', t1, t2, t3, t4, t5, Ls, t6, t7⟩ := ht
  subst ho
  have ho' : o' = .returned (some (.int 1)) := t3
  refine ⟨o', t1, t2, ho', ⟨_, ho'⟩, t5, ?_⟩
  refine ⟨t6.1, t6.2.1, Nat.le_trans t6.2.2.1 (Nat.add_le_add_left (by show 0 + (M'.1 - s.heap.size) ≤ 601024; omega) _), t6.2.2.2.1, Nat.le_trans t6.2.2.2.2.1 (by show 0 + (M'.2.1 - 0) ≤ 7293034; omega), fun a c' hc' => ?_⟩
  obtain ⟨c2, g1, g2, g3, g4⟩ := t6.2.2.2.2.2 a c' hc'
  refine ⟨c2, g1, g2, g3, fun i _ => g4 i (fun hm => ?_)⟩
  have := t7 _ hm
  have h8 := (Array.getElem?_eq_some_iff.mp hc').1
  exact absurd this (by show ¬ s.heap.size ≤ a; omega)
end
section
/-! The claim out of the law's runs of the small machine (the kit's skeleton, turned). -/
set_option maxHeartbeats 4000000 in
theorem lw_walk (hLaw : od_Law 2560 601024 7293034) (l : Launch) (hfl : l.flags = flags0) (b : Addr) (xs : List Int32) : MetFree l x (headSpec (Jvm.Cond.code x code maxLocals ret :: tables_1) room_1) (lw_P b xs) (fun _ _ _ _ _ => True) lw_Q := by
  refine MetFree.of_bodyS (code := code) (maxLocals := maxLocals) (ret := ret) (by decide) ?_ ?_
  · intro args s m h hn
    obtain ⟨meth, c, h1, h2, h3, h4, h5, h6, -, -⟩ := Cond.code_spec hn (atoms_spec (ws := Jvm.Cond.code x code maxLocals ret :: tables_1) h _ List.mem_cons_self)
    exact ⟨meth, c, h1, h2, h3, h4, h5, h6⟩
  · intro p e s m args below meth c s₁ B hml0 hP _
    obtain ⟨rfl, hx, hbd, hgv⟩ := hP
    obtain ⟨scr, harrAt, hlist, hof, hsmall⟩ := hx
    obtain ⟨hcb, hkn, -, -⟩ := State.arrayAt?_spec harrAt
    have hown : s.vm.findClass R_law = some m.cls := findClass_of_methodNamed B.named
    have hts0 : ∀ c ∈ (Jvm.Cond.code x code maxLocals ret :: tables_1), c.before #[Value.ref b] s = true := atoms_spec (ws := Jvm.Cond.code x code maxLocals ret :: tables_1) B.pre
    have hts : ∀ w ∈ lw_tbl, w.before #[Value.ref b] s = true := k2_hts_sels lw_privs (fun w hw => hts0 w (List.mem_cons_of_mem _ hw)) lw_privs_ok
    have hml : c.maxLocals = 7 := B.maxLocals_eq (hts0 _ List.mem_cons_self)
    have X₀ : Stand p l e room_1 s m #[Value.ref b] below meth c s₁ [] 0 0 := Stand.of_body B
    have hh0 : s₁.heap = s.heap := by rw [B.state]; rfl
    have hsz : scr.slots.size = xs.length := by rw [← Array.length_toList, hlist, List.length_map]
    have hval : ∀ j : Nat, j < xs.length → scr.slots[j]? = some (.int (xs.getD j 0)) := fun j hj => by
      rw [← Array.getElem?_toList, hlist]
      simp [hj]
    have hbl : b < s.heap.size := (Array.getElem?_eq_some_iff.mp hcb).1
    have hX : va_X b xs.length (fun j => xs.getD j 0) s s.heap := ⟨scr, hcb, hof, hkn, hsz, hval⟩
    have K : W p l e room_1 s m #[Value.ref b] below meth c s₁.heap [] 0 0 (lw_Z below #[Value.ref b] s) (entryFrame m ([Value.ref b] : List Value).toArray 7) := by
      rw [hh0]
      exact whole_start_of hLaw l hfl hbd ⟨B.exec, B.bytes, B.returns, hml, hown, hts, hX, hbl, B.notSynchronized, hgv, B.noHandlers (hts0 _ List.mem_cons_self)⟩
    obtain ⟨t, a1, o, b1, b2, b3⟩ := K s₁ rfl X₀
    exact ⟨t, o, a1, b1, b2, b3⟩
theorem lw_pre_spec {args : Array Value} {s : State} (h : (Jvm.Cond.and given_1 narrow_1).before args s = true) (hr : rest_1_c.before args s = true) : ∃ (b : Addr) (xs : List Int32), lw_P b xs args s := by
  have hs := flat_of_before _ h
  have hq := flat_of_before _ hr
  have hc : (Cond.count 1).before args s = true := hs _ (by decide +kernel)
  have harr : (Cond.arrayOf (.arg 0) .int).before args s = true := hs _ (by decide +kernel)
  have hle : (Cond.le (.length (.arg 0)) (.int 2560)).before args s = true := hs _ (by decide +kernel)
  have hlen : (Cond.isInt (.length (.arg 0))).before args s = true := hq _ (by decide +kernel)
  have hall : (Cond.all (.arg 0) (.isInt (.elem (.arg 0) (.index 0)))).before args s = true := hq _ (by decide +kernel)
  obtain ⟨b, xs, hb, hx⟩ := State.ints_of_pre rfl harr hlen hall
  have hsm : xs.length < 2 ^ 31 := hx.choose_spec.2.2.2
  have hev : (Term.length (.arg 0)).eval args s none [] s = some (.int xs.length.toInt32) := hx.length_eval hb
  have hv := Cond.le_ints hev (show (Term.int 2560).eval args s none [] s = some (.int 2560) from rfl)
  have hd : xs.length.toInt32 ≤ 2560 := by
    simpa [Cond.before, Cond.holds, hv] using hle
  have hN : xs.length ≤ 2560 := (Int32.ofNat_le_ofNat hsm (by decide)).mp (show Int32.ofNat xs.length ≤ Int32.ofNat 2560 from hd)
  exact ⟨b, xs, Cond.one_arg hc (show args[0]? = some (.ref b) from hb), hx, hN, h⟩
theorem lw_comes (hLaw : od_Law 2560 601024 7293034) (l : Launch) (hfl : l.flags = flags0) : Comes l x (Jvm.Cond.code x code maxLocals ret :: tables_1) room_1 (fun tb e args s => Calls_1 tb e args s ∧ rest_1 tb e args s ∧ Pre_1 tb e args s)
    (fun _ _ args s o t => lw_Q args s o t) := by
  intro p e ha hc hk s m args below hf hfit hheap happ hpre
  obtain ⟨b, xs, hP⟩ := lw_pre_spec hpre.2.2 hpre.2.1
  obtain ⟨k, o, h1, h2, h3, hQ⟩ := lw_walk hLaw l hfl b xs p e ha hc hk s m args below hf ((Spec.applies_iff_loose hf).mp happ).1 hP trivial
  exact ⟨k, o, h1, h2, h3, hQ⟩
theorem lw_frame {s t : State} {o : Outcome} {args : Array Value} (h : Framed s o t [] 601024 7293034) :
    Framed s o t (fieldLocs frame_1_writes args s ++ arrayLocs frame_1_arrays args s ++ staticLocs frame_1_statics s) 601024 7293034 := h
theorem lw_limb (hLaw : od_Law 2560 601024 7293034) (L : Cond) (hL : ∀ (args : Array Value) (s t : State), L.after args s (.returned (some (.int 1))) t = true) :
    ArmFor flags0 classFile x code maxLocals ret World_1 tables_1 room_1 Calls_1 rest_1 Pre_1
      (fun tb e a s o t => postC L tb e a s o t ∧ Framed s o t (fieldLocs frame_1_writes a s ++ arrayLocs frame_1_arrays a s ++ staticLocs frame_1_statics s) 601024 7293034) := by
  intro l hfl _ _ p e ha hc hk s m args below hf hfit hheap happ hpre
  obtain ⟨k, o, h1, h2, h3, rfl, hF⟩ := lw_comes hLaw l hfl p e ha hc hk s m args below hf hfit hheap happ hpre
  exact ⟨k, _, h1, h2, h3, hL args s _, lw_frame hF⟩
theorem i_vc_open (hLaw : od_Law 2560 601024 7293034) : Claimed_1_1 ∧ Claimed_1_2 := ⟨lw_limb hLaw limb_1_1 (fun args s t => by simp [limb_1_1, Cond.after, Cond.holds, Cond.value]), lw_limb hLaw limb_1_2 (fun args s t => Cond.after_iff.mpr (by
  first | (rw [show limb_1_2 = Cond.eq .result (.int 1) from rfl, Cond.eq_ints (x := 1) (y := 1) rfl rfl]; simp; done) | (simp [limb_1_2, Cond.value, Term.eval]; done)))⟩
end
section
/-! Leading runs on by rewriting. -/
/-- what a step leads to -/
def od_X (d k pc : Nat) (ls : od_L) (M : od_M) (Q : od_O → od_M → Prop) (r : od_R) : Prop := match r with
  | none => False
  | some (.inl q) => od_W d k q.1 q.2.1 q.2.2.1 q.2.2.2 Q
  | some (.inr (.inr q)) => Q q.1 q.2
  | some (.inr (.inl q)) => ∃ (d' : Nat) (Q1 : od_O → od_M → Prop), d = d' + 1 ∧ od_W d' q.1 0 (od_ent q.1 q.2.1) [] M Q1 ∧ ∀ o M1, Q1 o M1 → od_K d k pc ls q.2.2 Q o M1
theorem od_wX {d k pc n : Nat} {i : ClassFile.Instr} {ls : od_L} {st : List Value} {M : od_M} {Q : od_O → od_M → Prop} (h : od_cd k pc = some (i, n)) (hx : od_X d k pc ls M Q (od_ins k pc n i ls st M)) : od_W d k pc ls st M Q := by
  have hs : od_step k pc ls st M = od_ins k pc n i ls st M := by unfold od_step; rw [h]
  rcases hr : od_ins k pc n i ls st M with _ | ⟨a, b, c, e⟩ | ⟨j, as, rest⟩ | ⟨o, M'⟩
  · rw [hr] at hx; exact hx.elim
  · rw [hr] at hx
    exact od_W.go (hs.trans hr) hx
  · rw [hr] at hx
    obtain ⟨d', Q1, rfl, h1, h2⟩ := hx
    exact od_W.call (hs.trans hr) h1 (Nat.le_refl _) h2
  · rw [hr] at hx
    exact od_W.fin (hs.trans hr) hx
theorem od_wE {d k pc n : Nat} {i : ClassFile.Instr} {ls : od_L} {st : List Value} {M : od_M} {Q : od_O → od_M → Prop} (h : od_cd k pc = some (i, n)) : od_W d k pc ls st M Q = od_X d k pc ls M Q (od_ins k pc n i ls st M) := by
  refine propext ⟨fun hw => ?_, od_wX h⟩
  have hs : od_step k pc ls st M = od_ins k pc n i ls st M := by unfold od_step; rw [h]
  obtain ⟨m, o, M', h1, h2⟩ := hw
  cases m with
  | zero => rw [od_ev] at h1; cases h1
  | succ m =>
    rw [od_ev_s, hs] at h1
    rcases hr : od_ins k pc n i ls st M with _ | ⟨a, b, c, e⟩ | ⟨j, as, rest⟩ | ⟨o2, M2⟩
    · rw [hr] at h1; cases h1
    · rw [hr] at h1
      exact ⟨m, o, M', h1, h2⟩
    · rw [hr] at h1
      cases d with
      | zero => cases h1
      | succ d' =>
        dsimp only at h1
        rcases hc : od_ev m d' j 0 (od_ent j as) [] M with _ | ⟨o1, M1⟩
        · rw [hc] at h1; cases h1
        · rw [hc] at h1
          refine ⟨d', fun o2 M2 => o2 = o1 ∧ M2 = M1, rfl, ⟨m, o1, M1, hc, rfl, rfl⟩, fun o2 M2 hq => ?_⟩
          obtain ⟨rfl, rfl⟩ := hq
          cases o2 with
          | inl v => exact ⟨m, o, M', h1, h2⟩
          | inr xa =>
            unfold od_K
            dsimp only at h1 ⊢
            rcases hh : od_hn k pc xa.1 with _ | _ | hp
            · rw [hh] at h1; cases h1
            · rw [hh] at h1; cases h1; exact h2
            · rw [hh] at h1; exact ⟨m, o, M', h1, h2⟩
    · rw [hr] at h1
      cases h1
      exact h2
section RUL
variable {d k pc : Nat} {ls : od_L} {st : List Value} {M : od_M} {Q : od_O → od_M → Prop}
theorem od_rG {ix a c f t : Nat} {fs : List Value} {v : Value} (h : od_cd k pc = some (.getfield ix, 3)) (hM : M.2.2 a = some (od_ob c fs)) (hf : od_fd (od_ow k) ix = some (c, f, t)) (hv : fs[f]? = some v) (kk : od_W d k (pc + 3) ls (v :: st) M Q) : od_W d k pc ls (.ref a :: st) M Q := by
  refine od_wX h ?_
  simp only [od_ins, od_get, hM, hf, hv, od_go, od_X, ↓reduceIte]
  exact kk
theorem od_rP {ix a c f t : Nat} {fs : List Value} {v : Value} (h : od_cd k pc = some (.putfield ix, 3)) (hM : M.2.2 a = some (od_ob c fs)) (hf : od_fd (od_ow k) ix = some (c, f, t)) (hl : f < fs.length) (ht : od_tk t v = true) (h3 : t ≠ 3) (kk : od_W d k (pc + 3) ls st (od_set M a (od_ob c (fs.set f v))) Q) : od_W d k pc ls (v :: .ref a :: st) M Q := by
  refine od_wX h ?_
  simp only [od_ins, od_put, hM, hf, od_go, od_X, ↓reduceIte]
  rw [if_pos ⟨trivial, hl, ht, fun z => absurd z h3⟩]
  exact kk
theorem od_rPF {ix a c f : Nat} {fs : List Value} {v : Value} (h : od_cd k pc = some (.putfield ix, 3)) (hM : M.2.2 a = some (od_ob c fs)) (hf : od_fd (od_ow k) ix = some (c, f, 3)) (hl : f < fs.length) (ht : od_tk 3 v = true) (hi : od_in k = true) (kk : od_W d k (pc + 3) ls st (od_set M a (od_ob c (fs.set f v))) Q) : od_W d k pc ls (v :: .ref a :: st) M Q := by
  refine od_wX h ?_
  simp only [od_ins, od_put, hM, hf, od_go, od_X, ↓reduceIte]
  rw [if_pos ⟨trivial, hl, ht, fun _ => hi⟩]
  exact kk
theorem od_ixN {j n : Nat} (h : j < n) (hn : n < 2 ^ 31) : od_ix (nI j) n = true := by
  unfold od_ix
  rw [nI_clamp (by omega), decide_eq_true h, decide_eq_true (nI_pos' (by omega))]
  rfl
/-- an int off an array, at the place j -/
theorem od_rIL {a n j : Nat} {f : Nat → Int32} {i : Int32} (h : od_cd k pc = some (.iaload, 1)) (hM : M.2.2 a = some (od_ia n f)) (hi : i = nI j) (hj : j < n) (hn : n < 2 ^ 31) (kk : od_W d k (pc + 1) ls (.int (f j) :: st) M Q) : od_W d k pc ls (.int i :: .ref a :: st) M Q := by
  refine od_wX h ?_
  subst hi
  simp only [od_ins, od_iald, hM, od_go, od_X, ↓reduceIte, od_ixN hj hn, nI_clamp (show j < 2 ^ 31 by omega)]
  exact kk
theorem od_rIS {a n j : Nat} {f : Nat → Int32} {i x : Int32} (h : od_cd k pc = some (.iastore, 1)) (hM : M.2.2 a = some (od_ia n f)) (hi : i = nI j) (hj : j < n) (hn : n < 2 ^ 31) (kk : od_W d k (pc + 1) ls st (od_set M a (od_ia n (upd f j x))) Q) : od_W d k pc ls (.int x :: .int i :: .ref a :: st) M Q := by
  refine od_wX h ?_
  subst hi
  simp only [od_ins, od_iast, hM, od_go, od_X, ↓reduceIte, od_ixN hj hn, nI_clamp (show j < 2 ^ 31 by omega)]
  exact kk
theorem od_rLL {a n j : Nat} {f : Nat → Int64} {i : Int32} (h : od_cd k pc = some (.laload, 1)) (hM : M.2.2 a = some (od_la n f)) (hi : i = nI j) (hj : j < n) (hn : n < 2 ^ 31) (kk : od_W d k (pc + 1) ls (.long (f j) :: st) M Q) : od_W d k pc ls (.int i :: .ref a :: st) M Q := by
  refine od_wX h ?_
  subst hi
  simp only [od_ins, od_lald, hM, od_go, od_X, ↓reduceIte, od_ixN hj hn, nI_clamp (show j < 2 ^ 31 by omega)]
  exact kk
theorem od_rLS {a n j : Nat} {f : Nat → Int64} {i : Int32} {x : Int64} (h : od_cd k pc = some (.lastore, 1)) (hM : M.2.2 a = some (od_la n f)) (hi : i = nI j) (hj : j < n) (hn : n < 2 ^ 31) (kk : od_W d k (pc + 1) ls st (od_set M a (od_la n (vp_updL f j x))) Q) : od_W d k pc ls (.long x :: .int i :: .ref a :: st) M Q := by
  refine od_wX h ?_
  subst hi
  simp only [od_ins, od_last, hM, od_go, od_X, ↓reduceIte, od_ixN hj hn, nI_clamp (show j < 2 ^ 31 by omega)]
  exact kk
theorem od_rAL {a n j : Nat} {f : Nat → Option Nat} {i : Int32} (h : od_cd k pc = some (.aaload, 1)) (hM : M.2.2 a = some (od_ra n f)) (hi : i = nI j) (hj : j < n) (hn : n < 2 ^ 31) (kk : od_W d k (pc + 1) ls (va_rf (f j) :: st) M Q) : od_W d k pc ls (.int i :: .ref a :: st) M Q := by
  refine od_wX h ?_
  subst hi
  simp only [od_ins, od_aald, hM, od_go, od_X, ↓reduceIte, od_ixN hj hn, nI_clamp (show j < 2 ^ 31 by omega)]
  exact kk
/-- branches, by what is known -/
theorem od_r1T {x : Int32} {c : ClassFile.Cond} {off : Int} {tgt : Nat} (h : od_cd k pc = some (.ifCond c off, 3)) (ht : (pc : Int) + off = (tgt : Int)) (hc : od_cond c x 0 = true) (kk : od_W d k tgt ls st M Q) : od_W d k pc ls (.int x :: st) M Q := by
  refine od_wX h ?_
  have h0 : 0 ≤ (pc : Int) + off := by omega
  have h1 : ((pc : Int) + off).toNat = tgt := by omega
  simp only [od_ins, od_if1, od_go, od_X, ↓reduceIte, h0, hc, h1]
  exact kk
theorem od_r1F {x : Int32} {c : ClassFile.Cond} {off : Int} (h : od_cd k pc = some (.ifCond c off, 3)) (h0 : 0 ≤ (pc : Int) + off) (hc : od_cond c x 0 = false) (kk : od_W d k (pc + 3) ls st M Q) : od_W d k pc ls (.int x :: st) M Q := by
  refine od_wX h ?_
  simp only [od_ins, od_if1, od_go, od_X, ↓reduceIte, h0, hc, Bool.false_eq_true]
  exact kk
theorem od_r2T {x y : Int32} {c : ClassFile.Cond} {off : Int} {tgt : Nat} (h : od_cd k pc = some (.if_icmp c off, 3)) (ht : (pc : Int) + off = (tgt : Int)) (hc : od_cond c x y = true) (kk : od_W d k tgt ls st M Q) : od_W d k pc ls (.int y :: .int x :: st) M Q := by
  refine od_wX h ?_
  have h0 : 0 ≤ (pc : Int) + off := by omega
  have h1 : ((pc : Int) + off).toNat = tgt := by omega
  simp only [od_ins, od_if2, od_go, od_X, ↓reduceIte, h0, hc, h1]
  exact kk
theorem od_r2F {x y : Int32} {c : ClassFile.Cond} {off : Int} (h : od_cd k pc = some (.if_icmp c off, 3)) (h0 : 0 ≤ (pc : Int) + off) (hc : od_cond c x y = false) (kk : od_W d k (pc + 3) ls st M Q) : od_W d k pc ls (.int y :: .int x :: st) M Q := by
  refine od_wX h ?_
  simp only [od_ins, od_if2, od_go, od_X, ↓reduceIte, h0, hc, Bool.false_eq_true]
  exact kk
/-- an exception leaves -/
theorem od_rX {ix x : Nat} (h : od_cd k pc = some (.new ix, 3)) (hn : od_nw (od_ow k) ix = none) (hx : od_xn k pc = some x) (hq : Q (.inr (x, M.1)) (od_add M 6 (od_ob (od_xc x) []))) : od_W d k pc ls [] M Q := by
  refine od_wX h ?_
  simp only [od_ins, od_new, hn, hx, od_fin, od_X, ↓reduceIte]
  exact hq
/-- a call: the callee's run, then what follows -/
theorem od_rC {i : ClassFile.Instr} {j : Nat} {as rest : List Value} {d' : Nat} {Q1 : od_O → od_M → Prop} (h : od_cd k pc = some (i, 3)) (hi : od_ins k pc 3 i ls st M = some (.inr (.inl (j, as, rest)))) (hc : od_W d' j 0 (od_ent j as) [] M Q1) (hd : d' ≤ d) (kk : ∀ o M1, Q1 o M1 → od_K (d + 1) k pc ls rest Q o M1) : od_W (d + 1) k pc ls st M Q := by
  refine od_W.call (j := j) (as := as) (rest := rest) ?_ hc hd kk
  unfold od_step
  rw [h]
  exact hi
/-- a call on an object of the callee's class -/
theorem od_rV {ix j n b c : Nat} {as rest : List Value} {fs : List Value} {d' : Nat} {Q1 : od_O → od_M → Prop} (h : od_cd k pc = some (.invokevirtual ix, 3)) (hm : od_md (od_ow k) ix = some (j, 0, n)) (hn : as.length + 1 = n) (hs : st = as.reverse ++ .ref b :: rest) (hM : M.2.2 b = some (od_ob c fs)) (hc' : c = od_oc j) (hw : (rest.map fun v => v.category).sum ≤ 30) (hl : (od_fl (.ref b :: as)).length ≤ od_nl j)
    (hc : od_W d' j 0 (od_ent j (.ref b :: as)) [] M Q1) (hd : d' ≤ d) (kk : ∀ o M1, Q1 o M1 → od_K (d + 1) k pc ls rest Q o M1) : od_W (d + 1) k pc ls st M Q := by
  refine od_rC h ?_ hc hd kk
  have ht : (st.take n).reverse = .ref b :: as := by
    rw [hs, ← hn, show as.reverse ++ Value.ref b :: rest = (as.reverse ++ [Value.ref b]) ++ rest by simp, List.take_left' (by simp)]
    simp
  have hd2 : st.drop n = rest := by
    rw [hs, ← hn, show as.reverse ++ Value.ref b :: rest = (as.reverse ++ [Value.ref b]) ++ rest by simp, List.drop_left' (by simp)]
  have hlen : n ≤ st.length := by rw [hs, ← hn]; simp
  have hr : od_rcv 0 j (.ref b :: as) M = true := by
    unfold od_rcv
    simp only [hM, hc', decide_true, Bool.or_true]
  simp only [od_ins, od_inv, hm, ht, hd2, ↓reduceIte, hlen, hw, hr, hl]
  simp
theorem od_rSt {ix j n : Nat} {as rest : List Value} {d' : Nat} {Q1 : od_O → od_M → Prop} (h : od_cd k pc = some (.invokestatic ix, 3)) (hm : od_md (od_ow k) ix = some (j, 1, n)) (hn : as.length = n) (hs : st = as.reverse ++ rest) (hw : (rest.map fun v => v.category).sum ≤ 30) (hl : (od_fl as).length ≤ od_nl j)
    (hc : od_W d' j 0 (od_ent j as) [] M Q1) (hd : d' ≤ d) (kk : ∀ o M1, Q1 o M1 → od_K (d + 1) k pc ls rest Q o M1) : od_W (d + 1) k pc ls st M Q := by
  refine od_rC h ?_ hc hd kk
  have ht : (st.take n).reverse = as := by
    rw [hs, ← hn, List.take_left' (by simp)]
    simp
  have hd2 : st.drop n = rest := by rw [hs, ← hn, List.drop_left' (by simp)]
  have hlen : n ≤ st.length := by rw [hs, ← hn]; simp
  simp only [od_ins, od_inv, hm, ht, hd2, ↓reduceIte, hlen, hw, hl]
  simp
/-- behind a call that came back -/
theorem od_K.ret {v : Option Value} {rest : List Value} (h : od_W d k (pc + 3) ls (v.toList ++ rest) M Q) : od_K d k pc ls rest Q (.inl v) M := h
theorem od_K.out {x : Nat × Nat} {rest : List Value} (hh : od_hn k pc x.1 = some none) (h : Q (.inr x) M) : od_K d k pc ls rest Q (.inr x) M := by
  unfold od_K
  dsimp only
  rw [hh]
  exact h
end RUL
/-- a row: the object at r, its cells behind it; n cells in use -/
def od_Rw (M : od_M) (r n : Nat) (f : Nat → Int32) : Prop := M.2.2 r = some (od_ob 0 [.ref (r + 1), .int (nI n)]) ∧ M.2.2 (r + 1) = some (od_ia 60 f) ∧ n ≤ 60
def od_wr (M : od_M) (r n : Nat) (f : Nat → Int32) : od_M := od_set (od_set M (r + 1) (od_ia 60 f)) r (od_ob 0 [.ref (r + 1), .int (nI n)])
def od_xm (M : od_M) (x : Nat) : od_M := od_add M 6 (od_ob (od_xc x) [])
theorem ct_putCell {M : od_M} {r n : Nat} {f : Nat → Int32} {v : Int32} (h : od_Rw M r n f) (hn : n < 60) : od_W 0 19 0 (od_ent 19 [.ref r, .int v]) [] M (fun o M' => o = .inl none ∧ M' = od_wr M r (n + 1) (upd f n v)) := by
  obtain ⟨h1, h2, h3⟩ := h
  have e0 : od_ent 19 [.ref r, .int v] = [some (.ref r), some (.int v)] := rfl
  rw [e0]
  have c1 : od_cond .lt (nI n) 60 = true := decide_eq_true (nI_lt (b := 60) hn (by decide))
  have c2 : od_ix (nI n) 60 = true := by
    unfold od_ix
    rw [nI_clamp (by omega), decide_eq_true hn, decide_eq_true (nI_pos' (by omega))]
    rfl
  refine od_W.run 1 rfl ?_
  refine od_rG rfl h1 rfl rfl ?_
  refine od_W.run 1 rfl ?_
  refine od_r2T rfl rfl c1 ?_
  refine od_W.run 1 rfl ?_
  refine od_rG rfl h1 rfl rfl ?_
  refine od_W.run 1 rfl ?_
  refine od_rG rfl h1 rfl rfl ?_
  refine od_W.run 1 rfl ?_
  refine od_rIS rfl h2 rfl hn (by decide) ?_
  have h1' : (od_set M (r + 1) (od_ia 60 (upd f n v))).2.2 r = some (od_ob 0 [.ref (r + 1), .int (nI n)]) := by
    show va_up M.2.2 (r + 1) _ r = _
    rw [va_up_ne _ _ (by omega)]
    exact h1
  refine od_W.run 2 rfl ?_
  refine od_rG rfl h1' rfl rfl ?_
  refine od_W.run 2 rfl ?_
  refine od_rP rfl h1' rfl (by simp) rfl (by decide) ?_
  refine od_W.fin rfl ⟨rfl, ?_⟩
  unfold od_wr
  rw [nI_succ]
  rfl
end
section
/-! Rows of the class: what its putting methods do. -/
theorem od_wr_r (M : od_M) (r n : Nat) (f : Nat → Int32) : (od_wr M r n f).2.2 r = some (od_ob 0 [.ref (r + 1), .int (nI n)]) := va_up_self _ _ _
theorem od_wr_a (M : od_M) (r n : Nat) (f : Nat → Int32) : (od_wr M r n f).2.2 (r + 1) = some (od_ia 60 f) := by
  show va_up (va_up M.2.2 (r + 1) _) r _ (r + 1) = _
  rw [va_up_ne _ _ (by omega), va_up_self]
theorem od_wr_o (M : od_M) {r n a : Nat} (f : Nat → Int32) (h1 : a ≠ r) (h2 : a ≠ r + 1) : (od_wr M r n f).2.2 a = M.2.2 a := by
  show va_up (va_up M.2.2 (r + 1) _) r _ a = _
  rw [va_up_ne _ _ h1, va_up_ne _ _ h2]
theorem od_wr_Rw (M : od_M) {r n : Nat} (f : Nat → Int32) (hn : n ≤ 60) : od_Rw (od_wr M r n f) r n f := ⟨od_wr_r M r n f, od_wr_a M r n f, hn⟩
theorem od_Meq {M M' : od_M} (h1 : M.1 = M'.1) (h2 : M.2.1 = M'.2.1) (h3 : ∀ a, M.2.2 a = M'.2.2 a) : M = M' := by
  obtain ⟨a, b, c⟩ := M
  obtain ⟨a', b', c'⟩ := M'
  dsimp only at h1 h2 h3
  subst h1
  subst h2
  rw [show c = c' from funext h3]
theorem od_wr_wr (M : od_M) (r n n' : Nat) (f f' : Nat → Int32) : od_wr (od_wr M r n f) r n' f' = od_wr M r n' f' := by
  refine od_Meq rfl rfl fun a => ?_
  by_cases h1 : a = r
  · subst h1; rw [od_wr_r, od_wr_r]
  · by_cases h2 : a = r + 1
    · subst h2; rw [od_wr_a, od_wr_a]
    · rw [od_wr_o _ _ h1 h2, od_wr_o _ _ h1 h2, od_wr_o _ _ h1 h2]
theorem od_wr_id {M : od_M} {r n : Nat} {f : Nat → Int32} (h : od_Rw M r n f) : od_wr M r n f = M := by
  refine od_Meq rfl rfl fun a => ?_
  by_cases h1 : a = r
  · subst h1; rw [od_wr_r]; exact h.1.symm
  · by_cases h2 : a = r + 1
    · subst h2; rw [od_wr_a]; exact h.2.1.symm
    · rw [od_wr_o _ _ h1 h2]
theorem od_wr_len {M : od_M} {r n n' : Nat} {f : Nat → Int32} (h : od_Rw M r n f) : od_set M r (od_ob 0 [.ref (r + 1), .int (nI n')]) = od_wr M r n' f := by
  refine od_Meq rfl rfl fun a => ?_
  by_cases h1 : a = r
  · subst h1; rw [od_wr_r]; exact va_up_self _ _ _
  · show va_up M.2.2 r _ a = _
    rw [va_up_ne _ _ h1]
    by_cases h2 : a = r + 1
    · subst h2; rw [od_wr_a]; exact h.2.1
    · rw [od_wr_o _ _ h1 h2]
theorem od_Rw.other {M : od_M} {r r' n n' : Nat} {f f' : Nat → Int32} (h : od_Rw M r n f) (h1 : r ≠ r') (h2 : r ≠ r' + 1) (h3 : r + 1 ≠ r') : od_Rw (od_wr M r' n' f') r n f := ⟨by rw [od_wr_o _ _ h1 h2]; exact h.1, by rw [od_wr_o _ _ h3 (by omega)]; exact h.2.1, h.2.2⟩
/-- the cells with xs put at n -/
def od_ap (f : Nat → Int32) (n : Nat) (xs : List Int32) : Nat → Int32 := fun j => if n ≤ j ∧ j < n + xs.length then xs.getD (j - n) 0 else f j
theorem od_ap_nil (f : Nat → Int32) (n : Nat) : od_ap f n [] = f := by
  funext j
  unfold od_ap
  rw [if_neg (by simp only [List.length_nil]; omega)]
theorem od_ap_one (f : Nat → Int32) (n : Nat) (v : Int32) : od_ap f n [v] = upd f n v := by
  funext j
  unfold od_ap upd
  by_cases h : j = n
  · subst h
    rw [if_pos (by simp), if_pos rfl]
    simp
  · rw [if_neg (by simp only [List.length_cons, List.length_nil]; omega), if_neg h]
theorem od_ap_ap (f : Nat → Int32) (n : Nat) (xs ys : List Int32) : od_ap (od_ap f n xs) (n + xs.length) ys = od_ap f n (xs ++ ys) := by
  funext j
  unfold od_ap
  by_cases h1 : n + xs.length ≤ j ∧ j < n + xs.length + ys.length
  · rw [if_pos h1, if_pos (by rw [List.length_append]; omega)]
    rw [List.getD_eq_getElem?_getD, List.getD_eq_getElem?_getD, List.getElem?_append_right (by omega)]
    rw [show j - (n + xs.length) = j - n - xs.length by omega]
  · rw [if_neg h1]
    by_cases h2 : n ≤ j ∧ j < n + xs.length
    · rw [if_pos h2, if_pos (by rw [List.length_append]; omega)]
      rw [List.getD_eq_getElem?_getD, List.getD_eq_getElem?_getD, List.getElem?_append_left (by omega)]
    · rw [if_neg h2, if_neg (by rw [List.length_append]; omega)]
/-- xs is put onto the row r, or there is no room: then the row may hold anything -/
def od_Pt (M : od_M) (r n : Nat) (f : Nat → Int32) (xs : List Int32) (ok : Prop) : od_O → od_M → Prop := fun o M' =>
  (ok ∧ n + xs.length ≤ 60 ∧ o = .inl none ∧ M' = od_wr M r (n + xs.length) (od_ap f n xs)) ∨ (¬ (ok ∧ n + xs.length ≤ 60) ∧ o = .inr (2, M.1) ∧ ∃ (n' : Nat) (f' : Nat → Int32), n' ≤ 60 ∧ M' = od_xm (od_wr M r n' f') 2)
/-- puts one behind another -/
theorem od_Pt.two {M : od_M} {r n : Nat} {f : Nat → Int32} {xs ys : List Int32} {p q : Prop} {o : od_O} {M' : od_M} (hx : n + xs.length ≤ 60) (hp : p) (h : od_Pt (od_wr M r (n + xs.length) (od_ap f n xs)) r (n + xs.length) (od_ap f n xs) ys q o M') : od_Pt M r n f (xs ++ ys) (p ∧ q) o M' := by
  rcases h with ⟨h1, h2, h3, h4⟩ | ⟨h1, h2, n', f', h3, h4⟩
  · refine Or.inl ⟨⟨hp, h1⟩, by rw [List.length_append]; omega, h3, ?_⟩
    rw [h4, od_wr_wr, od_ap_ap, List.length_append, Nat.add_assoc]
  · refine Or.inr ⟨fun z => h1 ⟨z.1.2, by have := z.2; rw [List.length_append] at this; omega⟩, h2, n', f', h3, ?_⟩
    rw [h4, od_wr_wr]
theorem od_Pt.no {M : od_M} {r n : Nat} {f : Nat → Int32} {xs ys : List Int32} {p q : Prop} {o : od_O} {M' : od_M} (hx : ¬ (p ∧ n + xs.length ≤ 60)) (ho : o = .inr (2, M.1)) (h : ∃ (n' : Nat) (f' : Nat → Int32), n' ≤ 60 ∧ M' = od_xm (od_wr M r n' f') 2) : od_Pt M r n f (xs ++ ys) (p ∧ q) o M' :=
  Or.inr ⟨fun z => hx ⟨z.1.1, by have := z.2; rw [List.length_append] at this; omega⟩, ho, h⟩
theorem od_Pt.iff {M : od_M} {r n : Nat} {f : Nat → Int32} {xs : List Int32} {p q : Prop} {o : od_O} {M' : od_M} (hpq : p ↔ q) (h : od_Pt M r n f xs p o M') : od_Pt M r n f xs q o M' := by
  unfold od_Pt at h ⊢
  rw [← hpq]
  exact h
theorem ct_putCellX {M : od_M} {r n : Nat} {f : Nat → Int32} {v : Int32} (h : od_Rw M r n f) : od_W 0 19 0 (od_ent 19 [.ref r, .int v]) [] M (od_Pt M r n f [v] True) := by
  by_cases hn : n < 60
  · refine (ct_putCell h hn).mono fun o M' hq => Or.inl ⟨trivial, by simp only [List.length_cons, List.length_nil]; omega, hq.1, ?_⟩
    rw [hq.2, od_ap_one]
    rfl
  · obtain ⟨h1, h2, h3⟩ := id h
    have e0 : od_ent 19 [.ref r, .int v] = [some (.ref r), some (.int v)] := rfl
    rw [e0]
    have c1 : od_cond .lt (nI n) 60 = false := decide_eq_false (nI_nlt (b := 60) (by omega) (by omega))
    refine od_W.run 1 rfl ?_
    refine od_rG rfl h1 rfl rfl ?_
    refine od_W.run 1 rfl ?_
    refine od_r2F rfl (of_decide_eq_true rfl) c1 ?_
    refine od_rX rfl rfl rfl (Or.inr ⟨fun z => ?_, rfl, n, f, h3, ?_⟩)
    · have := z.2
      simp only [List.length_cons, List.length_nil] at this
      omega
    · rw [od_wr_id h]
      rfl
theorem ct_openTerm {M : od_M} {r n : Nat} {f : Nat → Int32} (h : od_Rw M r n f) : od_W 1 20 0 (od_ent 20 [.ref r]) [] M (od_Pt M r n f [1] True) := by
  have e0 : od_ent 20 [.ref r] = [some (.ref r)] := rfl
  rw [e0]
  refine od_W.run 2 rfl ?_
  refine od_rV (as := [.int 1]) rfl rfl rfl rfl h.1 rfl (Nat.le_of_ble_eq_true rfl) (Nat.le_of_ble_eq_true rfl) (ct_putCellX (v := 1) h) (Nat.le_refl _) (fun o M1 hq => ?_)
  rcases id hq with ⟨h1, h2, rfl, h4⟩ | ⟨h1, rfl, h2⟩
  · exact od_K.ret (od_W.fin rfl hq)
  · exact od_K.out rfl hq
theorem ct_putCoefficient {M : od_M} {r n : Nat} {f : Nat → Int32} {v : Int64} (h : od_Rw M r n f) : od_W 1 22 0 (od_ent 22 [.ref r, .long v]) [] M (od_Pt M r n f [v.toInt32] (v ≤ 1000000)) := by
  have e0 : od_ent 22 [.ref r, .long v] = [some (.ref r), some (.long v), none] := rfl
  rw [e0]
  refine od_W.run 3 rfl ?_
  by_cases hv : v ≤ 1000000
  · have c1 : od_cond .le (lg_cmp v 1000000) 0 = true := by
      show decide (lg_cmp v 1000000 ≤ 0) = true
      unfold lg_cmp
      have h1 : ¬ v > 1000000 := Int64.not_lt.mpr hv
      rw [if_neg h1]
      split <;> rfl
    refine od_r1T rfl rfl c1 ?_
    refine od_W.run 3 rfl ?_
    refine od_rV (as := [.int v.toInt32]) rfl rfl rfl rfl h.1 rfl (Nat.le_of_ble_eq_true rfl) (Nat.le_of_ble_eq_true rfl) (ct_putCellX (v := v.toInt32) h) (Nat.le_refl _) (fun o M1 hq => ?_)
    have hq2 := od_Pt.iff (q := v ≤ 1000000) ⟨fun _ => hv, fun _ => trivial⟩ hq
    rcases id hq with ⟨h1, h2, rfl, h4⟩ | ⟨h1, rfl, h2⟩
    · exact od_K.ret (od_W.fin rfl hq2)
    · exact od_K.out rfl hq2
  · have c1 : od_cond .le (lg_cmp v 1000000) 0 = false := by
      show decide (lg_cmp v 1000000 ≤ 0) = false
      unfold lg_cmp
      have h1 : v > 1000000 := Int64.not_le.mp hv
      rw [if_pos h1]
      rfl
    refine od_r1F rfl (of_decide_eq_true rfl) c1 ?_
    refine od_rX rfl rfl rfl (Or.inr ⟨fun z => hv z.1, rfl, n, f, h.2.2, ?_⟩)
    rw [od_wr_id h]
    rfl
theorem ct_closeTerm {M : od_M} {r n : Nat} {f : Nat → Int32} {v : Int64} (h : od_Rw M r n f) : od_W 2 21 0 (od_ent 21 [.ref r, .long v]) [] M (od_Pt M r n f [0, v.toInt32] (v ≤ 1000000)) := by
  have e0 : od_ent 21 [.ref r, .long v] = [some (.ref r), some (.long v), none] := rfl
  rw [e0]
  refine od_W.run 2 rfl ?_
  refine od_rV (as := [.int 0]) rfl rfl rfl rfl h.1 rfl (Nat.le_of_ble_eq_true rfl) (Nat.le_of_ble_eq_true rfl) (ct_putCellX (v := 0) h) (Nat.zero_le _) (fun o M1 hq => ?_)
  rcases hq with ⟨-, h2, rfl, rfl⟩ | ⟨h1, rfl, h2⟩
  · refine od_K.ret ?_
    have hR1 := od_wr_Rw M (r := r) (od_ap f n [0]) h2
    refine od_W.run 2 rfl ?_
    refine od_rV (as := [.long v]) rfl rfl rfl rfl hR1.1 rfl (Nat.le_of_ble_eq_true rfl) (Nat.le_of_ble_eq_true rfl) (ct_putCoefficient (v := v) hR1) (Nat.le_refl _) (fun o M1 hq => ?_)
    have hq2 : od_Pt M r n f ([0] ++ [v.toInt32]) (v ≤ 1000000) o M1 := od_Pt.iff ⟨fun z => z.2, fun z => ⟨trivial, z⟩⟩ (od_Pt.two (p := True) h2 trivial hq)
    rcases id hq with ⟨h1, h2, rfl, h4⟩ | ⟨h1, rfl, h2⟩
    · exact od_K.ret (od_W.fin rfl hq2)
    · exact od_K.out rfl hq2
  · have hq2 : od_Pt M r n f ([0] ++ [v.toInt32]) (v ≤ 1000000) (.inr (2, M.1)) M1 := od_Pt.iff ⟨fun z => z.2, fun z => ⟨trivial, z⟩⟩ (od_Pt.no (p := True) (q := v ≤ 1000000) h1 rfl h2)
    exact od_K.out rfl hq2
end
section
/-! Rows of the class: parts of rows, numbers, terms. -/
section CPY
variable {d k pc : Nat} {ls : od_L} {M : od_M} {Q : od_O → od_M → Prop}
theorem od_rCp {ix j a b na nb sp dp c : Nat} {f g : Nat → Int32} {i1 i2 i3 : Int32} {rest : List Value} (h : od_cd k pc = some (.invokestatic ix, 3)) (hm : od_md (od_ow k) ix = some (j, 7, 5)) (hb : M.2.2 b = some (od_ia nb f)) (ha : M.2.2 a = some (od_ia na g)) (e1 : i1 = nI sp) (e2 : i2 = nI dp) (e3 : i3 = nI c) (h1 : sp + c ≤ nb) (h2 : dp + c ≤ na) (hl : nb < 2 ^ 31) (hl2 : na < 2 ^ 31) (hw : (rest.map fun v => v.category).sum ≤ 30)
    (kk : od_W d k (pc + 3) ls rest (od_set M a (od_ia na (va_cpy f g sp dp c))) Q) : od_W d k pc ls (.int i3 :: .int i2 :: .ref a :: .int i1 :: .ref b :: rest) M Q := by
  subst e1
  subst e2
  subst e3
  refine od_wX h ?_
  have p1 : (0 : Int32) ≤ nI sp := nI_pos' (by omega)
  have p2 : (0 : Int32) ≤ nI dp := nI_pos' (by omega)
  have p3 : (0 : Int32) ≤ nI c := nI_pos' (by omega)
  simp only [od_ins, od_inv, hm, od_cpy, hb, ha, ↓reduceIte, nI_clamp (show sp < 2 ^ 31 by omega), nI_clamp (show dp < 2 ^ 31 by omega), nI_clamp (show c < 2 ^ 31 by omega)]
  rw [if_pos ⟨p3, p2, p1, h1, h2, hw⟩]
  exact kk
end CPY
/-- the cells of a part -/
def od_sl (g : Nat → Int32) (a b : Nat) : List Int32 := (List.range (b - a)).map (fun i => g (a + i))
theorem od_sl_len (g : Nat → Int32) (a b : Nat) : (od_sl g a b).length = b - a := by unfold od_sl; rw [List.length_map, List.length_range]
theorem od_cpy_ap (g f : Nat → Int32) (a b n : Nat) : va_cpy g f a n (b - a) = od_ap f n (od_sl g a b) := by
  funext j
  unfold va_cpy od_ap
  rw [od_sl_len]
  by_cases h : n ≤ j ∧ j < n + (b - a)
  · rw [if_pos h, if_pos h]
    unfold od_sl
    rw [List.getD_eq_getElem?_getD, List.getElem?_map, List.getElem?_range (by omega)]
    rfl
  · rw [if_neg h, if_neg h]
/-- two rows apart -/
def od_ap2 (r q : Nat) : Prop := r ≠ q ∧ r ≠ q + 1 ∧ r + 1 ≠ q
theorem nI_subI {a b : Nat} (h : a ≤ b) : nI b - nI a = nI (b - a) := pk_sub h
theorem ct_putPart {M : od_M} {r n q m a b : Nat} {f g : Nat → Int32} (h : od_Rw M r n f) (hq : od_Rw M q m g) (hap : od_ap2 r q) (hab : a < b) (hbm : b ≤ m) : od_W 0 18 0 (od_ent 18 [.ref r, .ref q, .int (nI a), .int (nI b)]) [] M (od_Pt M r n f (od_sl g a b) True) := by
  obtain ⟨r1, r2, r3⟩ := id h
  obtain ⟨q1, q2, q3⟩ := id hq
  have e0 : od_ent 18 [.ref r, .ref q, .int (nI a), .int (nI b)] = [some (.ref r), some (.ref q), some (.int (nI a)), some (.int (nI b))] := rfl
  rw [e0]
  have c1 : od_cond .lt (nI a) 0 = false := decide_eq_false (nI_pos (by omega))
  have c2 : od_cond .ge (nI a) (nI b) = false := decide_eq_false (nI_ge hab (by omega))
  have c3 : od_cond .le (nI b) (nI m) = true := decide_eq_true (nI_le hbm (by omega))
  have e1 : nI n + nI b - nI a = nI (n + (b - a)) := by
    rw [nI_add, nI_subI (by omega)]
    congr 1
    omega
  refine od_W.run 1 rfl ?_
  refine od_r1F rfl (of_decide_eq_true rfl) c1 ?_
  refine od_W.run 2 rfl ?_
  refine od_r2F rfl (of_decide_eq_true rfl) c2 ?_
  refine od_W.run 2 rfl ?_
  refine od_rG rfl q1 rfl rfl ?_
  refine od_r2T rfl rfl c3 ?_
  refine od_W.run 1 rfl ?_
  refine od_rG rfl r1 rfl rfl ?_
  refine od_W.run 5 rfl ?_
  by_cases hn : n + (b - a) ≤ 60
  · have c4 : od_cond .le (nI n + nI b - nI a) 60 = true := by
      rw [e1]
      exact decide_eq_true (nI_le (b := 60) hn (by decide))
    refine od_r2T rfl rfl c4 ?_
    refine od_W.run 1 rfl ?_
    refine od_rG rfl q1 rfl rfl ?_
    refine od_W.run 2 rfl ?_
    refine od_rG rfl r1 rfl rfl ?_
    refine od_W.run 1 rfl ?_
    refine od_rG rfl r1 rfl rfl ?_
    refine od_W.run 3 rfl ?_
    refine od_rCp rfl rfl q2 r2 rfl rfl (nI_subI (by omega)) (by omega) (by omega) (by decide) (by decide) (Nat.le_of_ble_eq_true rfl) ?_
    have r1' : (od_set M (r + 1) (od_ia 60 (va_cpy g f a n (b - a)))).2.2 r = some (od_ob 0 [.ref (r + 1), .int (nI n)]) := by
      show va_up M.2.2 (r + 1) _ r = _
      rw [va_up_ne _ _ (by omega)]
      exact r1
    refine od_W.run 2 rfl ?_
    refine od_rG rfl r1' rfl rfl ?_
    refine od_W.run 4 rfl ?_
    refine od_rP rfl r1' rfl (by simp) rfl (by decide) ?_
    have e2 : nI n + (nI b - nI a) = nI (n + (b - a)) := by rw [nI_subI (by omega), nI_add]
    show od_W 0 18 72 [some (.ref r), some (.ref q), some (.int (nI a)), some (.int (nI b))] [] (od_set (od_set M (r + 1) (od_ia 60 (va_cpy g f a n (b - a)))) r (od_ob 0 [.ref (r + 1), .int (nI n + (nI b - nI a))])) _
    rw [e2, od_cpy_ap]
    refine od_W.fin rfl (Or.inl ⟨trivial, by rw [od_sl_len]; exact hn, rfl, ?_⟩)
    rw [od_sl_len]
    rfl
  · have c4 : od_cond .le (nI n + nI b - nI a) 60 = false := by
      rw [e1]
      exact decide_eq_false (nI_ge (a := 60) (by omega) (by omega))
    refine od_r2F rfl (of_decide_eq_true rfl) c4 ?_
    refine od_rX rfl rfl rfl (Or.inr ⟨fun z => ?_, rfl, n, f, r3, ?_⟩)
    · have := z.2
      rw [od_sl_len] at this
      exact hn this
    · rw [od_wr_id h]
      rfl
/-- nothing is put: the part is empty or no part of the row -/
theorem ct_putPart0 {M : od_M} {r q m : Nat} {g : Nat → Int32} {x y : Int32} (hq : od_Rw M q m g) (hxy : x < 0 ∨ y ≤ x ∨ nI m < y) : od_W 0 18 0 (od_ent 18 [.ref r, .ref q, .int x, .int y]) [] M (fun o M' => o = .inl none ∧ M' = M) := by
  obtain ⟨q1, q2, q3⟩ := id hq
  have e0 : od_ent 18 [.ref r, .ref q, .int x, .int y] = [some (.ref r), some (.ref q), some (.int x), some (.int y)] := rfl
  rw [e0]
  refine od_W.run 1 rfl ?_
  by_cases h1 : x < 0
  · refine od_r1T rfl rfl (decide_eq_true h1) ?_
    exact od_W.fin rfl ⟨rfl, rfl⟩
  · refine od_r1F rfl (of_decide_eq_true rfl) (decide_eq_false h1) ?_
    refine od_W.run 2 rfl ?_
    by_cases h2 : y ≤ x
    · refine od_r2T rfl rfl (decide_eq_true h2) ?_
      exact od_W.fin rfl ⟨rfl, rfl⟩
    · refine od_r2F rfl (of_decide_eq_true rfl) (decide_eq_false h2) ?_
      refine od_W.run 2 rfl ?_
      refine od_rG rfl q1 rfl rfl ?_
      have h3 : ¬ y ≤ nI m := Int32.not_le.mpr ((hxy.resolve_left h1).resolve_left h2)
      refine od_r2F rfl (of_decide_eq_true rfl) (decide_eq_false h3) ?_
      exact od_W.fin rfl ⟨rfl, rfl⟩
theorem ct_clear {M : od_M} {r n : Nat} {f : Nat → Int32} (h : od_Rw M r n f) : od_W 0 12 0 (od_ent 12 [.ref r]) [] M (fun o M' => o = .inl none ∧ M' = od_wr M r 0 f) := by
  have e0 : od_ent 12 [.ref r] = [some (.ref r)] := rfl
  rw [e0]
  refine od_W.run 2 rfl ?_
  refine od_rP rfl h.1 rfl (by simp) rfl (by decide) ?_
  refine od_W.fin rfl ⟨rfl, ?_⟩
  exact od_wr_len (n' := 0) h
theorem ct_isZero {M : od_M} {r n : Nat} {f : Nat → Int32} (h : od_Rw M r n f) : od_W 0 1 0 (od_ent 1 [.ref r]) [] M (fun o M' => o = .inl (some (.int (if n = 0 then 1 else 0))) ∧ M' = M) := by
  have e0 : od_ent 1 [.ref r] = [some (.ref r)] := rfl
  rw [e0]
  have h3 := h.2.2
  refine od_W.run 1 rfl ?_
  refine od_rG rfl h.1 rfl rfl ?_
  by_cases hn : n = 0
  · subst hn
    refine od_r1F rfl (of_decide_eq_true rfl) rfl ?_
    refine od_W.run 2 rfl ?_
    exact od_W.fin rfl ⟨rfl, rfl⟩
  · have c : od_cond .ne (nI n) 0 = true := by
      show (!decide (nI n = 0)) = true
      rw [decide_eq_false (nI_ne0 (by omega) (by omega))]
      rfl
    refine od_r1T rfl rfl c ?_
    refine od_W.run 1 rfl ?_
    rw [if_neg hn]
    exact od_W.fin rfl ⟨rfl, rfl⟩
theorem ct_termsInAll {M : od_M} {r n : Nat} {f : Nat → Int32} (h : od_Rw M r n f) : od_W 0 4 0 (od_ent 4 [.ref r]) [] M (fun o M' => o = .inl (some (.int (nI (n / 3)))) ∧ M' = M) := by
  have e0 : od_ent 4 [.ref r] = [some (.ref r)] := rfl
  rw [e0]
  have h3 := h.2.2
  refine od_W.run 1 rfl ?_
  refine od_rG rfl h.1 rfl rfl ?_
  refine od_W.run 2 rfl ?_
  refine od_W.fin rfl ⟨?_, rfl⟩
  have e1 : nI n / 3 = nI (n / 3) := pk_div (d := 3) (by omega) (by decide) (by decide)
  rw [← e1]
  rfl
theorem ct_isFinite {M : od_M} {r n : Nat} {f : Nat → Int32} (h : od_Rw M r n f) : od_W 0 2 0 (od_ent 2 [.ref r]) [] M (fun o M' => o = .inl (some (.int (if n ≤ 3 then 1 else 0))) ∧ M' = M) := by
  have e0 : od_ent 2 [.ref r] = [some (.ref r)] := rfl
  rw [e0]
  have h3 := h.2.2
  refine od_W.run 1 rfl ?_
  refine od_rG rfl h.1 rfl rfl ?_
  refine od_W.run 1 rfl ?_
  by_cases hn : n ≤ 3
  · refine od_r2F rfl (of_decide_eq_true rfl) (decide_eq_false (nI_nlt (a := 3) hn (by decide))) ?_
    refine od_W.run 2 rfl ?_
    rw [if_pos hn]
    exact od_W.fin rfl ⟨rfl, rfl⟩
  · refine od_r2T rfl rfl (decide_eq_true (nI_lt (a := 3) (by omega) (by omega))) ?_
    refine od_W.run 1 rfl ?_
    rw [if_neg hn]
    exact od_W.fin rfl ⟨rfl, rfl⟩
end
section
/-! Rows of the class: numbers, terms, what a row becomes. -/
theorem od_lc_le (x y : Int64) : od_cond .le (lg_cmp x y) 0 = decide (x ≤ y) := by
  show decide (lg_cmp x y ≤ 0) = decide (x ≤ y)
  by_cases h : x ≤ y
  · rw [decide_eq_true h]
    unfold lg_cmp
    have h1 : ¬ x > y := Int64.not_lt.mpr h
    rw [if_neg h1]
    split <;> rfl
  · rw [decide_eq_false h]
    unfold lg_cmp
    have h1 : x > y := Int64.not_le.mp h
    rw [if_pos h1]
    rfl
theorem od_sl_self (g : Nat → Int32) (a : Nat) : od_sl g a a = [] := by
  unfold od_sl
  rw [Nat.sub_self]
  rfl
theorem od_Pt.re {M : od_M} {r n n0 : Nat} {f f0 : Nat → Int32} {xs : List Int32} {p : Prop} {o : od_O} {M' : od_M} (h : od_Pt (od_wr M r n0 f0) r n f xs p o M') : od_Pt M r n f xs p o M' := by
  rcases h with ⟨h1, h2, h3, h4⟩ | ⟨h1, h2, n', f', h3, h4⟩
  · exact Or.inl ⟨h1, h2, h3, by rw [h4, od_wr_wr]⟩
  · exact Or.inr ⟨h1, h2, n', f', h3, by rw [h4, od_wr_wr]⟩
/-- a method that calls and gives back nothing ends as its callee does -/
theorem od_Pt.pass {d k pc : Nat} {ls : od_L} {rest : List Value} {M : od_M} {r n : Nat} {f : Nat → Int32} {xs : List Int32} {p : Prop} {o : od_O} {M1 : od_M} (h : od_Pt M r n f xs p o M1) (hx : od_hn k pc 2 = some none) (hk : od_W d k (pc + 3) ls rest M1 (od_Pt M r n f xs p) ∨ ∃ (n : Nat) (q : od_O × od_M), od_step k (pc + 3) ls rest M1 = some (.inr (.inr (.inl none, M1)))) : od_K d k pc ls rest (od_Pt M r n f xs p) o M1 := by
  rcases id h with ⟨h1, h2, rfl, h4⟩ | ⟨h1, rfl, h2⟩
  · rcases hk with hk | ⟨_, _, hk⟩
    · exact od_K.ret hk
    · exact od_K.ret (od_W.fin hk h)
  · exact od_K.out hx h
theorem ct_putPartLe {M : od_M} {r n q m a b : Nat} {f g : Nat → Int32} (h : od_Rw M r n f) (hq : od_Rw M q m g) (hap : od_ap2 r q) (hab : a ≤ b) (hbm : b ≤ m) : od_W 0 18 0 (od_ent 18 [.ref r, .ref q, .int (nI a), .int (nI b)]) [] M (od_Pt M r n f (od_sl g a b) True) := by
  by_cases hlt : a < b
  · exact ct_putPart h hq hap hlt hbm
  · have hab2 : a = b := by omega
    subst hab2
    have hm := hq.2.2
    refine (ct_putPart0 hq (Or.inr (Or.inl (Int32.le_refl _)))).mono fun o M' hh => Or.inl ⟨trivial, ?_, hh.1, ?_⟩
    · rw [od_sl_self]
      exact h.2.2
    · rw [hh.2, od_sl_self, od_ap_nil]
      exact (od_wr_id h).symm
theorem ct_putNumber {M : od_M} {r n : Nat} {f : Nat → Int32} {v : Int64} (h : od_Rw M r n f) (hv : ¬ v ≤ 0) : od_W 3 24 0 (od_ent 24 [.ref r, .long v]) [] M (od_Pt M r n f [1, 0, v.toInt32] (v ≤ 1000000)) := by
  have e0 : od_ent 24 [.ref r, .long v] = [some (.ref r), some (.long v), none] := rfl
  rw [e0]
  refine od_W.run 3 rfl ?_
  refine od_r1F rfl (of_decide_eq_true rfl) ((od_lc_le v 0).trans (decide_eq_false hv)) ?_
  refine od_W.run 1 rfl ?_
  refine od_rV (as := []) rfl rfl rfl rfl h.1 rfl (Nat.le_of_ble_eq_true rfl) (Nat.le_of_ble_eq_true rfl) (ct_openTerm h) (Nat.le_of_ble_eq_true rfl) (fun o M1 hq => ?_)
  rcases hq with ⟨-, h2, rfl, rfl⟩ | ⟨h1, rfl, h2⟩
  · refine od_K.ret ?_
    have hR1 := od_wr_Rw M (r := r) (od_ap f n [1]) h2
    refine od_W.run 2 rfl ?_
    refine od_rV (as := [.long v]) rfl rfl rfl rfl hR1.1 rfl (Nat.le_of_ble_eq_true rfl) (Nat.le_of_ble_eq_true rfl) (ct_closeTerm (v := v) hR1) (Nat.le_refl _) (fun o M1 hq => ?_)
    have hq2 : od_Pt M r n f ([1] ++ [0, v.toInt32]) (v ≤ 1000000) o M1 := od_Pt.iff ⟨fun z => z.2, fun z => ⟨trivial, z⟩⟩ (od_Pt.two (p := True) h2 trivial hq)
    rcases id hq with ⟨h1, h2, rfl, h4⟩ | ⟨h1, rfl, h2⟩
    · exact od_K.ret (od_W.fin rfl hq2)
    · exact od_K.out rfl hq2
  · have hq2 : od_Pt M r n f ([1] ++ [0, v.toInt32]) (v ≤ 1000000) (.inr (2, M.1)) M1 := od_Pt.iff ⟨fun z => z.2, fun z => ⟨trivial, z⟩⟩ (od_Pt.no (p := True) (q := v ≤ 1000000) h1 rfl h2)
    exact od_K.out rfl hq2
theorem ct_putNumber0 {M : od_M} {r n : Nat} {f : Nat → Int32} {v : Int64} (h : od_Rw M r n f) (hv : v ≤ 0) : od_W 0 24 0 (od_ent 24 [.ref r, .long v]) [] M (od_Pt M r n f [] True) := by
  have e0 : od_ent 24 [.ref r, .long v] = [some (.ref r), some (.long v), none] := rfl
  rw [e0]
  refine od_W.run 3 rfl ?_
  refine od_r1T rfl rfl ((od_lc_le v 0).trans (decide_eq_true hv)) ?_
  refine od_W.fin rfl (Or.inl ⟨trivial, h.2.2, rfl, ?_⟩)
  rw [od_ap_nil]
  exact (od_wr_id h).symm
theorem ct_becomePart {M : od_M} {r n q m a b : Nat} {f g : Nat → Int32} (h : od_Rw M r n f) (hq : od_Rw M q m g) (hap : od_ap2 r q) (hap' : od_ap2 q r) (hab : a ≤ b) (hbm : b ≤ m) : od_W 1 14 0 (od_ent 14 [.ref r, .ref q, .int (nI a), .int (nI b)]) [] M (od_Pt M r 0 f (od_sl g a b) True) := by
  have e0 : od_ent 14 [.ref r, .ref q, .int (nI a), .int (nI b)] = [some (.ref r), some (.ref q), some (.int (nI a)), some (.int (nI b))] := rfl
  rw [e0]
  refine od_W.run 2 rfl ?_
  refine od_rP rfl h.1 rfl (by simp) rfl (by decide) ?_
  show od_W 1 14 5 [some (.ref r), some (.ref q), some (.int (nI a)), some (.int (nI b))] [] (od_set M r (od_ob 0 [.ref (r + 1), .int (nI 0)])) _
  rw [od_wr_len (n' := 0) h]
  have hR1 := od_wr_Rw M (r := r) (n := 0) f (by omega)
  have hq1 : od_Rw (od_wr M r 0 f) q m g := hq.other hap'.1 hap'.2.1 hap'.2.2
  refine od_W.run 4 rfl ?_
  refine od_rV (as := [.ref q, .int (nI a), .int (nI b)]) rfl rfl rfl rfl hR1.1 rfl (Nat.le_of_ble_eq_true rfl) (Nat.le_of_ble_eq_true rfl) (ct_putPartLe hR1 hq1 hap hab hbm) (Nat.le_refl _) (fun o M1 hh => ?_)
  have hq2 := od_Pt.re hh
  rcases id hh with ⟨h1, h2, rfl, h4⟩ | ⟨h1, rfl, h2⟩
  · exact od_K.ret (od_W.fin rfl hq2)
  · exact od_K.out rfl hq2
theorem ct_become {M : od_M} {r n q m : Nat} {f g : Nat → Int32} (h : od_Rw M r n f) (hq : od_Rw M q m g) (hap : od_ap2 r q) (hap' : od_ap2 q r) : od_W 2 13 0 (od_ent 13 [.ref r, .ref q]) [] M (od_Pt M r 0 f (od_sl g 0 m) True) := by
  have e0 : od_ent 13 [.ref r, .ref q] = [some (.ref r), some (.ref q)] := rfl
  rw [e0]
  refine od_W.run 4 rfl ?_
  refine od_rG rfl hq.1 rfl rfl ?_
  refine od_rV (as := [.ref q, .int (nI 0), .int (nI m)]) rfl rfl rfl rfl h.1 rfl (Nat.le_of_ble_eq_true rfl) (Nat.le_of_ble_eq_true rfl) (ct_becomePart h hq hap hap' (Nat.zero_le m) (Nat.le_refl m)) (Nat.le_refl _) (fun o M1 hh => ?_)
  rcases id hh with ⟨h1, h2, rfl, h4⟩ | ⟨h1, rfl, h2⟩
  · exact od_K.ret (od_W.fin rfl hh)
  · exact od_K.out rfl hh
theorem ct_becomeNumber {M : od_M} {r n : Nat} {f : Nat → Int32} {v : Int32} (h : od_Rw M r n f) (hv : ¬ v.toInt64 ≤ 0) : od_W 4 16 0 (od_ent 16 [.ref r, .int v]) [] M (od_Pt M r 0 f [1, 0, v.toInt64.toInt32] (v.toInt64 ≤ 1000000)) := by
  have e0 : od_ent 16 [.ref r, .int v] = [some (.ref r), some (.int v)] := rfl
  rw [e0]
  refine od_W.run 2 rfl ?_
  refine od_rP rfl h.1 rfl (by simp) rfl (by decide) ?_
  show od_W 4 16 5 [some (.ref r), some (.int v)] [] (od_set M r (od_ob 0 [.ref (r + 1), .int (nI 0)])) _
  rw [od_wr_len (n' := 0) h]
  have hR1 := od_wr_Rw M (r := r) (n := 0) f (by omega)
  refine od_W.run 3 rfl ?_
  refine od_rV (as := [.long v.toInt64]) rfl rfl rfl rfl hR1.1 rfl (Nat.le_of_ble_eq_true rfl) (Nat.le_of_ble_eq_true rfl) (ct_putNumber (v := v.toInt64) hR1 hv) (Nat.le_refl _) (fun o M1 hh => ?_)
  have hq2 := od_Pt.re hh
  rcases id hh with ⟨h1, h2, rfl, h4⟩ | ⟨h1, rfl, h2⟩
  · exact od_K.ret (od_W.fin rfl hq2)
  · exact od_K.out rfl hq2
theorem ct_becomeNumber0 {M : od_M} {r n : Nat} {f : Nat → Int32} {v : Int32} (h : od_Rw M r n f) (hv : v.toInt64 ≤ 0) : od_W 1 16 0 (od_ent 16 [.ref r, .int v]) [] M (od_Pt M r 0 f [] True) := by
  have e0 : od_ent 16 [.ref r, .int v] = [some (.ref r), some (.int v)] := rfl
  rw [e0]
  refine od_W.run 2 rfl ?_
  refine od_rP rfl h.1 rfl (by simp) rfl (by decide) ?_
  show od_W 1 16 5 [some (.ref r), some (.int v)] [] (od_set M r (od_ob 0 [.ref (r + 1), .int (nI 0)])) _
  rw [od_wr_len (n' := 0) h]
  have hR1 := od_wr_Rw M (r := r) (n := 0) f (by omega)
  refine od_W.run 3 rfl ?_
  refine od_rV (as := [.long v.toInt64]) rfl rfl rfl rfl hR1.1 rfl (Nat.le_of_ble_eq_true rfl) (Nat.le_of_ble_eq_true rfl) (ct_putNumber0 (v := v.toInt64) hR1 hv) (Nat.le_refl _) (fun o M1 hh => ?_)
  have hq2 := od_Pt.re hh
  rcases id hh with ⟨h1, h2, rfl, h4⟩ | ⟨h1, rfl, h2⟩
  · exact od_K.ret (od_W.fin rfl hq2)
  · exact od_K.out rfl hq2
end
section
/-! The grammar of a row, as lists of numbers: a scan by depth. -/
def tm_sc : Nat → List Nat → Bool
  | d, [] => d == 0
  | _, [_] => false
  | d, t :: c :: ys => if t = 1 then tm_sc (d + 1) (c :: ys) else (decide (0 < d) && decide (t = 0) && decide (1 ≤ c) && decide (c ≤ 1000000) && tm_sc (d - 1) ys)
def tm_W (xs : List Nat) : Prop := tm_sc 0 xs = true
/-- a coefficient -/
def tm_c (c : Nat) : Prop := 1 ≤ c ∧ c ≤ 1000000
theorem tm_sc_1 (d : Nat) (xs : List Nat) : tm_sc d (1 :: xs) = tm_sc (d + 1) xs := by
  rcases xs with _ | ⟨c, ys⟩
  · rw [tm_sc, tm_sc]
    rfl
  · rw [tm_sc, if_pos rfl]
theorem tm_sc_0 {d c : Nat} {xs : List Nat} (hc : tm_c c) : tm_sc (d + 1) (0 :: c :: xs) = tm_sc d xs := by
  rw [tm_sc, if_neg (by decide)]
  simp [hc.1, hc.2]
theorem tm_sc_inv {d t : Nat} {xs : List Nat} (h : tm_sc d (t :: xs) = true) : (t = 1 ∧ tm_sc (d + 1) xs = true) ∨ (t = 0 ∧ ∃ d' c ys, d = d' + 1 ∧ xs = c :: ys ∧ tm_c c ∧ tm_sc d' ys = true) := by
  rcases xs with _ | ⟨c, ys⟩
  · rw [tm_sc] at h
    cases h
  · by_cases ht : t = 1
    · rw [tm_sc, if_pos ht] at h
      exact Or.inl ⟨ht, h⟩
    · rw [tm_sc, if_neg ht] at h
      simp only [Bool.and_eq_true, decide_eq_true_eq] at h
      obtain ⟨⟨⟨⟨h1, h2⟩, h3⟩, h4⟩, h5⟩ := h
      exact Or.inr ⟨h2, d - 1, c, ys, by omega, rfl, ⟨h3, h4⟩, h5⟩
theorem tm_sc_app : ∀ (n : Nat) (e : List Nat), e.length ≤ n → ∀ (k d : Nat) (r : List Nat), tm_sc k e = true → tm_sc (k + d) (e ++ r) = tm_sc d r := by
  intro n
  induction n with
  | zero =>
    intro e he k d r h
    have : e = [] := List.length_eq_zero_iff.mp (by omega)
    subst this
    simp only [tm_sc, beq_iff_eq] at h
    subst h
    simp
  | succ n ih =>
    intro e he k d r h
    rcases e with _ | ⟨t, xs⟩
    · simp only [tm_sc, beq_iff_eq] at h
      subst h
      simp
    · rcases tm_sc_inv h with ⟨rfl, h1⟩ | ⟨rfl, d', c, ys, rfl, rfl, hc, h1⟩
      · rw [List.cons_append, tm_sc_1, show k + d + 1 = k + 1 + d by omega]
        exact ih xs (by simpa using he) _ _ _ h1
      · rw [show d' + 1 + d = d' + d + 1 by omega, List.cons_append, List.cons_append, tm_sc_0 hc]
        refine ih ys ?_ _ _ _ h1
        simp only [List.length_cons] at he
        omega
theorem tm_app {e r : List Nat} {d : Nat} (h : tm_W e) : tm_sc d (e ++ r) = tm_sc d r := by
  have := tm_sc_app e.length e (Nat.le_refl _) 0 d r h
  rwa [Nat.zero_add] at this
theorem tm_dec : ∀ (n : Nat) (xs : List Nat), xs.length ≤ n → ∀ d, tm_sc (d + 1) xs = true → ∃ e c r, xs = e ++ 0 :: c :: r ∧ tm_W e ∧ tm_c c ∧ tm_sc d r = true := by
  intro n
  induction n with
  | zero =>
    intro xs hx d h
    have : xs = [] := List.length_eq_zero_iff.mp (by omega)
    subst this
    simp [tm_sc] at h
  | succ n ih =>
    intro xs hx d h
    rcases xs with _ | ⟨t, ys⟩
    · simp [tm_sc] at h
    · rcases tm_sc_inv h with ⟨rfl, h1⟩ | ⟨rfl, d', c, zs, hd, rfl, hc, h1⟩
      · obtain ⟨e1, c1, r1, rfl, he1, hc1, hr1⟩ := ih ys (by simpa using hx) _ h1
        obtain ⟨e2, c2, r2, rfl, he2, hc2, hr2⟩ := ih r1 (by simp only [List.length_cons, List.length_append] at hx; omega) _ hr1
        refine ⟨1 :: (e1 ++ 0 :: c1 :: e2), c2, r2, by simp, ?_, hc2, hr2⟩
        unfold tm_W
        rw [tm_sc_1, tm_app he1, tm_sc_0 hc1]
        exact he2
      · have : d' = d := by omega
        subst this
        exact ⟨[], c, zs, rfl, rfl, hc, h1⟩
theorem tm_cases {xs : List Nat} (h : tm_W xs) : xs = [] ∨ ∃ e c r, xs = 1 :: (e ++ 0 :: c :: r) ∧ tm_W e ∧ tm_c c ∧ tm_W r := by
  rcases xs with _ | ⟨t, ys⟩
  · exact Or.inl rfl
  · rcases tm_sc_inv h with ⟨rfl, h1⟩ | ⟨rfl, d', c, zs, hd, _⟩
    · obtain ⟨e, c, r, rfl, h2, h3, h4⟩ := tm_dec _ _ (Nat.le_refl _) _ h1
      exact Or.inr ⟨e, c, r, rfl, h2, h3, h4⟩
    · cases hd
theorem tm_nil : tm_W [] := rfl
theorem tm_cons {e r : List Nat} {c : Nat} (he : tm_W e) (hc : tm_c c) (hr : tm_W r) : tm_W (1 :: (e ++ 0 :: c :: r)) := by
  unfold tm_W
  rw [tm_sc_1, tm_app he, tm_sc_0 hc]
  exact hr
theorem tm_append {e r : List Nat} (he : tm_W e) (hr : tm_W r) : tm_W (e ++ r) := by
  unfold tm_W
  rw [tm_app he]
  exact hr
/-- what follows a whole row within a whole row is whole -/
theorem tm_tail {e r : List Nat} (he : tm_W e) (h : tm_W (e ++ r)) : tm_W r := by
  unfold tm_W at h
  rw [tm_app he] at h
  exact h
/-- terms: an exponent and a coefficient -/
abbrev tm_T : Type := List Nat × Nat
def tm_t (t : tm_T) : List Nat := 1 :: (t.1 ++ [0, t.2])
def tm_fl : List tm_T → List Nat
  | [] => []
  | t :: ts => tm_t t ++ tm_fl ts
def tm_ok (t : tm_T) : Prop := tm_W t.1 ∧ tm_c t.2
def tm_al : List tm_T → Prop
  | [] => True
  | t :: ts => tm_ok t ∧ tm_al ts
theorem tm_t_len (t : tm_T) : (tm_t t).length = t.1.length + 3 := by unfold tm_t; simp
theorem tm_fl_app (a b : List tm_T) : tm_fl (a ++ b) = tm_fl a ++ tm_fl b := by
  induction a with
  | nil => rfl
  | cons t ts ih => rw [List.cons_append, tm_fl, tm_fl, ih, List.append_assoc]
theorem tm_al_app {a b : List tm_T} : tm_al (a ++ b) ↔ tm_al a ∧ tm_al b := by
  induction a with
  | nil => simp [tm_al]
  | cons t ts ih => rw [List.cons_append, tm_al, tm_al, ih, and_assoc]
theorem tm_t_W {t : tm_T} (h : tm_ok t) : tm_W (tm_t t) := tm_cons (r := []) h.1 h.2 tm_nil
theorem tm_fl_W {ts : List tm_T} (h : tm_al ts) : tm_W (tm_fl ts) := by
  induction ts with
  | nil => exact tm_nil
  | cons t ts ih => exact tm_append (tm_t_W h.1) (ih h.2)
theorem tm_fl_len (ts : List tm_T) : 3 * ts.length ≤ (tm_fl ts).length := by
  induction ts with
  | nil => simp
  | cons t ts ih =>
    rw [tm_fl, List.length_append, tm_t_len, List.length_cons]
    omega
theorem tm_ts : ∀ (n : Nat) (xs : List Nat), xs.length ≤ n → tm_W xs → ∃ ts, xs = tm_fl ts ∧ tm_al ts := by
  intro n
  induction n with
  | zero =>
    intro xs hx h
    have : xs = [] := List.length_eq_zero_iff.mp (by omega)
    exact ⟨[], this, trivial⟩
  | succ n ih =>
    intro xs hx h
    rcases tm_cases h with rfl | ⟨e, c, r, rfl, h1, h2, h3⟩
    · exact ⟨[], rfl, trivial⟩
    · obtain ⟨ts, rfl, hts⟩ := ih r (by simp only [List.length_cons, List.length_append] at hx; omega) h3
      refine ⟨(e, c) :: ts, ?_, ⟨h1, h2⟩, hts⟩
      rw [tm_fl, tm_t]
      simp
theorem tm_terms {xs : List Nat} (h : tm_W xs) : ∃ ts, xs = tm_fl ts ∧ tm_al ts := tm_ts _ xs (Nat.le_refl _) h
/-- cells that stand in an array from the place i on -/
def tm_at (f : Nat → Int32) (i : Nat) (xs : List Nat) : Prop := ∀ j, j < xs.length → f (i + j) = nI (xs.getD j 0)
theorem tm_at_nil (f : Nat → Int32) (i : Nat) : tm_at f i [] := fun j h => absurd h (by simp)
theorem tm_at_cons {f : Nat → Int32} {i t : Nat} {xs : List Nat} : tm_at f i (t :: xs) ↔ f i = nI t ∧ tm_at f (i + 1) xs := by
  constructor
  · intro h
    refine ⟨by simpa using h 0 (by simp), fun j hj => ?_⟩
    have := h (j + 1) (by simpa using hj)
    rw [show i + 1 + j = i + (j + 1) by omega, this]
    simp
  · rintro ⟨h1, h2⟩ j hj
    rcases j with _ | j
    · simpa using h1
    · have := h2 j (by simpa using hj)
      rw [show i + (j + 1) = i + 1 + j by omega, this]
      simp
theorem tm_at_app {f : Nat → Int32} {i : Nat} {xs ys : List Nat} : tm_at f i (xs ++ ys) ↔ tm_at f i xs ∧ tm_at f (i + xs.length) ys := by
  induction xs generalizing i with
  | nil => simp [tm_at_nil]
  | cons t xs ih => rw [List.cons_append, tm_at_cons, tm_at_cons, ih, and_assoc, List.length_cons, show i + 1 + xs.length = i + (xs.length + 1) by omega]
end
section
/-! The class's rows as a layer over a memory: S the addresses of rows, ρ what they hold. -/
abbrev od_Rm : Type := Nat → Nat × (Nat → Int32)
def od_cm (S : Nat → Bool) (M : od_M) (ρ : od_Rm) : od_M := (M.1, M.2.1, fun a => if S a = true then some (od_ob 0 [.ref (a + 1), .int (nI (ρ a).1)]) else if S (a - 1) = true then some (od_ia 60 (ρ (a - 1)).2) else M.2.2 a)
def od_SS (S : Nat → Bool) : Prop := ∀ r, S r = true → S (r + 1) = false
def od_no (S : Nat → Bool) (a : Nat) : Prop := S a = false ∧ S (a - 1) = false
def od_Bd (ρ : od_Rm) : Prop := ∀ q, (ρ q).1 ≤ 60
def od_rs (ρ : od_Rm) (r : Nat) (v : Nat × (Nat → Int32)) : od_Rm := fun a => if a = r then v else ρ a
def od_li (p : Nat × (Nat → Int32)) (xs : List Nat) : Prop := p.1 = xs.length ∧ tm_at p.2 0 xs
theorem od_rs_r (ρ : od_Rm) (r : Nat) (v : Nat × (Nat → Int32)) : od_rs ρ r v r = v := if_pos rfl
theorem od_rs_o {ρ : od_Rm} {r q : Nat} {v : Nat × (Nat → Int32)} (h : q ≠ r) : od_rs ρ r v q = ρ q := if_neg h
theorem od_cm_r {S : Nat → Bool} {M : od_M} {ρ : od_Rm} {r : Nat} (h : S r = true) : (od_cm S M ρ).2.2 r = some (od_ob 0 [.ref (r + 1), .int (nI (ρ r).1)]) := if_pos h
theorem od_cm_a {S : Nat → Bool} {M : od_M} {ρ : od_Rm} {r : Nat} (hS : od_SS S) (h : S r = true) : (od_cm S M ρ).2.2 (r + 1) = some (od_ia 60 (ρ r).2) := by
  have h1 : ¬ S (r + 1) = true := by rw [hS r h]; decide
  show (if S (r + 1) = true then _ else if S (r + 1 - 1) = true then _ else _) = _
  rw [if_neg h1, Nat.add_sub_cancel, if_pos h]
theorem od_cm_o {S : Nat → Bool} {M : od_M} {ρ : od_Rm} {a : Nat} {e : Option od_E} (h : od_no S a) (he : M.2.2 a = e) : (od_cm S M ρ).2.2 a = e := by
  have h1 : ¬ S a = true := by rw [h.1]; decide
  have h2 : ¬ S (a - 1) = true := by rw [h.2]; decide
  show (if S a = true then _ else if S (a - 1) = true then _ else _) = _
  rw [if_neg h1, if_neg h2]
  exact he
theorem od_cm_Rw {S : Nat → Bool} {M : od_M} {ρ : od_Rm} {r : Nat} (hS : od_SS S) (h : S r = true) (hb : (ρ r).1 ≤ 60) : od_Rw (od_cm S M ρ) r (ρ r).1 (ρ r).2 := ⟨od_cm_r h, od_cm_a hS h, hb⟩
theorem od_cm_wr {S : Nat → Bool} {M : od_M} {ρ : od_Rm} {r n : Nat} {f : Nat → Int32} (hS : od_SS S) (h : S r = true) : od_wr (od_cm S M ρ) r n f = od_cm S M (od_rs ρ r (n, f)) := by
  refine od_Meq rfl rfl fun a => ?_
  by_cases h1 : a = r
  · subst h1
    rw [od_wr_r, od_cm_r h, od_rs_r]
  · by_cases h2 : a = r + 1
    · subst h2
      rw [od_wr_a, od_cm_a hS h, od_rs_r]
    · rw [od_wr_o _ _ h1 h2]
      show (if S a = true then some (od_ob 0 [.ref (a + 1), .int (nI (ρ a).1)]) else if S (a - 1) = true then some (od_ia 60 (ρ (a - 1)).2) else M.2.2 a) = (if S a = true then some (od_ob 0 [.ref (a + 1), .int (nI (od_rs ρ r (n, f) a).1)]) else if S (a - 1) = true then some (od_ia 60 (od_rs ρ r (n, f) (a - 1)).2) else M.2.2 a)
      rw [od_rs_o h1]
      by_cases h3 : a - 1 = r
      · have h0 : a = 0 := by omega
        subst h0
        exact absurd h3.symm (fun z => h1 (by omega))
      · rw [od_rs_o h3]
theorem od_cm_ap {S : Nat → Bool} {r q : Nat} (hS : od_SS S) (h : S r = true) (h2 : S q = true) (hne : r ≠ q) : od_ap2 r q := by
  refine ⟨hne, fun z => ?_, fun z => ?_⟩
  · subst z
    rw [hS q h2] at h
    cases h
  · subst z
    rw [hS r h] at h2
    cases h2
theorem od_cm_cm (S : Nat → Bool) (M : od_M) (ρ ρ' : od_Rm) : od_cm S (od_cm S M ρ) ρ' = od_cm S M ρ' := by
  refine od_Meq rfl rfl fun a => ?_
  show (if S a = true then _ else if S (a - 1) = true then _ else (if S a = true then _ else if S (a - 1) = true then _ else M.2.2 a)) = (if S a = true then _ else if S (a - 1) = true then _ else M.2.2 a)
  split
  · rfl
  · split <;> rfl
/-- the memory of an exception under the rows -/
theorem od_cm_xm {S : Nat → Bool} {M : od_M} {ρ : od_Rm} {x : Nat} (h : od_no S M.1) : od_xm (od_cm S M ρ) x = od_cm S (od_xm M x) ρ := by
  refine od_Meq rfl rfl fun a => ?_
  show va_up (od_cm S M ρ).2.2 M.1 _ a = (if S a = true then _ else if S (a - 1) = true then _ else va_up M.2.2 M.1 _ a)
  by_cases h1 : a = M.1
  · subst h1
    rw [va_up_self, va_up_self, if_neg (by rw [h.1]; decide), if_neg (by rw [h.2]; decide)]
  · rw [va_up_ne _ _ h1, va_up_ne _ _ h1]
    rfl
theorem od_W.rn {d k : Nat} {Q : od_O → od_M → Prop} (n : Nat) {pc : Nat} {ls : od_L} {st : List Value} {M : od_M} {pc' : Nat} {ls' : od_L} {st' : List Value} (h : od_run n k (pc, ls, st, M) = some (pc', ls', st', M)) (hk : od_W d k pc' ls' st' M Q) : od_W d k pc ls st M Q := od_W.run n h hk
theorem nI_dec (n : Nat) : nI (n + 1) + Int32.ofInt (-1) = nI n := by
  rw [show Int32.ofInt (-1) = -1 from rfl, ← Int32.sub_eq_add_neg]
  exact nI_pred n
section RUL2
variable {d k pc : Nat} {ls : od_L} {st : List Value} {S : Nat → Bool} {M : od_M} {ρ : od_Rm} {Q : od_O → od_M → Prop}
theorem od_gL {ix r n t : Nat} (h : od_cd k pc = some (.getfield ix, 3)) (hf : od_fd (od_ow k) ix = some (0, 1, t)) (hr : S r = true) (hn : (ρ r).1 = n) (kk : od_W d k (pc + 3) ls (.int (nI n) :: st) (od_cm S M ρ) Q) : od_W d k pc ls (.ref r :: st) (od_cm S M ρ) Q := by
  subst hn
  exact od_rG h (od_cm_r hr) hf rfl kk
theorem od_gC {ix r t : Nat} (h : od_cd k pc = some (.getfield ix, 3)) (hf : od_fd (od_ow k) ix = some (0, 0, t)) (hr : S r = true) (kk : od_W d k (pc + 3) ls (.ref (r + 1) :: st) (od_cm S M ρ) Q) : od_W d k pc ls (.ref r :: st) (od_cm S M ρ) Q := od_rG h (od_cm_r hr) hf rfl kk
theorem od_gA {r j : Nat} {i v : Int32} (h : od_cd k pc = some (.iaload, 1)) (hS : od_SS S) (hr : S r = true) (hi : i = nI j) (hj : j < 60) (hv : (ρ r).2 j = v) (kk : od_W d k (pc + 1) ls (.int v :: st) (od_cm S M ρ) Q) : od_W d k pc ls (.int i :: .ref (r + 1) :: st) (od_cm S M ρ) Q := by
  subst hv
  exact od_rIL h (od_cm_a hS hr) hi hj (by decide) kk
end RUL2
section TE
variable {S : Nat → Bool} {M : od_M} {ρ : od_Rm} {Q : od_O → od_M → Prop} {r n : Nat} {s : Int32}
theorem ct_te_1 (hS : od_SS S) (hr : S r = true) (hn : (ρ r).1 = n) (h60 : n ≤ 60) {o i : Nat} (hi : i < n) (hc : (ρ r).2 i = nI 1) (k : od_W 0 9 4 [some (.ref r), some (.int s), some (.int (nI (o + 1))), some (.int (nI (i + 1)))] [] (od_cm S M ρ) Q) : od_W 0 9 4 [some (.ref r), some (.int s), some (.int (nI o)), some (.int (nI i))] [] (od_cm S M ρ) Q := by
  refine od_W.rn (pc' := 6) (ls' := [some (.ref _), some (.int _), some (.int _), some (.int _)]) (st' := [.ref _, .int _]) 2 rfl ?_
  refine od_gL rfl rfl (hr) (hn) ?_
  refine od_r2F rfl (of_decide_eq_true rfl) (decide_eq_false (nI_ge hi (by omega))) ?_
  refine od_W.rn (pc' := 13) (ls' := [some (.ref _), some (.int _), some (.int _), some (.int _)]) (st' := [.ref _]) 1 rfl ?_
  refine od_gC rfl rfl (hr) ?_
  refine od_W.rn (pc' := 17) (ls' := [some (.ref _), some (.int _), some (.int _), some (.int _)]) (st' := [.int _, .ref _]) 1 rfl ?_
  refine od_gA rfl hS (hr) (rfl) ((by omega)) (hc) ?_
  refine od_W.rn (pc' := 19) (ls' := [some (.ref _), some (.int _), some (.int _), some (.int _)]) (st' := [.int _, .int _]) 1 rfl ?_
  refine od_r2F rfl (of_decide_eq_true rfl) (rfl) ?_
  rw [nI_succ, nI_succ] at k
  refine od_W.rn (pc' := 4) (ls' := [some (.ref _), some (.int _), some (.int _), some (.int _)]) (st' := []) 3 rfl ?_
  exact k
theorem ct_te_0 (hS : od_SS S) (hr : S r = true) (hn : (ρ r).1 = n) (h60 : n ≤ 60) {o i : Nat} (hi : i < n) (ho : o < 1000) (hc : (ρ r).2 i = nI 0) (k : od_W 0 9 4 [some (.ref r), some (.int s), some (.int (nI (o + 1))), some (.int (nI (i + 2)))] [] (od_cm S M ρ) Q) : od_W 0 9 4 [some (.ref r), some (.int s), some (.int (nI (o + 2))), some (.int (nI i))] [] (od_cm S M ρ) Q := by
  refine od_W.rn (pc' := 6) (ls' := [some (.ref _), some (.int _), some (.int _), some (.int _)]) (st' := [.ref _, .int _]) 2 rfl ?_
  refine od_gL rfl rfl (hr) (hn) ?_
  refine od_r2F rfl (of_decide_eq_true rfl) (decide_eq_false (nI_ge hi (by omega))) ?_
  refine od_W.rn (pc' := 13) (ls' := [some (.ref _), some (.int _), some (.int _), some (.int _)]) (st' := [.ref _]) 1 rfl ?_
  refine od_gC rfl rfl (hr) ?_
  refine od_W.rn (pc' := 17) (ls' := [some (.ref _), some (.int _), some (.int _), some (.int _)]) (st' := [.int _, .ref _]) 1 rfl ?_
  refine od_gA rfl hS (hr) (rfl) ((by omega)) (hc) ?_
  refine od_W.rn (pc' := 19) (ls' := [some (.ref _), some (.int _), some (.int _), some (.int _)]) (st' := [.int _, .int _]) 1 rfl ?_
  refine od_r2T rfl rfl (rfl) ?_
  refine od_W.rn (pc' := 38) (ls' := [some (.ref _), some (.int _), some (.int _), some (.int _)]) (st' := [.int _]) 3 rfl ?_
  have e1 : nI (o + 2) + Int32.ofInt (-1) = nI (o + 1) := nI_dec (o + 1)
  have e2 : nI i + Int32.ofInt 2 = nI (i + 2) := nI_add i 2
  show od_W 0 9 38 [some (.ref r), some (.int s), some (.int (nI (o + 2) + Int32.ofInt (-1))), some (.int (nI i + Int32.ofInt 2))] [.int (nI (o + 2) + Int32.ofInt (-1))] _ Q
  rw [e1, e2]
  refine od_r1T rfl rfl (decide_eq_true (nI_lt (a := 0) (by omega) (by omega))) ?_
  exact k
theorem ct_te_sc (hS : od_SS S) (hr : S r = true) (hn : (ρ r).1 = n) (h60 : n ≤ 60) : ∀ (m : Nat) (e : List Nat), e.length ≤ m → tm_W e → ∀ (o i : Nat), o + e.length < 1000 → tm_at (ρ r).2 i e → i + e.length ≤ n → od_W 0 9 4 [some (.ref r), some (.int s), some (.int (nI (o + 1))), some (.int (nI (i + e.length)))] [] (od_cm S M ρ) Q → od_W 0 9 4 [some (.ref r), some (.int s), some (.int (nI (o + 1))), some (.int (nI i))] [] (od_cm S M ρ) Q := by
  intro m
  induction m with
  | zero =>
    intro e he _ o i _ _ _ hk
    have : e = [] := List.length_eq_zero_iff.mp (by omega)
    subst this
    exact hk
  | succ m ih =>
    intro e he hW o i ho hat hi hk
    rcases tm_cases hW with rfl | ⟨e1, c, r1, rfl, h1, h2, h3⟩
    · exact hk
    · rw [tm_at_cons, tm_at_app, tm_at_cons, tm_at_cons] at hat
      obtain ⟨a1, a2, a3, a4, a5⟩ := hat
      simp only [List.length_cons, List.length_append] at he ho hi hk
      refine ct_te_1 hS hr hn h60 (by omega) a1 ?_
      refine ih e1 (by omega) h1 (o + 1) (i + 1) (by omega) a2 (by omega) ?_
      refine ct_te_0 hS hr hn h60 (by omega) (by omega) a3 ?_
      refine ih r1 (by omega) h3 o _ (by omega) a5 (by omega) ?_
      rw [show i + 1 + e1.length + 2 + r1.length = i + (e1.length + (r1.length + 1 + 1) + 1) by omega]
      exact hk
theorem ct_termEnd (hS : od_SS S) (hr : S r = true) (hn : (ρ r).1 = n) (h60 : n ≤ 60) {a c : Nat} {e : List Nat} (he : tm_W e) (hat : tm_at (ρ r).2 a (1 :: (e ++ [0, c]))) (hle : a + e.length + 3 ≤ n) : od_W 0 9 0 (od_ent 9 [.ref r, .int (nI a)]) [] (od_cm S M ρ) (fun o M' => o = .inl (some (.int (nI (a + e.length + 3)))) ∧ M' = od_cm S M ρ) := by
  have e0 : od_ent 9 [.ref r, .int (nI a)] = [some (.ref r), some (.int (nI a)), none, none] := rfl
  rw [e0]
  rw [tm_at_cons, tm_at_app, tm_at_cons] at hat
  obtain ⟨a1, a2, a3, -⟩ := hat
  refine od_W.rn (pc' := 4) (ls' := [some (.ref _), some (.int _), some (.int _), some (.int _)]) (st' := []) 4 rfl ?_
  refine ct_te_1 (o := 0) hS hr hn h60 (by omega) a1 ?_
  refine ct_te_sc hS hr hn h60 e.length e (Nat.le_refl _) he 0 (a + 1) (by omega) a2 (by omega) ?_
  refine od_W.rn (pc' := 6) (ls' := [some (.ref _), some (.int _), some (.int _), some (.int _)]) (st' := [.ref _, .int _]) 2 rfl ?_
  refine od_gL rfl rfl (hr) (hn) ?_
  refine od_r2F rfl (of_decide_eq_true rfl) (decide_eq_false (nI_ge (by omega) (by omega))) ?_
  refine od_W.rn (pc' := 13) (ls' := [some (.ref _), some (.int _), some (.int _), some (.int _)]) (st' := [.ref _]) 1 rfl ?_
  refine od_gC rfl rfl (hr) ?_
  refine od_W.rn (pc' := 17) (ls' := [some (.ref _), some (.int _), some (.int _), some (.int _)]) (st' := [.int _, .ref _]) 1 rfl ?_
  refine od_gA rfl hS (hr) (rfl) ((by omega)) (a3) ?_
  refine od_W.rn (pc' := 19) (ls' := [some (.ref _), some (.int _), some (.int _), some (.int _)]) (st' := [.int _, .int _]) 1 rfl ?_
  refine od_r2T rfl rfl (rfl) ?_
  refine od_W.rn (pc' := 38) (ls' := [some (.ref _), some (.int _), some (.int _), some (.int _)]) (st' := [.int _]) 3 rfl ?_
  refine od_r1F rfl (of_decide_eq_true rfl) (rfl) ?_
  refine od_W.rn (pc' := 42) (ls' := [some (.ref _), some (.int _), some (.int _), some (.int _)]) (st' := [.int _]) 1 rfl ?_
  refine od_W.fin rfl ?_
  refine ⟨?_, rfl⟩
  have e2 : nI (a + 1 + e.length) + Int32.ofInt 2 = nI (a + e.length + 3) := by
    rw [show a + e.length + 3 = a + 1 + e.length + 2 by omega]
    exact nI_add _ 2
  rw [← e2]
end TE
end
section
/-! Reading rows: last terms, kinds, coefficients, the order. -/
theorem tm_sc_le : ∀ (n : Nat) (xs : List Nat), xs.length ≤ n → ∀ d, tm_sc d xs = true → ∀ x ∈ xs, x ≤ 1000000 := by
  intro n
  induction n with
  | zero =>
    intro xs hx d h x hm
    have : xs = [] := List.length_eq_zero_iff.mp (by omega)
    subst this
    cases hm
  | succ n ih =>
    intro xs hx d h x hm
    rcases xs with _ | ⟨t, ys⟩
    · cases hm
    · rcases tm_sc_inv h with ⟨rfl, h1⟩ | ⟨rfl, d', c, zs, rfl, rfl, hc, h1⟩
      · rcases List.mem_cons.mp hm with rfl | hm
        · omega
        · exact ih ys (by simpa using hx) _ h1 x hm
      · rcases List.mem_cons.mp hm with rfl | hm
        · omega
        · rcases List.mem_cons.mp hm with rfl | hm
          · exact hc.2
          · exact ih zs (by simp only [List.length_cons] at hx; omega) _ h1 x hm
/-- cells that are numbers of a row -/
def tm_sm (xs : List Nat) : Prop := ∀ x ∈ xs, x ≤ 1000000
theorem tm_W.sm {xs : List Nat} (h : tm_W xs) : tm_sm xs := tm_sc_le _ xs (Nat.le_refl _) 0 h
theorem tm_sm_cons {x : Nat} {xs : List Nat} : tm_sm (x :: xs) ↔ x ≤ 1000000 ∧ tm_sm xs := by unfold tm_sm; simp
theorem tm_sm_app {xs ys : List Nat} : tm_sm (xs ++ ys) ↔ tm_sm xs ∧ tm_sm ys := by
  unfold tm_sm
  constructor
  · intro h
    exact ⟨fun x hx => h x (List.mem_append_left _ hx), fun x hx => h x (List.mem_append_right _ hx)⟩
  · rintro ⟨h1, h2⟩ x hx
    rcases List.mem_append.mp hx with h | h
    · exact h1 x h
    · exact h2 x h
/-- the order of rows -/
def tm_cmp : List Nat → List Nat → Int32
  | [], [] => 0
  | [], _ :: _ => -1
  | _ :: _, [] => 1
  | a :: x, b :: y => if a < b then -1 else if b < a then 1 else tm_cmp x y
section LT
variable {S : Nat → Bool} {M : od_M} {ρ : od_Rm} {Q : od_O → od_M → Prop} {r n : Nat} {s t l : Int32}
theorem ct_lt_1 (hS : od_SS S) (hr : S r = true) {o i m : Nat} (h60 : m ≤ 60) (ho : o < 1000) (hi : i < m) (hc : (ρ r).2 i = nI 1) (k : od_W 0 10 8 [some (.ref r), some (.int s), some (.int (nI m)), some (.int l), some (.int (nI (o + 2))), some (.int (nI (i + 1)))] [] (od_cm S M ρ) Q) : od_W 0 10 8 [some (.ref r), some (.int s), some (.int (nI m)), some (.int l), some (.int (nI (o + 1))), some (.int (nI i))] [] (od_cm S M ρ) Q := by
  refine od_W.rn (pc' := 11) (ls' := [some (.ref _), some (.int _), some (.int _), some (.int _), some (.int _), some (.int _)]) (st' := [.int _, .int _]) 2 rfl ?_
  refine od_r2F rfl (of_decide_eq_true rfl) (decide_eq_false (nI_ge hi (by omega))) ?_
  refine od_W.rn (pc' := 15) (ls' := [some (.ref _), some (.int _), some (.int _), some (.int _), some (.int _), some (.int _)]) (st' := [.ref _]) 1 rfl ?_
  refine od_gC rfl rfl (hr) ?_
  refine od_W.rn (pc' := 20) (ls' := [some (.ref _), some (.int _), some (.int _), some (.int _), some (.int _), some (.int _)]) (st' := [.int _, .ref _]) 1 rfl ?_
  refine od_gA rfl hS (hr) (rfl) ((by omega)) (hc) ?_
  refine od_W.rn (pc' := 22) (ls' := [some (.ref _), some (.int _), some (.int _), some (.int _), some (.int _), some (.int _)]) (st' := [.int _, .int _]) 1 rfl ?_
  refine od_r2F rfl (of_decide_eq_true rfl) (rfl) ?_
  have c1 : od_cond .ne (nI (o + 1)) 0 = true := by
    show (!decide (nI (o + 1) = 0)) = true
    rw [decide_eq_false (nI_ne0 (by omega) (by omega))]
    rfl
  refine od_W.rn (pc' := 27) (ls' := [some (.ref _), some (.int _), some (.int _), some (.int _), some (.int _), some (.int _)]) (st' := [.int _]) 1 rfl ?_
  refine od_r1T rfl rfl (c1) ?_
  rw [nI_succ, nI_succ] at k
  refine od_W.rn (pc' := 8) (ls' := [some (.ref _), some (.int _), some (.int _), some (.int _), some (.int _), some (.int _)]) (st' := []) 3 rfl ?_
  rw [nI_succ]
  rw [nI_succ] at k
  exact k
theorem ct_lt_b (hS : od_SS S) (hr : S r = true) {i m : Nat} (h60 : m ≤ 60) (hi : i < m) (hc : (ρ r).2 i = nI 1) (k : od_W 0 10 8 [some (.ref r), some (.int s), some (.int (nI m)), some (.int (nI i)), some (.int (nI 1)), some (.int (nI (i + 1)))] [] (od_cm S M ρ) Q) : od_W 0 10 8 [some (.ref r), some (.int s), some (.int (nI m)), some (.int l), some (.int (nI 0)), some (.int (nI i))] [] (od_cm S M ρ) Q := by
  refine od_W.rn (pc' := 11) (ls' := [some (.ref _), some (.int _), some (.int _), some (.int _), some (.int _), some (.int _)]) (st' := [.int _, .int _]) 2 rfl ?_
  refine od_r2F rfl (of_decide_eq_true rfl) (decide_eq_false (nI_ge hi (by omega))) ?_
  refine od_W.rn (pc' := 15) (ls' := [some (.ref _), some (.int _), some (.int _), some (.int _), some (.int _), some (.int _)]) (st' := [.ref _]) 1 rfl ?_
  refine od_gC rfl rfl (hr) ?_
  refine od_W.rn (pc' := 20) (ls' := [some (.ref _), some (.int _), some (.int _), some (.int _), some (.int _), some (.int _)]) (st' := [.int _, .ref _]) 1 rfl ?_
  refine od_gA rfl hS (hr) (rfl) ((by omega)) (hc) ?_
  refine od_W.rn (pc' := 22) (ls' := [some (.ref _), some (.int _), some (.int _), some (.int _), some (.int _), some (.int _)]) (st' := [.int _, .int _]) 1 rfl ?_
  refine od_r2F rfl (of_decide_eq_true rfl) (rfl) ?_
  refine od_W.rn (pc' := 27) (ls' := [some (.ref _), some (.int _), some (.int _), some (.int _), some (.int _), some (.int _)]) (st' := [.int _]) 1 rfl ?_
  refine od_r1F rfl (of_decide_eq_true rfl) (rfl) ?_
  rw [nI_succ i] at k
  refine od_W.rn (pc' := 8) (ls' := [some (.ref _), some (.int _), some (.int _), some (.int _), some (.int _), some (.int _)]) (st' := []) 5 rfl ?_
  exact k
theorem ct_lt_0 (hS : od_SS S) (hr : S r = true) {o i m : Nat} (h60 : m ≤ 60) (ho : o < 1000) (hi : i < m) (hc : (ρ r).2 i = nI 0) (k : od_W 0 10 8 [some (.ref r), some (.int s), some (.int (nI m)), some (.int l), some (.int (nI o)), some (.int (nI (i + 2)))] [] (od_cm S M ρ) Q) : od_W 0 10 8 [some (.ref r), some (.int s), some (.int (nI m)), some (.int l), some (.int (nI (o + 1))), some (.int (nI i))] [] (od_cm S M ρ) Q := by
  refine od_W.rn (pc' := 11) (ls' := [some (.ref _), some (.int _), some (.int _), some (.int _), some (.int _), some (.int _)]) (st' := [.int _, .int _]) 2 rfl ?_
  refine od_r2F rfl (of_decide_eq_true rfl) (decide_eq_false (nI_ge hi (by omega))) ?_
  refine od_W.rn (pc' := 15) (ls' := [some (.ref _), some (.int _), some (.int _), some (.int _), some (.int _), some (.int _)]) (st' := [.ref _]) 1 rfl ?_
  refine od_gC rfl rfl (hr) ?_
  refine od_W.rn (pc' := 20) (ls' := [some (.ref _), some (.int _), some (.int _), some (.int _), some (.int _), some (.int _)]) (st' := [.int _, .ref _]) 1 rfl ?_
  refine od_gA rfl hS (hr) (rfl) ((by omega)) (hc) ?_
  refine od_W.rn (pc' := 22) (ls' := [some (.ref _), some (.int _), some (.int _), some (.int _), some (.int _), some (.int _)]) (st' := [.int _, .int _]) 1 rfl ?_
  refine od_r2T rfl rfl (rfl) ?_
  have e2 : nI i + Int32.ofInt 2 = nI (i + 2) := nI_add i 2
  rw [← e2, ← nI_dec o] at k
  refine od_W.rn (pc' := 8) (ls' := [some (.ref _), some (.int _), some (.int _), some (.int _), some (.int _), some (.int _)]) (st' := []) 3 rfl ?_
  exact k
theorem ct_lt_sc (hS : od_SS S) (hr : S r = true) {m : Nat} (h60 : m ≤ 60) : ∀ (z : Nat) (e : List Nat), e.length ≤ z → tm_W e → ∀ (o i : Nat), o + e.length < 1000 → tm_at (ρ r).2 i e → i + e.length ≤ m → od_W 0 10 8 [some (.ref r), some (.int s), some (.int (nI m)), some (.int l), some (.int (nI (o + 1))), some (.int (nI (i + e.length)))] [] (od_cm S M ρ) Q → od_W 0 10 8 [some (.ref r), some (.int s), some (.int (nI m)), some (.int l), some (.int (nI (o + 1))), some (.int (nI i))] [] (od_cm S M ρ) Q := by
  intro z
  induction z with
  | zero =>
    intro e he _ o i _ _ _ hk
    have : e = [] := List.length_eq_zero_iff.mp (by omega)
    subst this
    exact hk
  | succ z ih =>
    intro e he hW o i ho hat hi hk
    rcases tm_cases hW with rfl | ⟨e1, c, r1, rfl, h1, h2, h3⟩
    · exact hk
    · rw [tm_at_cons, tm_at_app, tm_at_cons, tm_at_cons] at hat
      obtain ⟨a1, a2, a3, a4, a5⟩ := hat
      simp only [List.length_cons, List.length_append] at he ho hi hk
      refine ct_lt_1 hS hr h60 (by omega) (by omega) a1 ?_
      refine ih e1 (by omega) h1 (o + 1) (i + 1) (by omega) a2 (by omega) ?_
      refine ct_lt_0 hS hr h60 (by omega) (by omega) a3 ?_
      refine ih r1 (by omega) h3 o _ (by omega) a5 (by omega) ?_
      rw [show i + 1 + e1.length + 2 + r1.length = i + (e1.length + (r1.length + 1 + 1) + 1) by omega]
      exact hk
theorem ct_lt_t (hS : od_SS S) (hr : S r = true) {m i : Nat} (h60 : m ≤ 60) {t : tm_T} (ht : tm_ok t) (hat : tm_at (ρ r).2 i (tm_t t)) (hi : i + (tm_t t).length ≤ m) (hk : od_W 0 10 8 [some (.ref r), some (.int s), some (.int (nI m)), some (.int (nI i)), some (.int (nI 0)), some (.int (nI (i + (tm_t t).length)))] [] (od_cm S M ρ) Q) : od_W 0 10 8 [some (.ref r), some (.int s), some (.int (nI m)), some (.int l), some (.int (nI 0)), some (.int (nI i))] [] (od_cm S M ρ) Q := by
  unfold tm_t at hat
  rw [tm_at_cons, tm_at_app, tm_at_cons] at hat
  obtain ⟨a1, a2, a3, -⟩ := hat
  rw [tm_t_len] at hi hk
  refine ct_lt_b hS hr h60 (by omega) a1 ?_
  refine ct_lt_sc hS hr h60 _ t.1 (Nat.le_refl _) ht.1 0 (i + 1) (by omega) a2 (by omega) ?_
  refine ct_lt_0 hS hr h60 (by omega) (by omega) a3 ?_
  rw [show i + 1 + t.1.length + 2 = i + (t.1.length + 3) by omega]
  exact hk
theorem ct_lt_ts (hS : od_SS S) (hr : S r = true) {m : Nat} (h60 : m ≤ 60) : ∀ (ts : List tm_T) (i : Nat) (l : Int32) (t : tm_T), tm_al ts → tm_ok t → tm_at (ρ r).2 i (tm_fl ts ++ tm_t t) → i + (tm_fl ts ++ tm_t t).length = m → (∀ l', od_W 0 10 8 [some (.ref r), some (.int s), some (.int (nI m)), some (.int (nI (i + (tm_fl ts).length))), some (.int (nI 0)), some (.int (nI m))] [] (od_cm S M ρ) Q → od_W 0 10 8 [some (.ref r), some (.int s), some (.int (nI m)), some (.int l'), some (.int (nI 0)), some (.int (nI i))] [] (od_cm S M ρ) Q) := by
  intro ts
  induction ts with
  | nil =>
    intro i l t _ ht hat hm l' hk
    rw [tm_fl, List.nil_append] at hat hm
    rw [tm_fl] at hk
    refine ct_lt_t hS hr h60 ht hat (by omega) ?_
    rw [hm]
    exact hk
  | cons u ts ih =>
    intro i l t hal ht hat hm l' hk
    rw [tm_fl, List.append_assoc] at hat hm
    rw [tm_at_app] at hat
    rw [List.length_append] at hm
    refine ct_lt_t hS hr h60 hal.1 hat.1 (by omega) ?_
    refine ih (i + (tm_t u).length) l t hal.2 ht hat.2 (by omega) _ ?_
    rw [tm_fl, List.length_append] at hk
    rw [Nat.add_assoc]
    exact hk
theorem ct_lastTerm (hS : od_SS S) (hr : S r = true) {a m : Nat} (h60 : m ≤ 60) {ts : List tm_T} {t : tm_T} (hal : tm_al ts) (ht : tm_ok t) (hat : tm_at (ρ r).2 a (tm_fl ts ++ tm_t t)) (hm : a + (tm_fl ts ++ tm_t t).length = m) : od_W 0 10 0 (od_ent 10 [.ref r, .int (nI a), .int (nI m)]) [] (od_cm S M ρ) (fun o M' => o = .inl (some (.int (nI (a + (tm_fl ts).length)))) ∧ M' = od_cm S M ρ) := by
  have e0 : od_ent 10 [.ref r, .int (nI a), .int (nI m)] = [some (.ref r), some (.int (nI a)), some (.int (nI m)), none, none, none] := rfl
  rw [e0]
  refine od_W.rn (pc' := 8) (ls' := [some (.ref _), some (.int _), some (.int _), some (.int _), some (.int _), some (.int _)]) (st' := []) 6 rfl ?_
  refine ct_lt_ts hS hr h60 ts a 0 t hal ht hat hm _ ?_
  refine od_W.rn (pc' := 11) (ls' := [some (.ref _), some (.int _), some (.int _), some (.int _), some (.int _), some (.int _)]) (st' := [.int _, .int _]) 2 rfl ?_
  refine od_r2T rfl rfl (decide_eq_true (Int32.le_refl _)) ?_
  refine od_W.rn (pc' := 52) (ls' := [some (.ref _), some (.int _), some (.int _), some (.int _), some (.int _), some (.int _)]) (st' := [.int _]) 1 rfl ?_
  refine od_W.fin rfl ?_
  exact ⟨rfl, rfl⟩
/-- whether a part ends in a number -/
theorem ct_endsInNumber (hS : od_SS S) (hr : S r = true) {a m : Nat} (h60 : m ≤ 60) {ts : List tm_T} {t : tm_T} (hal : tm_al ts) (ht : tm_ok t) (hat : tm_at (ρ r).2 a (tm_fl ts ++ tm_t t)) (hm : a + (tm_fl ts ++ tm_t t).length = m) : od_W 1 6 0 (od_ent 6 [.ref r, .int (nI a), .int (nI m)]) [] (od_cm S M ρ) (fun o M' => o = .inl (some (.int (if t.1 = [] then 1 else 0))) ∧ M' = od_cm S M ρ) := by
  have e0 : od_ent 6 [.ref r, .int (nI a), .int (nI m)] = [some (.ref r), some (.int (nI a)), some (.int (nI m))] := rfl
  rw [e0]
  have hl : (tm_fl ts ++ tm_t t).length = (tm_fl ts).length + (t.1.length + 3) := by rw [List.length_append, tm_t_len]
  refine od_W.rn (pc' := 2) (ls' := [some (.ref _), some (.int _), some (.int _)]) (st' := [.int _, .int _]) 2 rfl ?_
  refine od_r2F rfl (of_decide_eq_true rfl) (decide_eq_false (nI_ge (by omega) (by omega))) ?_
  refine od_W.rn (pc' := 8) (ls' := [some (.ref _), some (.int _), some (.int _)]) (st' := [.int _, .int _, .ref _]) 3 rfl ?_
  refine od_rV (as := [.int (nI a), .int (nI m)]) rfl rfl rfl rfl (od_cm_r hr) rfl (Nat.le_of_ble_eq_true rfl) (Nat.le_of_ble_eq_true rfl) (ct_lastTerm hS hr h60 hal ht hat hm) (Nat.le_of_ble_eq_true rfl) (fun o M1 hq => ?_)
  obtain ⟨rfl, rfl⟩ := hq
  refine od_K.ret ?_
  refine od_W.rn (pc' := 14) (ls' := [some (.ref _), some (.int _), some (.int _)]) (st' := [.int _, .int _]) 3 rfl ?_
  have e1 : nI m - 3 = nI (m - 3) := nI_subI (a := 3) (by omega)
  rw [show (3 : Int32) = 3 from rfl] at e1
  show od_W 1 6 14 [some (.ref r), some (.int (nI a)), some (.int (nI m))] [.int (nI m - 3), .int (nI (a + (tm_fl ts).length))] _ _
  rw [e1]
  by_cases ht0 : t.1 = []
  · have c1 : od_cond .ne (nI (a + (tm_fl ts).length)) (nI (m - 3)) = false := by
      have : a + (tm_fl ts).length = m - 3 := by rw [ht0] at hl; simp only [List.length_nil] at hl; omega
      rw [this]
      show (!decide (nI (m - 3) = nI (m - 3))) = false
      rw [decide_eq_true rfl]
      rfl
    refine od_r2F rfl (of_decide_eq_true rfl) (c1) ?_
    refine od_W.rn (pc' := 22) (ls' := [some (.ref _), some (.int _), some (.int _)]) (st' := [.int _]) 2 rfl ?_
    refine od_W.fin rfl ?_
    rw [if_pos ht0]
    exact ⟨rfl, rfl⟩
  · have c1 : od_cond .ne (nI (a + (tm_fl ts).length)) (nI (m - 3)) = true := by
      have : a + (tm_fl ts).length ≠ m - 3 := by
        have := List.length_pos_iff.mpr ht0
        omega
      show (!decide (nI (a + (tm_fl ts).length) = nI (m - 3))) = true
      rw [decide_eq_false (fun z => this ((nI_eq (by omega) (by omega)).mp z))]
      rfl
    refine od_r2T rfl rfl (c1) ?_
    refine od_W.rn (pc' := 22) (ls' := [some (.ref _), some (.int _), some (.int _)]) (st' := [.int _]) 1 rfl ?_
    refine od_W.fin rfl ?_
    rw [if_neg ht0]
    exact ⟨rfl, rfl⟩
theorem ct_endsInNumber0 (hr : S r = true) {a : Nat} : od_W 0 6 0 (od_ent 6 [.ref r, .int (nI a), .int (nI a)]) [] (od_cm S M ρ) (fun o M' => o = .inl (some (.int 0)) ∧ M' = od_cm S M ρ) := by
  have e0 : od_ent 6 [.ref r, .int (nI a), .int (nI a)] = [some (.ref r), some (.int (nI a)), some (.int (nI a))] := rfl
  rw [e0]
  refine od_W.rn (pc' := 2) (ls' := [some (.ref _), some (.int _), some (.int _)]) (st' := [.int _, .int _]) 2 rfl ?_
  refine od_r2T rfl rfl (decide_eq_true (Int32.le_refl _)) ?_
  refine od_W.rn (pc' := 22) (ls' := [some (.ref _), some (.int _), some (.int _)]) (st' := [.int _]) 1 rfl ?_
  refine od_W.fin rfl ?_
  exact ⟨rfl, rfl⟩
theorem ct_coefficient (hS : od_SS S) (hr : S r = true) (hn : (ρ r).1 = n) (h60 : n ≤ 60) {e c : Nat} (he : e < n) (hc : (ρ r).2 e = nI c) : od_W 0 8 0 (od_ent 8 [.ref r, .int (nI (e + 1))]) [] (od_cm S M ρ) (fun o M' => o = .inl (some (.int (nI c))) ∧ M' = od_cm S M ρ) := by
  have e0 : od_ent 8 [.ref r, .int (nI (e + 1))] = [some (.ref r), some (.int (nI (e + 1)))] := rfl
  rw [e0]
  refine od_W.rn (pc' := 2) (ls' := [some (.ref _), some (.int _)]) (st' := [.int _, .int _]) 2 rfl ?_
  refine od_r2F rfl (of_decide_eq_true rfl) (decide_eq_false (nI_nlt (b := 1) (by omega) (by omega))) ?_
  refine od_W.rn (pc' := 7) (ls' := [some (.ref _), some (.int _)]) (st' := [.ref _, .int _]) 2 rfl ?_
  refine od_gL rfl rfl (hr) (hn) ?_
  refine od_r2T rfl rfl (decide_eq_true (nI_le (by omega) (by omega))) ?_
  refine od_W.rn (pc' := 18) (ls' := [some (.ref _), some (.int _)]) (st' := [.ref _]) 1 rfl ?_
  refine od_gC rfl rfl (hr) ?_
  refine od_W.rn (pc' := 24) (ls' := [some (.ref _), some (.int _)]) (st' := [.int _, .ref _]) 3 rfl ?_
  refine od_gA rfl hS (hr) (nI_pred e) ((by omega)) (hc) ?_
  refine od_W.fin rfl ?_
  exact ⟨rfl, rfl⟩
end LT
/-- the kind of an ordinal: 0, successor, limit; its finite part -/
def tm_k (ts : List tm_T) : Nat := match ts.getLast? with
  | none => 0
  | some t => if t.1 = [] then 1 else 2
def tm_n (ts : List tm_T) : Nat := match ts.getLast? with
  | none => 0
  | some t => if t.1 = [] then t.2 else 0
theorem tm_snoc (ts : List tm_T) : ts = [] ∨ ∃ us t, ts = us ++ [t] := by
  rcases List.eq_nil_or_concat ts with h | ⟨us, t, h⟩
  · exact Or.inl h
  · exact Or.inr ⟨us, t, by rw [h, List.concat_eq_append]⟩
theorem tm_fl_snoc (us : List tm_T) (t : tm_T) : tm_fl (us ++ [t]) = tm_fl us ++ tm_t t := by rw [tm_fl_app, tm_fl, tm_fl, List.append_nil]
theorem tm_k_snoc (us : List tm_T) (t : tm_T) : tm_k (us ++ [t]) = if t.1 = [] then 1 else 2 := by unfold tm_k; rw [List.getLast?_concat]
theorem tm_n_snoc (us : List tm_T) (t : tm_T) : tm_n (us ++ [t]) = if t.1 = [] then t.2 else 0 := by unfold tm_n; rw [List.getLast?_concat]
section SO
variable {S : Nat → Bool} {M : od_M} {ρ : od_Rm} {r : Nat}
theorem ct_sort (hS : od_SS S) (hr : S r = true) (hb : (ρ r).1 ≤ 60) {ts : List tm_T} (hal : tm_al ts) (hl : od_li (ρ r) (tm_fl ts)) : od_W 2 5 0 (od_ent 5 [.ref r]) [] (od_cm S M ρ) (fun o M' => o = .inl (some (.int (nI (tm_k ts)))) ∧ M' = od_cm S M ρ) := by
  have e0 : od_ent 5 [.ref r] = [some (.ref r)] := rfl
  rw [e0]
  obtain ⟨hn, hat⟩ := hl
  refine od_W.rn (pc' := 1) (ls' := [some (.ref _)]) (st' := [.ref _]) 1 rfl ?_
  refine od_gL rfl rfl (hr) (hn) ?_
  rcases tm_snoc ts with rfl | ⟨us, t, rfl⟩
  · refine od_r1F rfl (of_decide_eq_true rfl) (rfl) ?_
    refine od_W.rn (pc' := 8) (ls' := [some (.ref _)]) (st' := [.int _]) 1 rfl ?_
    refine od_W.fin rfl ?_
    exact ⟨rfl, rfl⟩
  · rw [tm_fl_snoc] at hn hat ⊢
    rw [tm_al_app] at hal
    have hl2 : (tm_fl us ++ tm_t t).length = (tm_fl us).length + (t.1.length + 3) := by rw [List.length_append, tm_t_len]
    have c1 : od_cond .ne (nI (tm_fl us ++ tm_t t).length) 0 = true := by
      show (!decide (nI (tm_fl us ++ tm_t t).length = 0)) = true
      rw [decide_eq_false (nI_ne0 (by omega) (by omega))]
      rfl
    refine od_r1T rfl rfl (c1) ?_
    refine od_W.rn (pc' := 12) (ls' := [some (.ref _)]) (st' := [.ref _, .int _, .ref _]) 3 rfl ?_
    refine od_gL rfl rfl (hr) (hn) ?_
    refine od_rV (as := [.int (nI 0), .int (nI (tm_fl us ++ tm_t t).length)]) rfl rfl rfl rfl (od_cm_r hr) rfl (Nat.le_of_ble_eq_true rfl) (Nat.le_of_ble_eq_true rfl) (ct_endsInNumber hS hr (by omega) hal.1 hal.2.1 hat (by omega)) (Nat.le_of_ble_eq_true rfl) (fun o M1 hq => ?_)
    obtain ⟨rfl, rfl⟩ := hq
    refine od_K.ret ?_
    rw [tm_k_snoc]
    by_cases ht0 : t.1 = []
    · rw [if_pos ht0, if_pos ht0]
      refine od_r1F rfl (of_decide_eq_true rfl) (rfl) ?_
      refine od_W.rn (pc' := 26) (ls' := [some (.ref _)]) (st' := [.int _]) 2 rfl ?_
      refine od_W.fin rfl ?_
      exact ⟨rfl, rfl⟩
    · rw [if_neg ht0, if_neg ht0]
      refine od_r1T rfl rfl (rfl) ?_
      refine od_W.rn (pc' := 26) (ls' := [some (.ref _)]) (st' := [.int _]) 1 rfl ?_
      refine od_W.fin rfl ?_
      exact ⟨rfl, rfl⟩
theorem ct_finitePart (hS : od_SS S) (hr : S r = true) (hb : (ρ r).1 ≤ 60) {ts : List tm_T} (hal : tm_al ts) (hl : od_li (ρ r) (tm_fl ts)) : od_W 2 7 0 (od_ent 7 [.ref r]) [] (od_cm S M ρ) (fun o M' => o = .inl (some (.int (nI (tm_n ts)))) ∧ M' = od_cm S M ρ) := by
  have e0 : od_ent 7 [.ref r] = [some (.ref r)] := rfl
  rw [e0]
  obtain ⟨hn, hat⟩ := hl
  refine od_W.rn (pc' := 3) (ls' := [some (.ref _)]) (st' := [.ref _, .int _, .ref _]) 3 rfl ?_
  refine od_gL rfl rfl (hr) (hn) ?_
  rcases tm_snoc ts with rfl | ⟨us, t, rfl⟩
  · refine od_rV (as := [.int (nI 0), .int (nI 0)]) rfl rfl rfl rfl (od_cm_r hr) rfl (Nat.le_of_ble_eq_true rfl) (Nat.le_of_ble_eq_true rfl) (ct_endsInNumber0 hr) (Nat.le_of_ble_eq_true rfl) (fun o M1 hq => ?_)
    obtain ⟨rfl, rfl⟩ := hq
    refine od_K.ret ?_
    refine od_r1T rfl rfl (rfl) ?_
    refine od_W.rn (pc' := 24) (ls' := [some (.ref _)]) (st' := [.int _]) 1 rfl ?_
    refine od_W.fin rfl ?_
    exact ⟨rfl, rfl⟩
  · rw [tm_fl_snoc] at hn hat ⊢
    rw [tm_al_app] at hal
    have hl2 : (tm_fl us ++ tm_t t).length = (tm_fl us).length + (t.1.length + 3) := by rw [List.length_append, tm_t_len]
    refine od_rV (as := [.int (nI 0), .int (nI (tm_fl us ++ tm_t t).length)]) rfl rfl rfl rfl (od_cm_r hr) rfl (Nat.le_of_ble_eq_true rfl) (Nat.le_of_ble_eq_true rfl) (ct_endsInNumber hS hr (by omega) hal.1 hal.2.1 hat (by omega)) (Nat.le_of_ble_eq_true rfl) (fun o M1 hq => ?_)
    obtain ⟨rfl, rfl⟩ := hq
    refine od_K.ret ?_
    rw [tm_n_snoc]
    by_cases ht0 : t.1 = []
    · rw [if_pos ht0, if_pos ht0]
      refine od_r1F rfl (of_decide_eq_true rfl) (rfl) ?_
      refine od_W.rn (pc' := 14) (ls' := [some (.ref _)]) (st' := [.ref _, .ref _]) 2 rfl ?_
      refine od_gL rfl rfl (hr) (hn) ?_
      have hc : (ρ r).2 ((tm_fl us).length + (t.1.length + 2)) = nI t.2 := by
        rw [tm_at_app] at hat
        unfold tm_t at hat
        rw [tm_at_cons, tm_at_app, tm_at_cons, tm_at_cons] at hat
        rw [show (tm_fl us).length + (t.1.length + 2) = 0 + (tm_fl us).length + 1 + t.1.length + 1 by omega]
        exact hat.2.2.2.2.1
      refine od_rV (as := [.int (nI (tm_fl us ++ tm_t t).length)]) rfl rfl rfl rfl (od_cm_r hr) rfl (Nat.le_of_ble_eq_true rfl) (Nat.le_of_ble_eq_true rfl) ((show od_W 0 8 0 (od_ent 8 [.ref r, .int (nI (tm_fl us ++ tm_t t).length)]) [] (od_cm S M ρ) _ by rw [show (tm_fl us ++ tm_t t).length = (tm_fl us).length + (t.1.length + 2) + 1 by omega]; exact ct_coefficient hS hr hn (by omega) (by omega) hc)) (Nat.le_of_ble_eq_true rfl) (fun o M1 hq => ?_)
      obtain ⟨rfl, rfl⟩ := hq
      refine od_K.ret ?_
      refine od_W.rn (pc' := 24) (ls' := [some (.ref _)]) (st' := [.int _]) 1 rfl ?_
      refine od_W.fin rfl ?_
      exact ⟨rfl, rfl⟩
    · rw [if_neg ht0, if_neg ht0]
      refine od_r1T rfl rfl (rfl) ?_
      refine od_W.rn (pc' := 24) (ls' := [some (.ref _)]) (st' := [.int _]) 1 rfl ?_
      refine od_W.fin rfl ?_
      exact ⟨rfl, rfl⟩
theorem ct_isOne (hS : od_SS S) (hr : S r = true) (hb : (ρ r).1 ≤ 60) {xs : List Nat} (hsm : tm_sm xs) (hl : od_li (ρ r) xs) : od_W 0 3 0 (od_ent 3 [.ref r]) [] (od_cm S M ρ) (fun o M' => o = .inl (some (.int (if xs.length = 3 ∧ xs.getD 2 0 = 1 then 1 else 0))) ∧ M' = od_cm S M ρ) := by
  have e0 : od_ent 3 [.ref r] = [some (.ref r)] := rfl
  rw [e0]
  obtain ⟨hn, hat⟩ := hl
  refine od_W.rn (pc' := 1) (ls' := [some (.ref _)]) (st' := [.ref _]) 1 rfl ?_
  refine od_gL rfl rfl (hr) (hn) ?_
  by_cases h3 : xs.length = 3
  · have c1 : od_cond .ne (nI xs.length) 3 = false := by rw [h3]; rfl
    refine od_W.rn (pc' := 5) (ls' := [some (.ref _)]) (st' := [.int _, .int _]) 1 rfl ?_
    refine od_r2F rfl (of_decide_eq_true rfl) (c1) ?_
    refine od_W.rn (pc' := 9) (ls' := [some (.ref _)]) (st' := [.ref _]) 1 rfl ?_
    refine od_gC rfl rfl (hr) ?_
    refine od_W.rn (pc' := 13) (ls' := [some (.ref _)]) (st' := [.int _, .ref _]) 1 rfl ?_
    refine od_gA rfl hS (hr) ((show (2 : Int32) = nI 2 from rfl)) ((by omega)) ((hat 2 (by omega))) ?_
    by_cases h1 : xs.getD 2 0 = 1
    · have c2 : od_cond .ne (nI (xs.getD 2 0)) 1 = false := by rw [h1]; rfl
      refine od_W.rn (pc' := 15) (ls' := [some (.ref _)]) (st' := [.int _, .int _]) 1 rfl ?_
      refine od_r2F rfl (of_decide_eq_true rfl) (c2) ?_
      refine od_W.rn (pc' := 23) (ls' := [some (.ref _)]) (st' := [.int _]) 2 rfl ?_
      refine od_W.fin rfl ?_
      rw [if_pos ⟨h3, h1⟩]
      exact ⟨rfl, rfl⟩
    · have hx : xs.getD 2 0 ≤ 1000000 := by
        refine hsm _ ?_
        rw [List.getD_eq_getElem?_getD, List.getElem?_eq_getElem (by omega), Option.getD_some]
        exact List.getElem_mem _
      have c2 : od_cond .ne (nI (xs.getD 2 0)) 1 = true := by
        show (!decide (nI (xs.getD 2 0) = nI 1)) = true
        rw [decide_eq_false (fun z => h1 ((nI_eq (by omega) (by omega)).mp z))]
        rfl
      refine od_W.rn (pc' := 15) (ls' := [some (.ref _)]) (st' := [.int _, .int _]) 1 rfl ?_
      refine od_r2T rfl rfl (c2) ?_
      refine od_W.rn (pc' := 23) (ls' := [some (.ref _)]) (st' := [.int _]) 1 rfl ?_
      refine od_W.fin rfl ?_
      rw [if_neg (fun z => h1 z.2)]
      exact ⟨rfl, rfl⟩
  · have c1 : od_cond .ne (nI xs.length) 3 = true := by
      show (!decide (nI xs.length = nI 3)) = true
      rw [decide_eq_false (fun z => h3 ((nI_eq (by omega) (by omega)).mp z))]
      rfl
    refine od_W.rn (pc' := 5) (ls' := [some (.ref _)]) (st' := [.int _, .int _]) 1 rfl ?_
    refine od_r2T rfl rfl (c1) ?_
    refine od_W.rn (pc' := 23) (ls' := [some (.ref _)]) (st' := [.int _]) 1 rfl ?_
    refine od_W.fin rfl ?_
    rw [if_neg (fun z => h3 z.1)]
    exact ⟨rfl, rfl⟩
end SO
end
section
/-! The order of rows and parts. -/
theorem ct_compare {M : od_M} (x y : Nat) (hx : x < 2 ^ 31) (hy : y < 2 ^ 31) : od_W 0 157 0 (od_ent 157 [.int (nI x), .int (nI y)]) [] M (fun o M' => o = .inl (some (.int (if x < y then -1 else if y < x then 1 else 0))) ∧ M' = M) := by
  have e0 : od_ent 157 [.int (nI x), .int (nI y)] = [some (.int (nI x)), some (.int (nI y))] := rfl
  rw [e0]
  by_cases h1 : x < y
  · refine od_W.rn (pc' := 2) (ls' := [some (.int _), some (.int _)]) (st' := [.int _, .int _]) 2 rfl ?_
    refine od_r2F rfl (of_decide_eq_true rfl) (decide_eq_false (nI_ge h1 hy)) ?_
    refine od_W.rn (pc' := 19) (ls' := [some (.int _), some (.int _)]) (st' := [.int _]) 2 rfl ?_
    refine od_W.fin rfl ?_
    rw [if_pos h1]
    exact ⟨rfl, rfl⟩
  · rw [if_neg h1]
    refine od_W.rn (pc' := 2) (ls' := [some (.int _), some (.int _)]) (st' := [.int _, .int _]) 2 rfl ?_
    refine od_r2T rfl rfl (decide_eq_true (nI_le (by omega) hx)) ?_
    by_cases h2 : y < x
    · have c1 : od_cond .ne (nI x) (nI y) = true := by
        show (!decide (nI x = nI y)) = true
        rw [decide_eq_false (fun z => absurd ((nI_eq hx hy).mp z) (by omega))]
        rfl
      refine od_W.rn (pc' := 11) (ls' := [some (.int _), some (.int _)]) (st' := [.int _, .int _]) 2 rfl ?_
      refine od_r2T rfl rfl (c1) ?_
      refine od_W.rn (pc' := 19) (ls' := [some (.int _), some (.int _)]) (st' := [.int _]) 1 rfl ?_
      refine od_W.fin rfl ?_
      rw [if_pos h2]
      exact ⟨rfl, rfl⟩
    · have hxy : x = y := by omega
      subst hxy
      rw [if_neg h2]
      have c1 : od_cond .ne (nI x) (nI x) = false := by
        show (!decide (nI x = nI x)) = false
        rw [decide_eq_true rfl]
        rfl
      refine od_W.rn (pc' := 11) (ls' := [some (.int _), some (.int _)]) (st' := [.int _, .int _]) 2 rfl ?_
      refine od_r2F rfl (of_decide_eq_true rfl) (c1) ?_
      refine od_W.rn (pc' := 19) (ls' := [some (.int _), some (.int _)]) (st' := [.int _]) 2 rfl ?_
      refine od_W.fin rfl ?_
      exact ⟨rfl, rfl⟩
theorem ct_minI {M : od_M} (x y : Nat) (hx : x < 2 ^ 31) (hy : y < 2 ^ 31) : od_W 0 154 0 (od_ent 154 [.int (nI x), .int (nI y)]) [] M (fun o M' => o = .inl (some (.int (nI (min x y)))) ∧ M' = M) := by
  have e0 : od_ent 154 [.int (nI x), .int (nI y)] = [some (.int (nI x)), some (.int (nI y))] := rfl
  rw [e0]
  by_cases h1 : y < x
  · refine od_W.rn (pc' := 2) (ls' := [some (.int _), some (.int _)]) (st' := [.int _, .int _]) 2 rfl ?_
    refine od_r2T rfl rfl (decide_eq_true (nI_lt h1 hx)) ?_
    refine od_W.rn (pc' := 10) (ls' := [some (.int _), some (.int _)]) (st' := [.int _]) 1 rfl ?_
    refine od_W.fin rfl ?_
    rw [Nat.min_eq_right (by omega)]
    exact ⟨rfl, rfl⟩
  · refine od_W.rn (pc' := 2) (ls' := [some (.int _), some (.int _)]) (st' := [.int _, .int _]) 2 rfl ?_
    refine od_r2F rfl (of_decide_eq_true rfl) (decide_eq_false (nI_nlt (by omega) hy)) ?_
    refine od_W.rn (pc' := 10) (ls' := [some (.int _), some (.int _)]) (st' := [.int _]) 2 rfl ?_
    refine od_W.fin rfl ?_
    rw [Nat.min_eq_left (by omega)]
    exact ⟨rfl, rfl⟩
theorem tm_cmp_len (i : Nat) (us vs : List Nat) (h : us = [] ∨ vs = []) : tm_cmp us vs = (if i + us.length < i + vs.length then -1 else if i + vs.length < i + us.length then 1 else 0) := by
  rcases us with _ | ⟨u, us⟩
  · rcases vs with _ | ⟨v, vs⟩
    · simp [tm_cmp]
    · rw [tm_cmp, if_pos (by simp)]
  · rcases vs with _ | ⟨v, vs⟩
    · rw [tm_cmp, if_neg (by simp), if_pos (by simp)]
    · simp at h
section OP
variable {S : Nat → Bool} {M : od_M} {ρ : od_Rm} {p q : Nat}
theorem ct_op_loop (hS : od_SS S) (hp : S p = true) (hq' : S q = true) {a b : Nat} : ∀ (us vs : List Nat) (i : Nat) (w : Option Value), a + i + us.length ≤ 60 → b + i + vs.length ≤ 60 → tm_sm us → tm_sm vs → tm_at (ρ p).2 (a + i) us → tm_at (ρ q).2 (b + i) vs → od_W 1 28 16 [some (.ref p), some (.int (nI a)), some (.int (nI (a + i + us.length))), some (.ref q), some (.int (nI b)), some (.int (nI (b + i + vs.length))), some (.int (nI (i + min us.length vs.length))), some (.int (nI i)), w] [] (od_cm S M ρ) (fun o M' => o = .inl (some (.int (tm_cmp us vs))) ∧ M' = od_cm S M ρ) := by
  have fin : ∀ (us vs : List Nat) (i : Nat) (w : Option Value), (us = [] ∨ vs = []) → a + i + us.length ≤ 60 → b + i + vs.length ≤ 60 → od_W 1 28 16 [some (.ref p), some (.int (nI a)), some (.int (nI (a + i + us.length))), some (.ref q), some (.int (nI b)), some (.int (nI (b + i + vs.length))), some (.int (nI (i + min us.length vs.length))), some (.int (nI i)), w] [] (od_cm S M ρ) (fun o M' => o = .inl (some (.int (tm_cmp us vs))) ∧ M' = od_cm S M ρ) := by
    intro us vs i w h h1 h2
    have hm : min us.length vs.length = 0 := by
      rcases h with rfl | rfl <;> simp
    rw [hm, Nat.add_zero]
    refine od_W.rn (pc' := 20) (ls' := [some (.ref _), some (.int _), some (.int _), some (.ref _), some (.int _), some (.int _), some (.int _), some (.int _), _]) (st' := [.int _, .int _]) 2 rfl ?_
    refine od_r2T rfl rfl (decide_eq_true (Int32.le_refl _)) ?_
    refine od_W.rn (pc' := 69) (ls' := [some (.ref _), some (.int _), some (.int _), some (.ref _), some (.int _), some (.int _), some (.int _), some (.int _), _]) (st' := [.int _, .int _]) 6 rfl ?_
    have e1 : nI (a + i + us.length) - nI a = nI (i + us.length) := by rw [nI_subI (by omega)]; congr 1; omega
    have e2 : nI (b + i + vs.length) - nI b = nI (i + vs.length) := by rw [nI_subI (by omega)]; congr 1; omega
    rw [e1, e2]
    refine od_rSt (as := [.int (nI (i + us.length)), .int (nI (i + vs.length))]) rfl rfl rfl rfl (Nat.le_of_ble_eq_true rfl) (Nat.le_of_ble_eq_true rfl) (ct_compare (i + us.length) (i + vs.length) (by omega) (by omega)) (Nat.le_of_ble_eq_true rfl) (fun o M1 hq => ?_)
    obtain ⟨rfl, rfl⟩ := hq
    refine od_K.ret ?_
    refine od_W.fin rfl ?_
    rw [tm_cmp_len i us vs h]
    exact ⟨rfl, rfl⟩
  intro us
  induction us with
  | nil => intro vs i w h1 h2 _ _ _ _; exact fin [] vs i w (Or.inl rfl) h1 h2
  | cons u us ih =>
    intro vs i w h1 h2 s1 s2 a1 a2
    rcases vs with _ | ⟨v, vs⟩
    · exact fin (u :: us) [] i w (Or.inr rfl) h1 h2
    · rw [tm_at_cons] at a1 a2
      rw [tm_sm_cons] at s1 s2
      rw [List.length_cons] at h1 h2
      have hmin : min (u :: us).length (v :: vs).length = min us.length vs.length + 1 := by simp only [List.length_cons]; omega
      rw [hmin]
      refine od_W.rn (pc' := 20) (ls' := [some (.ref _), some (.int _), some (.int _), some (.ref _), some (.int _), some (.int _), some (.int _), some (.int _), _]) (st' := [.int _, .int _]) 2 rfl ?_
      refine od_r2F rfl (of_decide_eq_true rfl) (decide_eq_false (nI_ge (by omega) (by omega))) ?_
      refine od_W.rn (pc' := 24) (ls' := [some (.ref _), some (.int _), some (.int _), some (.ref _), some (.int _), some (.int _), some (.int _), some (.int _), _]) (st' := [.ref _]) 1 rfl ?_
      refine od_gC rfl rfl (hp) ?_
      refine od_W.rn (pc' := 31) (ls' := [some (.ref _), some (.int _), some (.int _), some (.ref _), some (.int _), some (.int _), some (.int _), some (.int _), _]) (st' := [.int _, .ref _]) 3 rfl ?_
      refine od_gA rfl hS (hp) (nI_add a i) ((by omega)) (a1.1) ?_
      refine od_W.rn (pc' := 33) (ls' := [some (.ref _), some (.int _), some (.int _), some (.ref _), some (.int _), some (.int _), some (.int _), some (.int _), _]) (st' := [.ref _, .int _]) 1 rfl ?_
      refine od_gC rfl rfl (hq') ?_
      refine od_W.rn (pc' := 41) (ls' := [some (.ref _), some (.int _), some (.int _), some (.ref _), some (.int _), some (.int _), some (.int _), some (.int _), _]) (st' := [.int _, .ref _, .int _]) 3 rfl ?_
      refine od_gA rfl hS (hq') (nI_add b i) ((by omega)) (a2.1) ?_
      refine od_rSt (as := [.int (nI u), .int (nI v)]) rfl rfl rfl rfl (Nat.le_of_ble_eq_true rfl) (Nat.le_of_ble_eq_true rfl) (ct_compare u v (by omega) (by omega)) (Nat.le_of_ble_eq_true rfl) (fun o M1 hq => ?_)
      obtain ⟨rfl, rfl⟩ := hq
      refine od_K.ret ?_
      refine od_W.rn (pc' := 49) (ls' := [some (.ref _), some (.int _), some (.int _), some (.ref _), some (.int _), some (.int _), some (.int _), some (.int _), some (.int _)]) (st' := [.int _]) 2 rfl ?_
      by_cases h3 : u < v
      · rw [if_pos h3]
        refine od_r1F rfl (of_decide_eq_true rfl) (rfl) ?_
        refine od_W.rn (pc' := 54) (ls' := [some (.ref _), some (.int _), some (.int _), some (.ref _), some (.int _), some (.int _), some (.int _), some (.int _), some (.int _)]) (st' := [.int _]) 1 rfl ?_
        refine od_W.fin rfl ?_
        rw [tm_cmp, if_pos h3]
        exact ⟨rfl, rfl⟩
      · rw [if_neg h3]
        by_cases h4 : v < u
        · rw [if_pos h4]
          refine od_r1F rfl (of_decide_eq_true rfl) (rfl) ?_
          refine od_W.rn (pc' := 54) (ls' := [some (.ref _), some (.int _), some (.int _), some (.ref _), some (.int _), some (.int _), some (.int _), some (.int _), some (.int _)]) (st' := [.int _]) 1 rfl ?_
          refine od_W.fin rfl ?_
          rw [tm_cmp, if_neg h3, if_pos h4]
          exact ⟨rfl, rfl⟩
        · rw [if_neg h4]
          refine od_r1T rfl rfl (rfl) ?_
          refine od_W.rn (pc' := 16) (ls' := [some (.ref _), some (.int _), some (.int _), some (.ref _), some (.int _), some (.int _), some (.int _), some (.int _), some (.int _)]) (st' := []) 2 rfl ?_
          have hk := ih vs (i + 1) (some (.int 0)) (by omega) (by omega) s1.2 s2.2 (by rw [← Nat.add_assoc]; exact a1.2) (by rw [← Nat.add_assoc]; exact a2.2)
          rw [tm_cmp, if_neg h3, if_neg h4]
          rw [show a + (i + 1) + us.length = a + i + (u :: us).length by simp only [List.length_cons]; omega, show b + (i + 1) + vs.length = b + i + (v :: vs).length by simp only [List.length_cons]; omega, show i + 1 + min us.length vs.length = i + (min us.length vs.length + 1) by omega, nI_succ i] at hk
          exact hk
theorem ct_orderOfParts (hS : od_SS S) (hp : S p = true) (hq' : S q = true) {a b : Nat} {us vs : List Nat} (h1 : a + us.length ≤ 60) (h2 : b + vs.length ≤ 60) (s1 : tm_sm us) (s2 : tm_sm vs) (a1 : tm_at (ρ p).2 a us) (a2 : tm_at (ρ q).2 b vs) : od_W 1 28 0 (od_ent 28 [.ref p, .int (nI a), .int (nI (a + us.length)), .ref q, .int (nI b), .int (nI (b + vs.length))]) [] (od_cm S M ρ) (fun o M' => o = .inl (some (.int (tm_cmp us vs))) ∧ M' = od_cm S M ρ) := by
  have e0 : od_ent 28 [.ref p, .int (nI a), .int (nI (a + us.length)), .ref q, .int (nI b), .int (nI (b + vs.length))] = [some (.ref p), some (.int (nI a)), some (.int (nI (a + us.length))), some (.ref q), some (.int (nI b)), some (.int (nI (b + vs.length))), none, none, none] := rfl
  rw [e0]
  refine od_W.rn (pc' := 8) (ls' := [some (.ref _), some (.int _), some (.int _), some (.ref _), some (.int _), some (.int _), none, none, none]) (st' := [.int _, .int _]) 6 rfl ?_
  rw [nI_subI (show a ≤ a + us.length by omega), nI_subI (show b ≤ b + vs.length by omega), Nat.add_sub_cancel_left, Nat.add_sub_cancel_left]
  refine od_rSt (as := [.int (nI us.length), .int (nI vs.length)]) rfl rfl rfl rfl (Nat.le_of_ble_eq_true rfl) (Nat.le_of_ble_eq_true rfl) (ct_minI us.length vs.length (by omega) (by omega)) (Nat.le_of_ble_eq_true rfl) (fun o M1 hq => ?_)
  obtain ⟨rfl, rfl⟩ := hq
  refine od_K.ret ?_
  refine od_W.rn (pc' := 16) (ls' := [some (.ref _), some (.int _), some (.int _), some (.ref _), some (.int _), some (.int _), some (.int _), some (.int _), none]) (st' := []) 3 rfl ?_
  have hk := ct_op_loop (M := M) hS hp hq' (a := a) (b := b) us vs 0 none (by omega) (by omega) s1 s2 a1 a2
  rw [Nat.zero_add, Nat.add_zero, Nat.add_zero] at hk
  exact hk
theorem ct_order (hS : od_SS S) (hp : S p = true) (hq' : S q = true) (hb : od_Bd ρ) {us vs : List Nat} (s1 : tm_sm us) (s2 : tm_sm vs) (a1 : od_li (ρ p) us) (a2 : od_li (ρ q) vs) : od_W 2 26 0 (od_ent 26 [.ref p, .ref q]) [] (od_cm S M ρ) (fun o M' => o = .inl (some (.int (tm_cmp us vs))) ∧ M' = od_cm S M ρ) := by
  have e0 : od_ent 26 [.ref p, .ref q] = [some (.ref p), some (.ref q)] := rfl
  rw [e0]
  have h1 := hb p
  have h2 := hb q
  rw [a1.1] at h1
  rw [a2.1] at h2
  refine od_W.rn (pc' := 3) (ls' := [some (.ref _), some (.ref _)]) (st' := [.ref _, .int _, .ref _]) 3 rfl ?_
  refine od_gL rfl rfl (hp) (a1.1) ?_
  refine od_W.rn (pc' := 9) (ls' := [some (.ref _), some (.ref _)]) (st' := [.ref _, .int _, .ref _, .int _, .int _, .ref _]) 3 rfl ?_
  refine od_gL rfl rfl (hq') (a2.1) ?_
  have hk := ct_orderOfParts (M := M) hS hp hq' (a := 0) (b := 0) (by omega) (by omega) s1 s2 a1.2 a2.2
  rw [Nat.zero_add, Nat.zero_add] at hk
  refine od_rSt (as := [.ref p, .int (nI 0), .int (nI us.length), .ref q, .int (nI 0), .int (nI vs.length)]) rfl rfl rfl rfl (Nat.le_of_ble_eq_true rfl) (Nat.le_of_ble_eq_true rfl) (hk) (Nat.le_of_ble_eq_true rfl) (fun o M1 hq => ?_)
  obtain ⟨rfl, rfl⟩ := hq
  refine od_K.ret ?_
  refine od_W.fin rfl ?_
  exact ⟨rfl, rfl⟩
/-- exponents of terms that stand at a and b -/
theorem ct_orderOfExponents (hS : od_SS S) (hp : S p = true) (hq' : S q = true) {a b c1 c2 : Nat} {us vs : List Nat} (h1 : a + us.length + 3 ≤ 60) (h2 : b + vs.length + 3 ≤ 60) (s1 : tm_sm us) (s2 : tm_sm vs) (a1 : tm_at (ρ p).2 a (1 :: (us ++ [0, c1]))) (a2 : tm_at (ρ q).2 b (1 :: (vs ++ [0, c2]))) : od_W 2 27 0 (od_ent 27 [.ref p, .int (nI a), .int (nI (a + us.length + 3)), .ref q, .int (nI b), .int (nI (b + vs.length + 3))]) [] (od_cm S M ρ) (fun o M' => o = .inl (some (.int (tm_cmp us vs))) ∧ M' = od_cm S M ρ) := by
  have e0 : od_ent 27 [.ref p, .int (nI a), .int (nI (a + us.length + 3)), .ref q, .int (nI b), .int (nI (b + vs.length + 3))] = [some (.ref p), some (.int (nI a)), some (.int (nI (a + us.length + 3))), some (.ref q), some (.int (nI b)), some (.int (nI (b + vs.length + 3)))] := rfl
  rw [e0]
  rw [tm_at_cons, tm_at_app] at a1 a2
  have g1 : nI a + 1 = nI (a + 1) := nI_add a 1
  have g2 : nI b + 1 = nI (b + 1) := nI_add b 1
  have g3 : nI (a + us.length + 3) - 2 = nI (a + 1 + us.length) := by
    have := nI_subI (show 2 ≤ a + us.length + 3 by omega)
    rw [show a + 1 + us.length = a + us.length + 3 - 2 by omega]
    exact this
  have g4 : nI (b + vs.length + 3) - 2 = nI (b + 1 + vs.length) := by
    have := nI_subI (show 2 ≤ b + vs.length + 3 by omega)
    rw [show b + 1 + vs.length = b + vs.length + 3 - 2 by omega]
    exact this
  refine od_W.rn (pc' := 16) (ls' := [some (.ref _), some (.int _), some (.int _), some (.ref _), some (.int _), some (.int _)]) (st' := [.int _, .int _, .ref _, .int _, .int _, .ref _]) 14 rfl ?_
  show od_W 2 27 16 _ [.int (nI (b + vs.length + 3) - 2), .int (nI b + 1), .ref q, .int (nI (a + us.length + 3) - 2), .int (nI a + 1), .ref p] _ _
  rw [g1, g2, g3, g4]
  refine od_rSt (as := [.ref p, .int (nI (a + 1)), .int (nI (a + 1 + us.length)), .ref q, .int (nI (b + 1)), .int (nI (b + 1 + vs.length))]) rfl rfl rfl rfl (Nat.le_of_ble_eq_true rfl) (Nat.le_of_ble_eq_true rfl) (ct_orderOfParts hS hp hq' (by omega) (by omega) s1 s2 a1.2.1 a2.2.1) (Nat.le_of_ble_eq_true rfl) (fun o M1 hq => ?_)
  obtain ⟨rfl, rfl⟩ := hq
  refine od_K.ret ?_
  refine od_W.fin rfl ?_
  exact ⟨rfl, rfl⟩
end OP
end
section
/-! What a call of the class comes to, told by lists: rows keep their lists but for those named; the row that is made holds its list, or there was no room. -/
/-- a list has room in a row -/
def tm_ft (xs : List Nat) : Prop := xs.length ≤ 60 ∧ tm_sm xs
theorem tm_ft_l {a b : List Nat} (h : tm_ft (a ++ b)) : tm_ft a := ⟨by have := h.1; rw [List.length_append] at this; omega, (tm_sm_app.mp h.2).1⟩
theorem tm_ft_r {a b : List Nat} (h : tm_ft (a ++ b)) : tm_ft b := ⟨by have := h.1; rw [List.length_append] at this; omega, (tm_sm_app.mp h.2).2⟩
def od_hl (ρ : od_Rm) (r : Nat) (xs : List Nat) : Prop := od_li (ρ r) xs ∧ tm_sm xs
theorem od_hl.fr {ρ ρ' : od_Rm} {r : Nat} {xs : List Nat} (h : od_hl ρ r xs) (e : ρ' r = ρ r) : od_hl ρ' r xs := by unfold od_hl; rw [e]; exact h
theorem od_hl.n {ρ : od_Rm} {r : Nat} {xs : List Nat} (h : od_hl ρ r xs) : (ρ r).1 = xs.length := h.1.1
theorem od_hl.at {ρ : od_Rm} {r : Nat} {xs : List Nat} (h : od_hl ρ r xs) : tm_at (ρ r).2 0 xs := h.1.2
theorem od_hl.le {ρ : od_Rm} {r : Nat} {xs : List Nat} (h : od_hl ρ r xs) (hb : od_Bd ρ) : xs.length ≤ 60 := h.n ▸ hb r
def od_Re (S : Nat → Bool) (M : od_M) (ρ : od_Rm) (U : List Nat) (ok : Prop) (v : Option Value) (P : od_Rm → Prop) : od_O → od_M → Prop := fun o M' =>
  ∃ ρ' : od_Rm, (∀ q, q ∉ U → ρ' q = ρ q) ∧ od_Bd ρ' ∧ ((ok ∧ o = .inl v ∧ M' = od_cm S M ρ' ∧ P ρ') ∨ (¬ ok ∧ o = .inr (2, M.1) ∧ M' = od_xm (od_cm S M ρ') 2))
section RE
variable {d k pc : Nat} {ls : od_L} {rest : List Value} {S : Nat → Bool} {M M1 : od_M} {ρ ρ0 : od_Rm} {U U0 : List Nat} {ok ok0 : Prop} {v v0 : Option Value} {P P0 : od_Rm → Prop} {o : od_O} {Q : od_O → od_M → Prop}
theorem od_Re.kq (h : od_Re S M ρ U ok v P o M1) (hh : od_hn k pc 2 = some none) (kx : ∀ ρ1, (∀ q, q ∉ U → ρ1 q = ρ q) → od_Bd ρ1 → ¬ ok → Q (.inr (2, M.1)) (od_xm (od_cm S M ρ1) 2)) (kk : ∀ ρ1, (∀ q, q ∉ U → ρ1 q = ρ q) → od_Bd ρ1 → P ρ1 → ok → od_W d k (pc + 3) ls (v.toList ++ rest) (od_cm S M ρ1) Q) : od_K d k pc ls rest Q o M1 := by
  obtain ⟨ρ1, h1, h2, h3⟩ := h
  rcases h3 with ⟨a, rfl, rfl, b⟩ | ⟨a, rfl, rfl⟩
  · exact od_K.ret (kk ρ1 h1 h2 b a)
  · exact od_K.out hh (kx ρ1 h1 h2 a)
theorem od_Re.kp (h : od_Re S M ρ U ok v P o M1) (hh : od_hn k pc 2 = some none) (hU : ∀ q, q ∈ U → q ∈ U0) (f0 : ∀ q, q ∉ U0 → ρ q = ρ0 q) (hno : ok0 → ok) (kk : ∀ ρ1, (∀ q, q ∉ U → ρ1 q = ρ q) → (∀ q, q ∉ U0 → ρ1 q = ρ0 q) → od_Bd ρ1 → P ρ1 → ok → od_W d k (pc + 3) ls (v.toList ++ rest) (od_cm S M ρ1) (od_Re S M ρ0 U0 ok0 v0 P0)) : od_K d k pc ls rest (od_Re S M ρ0 U0 ok0 v0 P0) o M1 := by
  have fr : ∀ ρ1 : od_Rm, (∀ q, q ∉ U → ρ1 q = ρ q) → ∀ q, q ∉ U0 → ρ1 q = ρ0 q := fun ρ1 h1 q hq => (h1 q (fun z => hq (hU q z))).trans (f0 q hq)
  exact h.kq hh (fun ρ1 h1 h2 h3 => ⟨ρ1, fr ρ1 h1, h2, Or.inr ⟨fun z => h3 (hno z), rfl, rfl⟩⟩) (fun ρ1 h1 h2 h3 h4 => kk ρ1 h1 (fr ρ1 h1) h2 h3 h4)
theorem od_Re.yes (f0 : ∀ q, q ∉ U0 → ρ q = ρ0 q) (hb : od_Bd ρ) (hok : ok0) (hP : P0 ρ) : od_Re S M ρ0 U0 ok0 v P0 (.inl v) (od_cm S M ρ) := ⟨ρ, f0, hb, Or.inl ⟨hok, rfl, rfl, hP⟩⟩
theorem od_Re.no (f0 : ∀ q, q ∉ U0 → ρ q = ρ0 q) (hb : od_Bd ρ) (hok : ¬ ok0) : od_Re S M ρ0 U0 ok0 v P0 (.inr (2, M.1)) (od_xm (od_cm S M ρ) 2) := ⟨ρ, f0, hb, Or.inr ⟨hok, rfl, rfl⟩⟩
theorem od_Re.mono {U' : List Nat} {ok' : Prop} {P' : od_Rm → Prop} (h : od_Re S M ρ U ok v P o M1) (hU : ∀ q, q ∈ U → q ∈ U') (hok : ok ↔ ok') (hP : ∀ ρ', (∀ q, q ∉ U → ρ' q = ρ q) → ok → P ρ' → P' ρ') : od_Re S M ρ U' ok' v P' o M1 := by
  obtain ⟨ρ1, h1, h2, h3⟩ := h
  refine ⟨ρ1, fun q hq => h1 q (fun z => hq (hU q z)), h2, ?_⟩
  rcases h3 with ⟨a, b, c, e⟩ | ⟨a, b, c⟩
  · exact Or.inl ⟨hok.mp a, b, c, hP ρ1 h1 a e⟩
  · exact Or.inr ⟨fun z => a (hok.mpr z), b, c⟩
end RE
theorem od_ap_at {f : Nat → Int32} {xs ws : List Nat} (h : tm_at f 0 xs) : tm_at (od_ap f xs.length (ws.map nI)) 0 (xs ++ ws) := by
  rw [tm_at_app]
  refine ⟨fun j hj => ?_, fun j hj => ?_⟩
  · unfold od_ap
    rw [if_neg (by omega)]
    exact h j hj
  · unfold od_ap
    rw [if_pos (by rw [List.length_map]; omega), show 0 + xs.length + j - xs.length = j by omega]
    rw [List.getD_eq_getElem?_getD, List.getD_eq_getElem?_getD, List.getElem?_map, List.getElem?_eq_getElem hj]
    rfl
theorem od_sl_map {g : Nat → Int32} {a : Nat} {w : List Nat} (h : tm_at g a w) : od_sl g a (a + w.length) = w.map nI := by
  unfold od_sl
  rw [show a + w.length - a = w.length by omega]
  apply List.ext_getElem
  · simp
  · intro j h1 h2
    simp only [List.getElem_map, List.getElem_range]
    have hj : j < w.length := by simpa using h2
    rw [h j hj, List.getD_eq_getElem?_getD, List.getElem?_eq_getElem hj]
    rfl
theorem od_Pt.ls {S : Nat → Bool} {M M1 : od_M} {ρ : od_Rm} {o : od_O} {r n : Nat} {f : Nat → Int32} {xs ws : List Nat} {zs : List Int32} {p : Prop} (hS : od_SS S) (hr : S r = true) (hb : od_Bd ρ) (hn : n = xs.length) (hat : tm_at f 0 xs) (hsm : tm_sm xs) (hz : zs = ws.map nI) (hp : p ↔ tm_sm ws) (h : od_Pt (od_cm S M ρ) r n f zs p o M1) : od_Re S M ρ [r] (tm_ft (xs ++ ws)) none (fun ρ' => od_hl ρ' r (xs ++ ws)) o M1 := by
  subst hn hz
  have hok : (p ∧ xs.length + (ws.map nI).length ≤ 60) ↔ tm_ft (xs ++ ws) := by
    unfold tm_ft
    rw [hp, List.length_append, List.length_map, tm_sm_app]
    exact ⟨fun z => ⟨z.2, hsm, z.1⟩, fun z => ⟨z.2.2, z.1⟩⟩
  have hbd : ∀ m g, m ≤ 60 → od_Bd (od_rs ρ r (m, g)) := fun m g hm q => by
    by_cases e : q = r
    · subst e; rw [od_rs_r]; exact hm
    · rw [od_rs_o e]; exact hb q
  rcases h with ⟨h1, h2, h3, h4⟩ | ⟨h1, h2, n', f', h3, h4⟩
  · refine ⟨od_rs ρ r _, fun q hq => od_rs_o (fun z => hq (by rw [z]; exact List.mem_singleton.mpr rfl)), hbd _ _ h2, Or.inl ⟨hok.mp ⟨h1, h2⟩, h3, h4.trans (od_cm_wr hS hr), ?_⟩⟩
    refine ⟨?_, tm_sm_app.mpr ⟨hsm, hp.mp h1⟩⟩
    rw [od_rs_r]
    refine ⟨by simp, od_ap_at hat⟩
  · refine ⟨od_rs ρ r (n', f'), fun q hq => od_rs_o (fun z => hq (by rw [z]; exact List.mem_singleton.mpr rfl)), hbd _ _ h3, Or.inr ⟨fun z => h1 (hok.mpr z), h2, ?_⟩⟩
    rw [h4, od_cm_wr hS hr]
section LT
variable {S : Nat → Bool} {M : od_M} {ρ : od_Rm} {r q : Nat} {xs ys : List Nat}
theorem tm_sm_one {c : Nat} : tm_sm [c] ↔ c ≤ 1000000 := by unfold tm_sm; simp
theorem od_hl.sm {ρ : od_Rm} {r : Nat} {xs : List Nat} (h : od_hl ρ r xs) : tm_sm xs := h.2
theorem lt_openTerm (hS : od_SS S) (hr : S r = true) (hb : od_Bd ρ) (hx : od_hl ρ r xs) : od_W 1 20 0 (od_ent 20 [.ref r]) [] (od_cm S M ρ) (od_Re S M ρ [r] (tm_ft (xs ++ [1])) none (fun ρ' => od_hl ρ' r (xs ++ [1]))) :=
  (ct_openTerm (od_cm_Rw hS hr (hb r))).mono fun o M1 h => h.ls hS hr hb hx.n hx.at hx.2 rfl ⟨fun _ => tm_sm_one.mpr (by omega), fun _ => trivial⟩
theorem lN_le6 {c : Nat} (hc : c < 2 ^ 63) : lN c ≤ 1000000 ↔ c ≤ 1000000 := pk_lLE (b := 1000000) hc (by omega)
theorem lt_putCoefficient (hS : od_SS S) (hr : S r = true) (hb : od_Bd ρ) (hx : od_hl ρ r xs) {c : Nat} (hc : c < 2 ^ 63) : od_W 1 22 0 (od_ent 22 [.ref r, .long (lN c)]) [] (od_cm S M ρ) (od_Re S M ρ [r] (tm_ft (xs ++ [c])) none (fun ρ' => od_hl ρ' r (xs ++ [c]))) :=
  (ct_putCoefficient (od_cm_Rw hS hr (hb r))).mono fun o M1 h => h.ls hS hr hb hx.n hx.at hx.2 (by rw [lN_i]; rfl) (by rw [tm_sm_one]; exact lN_le6 hc)
theorem lt_closeTerm (hS : od_SS S) (hr : S r = true) (hb : od_Bd ρ) (hx : od_hl ρ r xs) {c : Nat} (hc : c < 2 ^ 63) : od_W 2 21 0 (od_ent 21 [.ref r, .long (lN c)]) [] (od_cm S M ρ) (od_Re S M ρ [r] (tm_ft (xs ++ [0, c])) none (fun ρ' => od_hl ρ' r (xs ++ [0, c]))) :=
  (ct_closeTerm (od_cm_Rw hS hr (hb r))).mono fun o M1 h => h.ls hS hr hb hx.n hx.at hx.2 (by rw [lN_i]; rfl) (by rw [tm_sm_cons, tm_sm_one]; exact (lN_le6 hc).trans ⟨fun z => ⟨by omega, z⟩, fun z => z.2⟩)
theorem lt_putNumber (hS : od_SS S) (hr : S r = true) (hb : od_Bd ρ) (hx : od_hl ρ r xs) {c : Nat} (hc : c < 2 ^ 63) (h0 : 0 < c) : od_W 3 24 0 (od_ent 24 [.ref r, .long (lN c)]) [] (od_cm S M ρ) (od_Re S M ρ [r] (tm_ft (xs ++ [1, 0, c])) none (fun ρ' => od_hl ρ' r (xs ++ [1, 0, c]))) :=
  (ct_putNumber (od_cm_Rw hS hr (hb r)) (fun z => absurd ((pk_lLE (b := 0) hc (by omega)).mp z) (by omega))).mono fun o M1 h => h.ls hS hr hb hx.n hx.at hx.2 (by rw [lN_i]; rfl) (by rw [tm_sm_cons, tm_sm_cons, tm_sm_one]; exact (lN_le6 hc).trans ⟨fun z => ⟨by omega, by omega, z⟩, fun z => z.2.2⟩)
theorem lt_putNumber0 (hS : od_SS S) (hr : S r = true) (hb : od_Bd ρ) (hx : od_hl ρ r xs) {v : Int64} (hv : v ≤ 0) : od_W 0 24 0 (od_ent 24 [.ref r, .long v]) [] (od_cm S M ρ) (od_Re S M ρ [r] (tm_ft (xs ++ [])) none (fun ρ' => od_hl ρ' r (xs ++ []))) :=
  (ct_putNumber0 (od_cm_Rw hS hr (hb r)) hv).mono fun o M1 h => h.ls hS hr hb hx.n hx.at hx.2 rfl ⟨fun _ => fun x hx => (List.not_mem_nil hx).elim, fun _ => trivial⟩
/-- a part w of the row q, behind u, goes onto the row r -/
theorem lt_putPart (hS : od_SS S) (hr : S r = true) (hq : S q = true) (hne : r ≠ q) (hb : od_Bd ρ) (hx : od_hl ρ r xs) {u w z : List Nat} (hy : od_hl ρ q (u ++ (w ++ z))) {a b : Nat} (ha : a = u.length) (hbb : b = a + w.length) : od_W 0 18 0 (od_ent 18 [.ref r, .ref q, .int (nI a), .int (nI b)]) [] (od_cm S M ρ) (od_Re S M ρ [r] (tm_ft (xs ++ w)) none (fun ρ' => od_hl ρ' r (xs ++ w))) := by
  subst hbb
  subst ha
  have hl := hy.n
  have h2 := hy.at
  rw [List.length_append, List.length_append] at hl
  rw [tm_at_app, tm_at_app, Nat.zero_add] at h2
  refine (ct_putPartLe (od_cm_Rw hS hr (hb r)) (od_cm_Rw hS hq (hb q)) (od_cm_ap hS hr hq hne) (by omega) (by omega)).mono fun o M1 h => ?_
  rw [od_sl_map h2.2.1] at h
  exact h.ls hS hr hb hx.n hx.at hx.2 rfl ⟨fun _ => (tm_sm_app.mp (tm_sm_app.mp hy.2).2).1, fun _ => trivial⟩
theorem lt_becomePart (hS : od_SS S) (hr : S r = true) (hq : S q = true) (hne : r ≠ q) (hb : od_Bd ρ) {u w z : List Nat} (hy : od_hl ρ q (u ++ (w ++ z))) {a b : Nat} (ha : a = u.length) (hbb : b = a + w.length) : od_W 1 14 0 (od_ent 14 [.ref r, .ref q, .int (nI a), .int (nI b)]) [] (od_cm S M ρ) (od_Re S M ρ [r] True none (fun ρ' => od_hl ρ' r w)) := by
  subst hbb
  subst ha
  have hl := hy.n
  have h2 := hy.at
  rw [List.length_append, List.length_append] at hl
  rw [tm_at_app, tm_at_app, Nat.zero_add] at h2
  have h60 := hb q
  have hs : tm_sm w := (tm_sm_app.mp (tm_sm_app.mp hy.2).2).1
  refine (ct_becomePart (od_cm_Rw hS hr (hb r)) (od_cm_Rw hS hq (hb q)) (od_cm_ap hS hr hq hne) (od_cm_ap hS hq hr (Ne.symm hne)) (by omega) (by omega)).mono fun o M1 h => ?_
  rw [od_sl_map h2.2.1] at h
  exact (h.ls (xs := []) hS hr hb rfl (tm_at_nil _ _) (fun x hx => (List.not_mem_nil hx).elim) rfl ⟨fun _ => hs, fun _ => trivial⟩).mono (fun q h => h) ⟨fun _ => trivial, fun _ => ⟨by rw [List.nil_append]; omega, hs⟩⟩ (fun ρ' _ _ h => h)
theorem lt_become (hS : od_SS S) (hr : S r = true) (hq : S q = true) (hne : r ≠ q) (hb : od_Bd ρ) (hy : od_hl ρ q ys) : od_W 2 13 0 (od_ent 13 [.ref r, .ref q]) [] (od_cm S M ρ) (od_Re S M ρ [r] True none (fun ρ' => od_hl ρ' r ys)) := by
  refine (ct_become (od_cm_Rw hS hr (hb r)) (od_cm_Rw hS hq (hb q)) (od_cm_ap hS hr hq hne) (od_cm_ap hS hq hr (Ne.symm hne))).mono fun o M1 h => ?_
  rw [hy.n, show ys.length = 0 + ys.length by omega, od_sl_map hy.at] at h
  exact (h.ls (xs := []) hS hr hb rfl (tm_at_nil _ _) (fun x hx => (List.not_mem_nil hx).elim) rfl ⟨fun _ => hy.2, fun _ => trivial⟩).mono (fun q h => h) ⟨fun _ => trivial, fun _ => ⟨by rw [List.nil_append]; exact hy.le hb, hy.2⟩⟩ (fun ρ' _ _ h => h)
theorem lt_clear (hS : od_SS S) (hr : S r = true) (hb : od_Bd ρ) : od_W 0 12 0 (od_ent 12 [.ref r]) [] (od_cm S M ρ) (od_Re S M ρ [r] True none (fun ρ' => od_hl ρ' r [])) := by
  refine (ct_clear (od_cm_Rw hS hr (hb r))).mono fun o M1 h => ?_
  rw [od_cm_wr hS hr] at h
  obtain ⟨rfl, rfl⟩ := h
  refine od_Re.yes (fun q hq => od_rs_o (fun z => hq (by rw [z]; exact List.mem_singleton.mpr rfl))) ?_ trivial ?_
  · intro q
    by_cases e : q = r
    · subst e; rw [od_rs_r]; omega
    · rw [od_rs_o e]; exact hb q
  · refine ⟨?_, fun x hx => (List.not_mem_nil hx).elim⟩
    rw [od_rs_r]
    exact ⟨rfl, tm_at_nil _ _⟩
/-- becomeNumber, of a number that is not below 0 -/
def tm_num (c : Nat) : List Nat := if c = 0 then [] else [1, 0, c]
theorem lt_becomeNumber (hS : od_SS S) (hr : S r = true) (hb : od_Bd ρ) {c : Nat} (hc : c ≤ 1000000) : od_W 4 16 0 (od_ent 16 [.ref r, .int (nI c)]) [] (od_cm S M ρ) (od_Re S M ρ [r] True none (fun ρ' => od_hl ρ' r (tm_num c))) := by
  have e1 : (nI c).toInt64 = lN c := nI_l (by omega)
  have hnil : tm_sm [] := fun x hx => (List.not_mem_nil hx).elim
  by_cases h0 : c = 0
  · have hv : (nI c).toInt64 ≤ 0 := by rw [e1]; exact (pk_lLE (b := 0) (by omega) (by omega)).mpr (by omega)
    refine (ct_becomeNumber0 (od_cm_Rw hS hr (hb r)) hv).deep (by omega) |>.mono fun o M1 h => ?_
    refine (h.ls (xs := []) (ws := []) hS hr hb rfl (tm_at_nil _ _) hnil rfl ⟨fun _ => hnil, fun _ => trivial⟩).mono (fun q h => h) ⟨fun _ => trivial, fun _ => ⟨by simp, hnil⟩⟩ (fun ρ' _ _ h => ?_)
    unfold tm_num
    rw [if_pos h0]
    exact h
  · have hv : ¬ (nI c).toInt64 ≤ 0 := by rw [e1]; exact fun z => absurd ((pk_lLE (b := 0) (by omega) (by omega)).mp z) (by omega)
    have hs : tm_sm [1, 0, c] := by rw [tm_sm_cons, tm_sm_cons, tm_sm_one]; omega
    refine (ct_becomeNumber (od_cm_Rw hS hr (hb r)) hv).mono fun o M1 h => ?_
    rw [e1, lN_i] at h
    refine (h.ls (xs := []) (ws := [1, 0, c]) hS hr hb rfl (tm_at_nil _ _) hnil rfl ⟨fun _ => hs, fun _ => (lN_le6 (by omega)).mpr hc⟩).mono (fun q h => h) ⟨fun _ => trivial, fun _ => ⟨by simp, hs⟩⟩ (fun ρ' _ _ h => ?_)
    unfold tm_num
    rw [if_neg h0]
    exact h
end LT
end
section
/-! Terms put, exponents taken, by lists. -/
section LT2
variable {S : Nat → Bool} {M : od_M} {ρ : od_Rm} {r q : Nat} {xs ys : List Nat}
theorem od_fr0 (ρ : od_Rm) (U : List Nat) : ∀ a, a ∉ U → ρ a = ρ a := fun _ _ => rfl
theorem lt_putTerm (hS : od_SS S) (hr : S r = true) (hq' : S q = true) (hne : r ≠ q) (hb : od_Bd ρ) (hx : od_hl ρ r xs) (hy : od_hl ρ q ys) {c : Nat} (hc : c < 2 ^ 63) : od_W 3 23 0 (od_ent 23 [.ref r, .ref q, .long (lN c)]) [] (od_cm S M ρ) (od_Re S M ρ [r] (tm_ft (xs ++ tm_t (ys, c))) none (fun ρ' => od_hl ρ' r (xs ++ tm_t (ys, c)))) := by
  have e0 : od_ent 23 [.ref r, .ref q, .long (lN c)] = [some (.ref r), some (.ref q), some (.long (lN c)), none] := rfl
  rw [e0]
  have e : xs ++ tm_t (ys, c) = ((xs ++ [1]) ++ ys) ++ [0, c] := by simp [tm_t]
  rw [e]
  refine od_W.rn (pc' := 1) (ls' := [some (.ref _), some (.ref _), some (.long _), none]) (st' := [.ref _]) 1 rfl ?_
  refine od_rV (as := []) rfl rfl rfl rfl (od_cm_r hr) rfl (Nat.le_of_ble_eq_true rfl) (Nat.le_of_ble_eq_true rfl) (lt_openTerm hS hr hb hx) (Nat.le_of_ble_eq_true rfl) (fun o M1 hq => ?_)
  refine od_Re.kp hq rfl (by simp) (od_fr0 ρ [r]) (fun z => tm_ft_l (tm_ft_l z)) (fun ρ1 f1 g1 b1 p1 k1 => ?_)
  have hy1 : od_hl ρ1 q ys := hy.fr (f1 q (by simpa using Ne.symm hne))
  refine od_W.rn (pc' := 8) (ls' := [some (.ref _), some (.ref _), some (.long _), none]) (st' := [.ref _, .int _, .ref _, .ref _]) 4 rfl ?_
  refine od_gL rfl rfl (hq') (hy1.n) ?_
  refine od_rV (as := [.ref q, .int (nI 0), .int (nI ys.length)]) rfl rfl rfl rfl (od_cm_r hr) rfl (Nat.le_of_ble_eq_true rfl) (Nat.le_of_ble_eq_true rfl) (lt_putPart hS hr hq' hne b1 p1 (u := []) (w := ys) (z := []) (by simpa using hy1) rfl (by simp)) (Nat.le_of_ble_eq_true rfl) (fun o M1 hq => ?_)
  refine od_Re.kp hq rfl (by simp) (g1) (fun z => tm_ft_l z) (fun ρ2 f2 g2 b2 p2 k2 => ?_)
  refine od_W.rn (pc' := 16) (ls' := [some (.ref _), some (.ref _), some (.long _), none]) (st' := [.long _, .ref _]) 2 rfl ?_
  refine od_rV (as := [.long (lN c)]) rfl rfl rfl rfl (od_cm_r hr) rfl (Nat.le_of_ble_eq_true rfl) (Nat.le_of_ble_eq_true rfl) (lt_closeTerm hS hr b2 p2 hc) (Nat.le_of_ble_eq_true rfl) (fun o M1 hq => ?_)
  refine od_Re.kp hq rfl (by simp) (g2) (fun z => z) (fun ρ3 f3 g3 b3 p3 k3 => ?_)
  refine od_W.fin rfl ?_
  exact od_Re.yes g3 b3 k3 p3
theorem lt_becomeExponent (hS : od_SS S) (hr : S r = true) (hq' : S q = true) (hne : r ≠ q) (hb : od_Bd ρ) {u z : List Nat} {t : tm_T} (hy : od_hl ρ q (u ++ (tm_t t ++ z))) {a b : Nat} (ha : a = u.length) (hbb : b = a + (tm_t t).length) : od_W 2 15 0 (od_ent 15 [.ref r, .ref q, .int (nI a), .int (nI b)]) [] (od_cm S M ρ) (od_Re S M ρ [r] True none (fun ρ' => od_hl ρ' r t.1)) := by
  have e0 : od_ent 15 [.ref r, .ref q, .int (nI a), .int (nI b)] = [some (.ref r), some (.ref q), some (.int (nI a)), some (.int (nI b))] := rfl
  rw [e0]
  rw [tm_t_len] at hbb
  refine od_W.rn (pc' := 8) (ls' := [some (.ref _), some (.ref _), some (.int _), some (.int _)]) (st' := [.int _, .int _, .ref _, .ref _]) 8 rfl ?_
  have e1 : nI a + 1 = nI (a + 1) := nI_1 a
  have e2 : nI b - 2 = nI (b - 2) := nI_subI (a := 2) (by omega)
  show od_W 2 15 8 [some (.ref r), some (.ref q), some (.int (nI a)), some (.int (nI b))] [.int (nI b - 2), .int (nI a + 1), .ref q, .ref r] (od_cm S M ρ) _
  rw [e1, e2]
  refine od_rV (as := [.ref q, .int (nI (a + 1)), .int (nI (b - 2))]) rfl rfl rfl rfl (od_cm_r hr) rfl (Nat.le_of_ble_eq_true rfl) (Nat.le_of_ble_eq_true rfl) (lt_becomePart hS hr hq' hne hb (u := u ++ [1]) (w := t.1) (z := [0, t.2] ++ z) (by simpa [tm_t] using hy) (by simp [ha]) (by omega)) (Nat.le_of_ble_eq_true rfl) (fun o M1 hq => ?_)
  refine od_Re.kp hq rfl (by simp) (od_fr0 ρ [r]) (fun z => z) (fun ρ1 f1 g1 b1 p1 k1 => ?_)
  refine od_W.fin rfl ?_
  exact od_Re.yes g1 b1 k1 p1
theorem lt_becomeTerm (hS : od_SS S) (hr : S r = true) (hq' : S q = true) (hne : r ≠ q) (hb : od_Bd ρ) (hy : od_hl ρ q ys) {c : Nat} (hc : c < 2 ^ 63) : od_W 4 17 0 (od_ent 17 [.ref r, .ref q, .long (lN c)]) [] (od_cm S M ρ) (od_Re S M ρ [r] (tm_ft (tm_t (ys, c))) none (fun ρ' => od_hl ρ' r (tm_t (ys, c)))) := by
  have e0 : od_ent 17 [.ref r, .ref q, .long (lN c)] = [some (.ref r), some (.ref q), some (.long (lN c)), none] := rfl
  rw [e0]
  refine od_W.rn (pc' := 2) (ls' := [some (.ref _), some (.ref _), some (.long _), none]) (st' := [.int _, .ref _]) 2 rfl ?_
  refine od_rP rfl (od_cm_r hr) rfl (by simp) rfl (by decide) ?_
  have em : od_set (od_cm S M ρ) r (od_ob 0 ([Value.ref (r + 1), Value.int (nI (ρ r).1)].set 1 (.int (Int32.ofInt 0)))) = od_cm S M (od_rs ρ r (0, (ρ r).2)) := by
    rw [← od_cm_wr hS hr]
    exact od_wr_len (od_cm_Rw hS hr (hb r))
  rw [em]
  have hb1 : od_Bd (od_rs ρ r (0, (ρ r).2)) := by
    intro a
    by_cases e : a = r
    · subst e; rw [od_rs_r]; omega
    · rw [od_rs_o e]; exact hb a
  have hx1 : od_hl (od_rs ρ r (0, (ρ r).2)) r [] := by
    refine ⟨?_, fun x hx => (List.not_mem_nil hx).elim⟩
    rw [od_rs_r]
    exact ⟨rfl, tm_at_nil _ _⟩
  have hf1 : ∀ a, a ∉ [r] → od_rs ρ r (0, (ρ r).2) a = ρ a := fun a ha => od_rs_o (fun z => ha (by rw [z]; exact List.mem_singleton.mpr rfl))
  have hy1 := hy.fr (hf1 q (by simpa using Ne.symm hne))
  refine od_W.rn (pc' := 8) (ls' := [some (.ref _), some (.ref _), some (.long _), none]) (st' := [.long _, .ref _, .ref _]) 3 rfl ?_
  refine od_rV (as := [.ref q, .long (lN c)]) rfl rfl rfl rfl (od_cm_r hr) rfl (Nat.le_of_ble_eq_true rfl) (Nat.le_of_ble_eq_true rfl) (lt_putTerm hS hr hq' hne hb1 hx1 hy1 hc) (Nat.le_of_ble_eq_true rfl) (fun o M1 hq => ?_)
  refine od_Re.kp hq rfl (by simp) (hf1) (fun z => z) (fun ρ1 f1 g1 b1 p1 k1 => ?_)
  refine od_W.fin rfl ?_
  exact od_Re.yes g1 b1 k1 p1
theorem lN_pos {c : Nat} (h0 : 0 < c) (hc : c < 2 ^ 63) : ¬ lN c ≤ 0 := fun z => absurd ((pk_lLE (b := 0) hc (by omega)).mp z) (by omega)
/-- a term of q put again, with a coefficient of its own -/
theorem lt_putTermAgain (hS : od_SS S) (hr : S r = true) (hq' : S q = true) (hne : r ≠ q) (hb : od_Bd ρ) (hx : od_hl ρ r xs) {u z : List Nat} {t : tm_T} (hy : od_hl ρ q (u ++ (tm_t t ++ z))) {a b c : Nat} (ha : a = u.length) (hbb : b = a + (tm_t t).length) (h0 : 0 < c) (hc : c < 2 ^ 63) : od_W 2 25 0 (od_ent 25 [.ref r, .ref q, .int (nI a), .int (nI b), .long (lN c)]) [] (od_cm S M ρ) (od_Re S M ρ [r] (tm_ft (xs ++ tm_t (t.1, c))) none (fun ρ' => od_hl ρ' r (xs ++ tm_t (t.1, c)))) := by
  have e0 : od_ent 25 [.ref r, .ref q, .int (nI a), .int (nI b), .long (lN c)] = [some (.ref r), some (.ref q), some (.int (nI a)), some (.int (nI b)), some (.long (lN c)), none] := rfl
  rw [e0]
  have e : xs ++ tm_t (t.1, c) = (xs ++ (1 :: (t.1 ++ [0]))) ++ [c] := by simp [tm_t]
  rw [e]
  rw [tm_t_len] at hbb
  refine od_W.rn (pc' := 4) (ls' := [some (.ref _), some (.ref _), some (.int _), some (.int _), some (.long _), none]) (st' := [.int _]) 3 rfl ?_
  refine od_r1F rfl (of_decide_eq_true rfl) ((od_lc_le _ _).trans (decide_eq_false (lN_pos h0 hc))) ?_
  refine od_W.rn (pc' := 13) (ls' := [some (.ref _), some (.ref _), some (.int _), some (.int _), some (.long _), none]) (st' := [.int _, .int _, .ref _, .ref _]) 6 rfl ?_
  have e2 : nI b - 1 = nI (b - 1) := nI_subI (a := 1) (by omega)
  show od_W 2 25 13 [some (.ref r), some (.ref q), some (.int (nI a)), some (.int (nI b)), some (.long (lN c)), none] [.int (nI b - 1), .int (nI a), .ref q, .ref r] (od_cm S M ρ) _
  rw [e2]
  refine od_rV (as := [.ref q, .int (nI a), .int (nI (b - 1))]) rfl rfl rfl rfl (od_cm_r hr) rfl (Nat.le_of_ble_eq_true rfl) (Nat.le_of_ble_eq_true rfl) (lt_putPart hS hr hq' hne hb hx (u := u) (w := 1 :: (t.1 ++ [0])) (z := [t.2] ++ z) (by simpa [tm_t] using hy) ha (by simp; omega)) (Nat.le_of_ble_eq_true rfl) (fun o M1 hq => ?_)
  refine od_Re.kp hq rfl (by simp) (od_fr0 ρ [r]) (fun z => tm_ft_l z) (fun ρ1 f1 g1 b1 p1 k1 => ?_)
  refine od_W.rn (pc' := 19) (ls' := [some (.ref _), some (.ref _), some (.int _), some (.int _), some (.long _), none]) (st' := [.long _, .ref _]) 2 rfl ?_
  refine od_rV (as := [.long (lN c)]) rfl rfl rfl rfl (od_cm_r hr) rfl (Nat.le_of_ble_eq_true rfl) (Nat.le_of_ble_eq_true rfl) (lt_putCoefficient hS hr b1 p1 hc) (Nat.le_of_ble_eq_true rfl) (fun o M1 hq => ?_)
  refine od_Re.kp hq rfl (by simp) (g1) (fun z => z) (fun ρ2 f2 g2 b2 p2 k2 => ?_)
  refine od_W.fin rfl ?_
  exact od_Re.yes g2 b2 k2 p2
theorem lt_putTermAgain0 {v : Int64} {i j : Int32} (hv : v ≤ 0) (hb : od_Bd ρ) (hx : od_hl ρ r xs) : od_W 0 25 0 (od_ent 25 [.ref r, .ref q, .int i, .int j, .long v]) [] (od_cm S M ρ) (od_Re S M ρ [r] True none (fun ρ' => od_hl ρ' r xs)) := by
  have e0 : od_ent 25 [.ref r, .ref q, .int i, .int j, .long v] = [some (.ref r), some (.ref q), some (.int i), some (.int j), some (.long v), none] := rfl
  rw [e0]
  refine od_W.rn (pc' := 4) (ls' := [some (.ref _), some (.ref _), some (.int _), some (.int _), some (.long _), none]) (st' := [.int _]) 3 rfl ?_
  refine od_r1T rfl rfl ((od_lc_le _ _).trans (decide_eq_true hv)) ?_
  refine od_W.fin rfl ?_
  exact od_Re.yes (od_fr0 ρ _) hb trivial hx
end LT2
end
section
/-! What the operations make, as lists of terms. -/
theorem tm_cmp_is : ∀ (a b : List Nat), tm_cmp a b = -1 ∨ tm_cmp a b = 0 ∨ tm_cmp a b = 1 := by
  intro a
  induction a with
  | nil => intro b; cases b with
    | nil => exact Or.inr (Or.inl rfl)
    | cons y b => exact Or.inl rfl
  | cons x a ih => intro b; cases b with
    | nil => exact Or.inr (Or.inr rfl)
    | cons y b =>
      unfold tm_cmp
      by_cases h1 : x < y
      · exact Or.inl (if_pos h1)
      · rw [if_neg h1]
        by_cases h2 : y < x
        · exact Or.inr (Or.inr (if_pos h2))
        · rw [if_neg h2]; exact ih b
theorem tm_cmp_eq : ∀ {a b : List Nat}, tm_cmp a b = 0 → a = b := by
  intro a
  induction a with
  | nil => intro b h; cases b with
    | nil => rfl
    | cons y b => exact absurd (show (-1 : Int32) = 0 from h) (by decide)
  | cons x a ih => intro b h; cases b with
    | nil => exact absurd (show (1 : Int32) = 0 from h) (by decide)
    | cons y b =>
      unfold tm_cmp at h
      by_cases h1 : x < y
      · rw [if_pos h1] at h; exact absurd h (by decide)
      · rw [if_neg h1] at h
        by_cases h2 : y < x
        · rw [if_pos h2] at h; exact absurd h (by decide)
        · rw [if_neg h2] at h
          rw [ih h, show x = y by omega]
theorem tm_cmp_self : ∀ (a : List Nat), tm_cmp a a = 0 := by
  intro a
  induction a with
  | nil => rfl
  | cons x a ih => unfold tm_cmp; rw [if_neg (by omega), if_neg (by omega)]; exact ih
/-- a row cut behind the part in which depth d closes -/
def tm_cut : Nat → List Nat → List Nat × List Nat
  | d, 1 :: r => (1 :: (tm_cut (d + 1) r).1, (tm_cut (d + 1) r).2)
  | d + 1, 0 :: c :: r => (0 :: c :: (tm_cut d r).1, (tm_cut d r).2)
  | _, r => ([], r)
theorem tm_cut_1 (d : Nat) (r : List Nat) : tm_cut d (1 :: r) = (1 :: (tm_cut (d + 1) r).1, (tm_cut (d + 1) r).2) := by
  cases d <;> rfl
theorem tm_cut_W : ∀ (n : Nat) (e : List Nat), e.length ≤ n → tm_W e → ∀ (d : Nat) (r : List Nat), tm_cut d (e ++ r) = (e ++ (tm_cut d r).1, (tm_cut d r).2) := by
  intro n
  induction n with
  | zero => intro e he _ d r; rw [List.length_eq_zero_iff.mp (by omega : e.length = 0)]; rfl
  | succ n ih =>
    intro e he hW d r
    rcases tm_cases hW with rfl | ⟨e1, c, r1, rfl, h1, h2, h3⟩
    · rfl
    · simp only [List.length_cons, List.length_append] at he
      have ea : 1 :: (e1 ++ 0 :: c :: r1) ++ r = 1 :: (e1 ++ (0 :: c :: (r1 ++ r))) := by simp
      have eb : tm_cut (d + 1) (0 :: c :: (r1 ++ r)) = (0 :: c :: (tm_cut d (r1 ++ r)).1, (tm_cut d (r1 ++ r)).2) := rfl
      rw [ea, tm_cut_1, ih e1 (by omega) h1, eb, ih r1 (by omega) h3]
      simp
def tm_ps : Nat → List Nat → List tm_T
  | n + 1, 1 :: r => match (tm_cut 0 r).2 with
    | 0 :: c :: s => ((tm_cut 0 r).1, c) :: tm_ps n s
    | _ => []
  | _, _ => []
theorem tm_ps_1 (n : Nat) (r : List Nat) : tm_ps (n + 1) (1 :: r) = match (tm_cut 0 r).2 with
    | 0 :: c :: s => ((tm_cut 0 r).1, c) :: tm_ps n s
    | _ => [] := rfl
theorem tm_ps_fl : ∀ (ts : List tm_T) (n : Nat), tm_al ts → ts.length ≤ n → tm_ps n (tm_fl ts) = ts := by
  intro ts
  induction ts with
  | nil => intro n _ _; cases n <;> rfl
  | cons t ts ih =>
    intro n hal hn
    cases n with
    | zero => simp at hn
    | succ n =>
      have e : tm_fl (t :: ts) = 1 :: (t.1 ++ (0 :: t.2 :: tm_fl ts)) := by simp [tm_fl, tm_t]
      have e2 : tm_cut 0 (t.1 ++ (0 :: t.2 :: tm_fl ts)) = (t.1, 0 :: t.2 :: tm_fl ts) := by
        rw [tm_cut_W _ t.1 (Nat.le_refl _) hal.1.1, show tm_cut 0 (0 :: t.2 :: tm_fl ts) = ([], 0 :: t.2 :: tm_fl ts) from rfl, List.append_nil]
      rw [e, tm_ps_1, e2]
      show (t.1, t.2) :: tm_ps n (tm_fl ts) = t :: ts
      rw [ih n hal.2 (by simp at hn; omega)]
/-- the terms of a row -/
def tm_tp (xs : List Nat) : List tm_T := tm_ps xs.length xs
theorem tm_tp_fl {ts : List tm_T} (h : tm_al ts) : tm_tp (tm_fl ts) = ts := tm_ps_fl ts _ h (by have := tm_fl_len ts; omega)
theorem tm_fl_tp {xs : List Nat} (h : tm_W xs) : tm_fl (tm_tp xs) = xs := by
  obtain ⟨ts, rfl, h2⟩ := tm_terms h
  rw [tm_tp_fl h2]
theorem tm_al_tp {xs : List Nat} (h : tm_W xs) : tm_al (tm_tp xs) := by
  obtain ⟨ts, rfl, h2⟩ := tm_terms h
  rw [tm_tp_fl h2]
  exact h2
/-- a sum: the terms that stay before u, and the coefficient with which u follows -/
def sp_kp (u : tm_T) : List tm_T → List tm_T × Nat
  | [] => ([], u.2)
  | t :: ts => if tm_cmp t.1 u.1 = 1 then (t :: (sp_kp u ts).1, (sp_kp u ts).2) else if tm_cmp t.1 u.1 = 0 then ([], u.2 + t.2) else ([], u.2)
def sp_sum (ts : List tm_T) : List tm_T → List tm_T
  | [] => ts
  | u :: us => (sp_kp u ts).1 ++ (u.1, (sp_kp u ts).2) :: us
theorem sp_kp_pre (u : tm_T) : ∀ ts : List tm_T, ∃ r, ts = (sp_kp u ts).1 ++ r := by
  intro ts
  induction ts with
  | nil => exact ⟨[], rfl⟩
  | cons t ts ih =>
    unfold sp_kp
    by_cases h1 : tm_cmp t.1 u.1 = 1
    · obtain ⟨r, hr⟩ := ih
      rw [if_pos h1]
      exact ⟨r, by dsimp only; rw [List.cons_append, ← hr]⟩
    · rw [if_neg h1]
      by_cases h2 : tm_cmp t.1 u.1 = 0
      · rw [if_pos h2]; exact ⟨t :: ts, rfl⟩
      · rw [if_neg h2]; exact ⟨t :: ts, rfl⟩
theorem sp_kp_c {u : tm_T} (hu : tm_ok u) : ∀ {ts : List tm_T}, tm_al ts → 1 ≤ (sp_kp u ts).2 ∧ (sp_kp u ts).2 ≤ 2000000 := by
  intro ts
  have := hu.2
  unfold tm_c at this
  induction ts with
  | nil => intro _; unfold sp_kp; dsimp only; omega
  | cons t ts ih =>
    intro h
    have ht := h.1.2
    unfold tm_c at ht
    unfold sp_kp
    by_cases h1 : tm_cmp t.1 u.1 = 1
    · rw [if_pos h1]; exact ih h.2
    · rw [if_neg h1]
      by_cases h2 : tm_cmp t.1 u.1 = 0
      · rw [if_pos h2]; dsimp only; omega
      · rw [if_neg h2]; dsimp only; omega
theorem tm_al_kp {u : tm_T} {ts : List tm_T} (h : tm_al ts) : tm_al (sp_kp u ts).1 := by
  obtain ⟨r, hr⟩ := sp_kp_pre u ts
  rw [hr] at h
  exact (tm_al_app.mp h).1
theorem tm_sm_t {t : tm_T} : tm_sm (tm_t t) ↔ tm_sm t.1 ∧ t.2 ≤ 1000000 := by
  unfold tm_t
  rw [tm_sm_cons, tm_sm_app, tm_sm_cons]
  unfold tm_sm
  simp
theorem sp_sum_al {ts us : List tm_T} (h1 : tm_al ts) (h2 : tm_al us) (hf : tm_sm (tm_fl (sp_sum ts us))) : tm_al (sp_sum ts us) := by
  cases us with
  | nil => exact h1
  | cons u us =>
    unfold sp_sum at hf ⊢
    rw [tm_fl_app, tm_sm_app, tm_fl, tm_sm_app, tm_sm_t] at hf
    have hc := sp_kp_c (u := u) h2.1 h1
    exact tm_al_app.mpr ⟨tm_al_kp h1, ⟨h2.1.1, hc.1, hf.2.1.2⟩, h2.2⟩
end
section
/-! Reads by lists; sums. -/
section RD
variable {S : Nat → Bool} {M : od_M} {ρ : od_Rm} {Q : od_O → od_M → Prop} {p q r : Nat} {u z u' z' : List Nat} {t t' : tm_T}
theorem nI_inc (n : Nat) : nI n + Int32.ofInt 1 = nI (n + 1) := nI_add n 1
theorem od_hl.tt (hy : od_hl ρ q (u ++ (tm_t t ++ z))) : tm_at (ρ q).2 u.length (tm_t t) ∧ u.length + (tm_t t).length ≤ (ρ q).1 := by
  have h1 := hy.at
  have h2 := hy.n
  rw [tm_at_app, tm_at_app, Nat.zero_add] at h1
  rw [List.length_append, List.length_append] at h2
  exact ⟨h1.2.1, by omega⟩
theorem lt_termEnd (hS : od_SS S) (hq' : S q = true) (hb : od_Bd ρ) (ht : tm_ok t) (hy : od_hl ρ q (u ++ (tm_t t ++ z))) {a : Nat} (ha : a = u.length) : od_W 0 9 0 (od_ent 9 [.ref q, .int (nI a)]) [] (od_cm S M ρ) (fun o M' => o = .inl (some (.int (nI (a + (tm_t t).length)))) ∧ M' = od_cm S M ρ) := by
  subst ha
  obtain ⟨h1, h2⟩ := hy.tt
  have := ct_termEnd (M := M) hS hq' rfl (hb q) ht.1 h1 (by rw [tm_t_len] at h2; omega)
  rw [tm_t_len, ← Nat.add_assoc]
  exact this
theorem lt_coefficient (hS : od_SS S) (hq' : S q = true) (hb : od_Bd ρ) (hy : od_hl ρ q (u ++ (tm_t t ++ z))) {a : Nat} (ha : a = u.length + (tm_t t).length) : od_W 0 8 0 (od_ent 8 [.ref q, .int (nI a)]) [] (od_cm S M ρ) (fun o M' => o = .inl (some (.int (nI t.2))) ∧ M' = od_cm S M ρ) := by
  subst ha
  obtain ⟨h1, h2⟩ := hy.tt
  unfold tm_t at h1
  rw [tm_at_cons, tm_at_app, tm_at_cons, tm_at_cons] at h1
  rw [tm_t_len] at h2 ⊢
  have := ct_coefficient (M := M) hS hq' rfl (hb q) (e := u.length + 1 + t.1.length + 1) (by omega) h1.2.2.2.1
  rw [show u.length + 1 + t.1.length + 1 + 1 = u.length + (t.1.length + 3) by omega] at this
  exact this
theorem lt_oe (hS : od_SS S) (hp : S p = true) (hq' : S q = true) (hb : od_Bd ρ) (hx : od_hl ρ p (u ++ (tm_t t ++ z))) (hy : od_hl ρ q (u' ++ (tm_t t' ++ z'))) {a b c d : Nat} (ha : a = u.length) (hc : c = a + (tm_t t).length) (hb' : b = u'.length) (hd : d = b + (tm_t t').length) : od_W 2 27 0 (od_ent 27 [.ref p, .int (nI a), .int (nI c), .ref q, .int (nI b), .int (nI d)]) [] (od_cm S M ρ) (fun o M' => o = .inl (some (.int (tm_cmp t.1 t'.1))) ∧ M' = od_cm S M ρ) := by
  subst ha
  subst hb'
  subst hc
  subst hd
  obtain ⟨h1, h2⟩ := hx.tt
  obtain ⟨h3, h4⟩ := hy.tt
  have s1 := (tm_sm_t.mp (tm_sm_app.mp (tm_sm_app.mp hx.2).2).1).1
  have s2 := (tm_sm_t.mp (tm_sm_app.mp (tm_sm_app.mp hy.2).2).1).1
  have l1 := hb p
  have l2 := hb q
  rw [tm_t_len] at h2 h4 ⊢
  rw [tm_t_len]
  have := ct_orderOfExponents (M := M) hS hp hq' (by omega) (by omega) s1 s2 h1 h3
  rw [Nat.add_assoc, Nat.add_assoc] at this
  exact this
theorem lt_isZero (hS : od_SS S) (hq' : S q = true) (hb : od_Bd ρ) {xs : List Nat} (hy : od_hl ρ q xs) : od_W 0 1 0 (od_ent 1 [.ref q]) [] (od_cm S M ρ) (fun o M' => o = .inl (some (.int (if xs = [] then 1 else 0))) ∧ M' = od_cm S M ρ) := by
  have := ct_isZero (od_cm_Rw (M := M) hS hq' (hb q))
  rw [hy.n] at this
  refine this.mono fun o M' h => ⟨?_, h.2⟩
  rw [h.1]
  cases xs with
  | nil => rfl
  | cons x xs => rw [if_neg (by simp), if_neg (by simp)]
end RD
section SUM
variable {S : Nat → Bool} {M : od_M} {ρ : od_Rm} {Q : od_O → od_M → Prop} {a b out : Nat}
theorem nI_1000 {n : Nat} (h : n ≤ 1000000) : (nI n).toInt64 = lN n := nI_l (by omega)
theorem cl_sum_loop (hS : od_SS S) (ha : S a = true) (hb' : S b = true) (hb : od_Bd ρ) {u : tm_T} {us : List tm_T} (hy : od_hl ρ b (tm_t u ++ tm_fl us)) {be : Nat} (hbe : be = (tm_t u).length) : ∀ (todo done : List tm_T) (w8 w9 : Option Value), tm_al todo → od_hl ρ a (tm_fl done ++ tm_fl todo) → (∀ w8 w9 wt, od_W 3 30 105 [some (.ref a), some (.ref b), some (.ref out), some (.int (nI be)), some (.long (lN (sp_kp u todo).2)), none, some (.int (nI (tm_fl (done ++ (sp_kp u todo).1)).length)), some (.int wt), w8, w9] [] (od_cm S M ρ) Q) → od_W 3 30 33 [some (.ref a), some (.ref b), some (.ref out), some (.int (nI be)), some (.long (lN u.2)), none, some (.int (nI (tm_fl done).length)), some (.int (nI done.length)), w8, w9] [] (od_cm S M ρ) Q := by
  intro todo
  induction todo with
  | nil =>
    intro done w8 w9 _ hx hk
    have hl := hx.n
    have h60 := hx.le hb
    have h3 := tm_fl_len done
    rw [tm_fl, List.append_nil] at hl h60
    rw [show sp_kp u [] = ([], u.2) from rfl, List.append_nil] at hk
    by_cases h20 : done.length < 20
    · refine od_W.rn (pc' := 37) (ls' := [some (.ref _), some (.ref _), some (.ref _), some (.int _), some (.long _), none, some (.int _), some (.int _), _, _]) (st' := [.int _, .int _]) 2 rfl ?_
      refine od_r2F rfl (of_decide_eq_true rfl) (decide_eq_false (nI_ge (b := 20) h20 (by omega))) ?_
      refine od_W.rn (pc' := 43) (ls' := [some (.ref _), some (.ref _), some (.ref _), some (.int _), some (.long _), none, some (.int _), some (.int _), _, _]) (st' := [.ref _, .int _]) 2 rfl ?_
      refine od_gL rfl rfl (ha) (hl) ?_
      refine od_r2T rfl rfl (decide_eq_true (nI_le (Nat.le_refl _) (by omega))) ?_
      exact hk _ _ _
    · refine od_W.rn (pc' := 37) (ls' := [some (.ref _), some (.ref _), some (.ref _), some (.int _), some (.long _), none, some (.int _), some (.int _), _, _]) (st' := [.int _, .int _]) 2 rfl ?_
      refine od_r2T rfl rfl (decide_eq_true (nI_le (a := 20) (by omega) (by omega))) ?_
      exact hk _ _ _
  | cons t todo ih =>
    intro done w8 w9 hal hx hk
    have hl := hx.n
    have h60 := hx.le hb
    have h3 := tm_fl_len done
    rw [tm_fl, List.length_append, List.length_append, tm_t_len] at hl h60
    have hx2 : od_hl ρ a (tm_fl done ++ (tm_t t ++ tm_fl todo)) := hx
    refine od_W.rn (pc' := 37) (ls' := [some (.ref _), some (.ref _), some (.ref _), some (.int _), some (.long _), none, some (.int _), some (.int _), _, _]) (st' := [.int _, .int _]) 2 rfl ?_
    refine od_r2F rfl (of_decide_eq_true rfl) (decide_eq_false (nI_ge (b := 20) (by omega) (by omega))) ?_
    refine od_W.rn (pc' := 43) (ls' := [some (.ref _), some (.ref _), some (.ref _), some (.int _), some (.long _), none, some (.int _), some (.int _), _, _]) (st' := [.ref _, .int _]) 2 rfl ?_
    refine od_gL rfl rfl (ha) (hl) ?_
    refine od_r2F rfl (of_decide_eq_true rfl) (decide_eq_false (nI_ge (by omega) (by omega))) ?_
    refine od_W.rn (pc' := 52) (ls' := [some (.ref _), some (.ref _), some (.ref _), some (.int _), some (.long _), none, some (.int _), some (.int _), _, _]) (st' := [.int _, .ref _]) 2 rfl ?_
    refine od_rV (as := [.int (nI (tm_fl done).length)]) rfl rfl rfl rfl (od_cm_r ha) rfl (Nat.le_of_ble_eq_true rfl) (Nat.le_of_ble_eq_true rfl) (lt_termEnd hS ha hb hal.1 hx2 rfl) (Nat.le_of_ble_eq_true rfl) (fun o M1 hq => ?_)
    obtain ⟨rfl, rfl⟩ := hq
    refine od_K.ret ?_
    refine od_W.rn (pc' := 65) (ls' := [some (.ref _), some (.ref _), some (.ref _), some (.int _), some (.long _), none, some (.int _), some (.int _), some (.int _), _]) (st' := [.int _, .int _, .ref _, .int _, .int _, .ref _]) 7 rfl ?_
    refine od_rSt (as := [.ref a, .int (nI (tm_fl done).length), .int (nI ((tm_fl done).length + (tm_t t).length)), .ref b, .int (nI 0), .int (nI be)]) rfl rfl rfl rfl (Nat.le_of_ble_eq_true rfl) (Nat.le_of_ble_eq_true rfl) (lt_oe hS ha hb' hb hx2 (u' := []) hy rfl rfl rfl (by rw [hbe]; omega)) (Nat.le_of_ble_eq_true rfl) (fun o M1 hq => ?_)
    obtain ⟨rfl, rfl⟩ := hq
    refine od_K.ret ?_
    have e : (tm_fl done).length + (tm_t t).length = (tm_fl (done ++ [t])).length := by rw [tm_fl_snoc, List.length_append]
    refine od_W.rn (pc' := 72) (ls' := [some (.ref _), some (.ref _), some (.ref _), some (.int _), some (.long _), none, some (.int _), some (.int _), some (.int _), some (.int _)]) (st' := [.int _]) 2 rfl ?_
    rcases tm_cmp_is t.1 u.1 with hc | hc | hc
    · rw [hc]
      rw [show sp_kp u (t :: todo) = ([], u.2) by unfold sp_kp; rw [if_neg (by rw [hc]; decide), if_neg (by rw [hc]; decide)], List.append_nil] at hk
      refine od_r1T rfl rfl (rfl) ?_
      refine od_W.rn (pc' := 89) (ls' := [some (.ref _), some (.ref _), some (.ref _), some (.int _), some (.long _), none, some (.int _), some (.int _), some (.int _), some (.int _)]) (st' := [.int _]) 1 rfl ?_
      refine od_r1F rfl (of_decide_eq_true rfl) (rfl) ?_
      refine od_W.rn (pc' := 105) (ls' := [some (.ref _), some (.ref _), some (.ref _), some (.int _), some (.long _), none, some (.int _), some (.int _), some (.int _), some (.int _)]) (st' := []) 1 rfl ?_
      exact hk _ _ _
    · rw [hc]
      rw [show sp_kp u (t :: todo) = ([], u.2 + t.2) by unfold sp_kp; rw [if_neg (by rw [hc]; decide), if_pos hc], List.append_nil] at hk
      refine od_r1F rfl (of_decide_eq_true rfl) (rfl) ?_
      refine od_W.rn (pc' := 80) (ls' := [some (.ref _), some (.ref _), some (.ref _), some (.int _), some (.long _), none, some (.int _), some (.int _), some (.int _), some (.int _)]) (st' := [.int _, .ref _, .long _]) 3 rfl ?_
      refine od_rV (as := [.int (nI ((tm_fl done).length + (tm_t t).length))]) rfl rfl rfl rfl (od_cm_r ha) rfl (Nat.le_of_ble_eq_true rfl) (Nat.le_of_ble_eq_true rfl) (lt_coefficient hS ha hb hx2 rfl) (Nat.le_of_ble_eq_true rfl) (fun o M1 hq => ?_)
      obtain ⟨rfl, rfl⟩ := hq
      refine od_K.ret ?_
      refine od_W.rn (pc' := 87) (ls' := [some (.ref _), some (.ref _), some (.ref _), some (.int _), some (.long _), none, some (.int _), some (.int _), some (.int _), some (.int _)]) (st' := []) 3 rfl ?_
      rw [nI_1000 hal.1.2.2, lN_add]
      refine od_W.rn (pc' := 89) (ls' := [some (.ref _), some (.ref _), some (.ref _), some (.int _), some (.long _), none, some (.int _), some (.int _), some (.int _), some (.int _)]) (st' := [.int _]) 1 rfl ?_
      refine od_r1F rfl (of_decide_eq_true rfl) (rfl) ?_
      refine od_W.rn (pc' := 105) (ls' := [some (.ref _), some (.ref _), some (.ref _), some (.int _), some (.long _), none, some (.int _), some (.int _), some (.int _), some (.int _)]) (st' := []) 1 rfl ?_
      exact hk _ _ _
    · rw [hc]
      rw [show sp_kp u (t :: todo) = (t :: (sp_kp u todo).1, (sp_kp u todo).2) by conv => lhs; unfold sp_kp; rw [if_pos hc]] at hk
      refine od_r1T rfl rfl (rfl) ?_
      refine od_W.rn (pc' := 89) (ls' := [some (.ref _), some (.ref _), some (.ref _), some (.int _), some (.long _), none, some (.int _), some (.int _), some (.int _), some (.int _)]) (st' := [.int _]) 1 rfl ?_
      refine od_r1T rfl rfl (rfl) ?_
      refine od_W.rn (pc' := 33) (ls' := [some (.ref _), some (.ref _), some (.ref _), some (.int _), some (.long _), none, some (.int _), some (.int _), some (.int _), some (.int _)]) (st' := []) 4 rfl ?_
      rw [e, nI_inc done.length, show done.length + 1 = (done ++ [t]).length by simp]
      refine ih (done ++ [t]) _ _ hal.2 (by rw [tm_fl_snoc, List.append_assoc]; exact hx2) ?_
      rw [List.append_assoc]
      exact hk
theorem lt_makeSum (hS : od_SS S) (ha : S a = true) (hb' : S b = true) (ho : S out = true) (na : out ≠ a) (nb : out ≠ b) (hb : od_Bd ρ) {ts us : List tm_T} (h1 : tm_al ts) (h2 : tm_al us) (hx : od_hl ρ a (tm_fl ts)) (hy : od_hl ρ b (tm_fl us)) : od_W 3 30 0 (od_ent 30 [.ref a, .ref b, .ref out]) [] (od_cm S M ρ) (od_Re S M ρ [out] (tm_ft (tm_fl (sp_sum ts us))) none (fun ρ' => od_hl ρ' out (tm_fl (sp_sum ts us)))) := by
  have e0 : od_ent 30 [.ref a, .ref b, .ref out] = [some (.ref a), some (.ref b), some (.ref out), none, none, none, none, none, none, none] := rfl
  rw [e0]
  refine od_W.rn (pc' := 1) (ls' := [some (.ref _), some (.ref _), some (.ref _), none, none, none, none, none, none, none]) (st' := [.ref _]) 1 rfl ?_
  refine od_rV (as := []) rfl rfl rfl rfl (od_cm_r hb') rfl (Nat.le_of_ble_eq_true rfl) (Nat.le_of_ble_eq_true rfl) (lt_isZero hS hb' hb hy) (Nat.le_of_ble_eq_true rfl) (fun o M1 hq => ?_)
  obtain ⟨rfl, rfl⟩ := hq
  refine od_K.ret ?_
  cases us with
  | nil =>
    refine od_r1F rfl (of_decide_eq_true rfl) (rfl) ?_
    refine od_W.rn (pc' := 9) (ls' := [some (.ref _), some (.ref _), some (.ref _), none, none, none, none, none, none, none]) (st' := [.ref _, .ref _]) 2 rfl ?_
    refine od_rV (as := [.ref a]) rfl rfl rfl rfl (od_cm_r ho) rfl (Nat.le_of_ble_eq_true rfl) (Nat.le_of_ble_eq_true rfl) (lt_become hS ho ha na hb hx) (Nat.le_of_ble_eq_true rfl) (fun o M1 hq => ?_)
    refine od_Re.kp hq rfl (by simp) (od_fr0 ρ [out]) (fun _ => trivial) (fun ρ1 f1 g1 b1 p1 k1 => ?_)
    refine od_W.fin rfl ?_
    exact od_Re.yes g1 b1 ⟨hx.le hb, hx.2⟩ p1
  | cons u us =>
    have hy2 : od_hl ρ b ([] ++ (tm_t u ++ tm_fl us)) := hy
    have hyl := hy.n
    have hy60 := hy.le hb
    rw [tm_fl, List.length_append] at hyl hy60
    refine od_r1T rfl rfl (rfl) ?_
    refine od_W.rn (pc' := 15) (ls' := [some (.ref _), some (.ref _), some (.ref _), none, none, none, none, none, none, none]) (st' := [.int _, .ref _]) 2 rfl ?_
    refine od_rV (as := [.int (nI 0)]) rfl rfl rfl rfl (od_cm_r hb') rfl (Nat.le_of_ble_eq_true rfl) (Nat.le_of_ble_eq_true rfl) (lt_termEnd hS hb' hb h2.1 hy2 rfl) (Nat.le_of_ble_eq_true rfl) (fun o M1 hq => ?_)
    obtain ⟨rfl, rfl⟩ := hq
    refine od_K.ret ?_
    refine od_W.rn (pc' := 21) (ls' := [some (.ref _), some (.ref _), some (.ref _), some (.int _), none, none, none, none, none, none]) (st' := [.int _, .ref _]) 3 rfl ?_
    refine od_rV (as := [.int (nI (0 + (tm_t u).length))]) rfl rfl rfl rfl (od_cm_r hb') rfl (Nat.le_of_ble_eq_true rfl) (Nat.le_of_ble_eq_true rfl) (lt_coefficient hS hb' hb hy2 (by simp)) (Nat.le_of_ble_eq_true rfl) (fun o M1 hq => ?_)
    obtain ⟨rfl, rfl⟩ := hq
    refine od_K.ret ?_
    refine od_W.rn (pc' := 33) (ls' := [some (.ref _), some (.ref _), some (.ref _), some (.int _), some (.long _), none, some (.int _), some (.int _), none, none]) (st' := []) 6 rfl ?_
    rw [nI_1000 h2.1.2.2, Nat.zero_add]
    refine cl_sum_loop (out := out) hS ha hb' hb hy rfl ts [] none none h1 hx (fun w8 w9 wt => ?_)
    rw [List.nil_append]
    obtain ⟨rs, hrs⟩ := sp_kp_pre u ts
    have hx2 : od_hl ρ a ([] ++ (tm_fl (sp_kp u ts).1 ++ tm_fl rs)) := by rw [List.nil_append, ← tm_fl_app, ← hrs]; exact hx
    have hc := sp_kp_c h2.1 h1
    have e : tm_fl (sp_sum ts (u :: us)) = (tm_fl (sp_kp u ts).1 ++ tm_t (u.1, (sp_kp u ts).2)) ++ tm_fl us := by
      show tm_fl ((sp_kp u ts).1 ++ (u.1, (sp_kp u ts).2) :: us) = _
      rw [tm_fl_app, tm_fl, List.append_assoc]
    rw [e]
    refine od_W.rn (pc' := 110) (ls' := [some (.ref _), some (.ref _), some (.ref _), some (.int _), some (.long _), none, some (.int _), some (.int _), _, _]) (st' := [.int _, .int _, .ref _, .ref _]) 4 rfl ?_
    refine od_rV (as := [.ref a, .int (nI 0), .int (nI (tm_fl (sp_kp u ts).1).length)]) rfl rfl rfl rfl (od_cm_r ho) rfl (Nat.le_of_ble_eq_true rfl) (Nat.le_of_ble_eq_true rfl) (lt_becomePart hS ho ha na hb hx2 rfl (by omega)) (Nat.le_of_ble_eq_true rfl) (fun o M1 hq => ?_)
    refine od_Re.kp hq rfl (by simp) (od_fr0 ρ [out]) (fun _ => trivial) (fun ρ1 f1 g1 b1 p1 k1 => ?_)
    have hy3 := hy2.fr (f1 b (by simpa using Ne.symm nb))
    refine od_W.rn (pc' := 119) (ls' := [some (.ref _), some (.ref _), some (.ref _), some (.int _), some (.long _), none, some (.int _), some (.int _), _, _]) (st' := [.long _, .int _, .int _, .ref _, .ref _]) 5 rfl ?_
    refine od_rV (as := [.ref b, .int (nI 0), .int (nI (tm_t u).length), .long (lN (sp_kp u ts).2)]) rfl rfl rfl rfl (od_cm_r ho) rfl (Nat.le_of_ble_eq_true rfl) (Nat.le_of_ble_eq_true rfl) (lt_putTermAgain hS ho hb' nb b1 p1 hy3 rfl (by omega) (by omega) (by omega)) (Nat.le_of_ble_eq_true rfl) (fun o M1 hq => ?_)
    refine od_Re.kp hq rfl (by simp) (g1) (tm_ft_l) (fun ρ2 f2 g2 b2 p2 k2 => ?_)
    have hy4 := hy3.fr (f2 b (by simpa using Ne.symm nb))
    refine od_W.rn (pc' := 126) (ls' := [some (.ref _), some (.ref _), some (.ref _), some (.int _), some (.long _), none, some (.int _), some (.int _), _, _]) (st' := [.ref _, .int _, .ref _, .ref _]) 4 rfl ?_
    refine od_gL rfl rfl (hb') (hy4.n) ?_
    refine od_rV (as := [.ref b, .int (nI (tm_t u).length), .int (nI ([] ++ (tm_t u ++ tm_fl us)).length)]) rfl rfl rfl rfl (od_cm_r ho) rfl (Nat.le_of_ble_eq_true rfl) (Nat.le_of_ble_eq_true rfl) (lt_putPart hS ho hb' nb b2 p2 (u := tm_t u) (w := tm_fl us) (z := []) (by simpa using hy4) rfl (by simp)) (Nat.le_of_ble_eq_true rfl) (fun o M1 hq => ?_)
    refine od_Re.kp hq rfl (by simp) (g2) (fun z => z) (fun ρ3 f3 g3 b3 p3 k3 => ?_)
    refine od_W.fin rfl ?_
    exact od_Re.yes g3 b3 k3 p3
end SUM
end
section
/-! Products. -/
def sp_m1 (t : tm_T) (ts : List tm_T) (u : tm_T) : List tm_T := if u.1 = [] then (t.1, t.2 * u.2) :: ts else [(tm_fl (sp_sum (tm_tp t.1) (tm_tp u.1)), u.2)]
def sp_ml (t : tm_T) (ts : List tm_T) : List tm_T → List tm_T
  | [] => []
  | u :: us => sp_m1 t ts u ++ sp_ml t ts us
def sp_mul (ts us : List tm_T) : List tm_T := match ts with
  | [] => []
  | t :: ts' => sp_ml t ts' us
theorem tm_sm_in {a b j : List Nat} {c : Nat} (h : tm_sm (a ++ (tm_t (j, c) ++ b))) : tm_sm j := (tm_sm_t.mp (tm_sm_app.mp (tm_sm_app.mp h).2).1).1
theorem tm_ft_in {a b j : List Nat} {c : Nat} (h : tm_ft (a ++ (tm_t (j, c) ++ b))) : tm_ft j := by
  refine ⟨?_, tm_sm_in h.2⟩
  have := h.1
  rw [List.length_append, List.length_append, tm_t_len] at this
  dsimp only at this
  omega
theorem sp_m1_al {t u : tm_T} {ts : List tm_T} (h1 : tm_al (t :: ts)) (h2 : tm_ok u) (hf : tm_sm (tm_fl (sp_m1 t ts u))) : tm_al (sp_m1 t ts u) := by
  unfold sp_m1 at hf ⊢
  by_cases h : u.1 = []
  · rw [if_pos h] at hf ⊢
    rw [tm_fl, tm_sm_app, tm_sm_t] at hf
    exact ⟨⟨h1.1.1, Nat.mul_pos h1.1.2.1 h2.2.1, hf.1.2⟩, h1.2⟩
  · rw [if_neg h] at hf ⊢
    rw [tm_fl, tm_sm_app, tm_sm_t] at hf
    exact ⟨⟨tm_fl_W (sp_sum_al (tm_al_tp h1.1.1) (tm_al_tp h2.1) hf.1.1), h2.2⟩, trivial⟩
theorem sp_ml_al {t : tm_T} {ts : List tm_T} (h1 : tm_al (t :: ts)) : ∀ {us : List tm_T}, tm_al us → tm_sm (tm_fl (sp_ml t ts us)) → tm_al (sp_ml t ts us) := by
  intro us
  induction us with
  | nil => intro _ _; exact trivial
  | cons u us ih =>
    intro h2 hf
    unfold sp_ml at hf ⊢
    rw [tm_fl_app, tm_sm_app] at hf
    exact tm_al_app.mpr ⟨sp_m1_al h1 h2.1 hf.1, ih h2.2 hf.2⟩
theorem sp_mul_al {ts us : List tm_T} (h1 : tm_al ts) (h2 : tm_al us) (hf : tm_sm (tm_fl (sp_mul ts us))) : tm_al (sp_mul ts us) := by
  cases ts with
  | nil => exact trivial
  | cons t ts => exact sp_ml_al h1 h2 hf
/-- the object of arithmetic at x; its rows follow it -/
abbrev od_AR (M : od_M) (x : Nat) : Prop := M.2.2 x = some (od_ob 1 [.ref (x + 1), .ref (x + 3), .ref (x + 5), .ref (x + 7), .ref (x + 9), .ref (x + 11), .ref (x + 13), .ref (x + 15), .ref (x + 17), .ref (x + 19), .ref (x + 21), .ref (x + 23), .ref (x + 25)])
def od_ARs (S : Nat → Bool) (x : Nat) : Prop := od_no S x ∧ ∀ i, i < 13 → S (x + 1 + 2 * i) = true
theorem tm_c_mul {c d : Nat} (h1 : tm_c c) (h2 : tm_c d) : 0 < c * d ∧ c * d < 2 ^ 63 := by
  have := Nat.mul_le_mul h1.2 h2.2
  exact ⟨Nat.mul_pos h1.1 h2.1, by omega⟩
section MUL
variable {S : Nat → Bool} {M : od_M} {ρ0 : od_Rm} {x a b out : Nat}
set_option maxRecDepth 100000 in
theorem cl_mul_loop (hS : od_SS S) (hA : od_AR M x) (hR : od_ARs S x) (ha : S a = true) (hb' : S b = true) (ho : S out = true) (na : a ∉ [out, x + 1, x + 3, x + 5]) (nb : b ∉ [out, x + 1, x + 3, x + 5]) (no : out ∉ [x + 1, x + 3, x + 5]) {t : tm_T} {ts : List tm_T} (h1 : tm_al (t :: ts)) : ∀ (todo done : List tm_T) (ρ : od_Rm) (zs : List Nat) (w : Option Value), tm_al todo → od_Bd ρ → (∀ q, q ∉ [out, x + 1, x + 3, x + 5] → ρ q = ρ0 q) → od_hl ρ a (tm_t t ++ tm_fl ts) → od_hl ρ b (tm_fl done ++ tm_fl todo) → od_hl ρ out zs → od_hl ρ (x + 1) t.1 → od_W 4 31 36 [some (.ref x), some (.ref a), some (.ref b), some (.ref out), some (.int (nI (tm_t t).length)), some (.int (nI (tm_fl done).length)), some (.int (nI done.length)), w] [] (od_cm S M ρ) (od_Re S M ρ0 [out, x + 1, x + 3, x + 5] (tm_ft (zs ++ tm_fl (sp_ml t ts todo))) none (fun ρ' => od_hl ρ' out (zs ++ tm_fl (sp_ml t ts todo)))) := by
  have r1 : S (x + 1) = true := hR.2 0 (by omega)
  have r3 : S (x + 3) = true := hR.2 1 (by omega)
  have r5 : S (x + 5) = true := hR.2 2 (by omega)
  have hxn : od_no S x := hR.1
  simp only [List.mem_cons, List.not_mem_nil, or_false, not_or] at na nb no
  obtain ⟨na0, na1, na3, na5⟩ := na
  obtain ⟨nb0, nb1, nb3, nb5⟩ := nb
  obtain ⟨no1, no3, no5⟩ := no
  intro todo
  induction todo with
  | nil =>
    intro done ρ zs w _ hb g hx hy hz he
    have hl := hy.n
    have h60 := hy.le hb
    have h3 := tm_fl_len done
    rw [tm_fl, List.append_nil] at hl h60
    rw [show tm_fl (sp_ml t ts []) = [] from rfl, List.append_nil]
    have hf : tm_ft zs := ⟨hz.le hb, hz.2⟩
    by_cases h20 : done.length < 20
    · refine od_W.rn (pc' := 40) (ls' := [some (.ref _), some (.ref _), some (.ref _), some (.ref _), some (.int _), some (.int _), some (.int _), _]) (st' := [.int _, .int _]) 2 rfl ?_
      refine od_r2F rfl (of_decide_eq_true rfl) (decide_eq_false (nI_ge (b := 20) h20 (by omega))) ?_
      refine od_W.rn (pc' := 46) (ls' := [some (.ref _), some (.ref _), some (.ref _), some (.ref _), some (.int _), some (.int _), some (.int _), _]) (st' := [.ref _, .int _]) 2 rfl ?_
      refine od_gL rfl rfl (hb') (hl) ?_
      refine od_r2T rfl rfl (decide_eq_true (nI_le (Nat.le_refl _) (by omega))) ?_
      refine od_W.fin rfl ?_
      exact od_Re.yes g hb hf hz
    · refine od_W.rn (pc' := 40) (ls' := [some (.ref _), some (.ref _), some (.ref _), some (.ref _), some (.int _), some (.int _), some (.int _), _]) (st' := [.int _, .int _]) 2 rfl ?_
      refine od_r2T rfl rfl (decide_eq_true (nI_le (a := 20) (by omega) (by omega))) ?_
      refine od_W.fin rfl ?_
      exact od_Re.yes g hb hf hz
  | cons u todo ih =>
    intro done ρ zs w hal hb g hx hy hz he
    have hl := hy.n
    have h60 := hy.le hb
    have h3 := tm_fl_len done
    rw [tm_fl, List.length_append, List.length_append, tm_t_len] at hl h60
    have hy2 : od_hl ρ b (tm_fl done ++ (tm_t u ++ tm_fl todo)) := hy
    have e : (tm_fl done).length + (tm_t u).length = (tm_fl (done ++ [u])).length := by rw [tm_fl_snoc, List.length_append]
    have er : sp_ml t ts (u :: todo) = sp_m1 t ts u ++ sp_ml t ts todo := rfl
    rw [er, tm_fl_app]
    refine od_W.rn (pc' := 40) (ls' := [some (.ref _), some (.ref _), some (.ref _), some (.ref _), some (.int _), some (.int _), some (.int _), _]) (st' := [.int _, .int _]) 2 rfl ?_
    refine od_r2F rfl (of_decide_eq_true rfl) (decide_eq_false (nI_ge (b := 20) (by omega) (by omega))) ?_
    refine od_W.rn (pc' := 46) (ls' := [some (.ref _), some (.ref _), some (.ref _), some (.ref _), some (.int _), some (.int _), some (.int _), _]) (st' := [.ref _, .int _]) 2 rfl ?_
    refine od_gL rfl rfl (hb') (hl) ?_
    refine od_r2F rfl (of_decide_eq_true rfl) (decide_eq_false (nI_ge (by omega) (by omega))) ?_
    refine od_W.rn (pc' := 55) (ls' := [some (.ref _), some (.ref _), some (.ref _), some (.ref _), some (.int _), some (.int _), some (.int _), _]) (st' := [.int _, .ref _]) 2 rfl ?_
    refine od_rV (as := [.int (nI (tm_fl done).length)]) rfl rfl rfl rfl (od_cm_r hb') rfl (Nat.le_of_ble_eq_true rfl) (Nat.le_of_ble_eq_true rfl) (lt_termEnd hS hb' hb hal.1 hy2 rfl) (Nat.le_of_ble_eq_true rfl) (fun o M1 hq => ?_)
    obtain ⟨rfl, rfl⟩ := hq
    refine od_K.ret ?_
    refine od_W.rn (pc' := 61) (ls' := [some (.ref _), some (.ref _), some (.ref _), some (.ref _), some (.int _), some (.int _), some (.int _), some (.int _)]) (st' := [.ref _]) 2 rfl ?_
    refine od_rG rfl (od_cm_o hxn hA) rfl rfl ?_
    refine od_W.rn (pc' := 69) (ls' := [some (.ref _), some (.ref _), some (.ref _), some (.ref _), some (.int _), some (.int _), some (.int _), some (.int _)]) (st' := [.int _, .int _, .ref _, .ref _]) 3 rfl ?_
    refine od_rV (as := [.ref b, .int (nI (tm_fl done).length), .int (nI ((tm_fl done).length + (tm_t u).length))]) rfl rfl rfl rfl (od_cm_r r3) rfl (Nat.le_of_ble_eq_true rfl) (Nat.le_of_ble_eq_true rfl) (lt_becomeExponent hS r3 hb' (Ne.symm nb3) hb hy2 rfl rfl) (Nat.le_of_ble_eq_true rfl) (fun o M1 hq => ?_)
    refine od_Re.kp hq rfl (by simp) (g) (fun _ => trivial) (fun ρ1 f1 g1 b1 p1 k1 => ?_)
    have hx1 := hx.fr (f1 a (by simp; omega))
    have hy1 := hy2.fr (f1 b (by simp; omega))
    have hz1 := hz.fr (f1 out (by simp; omega))
    have he1 := he.fr (f1 (x + 1) (by simp))
    refine od_W.rn (pc' := 73) (ls' := [some (.ref _), some (.ref _), some (.ref _), some (.ref _), some (.int _), some (.int _), some (.int _), some (.int _)]) (st' := [.ref _]) 1 rfl ?_
    refine od_rG rfl (od_cm_o hxn hA) rfl rfl ?_
    refine od_rV (as := []) rfl rfl rfl rfl (od_cm_r r3) rfl (Nat.le_of_ble_eq_true rfl) (Nat.le_of_ble_eq_true rfl) (lt_isZero hS r3 b1 p1) (Nat.le_of_ble_eq_true rfl) (fun o M1 hq => ?_)
    obtain ⟨rfl, rfl⟩ := hq
    refine od_K.ret ?_
    by_cases hu : u.1 = []
    · rw [if_pos hu]
      have es : sp_m1 t ts u = (t.1, t.2 * u.2) :: ts := if_pos hu
      rw [es, tm_fl, List.append_assoc, ← List.append_assoc zs, ← List.append_assoc (zs ++ _)]
      refine od_r1F rfl (of_decide_eq_true rfl) (rfl) ?_
      refine od_W.rn (pc' := 84) (ls' := [some (.ref _), some (.ref _), some (.ref _), some (.ref _), some (.int _), some (.int _), some (.int _), some (.int _)]) (st' := [.ref _, .ref _]) 2 rfl ?_
      refine od_rG rfl (od_cm_o hxn hA) rfl rfl ?_
      refine od_W.rn (pc' := 90) (ls' := [some (.ref _), some (.ref _), some (.ref _), some (.ref _), some (.int _), some (.int _), some (.int _), some (.int _)]) (st' := [.int _, .ref _, .ref _, .ref _]) 2 rfl ?_
      refine od_rV (as := [.int (nI (tm_t t).length)]) rfl rfl rfl rfl (od_cm_r ha) rfl (Nat.le_of_ble_eq_true rfl) (Nat.le_of_ble_eq_true rfl) (lt_coefficient hS ha b1 (u := []) hx1 (by simp)) (Nat.le_of_ble_eq_true rfl) (fun o M1 hq => ?_)
      obtain ⟨rfl, rfl⟩ := hq
      refine od_K.ret ?_
      refine od_W.rn (pc' := 97) (ls' := [some (.ref _), some (.ref _), some (.ref _), some (.ref _), some (.int _), some (.int _), some (.int _), some (.int _)]) (st' := [.int _, .ref _, .long _, .ref _, .ref _]) 3 rfl ?_
      refine od_rV (as := [.int (nI ((tm_fl done).length + (tm_t u).length))]) rfl rfl rfl rfl (od_cm_r hb') rfl (Nat.le_of_ble_eq_true rfl) (Nat.le_of_ble_eq_true rfl) (lt_coefficient hS hb' b1 hy1 rfl) (Nat.le_of_ble_eq_true rfl) (fun o M1 hq => ?_)
      obtain ⟨rfl, rfl⟩ := hq
      refine od_K.ret ?_
      refine od_W.rn (pc' := 102) (ls' := [some (.ref _), some (.ref _), some (.ref _), some (.ref _), some (.int _), some (.int _), some (.int _), some (.int _)]) (st' := [.long _, .ref _, .ref _]) 2 rfl ?_
      rw [nI_1000 h1.1.2.2, nI_1000 hal.1.2.2, lN_mul]
      have hcd := tm_c_mul h1.1.2 hal.1.2
      refine od_rV (as := [.ref (x + 1), .long (lN (t.2 * u.2))]) rfl rfl rfl rfl (od_cm_r ho) rfl (Nat.le_of_ble_eq_true rfl) (Nat.le_of_ble_eq_true rfl) (lt_putTerm hS ho r1 no1 b1 hz1 he1 hcd.2) (Nat.le_of_ble_eq_true rfl) (fun o M1 hq => ?_)
      refine od_Re.kp hq rfl (by simp) (g1) (fun z => tm_ft_l (tm_ft_l z)) (fun ρ2 f2 g2 b2 p2 k2 => ?_)
      have hx2 := hx1.fr (f2 a (by simp; omega))
      have hy2' := hy1.fr (f2 b (by simp; omega))
      have he2 := he1.fr (f2 (x + 1) (by simp; omega))
      refine od_W.rn (pc' := 110) (ls' := [some (.ref _), some (.ref _), some (.ref _), some (.ref _), some (.int _), some (.int _), some (.int _), some (.int _)]) (st' := [.ref _, .int _, .ref _, .ref _]) 4 rfl ?_
      refine od_gL rfl rfl (ha) (hx2.n) ?_
      refine od_rV (as := [.ref a, .int (nI (tm_t t).length), .int (nI (tm_t t ++ tm_fl ts).length)]) rfl rfl rfl rfl (od_cm_r ho) rfl (Nat.le_of_ble_eq_true rfl) (Nat.le_of_ble_eq_true rfl) (lt_putPart hS ho ha (Ne.symm na0) b2 p2 (u := tm_t t) (w := tm_fl ts) (z := []) (by simpa using hx2) rfl (by simp)) (Nat.le_of_ble_eq_true rfl) (fun o M1 hq => ?_)
      refine od_Re.kp hq rfl (by simp) (g2) (fun z => tm_ft_l z) (fun ρ3 f3 g3 b3 p3 k3 => ?_)
      have hx3 := hx2.fr (f3 a (by simp; omega))
      have hy3 := hy2'.fr (f3 b (by simp; omega))
      have he3 := he2.fr (f3 (x + 1) (by simp; omega))
      refine od_W.rn (pc' := 36) (ls' := [some (.ref _), some (.ref _), some (.ref _), some (.ref _), some (.int _), some (.int _), some (.int _), some (.int _)]) (st' := []) 5 rfl ?_
      rw [e, nI_inc done.length, show done.length + 1 = (done ++ [u]).length by simp]
      exact ih (done ++ [u]) ρ3 _ _ hal.2 b3 g3 hx3 (by rw [tm_fl_snoc, List.append_assoc]; exact hy3) p3 he3
    · rw [if_neg hu]
      have es : sp_m1 t ts u = [(tm_fl (sp_sum (tm_tp t.1) (tm_tp u.1)), u.2)] := if_neg hu
      have a1 := tm_al_tp h1.1.1
      have a2 := tm_al_tp hal.1.1
      have w1 : od_hl ρ1 (x + 1) (tm_fl (tm_tp t.1)) := by rw [tm_fl_tp h1.1.1]; exact he1
      have w2 : od_hl ρ1 (x + 3) (tm_fl (tm_tp u.1)) := by rw [tm_fl_tp hal.1.1]; exact p1
      rw [es, show tm_fl [(tm_fl (sp_sum (tm_tp t.1) (tm_tp u.1)), u.2)] = tm_t (tm_fl (sp_sum (tm_tp t.1) (tm_tp u.1)), u.2) by simp [tm_fl]]
      refine od_r1T rfl rfl (rfl) ?_
      refine od_W.rn (pc' := 120) (ls' := [some (.ref _), some (.ref _), some (.ref _), some (.ref _), some (.int _), some (.int _), some (.int _), some (.int _)]) (st' := [.ref _]) 1 rfl ?_
      refine od_rG rfl (od_cm_o hxn hA) rfl rfl ?_
      refine od_W.rn (pc' := 124) (ls' := [some (.ref _), some (.ref _), some (.ref _), some (.ref _), some (.int _), some (.int _), some (.int _), some (.int _)]) (st' := [.ref _, .ref _]) 1 rfl ?_
      refine od_rG rfl (od_cm_o hxn hA) rfl rfl ?_
      refine od_W.rn (pc' := 128) (ls' := [some (.ref _), some (.ref _), some (.ref _), some (.ref _), some (.int _), some (.int _), some (.int _), some (.int _)]) (st' := [.ref _, .ref _, .ref _]) 1 rfl ?_
      refine od_rG rfl (od_cm_o hxn hA) rfl rfl ?_
      refine od_rSt (as := [.ref (x + 1), .ref (x + 3), .ref (x + 5)]) rfl rfl rfl rfl (Nat.le_of_ble_eq_true rfl) (Nat.le_of_ble_eq_true rfl) (lt_makeSum hS r1 r3 r5 (by omega) (by omega) b1 a1 a2 w1 w2) (Nat.le_of_ble_eq_true rfl) (fun o M1 hq => ?_)
      refine od_Re.kp hq rfl (by simp) (g1) (tm_ft_in) (fun ρ2 f2 g2 b2 p2 k2 => ?_)
      rw [← List.append_assoc]
      have hx2 := hx1.fr (f2 a (by simp; omega))
      have hy2' := hy1.fr (f2 b (by simp; omega))
      have hz2 := hz1.fr (f2 out (by simp; omega))
      have he2 := he1.fr (f2 (x + 1) (by simp))
      refine od_W.rn (pc' := 136) (ls' := [some (.ref _), some (.ref _), some (.ref _), some (.ref _), some (.int _), some (.int _), some (.int _), some (.int _)]) (st' := [.ref _, .ref _]) 2 rfl ?_
      refine od_rG rfl (od_cm_o hxn hA) rfl rfl ?_
      refine od_W.rn (pc' := 142) (ls' := [some (.ref _), some (.ref _), some (.ref _), some (.ref _), some (.int _), some (.int _), some (.int _), some (.int _)]) (st' := [.int _, .ref _, .ref _, .ref _]) 2 rfl ?_
      refine od_rV (as := [.int (nI ((tm_fl done).length + (tm_t u).length))]) rfl rfl rfl rfl (od_cm_r hb') rfl (Nat.le_of_ble_eq_true rfl) (Nat.le_of_ble_eq_true rfl) (lt_coefficient hS hb' b2 hy2' rfl) (Nat.le_of_ble_eq_true rfl) (fun o M1 hq => ?_)
      obtain ⟨rfl, rfl⟩ := hq
      refine od_K.ret ?_
      refine od_W.rn (pc' := 146) (ls' := [some (.ref _), some (.ref _), some (.ref _), some (.ref _), some (.int _), some (.int _), some (.int _), some (.int _)]) (st' := [.long _, .ref _, .ref _]) 1 rfl ?_
      rw [nI_1000 hal.1.2.2]
      have huc := hal.1.2.2
      refine od_rV (as := [.ref (x + 5), .long (lN u.2)]) rfl rfl rfl rfl (od_cm_r ho) rfl (Nat.le_of_ble_eq_true rfl) (Nat.le_of_ble_eq_true rfl) (lt_putTerm hS ho r5 no5 b2 hz2 p2 (by omega)) (Nat.le_of_ble_eq_true rfl) (fun o M1 hq => ?_)
      refine od_Re.kp hq rfl (by simp) (g2) (tm_ft_l) (fun ρ3 f3 g3 b3 p3 k3 => ?_)
      have hx3 := hx2.fr (f3 a (by simp; omega))
      have hy3 := hy2'.fr (f3 b (by simp; omega))
      have he3 := he2.fr (f3 (x + 1) (by simp; omega))
      refine od_W.rn (pc' := 36) (ls' := [some (.ref _), some (.ref _), some (.ref _), some (.ref _), some (.int _), some (.int _), some (.int _), some (.int _)]) (st' := []) 4 rfl ?_
      rw [e, nI_inc done.length, show done.length + 1 = (done ++ [u]).length by simp]
      exact ih (done ++ [u]) ρ3 _ _ hal.2 b3 g3 hx3 (by rw [tm_fl_snoc, List.append_assoc]; exact hy3) p3 he3
theorem lt_makeProduct {ρ : od_Rm} (hS : od_SS S) (hA : od_AR M x) (hR : od_ARs S x) (ha : S a = true) (hb' : S b = true) (ho : S out = true) (na : a ∉ [out, x + 1, x + 3, x + 5]) (nb : b ∉ [out, x + 1, x + 3, x + 5]) (no : out ∉ [x + 1, x + 3, x + 5]) (hb : od_Bd ρ) {ts us : List tm_T} (h1 : tm_al ts) (h2 : tm_al us) (hx : od_hl ρ a (tm_fl ts)) (hy : od_hl ρ b (tm_fl us)) : od_W 4 31 0 (od_ent 31 [.ref x, .ref a, .ref b, .ref out]) [] (od_cm S M ρ) (od_Re S M ρ [out, x + 1, x + 3, x + 5] (tm_ft (tm_fl (sp_mul ts us))) none (fun ρ' => od_hl ρ' out (tm_fl (sp_mul ts us)))) := by
  have e0 : od_ent 31 [.ref x, .ref a, .ref b, .ref out] = [some (.ref x), some (.ref a), some (.ref b), some (.ref out), none, none, none, none] := rfl
  rw [e0]
  have r1 : S (x + 1) = true := hR.2 0 (by omega)
  have na' := na
  have nb' := nb
  have no' := no
  simp only [List.mem_cons, List.not_mem_nil, or_false, not_or] at na nb no
  refine od_W.rn (pc' := 1) (ls' := [some (.ref _), some (.ref _), some (.ref _), some (.ref _), none, none, none, none]) (st' := [.ref _]) 1 rfl ?_
  refine od_rV (as := []) rfl rfl rfl rfl (od_cm_r ho) rfl (Nat.le_of_ble_eq_true rfl) (Nat.le_of_ble_eq_true rfl) (lt_clear hS ho hb) (Nat.le_of_ble_eq_true rfl) (fun o M1 hq => ?_)
  refine od_Re.kp hq rfl (by simp) (od_fr0 ρ _) (fun _ => trivial) (fun ρ1 f1 g1 b1 p1 k1 => ?_)
  have hx1 := hx.fr (f1 a (by simp; omega))
  have hy1 := hy.fr (f1 b (by simp; omega))
  refine od_W.rn (pc' := 5) (ls' := [some (.ref _), some (.ref _), some (.ref _), some (.ref _), none, none, none, none]) (st' := [.ref _]) 1 rfl ?_
  refine od_rV (as := []) rfl rfl rfl rfl (od_cm_r ha) rfl (Nat.le_of_ble_eq_true rfl) (Nat.le_of_ble_eq_true rfl) (lt_isZero hS ha b1 hx1) (Nat.le_of_ble_eq_true rfl) (fun o M1 hq => ?_)
  obtain ⟨rfl, rfl⟩ := hq
  refine od_K.ret ?_
  cases ts with
  | nil =>
    refine od_r1F rfl (of_decide_eq_true rfl) (rfl) ?_
    refine od_W.fin rfl ?_
    exact od_Re.yes g1 b1 ⟨by simp [sp_mul, tm_fl], fun x hx => (List.not_mem_nil hx).elim⟩ p1
  | cons t ts =>
    have hx2 : od_hl ρ1 a ([] ++ (tm_t t ++ tm_fl ts)) := hx1
    refine od_r1T rfl rfl (rfl) ?_
    refine od_W.rn (pc' := 14) (ls' := [some (.ref _), some (.ref _), some (.ref _), some (.ref _), none, none, none, none]) (st' := [.int _, .ref _]) 2 rfl ?_
    refine od_rV (as := [.int (nI 0)]) rfl rfl rfl rfl (od_cm_r ha) rfl (Nat.le_of_ble_eq_true rfl) (Nat.le_of_ble_eq_true rfl) (lt_termEnd hS ha b1 h1.1 hx2 rfl) (Nat.le_of_ble_eq_true rfl) (fun o M1 hq => ?_)
    obtain ⟨rfl, rfl⟩ := hq
    refine od_K.ret ?_
    refine od_W.rn (pc' := 20) (ls' := [some (.ref _), some (.ref _), some (.ref _), some (.ref _), some (.int _), none, none, none]) (st' := [.ref _]) 2 rfl ?_
    refine od_rG rfl (od_cm_o hR.1 hA) rfl rfl ?_
    refine od_W.rn (pc' := 27) (ls' := [some (.ref _), some (.ref _), some (.ref _), some (.ref _), some (.int _), none, none, none]) (st' := [.int _, .int _, .ref _, .ref _]) 3 rfl ?_
    refine od_rV (as := [.ref a, .int (nI 0), .int (nI (0 + (tm_t t).length))]) rfl rfl rfl rfl (od_cm_r r1) rfl (Nat.le_of_ble_eq_true rfl) (Nat.le_of_ble_eq_true rfl) (lt_becomeExponent hS r1 ha (Ne.symm na.2.1) b1 hx2 rfl rfl) (Nat.le_of_ble_eq_true rfl) (fun o M1 hq => ?_)
    refine od_Re.kp hq rfl (by simp) (g1) (fun _ => trivial) (fun ρ2 f2 g2 b2 p2 k2 => ?_)
    have hx3 := hx1.fr (f2 a (by simp; omega))
    have hy3 := hy1.fr (f2 b (by simp; omega))
    have hz3 := p1.fr (f2 out (by simp; omega))
    rw [Nat.zero_add]
    refine od_W.rn (pc' := 36) (ls' := [some (.ref _), some (.ref _), some (.ref _), some (.ref _), some (.int _), some (.int _), some (.int _), none]) (st' := []) 4 rfl ?_
    have := cl_mul_loop (M := M) (ρ0 := ρ) hS hA hR ha hb' ho na' nb' no' h1 us [] ρ2 [] none h2 b2 g2 hx3 hy3 hz3 p2
    rw [List.nil_append] at this
    exact this
end MUL
end
section
/-! Natural sums. -/
def sp_nt : Nat → List tm_T → List tm_T → List tm_T
  | 0, _, _ => []
  | _ + 1, [], us => us
  | _ + 1, t :: ts, [] => t :: ts
  | n + 1, t :: ts, u :: us => if tm_cmp t.1 u.1 = 1 then t :: sp_nt n ts (u :: us) else if tm_cmp t.1 u.1 = 0 then (t.1, t.2 + u.2) :: sp_nt n ts us else u :: sp_nt n (t :: ts) us
def sp_nat (ts us : List tm_T) : List tm_T := sp_nt (ts.length + us.length + 1) ts us
theorem sp_nt_al : ∀ (n : Nat) {ts us : List tm_T}, tm_al ts → tm_al us → tm_sm (tm_fl (sp_nt n ts us)) → tm_al (sp_nt n ts us) := by
  intro n
  induction n with
  | zero => intro ts us _ _ _; exact trivial
  | succ n ih =>
    intro ts us h1 h2 hf
    cases ts with
    | nil => exact h2
    | cons t ts =>
      cases us with
      | nil => exact h1
      | cons u us =>
        unfold sp_nt at hf ⊢
        by_cases c1 : tm_cmp t.1 u.1 = 1
        · rw [if_pos c1] at hf ⊢
          rw [tm_fl, tm_sm_app] at hf
          exact ⟨h1.1, ih h1.2 h2 hf.2⟩
        · rw [if_neg c1] at hf ⊢
          by_cases c2 : tm_cmp t.1 u.1 = 0
          · rw [if_pos c2] at hf ⊢
            rw [tm_fl, tm_sm_app, tm_sm_t] at hf
            exact ⟨⟨h1.1.1, Nat.le_add_right_of_le h1.1.2.1, hf.1.2⟩, ih h1.2 h2.2 hf.2⟩
          · rw [if_neg c2] at hf ⊢
            rw [tm_fl, tm_sm_app] at hf
            exact ⟨h2.1, ih h1 h2.2 hf.2⟩
theorem sp_nat_al {ts us : List tm_T} (h1 : tm_al ts) (h2 : tm_al us) (hf : tm_sm (tm_fl (sp_nat ts us))) : tm_al (sp_nat ts us) := sp_nt_al _ h1 h2 hf
section NAT
variable {S : Nat → Bool} {M : od_M} {ρ0 : od_Rm} {a b out : Nat}
theorem cl_nat_end {ρ : od_Rm} (hS : od_SS S) (ha : S a = true) (hb' : S b = true) (ho : S out = true) (na : out ≠ a) (nb : out ≠ b) {ua wa ub wb zs : List Nat} {kt : Int32} {w6 w7 w8 : Option Value} (hb : od_Bd ρ) (g : ∀ q, q ∉ [out] → ρ q = ρ0 q) (hx : od_hl ρ a (ua ++ wa)) (hy : od_hl ρ b (ub ++ wb)) (hz : od_hl ρ out zs) : od_W 3 36 141 [some (.ref a), some (.ref b), some (.ref out), some (.int (nI ua.length)), some (.int (nI ub.length)), some (.int kt), w6, w7, w8] [] (od_cm S M ρ) (od_Re S M ρ0 [out] (tm_ft (zs ++ (wa ++ wb))) none (fun ρ' => od_hl ρ' out (zs ++ (wa ++ wb)))) := by
  rw [← List.append_assoc]
  refine od_W.rn (pc' := 145) (ls' := [some (.ref _), some (.ref _), some (.ref _), some (.int _), some (.int _), some (.int _), _, _, _]) (st' := [.ref _, .int _, .ref _, .ref _]) 4 rfl ?_
  refine od_gL rfl rfl (ha) (hx.n) ?_
  refine od_rV (as := [.ref a, .int (nI ua.length), .int (nI (ua ++ wa).length)]) rfl rfl rfl rfl (od_cm_r ho) rfl (Nat.le_of_ble_eq_true rfl) (Nat.le_of_ble_eq_true rfl) (lt_putPart hS ho ha na hb hz (u := ua) (w := wa) (z := []) (by simpa using hx) rfl (by simp)) (Nat.le_of_ble_eq_true rfl) (fun o M1 hq => ?_)
  refine od_Re.kp hq rfl (by simp) (g) (tm_ft_l) (fun ρ1 f1 g1 b1 p1 k1 => ?_)
  have hy1 := hy.fr (f1 b (by simp; omega))
  refine od_W.rn (pc' := 156) (ls' := [some (.ref _), some (.ref _), some (.ref _), some (.int _), some (.int _), some (.int _), _, _, _]) (st' := [.ref _, .int _, .ref _, .ref _]) 4 rfl ?_
  refine od_gL rfl rfl (hb') (hy1.n) ?_
  refine od_rV (as := [.ref b, .int (nI ub.length), .int (nI (ub ++ wb).length)]) rfl rfl rfl rfl (od_cm_r ho) rfl (Nat.le_of_ble_eq_true rfl) (Nat.le_of_ble_eq_true rfl) (lt_putPart hS ho hb' nb b1 p1 (u := ub) (w := wb) (z := []) (by simpa using hy1) rfl (by simp)) (Nat.le_of_ble_eq_true rfl) (fun o M1 hq => ?_)
  refine od_Re.kp hq rfl (by simp) (g1) (fun z => z) (fun ρ2 f2 g2 b2 p2 k2 => ?_)
  refine od_W.fin rfl ?_
  exact od_Re.yes g2 b2 k2 p2
set_option maxRecDepth 100000 in
theorem cl_nat_loop (hS : od_SS S) (ha : S a = true) (hb' : S b = true) (ho : S out = true) (na : out ≠ a) (nb : out ≠ b) : ∀ (n : Nat) (ta tb da db : List tm_T) (ρ : od_Rm) (zs : List Nat) (kt : Nat) (w6 w7 w8 : Option Value), ta.length + tb.length < n → kt ≤ da.length + db.length → tm_al ta → tm_al tb → od_Bd ρ → (∀ q, q ∉ [out] → ρ q = ρ0 q) → od_hl ρ a (tm_fl da ++ tm_fl ta) → od_hl ρ b (tm_fl db ++ tm_fl tb) → od_hl ρ out zs → od_W 3 36 12 [some (.ref a), some (.ref b), some (.ref out), some (.int (nI (tm_fl da).length)), some (.int (nI (tm_fl db).length)), some (.int (nI kt)), w6, w7, w8] [] (od_cm S M ρ) (od_Re S M ρ0 [out] (tm_ft (zs ++ tm_fl (sp_nt n ta tb))) none (fun ρ' => od_hl ρ' out (zs ++ tm_fl (sp_nt n ta tb)))) := by
  intro n
  induction n with
  | zero => intro ta tb da db ρ zs kt w6 w7 w8 h; omega
  | succ n ih =>
    intro ta tb da db ρ zs kt w6 w7 w8 hn hkt al1 al2 hb g hx hy hz
    have hl := hx.n
    have h60 := hx.le hb
    have h3 := tm_fl_len da
    have hl' := hy.n
    have h60' := hy.le hb
    have h3' := tm_fl_len db
    rw [List.length_append] at hl h60 hl' h60'
    have hend := fun (w6 w7 w8 : Option Value) => cl_nat_end (M := M) (kt := nI kt) (w6 := w6) (w7 := w7) (w8 := w8) hS ha hb' ho na nb hb g hx hy hz
    by_cases h40 : kt < 40
    · refine od_W.rn (pc' := 16) (ls' := [some (.ref _), some (.ref _), some (.ref _), some (.int _), some (.int _), some (.int _), _, _, _]) (st' := [.int _, .int _]) 2 rfl ?_
      refine od_r2F rfl (of_decide_eq_true rfl) (decide_eq_false (nI_ge (b := 40) h40 (by omega))) ?_
      refine od_W.rn (pc' := 21) (ls' := [some (.ref _), some (.ref _), some (.ref _), some (.int _), some (.int _), some (.int _), _, _, _]) (st' := [.ref _, .int _]) 2 rfl ?_
      refine od_gL rfl rfl (ha) (hl) ?_
      cases ta with
      | nil =>
        rw [show sp_nt (n + 1) [] tb = tb from rfl]
        refine od_r2T rfl rfl (decide_eq_true (nI_le (by simp [tm_fl]) (by omega))) ?_
        exact hend _ _ _
      | cons t ta =>
        have hx2 : od_hl ρ a (tm_fl da ++ (tm_t t ++ tm_fl ta)) := hx
        rw [tm_fl, List.length_append, tm_t_len] at hl h60
        refine od_r2F rfl (of_decide_eq_true rfl) (decide_eq_false (nI_ge (by rw [tm_fl, List.length_append, tm_t_len]; omega) (by rw [tm_fl, List.length_append, tm_t_len]; omega))) ?_
        refine od_W.rn (pc' := 30) (ls' := [some (.ref _), some (.ref _), some (.ref _), some (.int _), some (.int _), some (.int _), _, _, _]) (st' := [.ref _, .int _]) 2 rfl ?_
        refine od_gL rfl rfl (hb') (hl') ?_
        cases tb with
        | nil =>
          rw [show sp_nt (n + 1) (t :: ta) [] = t :: ta from rfl]
          refine od_r2T rfl rfl (decide_eq_true (nI_le (by simp [tm_fl]) (by omega))) ?_
          rw [tm_fl, List.append_nil] at hend
          exact hend _ _ _
        | cons u tb =>
          have hy2 : od_hl ρ b (tm_fl db ++ (tm_t u ++ tm_fl tb)) := hy
          rw [tm_fl, List.length_append, tm_t_len] at hl' h60'
          refine od_r2F rfl (of_decide_eq_true rfl) (decide_eq_false (nI_ge (by rw [tm_fl, List.length_append, tm_t_len]; omega) (by rw [tm_fl, List.length_append, tm_t_len]; omega))) ?_
          have e : (tm_fl da).length + (tm_t t).length = (tm_fl (da ++ [t])).length := by rw [tm_fl_snoc, List.length_append]
          have e' : (tm_fl db).length + (tm_t u).length = (tm_fl (db ++ [u])).length := by rw [tm_fl_snoc, List.length_append]
          refine od_W.rn (pc' := 38) (ls' := [some (.ref _), some (.ref _), some (.ref _), some (.int _), some (.int _), some (.int _), _, _, _]) (st' := [.int _, .ref _]) 2 rfl ?_
          refine od_rV (as := [.int (nI (tm_fl da).length)]) rfl rfl rfl rfl (od_cm_r ha) rfl (Nat.le_of_ble_eq_true rfl) (Nat.le_of_ble_eq_true rfl) (lt_termEnd hS ha hb al1.1 hx2 rfl) (Nat.le_of_ble_eq_true rfl) (fun o M1 hq => ?_)
          obtain ⟨rfl, rfl⟩ := hq
          refine od_K.ret ?_
          refine od_W.rn (pc' := 46) (ls' := [some (.ref _), some (.ref _), some (.ref _), some (.int _), some (.int _), some (.int _), some (.int _), _, _]) (st' := [.int _, .ref _]) 3 rfl ?_
          refine od_rV (as := [.int (nI (tm_fl db).length)]) rfl rfl rfl rfl (od_cm_r hb') rfl (Nat.le_of_ble_eq_true rfl) (Nat.le_of_ble_eq_true rfl) (lt_termEnd hS hb' hb al2.1 hy2 rfl) (Nat.le_of_ble_eq_true rfl) (fun o M1 hq => ?_)
          obtain ⟨rfl, rfl⟩ := hq
          refine od_K.ret ?_
          refine od_W.rn (pc' := 60) (ls' := [some (.ref _), some (.ref _), some (.ref _), some (.int _), some (.int _), some (.int _), some (.int _), some (.int _), _]) (st' := [.int _, .int _, .ref _, .int _, .int _, .ref _]) 7 rfl ?_
          refine od_rSt (as := [.ref a, .int (nI (tm_fl da).length), .int (nI ((tm_fl da).length + (tm_t t).length)), .ref b, .int (nI (tm_fl db).length), .int (nI ((tm_fl db).length + (tm_t u).length))]) rfl rfl rfl rfl (Nat.le_of_ble_eq_true rfl) (Nat.le_of_ble_eq_true rfl) (lt_oe hS ha hb' hb hx2 hy2 rfl rfl rfl rfl) (Nat.le_of_ble_eq_true rfl) (fun o M1 hq => ?_)
          obtain ⟨rfl, rfl⟩ := hq
          refine od_K.ret ?_
          refine od_W.rn (pc' := 67) (ls' := [some (.ref _), some (.ref _), some (.ref _), some (.int _), some (.int _), some (.int _), some (.int _), some (.int _), some (.int _)]) (st' := [.int _]) 2 rfl ?_
          rcases tm_cmp_is t.1 u.1 with hc | hc | hc
          · rw [hc]
            rw [show sp_nt (n + 1) (t :: ta) (u :: tb) = u :: sp_nt n (t :: ta) tb by conv => lhs; unfold sp_nt; rw [if_neg (by rw [hc]; decide), if_neg (by rw [hc]; decide)], tm_fl, ← List.append_assoc]
            refine od_r1T rfl rfl (rfl) ?_
            refine od_W.rn (pc' := 86) (ls' := [some (.ref _), some (.ref _), some (.ref _), some (.int _), some (.int _), some (.int _), some (.int _), some (.int _), some (.int _)]) (st' := [.int _]) 1 rfl ?_
            refine od_r1F rfl (of_decide_eq_true rfl) (rfl) ?_
            refine od_W.rn (pc' := 95) (ls' := [some (.ref _), some (.ref _), some (.ref _), some (.int _), some (.int _), some (.int _), some (.int _), some (.int _), some (.int _)]) (st' := [.int _, .int _, .ref _, .ref _]) 4 rfl ?_
            refine od_rV (as := [.ref b, .int (nI (tm_fl db).length), .int (nI ((tm_fl db).length + (tm_t u).length))]) rfl rfl rfl rfl (od_cm_r ho) rfl (Nat.le_of_ble_eq_true rfl) (Nat.le_of_ble_eq_true rfl) (lt_putPart hS ho hb' nb hb hz hy2 rfl rfl) (Nat.le_of_ble_eq_true rfl) (fun o M1 hq => ?_)
            refine od_Re.kp hq rfl (by simp) (g) (tm_ft_l) (fun ρ1 f1 g1 b1 p1 k1 => ?_)
            have hx3 := hx.fr (f1 a (by simp; omega))
            have hy3 := hy2.fr (f1 b (by simp; omega))
            refine od_W.rn (pc' := 12) (ls' := [some (.ref _), some (.ref _), some (.ref _), some (.int _), some (.int _), some (.int _), some (.int _), some (.int _), some (.int _)]) (st' := []) 5 rfl ?_
            rw [e', nI_inc kt]
            exact ih (t :: ta) tb da (db ++ [u]) ρ1 _ (kt + 1) _ _ _ (by simp at hn ⊢; omega) (by simp; omega) al1 al2.2 b1 g1 hx3 (by rw [tm_fl_snoc, List.append_assoc]; exact hy3) p1
          · rw [hc]
            rw [show sp_nt (n + 1) (t :: ta) (u :: tb) = (t.1, t.2 + u.2) :: sp_nt n ta tb by conv => lhs; unfold sp_nt; rw [if_neg (by rw [hc]; decide), if_pos hc], tm_fl, ← List.append_assoc]
            refine od_r1T rfl rfl (rfl) ?_
            refine od_W.rn (pc' := 86) (ls' := [some (.ref _), some (.ref _), some (.ref _), some (.int _), some (.int _), some (.int _), some (.int _), some (.int _), some (.int _)]) (st' := [.int _]) 1 rfl ?_
            refine od_r1T rfl rfl (rfl) ?_
            refine od_W.rn (pc' := 113) (ls' := [some (.ref _), some (.ref _), some (.ref _), some (.int _), some (.int _), some (.int _), some (.int _), some (.int _), some (.int _)]) (st' := [.int _, .ref _, .int _, .int _, .ref _, .ref _]) 6 rfl ?_
            refine od_rV (as := [.int (nI ((tm_fl da).length + (tm_t t).length))]) rfl rfl rfl rfl (od_cm_r ha) rfl (Nat.le_of_ble_eq_true rfl) (Nat.le_of_ble_eq_true rfl) (lt_coefficient hS ha hb hx2 rfl) (Nat.le_of_ble_eq_true rfl) (fun o M1 hq => ?_)
            obtain ⟨rfl, rfl⟩ := hq
            refine od_K.ret ?_
            refine od_W.rn (pc' := 120) (ls' := [some (.ref _), some (.ref _), some (.ref _), some (.int _), some (.int _), some (.int _), some (.int _), some (.int _), some (.int _)]) (st' := [.int _, .ref _, .long _, .int _, .int _, .ref _, .ref _]) 3 rfl ?_
            refine od_rV (as := [.int (nI ((tm_fl db).length + (tm_t u).length))]) rfl rfl rfl rfl (od_cm_r hb') rfl (Nat.le_of_ble_eq_true rfl) (Nat.le_of_ble_eq_true rfl) (lt_coefficient hS hb' hb hy2 rfl) (Nat.le_of_ble_eq_true rfl) (fun o M1 hq => ?_)
            obtain ⟨rfl, rfl⟩ := hq
            refine od_K.ret ?_
            refine od_W.rn (pc' := 125) (ls' := [some (.ref _), some (.ref _), some (.ref _), some (.int _), some (.int _), some (.int _), some (.int _), some (.int _), some (.int _)]) (st' := [.long _, .int _, .int _, .ref _, .ref _]) 2 rfl ?_
            have c1 := al1.1.2
            have c2 := al2.1.2
            unfold tm_c at c1 c2
            rw [nI_1000 c1.2, nI_1000 c2.2, lN_add]
            refine od_rV (as := [.ref a, .int (nI (tm_fl da).length), .int (nI ((tm_fl da).length + (tm_t t).length)), .long (lN (t.2 + u.2))]) rfl rfl rfl rfl (od_cm_r ho) rfl (Nat.le_of_ble_eq_true rfl) (Nat.le_of_ble_eq_true rfl) (lt_putTermAgain hS ho ha na hb hz hx2 rfl rfl (by omega) (by omega)) (Nat.le_of_ble_eq_true rfl) (fun o M1 hq => ?_)
            refine od_Re.kp hq rfl (by simp) (g) (tm_ft_l) (fun ρ1 f1 g1 b1 p1 k1 => ?_)
            have hx3 := hx2.fr (f1 a (by simp; omega))
            have hy3 := hy2.fr (f1 b (by simp; omega))
            refine od_W.rn (pc' := 12) (ls' := [some (.ref _), some (.ref _), some (.ref _), some (.int _), some (.int _), some (.int _), some (.int _), some (.int _), some (.int _)]) (st' := []) 6 rfl ?_
            rw [e, e', nI_inc kt]
            exact ih ta tb (da ++ [t]) (db ++ [u]) ρ1 _ (kt + 1) _ _ _ (by simp at hn ⊢; omega) (by simp; omega) al1.2 al2.2 b1 g1 (by rw [tm_fl_snoc, List.append_assoc]; exact hx3) (by rw [tm_fl_snoc, List.append_assoc]; exact hy3) p1
          · rw [hc]
            rw [show sp_nt (n + 1) (t :: ta) (u :: tb) = t :: sp_nt n ta (u :: tb) by conv => lhs; unfold sp_nt; rw [if_pos hc], tm_fl, ← List.append_assoc]
            refine od_r1F rfl (of_decide_eq_true rfl) (rfl) ?_
            refine od_W.rn (pc' := 75) (ls' := [some (.ref _), some (.ref _), some (.ref _), some (.int _), some (.int _), some (.int _), some (.int _), some (.int _), some (.int _)]) (st' := [.int _, .int _, .ref _, .ref _]) 4 rfl ?_
            refine od_rV (as := [.ref a, .int (nI (tm_fl da).length), .int (nI ((tm_fl da).length + (tm_t t).length))]) rfl rfl rfl rfl (od_cm_r ho) rfl (Nat.le_of_ble_eq_true rfl) (Nat.le_of_ble_eq_true rfl) (lt_putPart hS ho ha na hb hz hx2 rfl rfl) (Nat.le_of_ble_eq_true rfl) (fun o M1 hq => ?_)
            refine od_Re.kp hq rfl (by simp) (g) (tm_ft_l) (fun ρ1 f1 g1 b1 p1 k1 => ?_)
            have hx3 := hx2.fr (f1 a (by simp; omega))
            have hy3 := hy.fr (f1 b (by simp; omega))
            refine od_W.rn (pc' := 12) (ls' := [some (.ref _), some (.ref _), some (.ref _), some (.int _), some (.int _), some (.int _), some (.int _), some (.int _), some (.int _)]) (st' := []) 5 rfl ?_
            rw [e, nI_inc kt]
            exact ih ta (u :: tb) (da ++ [t]) db ρ1 _ (kt + 1) _ _ _ (by simp at hn ⊢; omega) (by simp; omega) al1.2 al2 b1 g1 (by rw [tm_fl_snoc, List.append_assoc]; exact hx3) hy3 p1
    · have e1 : tm_fl ta = [] := List.length_eq_zero_iff.mp (by omega)
      have e2 : tm_fl tb = [] := List.length_eq_zero_iff.mp (by omega)
      have e3 : ta = [] := List.length_eq_zero_iff.mp (by have := tm_fl_len ta; rw [e1] at this; simp at this; omega)
      have e4 : tb = [] := List.length_eq_zero_iff.mp (by have := tm_fl_len tb; rw [e2] at this; simp at this; omega)
      subst e3
      subst e4
      rw [show sp_nt (n + 1) [] [] = [] from rfl]
      refine od_W.rn (pc' := 16) (ls' := [some (.ref _), some (.ref _), some (.ref _), some (.int _), some (.int _), some (.int _), _, _, _]) (st' := [.int _, .int _]) 2 rfl ?_
      refine od_r2T rfl rfl (decide_eq_true (nI_le (a := 40) (by omega) (by omega))) ?_
      exact hend _ _ _
theorem lt_makeNaturalSum {ρ : od_Rm} (hS : od_SS S) (ha : S a = true) (hb' : S b = true) (ho : S out = true) (na : out ≠ a) (nb : out ≠ b) (hb : od_Bd ρ) {ts us : List tm_T} (h1 : tm_al ts) (h2 : tm_al us) (hx : od_hl ρ a (tm_fl ts)) (hy : od_hl ρ b (tm_fl us)) : od_W 3 36 0 (od_ent 36 [.ref a, .ref b, .ref out]) [] (od_cm S M ρ) (od_Re S M ρ [out] (tm_ft (tm_fl (sp_nat ts us))) none (fun ρ' => od_hl ρ' out (tm_fl (sp_nat ts us)))) := by
  have e0 : od_ent 36 [.ref a, .ref b, .ref out] = [some (.ref a), some (.ref b), some (.ref out), none, none, none, none, none, none] := rfl
  rw [e0]
  refine od_W.rn (pc' := 1) (ls' := [some (.ref _), some (.ref _), some (.ref _), none, none, none, none, none, none]) (st' := [.ref _]) 1 rfl ?_
  refine od_rV (as := []) rfl rfl rfl rfl (od_cm_r ho) rfl (Nat.le_of_ble_eq_true rfl) (Nat.le_of_ble_eq_true rfl) (lt_clear hS ho hb) (Nat.le_of_ble_eq_true rfl) (fun o M1 hq => ?_)
  refine od_Re.kp hq rfl (by simp) (od_fr0 ρ _) (fun _ => trivial) (fun ρ1 f1 g1 b1 p1 k1 => ?_)
  have hx1 := hx.fr (f1 a (by simp; omega))
  have hy1 := hy.fr (f1 b (by simp; omega))
  refine od_W.rn (pc' := 12) (ls' := [some (.ref _), some (.ref _), some (.ref _), some (.int _), some (.int _), some (.int _), none, none, none]) (st' := []) 6 rfl ?_
  have := cl_nat_loop (M := M) (ρ0 := ρ) hS ha hb' ho na nb (ts.length + us.length + 1) ts us [] [] ρ1 [] 0 none none none (by omega) (by simp) h1 h2 b1 g1 hx1 hy1 p1
  rw [List.nil_append] at this
  exact this
end NAT
end
section
/-! Natural products. -/
def sp_j (t u : tm_T) : tm_T := (tm_fl (sp_nat (tm_tp t.1) (tm_tp u.1)), t.2 * u.2)
def sp_a1 (t : tm_T) (tot : List tm_T) (u : tm_T) : List tm_T := sp_nat tot [sp_j t u]
def sp_aa (t : tm_T) : List tm_T → List tm_T → List tm_T
  | tot, [] => tot
  | tot, u :: us => sp_aa t (sp_a1 t tot u) us
def ok_aa (t : tm_T) : List tm_T → List tm_T → Prop
  | _, [] => True
  | tot, u :: us => tm_ft (tm_t (sp_j t u)) ∧ tm_ft (tm_fl (sp_a1 t tot u)) ∧ ok_aa t (sp_a1 t tot u) us
def sp_np (us : List tm_T) : List tm_T → List tm_T → List tm_T
  | tot, [] => tot
  | tot, t :: ts => sp_np us (sp_aa t tot us) ts
def ok_np (us : List tm_T) : List tm_T → List tm_T → Prop
  | _, [] => True
  | tot, t :: ts => ok_aa t tot us ∧ ok_np us (sp_aa t tot us) ts
theorem tm_ft_t {e : List Nat} {c : Nat} (h : tm_ft (tm_t (e, c))) : tm_ft e := tm_ft_in (a := []) (b := []) (c := c) (by rw [List.nil_append, List.append_nil]; exact h)
theorem tm_fl_one (t : tm_T) : tm_fl [t] = tm_t t := by simp [tm_fl]
theorem sp_j_ok {t u : tm_T} (h1 : tm_ok t) (h2 : tm_ok u) (hf : tm_ft (tm_t (sp_j t u))) : tm_ok (sp_j t u) := by
  have h3 := tm_sm_t.mp hf.2
  exact ⟨tm_fl_W (sp_nat_al (tm_al_tp h1.1) (tm_al_tp h2.1) h3.1), Nat.mul_pos h1.2.1 h2.2.1, h3.2⟩
theorem sp_a1_al {t u : tm_T} {tot : List tm_T} (h1 : tm_ok t) (h2 : tm_ok u) (h3 : tm_al tot) (hf : tm_ft (tm_t (sp_j t u))) (hg : tm_ft (tm_fl (sp_a1 t tot u))) : tm_al (sp_a1 t tot u) := sp_nat_al h3 ⟨sp_j_ok h1 h2 hf, trivial⟩ hg.2
theorem sp_aa_al {t : tm_T} (h1 : tm_ok t) : ∀ {us tot : List tm_T}, tm_al us → tm_al tot → ok_aa t tot us → tm_al (sp_aa t tot us) := by
  intro us
  induction us with
  | nil => intro tot _ h _; exact h
  | cons u us ih => intro tot h2 h3 h4; exact ih h2.2 (sp_a1_al h1 h2.1 h3 h4.1 h4.2.1) h4.2.2
theorem sp_aa_ft {t : tm_T} : ∀ {us tot : List tm_T}, tm_ft (tm_fl tot) → ok_aa t tot us → tm_ft (tm_fl (sp_aa t tot us)) := by
  intro us
  induction us with
  | nil => intro tot h _; exact h
  | cons u us ih => intro tot _ h4; exact ih h4.2.1 h4.2.2
theorem sp_np_al {us : List tm_T} (h2 : tm_al us) : ∀ {ts tot : List tm_T}, tm_al ts → tm_al tot → ok_np us tot ts → tm_al (sp_np us tot ts) := by
  intro ts
  induction ts with
  | nil => intro tot _ h _; exact h
  | cons t ts ih => intro tot h1 h3 h4; exact ih h1.2 (sp_aa_al h1.1 h2 h3 h4.1) h4.2
section NPR
variable {S : Nat → Bool} {M : od_M} {ρ0 : od_Rm} {x a b out : Nat}
set_option maxRecDepth 100000 in
theorem cl_aa_loop (hS : od_SS S) (hA : od_AR M x) (hR : od_ARs S x) (hb' : S b = true) (ho : S out = true) (nb : b ∉ [out, x + 17, x + 19, x + 21, x + 25]) (no : out ∉ [x + 15, x + 17, x + 19, x + 21, x + 25]) {t : tm_T} (ht : tm_ok t) : ∀ (todo done : List tm_T) (ρ : od_Rm) (tot : List tm_T) (w : Option Value), tm_al todo → tm_al tot → od_Bd ρ → (∀ q, q ∉ [out, x + 17, x + 19, x + 21, x + 25] → ρ q = ρ0 q) → od_hl ρ b (tm_fl done ++ tm_fl todo) → od_hl ρ out (tm_fl tot) → od_hl ρ (x + 15) t.1 → od_W 5 38 6 [some (.ref x), some (.int (nI t.2)), some (.ref b), some (.ref out), some (.int (nI (tm_fl done).length)), some (.int (nI done.length)), w] [] (od_cm S M ρ) (od_Re S M ρ0 [out, x + 17, x + 19, x + 21, x + 25] (ok_aa t tot todo) none (fun ρ' => od_hl ρ' out (tm_fl (sp_aa t tot todo)))) := by
  have r15 : S (x + 15) = true := hR.2 7 (by omega)
  have r17 : S (x + 17) = true := hR.2 8 (by omega)
  have r19 : S (x + 19) = true := hR.2 9 (by omega)
  have r21 : S (x + 21) = true := hR.2 10 (by omega)
  have r25 : S (x + 25) = true := hR.2 12 (by omega)
  have hxn : od_no S x := hR.1
  simp only [List.mem_cons, List.not_mem_nil, or_false, not_or] at nb no
  intro todo
  induction todo with
  | nil =>
    intro done ρ tot w _ _ hb g hy hz he
    have hl := hy.n
    have h60 := hy.le hb
    have h3 := tm_fl_len done
    rw [tm_fl, List.append_nil] at hl h60
    by_cases h20 : done.length < 20
    · refine od_W.rn (pc' := 10) (ls' := [some (.ref _), some (.int _), some (.ref _), some (.ref _), some (.int _), some (.int _), _]) (st' := [.int _, .int _]) 2 rfl ?_
      refine od_r2F rfl (of_decide_eq_true rfl) (decide_eq_false (nI_ge (b := 20) h20 (by omega))) ?_
      refine od_W.rn (pc' := 16) (ls' := [some (.ref _), some (.int _), some (.ref _), some (.ref _), some (.int _), some (.int _), _]) (st' := [.ref _, .int _]) 2 rfl ?_
      refine od_gL rfl rfl (hb') (hl) ?_
      refine od_r2T rfl rfl (decide_eq_true (nI_le (Nat.le_refl _) (by omega))) ?_
      refine od_W.fin rfl ?_
      exact od_Re.yes g hb trivial hz
    · refine od_W.rn (pc' := 10) (ls' := [some (.ref _), some (.int _), some (.ref _), some (.ref _), some (.int _), some (.int _), _]) (st' := [.int _, .int _]) 2 rfl ?_
      refine od_r2T rfl rfl (decide_eq_true (nI_le (a := 20) (by omega) (by omega))) ?_
      refine od_W.fin rfl ?_
      exact od_Re.yes g hb trivial hz
  | cons u todo ih =>
    intro done ρ tot w hal alt hb g hy hz he
    have hl := hy.n
    have h60 := hy.le hb
    have h3 := tm_fl_len done
    rw [tm_fl, List.length_append, List.length_append, tm_t_len] at hl h60
    have hy2 : od_hl ρ b (tm_fl done ++ (tm_t u ++ tm_fl todo)) := hy
    have e : (tm_fl done).length + (tm_t u).length = (tm_fl (done ++ [u])).length := by rw [tm_fl_snoc, List.length_append]
    have a1 := tm_al_tp ht.1
    have a2 := tm_al_tp hal.1.1
    have hcd := tm_c_mul ht.2 hal.1.2
    refine od_W.rn (pc' := 10) (ls' := [some (.ref _), some (.int _), some (.ref _), some (.ref _), some (.int _), some (.int _), _]) (st' := [.int _, .int _]) 2 rfl ?_
    refine od_r2F rfl (of_decide_eq_true rfl) (decide_eq_false (nI_ge (b := 20) (by omega) (by omega))) ?_
    refine od_W.rn (pc' := 16) (ls' := [some (.ref _), some (.int _), some (.ref _), some (.ref _), some (.int _), some (.int _), _]) (st' := [.ref _, .int _]) 2 rfl ?_
    refine od_gL rfl rfl (hb') (hl) ?_
    refine od_r2F rfl (of_decide_eq_true rfl) (decide_eq_false (nI_ge (by omega) (by omega))) ?_
    refine od_W.rn (pc' := 25) (ls' := [some (.ref _), some (.int _), some (.ref _), some (.ref _), some (.int _), some (.int _), _]) (st' := [.int _, .ref _]) 2 rfl ?_
    refine od_rV (as := [.int (nI (tm_fl done).length)]) rfl rfl rfl rfl (od_cm_r hb') rfl (Nat.le_of_ble_eq_true rfl) (Nat.le_of_ble_eq_true rfl) (lt_termEnd hS hb' hb hal.1 hy2 rfl) (Nat.le_of_ble_eq_true rfl) (fun o M1 hq => ?_)
    obtain ⟨rfl, rfl⟩ := hq
    refine od_K.ret ?_
    refine od_W.rn (pc' := 31) (ls' := [some (.ref _), some (.int _), some (.ref _), some (.ref _), some (.int _), some (.int _), some (.int _)]) (st' := [.ref _]) 2 rfl ?_
    refine od_rG rfl (od_cm_o hxn hA) rfl rfl ?_
    refine od_W.rn (pc' := 39) (ls' := [some (.ref _), some (.int _), some (.ref _), some (.ref _), some (.int _), some (.int _), some (.int _)]) (st' := [.int _, .int _, .ref _, .ref _]) 3 rfl ?_
    refine od_rV (as := [.ref b, .int (nI (tm_fl done).length), .int (nI ((tm_fl done).length + (tm_t u).length))]) rfl rfl rfl rfl (od_cm_r r17) rfl (Nat.le_of_ble_eq_true rfl) (Nat.le_of_ble_eq_true rfl) (lt_becomeExponent hS r17 hb' (by omega) hb hy2 rfl rfl) (Nat.le_of_ble_eq_true rfl) (fun o M1 hq => ?_)
    refine od_Re.kp hq rfl (by simp) (g) (fun _ => trivial) (fun ρ1 f1 g1 b1 p1 k1 => ?_)
    have hy1 := hy2.fr (f1 b (by simp; omega))
    have hz1 := hz.fr (f1 out (by simp; omega))
    have he1 := he.fr (f1 (x + 15) (by simp))
    have w1 : od_hl ρ1 (x + 15) (tm_fl (tm_tp t.1)) := by rw [tm_fl_tp ht.1]; exact he1
    have w2 : od_hl ρ1 (x + 17) (tm_fl (tm_tp u.1)) := by rw [tm_fl_tp hal.1.1]; exact p1
    refine od_W.rn (pc' := 43) (ls' := [some (.ref _), some (.int _), some (.ref _), some (.ref _), some (.int _), some (.int _), some (.int _)]) (st' := [.ref _]) 1 rfl ?_
    refine od_rG rfl (od_cm_o hxn hA) rfl rfl ?_
    refine od_W.rn (pc' := 47) (ls' := [some (.ref _), some (.int _), some (.ref _), some (.ref _), some (.int _), some (.int _), some (.int _)]) (st' := [.ref _, .ref _]) 1 rfl ?_
    refine od_rG rfl (od_cm_o hxn hA) rfl rfl ?_
    refine od_W.rn (pc' := 51) (ls' := [some (.ref _), some (.int _), some (.ref _), some (.ref _), some (.int _), some (.int _), some (.int _)]) (st' := [.ref _, .ref _, .ref _]) 1 rfl ?_
    refine od_rG rfl (od_cm_o hxn hA) rfl rfl ?_
    refine od_rSt (as := [.ref (x + 15), .ref (x + 17), .ref (x + 19)]) rfl rfl rfl rfl (Nat.le_of_ble_eq_true rfl) (Nat.le_of_ble_eq_true rfl) (lt_makeNaturalSum hS r15 r17 r19 (by omega) (by omega) b1 a1 a2 w1 w2) (Nat.le_of_ble_eq_true rfl) (fun o M1 hq => ?_)
    refine od_Re.kp hq rfl (by simp) (g1) (fun z => tm_ft_t z.1) (fun ρ2 f2 g2 b2 p2 k2 => ?_)
    have hy3 := hy1.fr (f2 b (by simp; omega))
    have hz2 := hz1.fr (f2 out (by simp; omega))
    have he2 := he1.fr (f2 (x + 15) (by simp))
    refine od_W.rn (pc' := 58) (ls' := [some (.ref _), some (.int _), some (.ref _), some (.ref _), some (.int _), some (.int _), some (.int _)]) (st' := [.ref _]) 1 rfl ?_
    refine od_rG rfl (od_cm_o hxn hA) rfl rfl ?_
    refine od_W.rn (pc' := 62) (ls' := [some (.ref _), some (.int _), some (.ref _), some (.ref _), some (.int _), some (.int _), some (.int _)]) (st' := [.ref _, .ref _]) 1 rfl ?_
    refine od_rG rfl (od_cm_o hxn hA) rfl rfl ?_
    refine od_W.rn (pc' := 70) (ls' := [some (.ref _), some (.int _), some (.ref _), some (.ref _), some (.int _), some (.int _), some (.int _)]) (st' := [.int _, .ref _, .long _, .ref _, .ref _]) 4 rfl ?_
    refine od_rV (as := [.int (nI ((tm_fl done).length + (tm_t u).length))]) rfl rfl rfl rfl (od_cm_r hb') rfl (Nat.le_of_ble_eq_true rfl) (Nat.le_of_ble_eq_true rfl) (lt_coefficient hS hb' b2 hy3 rfl) (Nat.le_of_ble_eq_true rfl) (fun o M1 hq => ?_)
    obtain ⟨rfl, rfl⟩ := hq
    refine od_K.ret ?_
    refine od_W.rn (pc' := 75) (ls' := [some (.ref _), some (.int _), some (.ref _), some (.ref _), some (.int _), some (.int _), some (.int _)]) (st' := [.long _, .ref _, .ref _]) 2 rfl ?_
    rw [nI_1000 ht.2.2, nI_1000 hal.1.2.2, lN_mul]
    refine od_rV (as := [.ref (x + 19), .long (lN (t.2 * u.2))]) rfl rfl rfl rfl (od_cm_r r21) rfl (Nat.le_of_ble_eq_true rfl) (Nat.le_of_ble_eq_true rfl) (lt_becomeTerm hS r21 r19 (by omega) b2 p2 hcd.2) (Nat.le_of_ble_eq_true rfl) (fun o M1 hq => ?_)
    refine od_Re.kp hq rfl (by simp) (g2) (fun z => z.1) (fun ρ3 f3 g3 b3 p3 k3 => ?_)
    have hy4 := hy3.fr (f3 b (by simp; omega))
    have hz3 := hz2.fr (f3 out (by simp; omega))
    have he3 := he2.fr (f3 (x + 15) (by simp))
    have p3' : od_hl ρ3 (x + 21) (tm_fl [sp_j t u]) := by rw [tm_fl_one]; exact p3
    have okj := sp_j_ok ht hal.1 k3
    refine od_W.rn (pc' := 80) (ls' := [some (.ref _), some (.int _), some (.ref _), some (.ref _), some (.int _), some (.int _), some (.int _)]) (st' := [.ref _, .ref _]) 2 rfl ?_
    refine od_rG rfl (od_cm_o hxn hA) rfl rfl ?_
    refine od_W.rn (pc' := 84) (ls' := [some (.ref _), some (.int _), some (.ref _), some (.ref _), some (.int _), some (.int _), some (.int _)]) (st' := [.ref _, .ref _, .ref _]) 1 rfl ?_
    refine od_rG rfl (od_cm_o hxn hA) rfl rfl ?_
    refine od_rSt (as := [.ref out, .ref (x + 21), .ref (x + 25)]) rfl rfl rfl rfl (Nat.le_of_ble_eq_true rfl) (Nat.le_of_ble_eq_true rfl) (lt_makeNaturalSum hS ho r21 r25 (by omega) (by omega) b3 alt (us := [sp_j t u]) ⟨okj, trivial⟩ hz3 p3') (Nat.le_of_ble_eq_true rfl) (fun o M1 hq => ?_)
    refine od_Re.kp hq rfl (by simp) (g3) (fun z => z.2.1) (fun ρ4 f4 g4 b4 p4 k4 => ?_)
    have hy5 := hy4.fr (f4 b (by simp; omega))
    have he4 := he3.fr (f4 (x + 15) (by simp))
    refine od_W.rn (pc' := 92) (ls' := [some (.ref _), some (.int _), some (.ref _), some (.ref _), some (.int _), some (.int _), some (.int _)]) (st' := [.ref _, .ref _]) 2 rfl ?_
    refine od_rG rfl (od_cm_o hxn hA) rfl rfl ?_
    refine od_rV (as := [.ref (x + 25)]) rfl rfl rfl rfl (od_cm_r ho) rfl (Nat.le_of_ble_eq_true rfl) (Nat.le_of_ble_eq_true rfl) (lt_become hS ho r25 (by omega) b4 p4) (Nat.le_of_ble_eq_true rfl) (fun o M1 hq => ?_)
    refine od_Re.kp hq rfl (by simp) (g4) (fun _ => trivial) (fun ρ5 f5 g5 b5 p5 k5 => ?_)
    have hy6 := hy5.fr (f5 b (by simp; omega))
    have he5 := he4.fr (f5 (x + 15) (by simp; omega))
    refine od_W.rn (pc' := 6) (ls' := [some (.ref _), some (.int _), some (.ref _), some (.ref _), some (.int _), some (.int _), some (.int _)]) (st' := []) 4 rfl ?_
    rw [e, nI_inc done.length, show done.length + 1 = (done ++ [u]).length by simp]
    refine (ih (done ++ [u]) ρ5 (sp_a1 t tot u) _ hal.2 (sp_a1_al ht hal.1 alt k3 k4) b5 g5 (by rw [tm_fl_snoc, List.append_assoc]; exact hy6) p5 he5).mono fun o M' h => ?_
    exact h.mono (fun q h => h) ⟨fun z => ⟨k3, k4, z⟩, fun z => z.2.2⟩ (fun ρ' _ _ h => h)
theorem lt_addNaturalProduct {ρ : od_Rm} (hS : od_SS S) (hA : od_AR M x) (hR : od_ARs S x) (hb' : S b = true) (ho : S out = true) (nb : b ∉ [out, x + 17, x + 19, x + 21, x + 25]) (no : out ∉ [x + 15, x + 17, x + 19, x + 21, x + 25]) {t : tm_T} (ht : tm_ok t) (hb : od_Bd ρ) {us tot : List tm_T} (h1 : tm_al us) (h2 : tm_al tot) (hy : od_hl ρ b (tm_fl us)) (hz : od_hl ρ out (tm_fl tot)) (he : od_hl ρ (x + 15) t.1) : od_W 5 38 0 (od_ent 38 [.ref x, .int (nI t.2), .ref b, .ref out]) [] (od_cm S M ρ) (od_Re S M ρ [out, x + 17, x + 19, x + 21, x + 25] (ok_aa t tot us) none (fun ρ' => od_hl ρ' out (tm_fl (sp_aa t tot us)))) := by
  have e0 : od_ent 38 [.ref x, .int (nI t.2), .ref b, .ref out] = [some (.ref x), some (.int (nI t.2)), some (.ref b), some (.ref out), none, none, none] := rfl
  rw [e0]
  refine od_W.rn (pc' := 6) (ls' := [some (.ref _), some (.int _), some (.ref _), some (.ref _), some (.int _), some (.int _), none]) (st' := []) 4 rfl ?_
  exact cl_aa_loop hS hA hR hb' ho nb no ht us [] ρ tot none h1 h2 hb (od_fr0 ρ _) hy hz he
set_option maxRecDepth 100000 in
theorem cl_np_loop (hS : od_SS S) (hA : od_AR M x) (hR : od_ARs S x) (ha : S a = true) (hb' : S b = true) (ho : S out = true) (na : a ∉ [out, x + 15, x + 17, x + 19, x + 21, x + 25]) (nb : b ∉ [out, x + 15, x + 17, x + 19, x + 21, x + 25]) (no : out ∉ [x + 15, x + 17, x + 19, x + 21, x + 25]) {us : List tm_T} (hu : tm_al us) : ∀ (todo done : List tm_T) (ρ : od_Rm) (tot : List tm_T) (w : Option Value), tm_al todo → tm_al tot → od_Bd ρ → (∀ q, q ∉ [out, x + 15, x + 17, x + 19, x + 21, x + 25] → ρ q = ρ0 q) → od_hl ρ a (tm_fl done ++ tm_fl todo) → od_hl ρ b (tm_fl us) → od_hl ρ out (tm_fl tot) → od_W 6 37 10 [some (.ref x), some (.ref a), some (.ref b), some (.ref out), some (.int (nI (tm_fl done).length)), some (.int (nI done.length)), w] [] (od_cm S M ρ) (od_Re S M ρ0 [out, x + 15, x + 17, x + 19, x + 21, x + 25] (ok_np us tot todo) none (fun ρ' => od_hl ρ' out (tm_fl (sp_np us tot todo)))) := by
  have r15 : S (x + 15) = true := hR.2 7 (by omega)
  have hxn : od_no S x := hR.1
  simp only [List.mem_cons, List.not_mem_nil, or_false, not_or] at na nb
  intro todo
  induction todo with
  | nil =>
    intro done ρ tot w _ _ hb g hy hz he
    have hl := hy.n
    have h60 := hy.le hb
    have h3 := tm_fl_len done
    rw [tm_fl, List.append_nil] at hl h60
    by_cases h20 : done.length < 20
    · refine od_W.rn (pc' := 14) (ls' := [some (.ref _), some (.ref _), some (.ref _), some (.ref _), some (.int _), some (.int _), _]) (st' := [.int _, .int _]) 2 rfl ?_
      refine od_r2F rfl (of_decide_eq_true rfl) (decide_eq_false (nI_ge (b := 20) h20 (by omega))) ?_
      refine od_W.rn (pc' := 20) (ls' := [some (.ref _), some (.ref _), some (.ref _), some (.ref _), some (.int _), some (.int _), _]) (st' := [.ref _, .int _]) 2 rfl ?_
      refine od_gL rfl rfl (ha) (hl) ?_
      refine od_r2T rfl rfl (decide_eq_true (nI_le (Nat.le_refl _) (by omega))) ?_
      refine od_W.fin rfl ?_
      exact od_Re.yes g hb trivial he
    · refine od_W.rn (pc' := 14) (ls' := [some (.ref _), some (.ref _), some (.ref _), some (.ref _), some (.int _), some (.int _), _]) (st' := [.int _, .int _]) 2 rfl ?_
      refine od_r2T rfl rfl (decide_eq_true (nI_le (a := 20) (by omega) (by omega))) ?_
      refine od_W.fin rfl ?_
      exact od_Re.yes g hb trivial he
  | cons t todo ih =>
    intro done ρ tot w hal alt hb g hy hu' hz
    have hl := hy.n
    have h60 := hy.le hb
    have h3 := tm_fl_len done
    rw [tm_fl, List.length_append, List.length_append, tm_t_len] at hl h60
    have hy2 : od_hl ρ a (tm_fl done ++ (tm_t t ++ tm_fl todo)) := hy
    have e : (tm_fl done).length + (tm_t t).length = (tm_fl (done ++ [t])).length := by rw [tm_fl_snoc, List.length_append]
    refine od_W.rn (pc' := 14) (ls' := [some (.ref _), some (.ref _), some (.ref _), some (.ref _), some (.int _), some (.int _), _]) (st' := [.int _, .int _]) 2 rfl ?_
    refine od_r2F rfl (of_decide_eq_true rfl) (decide_eq_false (nI_ge (b := 20) (by omega) (by omega))) ?_
    refine od_W.rn (pc' := 20) (ls' := [some (.ref _), some (.ref _), some (.ref _), some (.ref _), some (.int _), some (.int _), _]) (st' := [.ref _, .int _]) 2 rfl ?_
    refine od_gL rfl rfl (ha) (hl) ?_
    refine od_r2F rfl (of_decide_eq_true rfl) (decide_eq_false (nI_ge (by omega) (by omega))) ?_
    refine od_W.rn (pc' := 29) (ls' := [some (.ref _), some (.ref _), some (.ref _), some (.ref _), some (.int _), some (.int _), _]) (st' := [.int _, .ref _]) 2 rfl ?_
    refine od_rV (as := [.int (nI (tm_fl done).length)]) rfl rfl rfl rfl (od_cm_r ha) rfl (Nat.le_of_ble_eq_true rfl) (Nat.le_of_ble_eq_true rfl) (lt_termEnd hS ha hb hal.1 hy2 rfl) (Nat.le_of_ble_eq_true rfl) (fun o M1 hq => ?_)
    obtain ⟨rfl, rfl⟩ := hq
    refine od_K.ret ?_
    refine od_W.rn (pc' := 35) (ls' := [some (.ref _), some (.ref _), some (.ref _), some (.ref _), some (.int _), some (.int _), some (.int _)]) (st' := [.ref _]) 2 rfl ?_
    refine od_rG rfl (od_cm_o hxn hA) rfl rfl ?_
    refine od_W.rn (pc' := 43) (ls' := [some (.ref _), some (.ref _), some (.ref _), some (.ref _), some (.int _), some (.int _), some (.int _)]) (st' := [.int _, .int _, .ref _, .ref _]) 3 rfl ?_
    refine od_rV (as := [.ref a, .int (nI (tm_fl done).length), .int (nI ((tm_fl done).length + (tm_t t).length))]) rfl rfl rfl rfl (od_cm_r r15) rfl (Nat.le_of_ble_eq_true rfl) (Nat.le_of_ble_eq_true rfl) (lt_becomeExponent hS r15 ha (by omega) hb hy2 rfl rfl) (Nat.le_of_ble_eq_true rfl) (fun o M1 hq => ?_)
    refine od_Re.kp hq rfl (by simp) (g) (fun _ => trivial) (fun ρ1 f1 g1 b1 p1 k1 => ?_)
    simp only [List.mem_cons, List.not_mem_nil, or_false, not_or] at no
    have hy1 := hy2.fr (f1 a (by simp; omega))
    have hu1 := hu'.fr (f1 b (by simp; omega))
    have hz1 := hz.fr (f1 out (by simp; omega))
    refine od_W.rn (pc' := 50) (ls' := [some (.ref _), some (.ref _), some (.ref _), some (.ref _), some (.int _), some (.int _), some (.int _)]) (st' := [.int _, .ref _, .ref _]) 3 rfl ?_
    refine od_rV (as := [.int (nI ((tm_fl done).length + (tm_t t).length))]) rfl rfl rfl rfl (od_cm_r ha) rfl (Nat.le_of_ble_eq_true rfl) (Nat.le_of_ble_eq_true rfl) (lt_coefficient hS ha b1 hy1 rfl) (Nat.le_of_ble_eq_true rfl) (fun o M1 hq => ?_)
    obtain ⟨rfl, rfl⟩ := hq
    refine od_K.ret ?_
    refine od_W.rn (pc' := 55) (ls' := [some (.ref _), some (.ref _), some (.ref _), some (.ref _), some (.int _), some (.int _), some (.int _)]) (st' := [.ref _, .ref _, .int _, .ref _]) 2 rfl ?_
    refine od_rV (as := [.int (nI t.2), .ref b, .ref out]) rfl rfl rfl rfl (od_cm_o hxn hA) rfl (Nat.le_of_ble_eq_true rfl) (Nat.le_of_ble_eq_true rfl) (lt_addNaturalProduct hS hA hR hb' ho (by simp; omega) (by simp; omega) hal.1 b1 hu alt hu1 hz1 p1) (Nat.le_of_ble_eq_true rfl) (fun o M1 hq => ?_)
    refine od_Re.kp hq rfl (by simp) (g1) (fun z => z.1) (fun ρ2 f2 g2 b2 p2 k2 => ?_)
    have hy4 := hy1.fr (f2 a (by simp; omega))
    have hu2 := hu1.fr (f2 b (by simp; omega))
    refine od_W.rn (pc' := 10) (ls' := [some (.ref _), some (.ref _), some (.ref _), some (.ref _), some (.int _), some (.int _), some (.int _)]) (st' := []) 4 rfl ?_
    rw [e, nI_inc done.length, show done.length + 1 = (done ++ [t]).length by simp]
    refine (ih (done ++ [t]) ρ2 (sp_aa t tot us) _ hal.2 (sp_aa_al hal.1 hu alt k2) b2 g2 (by rw [tm_fl_snoc, List.append_assoc]; exact hy4) hu2 p2).mono fun o M' h => ?_
    exact h.mono (fun q h => h) ⟨fun z => ⟨k2, z⟩, fun z => z.2⟩ (fun ρ' _ _ h => h)
theorem lt_makeNaturalProduct {ρ : od_Rm} (hS : od_SS S) (hA : od_AR M x) (hR : od_ARs S x) (ha : S a = true) (hb' : S b = true) (ho : S out = true) (na : a ∉ [out, x + 15, x + 17, x + 19, x + 21, x + 25]) (nb : b ∉ [out, x + 15, x + 17, x + 19, x + 21, x + 25]) (no : out ∉ [x + 15, x + 17, x + 19, x + 21, x + 25]) (hb : od_Bd ρ) {ts us : List tm_T} (h1 : tm_al ts) (h2 : tm_al us) (hx : od_hl ρ a (tm_fl ts)) (hy : od_hl ρ b (tm_fl us)) : od_W 6 37 0 (od_ent 37 [.ref x, .ref a, .ref b, .ref out]) [] (od_cm S M ρ) (od_Re S M ρ [out, x + 15, x + 17, x + 19, x + 21, x + 25] (ok_np us [] ts) none (fun ρ' => od_hl ρ' out (tm_fl (sp_np us [] ts)))) := by
  have e0 : od_ent 37 [.ref x, .ref a, .ref b, .ref out] = [some (.ref x), some (.ref a), some (.ref b), some (.ref out), none, none, none] := rfl
  rw [e0]
  have na' := na
  have nb' := nb
  simp only [List.mem_cons, List.not_mem_nil, or_false, not_or] at na nb
  refine od_W.rn (pc' := 1) (ls' := [some (.ref _), some (.ref _), some (.ref _), some (.ref _), none, none, none]) (st' := [.ref _]) 1 rfl ?_
  refine od_rV (as := []) rfl rfl rfl rfl (od_cm_r ho) rfl (Nat.le_of_ble_eq_true rfl) (Nat.le_of_ble_eq_true rfl) (lt_clear hS ho hb) (Nat.le_of_ble_eq_true rfl) (fun o M1 hq => ?_)
  refine od_Re.kp hq rfl (by simp) (od_fr0 ρ _) (fun _ => trivial) (fun ρ1 f1 g1 b1 p1 k1 => ?_)
  have hx1 := hx.fr (f1 a (by simp; omega))
  have hy1 := hy.fr (f1 b (by simp; omega))
  refine od_W.rn (pc' := 10) (ls' := [some (.ref _), some (.ref _), some (.ref _), some (.ref _), some (.int _), some (.int _), none]) (st' := []) 4 rfl ?_
  exact cl_np_loop (M := M) (ρ0 := ρ) hS hA hR ha hb' ho na' nb' no h2 ts [] ρ1 [] none h1 trivial b1 g1 hx1 hy1 p1
end NPR
end
section
/-! Powers. -/
theorem od_lc_gt (x y : Int64) : od_cond .gt (lg_cmp x y) 0 = decide (y < x) := by
  by_cases h : y < x
  · rw [decide_eq_true h]; exact decide_eq_true ((lg_cmp_gt x y).mpr h)
  · rw [decide_eq_false h]; exact decide_eq_false (fun z => h ((lg_cmp_gt x y).mp z))
def sp_pw (a : Nat) : Nat → Nat → Nat
  | 0, v => v
  | m + 1, v => if v ≤ 1000000 then sp_pw a m (v * a) else v
theorem sp_pw_big (a : Nat) : ∀ (m v : Nat), ¬ v ≤ 1000000 → sp_pw a m v = v := by
  intro m v h
  cases m with
  | zero => rfl
  | succ m => exact if_neg h
theorem sp_pw_le {a : Nat} (ha : a ≤ 1000000) : ∀ (m v : Nat), v ≤ 1000000000000 → sp_pw a m v ≤ 1000000000000 := by
  intro m
  induction m with
  | zero => intro v h; exact h
  | succ m ih =>
    intro v h
    unfold sp_pw
    by_cases h1 : v ≤ 1000000
    · rw [if_pos h1]; exact ih _ (Nat.mul_le_mul h1 ha)
    · rw [if_neg h1]; exact h
theorem sp_pw_pos {a : Nat} (ha : 1 ≤ a) : ∀ (m v : Nat), 1 ≤ v → 1 ≤ sp_pw a m v := by
  intro m
  induction m with
  | zero => intro v h; exact h
  | succ m ih =>
    intro v h
    unfold sp_pw
    by_cases h1 : v ≤ 1000000
    · rw [if_pos h1]; exact ih _ (Nat.mul_pos h ha)
    · rw [if_neg h1]; exact h
/-- the exponent that a power of a number has for an exponent of the limit -/
def sp_dn (e : List Nat) : List Nat := if e.length ≤ 3 then tm_num (tm_n (tm_tp e) - 1) else e
def sp_pe (ls : List tm_T) : List tm_T := ls.map fun t => (sp_dn t.1, t.2)
theorem tm_num_W {c : Nat} (h : c ≤ 1000000) : tm_W (tm_num c) := by
  unfold tm_num
  by_cases h0 : c = 0
  · rw [if_pos h0]; exact tm_nil
  · rw [if_neg h0]; exact tm_cons (e := []) tm_nil ⟨by omega, h⟩ tm_nil
theorem tm_n_le {ts : List tm_T} (h : tm_al ts) : tm_n ts ≤ 1000000 := by
  rcases tm_snoc ts with rfl | ⟨us, t, rfl⟩
  · exact Nat.zero_le _
  · rw [tm_n_snoc]
    have := (tm_al_app.mp h).2.1.2.2
    split
    · exact this
    · omega
theorem sp_dn_W {e : List Nat} (h : tm_W e) : tm_W (sp_dn e) := by
  unfold sp_dn
  split
  · have := tm_n_le (tm_al_tp h); exact tm_num_W (by omega)
  · exact h
theorem sp_pe_al {ls : List tm_T} (h : tm_al ls) : tm_al (sp_pe ls) := by
  induction ls with
  | nil => exact trivial
  | cons t ls ih => exact ⟨⟨sp_dn_W h.1.1, h.1.2⟩, ih h.2⟩
/-- the part of an exponent before its number -/
def sp_lim (us : List tm_T) : List tm_T := if tm_n us = 0 then us else us.dropLast
theorem sp_lim_al {us : List tm_T} (h : tm_al us) : tm_al (sp_lim us) := by
  unfold sp_lim
  split
  · exact h
  · rcases tm_snoc us with rfl | ⟨vs, t, rfl⟩
    · exact h
    · rw [List.dropLast_concat]; exact (tm_al_app.mp h).1
def sp_pi (ts : List tm_T) : Nat → List tm_T → List tm_T
  | 0, tot => tot
  | m + 1, tot => sp_pi ts m (sp_mul tot ts)
def ok_pi (ts : List tm_T) : Nat → List tm_T → Prop
  | 0, _ => True
  | m + 1, tot => tm_ft (tm_fl (sp_mul tot ts)) ∧ ok_pi ts m (sp_mul tot ts)
theorem sp_pi_al {ts : List tm_T} (h : tm_al ts) : ∀ (m : Nat) (tot : List tm_T), tm_al tot → ok_pi ts m tot → tm_al (sp_pi ts m tot) := by
  intro m
  induction m with
  | zero => intro tot h2 _; exact h2
  | succ m ih => intro tot h2 h3; exact ih _ (sp_mul_al h2 h h3.1.2) h3.2
def sp_pq (t : tm_T) (ls : List tm_T) : tm_T := (tm_fl (sp_mul (tm_tp t.1) ls), 1)
def sp_pow (ts us : List tm_T) : List tm_T := if us = [] ∨ tm_fl ts = [1, 0, 1] then [([], 1)] else match ts with
  | [] => []
  | t :: ts' => if (tm_fl (t :: ts')).length ≤ 3 then [(tm_fl (sp_pe (sp_lim us)), sp_pw (tm_n (t :: ts')) (tm_n us) 1)] else sp_mul [sp_pq t (sp_lim us)] (sp_pi (t :: ts') (tm_n us) [([], 1)])
def ok_pin (t : tm_T) (ts ls : List tm_T) (m : Nat) : Prop := m ≤ 20 ∧ ok_pi (t :: ts) m [([], 1)] ∧ tm_ft (tm_fl (sp_mul (tm_tp t.1) ls)) ∧ tm_ft (tm_t (sp_pq t ls)) ∧ tm_ft (tm_fl (sp_mul [sp_pq t ls] (sp_pi (t :: ts) m [([], 1)])))
def ok_pow (ts us : List tm_T) : Prop := if us = [] ∨ tm_fl ts = [1, 0, 1] then True else match ts with
  | [] => True
  | t :: ts' => if (tm_fl (t :: ts')).length ≤ 3 then tm_ft (tm_t (tm_fl (sp_pe (sp_lim us)), sp_pw (tm_n (t :: ts')) (tm_n us) 1)) else ok_pin t ts' (sp_lim us) (tm_n us)
theorem sp_pq_ok {t : tm_T} {ls : List tm_T} (h1 : tm_ok t) (h2 : tm_al ls) (hf : tm_ft (tm_fl (sp_mul (tm_tp t.1) ls))) : tm_ok (sp_pq t ls) := ⟨tm_fl_W (sp_mul_al (tm_al_tp h1.1) h2 hf.2), by unfold tm_c sp_pq; dsimp only; omega⟩
theorem tm_al_one : tm_al [([], 1)] := ⟨⟨tm_nil, by unfold tm_c; dsimp only; omega⟩, trivial⟩
theorem tm_fin {t : tm_T} {ts : List tm_T} (h : (tm_fl (t :: ts)).length ≤ 3) : t.1 = [] ∧ ts = [] := by
  rw [tm_fl, List.length_append, tm_t_len] at h
  have := tm_fl_len ts
  exact ⟨List.length_eq_zero_iff.mp (by omega), List.length_eq_zero_iff.mp (by omega)⟩
theorem sp_pow_al {ts us : List tm_T} (h1 : tm_al ts) (h2 : tm_al us) (hf : ok_pow ts us) : tm_al (sp_pow ts us) := by
  unfold sp_pow
  unfold ok_pow at hf
  by_cases h0 : us = [] ∨ tm_fl ts = [1, 0, 1]
  · rw [if_pos h0]; exact tm_al_one
  · rw [if_neg h0] at hf ⊢
    cases ts with
    | nil => exact trivial
    | cons t ts =>
      dsimp only at hf ⊢
      by_cases h3 : (tm_fl (t :: ts)).length ≤ 3
      · rw [if_pos h3] at hf ⊢
        obtain ⟨e1, rfl⟩ := tm_fin h3
        refine ⟨⟨tm_fl_W (sp_pe_al (sp_lim_al h2)), sp_pw_pos ?_ _ _ (by omega), (tm_sm_t.mp hf.2).2⟩, trivial⟩
        show 1 ≤ if t.1 = [] then t.2 else 0
        rw [if_pos e1]
        exact h1.1.2.1
      · rw [if_neg h3] at hf ⊢
        obtain ⟨f1, f2, f3, f4, f5⟩ := hf
        exact sp_mul_al ⟨sp_pq_ok h1.1 (sp_lim_al h2) f3, trivial⟩ (sp_pi_al h1 _ _ tm_al_one f2) f5.2
section POW
variable {S : Nat → Bool} {M : od_M} {ρ0 : od_Rm} {x a b out : Nat}
theorem lt_becomeNumberN {ρ : od_Rm} {r : Nat} (hS : od_SS S) (hr : S r = true) (hb : od_Bd ρ) {v : Int32} (hv : v.toInt64 ≤ 0) : od_W 1 16 0 (od_ent 16 [.ref r, .int v]) [] (od_cm S M ρ) (od_Re S M ρ [r] True none (fun ρ' => od_hl ρ' r [])) := by
  have hnil : tm_sm [] := fun x hx => (List.not_mem_nil hx).elim
  refine (ct_becomeNumber0 (od_cm_Rw hS hr (hb r)) hv).mono fun o M1 h => ?_
  exact (h.ls (xs := []) (ws := []) hS hr hb rfl (tm_at_nil _ _) hnil rfl ⟨fun _ => hnil, fun _ => trivial⟩).mono (fun q h => h) ⟨fun _ => trivial, fun _ => ⟨by simp, hnil⟩⟩ (fun ρ' _ _ h => h)
theorem cl_pw_loop {Ms : od_M} {a m : Nat} (ha : a ≤ 1000000) (hm : m ≤ 1000000) : ∀ (n i v : Nat), i + n = m → v ≤ 1000000000000 → od_W 0 34 5 [some (.int (nI a)), some (.int (nI m)), some (.long (lN v)), none, some (.int (nI i))] [] Ms (fun o M' => o = .inl (some (.long (lN (sp_pw a n v)))) ∧ M' = Ms) := by
  intro n
  induction n with
  | zero =>
    intro i v hi hv
    refine od_W.rn (pc' := 8) (ls' := [some (.int _), some (.int _), some (.long _), none, some (.int _)]) (st' := [.int _, .int _]) 2 rfl ?_
    refine od_r2T rfl rfl (decide_eq_true (nI_le (by omega) (by omega))) ?_
    refine od_W.rn (pc' := 31) (ls' := [some (.int _), some (.int _), some (.long _), none, some (.int _)]) (st' := [.long _]) 1 rfl ?_
    refine od_W.fin rfl ?_
    exact ⟨rfl, rfl⟩
  | succ n ih =>
    intro i v hi hv
    refine od_W.rn (pc' := 8) (ls' := [some (.int _), some (.int _), some (.long _), none, some (.int _)]) (st' := [.int _, .int _]) 2 rfl ?_
    refine od_r2F rfl (of_decide_eq_true rfl) (decide_eq_false (nI_ge (by omega) (by omega))) ?_
    refine od_W.rn (pc' := 16) (ls' := [some (.int _), some (.int _), some (.long _), none, some (.int _)]) (st' := [.int _]) 3 rfl ?_
    by_cases h : v ≤ 1000000
    · refine od_r1F rfl (of_decide_eq_true rfl) ((od_lc_gt _ _).trans (decide_eq_false (fun z => absurd ((pk_lLT (a := 1000000) (by omega) (by omega)).mp z) (by omega)))) ?_
      refine od_W.rn (pc' := 5) (ls' := [some (.int _), some (.int _), some (.long _), none, some (.int _)]) (st' := []) 7 rfl ?_
      rw [nI_1000 ha, lN_mul, nI_inc i, show sp_pw a (n + 1) v = sp_pw a n (v * a) from if_pos h]
      exact ih (i + 1) (v * a) (by omega) (Nat.mul_le_mul h ha)
    · rw [sp_pw_big a _ v h]
      refine od_r1T rfl rfl ((od_lc_gt _ _).trans (decide_eq_true ((pk_lLT (a := 1000000) (by omega) (by omega)).mpr (by omega)))) ?_
      refine od_W.rn (pc' := 31) (ls' := [some (.int _), some (.int _), some (.long _), none, some (.int _)]) (st' := [.long _]) 1 rfl ?_
      refine od_W.fin rfl ?_
      exact ⟨rfl, rfl⟩
theorem ct_powerOfNumber {Ms : od_M} {a m : Nat} (ha : a ≤ 1000000) (hm : m ≤ 1000000) : od_W 0 34 0 (od_ent 34 [.int (nI a), .int (nI m)]) [] Ms (fun o M' => o = .inl (some (.long (lN (sp_pw a m 1)))) ∧ M' = Ms) := by
  have e0 : od_ent 34 [.int (nI a), .int (nI m)] = [some (.int (nI a)), some (.int (nI m)), none, none, none] := rfl
  rw [e0]
  refine od_W.rn (pc' := 5) (ls' := [some (.int _), some (.int _), some (.long _), none, some (.int _)]) (st' := []) 4 rfl ?_
  exact cl_pw_loop ha hm m 0 1 (by omega) (by omega)
end POW
end
section
/-! The class's powers. -/
section POW2
variable {S : Nat → Bool} {M : od_M} {ρ0 : od_Rm} {x a b out : Nat}
theorem lt_isFinite {ρ : od_Rm} {q : Nat} (hS : od_SS S) (hq' : S q = true) (hb : od_Bd ρ) {xs : List Nat} (hy : od_hl ρ q xs) : od_W 0 2 0 (od_ent 2 [.ref q]) [] (od_cm S M ρ) (fun o M' => o = .inl (some (.int (if xs.length ≤ 3 then 1 else 0))) ∧ M' = od_cm S M ρ) := by
  have := ct_isFinite (od_cm_Rw (M := M) hS hq' (hb q))
  rw [hy.n] at this
  exact this
set_option maxRecDepth 100000 in
theorem cl_pn_loop (hS : od_SS S) (hA : od_AR M x) (hR : od_ARs S x) (ho : S out = true) {av m : Nat} (hav : av ≤ 1000000) (hm : m ≤ 1000000) (no : out ∉ [x + 7, x + 9, x + 13]) : ∀ (todo done : List tm_T) (ρ : od_Rm) (zs : List Nat) (w : Option Value), tm_al todo → od_Bd ρ → (∀ q, q ∉ [out, x + 9, x + 13] → ρ q = ρ0 q) → od_hl ρ (x + 7) (tm_fl done ++ tm_fl todo) → od_hl ρ (x + 13) zs → od_W 5 33 13 [some (.ref x), some (.int (nI av)), some (.int (nI m)), some (.ref out), some (.int (nI (tm_fl done).length)), some (.int (nI done.length)), w] [] (od_cm S M ρ) (od_Re S M ρ0 [out, x + 9, x + 13] (tm_ft (tm_t (zs ++ tm_fl (sp_pe todo), sp_pw av m 1))) none (fun ρ' => od_hl ρ' out (tm_t (zs ++ tm_fl (sp_pe todo), sp_pw av m 1)))) := by
  have r7 : S (x + 7) = true := hR.2 3 (by omega)
  have r9 : S (x + 9) = true := hR.2 4 (by omega)
  have r13 : S (x + 13) = true := hR.2 6 (by omega)
  have hxn : od_no S x := hR.1
  have hpw := sp_pw_le hav m 1 (by omega)
  simp only [List.mem_cons, List.not_mem_nil, or_false, not_or] at no
  intro todo
  induction todo with
  | nil =>
    intro done ρ zs w _ hb g hy hz
    have hl := hy.n
    have h60 := hy.le hb
    have h3 := tm_fl_len done
    rw [tm_fl, List.append_nil] at hl h60
    rw [show tm_fl (sp_pe []) = [] from rfl, List.append_nil]
    have hend : ∀ wt : Int32, od_W 5 33 115 [some (.ref x), some (.int (nI av)), some (.int (nI m)), some (.ref out), some (.int (nI (tm_fl done).length)), some (.int wt), w] [] (od_cm S M ρ) (od_Re S M ρ0 [out, x + 9, x + 13] (tm_ft (tm_t (zs, sp_pw av m 1))) none (fun ρ' => od_hl ρ' out (tm_t (zs, sp_pw av m 1)))) := by
      intro wt
      refine od_W.rn (pc' := 117) (ls' := [some (.ref _), some (.int _), some (.int _), some (.ref _), some (.int _), some (.int _), _]) (st' := [.ref _, .ref _]) 2 rfl ?_
      refine od_rG rfl (od_cm_o hxn hA) rfl rfl ?_
      refine od_W.rn (pc' := 122) (ls' := [some (.ref _), some (.int _), some (.int _), some (.ref _), some (.int _), some (.int _), _]) (st' := [.int _, .int _, .ref _, .ref _]) 2 rfl ?_
      refine od_rSt (as := [.int (nI av), .int (nI m)]) rfl rfl rfl rfl (Nat.le_of_ble_eq_true rfl) (Nat.le_of_ble_eq_true rfl) (ct_powerOfNumber hav hm) (Nat.le_of_ble_eq_true rfl) (fun o M1 hq => ?_)
      obtain ⟨rfl, rfl⟩ := hq
      refine od_K.ret ?_
      refine od_rV (as := [.ref (x + 13), .long (lN (sp_pw av m 1))]) rfl rfl rfl rfl (od_cm_r ho) rfl (Nat.le_of_ble_eq_true rfl) (Nat.le_of_ble_eq_true rfl) (lt_becomeTerm hS ho r13 (by omega) hb hz (by omega)) (Nat.le_of_ble_eq_true rfl) (fun o M1 hq => ?_)
      refine od_Re.kp hq rfl (by simp) (g) (fun z => z) (fun ρ1 f1 g1 b1 p1 k1 => ?_)
      refine od_W.fin rfl ?_
      exact od_Re.yes g1 b1 k1 p1
    by_cases h20 : done.length < 20
    · refine od_W.rn (pc' := 17) (ls' := [some (.ref _), some (.int _), some (.int _), some (.ref _), some (.int _), some (.int _), _]) (st' := [.int _, .int _]) 2 rfl ?_
      refine od_r2F rfl (of_decide_eq_true rfl) (decide_eq_false (nI_ge (b := 20) h20 (by omega))) ?_
      refine od_W.rn (pc' := 23) (ls' := [some (.ref _), some (.int _), some (.int _), some (.ref _), some (.int _), some (.int _), _]) (st' := [.ref _, .int _]) 2 rfl ?_
      refine od_rG rfl (od_cm_o hxn hA) rfl rfl ?_
      refine od_gL rfl rfl (r7) (hl) ?_
      refine od_r2T rfl rfl (decide_eq_true (nI_le (Nat.le_refl _) (by omega))) ?_
      exact hend _
    · refine od_W.rn (pc' := 17) (ls' := [some (.ref _), some (.int _), some (.int _), some (.ref _), some (.int _), some (.int _), _]) (st' := [.int _, .int _]) 2 rfl ?_
      refine od_r2T rfl rfl (decide_eq_true (nI_le (a := 20) (by omega) (by omega))) ?_
      exact hend _
  | cons u todo ih =>
    intro done ρ zs w hal hb g hy hz
    have hl := hy.n
    have h60 := hy.le hb
    have h3 := tm_fl_len done
    rw [tm_fl, List.length_append, List.length_append, tm_t_len] at hl h60
    have hy2 : od_hl ρ (x + 7) (tm_fl done ++ (tm_t u ++ tm_fl todo)) := hy
    have e : (tm_fl done).length + (tm_t u).length = (tm_fl (done ++ [u])).length := by rw [tm_fl_snoc, List.length_append]
    have er : tm_fl (sp_pe (u :: todo)) = tm_t (sp_dn u.1, u.2) ++ tm_fl (sp_pe todo) := rfl
    rw [er, ← List.append_assoc]
    have huc := hal.1.2.2
    refine od_W.rn (pc' := 17) (ls' := [some (.ref _), some (.int _), some (.int _), some (.ref _), some (.int _), some (.int _), _]) (st' := [.int _, .int _]) 2 rfl ?_
    refine od_r2F rfl (of_decide_eq_true rfl) (decide_eq_false (nI_ge (b := 20) (by omega) (by omega))) ?_
    refine od_W.rn (pc' := 23) (ls' := [some (.ref _), some (.int _), some (.int _), some (.ref _), some (.int _), some (.int _), _]) (st' := [.ref _, .int _]) 2 rfl ?_
    refine od_rG rfl (od_cm_o hxn hA) rfl rfl ?_
    refine od_gL rfl rfl (r7) (hl) ?_
    refine od_r2F rfl (of_decide_eq_true rfl) (decide_eq_false (nI_ge (by omega) (by omega))) ?_
    refine od_W.rn (pc' := 33) (ls' := [some (.ref _), some (.int _), some (.int _), some (.ref _), some (.int _), some (.int _), _]) (st' := [.ref _]) 1 rfl ?_
    refine od_rG rfl (od_cm_o hxn hA) rfl rfl ?_
    refine od_W.rn (pc' := 38) (ls' := [some (.ref _), some (.int _), some (.int _), some (.ref _), some (.int _), some (.int _), _]) (st' := [.int _, .ref _]) 1 rfl ?_
    refine od_rV (as := [.int (nI (tm_fl done).length)]) rfl rfl rfl rfl (od_cm_r r7) rfl (Nat.le_of_ble_eq_true rfl) (Nat.le_of_ble_eq_true rfl) (lt_termEnd hS r7 hb hal.1 hy2 rfl) (Nat.le_of_ble_eq_true rfl) (fun o M1 hq => ?_)
    obtain ⟨rfl, rfl⟩ := hq
    refine od_K.ret ?_
    refine od_W.rn (pc' := 44) (ls' := [some (.ref _), some (.int _), some (.int _), some (.ref _), some (.int _), some (.int _), some (.int _)]) (st' := [.ref _]) 2 rfl ?_
    refine od_rG rfl (od_cm_o hxn hA) rfl rfl ?_
    refine od_W.rn (pc' := 48) (ls' := [some (.ref _), some (.int _), some (.int _), some (.ref _), some (.int _), some (.int _), some (.int _)]) (st' := [.ref _, .ref _]) 1 rfl ?_
    refine od_rG rfl (od_cm_o hxn hA) rfl rfl ?_
    refine od_W.rn (pc' := 55) (ls' := [some (.ref _), some (.int _), some (.int _), some (.ref _), some (.int _), some (.int _), some (.int _)]) (st' := [.int _, .int _, .ref _, .ref _]) 2 rfl ?_
    refine od_rV (as := [.ref (x + 7), .int (nI (tm_fl done).length), .int (nI ((tm_fl done).length + (tm_t u).length))]) rfl rfl rfl rfl (od_cm_r r9) rfl (Nat.le_of_ble_eq_true rfl) (Nat.le_of_ble_eq_true rfl) (lt_becomeExponent hS r9 r7 (by omega) hb hy2 rfl rfl) (Nat.le_of_ble_eq_true rfl) (fun o M1 hq => ?_)
    refine od_Re.kp hq rfl (by simp) (g) (fun _ => trivial) (fun ρ1 f1 g1 b1 p1 k1 => ?_)
    have hy1 := hy2.fr (f1 (x + 7) (by simp))
    have hz1 := hz.fr (f1 (x + 13) (by simp))
    have tail : ∀ ρ1 : od_Rm, od_Bd ρ1 → (∀ q, q ∉ [out, x + 9, x + 13] → ρ1 q = ρ0 q) → od_hl ρ1 (x + 7) (tm_fl done ++ (tm_t u ++ tm_fl todo)) → od_hl ρ1 (x + 13) zs → od_hl ρ1 (x + 9) (sp_dn u.1) → od_W 5 33 84 [some (.ref x), some (.int (nI av)), some (.int (nI m)), some (.ref out), some (.int (nI (tm_fl done).length)), some (.int (nI done.length)), some (.int (nI ((tm_fl done).length + (tm_t u).length)))] [] (od_cm S M ρ1) (od_Re S M ρ0 [out, x + 9, x + 13] (tm_ft (tm_t (zs ++ tm_t (sp_dn u.1, u.2) ++ tm_fl (sp_pe todo), sp_pw av m 1))) none (fun ρ' => od_hl ρ' out (tm_t (zs ++ tm_t (sp_dn u.1, u.2) ++ tm_fl (sp_pe todo), sp_pw av m 1)))) := by
      intro ρ1 b1 g1 hy1 hz1 p1
      refine od_W.rn (pc' := 85) (ls' := [some (.ref _), some (.int _), some (.int _), some (.ref _), some (.int _), some (.int _), some (.int _)]) (st' := [.ref _]) 1 rfl ?_
      refine od_rG rfl (od_cm_o hxn hA) rfl rfl ?_
      refine od_W.rn (pc' := 89) (ls' := [some (.ref _), some (.int _), some (.int _), some (.ref _), some (.int _), some (.int _), some (.int _)]) (st' := [.ref _, .ref _]) 1 rfl ?_
      refine od_rG rfl (od_cm_o hxn hA) rfl rfl ?_
      refine od_W.rn (pc' := 93) (ls' := [some (.ref _), some (.int _), some (.int _), some (.ref _), some (.int _), some (.int _), some (.int _)]) (st' := [.ref _, .ref _, .ref _]) 1 rfl ?_
      refine od_rG rfl (od_cm_o hxn hA) rfl rfl ?_
      refine od_W.rn (pc' := 98) (ls' := [some (.ref _), some (.int _), some (.int _), some (.ref _), some (.int _), some (.int _), some (.int _)]) (st' := [.int _, .ref _, .ref _, .ref _]) 1 rfl ?_
      refine od_rV (as := [.int (nI ((tm_fl done).length + (tm_t u).length))]) rfl rfl rfl rfl (od_cm_r r7) rfl (Nat.le_of_ble_eq_true rfl) (Nat.le_of_ble_eq_true rfl) (lt_coefficient hS r7 b1 hy1 rfl) (Nat.le_of_ble_eq_true rfl) (fun o M1 hq => ?_)
      obtain ⟨rfl, rfl⟩ := hq
      refine od_K.ret ?_
      refine od_W.rn (pc' := 102) (ls' := [some (.ref _), some (.int _), some (.int _), some (.ref _), some (.int _), some (.int _), some (.int _)]) (st' := [.long _, .ref _, .ref _]) 1 rfl ?_
      rw [nI_1000 huc]
      refine od_rV (as := [.ref (x + 9), .long (lN u.2)]) rfl rfl rfl rfl (od_cm_r r13) rfl (Nat.le_of_ble_eq_true rfl) (Nat.le_of_ble_eq_true rfl) (lt_putTerm hS r13 r9 (by omega) b1 hz1 p1 (by omega)) (Nat.le_of_ble_eq_true rfl) (fun o M1 hq => ?_)
      refine od_Re.kp hq rfl (by simp) (g1) (fun z => tm_ft_l (tm_ft_t z)) (fun ρ2 f2 g2 b2 p2 k2 => ?_)
      have hy3 := hy1.fr (f2 (x + 7) (by simp))
      refine od_W.rn (pc' := 13) (ls' := [some (.ref _), some (.int _), some (.int _), some (.ref _), some (.int _), some (.int _), some (.int _)]) (st' := []) 4 rfl ?_
      rw [e, nI_inc done.length, show done.length + 1 = (done ++ [u]).length by simp]
      exact ih (done ++ [u]) ρ2 _ _ hal.2 b2 g2 (by rw [tm_fl_snoc, List.append_assoc]; exact hy3) p2
    refine od_W.rn (pc' := 59) (ls' := [some (.ref _), some (.int _), some (.int _), some (.ref _), some (.int _), some (.int _), some (.int _)]) (st' := [.ref _]) 1 rfl ?_
    refine od_rG rfl (od_cm_o hxn hA) rfl rfl ?_
    refine od_rV (as := []) rfl rfl rfl rfl (od_cm_r r9) rfl (Nat.le_of_ble_eq_true rfl) (Nat.le_of_ble_eq_true rfl) (lt_isFinite hS r9 b1 p1) (Nat.le_of_ble_eq_true rfl) (fun o M1 hq => ?_)
    obtain ⟨rfl, rfl⟩ := hq
    refine od_K.ret ?_
    by_cases h3 : u.1.length ≤ 3
    · rw [if_pos h3]
      have p1' : od_hl ρ1 (x + 9) (tm_fl (tm_tp u.1)) := by rw [tm_fl_tp hal.1.1]; exact p1
      have a2 := tm_al_tp hal.1.1
      have hnl := tm_n_le a2
      have ed : sp_dn u.1 = tm_num (tm_n (tm_tp u.1) - 1) := if_pos h3
      refine od_r1F rfl (of_decide_eq_true rfl) (rfl) ?_
      refine od_W.rn (pc' := 69) (ls' := [some (.ref _), some (.int _), some (.int _), some (.ref _), some (.int _), some (.int _), some (.int _)]) (st' := [.ref _]) 1 rfl ?_
      refine od_rG rfl (od_cm_o hxn hA) rfl rfl ?_
      refine od_W.rn (pc' := 73) (ls' := [some (.ref _), some (.int _), some (.int _), some (.ref _), some (.int _), some (.int _), some (.int _)]) (st' := [.ref _, .ref _]) 1 rfl ?_
      refine od_rG rfl (od_cm_o hxn hA) rfl rfl ?_
      refine od_rV (as := []) rfl rfl rfl rfl (od_cm_r r9) rfl (Nat.le_of_ble_eq_true rfl) (Nat.le_of_ble_eq_true rfl) (ct_finitePart hS r9 (b1 _) a2 p1'.1) (Nat.le_of_ble_eq_true rfl) (fun o M1 hq => ?_)
      obtain ⟨rfl, rfl⟩ := hq
      refine od_K.ret ?_
      refine od_W.rn (pc' := 81) (ls' := [some (.ref _), some (.int _), some (.int _), some (.ref _), some (.int _), some (.int _), some (.int _)]) (st' := [.int _, .ref _]) 2 rfl ?_
      by_cases h0 : tm_n (tm_tp u.1) = 0
      · rw [h0]
        refine od_rV (as := [.int (nI 0 - 1)]) rfl rfl rfl rfl (od_cm_r r9) rfl (Nat.le_of_ble_eq_true rfl) (Nat.le_of_ble_eq_true rfl) (lt_becomeNumberN hS r9 b1 (by decide)) (Nat.le_of_ble_eq_true rfl) (fun o M1 hq => ?_)
        refine od_Re.kp hq rfl (by simp) (g1) (fun _ => trivial) (fun ρ2 f2 g2 b2 p2 k2 => ?_)
        refine tail ρ2 b2 g2 (hy1.fr (f2 (x + 7) (by simp))) (hz1.fr (f2 (x + 13) (by simp))) ?_
        rw [ed, h0]
        exact p2
      · have e1 : nI (tm_n (tm_tp u.1)) - 1 = nI (tm_n (tm_tp u.1) - 1) := nI_subI (a := 1) (by omega)
        show od_W 5 33 81 [some (.ref x), some (.int (nI av)), some (.int (nI m)), some (.ref out), some (.int (nI (tm_fl done).length)), some (.int (nI done.length)), some (.int (nI ((tm_fl done).length + (tm_t u).length)))] [.int (nI (tm_n (tm_tp u.1)) - 1), .ref (x + 9)] (od_cm S M ρ1) _
        rw [e1]
        refine od_rV (as := [.int (nI (tm_n (tm_tp u.1) - 1))]) rfl rfl rfl rfl (od_cm_r r9) rfl (Nat.le_of_ble_eq_true rfl) (Nat.le_of_ble_eq_true rfl) (lt_becomeNumber hS r9 b1 (by omega)) (Nat.le_of_ble_eq_true rfl) (fun o M1 hq => ?_)
        refine od_Re.kp hq rfl (by simp) (g1) (fun _ => trivial) (fun ρ2 f2 g2 b2 p2 k2 => ?_)
        refine tail ρ2 b2 g2 (hy1.fr (f2 (x + 7) (by simp))) (hz1.fr (f2 (x + 13) (by simp))) ?_
        rw [ed]
        exact p2
    · rw [if_neg h3]
      refine od_r1T rfl rfl (rfl) ?_
      refine tail ρ1 b1 g1 hy1 hz1 ?_
      rw [show sp_dn u.1 = u.1 from if_neg h3]
      exact p1
theorem lt_makePowerOfNumber {ρ : od_Rm} (hS : od_SS S) (hA : od_AR M x) (hR : od_ARs S x) (ho : S out = true) {av m : Nat} (hav : av ≤ 1000000) (hm : m ≤ 1000000) (no : out ∉ [x + 7, x + 9, x + 13]) (hb : od_Bd ρ) {ls : List tm_T} (h1 : tm_al ls) (hy : od_hl ρ (x + 7) (tm_fl ls)) : od_W 5 33 0 (od_ent 33 [.ref x, .int (nI av), .int (nI m), .ref out]) [] (od_cm S M ρ) (od_Re S M ρ [out, x + 9, x + 13] (tm_ft (tm_t (tm_fl (sp_pe ls), sp_pw av m 1))) none (fun ρ' => od_hl ρ' out (tm_t (tm_fl (sp_pe ls), sp_pw av m 1)))) := by
  have e0 : od_ent 33 [.ref x, .int (nI av), .int (nI m), .ref out] = [some (.ref x), some (.int (nI av)), some (.int (nI m)), some (.ref out), none, none, none] := rfl
  rw [e0]
  have r13 : S (x + 13) = true := hR.2 6 (by omega)
  refine od_W.rn (pc' := 1) (ls' := [some (.ref _), some (.int _), some (.int _), some (.ref _), none, none, none]) (st' := [.ref _]) 1 rfl ?_
  refine od_rG rfl (od_cm_o hR.1 hA) rfl rfl ?_
  refine od_rV (as := []) rfl rfl rfl rfl (od_cm_r r13) rfl (Nat.le_of_ble_eq_true rfl) (Nat.le_of_ble_eq_true rfl) (lt_clear hS r13 hb) (Nat.le_of_ble_eq_true rfl) (fun o M1 hq => ?_)
  refine od_Re.kp hq rfl (by simp) (od_fr0 ρ _) (fun _ => trivial) (fun ρ1 f1 g1 b1 p1 k1 => ?_)
  have hy1 := hy.fr (f1 (x + 7) (by simp))
  refine od_W.rn (pc' := 13) (ls' := [some (.ref _), some (.int _), some (.int _), some (.ref _), some (.int _), some (.int _), none]) (st' := []) 4 rfl ?_
  have := cl_pn_loop (M := M) (ρ0 := ρ) hS hA hR ho hav hm no ls [] ρ1 [] none h1 b1 g1 hy1 p1
  rw [List.nil_append] at this
  exact this
theorem od_ne {a q : Nat} {U : List Nat} (h : a ∉ U) (hq : q ∈ U) : a ≠ q := fun e => h (e ▸ hq)
theorem od_nn {a : Nat} {U V : List Nat} (h : a ∉ U) (hs : ∀ q, q ∈ V → q ∈ U) : a ∉ V := fun z => h (hs a z)
theorem od_n1 {a q : Nat} (h : a ≠ q) : a ∉ [q] := fun z => h (List.mem_singleton.mp z)
/-- all rows that a power writes -/
abbrev od_PU (x out : Nat) : List Nat := [out, x + 1, x + 3, x + 5, x + 7, x + 9, x + 11, x + 13, x + 23, x + 25]
set_option maxRecDepth 100000 in
theorem cl_pi_end (hS : od_SS S) (hA : od_AR M x) (hR : od_ARs S x) (ha : S a = true) (ho : S out = true) (na : a ∉ od_PU x out) (no : out ∉ [x + 1, x + 3, x + 5, x + 7, x + 9, x + 11, x + 13, x + 23, x + 25]) {t : tm_T} {ts ls tot : List tm_T} (h1 : tm_al (t :: ts)) (h2 : tm_al ls) (h3 : tm_al tot) {ρ : od_Rm} {y z m : Nat} {i : Int32} {w : Option Value} (hy' : y = x + 23 ∨ y = x + 25) (hb : od_Bd ρ) (g : ∀ q, q ∉ od_PU x out → ρ q = ρ0 q) (hx : od_hl ρ a (tm_fl (t :: ts))) (hl : od_hl ρ (x + 7) (tm_fl ls)) (ht : od_hl ρ y (tm_fl tot)) : od_W 5 35 70 [some (.ref x), some (.ref a), some (.int (nI m)), some (.ref out), some (.ref y), some (.ref z), some (.int i), w] [] (od_cm S M ρ) (od_Re S M ρ0 (od_PU x out) (tm_ft (tm_fl (sp_mul (tm_tp t.1) ls)) ∧ tm_ft (tm_t (sp_pq t ls)) ∧ tm_ft (tm_fl (sp_mul [sp_pq t ls] tot))) none (fun ρ' => od_hl ρ' out (tm_fl (sp_mul [sp_pq t ls] tot)))) := by
  have r7 : S (x + 7) = true := hR.2 3 (by omega)
  have r9 : S (x + 9) = true := hR.2 4 (by omega)
  have r11 : S (x + 11) = true := hR.2 5 (by omega)
  have r13 : S (x + 13) = true := hR.2 6 (by omega)
  have ry : S y = true := by rcases hy' with rfl | rfl; exact hR.2 11 (by omega); exact hR.2 12 (by omega)
  have hxn : od_no S x := hR.1
  have hx2 : od_hl ρ a ([] ++ (tm_t t ++ tm_fl ts)) := hx
  have a1 := tm_al_tp h1.1.1
  have hyU : y ∈ [x + 1, x + 3, x + 5, x + 7, x + 9, x + 11, x + 13, x + 23, x + 25] := by rcases hy' with rfl | rfl <;> simp
  have hy9 : y ∉ [x + 9, x + 1, x + 3, x + 5, x + 11, x + 13] := by rcases hy' with rfl | rfl <;> simp
  have hyo : y ∉ [out, x + 1, x + 3, x + 5] := by
    intro z
    rcases List.mem_cons.mp z with z | z
    · exact no (z ▸ hyU)
    · exact od_nn hy9 (by simp) z
  refine od_W.rn (pc' := 71) (ls' := [some (.ref _), some (.ref _), some (.int _), some (.ref _), some (.ref _), some (.ref _), some (.int _), _]) (st' := [.ref _]) 1 rfl ?_
  refine od_rG rfl (od_cm_o hxn hA) rfl rfl ?_
  refine od_W.rn (pc' := 78) (ls' := [some (.ref _), some (.ref _), some (.int _), some (.ref _), some (.ref _), some (.ref _), some (.int _), _]) (st' := [.int _, .ref _, .int _, .ref _, .ref _]) 4 rfl ?_
  refine od_rV (as := [.int (nI 0)]) rfl rfl rfl rfl (od_cm_r ha) rfl (Nat.le_of_ble_eq_true rfl) (Nat.le_of_ble_eq_true rfl) (lt_termEnd hS ha hb h1.1 hx2 rfl) (Nat.le_of_ble_eq_true rfl) (fun o M1 hq => ?_)
  obtain ⟨rfl, rfl⟩ := hq
  refine od_K.ret ?_
  refine od_rV (as := [.ref a, .int (nI 0), .int (nI (0 + (tm_t t).length))]) rfl rfl rfl rfl (od_cm_r r11) rfl (Nat.le_of_ble_eq_true rfl) (Nat.le_of_ble_eq_true rfl) (lt_becomeExponent hS r11 ha (Ne.symm (od_ne na (by simp))) hb hx2 rfl rfl) (Nat.le_of_ble_eq_true rfl) (fun o M1 hq => ?_)
  refine od_Re.kp hq rfl (by simp) (g) (fun _ => trivial) (fun ρ1 f1 g1 b1 p1 k1 => ?_)
  have hl1 := hl.fr (f1 (x + 7) (by simp))
  have ht1 := ht.fr (f1 y (od_nn hy9 (by simp)))
  have w1 : od_hl ρ1 (x + 11) (tm_fl (tm_tp t.1)) := by rw [tm_fl_tp h1.1.1]; exact p1
  refine od_W.rn (pc' := 86) (ls' := [some (.ref _), some (.ref _), some (.int _), some (.ref _), some (.ref _), some (.ref _), some (.int _), _]) (st' := [.ref _, .ref _]) 2 rfl ?_
  refine od_rG rfl (od_cm_o hxn hA) rfl rfl ?_
  refine od_W.rn (pc' := 90) (ls' := [some (.ref _), some (.ref _), some (.int _), some (.ref _), some (.ref _), some (.ref _), some (.int _), _]) (st' := [.ref _, .ref _, .ref _]) 1 rfl ?_
  refine od_rG rfl (od_cm_o hxn hA) rfl rfl ?_
  refine od_W.rn (pc' := 94) (ls' := [some (.ref _), some (.ref _), some (.int _), some (.ref _), some (.ref _), some (.ref _), some (.int _), _]) (st' := [.ref _, .ref _, .ref _, .ref _]) 1 rfl ?_
  refine od_rG rfl (od_cm_o hxn hA) rfl rfl ?_
  refine od_rV (as := [.ref (x + 11), .ref (x + 7), .ref (x + 9)]) rfl rfl rfl rfl (od_cm_o hxn hA) rfl (Nat.le_of_ble_eq_true rfl) (Nat.le_of_ble_eq_true rfl) (lt_makeProduct hS hA hR r11 r7 r9 (by simp) (by simp) (by simp) b1 a1 h2 w1 hl1) (Nat.le_of_ble_eq_true rfl) (fun o M1 hq => ?_)
  refine od_Re.kp hq rfl (by simp) (g1) (fun z => z.1) (fun ρ2 f2 g2 b2 p2 k2 => ?_)
  have ht2 := ht1.fr (f2 y (od_nn hy9 (by simp)))
  refine od_W.rn (pc' := 101) (ls' := [some (.ref _), some (.ref _), some (.int _), some (.ref _), some (.ref _), some (.ref _), some (.int _), _]) (st' := [.ref _]) 1 rfl ?_
  refine od_rG rfl (od_cm_o hxn hA) rfl rfl ?_
  refine od_W.rn (pc' := 105) (ls' := [some (.ref _), some (.ref _), some (.int _), some (.ref _), some (.ref _), some (.ref _), some (.int _), _]) (st' := [.ref _, .ref _]) 1 rfl ?_
  refine od_rG rfl (od_cm_o hxn hA) rfl rfl ?_
  refine od_W.rn (pc' := 109) (ls' := [some (.ref _), some (.ref _), some (.int _), some (.ref _), some (.ref _), some (.ref _), some (.int _), _]) (st' := [.long _, .ref _, .ref _]) 1 rfl ?_
  refine od_rV (as := [.ref (x + 9), .long (lN 1)]) rfl rfl rfl rfl (od_cm_r r13) rfl (Nat.le_of_ble_eq_true rfl) (Nat.le_of_ble_eq_true rfl) (lt_becomeTerm hS r13 r9 (by omega) b2 p2 (by omega)) (Nat.le_of_ble_eq_true rfl) (fun o M1 hq => ?_)
  refine od_Re.kp hq rfl (by simp) (g2) (fun z => z.2.1) (fun ρ3 f3 g3 b3 p3 k3 => ?_)
  have ht3 := ht2.fr (f3 y (od_nn hy9 (by simp)))
  have w3 : od_hl ρ3 (x + 13) (tm_fl [sp_pq t ls]) := by rw [tm_fl_one]; exact p3
  have okq := sp_pq_ok h1.1 h2 k2
  refine od_W.rn (pc' := 114) (ls' := [some (.ref _), some (.ref _), some (.int _), some (.ref _), some (.ref _), some (.ref _), some (.int _), _]) (st' := [.ref _, .ref _]) 2 rfl ?_
  refine od_rG rfl (od_cm_o hxn hA) rfl rfl ?_
  refine od_W.rn (pc' := 120) (ls' := [some (.ref _), some (.ref _), some (.int _), some (.ref _), some (.ref _), some (.ref _), some (.int _), _]) (st' := [.ref _, .ref _, .ref _, .ref _]) 2 rfl ?_
  refine od_rV (as := [.ref (x + 13), .ref y, .ref out]) rfl rfl rfl rfl (od_cm_o hxn hA) rfl (Nat.le_of_ble_eq_true rfl) (Nat.le_of_ble_eq_true rfl) (lt_makeProduct hS hA hR r13 ry ho (fun z => (List.mem_cons.mp z).elim (fun z => od_ne no (by simp) z.symm) (by simp)) hyo (od_nn no (by simp)) b3 (ts := [sp_pq t ls]) ⟨okq, trivial⟩ h3 w3 ht3) (Nat.le_of_ble_eq_true rfl) (fun o M1 hq => ?_)
  refine od_Re.kp hq rfl (by simp) (g3) (fun z => z.2.2) (fun ρ4 f4 g4 b4 p4 k4 => ?_)
  refine od_W.fin rfl ?_
  exact od_Re.yes g4 b4 ⟨k2, k3, k4⟩ p4
set_option maxRecDepth 100000 in
theorem cl_pi_loop (hS : od_SS S) (hA : od_AR M x) (hR : od_ARs S x) (ha : S a = true) (ho : S out = true) (na : a ∉ od_PU x out) (no : out ∉ [x + 1, x + 3, x + 5, x + 7, x + 9, x + 11, x + 13, x + 23, x + 25]) {t : tm_T} {ts ls : List tm_T} (h1 : tm_al (t :: ts)) (h2 : tm_al ls) {m : Nat} (hm : m ≤ 20) : ∀ (n i : Nat) (tot : List tm_T) (ρ : od_Rm) (y z : Nat) (w : Option Value), i + n = m → tm_al tot → (y = x + 23 ∧ z = x + 25 ∨ y = x + 25 ∧ z = x + 23) → od_Bd ρ → (∀ q, q ∉ od_PU x out → ρ q = ρ0 q) → od_hl ρ a (tm_fl (t :: ts)) → od_hl ρ (x + 7) (tm_fl ls) → od_hl ρ y (tm_fl tot) → od_W 5 35 37 [some (.ref x), some (.ref a), some (.int (nI m)), some (.ref out), some (.ref y), some (.ref z), some (.int (nI i)), w] [] (od_cm S M ρ) (od_Re S M ρ0 (od_PU x out) (ok_pi (t :: ts) n tot ∧ tm_ft (tm_fl (sp_mul (tm_tp t.1) ls)) ∧ tm_ft (tm_t (sp_pq t ls)) ∧ tm_ft (tm_fl (sp_mul [sp_pq t ls] (sp_pi (t :: ts) n tot)))) none (fun ρ' => od_hl ρ' out (tm_fl (sp_mul [sp_pq t ls] (sp_pi (t :: ts) n tot))))) := by
  intro n
  induction n with
  | zero =>
    intro i tot ρ y z w hi h3 hyz hb g hx hl ht
    refine od_W.rn (pc' := 40) (ls' := [some (.ref _), some (.ref _), some (.int _), some (.ref _), some (.ref _), some (.ref _), some (.int _), _]) (st' := [.int _, .int _]) 2 rfl ?_
    refine od_r2T rfl rfl (decide_eq_true (nI_le (by omega) (by omega))) ?_
    refine (cl_pi_end hS hA hR ha ho na no h1 h2 h3 (by rcases hyz with ⟨rfl, rfl⟩ | ⟨rfl, rfl⟩; exact Or.inl rfl; exact Or.inr rfl) hb g hx hl ht).mono fun o M' h => ?_
    exact h.mono (fun q h => h) ⟨fun z => ⟨trivial, z⟩, fun z => z.2⟩ (fun ρ' _ _ h => h)
  | succ n ih =>
    intro i tot ρ y z w hi h3 hyz hb g hx hl ht
    have ry : S y = true := by rcases hyz with ⟨rfl, rfl⟩ | ⟨rfl, rfl⟩; exact hR.2 11 (by omega); exact hR.2 12 (by omega)
    have rz : S z = true := by rcases hyz with ⟨rfl, rfl⟩ | ⟨rfl, rfl⟩; exact hR.2 12 (by omega); exact hR.2 11 (by omega)
    have yz' : z = x + 23 ∧ y = x + 25 ∨ z = x + 25 ∧ y = x + 23 := by rcases hyz with ⟨rfl, rfl⟩ | ⟨rfl, rfl⟩; exact Or.inr ⟨rfl, rfl⟩; exact Or.inl ⟨rfl, rfl⟩
    have hzU : ∀ q, q ∈ [z, x + 1, x + 3, x + 5] → q ∈ od_PU x out := by rcases hyz with ⟨rfl, rfl⟩ | ⟨rfl, rfl⟩ <;> simp
    have n1 : y ∉ [z, x + 1, x + 3, x + 5] := by rcases hyz with ⟨rfl, rfl⟩ | ⟨rfl, rfl⟩ <;> simp
    have n2 : a ∉ [z, x + 1, x + 3, x + 5] := od_nn na hzU
    have n3 : z ∉ [x + 1, x + 3, x + 5] := by rcases hyz with ⟨rfl, rfl⟩ | ⟨rfl, rfl⟩ <;> simp
    have n4 : x + 7 ∉ [z, x + 1, x + 3, x + 5] := by rcases hyz with ⟨rfl, rfl⟩ | ⟨rfl, rfl⟩ <;> simp
    clear hyz
    refine od_W.rn (pc' := 40) (ls' := [some (.ref _), some (.ref _), some (.int _), some (.ref _), some (.ref _), some (.ref _), some (.int _), _]) (st' := [.int _, .int _]) 2 rfl ?_
    refine od_r2F rfl (of_decide_eq_true rfl) (decide_eq_false (nI_ge (by omega) (by omega))) ?_
    refine od_W.rn (pc' := 49) (ls' := [some (.ref _), some (.ref _), some (.int _), some (.ref _), some (.ref _), some (.ref _), some (.int _), _]) (st' := [.ref _, .ref _, .ref _, .ref _]) 4 rfl ?_
    refine od_rV (as := [.ref y, .ref a, .ref z]) rfl rfl rfl rfl (od_cm_o hR.1 hA) rfl (Nat.le_of_ble_eq_true rfl) (Nat.le_of_ble_eq_true rfl) (lt_makeProduct hS hA hR ry ha rz n1 n2 n3 hb h3 h1 ht hx) (Nat.le_of_ble_eq_true rfl) (fun o M1 hq => ?_)
    refine od_Re.kp hq rfl hzU g (fun z => z.1.1) (fun ρ1 f1 g1 b1 p1 k1 => ?_)
    have hx1 := hx.fr (f1 a n2)
    have hl1 := hl.fr (f1 (x + 7) n4)
    refine od_W.rn (pc' := 37) (ls' := [some (.ref _), some (.ref _), some (.int _), some (.ref _), some (.ref _), some (.ref _), some (.int _), some (.ref _)]) (st' := []) 8 rfl ?_
    rw [nI_inc i]
    have k1' : tm_ft (tm_fl (sp_mul tot (t :: ts))) := k1
    have al' : tm_al (sp_mul tot (t :: ts)) := sp_mul_al h3 h1 k1'.2
    have ii : i + 1 + n = m := by omega
    refine (ih (i + 1) (sp_mul tot (t :: ts)) ρ1 z y _ ii al' yz' b1 g1 hx1 hl1 p1).mono fun o M' h => ?_
    exact h.mono (fun q h => h) ⟨fun z => ⟨⟨k1, z.1⟩, z.2⟩, fun z => ⟨z.1.2, z.2⟩⟩ (fun ρ' _ _ h => h)
set_option maxRecDepth 100000 in
theorem lt_makePowerOfInfinite {ρ : od_Rm} (hS : od_SS S) (hA : od_AR M x) (hR : od_ARs S x) (ha : S a = true) (ho : S out = true) (na : a ∉ od_PU x out) (no : out ∉ [x + 1, x + 3, x + 5, x + 7, x + 9, x + 11, x + 13, x + 23, x + 25]) {t : tm_T} {ts ls : List tm_T} (h1 : tm_al (t :: ts)) (h2 : tm_al ls) {m : Nat} (hm : m ≤ 1000000) (hb : od_Bd ρ) (hx : od_hl ρ a (tm_fl (t :: ts))) (hl : od_hl ρ (x + 7) (tm_fl ls)) : od_W 5 35 0 (od_ent 35 [.ref x, .ref a, .int (nI m), .ref out]) [] (od_cm S M ρ) (od_Re S M ρ (od_PU x out) (ok_pin t ts ls m) none (fun ρ' => od_hl ρ' out (tm_fl (sp_mul [sp_pq t ls] (sp_pi (t :: ts) m [([], 1)]))))) := by
  have e0 : od_ent 35 [.ref x, .ref a, .int (nI m), .ref out] = [some (.ref x), some (.ref a), some (.int (nI m)), some (.ref out), none, none, none, none] := rfl
  rw [e0]
  have r23 : S (x + 23) = true := hR.2 11 (by omega)
  have hxn : od_no S x := hR.1
  refine od_W.rn (pc' := 3) (ls' := [some (.ref _), some (.ref _), some (.int _), some (.ref _), none, none, none, none]) (st' := [.int _, .int _]) 2 rfl ?_
  by_cases h20 : m ≤ 20
  · refine od_r2T rfl rfl (decide_eq_true (nI_le (b := 20) h20 (by omega))) ?_
    refine od_W.rn (pc' := 17) (ls' := [some (.ref _), some (.ref _), some (.int _), some (.ref _), none, none, none, none]) (st' := [.ref _]) 1 rfl ?_
    refine od_rG rfl (od_cm_o hxn hA) rfl rfl ?_
    refine od_W.rn (pc' := 23) (ls' := [some (.ref _), some (.ref _), some (.int _), some (.ref _), some (.ref _), none, none, none]) (st' := [.ref _]) 2 rfl ?_
    refine od_rG rfl (od_cm_o hxn hA) rfl rfl ?_
    refine od_W.rn (pc' := 31) (ls' := [some (.ref _), some (.ref _), some (.int _), some (.ref _), some (.ref _), some (.ref _), none, none]) (st' := [.int _, .ref _]) 3 rfl ?_
    refine od_rV (as := [.int (nI 1)]) rfl rfl rfl rfl (od_cm_r r23) rfl (Nat.le_of_ble_eq_true rfl) (Nat.le_of_ble_eq_true rfl) (lt_becomeNumber hS r23 hb (by omega)) (Nat.le_of_ble_eq_true rfl) (fun o M1 hq => ?_)
    refine od_Re.kp hq rfl (by simp) (od_fr0 ρ _) (fun _ => trivial) (fun ρ1 f1 g1 b1 p1 k1 => ?_)
    have hx1 := hx.fr (f1 a (od_nn na (by simp)))
    have hl1 := hl.fr (f1 (x + 7) (by simp))
    refine od_W.rn (pc' := 37) (ls' := [some (.ref _), some (.ref _), some (.int _), some (.ref _), some (.ref _), some (.ref _), some (.int _), none]) (st' := []) 2 rfl ?_
    refine (cl_pi_loop (M := M) (ρ0 := ρ) hS hA hR ha ho na no h1 h2 h20 m 0 [([], 1)] ρ1 (x + 23) (x + 25) none (by omega) tm_al_one (Or.inl ⟨rfl, rfl⟩) b1 g1 hx1 hl1 p1).mono fun o M' h => ?_
    exact h.mono (fun q h => h) ⟨fun z => ⟨h20, z⟩, fun z => z.2⟩ (fun ρ' _ _ h => h)
  · refine od_r2F rfl (of_decide_eq_true rfl) (decide_eq_false (nI_ge (a := 20) (by omega) (by omega))) ?_
    refine od_rX rfl rfl rfl ?_
    exact od_Re.no (od_fr0 ρ _) hb (fun z => h20 z.1)
set_option maxRecDepth 100000 in
theorem lt_makePower {ρ : od_Rm} (hS : od_SS S) (hA : od_AR M x) (hR : od_ARs S x) (ha : S a = true) (hb' : S b = true) (ho : S out = true) (na : a ∉ od_PU x out) (nb : b ∉ od_PU x out) (no : out ∉ [x + 1, x + 3, x + 5, x + 7, x + 9, x + 11, x + 13, x + 23, x + 25]) (hb : od_Bd ρ) {ts us : List tm_T} (h1 : tm_al ts) (h2 : tm_al us) (hx : od_hl ρ a (tm_fl ts)) (hy : od_hl ρ b (tm_fl us)) : od_W 6 32 0 (od_ent 32 [.ref x, .ref a, .ref b, .ref out]) [] (od_cm S M ρ) (od_Re S M ρ (od_PU x out) (ok_pow ts us) none (fun ρ' => od_hl ρ' out (tm_fl (sp_pow ts us)))) := by
  have e0 : od_ent 32 [.ref x, .ref a, .ref b, .ref out] = [some (.ref x), some (.ref a), some (.ref b), some (.ref out), none] := rfl
  rw [e0]
  have r7 : S (x + 7) = true := hR.2 3 (by omega)
  have hxn : od_no S x := hR.1
  have one : us = [] ∨ tm_fl ts = [1, 0, 1] → od_W 6 32 14 [some (.ref x), some (.ref a), some (.ref b), some (.ref out), none] [] (od_cm S M ρ) (od_Re S M ρ (od_PU x out) (ok_pow ts us) none (fun ρ' => od_hl ρ' out (tm_fl (sp_pow ts us)))) := by
    intro h0
    have e1 : sp_pow ts us = [([], 1)] := if_pos h0
    have e2 : ok_pow ts us := by unfold ok_pow; rw [if_pos h0]; exact trivial
    rw [e1]
    refine od_W.rn (pc' := 16) (ls' := [some (.ref _), some (.ref _), some (.ref _), some (.ref _), none]) (st' := [.int _, .ref _]) 2 rfl ?_
    refine od_rV (as := [.int (nI 1)]) rfl rfl rfl rfl (od_cm_r ho) rfl (Nat.le_of_ble_eq_true rfl) (Nat.le_of_ble_eq_true rfl) (lt_becomeNumber hS ho hb (by omega)) (Nat.le_of_ble_eq_true rfl) (fun o M1 hq => ?_)
    refine od_Re.kp hq rfl (by simp) (od_fr0 ρ _) (fun _ => trivial) (fun ρ1 f1 g1 b1 p1 k1 => ?_)
    refine od_W.fin rfl ?_
    exact od_Re.yes g1 b1 e2 p1
  refine od_W.rn (pc' := 1) (ls' := [some (.ref _), some (.ref _), some (.ref _), some (.ref _), none]) (st' := [.ref _]) 1 rfl ?_
  refine od_rV (as := []) rfl rfl rfl rfl (od_cm_r hb') rfl (Nat.le_of_ble_eq_true rfl) (Nat.le_of_ble_eq_true rfl) (lt_isZero hS hb' hb hy) (Nat.le_of_ble_eq_true rfl) (fun o M1 hq => ?_)
  obtain ⟨rfl, rfl⟩ := hq
  refine od_K.ret ?_
  by_cases hu : us = []
  · rw [if_pos (by rw [hu]; rfl)]
    refine od_r1T rfl rfl (rfl) ?_
    exact one (Or.inl hu)
  · have hun : tm_fl us ≠ [] := by
      intro z
      have := tm_fl_len us
      rw [z] at this
      exact hu (List.length_eq_zero_iff.mp (by simp at this; omega))
    rw [if_neg hun]
    refine od_r1F rfl (of_decide_eq_true rfl) (rfl) ?_
    refine od_W.rn (pc' := 8) (ls' := [some (.ref _), some (.ref _), some (.ref _), some (.ref _), none]) (st' := [.ref _]) 1 rfl ?_
    refine od_rV (as := []) rfl rfl rfl rfl (od_cm_r ha) rfl (Nat.le_of_ble_eq_true rfl) (Nat.le_of_ble_eq_true rfl) (ct_isOne hS ha (hb _) hx.2 hx.1) (Nat.le_of_ble_eq_true rfl) (fun o M1 hq => ?_)
    obtain ⟨rfl, rfl⟩ := hq
    refine od_K.ret ?_
    by_cases h1' : tm_fl ts = [1, 0, 1]
    · rw [if_pos (by rw [h1']; exact ⟨rfl, rfl⟩)]
      refine od_r1F rfl (of_decide_eq_true rfl) (rfl) ?_
      exact one (Or.inr h1')
    · have hno : ¬ ((tm_fl ts).length = 3 ∧ (tm_fl ts).getD 2 0 = 1) := by
        rintro ⟨z1, z2⟩
        cases ts with
        | nil => simp [tm_fl] at z1
        | cons t ts =>
          obtain ⟨y1, rfl⟩ := tm_fin (t := t) (ts := ts) (by omega)
          rw [tm_fl_one] at z2 h1'
          unfold tm_t at z2 h1'
          rw [y1] at z2 h1'
          exact h1' (by rw [show t.2 = 1 from z2]; rfl)
      rw [if_neg hno]
      have hcase : ¬ (us = [] ∨ tm_fl ts = [1, 0, 1]) := fun z => z.elim hu h1'
      refine od_r1T rfl rfl (rfl) ?_
      refine od_W.rn (pc' := 21) (ls' := [some (.ref _), some (.ref _), some (.ref _), some (.ref _), none]) (st' := [.ref _]) 1 rfl ?_
      refine od_rV (as := []) rfl rfl rfl rfl (od_cm_r ha) rfl (Nat.le_of_ble_eq_true rfl) (Nat.le_of_ble_eq_true rfl) (lt_isZero hS ha hb hx) (Nat.le_of_ble_eq_true rfl) (fun o M1 hq => ?_)
      obtain ⟨rfl, rfl⟩ := hq
      refine od_K.ret ?_
      cases ts with
      | nil =>
        have e1 : sp_pow [] us = [] := if_neg hcase
        have e2 : ok_pow [] us := by unfold ok_pow; rw [if_neg hcase]; exact trivial
        rw [e1]
        refine od_r1F rfl (of_decide_eq_true rfl) (rfl) ?_
        refine od_W.rn (pc' := 28) (ls' := [some (.ref _), some (.ref _), some (.ref _), some (.ref _), none]) (st' := [.ref _]) 1 rfl ?_
        refine od_rV (as := []) rfl rfl rfl rfl (od_cm_r ho) rfl (Nat.le_of_ble_eq_true rfl) (Nat.le_of_ble_eq_true rfl) (lt_clear hS ho hb) (Nat.le_of_ble_eq_true rfl) (fun o M1 hq => ?_)
        refine od_Re.kp hq rfl (by simp) (od_fr0 ρ _) (fun _ => trivial) (fun ρ1 f1 g1 b1 p1 k1 => ?_)
        refine od_W.fin rfl ?_
        exact od_Re.yes g1 b1 e2 p1
      | cons t ts =>
        have e1 : sp_pow (t :: ts) us = if (tm_fl (t :: ts)).length ≤ 3 then [(tm_fl (sp_pe (sp_lim us)), sp_pw (tm_n (t :: ts)) (tm_n us) 1)] else sp_mul [sp_pq t (sp_lim us)] (sp_pi (t :: ts) (tm_n us) [([], 1)]) := if_neg hcase
        have e2 : ok_pow (t :: ts) us ↔ if (tm_fl (t :: ts)).length ≤ 3 then tm_ft (tm_t (tm_fl (sp_pe (sp_lim us)), sp_pw (tm_n (t :: ts)) (tm_n us) 1)) else ok_pin t ts (sp_lim us) (tm_n us) := by unfold ok_pow; rw [if_neg hcase]
        have hnu := tm_n_le h2
        have hnt := tm_n_le h1
        have alm := sp_lim_al h2
        refine od_r1T rfl rfl (rfl) ?_
        refine od_W.rn (pc' := 33) (ls' := [some (.ref _), some (.ref _), some (.ref _), some (.ref _), none]) (st' := [.ref _]) 1 rfl ?_
        refine od_rV (as := []) rfl rfl rfl rfl (od_cm_r hb') rfl (Nat.le_of_ble_eq_true rfl) (Nat.le_of_ble_eq_true rfl) (ct_finitePart hS hb' (hb _) h2 hy.1) (Nat.le_of_ble_eq_true rfl) (fun o M1 hq => ?_)
        obtain ⟨rfl, rfl⟩ := hq
        refine od_K.ret ?_
        refine od_W.rn (pc' := 39) (ls' := [some (.ref _), some (.ref _), some (.ref _), some (.ref _), some (.int _)]) (st' := [.ref _]) 2 rfl ?_
        refine od_rG rfl (od_cm_o hxn hA) rfl rfl ?_
        refine od_W.rn (pc' := 46) (ls' := [some (.ref _), some (.ref _), some (.ref _), some (.ref _), some (.int _)]) (st' := [.int _, .int _, .ref _, .ref _]) 3 rfl ?_
        have tail : ∀ lim : List Nat, lim = tm_fl (sp_lim us) → ∀ rr : List Nat, tm_fl us = lim ++ rr → od_W 6 32 62 [some (.ref x), some (.ref a), some (.ref b), some (.ref out), some (.int (nI (tm_n us)))] [.int (nI lim.length), .int (nI 0), .ref b, .ref (x + 7)] (od_cm S M ρ) (od_Re S M ρ (od_PU x out) (ok_pow (t :: ts) us) none (fun ρ' => od_hl ρ' out (tm_fl (sp_pow (t :: ts) us)))) := by
          intro lim hlim rr hrr
          refine od_rV (as := [.ref b, .int (nI 0), .int (nI lim.length)]) rfl rfl rfl rfl (od_cm_r r7) rfl (Nat.le_of_ble_eq_true rfl) (Nat.le_of_ble_eq_true rfl) (lt_becomePart hS r7 hb' (Ne.symm (od_ne nb (by simp))) hb (u := []) (w := lim) (z := rr) (by rw [List.nil_append, ← hrr]; exact hy) rfl (by omega)) (Nat.le_of_ble_eq_true rfl) (fun o M1 hq => ?_)
          refine od_Re.kp hq rfl (by simp) (od_fr0 ρ _) (fun _ => trivial) (fun ρ1 f1 g1 b1 p1 k1 => ?_)
          have hx1 := hx.fr (f1 a (od_nn na (by simp)))
          rw [hlim] at p1
          refine od_W.rn (pc' := 66) (ls' := [some (.ref _), some (.ref _), some (.ref _), some (.ref _), some (.int _)]) (st' := [.ref _]) 1 rfl ?_
          refine od_rV (as := []) rfl rfl rfl rfl (od_cm_r ha) rfl (Nat.le_of_ble_eq_true rfl) (Nat.le_of_ble_eq_true rfl) (lt_isFinite hS ha b1 hx1) (Nat.le_of_ble_eq_true rfl) (fun o M1 hq => ?_)
          obtain ⟨rfl, rfl⟩ := hq
          refine od_K.ret ?_
          by_cases h3 : (tm_fl (t :: ts)).length ≤ 3
          · rw [if_pos h3] at e1 e2 ⊢
            rw [e1, tm_fl_one]
            refine od_r1F rfl (of_decide_eq_true rfl) (rfl) ?_
            refine od_W.rn (pc' := 74) (ls' := [some (.ref _), some (.ref _), some (.ref _), some (.ref _), some (.int _)]) (st' := [.ref _, .ref _]) 2 rfl ?_
            refine od_rV (as := []) rfl rfl rfl rfl (od_cm_r ha) rfl (Nat.le_of_ble_eq_true rfl) (Nat.le_of_ble_eq_true rfl) (ct_finitePart hS ha (b1 _) h1 hx1.1) (Nat.le_of_ble_eq_true rfl) (fun o M1 hq => ?_)
            obtain ⟨rfl, rfl⟩ := hq
            refine od_K.ret ?_
            refine od_W.rn (pc' := 80) (ls' := [some (.ref _), some (.ref _), some (.ref _), some (.ref _), some (.int _)]) (st' := [.ref _, .int _, .int _, .ref _]) 2 rfl ?_
            refine od_rV (as := [.int (nI (tm_n (t :: ts))), .int (nI (tm_n us)), .ref out]) rfl rfl rfl rfl (od_cm_o hxn hA) rfl (Nat.le_of_ble_eq_true rfl) (Nat.le_of_ble_eq_true rfl) (lt_makePowerOfNumber hS hA hR ho hnt hnu (od_nn no (by simp)) b1 alm p1) (Nat.le_of_ble_eq_true rfl) (fun o M1 hq => ?_)
            refine od_Re.kp hq rfl (by simp) (g1) (fun z => e2.mp z) (fun ρ2 f2 g2 b2 p2 k2 => ?_)
            refine od_W.rn (pc' := 94) (ls' := [some (.ref _), some (.ref _), some (.ref _), some (.ref _), some (.int _)]) (st' := []) 1 rfl ?_
            refine od_W.fin rfl ?_
            exact od_Re.yes g2 b2 (e2.mpr k2) p2
          · rw [if_neg h3] at e1 e2 ⊢
            rw [e1]
            refine od_r1T rfl rfl (rfl) ?_
            refine od_W.rn (pc' := 91) (ls' := [some (.ref _), some (.ref _), some (.ref _), some (.ref _), some (.int _)]) (st' := [.ref _, .int _, .ref _, .ref _]) 4 rfl ?_
            refine od_rV (as := [.ref a, .int (nI (tm_n us)), .ref out]) rfl rfl rfl rfl (od_cm_o hxn hA) rfl (Nat.le_of_ble_eq_true rfl) (Nat.le_of_ble_eq_true rfl) (lt_makePowerOfInfinite hS hA hR ha ho na no h1 alm hnu b1 hx1 p1) (Nat.le_of_ble_eq_true rfl) (fun o M1 hq => ?_)
            refine od_Re.kp hq rfl (by simp) (g1) (fun z => e2.mp z) (fun ρ2 f2 g2 b2 p2 k2 => ?_)
            refine od_W.fin rfl ?_
            exact od_Re.yes g2 b2 (e2.mpr k2) p2
        by_cases hm0 : tm_n us = 0
        · rw [hm0] at tail ⊢
          refine od_r1F rfl (of_decide_eq_true rfl) (rfl) ?_
          refine od_W.rn (pc' := 50) (ls' := [some (.ref _), some (.ref _), some (.ref _), some (.ref _), some (.int _)]) (st' := [.ref _, .int _, .ref _, .ref _]) 1 rfl ?_
          refine od_gL rfl rfl (hb') (hy.n) ?_
          refine od_W.rn (pc' := 62) (ls' := [some (.ref _), some (.ref _), some (.ref _), some (.ref _), some (.int _)]) (st' := [.int _, .int _, .ref _, .ref _]) 1 rfl ?_
          exact tail (tm_fl us) (by unfold sp_lim; rw [if_pos hm0]) [] (by simp)
        · refine od_r1T rfl rfl ((show (!decide (nI (tm_n us) = 0)) = true by rw [decide_eq_false (nI_ne0 (by omega) (by omega))]; rfl)) ?_
          refine od_W.rn (pc' := 57) (ls' := [some (.ref _), some (.ref _), some (.ref _), some (.ref _), some (.int _)]) (st' := [.ref _, .int _, .ref _, .ref _]) 1 rfl ?_
          refine od_gL rfl rfl (hb') (hy.n) ?_
          refine od_W.rn (pc' := 62) (ls' := [some (.ref _), some (.ref _), some (.ref _), some (.ref _), some (.int _)]) (st' := [.int _, .int _, .ref _, .ref _]) 2 rfl ?_
          obtain hu2 | ⟨vs, v, hv⟩ := tm_snoc us
          · exact absurd hu2 hu
          · have hv1 : v.1 = [] := by
              rw [hv, tm_n_snoc] at hm0
              by_cases z : v.1 = []
              · exact z
              · exact absurd (if_neg z) hm0
            have hlen : (tm_fl us).length = (tm_fl vs).length + 3 := by rw [hv, tm_fl_snoc, List.length_append, tm_t_len, hv1]; rfl
            have e3 : nI (tm_fl us).length - 3 = nI (tm_fl vs).length := by
              rw [hlen]
              exact (nI_subI (a := 3) (by omega)).trans (by rw [show (tm_fl vs).length + 3 - 3 = (tm_fl vs).length by omega])
            have := tail (tm_fl vs) (by unfold sp_lim; rw [if_neg hm0, hv, List.dropLast_concat]) (tm_t v) (by rw [hv, tm_fl_snoc])
            rw [← e3] at this
            exact this
end POW2
end
section
/-! Differences; rules for quotients of numbers. -/
theorem nI_mulN (a b : Nat) : nI a * nI b = nI (a * b) := by unfold nI; exact (Int32.ofNat_mul a b).symm
theorem nI_subT {a b : Nat} (ha : a < 2 ^ 31) (hb : b < 2 ^ 31) : (nI a - nI b).toInt = (a : Int) - (b : Int) := by
  rw [Int32.toInt_sub, nI_toInt ha, nI_toInt hb]
  exact Int.bmod_eq_of_le (by omega) (by omega)
theorem nI_subNe {a b : Nat} (ha : a < 2 ^ 31) (hb : b < 2 ^ 31) (h : a ≠ b) : ¬ nI a - nI b = 0 := by
  intro z
  have := nI_subT ha hb
  rw [z, Int32.toInt_zero] at this
  omega
theorem nI_subLe {a b : Nat} (ha : a < 2 ^ 31) (hb : b < 2 ^ 31) (h : a ≤ b) : (nI a - nI b).toInt64 ≤ 0 := by
  rw [Int64.le_iff_toInt_le, Int32.toInt_toInt64, nI_subT ha hb, Int64.toInt_zero]
  omega
section RULD
variable {d k pc : Nat} {ls : od_L} {st : List Value} {M : od_M} {Q : od_O → od_M → Prop}
theorem od_rDidiv {x y : Int32} {a b : Nat} (h : od_cd k pc = some (.idiv, 1)) (hx : x = nI a) (hy : y = nI b) (h0 : 0 < b) (ha : a < 2 ^ 31) (hb : b < 2 ^ 31) (kk : od_W d k (pc + 1) ls (.int (nI (a / b)) :: st) M Q) : od_W d k pc ls (.int y :: .int x :: st) M Q := by
  subst hx
  subst hy
  refine od_wX h ?_
  simp only [od_ins, od_i2, od_go, od_X, ↓reduceIte]
  rw [if_neg (nI_ne0 h0 hb), pk_div ha h0 hb]
  exact kk
theorem od_rDirem {x y : Int32} {a b : Nat} (h : od_cd k pc = some (.irem, 1)) (hx : x = nI a) (hy : y = nI b) (h0 : 0 < b) (ha : a < 2 ^ 31) (hb : b < 2 ^ 31) (kk : od_W d k (pc + 1) ls (.int (nI (a % b)) :: st) M Q) : od_W d k pc ls (.int y :: .int x :: st) M Q := by
  subst hx
  subst hy
  refine od_wX h ?_
  simp only [od_ins, od_i2, od_go, od_X, ↓reduceIte]
  have e : a - a / b * b = a % b := by rw [Nat.mul_comm, Nat.mod_eq_sub_mul_div]
  rw [if_neg (nI_ne0 h0 hb), pk_div ha h0 hb, nI_mulN, pk_sub (Nat.div_mul_le_self a b), e]
  exact kk
theorem lN_ne0 {n : Nat} (h0 : 0 < n) (h : n < 2 ^ 63) : ¬ lN n = 0 := fun z => absurd ((pk_lEQ (b := 0) h (by omega)).mp z) (by omega)
theorem od_rDldiv {x y : Int64} {a b : Nat} (h : od_cd k pc = some (.ldiv, 1)) (hx : x = lN a) (hy : y = lN b) (h0 : 0 < b) (ha : a < 2 ^ 63) (hb : b < 2 ^ 63) (kk : od_W d k (pc + 1) ls (.long (lN (a / b)) :: st) M Q) : od_W d k pc ls (.long y :: .long x :: st) M Q := by
  subst hx
  subst hy
  refine od_wX h ?_
  simp only [od_ins, od_l2, od_go, od_X, ↓reduceIte]
  rw [if_neg (lN_ne0 h0 hb), pk_lDiv ha h0 hb]
  exact kk
theorem od_rDlrem {x y : Int64} {a b : Nat} (h : od_cd k pc = some (.lrem, 1)) (hx : x = lN a) (hy : y = lN b) (h0 : 0 < b) (ha : a < 2 ^ 63) (hb : b < 2 ^ 63) (kk : od_W d k (pc + 1) ls (.long (lN (a % b)) :: st) M Q) : od_W d k pc ls (.long y :: .long x :: st) M Q := by
  subst hx
  subst hy
  refine od_wX h ?_
  simp only [od_ins, od_l2, od_go, od_X, ↓reduceIte]
  have e : a - a / b * b = a % b := by rw [Nat.mul_comm, Nat.mod_eq_sub_mul_div]
  rw [if_neg (lN_ne0 h0 hb), pk_lDiv ha h0 hb, lN_mul, lN_sub (Nat.div_mul_le_self a b), e]
  exact kk
end RULD
def sp_dif : List tm_T → List tm_T → List tm_T
  | [], _ => []
  | t :: ts, [] => t :: ts
  | t :: ts, u :: us => if tm_cmp t.1 u.1 = 0 then (if t.2 = u.2 then sp_dif ts us else if u.2 < t.2 then (t.1, t.2 - u.2) :: ts else ts) else t :: ts
theorem sp_dif_al : ∀ {ts us : List tm_T}, tm_al ts → tm_al (sp_dif ts us) := by
  intro ts
  induction ts with
  | nil => intro us _; exact trivial
  | cons t ts ih =>
    intro us h
    cases us with
    | nil => exact h
    | cons u us =>
      unfold sp_dif
      split
      · split
        · exact ih h.2
        · split
          · exact ⟨⟨h.1.1, by have := h.1.2; unfold tm_c at *; dsimp only; omega⟩, h.2⟩
          · exact h.2
      · exact h
theorem tm_ft_cons {t : tm_T} {ts : List tm_T} (h : tm_ft (tm_fl (t :: ts))) : tm_ft (tm_fl ts) := by rw [tm_fl] at h; exact tm_ft_r h
theorem sp_dif_ft : ∀ {ts us : List tm_T}, tm_ft (tm_fl ts) → tm_ft (tm_fl (sp_dif ts us)) := by
  intro ts
  induction ts with
  | nil => intro us h; exact h
  | cons t ts ih =>
    intro us h
    cases us with
    | nil => exact h
    | cons u us =>
      unfold sp_dif
      split
      · split
        · exact ih (tm_ft_cons h)
        · split
          · have h1 := h.1
            have h2 := h.2
            rw [tm_fl, List.length_append, tm_t_len] at h1
            rw [tm_fl, tm_sm_app, tm_sm_t] at h2
            refine ⟨?_, ?_⟩
            · rw [tm_fl, List.length_append, tm_t_len]; exact h1
            · rw [tm_fl, tm_sm_app, tm_sm_t]; exact ⟨⟨h2.1.1, by dsimp only; omega⟩, h2.2⟩
          · exact tm_ft_cons h
      · exact h
section DIF
variable {S : Nat → Bool} {M : od_M} {ρ0 : od_Rm} {a b out : Nat}
theorem cl_dif_end {ρ : od_Rm} (hS : od_SS S) (ha : S a = true) (ho : S out = true) (na : out ≠ a) {ua wa zs : List Nat} {kt : Int32} {w5 w6 w7 : Option Value} (hb : od_Bd ρ) (g : ∀ q, q ∉ [out] → ρ q = ρ0 q) (hx : od_hl ρ a (ua ++ wa)) (hz : od_hl ρ out zs) : od_W 3 40 109 [some (.ref a), some (.ref b), some (.ref out), some (.int (nI ua.length)), some (.int kt), w5, w6, w7] [] (od_cm S M ρ) (od_Re S M ρ0 [out] (tm_ft (zs ++ wa)) none (fun ρ' => od_hl ρ' out (zs ++ wa))) := by
  refine od_W.rn (pc' := 113) (ls' := [some (.ref _), some (.ref _), some (.ref _), some (.int _), some (.int _), _, _, _]) (st' := [.ref _, .int _, .ref _, .ref _]) 4 rfl ?_
  refine od_gL rfl rfl (ha) (hx.n) ?_
  refine od_rV (as := [.ref a, .int (nI ua.length), .int (nI (ua ++ wa).length)]) rfl rfl rfl rfl (od_cm_r ho) rfl (Nat.le_of_ble_eq_true rfl) (Nat.le_of_ble_eq_true rfl) (lt_putPart hS ho ha na hb hz (u := ua) (w := wa) (z := []) (by simpa using hx) rfl (by simp)) (Nat.le_of_ble_eq_true rfl) (fun o M1 hq => ?_)
  refine od_Re.kp hq rfl (by simp) (g) (fun z => z) (fun ρ1 f1 g1 b1 p1 k1 => ?_)
  refine od_W.fin rfl ?_
  exact od_Re.yes g1 b1 k1 p1
set_option maxRecDepth 100000 in
theorem cl_dif_loop {ρ : od_Rm} (hS : od_SS S) (ha : S a = true) (hb' : S b = true) (ho : S out = true) (na : out ≠ a) (nb : out ≠ b) (hb : od_Bd ρ) (g : ∀ q, q ∉ [out] → ρ q = ρ0 q) (hz : od_hl ρ out []) : ∀ (ta tb done : List tm_T) (w5 w6 w7 : Option Value), tm_al ta → tm_al tb → od_hl ρ a (tm_fl done ++ tm_fl ta) → od_hl ρ b (tm_fl done ++ tm_fl tb) → od_W 3 40 9 [some (.ref a), some (.ref b), some (.ref out), some (.int (nI (tm_fl done).length)), some (.int (nI done.length)), w5, w6, w7] [] (od_cm S M ρ) (od_Re S M ρ0 [out] (tm_ft (tm_fl (sp_dif ta tb))) none (fun ρ' => od_hl ρ' out (tm_fl (sp_dif ta tb)))) := by
  intro ta
  induction ta with
  | nil =>
    intro tb done w5 w6 w7 _ _ hx hy
    have hl := hx.n
    have h60 := hx.le hb
    have h3 := tm_fl_len done
    rw [tm_fl, List.append_nil] at hl h60
    have hend := fun (w5 w6 w7 : Option Value) => cl_dif_end (b := b) (M := M) (kt := nI done.length) (w5 := w5) (w6 := w6) (w7 := w7) hS ha ho na hb g hx hz
    rw [show sp_dif [] tb = [] from rfl]
    by_cases h20 : done.length < 20
    · refine od_W.rn (pc' := 13) (ls' := [some (.ref _), some (.ref _), some (.ref _), some (.int _), some (.int _), _, _, _]) (st' := [.int _, .int _]) 2 rfl ?_
      refine od_r2F rfl (of_decide_eq_true rfl) (decide_eq_false (nI_ge (b := 20) h20 (by omega))) ?_
      refine od_W.rn (pc' := 18) (ls' := [some (.ref _), some (.ref _), some (.ref _), some (.int _), some (.int _), _, _, _]) (st' := [.ref _, .int _]) 2 rfl ?_
      refine od_gL rfl rfl (ha) (hl) ?_
      refine od_r2T rfl rfl (decide_eq_true (nI_le (Nat.le_refl _) (by omega))) ?_
      exact hend _ _ _
    · refine od_W.rn (pc' := 13) (ls' := [some (.ref _), some (.ref _), some (.ref _), some (.int _), some (.int _), _, _, _]) (st' := [.int _, .int _]) 2 rfl ?_
      refine od_r2T rfl rfl (decide_eq_true (nI_le (a := 20) (by omega) (by omega))) ?_
      exact hend _ _ _
  | cons t ta ih =>
    intro tb done w5 w6 w7 al1 al2 hx hy
    have hl := hx.n
    have h60 := hx.le hb
    have h3 := tm_fl_len done
    have hl' := hy.n
    have h60' := hy.le hb
    rw [tm_fl, List.length_append, List.length_append, tm_t_len] at hl h60
    rw [List.length_append] at hl' h60'
    have hx2 : od_hl ρ a (tm_fl done ++ (tm_t t ++ tm_fl ta)) := hx
    have hend := fun (w5 w6 w7 : Option Value) => cl_dif_end (b := b) (M := M) (kt := nI done.length) (w5 := w5) (w6 := w6) (w7 := w7) hS ha ho na hb g hx hz
    rw [List.nil_append] at hend
    refine od_W.rn (pc' := 13) (ls' := [some (.ref _), some (.ref _), some (.ref _), some (.int _), some (.int _), _, _, _]) (st' := [.int _, .int _]) 2 rfl ?_
    refine od_r2F rfl (of_decide_eq_true rfl) (decide_eq_false (nI_ge (b := 20) (by omega) (by omega))) ?_
    refine od_W.rn (pc' := 18) (ls' := [some (.ref _), some (.ref _), some (.ref _), some (.int _), some (.int _), _, _, _]) (st' := [.ref _, .int _]) 2 rfl ?_
    refine od_gL rfl rfl (ha) (hl) ?_
    refine od_r2F rfl (of_decide_eq_true rfl) (decide_eq_false (nI_ge (by omega) (by omega))) ?_
    refine od_W.rn (pc' := 26) (ls' := [some (.ref _), some (.ref _), some (.ref _), some (.int _), some (.int _), _, _, _]) (st' := [.ref _, .int _]) 2 rfl ?_
    refine od_gL rfl rfl (hb') (hl') ?_
    cases tb with
    | nil =>
      rw [show sp_dif (t :: ta) [] = t :: ta from rfl]
      refine od_r2T rfl rfl (decide_eq_true (nI_le (by simp [tm_fl]) (by omega))) ?_
      exact hend _ _ _
    | cons u tb =>
      have hy2 : od_hl ρ b (tm_fl done ++ (tm_t u ++ tm_fl tb)) := hy
      rw [tm_fl, List.length_append, tm_t_len] at hl' h60'
      refine od_r2F rfl (of_decide_eq_true rfl) (decide_eq_false (nI_ge (by rw [tm_fl, List.length_append, tm_t_len]; omega) (by rw [tm_fl, List.length_append, tm_t_len]; omega))) ?_
      refine od_W.rn (pc' := 34) (ls' := [some (.ref _), some (.ref _), some (.ref _), some (.int _), some (.int _), _, _, _]) (st' := [.int _, .ref _]) 2 rfl ?_
      refine od_rV (as := [.int (nI (tm_fl done).length)]) rfl rfl rfl rfl (od_cm_r ha) rfl (Nat.le_of_ble_eq_true rfl) (Nat.le_of_ble_eq_true rfl) (lt_termEnd hS ha hb al1.1 hx2 rfl) (Nat.le_of_ble_eq_true rfl) (fun o M1 hq => ?_)
      obtain ⟨rfl, rfl⟩ := hq
      refine od_K.ret ?_
      refine od_W.rn (pc' := 41) (ls' := [some (.ref _), some (.ref _), some (.ref _), some (.int _), some (.int _), some (.int _), _, _]) (st' := [.int _, .ref _]) 3 rfl ?_
      refine od_rV (as := [.int (nI (tm_fl done).length)]) rfl rfl rfl rfl (od_cm_r hb') rfl (Nat.le_of_ble_eq_true rfl) (Nat.le_of_ble_eq_true rfl) (lt_termEnd hS hb' hb al2.1 hy2 rfl) (Nat.le_of_ble_eq_true rfl) (fun o M1 hq => ?_)
      obtain ⟨rfl, rfl⟩ := hq
      refine od_K.ret ?_
      refine od_W.rn (pc' := 54) (ls' := [some (.ref _), some (.ref _), some (.ref _), some (.int _), some (.int _), some (.int _), some (.int _), _]) (st' := [.int _, .int _, .ref _, .int _, .int _, .ref _]) 7 rfl ?_
      refine od_rSt (as := [.ref a, .int (nI (tm_fl done).length), .int (nI ((tm_fl done).length + (tm_t t).length)), .ref b, .int (nI (tm_fl done).length), .int (nI ((tm_fl done).length + (tm_t u).length))]) rfl rfl rfl rfl (Nat.le_of_ble_eq_true rfl) (Nat.le_of_ble_eq_true rfl) (lt_oe hS ha hb' hb hx2 hy2 rfl rfl rfl rfl) (Nat.le_of_ble_eq_true rfl) (fun o M1 hq => ?_)
      obtain ⟨rfl, rfl⟩ := hq
      refine od_K.ret ?_
      by_cases hc : tm_cmp t.1 u.1 = 0
      · have c1 := al1.1.2
        have c2 := al2.1.2
        unfold tm_c at c1 c2
        have hte : t.1 = u.1 := tm_cmp_eq hc
        rw [hc]
        refine od_r1T rfl rfl (rfl) ?_
        refine od_W.rn (pc' := 66) (ls' := [some (.ref _), some (.ref _), some (.ref _), some (.int _), some (.int _), some (.int _), some (.int _), _]) (st' := [.int _, .ref _]) 2 rfl ?_
        refine od_rV (as := [.int (nI ((tm_fl done).length + (tm_t t).length))]) rfl rfl rfl rfl (od_cm_r ha) rfl (Nat.le_of_ble_eq_true rfl) (Nat.le_of_ble_eq_true rfl) (lt_coefficient hS ha hb hx2 rfl) (Nat.le_of_ble_eq_true rfl) (fun o M1 hq => ?_)
        obtain ⟨rfl, rfl⟩ := hq
        refine od_K.ret ?_
        refine od_W.rn (pc' := 72) (ls' := [some (.ref _), some (.ref _), some (.ref _), some (.int _), some (.int _), some (.int _), some (.int _), _]) (st' := [.int _, .ref _, .int _]) 2 rfl ?_
        refine od_rV (as := [.int (nI ((tm_fl done).length + (tm_t u).length))]) rfl rfl rfl rfl (od_cm_r hb') rfl (Nat.le_of_ble_eq_true rfl) (Nat.le_of_ble_eq_true rfl) (lt_coefficient hS hb' hb hy2 rfl) (Nat.le_of_ble_eq_true rfl) (fun o M1 hq => ?_)
        obtain ⟨rfl, rfl⟩ := hq
        refine od_K.ret ?_
        refine od_W.rn (pc' := 80) (ls' := [some (.ref _), some (.ref _), some (.ref _), some (.int _), some (.int _), some (.int _), some (.int _), some (.int _)]) (st' := [.int _]) 3 rfl ?_
        have e : (tm_fl done).length + (tm_t t).length = (tm_fl (done ++ [t])).length := by rw [tm_fl_snoc, List.length_append]
        by_cases h1 : t.2 = u.2
        · rw [show sp_dif (t :: ta) (u :: tb) = sp_dif ta tb by conv => lhs; unfold sp_dif; rw [if_pos hc, if_pos h1]]
          refine od_r1T rfl rfl (decide_eq_true (by rw [h1]; exact Int32.sub_self _)) ?_
          refine od_W.rn (pc' := 9) (ls' := [some (.ref _), some (.ref _), some (.ref _), some (.int _), some (.int _), some (.int _), some (.int _), some (.int _)]) (st' := []) 4 rfl ?_
          have htu : u = t := by rw [show u = (u.1, u.2) from rfl, ← hte, ← h1]
          rw [htu] at hy2
          rw [e, nI_inc done.length, show done.length + 1 = (done ++ [t]).length by simp]
          exact ih tb (done ++ [t]) _ _ _ al1.2 al2.2 (by rw [tm_fl_snoc, List.append_assoc]; exact hx2) (by rw [tm_fl_snoc, List.append_assoc]; exact hy2)
        · refine od_r1F rfl (of_decide_eq_true rfl) (decide_eq_false (nI_subNe (by omega) (by omega) h1)) ?_
          refine od_W.rn (pc' := 91) (ls' := [some (.ref _), some (.ref _), some (.ref _), some (.int _), some (.int _), some (.int _), some (.int _), some (.int _)]) (st' := [.long _, .int _, .int _, .ref _, .ref _]) 6 rfl ?_
          by_cases h2 : u.2 < t.2
          · rw [show sp_dif (t :: ta) (u :: tb) = (t.1, t.2 - u.2) :: ta by conv => lhs; unfold sp_dif; rw [if_pos hc, if_neg h1, if_pos h2], tm_fl]
            rw [nI_subI (Nat.le_of_lt h2), nI_1000 (by omega)]
            refine od_rV (as := [.ref a, .int (nI (tm_fl done).length), .int (nI ((tm_fl done).length + (tm_t t).length)), .long (lN (t.2 - u.2))]) rfl rfl rfl rfl (od_cm_r ho) rfl (Nat.le_of_ble_eq_true rfl) (Nat.le_of_ble_eq_true rfl) (lt_putTermAgain hS ho ha na hb hz hx2 rfl rfl (by omega) (by omega)) (Nat.le_of_ble_eq_true rfl) (fun o M1 hq => ?_)
            refine od_Re.kp hq rfl (by simp) (g) (tm_ft_l) (fun ρ1 f1 g1 b1 p1 k1 => ?_)
            have hx3 := hx2.fr (f1 a (by simp; omega))
            refine od_W.rn (pc' := 109) (ls' := [some (.ref _), some (.ref _), some (.ref _), some (.int _), some (.int _), some (.int _), some (.int _), some (.int _)]) (st' := []) 3 rfl ?_
            rw [e]
            exact cl_dif_end hS ha ho na b1 g1 (by rw [tm_fl_snoc, List.append_assoc]; exact hx3) p1
          · rw [show sp_dif (t :: ta) (u :: tb) = ta by conv => lhs; unfold sp_dif; rw [if_pos hc, if_neg h1, if_neg h2]]
            refine od_rV (as := [.ref a, .int (nI (tm_fl done).length), .int (nI ((tm_fl done).length + (tm_t t).length)), .long (nI t.2 - nI u.2).toInt64]) rfl rfl rfl rfl (od_cm_r ho) rfl (Nat.le_of_ble_eq_true rfl) (Nat.le_of_ble_eq_true rfl) (lt_putTermAgain0 (nI_subLe (by omega) (by omega) (by omega)) hb hz) (Nat.le_of_ble_eq_true rfl) (fun o M1 hq => ?_)
            refine od_Re.kp hq rfl (by simp) (g) (fun _ => trivial) (fun ρ1 f1 g1 b1 p1 k1 => ?_)
            have hx3 := hx2.fr (f1 a (by simp; omega))
            refine od_W.rn (pc' := 109) (ls' := [some (.ref _), some (.ref _), some (.ref _), some (.int _), some (.int _), some (.int _), some (.int _), some (.int _)]) (st' := []) 3 rfl ?_
            rw [e]
            have := cl_dif_end (b := b) (M := M) (kt := nI done.length) (w5 := some (.int (nI (tm_fl (done ++ [t])).length))) (w6 := some (.int (nI ((tm_fl done).length + (tm_t u).length)))) (w7 := some (.int (nI t.2 - nI u.2))) (ua := tm_fl (done ++ [t])) (wa := tm_fl ta) hS ha ho na b1 g1 (by rw [tm_fl_snoc, List.append_assoc]; exact hx3) p1
            rw [List.nil_append] at this
            exact this
      · rw [show sp_dif (t :: ta) (u :: tb) = t :: ta by conv => lhs; unfold sp_dif; rw [if_neg hc]]
        refine od_r1F rfl (of_decide_eq_true rfl) (decide_eq_false hc) ?_
        refine od_W.rn (pc' := 109) (ls' := [some (.ref _), some (.ref _), some (.ref _), some (.int _), some (.int _), some (.int _), some (.int _), _]) (st' := []) 1 rfl ?_
        exact hend _ _ _
theorem lt_makeDifference {ρ : od_Rm} (hS : od_SS S) (ha : S a = true) (hb' : S b = true) (ho : S out = true) (na : out ≠ a) (nb : out ≠ b) (hb : od_Bd ρ) {ts us : List tm_T} (h1 : tm_al ts) (h2 : tm_al us) (hx : od_hl ρ a (tm_fl ts)) (hy : od_hl ρ b (tm_fl us)) : od_W 3 40 0 (od_ent 40 [.ref a, .ref b, .ref out]) [] (od_cm S M ρ) (od_Re S M ρ [out] True none (fun ρ' => od_hl ρ' out (tm_fl (sp_dif ts us)))) := by
  have e0 : od_ent 40 [.ref a, .ref b, .ref out] = [some (.ref a), some (.ref b), some (.ref out), none, none, none, none, none] := rfl
  rw [e0]
  have hok : tm_ft (tm_fl (sp_dif ts us)) := sp_dif_ft ⟨hx.le hb, hx.2⟩
  refine od_W.rn (pc' := 1) (ls' := [some (.ref _), some (.ref _), some (.ref _), none, none, none, none, none]) (st' := [.ref _]) 1 rfl ?_
  refine od_rV (as := []) rfl rfl rfl rfl (od_cm_r ho) rfl (Nat.le_of_ble_eq_true rfl) (Nat.le_of_ble_eq_true rfl) (lt_clear hS ho hb) (Nat.le_of_ble_eq_true rfl) (fun o M1 hq => ?_)
  refine od_Re.kp hq rfl (by simp) (od_fr0 ρ _) (fun _ => trivial) (fun ρ1 f1 g1 b1 p1 k1 => ?_)
  have hx1 := hx.fr (f1 a (by simp; omega))
  have hy1 := hy.fr (f1 b (by simp; omega))
  refine od_W.rn (pc' := 9) (ls' := [some (.ref _), some (.ref _), some (.ref _), some (.int _), some (.int _), none, none, none]) (st' := []) 4 rfl ?_
  refine (cl_dif_loop (M := M) (ρ0 := ρ) hS ha hb' ho na nb b1 g1 p1 ts us [] none none none h1 h2 hx1 hy1).mono fun o M' h => ?_
  exact h.mono (fun q h => h) ⟨fun _ => trivial, fun _ => hok⟩ (fun ρ' _ _ h => h)
end DIF
end
section
/-! Quotients and remainders. -/
def sp_tm (u : tm_T) (us : List tm_T) : List tm_T → Nat
  | [] => 0
  | r :: rs => if tm_cmp r.1 u.1 = -1 then 0 else if r.2 / u.2 * u.2 = r.2 ∧ tm_cmp (tm_fl rs) (tm_fl us) = -1 then r.2 / u.2 - 1 else r.2 / u.2
theorem sp_tm_c (u r : tm_T) (us rs : List tm_T) : sp_tm u us (r :: rs) = if tm_cmp r.1 u.1 = -1 then 0 else if r.2 / u.2 * u.2 = r.2 ∧ tm_cmp (tm_fl rs) (tm_fl us) = -1 then r.2 / u.2 - 1 else r.2 / u.2 := rfl
def sp_dv (u : tm_T) : List tm_T → List tm_T × List tm_T
  | [] => ([], [])
  | t :: ts => if tm_cmp t.1 u.1 = 1 then ((tm_fl (sp_dif (tm_tp t.1) (tm_tp u.1)), t.2) :: (sp_dv u ts).1, (sp_dv u ts).2) else ([], t :: ts)
def sp_nu (n : Nat) : List tm_T := if n = 0 then [] else [([], n)]
def sp_ms (u : tm_T) (us : List tm_T) (n : Nat) : List tm_T := if n = 0 then [] else (u.1, n * u.2) :: us
def sp_quo (ts : List tm_T) (u : tm_T) (us : List tm_T) : List tm_T := (sp_dv u ts).1 ++ sp_nu (sp_tm u us (sp_dv u ts).2)
def sp_rem (ts : List tm_T) (u : tm_T) (us : List tm_T) : List tm_T := sp_dif (sp_dv u ts).2 (sp_ms u us (sp_tm u us (sp_dv u ts).2))
theorem sp_tm_mul {u : tm_T} {us : List tm_T} : ∀ {rs : List tm_T}, tm_al rs → sp_tm u us rs * u.2 ≤ 1000000 := by
  intro rs h
  cases rs with
  | nil => show 0 * u.2 ≤ 1000000; omega
  | cons r rs =>
    have h1 := h.1.2.2
    have h2 := Nat.div_mul_le_self r.2 u.2
    rw [sp_tm_c]
    split
    · omega
    · split
      · rw [Nat.sub_mul]; omega
      · omega
theorem sp_tm_le {u : tm_T} {us : List tm_T} : ∀ {rs : List tm_T}, tm_al rs → sp_tm u us rs ≤ 1000000 := by
  intro rs h
  cases rs with
  | nil => exact Nat.zero_le _
  | cons r rs =>
    have h1 := h.1.2.2
    have h2 := Nat.div_le_self r.2 u.2
    rw [sp_tm_c]
    split
    · omega
    · split
      · omega
      · omega
theorem sp_ms_al {u : tm_T} {us rs : List tm_T} (h1 : tm_al (u :: us)) (h2 : tm_al rs) : tm_al (sp_ms u us (sp_tm u us rs)) := by
  unfold sp_ms
  split
  · exact trivial
  · exact ⟨⟨h1.1.1, Nat.mul_pos (by omega) h1.1.2.1, sp_tm_mul h2⟩, h1.2⟩
theorem sp_dv_al {u : tm_T} : ∀ {ts : List tm_T}, tm_al ts → tm_al (sp_dv u ts).1 ∧ tm_al (sp_dv u ts).2 := by
  intro ts
  induction ts with
  | nil => intro _; exact ⟨trivial, trivial⟩
  | cons t ts ih =>
    intro h
    unfold sp_dv
    split
    · exact ⟨⟨⟨tm_fl_W (sp_dif_al (tm_al_tp h.1.1)), h.1.2⟩, (ih h.2).1⟩, (ih h.2).2⟩
    · exact ⟨trivial, h⟩
theorem sp_nu_al {n : Nat} (h : n ≤ 1000000) : tm_al (sp_nu n) := by
  unfold sp_nu
  split
  · exact trivial
  · exact ⟨⟨tm_nil, by unfold tm_c; dsimp only; omega⟩, trivial⟩
theorem sp_quo_al {ts us : List tm_T} {u : tm_T} (h1 : tm_al ts) : tm_al (sp_quo ts u us) := tm_al_app.mpr ⟨(sp_dv_al h1).1, sp_nu_al (sp_tm_le (sp_dv_al h1).2)⟩
theorem sp_rem_al {ts us : List tm_T} {u : tm_T} (h1 : tm_al ts) : tm_al (sp_rem ts u us) := sp_dif_al (sp_dv_al h1).2
/-- the object of division at x; its rows follow it -/
abbrev od_DV (M : od_M) (x : Nat) : Prop := M.2.2 x = some (od_ob 2 [.ref (x + 1), .ref (x + 3), .ref (x + 5), .ref (x + 7), .ref (x + 9)])
def od_DVs (S : Nat → Bool) (x : Nat) : Prop := od_no S x ∧ ∀ i, i < 5 → S (x + 1 + 2 * i) = true
section DIV
variable {S : Nat → Bool} {M : od_M} {ρ0 : od_Rm} {x a b quo rem : Nat}
theorem lt_termEnd0 {ρ : od_Rm} {q : Nat} (hq' : S q = true) (hy : od_hl ρ q []) : od_W 0 9 0 (od_ent 9 [.ref q, .int (nI 0)]) [] (od_cm S M ρ) (fun o M' => o = .inl (some (.int (nI 0))) ∧ M' = od_cm S M ρ) := by
  have e0 : od_ent 9 [.ref q, .int (nI 0)] = [some (.ref q), some (.int (nI 0)), none, none] := rfl
  rw [e0]
  refine od_W.rn (pc' := 6) (ls' := [some (.ref _), some (.int _), some (.int _), some (.int _)]) (st' := [.ref _, .int _]) 6 rfl ?_
  refine od_gL rfl rfl (hq') (hy.n) ?_
  refine od_r2T rfl rfl (rfl) ?_
  refine od_W.rn (pc' := 44) (ls' := [some (.ref _), some (.int _), some (.int _), some (.int _)]) (st' := [.ref _]) 1 rfl ?_
  refine od_gL rfl rfl (hq') (hy.n) ?_
  refine od_W.fin rfl ?_
  exact ⟨rfl, rfl⟩
theorem lt_op {ρ : od_Rm} {p q : Nat} {u w u' w' : List Nat} (hS : od_SS S) (hp : S p = true) (hq' : S q = true) (hb : od_Bd ρ) (hx : od_hl ρ p (u ++ w)) (hy : od_hl ρ q (u' ++ w')) {e1 e2 e3 e4 : Nat} (h1 : e1 = u.length) (h2 : e2 = (u ++ w).length) (h3 : e3 = u'.length) (h4 : e4 = (u' ++ w').length) : od_W 1 28 0 (od_ent 28 [.ref p, .int (nI e1), .int (nI e2), .ref q, .int (nI e3), .int (nI e4)]) [] (od_cm S M ρ) (fun o M' => o = .inl (some (.int (tm_cmp w w'))) ∧ M' = od_cm S M ρ) := by
  subst h1 h2 h3 h4
  have l1 := hx.le hb
  have l2 := hy.le hb
  have a1 := hx.at
  have a2 := hy.at
  rw [tm_at_app, Nat.zero_add] at a1 a2
  rw [List.length_append] at l1 l2
  rw [List.length_append, List.length_append]
  exact ct_orderOfParts hS hp hq' l1 l2 (tm_sm_app.mp hx.2).2 (tm_sm_app.mp hy.2).2 a1.2 a2.2
set_option maxRecDepth 100000 in
theorem lt_timesInRest {ρ : od_Rm} (hS : od_SS S) (hA : od_DV M x) (hR : od_DVs S x) (hb' : S b = true) (hb : od_Bd ρ) {u : tm_T} {us rs : List tm_T} (h1 : tm_al (u :: us)) (h2 : tm_al rs) (hx : od_hl ρ (x + 7) (tm_fl rs)) (hy : od_hl ρ b (tm_fl (u :: us))) : od_W 3 42 0 (od_ent 42 [.ref x, .ref b, .int (nI (tm_t u).length)]) [] (od_cm S M ρ) (fun o M' => o = .inl (some (.int (nI (sp_tm u us rs)))) ∧ M' = od_cm S M ρ) := by
  have e0 : od_ent 42 [.ref x, .ref b, .int (nI (tm_t u).length)] = [some (.ref x), some (.ref b), some (.int (nI (tm_t u).length)), none, none, none, none, none] := rfl
  rw [e0]
  have r7 : S (x + 7) = true := hR.2 3 (by omega)
  have hxn : od_no S x := hR.1
  have hy2 : od_hl ρ b ([] ++ (tm_t u ++ tm_fl us)) := hy
  have hc := h1.1.2
  unfold tm_c at hc
  refine od_W.rn (pc' := 1) (ls' := [some (.ref _), some (.ref _), some (.int _), none, none, none, none, none]) (st' := [.ref _]) 1 rfl ?_
  refine od_rG rfl (od_cm_o hxn hA) rfl rfl ?_
  refine od_W.rn (pc' := 5) (ls' := [some (.ref _), some (.ref _), some (.int _), none, none, none, none, none]) (st' := [.int _, .ref _]) 1 rfl ?_
  cases rs with
  | nil =>
    refine od_rV (as := [.int (nI 0)]) rfl rfl rfl rfl (od_cm_r r7) rfl (Nat.le_of_ble_eq_true rfl) (Nat.le_of_ble_eq_true rfl) (lt_termEnd0 r7 hx) (Nat.le_of_ble_eq_true rfl) (fun o M1 hq => ?_)
    obtain ⟨rfl, rfl⟩ := hq
    refine od_K.ret ?_
    refine od_W.rn (pc' := 11) (ls' := [some (.ref _), some (.ref _), some (.int _), some (.int _), none, none, none, none]) (st' := [.int _, .ref _]) 3 rfl ?_
    refine od_rV (as := [.int (nI (tm_t u).length)]) rfl rfl rfl rfl (od_cm_r hb') rfl (Nat.le_of_ble_eq_true rfl) (Nat.le_of_ble_eq_true rfl) (lt_coefficient hS hb' hb hy2 (by simp)) (Nat.le_of_ble_eq_true rfl) (fun o M1 hq => ?_)
    obtain ⟨rfl, rfl⟩ := hq
    refine od_K.ret ?_
    refine od_W.rn (pc' := 17) (ls' := [some (.ref _), some (.ref _), some (.int _), some (.int _), some (.int _), none, none, none]) (st' := [.ref _]) 2 rfl ?_
    refine od_rG rfl (od_cm_o hxn hA) rfl rfl ?_
    refine od_rV (as := []) rfl rfl rfl rfl (od_cm_r r7) rfl (Nat.le_of_ble_eq_true rfl) (Nat.le_of_ble_eq_true rfl) (lt_isZero hS r7 hb hx) (Nat.le_of_ble_eq_true rfl) (fun o M1 hq => ?_)
    obtain ⟨rfl, rfl⟩ := hq
    refine od_K.ret ?_
    refine od_r1T rfl rfl (rfl) ?_
    refine od_W.rn (pc' := 48) (ls' := [some (.ref _), some (.ref _), some (.int _), some (.int _), some (.int _), none, none, none]) (st' := [.int _]) 1 rfl ?_
    refine od_W.fin rfl ?_
    exact ⟨rfl, rfl⟩
  | cons r rs =>
    have hx2 : od_hl ρ (x + 7) ([] ++ (tm_t r ++ tm_fl rs)) := hx
    have hcr := h2.1.2
    unfold tm_c at hcr
    refine od_rV (as := [.int (nI 0)]) rfl rfl rfl rfl (od_cm_r r7) rfl (Nat.le_of_ble_eq_true rfl) (Nat.le_of_ble_eq_true rfl) (lt_termEnd hS r7 hb h2.1 hx2 rfl) (Nat.le_of_ble_eq_true rfl) (fun o M1 hq => ?_)
    obtain ⟨rfl, rfl⟩ := hq
    refine od_K.ret ?_
    rw [Nat.zero_add]
    refine od_W.rn (pc' := 11) (ls' := [some (.ref _), some (.ref _), some (.int _), some (.int _), none, none, none, none]) (st' := [.int _, .ref _]) 3 rfl ?_
    refine od_rV (as := [.int (nI (tm_t u).length)]) rfl rfl rfl rfl (od_cm_r hb') rfl (Nat.le_of_ble_eq_true rfl) (Nat.le_of_ble_eq_true rfl) (lt_coefficient hS hb' hb hy2 (by simp)) (Nat.le_of_ble_eq_true rfl) (fun o M1 hq => ?_)
    obtain ⟨rfl, rfl⟩ := hq
    refine od_K.ret ?_
    refine od_W.rn (pc' := 17) (ls' := [some (.ref _), some (.ref _), some (.int _), some (.int _), some (.int _), none, none, none]) (st' := [.ref _]) 2 rfl ?_
    refine od_rG rfl (od_cm_o hxn hA) rfl rfl ?_
    refine od_rV (as := []) rfl rfl rfl rfl (od_cm_r r7) rfl (Nat.le_of_ble_eq_true rfl) (Nat.le_of_ble_eq_true rfl) (lt_isZero hS r7 hb hx) (Nat.le_of_ble_eq_true rfl) (fun o M1 hq => ?_)
    obtain ⟨rfl, rfl⟩ := hq
    refine od_K.ret ?_
    refine od_r1F rfl (of_decide_eq_true rfl) (rfl) ?_
    refine od_W.rn (pc' := 29) (ls' := [some (.ref _), some (.ref _), some (.int _), some (.int _), some (.int _), none, none, none]) (st' := [.int _, .int _]) 2 rfl ?_
    refine od_r2F rfl (of_decide_eq_true rfl) (decide_eq_false (nI_nlt (b := 1) hc.1 (by omega))) ?_
    refine od_W.rn (pc' := 33) (ls' := [some (.ref _), some (.ref _), some (.int _), some (.int _), some (.int _), none, none, none]) (st' := [.ref _]) 1 rfl ?_
    refine od_rG rfl (od_cm_o hxn hA) rfl rfl ?_
    refine od_W.rn (pc' := 41) (ls' := [some (.ref _), some (.ref _), some (.int _), some (.int _), some (.int _), none, none, none]) (st' := [.int _, .int _, .ref _, .int _, .int _, .ref _]) 5 rfl ?_
    refine od_rSt (as := [.ref (x + 7), .int (nI 0), .int (nI (tm_t r).length), .ref b, .int (nI 0), .int (nI (tm_t u).length)]) rfl rfl rfl rfl (Nat.le_of_ble_eq_true rfl) (Nat.le_of_ble_eq_true rfl) (lt_oe hS r7 hb' hb hx2 hy2 rfl (by omega) rfl (by omega)) (Nat.le_of_ble_eq_true rfl) (fun o M1 hq => ?_)
    obtain ⟨rfl, rfl⟩ := hq
    refine od_K.ret ?_
    by_cases hm : tm_cmp r.1 u.1 = -1
    · rw [hm, show sp_tm u us (r :: rs) = 0 from if_pos hm]
      refine od_r1F rfl (of_decide_eq_true rfl) (rfl) ?_
      refine od_W.rn (pc' := 48) (ls' := [some (.ref _), some (.ref _), some (.int _), some (.int _), some (.int _), none, none, none]) (st' := [.int _]) 1 rfl ?_
      refine od_W.fin rfl ?_
      exact ⟨rfl, rfl⟩
    · have hge : od_cond .ge (tm_cmp r.1 u.1) 0 = true := by rcases tm_cmp_is r.1 u.1 with z | z | z; exact absurd z hm; rw [z]; rfl; rw [z]; rfl
      have hd1 := Nat.div_mul_le_self r.2 u.2
      have hd2 := Nat.div_le_self r.2 u.2
      refine od_r1T rfl rfl (hge) ?_
      refine od_W.rn (pc' := 50) (ls' := [some (.ref _), some (.ref _), some (.int _), some (.int _), some (.int _), none, none, none]) (st' := [.ref _]) 1 rfl ?_
      refine od_rG rfl (od_cm_o hxn hA) rfl rfl ?_
      refine od_W.rn (pc' := 54) (ls' := [some (.ref _), some (.ref _), some (.int _), some (.int _), some (.int _), none, none, none]) (st' := [.int _, .ref _]) 1 rfl ?_
      refine od_rV (as := [.int (nI (tm_t r).length)]) rfl rfl rfl rfl (od_cm_r r7) rfl (Nat.le_of_ble_eq_true rfl) (Nat.le_of_ble_eq_true rfl) (lt_coefficient hS r7 hb hx2 (by simp)) (Nat.le_of_ble_eq_true rfl) (fun o M1 hq => ?_)
      obtain ⟨rfl, rfl⟩ := hq
      refine od_K.ret ?_
      refine od_W.rn (pc' := 59) (ls' := [some (.ref _), some (.ref _), some (.int _), some (.int _), some (.int _), none, none, none]) (st' := [.int _, .int _]) 1 rfl ?_
      refine od_rDidiv rfl (rfl) (rfl) (hc.1) (by omega) (by omega) ?_
      refine od_W.rn (pc' := 68) (ls' := [some (.ref _), some (.ref _), some (.int _), some (.int _), some (.int _), some (.int _), none, none]) (st' := [.ref _, .int _]) 5 rfl ?_
      rw [nI_mulN]
      refine od_rG rfl (od_cm_o hxn hA) rfl rfl ?_
      refine od_W.rn (pc' := 72) (ls' := [some (.ref _), some (.ref _), some (.int _), some (.int _), some (.int _), some (.int _), none, none]) (st' := [.int _, .ref _, .int _]) 1 rfl ?_
      refine od_rV (as := [.int (nI (tm_t r).length)]) rfl rfl rfl rfl (od_cm_r r7) rfl (Nat.le_of_ble_eq_true rfl) (Nat.le_of_ble_eq_true rfl) (lt_coefficient hS r7 hb hx2 (by simp)) (Nat.le_of_ble_eq_true rfl) (fun o M1 hq => ?_)
      obtain ⟨rfl, rfl⟩ := hq
      refine od_K.ret ?_
      have tail : ∀ ev : Int32, (ev = if r.2 / u.2 * u.2 = r.2 then 1 else 0) → od_W 3 42 83 [some (.ref x), some (.ref b), some (.int (nI (tm_t u).length)), some (.int (nI (tm_t r).length)), some (.int (nI u.2)), some (.int (nI (r.2 / u.2))), none, none] [.int ev] (od_cm S M ρ) (fun o M' => o = .inl (some (.int (nI (sp_tm u us (r :: rs))))) ∧ M' = od_cm S M ρ) := by
        intro ev hev
        refine od_W.rn (pc' := 86) (ls' := [some (.ref _), some (.ref _), some (.int _), some (.int _), some (.int _), some (.int _), some (.int _), none]) (st' := [.ref _]) 2 rfl ?_
        refine od_rG rfl (od_cm_o hxn hA) rfl rfl ?_
        refine od_W.rn (pc' := 91) (ls' := [some (.ref _), some (.ref _), some (.int _), some (.int _), some (.int _), some (.int _), some (.int _), none]) (st' := [.ref _, .int _, .ref _]) 2 rfl ?_
        refine od_rG rfl (od_cm_o hxn hA) rfl rfl ?_
        refine od_gL rfl rfl (r7) (hx2.n) ?_
        refine od_W.rn (pc' := 100) (ls' := [some (.ref _), some (.ref _), some (.int _), some (.int _), some (.int _), some (.int _), some (.int _), none]) (st' := [.ref _, .int _, .ref _, .int _, .int _, .ref _]) 3 rfl ?_
        refine od_gL rfl rfl (hb') (hy2.n) ?_
        refine od_rSt (as := [.ref (x + 7), .int (nI (tm_t r).length), .int (nI ([] ++ (tm_t r ++ tm_fl rs)).length), .ref b, .int (nI (tm_t u).length), .int (nI ([] ++ (tm_t u ++ tm_fl us)).length)]) rfl rfl rfl rfl (Nat.le_of_ble_eq_true rfl) (Nat.le_of_ble_eq_true rfl) (lt_op hS r7 hb' hb (u := tm_t r) (w := tm_fl rs) (u' := tm_t u) (w' := tm_fl us) hx hy rfl rfl rfl rfl) (Nat.le_of_ble_eq_true rfl) (fun o M1 hq => ?_)
        obtain ⟨rfl, rfl⟩ := hq
        refine od_K.ret ?_
        by_cases hl : tm_cmp (tm_fl rs) (tm_fl us) = -1
        · rw [hl]
          refine od_r1F rfl (of_decide_eq_true rfl) (rfl) ?_
          refine od_W.rn (pc' := 118) (ls' := [some (.ref _), some (.ref _), some (.int _), some (.int _), some (.int _), some (.int _), some (.int _), some (.int _)]) (st' := [.int _]) 4 rfl ?_
          by_cases hev2 : r.2 / u.2 * u.2 = r.2
          · rw [if_pos hev2] at hev
            subst hev
            refine od_r1F rfl (of_decide_eq_true rfl) (rfl) ?_
            refine od_W.rn (pc' := 123) (ls' := [some (.ref _), some (.ref _), some (.int _), some (.int _), some (.int _), some (.int _), some (.int _), some (.int _)]) (st' := [.int _]) 1 rfl ?_
            refine od_r1F rfl (of_decide_eq_true rfl) (rfl) ?_
            refine od_W.rn (pc' := 135) (ls' := [some (.ref _), some (.ref _), some (.int _), some (.int _), some (.int _), some (.int _), some (.int _), some (.int _)]) (st' := [.int _]) 4 rfl ?_
            refine od_W.fin rfl ?_
            refine ⟨?_, rfl⟩
            have hp : 0 < r.2 / u.2 := by
              rcases Nat.eq_zero_or_pos (r.2 / u.2) with z | z
              · rw [z] at hev2; omega
              · exact z
            rw [show sp_tm u us (r :: rs) = r.2 / u.2 - 1 by rw [sp_tm_c, if_neg hm, if_pos ⟨hev2, hl⟩]]
            rw [← nI_subI (a := 1) hp]
            rfl
          · rw [if_neg hev2] at hev
            subst hev
            refine od_r1T rfl rfl (rfl) ?_
            refine od_W.rn (pc' := 135) (ls' := [some (.ref _), some (.ref _), some (.int _), some (.int _), some (.int _), some (.int _), some (.int _), some (.int _)]) (st' := [.int _]) 1 rfl ?_
            refine od_W.fin rfl ?_
            exact ⟨by rw [show sp_tm u us (r :: rs) = r.2 / u.2 by rw [sp_tm_c, if_neg hm, if_neg (fun z => hev2 z.1)]], rfl⟩
        · have hge2 : od_cond .ge (tm_cmp (tm_fl rs) (tm_fl us)) 0 = true := by rcases tm_cmp_is (tm_fl rs) (tm_fl us) with z | z | z; exact absurd z hl; rw [z]; rfl; rw [z]; rfl
          have es : sp_tm u us (r :: rs) = r.2 / u.2 := by rw [sp_tm_c, if_neg hm, if_neg (fun z => hl z.2)]
          refine od_r1T rfl rfl (hge2) ?_
          refine od_W.rn (pc' := 118) (ls' := [some (.ref _), some (.ref _), some (.int _), some (.int _), some (.int _), some (.int _), some (.int _), some (.int _)]) (st' := [.int _]) 3 rfl ?_
          by_cases hev2 : r.2 / u.2 * u.2 = r.2
          · rw [if_pos hev2] at hev
            subst hev
            refine od_r1F rfl (of_decide_eq_true rfl) (rfl) ?_
            refine od_W.rn (pc' := 123) (ls' := [some (.ref _), some (.ref _), some (.int _), some (.int _), some (.int _), some (.int _), some (.int _), some (.int _)]) (st' := [.int _]) 1 rfl ?_
            refine od_r1T rfl rfl (rfl) ?_
            refine od_W.rn (pc' := 135) (ls' := [some (.ref _), some (.ref _), some (.int _), some (.int _), some (.int _), some (.int _), some (.int _), some (.int _)]) (st' := [.int _]) 1 rfl ?_
            refine od_W.fin rfl ?_
            exact ⟨by rw [es], rfl⟩
          · rw [if_neg hev2] at hev
            subst hev
            refine od_r1T rfl rfl (rfl) ?_
            refine od_W.rn (pc' := 135) (ls' := [some (.ref _), some (.ref _), some (.int _), some (.int _), some (.int _), some (.int _), some (.int _), some (.int _)]) (st' := [.int _]) 1 rfl ?_
            refine od_W.fin rfl ?_
            exact ⟨by rw [es], rfl⟩
      by_cases hev2 : r.2 / u.2 * u.2 = r.2
      · refine od_r2F rfl (of_decide_eq_true rfl) ((show (!decide (nI (r.2 / u.2 * u.2) = nI r.2)) = false by rw [hev2, decide_eq_true rfl]; rfl)) ?_
        refine od_W.rn (pc' := 83) (ls' := [some (.ref _), some (.ref _), some (.int _), some (.int _), some (.int _), some (.int _), none, none]) (st' := [.int _]) 2 rfl ?_
        exact tail 1 (if_pos hev2).symm
      · refine od_r2T rfl rfl ((show (!decide (nI (r.2 / u.2 * u.2) = nI r.2)) = true by rw [decide_eq_false (fun z => hev2 ((nI_eq (by omega) (by omega)).mp z))]; rfl)) ?_
        refine od_W.rn (pc' := 83) (ls' := [some (.ref _), some (.ref _), some (.int _), some (.int _), some (.int _), some (.int _), none, none]) (st' := [.int _]) 1 rfl ?_
        exact tail 0 (if_neg hev2).symm
abbrev od_DU (x quo rem : Nat) : List Nat := [quo, rem, x + 1, x + 3, x + 5, x + 7, x + 9]
set_option maxRecDepth 100000 in
theorem cl_div_end {ρ : od_Rm} (hS : od_SS S) (hA : od_DV M x) (hR : od_DVs S x) (ha : S a = true) (hb' : S b = true) (hq0 : S quo = true) (hr0 : S rem = true) (na : a ∉ od_DU x quo rem) (nb : b ∉ od_DU x quo rem) (nq : quo ∉ [rem, x + 1, x + 3, x + 5, x + 7, x + 9]) (nr : rem ∉ [x + 1, x + 3, x + 5, x + 7, x + 9]) {u : tm_T} {us rs : List tm_T} (h1 : tm_al (u :: us)) (h2 : tm_al rs) {ua zs : List Nat} {i7 w8 : Option Value} (hb : od_Bd ρ) (g : ∀ q, q ∉ od_DU x quo rem → ρ q = ρ0 q) (hx : od_hl ρ a (ua ++ tm_fl rs)) (hy : od_hl ρ b (tm_fl (u :: us))) (hz : od_hl ρ quo zs) : od_W 4 41 122 [some (.ref x), some (.ref a), some (.ref b), some (.ref quo), some (.ref rem), some (.int (nI (tm_t u).length)), some (.int (nI ua.length)), i7, w8] [] (od_cm S M ρ) (od_Re S M ρ0 (od_DU x quo rem) (tm_ft (zs ++ tm_fl (sp_nu (sp_tm u us rs)))) none (fun ρ' => od_hl ρ' quo (zs ++ tm_fl (sp_nu (sp_tm u us rs))) ∧ od_hl ρ' rem (tm_fl (sp_dif rs (sp_ms u us (sp_tm u us rs)))))) := by
  have r7 : S (x + 7) = true := hR.2 3 (by omega)
  have r9 : S (x + 9) = true := hR.2 4 (by omega)
  have hxn : od_no S x := hR.1
  have hn1 := sp_tm_le (u := u) (us := us) h2
  have hn2 := sp_tm_mul (u := u) (us := us) h2
  have alm := sp_ms_al h1 h2
  refine od_W.rn (pc' := 123) (ls' := [some (.ref _), some (.ref _), some (.ref _), some (.ref _), some (.ref _), some (.int _), some (.int _), _, _]) (st' := [.ref _]) 1 rfl ?_
  refine od_rG rfl (od_cm_o hxn hA) rfl rfl ?_
  refine od_W.rn (pc' := 130) (ls' := [some (.ref _), some (.ref _), some (.ref _), some (.ref _), some (.ref _), some (.int _), some (.int _), _, _]) (st' := [.ref _, .int _, .ref _, .ref _]) 3 rfl ?_
  refine od_gL rfl rfl (ha) (hx.n) ?_
  refine od_rV (as := [.ref a, .int (nI ua.length), .int (nI (ua ++ tm_fl rs).length)]) rfl rfl rfl rfl (od_cm_r r7) rfl (Nat.le_of_ble_eq_true rfl) (Nat.le_of_ble_eq_true rfl) (lt_becomePart hS r7 ha (Ne.symm (od_ne na (by simp))) hb (u := ua) (w := tm_fl rs) (z := []) (by simpa using hx) rfl (by simp)) (Nat.le_of_ble_eq_true rfl) (fun o M1 hq => ?_)
  refine od_Re.kp hq rfl (by simp) (g) (fun _ => trivial) (fun ρ1 f1 g1 b1 p1 k1 => ?_)
  have hy1 := hy.fr (f1 b (od_nn nb (by simp)))
  have hz1 := hz.fr (f1 quo (od_nn nq (by simp)))
  refine od_W.rn (pc' := 140) (ls' := [some (.ref _), some (.ref _), some (.ref _), some (.ref _), some (.ref _), some (.int _), some (.int _), _, _]) (st' := [.int _, .ref _, .ref _]) 3 rfl ?_
  refine od_rV (as := [.ref b, .int (nI (tm_t u).length)]) rfl rfl rfl rfl (od_cm_o hxn hA) rfl (Nat.le_of_ble_eq_true rfl) (Nat.le_of_ble_eq_true rfl) (lt_timesInRest hS hA hR hb' b1 h1 h2 p1 hy1) (Nat.le_of_ble_eq_true rfl) (fun o M1 hq => ?_)
  obtain ⟨rfl, rfl⟩ := hq
  refine od_K.ret ?_
  refine od_W.rn (pc' := 149) (ls' := [some (.ref _), some (.ref _), some (.ref _), some (.ref _), some (.ref _), some (.int _), some (.int _), some (.int _), _]) (st' := [.long _, .ref _]) 4 rfl ?_
  have fin : ∀ ρ5 : od_Rm, od_Bd ρ5 → (∀ q, q ∉ od_DU x quo rem → ρ5 q = ρ0 q) → od_hl ρ5 quo (zs ++ tm_fl (sp_nu (sp_tm u us rs))) → od_hl ρ5 (x + 7) (tm_fl rs) → od_hl ρ5 (x + 9) (tm_fl (sp_ms u us (sp_tm u us rs))) → tm_ft (zs ++ tm_fl (sp_nu (sp_tm u us rs))) → od_W 4 41 200 [some (.ref x), some (.ref a), some (.ref b), some (.ref quo), some (.ref rem), some (.int (nI (tm_t u).length)), some (.int (nI ua.length)), some (.int (nI (sp_tm u us rs))), w8] [] (od_cm S M ρ5) (od_Re S M ρ0 (od_DU x quo rem) (tm_ft (zs ++ tm_fl (sp_nu (sp_tm u us rs)))) none (fun ρ' => od_hl ρ' quo (zs ++ tm_fl (sp_nu (sp_tm u us rs))) ∧ od_hl ρ' rem (tm_fl (sp_dif rs (sp_ms u us (sp_tm u us rs)))))) := by
    intro ρ5 b5 g5 hz5 hr5 hm5 hok
    refine od_W.rn (pc' := 201) (ls' := [some (.ref _), some (.ref _), some (.ref _), some (.ref _), some (.ref _), some (.int _), some (.int _), some (.int _), _]) (st' := [.ref _]) 1 rfl ?_
    refine od_rG rfl (od_cm_o hxn hA) rfl rfl ?_
    refine od_W.rn (pc' := 205) (ls' := [some (.ref _), some (.ref _), some (.ref _), some (.ref _), some (.ref _), some (.int _), some (.int _), some (.int _), _]) (st' := [.ref _, .ref _]) 1 rfl ?_
    refine od_rG rfl (od_cm_o hxn hA) rfl rfl ?_
    refine od_W.rn (pc' := 210) (ls' := [some (.ref _), some (.ref _), some (.ref _), some (.ref _), some (.ref _), some (.int _), some (.int _), some (.int _), _]) (st' := [.ref _, .ref _, .ref _]) 1 rfl ?_
    refine od_rSt (as := [.ref (x + 7), .ref (x + 9), .ref rem]) rfl rfl rfl rfl (Nat.le_of_ble_eq_true rfl) (Nat.le_of_ble_eq_true rfl) (lt_makeDifference hS r7 r9 hr0 (od_ne nr (by simp)) (od_ne nr (by simp)) b5 h2 alm hr5 hm5) (Nat.le_of_ble_eq_true rfl) (fun o M1 hq => ?_)
    refine od_Re.kp hq rfl (by simp) (g5) (fun _ => trivial) (fun ρ6 f6 g6 b6 p6 k6 => ?_)
    refine od_W.fin rfl ?_
    exact od_Re.yes g6 b6 hok ⟨hz5.fr (f6 quo (od_nn nq (by simp))), p6⟩
  rw [nI_1000 hn1]
  by_cases hn0 : sp_tm u us rs = 0
  · have e1 : sp_nu (sp_tm u us rs) = [] := if_pos hn0
    have e2 : sp_ms u us (sp_tm u us rs) = [] := if_pos hn0
    rw [e1, e2] at fin
    rw [e1, e2]
    refine od_rV (as := [.long (lN (sp_tm u us rs))]) rfl rfl rfl rfl (od_cm_r hq0) rfl (Nat.le_of_ble_eq_true rfl) (Nat.le_of_ble_eq_true rfl) (lt_putNumber0 hS hq0 b1 hz1 (by rw [hn0]; exact (pk_lLE (a := 0) (b := 0) (by omega) (by omega)).mpr (by omega))) (Nat.le_of_ble_eq_true rfl) (fun o M1 hq => ?_)
    refine od_Re.kp hq rfl (by simp) (g1) (fun z => z) (fun ρ2 f2 g2 b2 p2 k2 => ?_)
    have hr2 := p1.fr (f2 (x + 7) (od_n1 (Ne.symm (od_ne nq (by simp)))))
    refine od_W.rn (pc' := 153) (ls' := [some (.ref _), some (.ref _), some (.ref _), some (.ref _), some (.ref _), some (.int _), some (.int _), some (.int _), _]) (st' := [.ref _]) 1 rfl ?_
    refine od_rG rfl (od_cm_o hxn hA) rfl rfl ?_
    refine od_rV (as := []) rfl rfl rfl rfl (od_cm_r r9) rfl (Nat.le_of_ble_eq_true rfl) (Nat.le_of_ble_eq_true rfl) (lt_clear hS r9 b2) (Nat.le_of_ble_eq_true rfl) (fun o M1 hq => ?_)
    refine od_Re.kp hq rfl (by simp) (g2) (fun _ => trivial) (fun ρ3 f3 g3 b3 p3 k3 => ?_)
    have hr3 := hr2.fr (f3 (x + 7) (by simp))
    have hz3 := p2.fr (f3 quo (od_n1 (od_ne nq (by simp))))
    refine od_W.rn (pc' := 161) (ls' := [some (.ref _), some (.ref _), some (.ref _), some (.ref _), some (.ref _), some (.int _), some (.int _), some (.int _), _]) (st' := [.int _]) 1 rfl ?_
    refine od_r1T rfl rfl ((by rw [hn0]; rfl)) ?_
    exact fin ρ3 b3 g3 hz3 hr3 p3 k2
  · have e1 : sp_nu (sp_tm u us rs) = [([], sp_tm u us rs)] := if_neg hn0
    have e2 : sp_ms u us (sp_tm u us rs) = (u.1, sp_tm u us rs * u.2) :: us := if_neg hn0
    have e3 : tm_fl (sp_nu (sp_tm u us rs)) = [1, 0, sp_tm u us rs] := by rw [e1]; rfl
    rw [e2, e3] at fin
    rw [e2, e3]
    have hl60 := hy.le hb
    have hsm := hy.2
    have huc := h1.1.2.2
    rw [tm_fl, List.length_append, tm_t_len] at hl60
    rw [tm_fl, tm_sm_app, tm_sm_t] at hsm
    have hfm : tm_ft ([] ++ tm_t (u.1, sp_tm u us rs * u.2) ++ tm_fl us) := by
      refine ⟨?_, ?_⟩
      · rw [List.nil_append, List.length_append, tm_t_len]; exact hl60
      · rw [List.nil_append, tm_sm_app, tm_sm_t]; exact ⟨⟨hsm.1.1, hn2⟩, hsm.2⟩
    have hpos : 0 < sp_tm u us rs * u.2 := Nat.mul_pos (by omega) h1.1.2.1
    refine od_rV (as := [.long (lN (sp_tm u us rs))]) rfl rfl rfl rfl (od_cm_r hq0) rfl (Nat.le_of_ble_eq_true rfl) (Nat.le_of_ble_eq_true rfl) (lt_putNumber hS hq0 b1 hz1 (by omega) (by omega)) (Nat.le_of_ble_eq_true rfl) (fun o M1 hq => ?_)
    refine od_Re.kp hq rfl (by simp) (g1) (fun z => z) (fun ρ2 f2 g2 b2 p2 k2 => ?_)
    have hr2 := p1.fr (f2 (x + 7) (od_n1 (Ne.symm (od_ne nq (by simp)))))
    have hy2 := hy1.fr (f2 b (od_nn nb (by simp)))
    refine od_W.rn (pc' := 153) (ls' := [some (.ref _), some (.ref _), some (.ref _), some (.ref _), some (.ref _), some (.int _), some (.int _), some (.int _), _]) (st' := [.ref _]) 1 rfl ?_
    refine od_rG rfl (od_cm_o hxn hA) rfl rfl ?_
    refine od_rV (as := []) rfl rfl rfl rfl (od_cm_r r9) rfl (Nat.le_of_ble_eq_true rfl) (Nat.le_of_ble_eq_true rfl) (lt_clear hS r9 b2) (Nat.le_of_ble_eq_true rfl) (fun o M1 hq => ?_)
    refine od_Re.kp hq rfl (by simp) (g2) (fun _ => trivial) (fun ρ3 f3 g3 b3 p3 k3 => ?_)
    have hr3 := hr2.fr (f3 (x + 7) (by simp))
    have hz3 := p2.fr (f3 quo (od_n1 (od_ne nq (by simp))))
    have hy3 : od_hl ρ3 b ([] ++ (tm_t u ++ tm_fl us)) := hy2.fr (f3 b (od_nn nb (by simp)))
    refine od_W.rn (pc' := 161) (ls' := [some (.ref _), some (.ref _), some (.ref _), some (.ref _), some (.ref _), some (.int _), some (.int _), some (.int _), _]) (st' := [.int _]) 1 rfl ?_
    refine od_r1F rfl (of_decide_eq_true rfl) (decide_eq_false (nI_ge (a := 0) (by omega) (by omega))) ?_
    refine od_W.rn (pc' := 165) (ls' := [some (.ref _), some (.ref _), some (.ref _), some (.ref _), some (.ref _), some (.int _), some (.int _), some (.int _), _]) (st' := [.ref _]) 1 rfl ?_
    refine od_rG rfl (od_cm_o hxn hA) rfl rfl ?_
    refine od_W.rn (pc' := 178) (ls' := [some (.ref _), some (.ref _), some (.ref _), some (.ref _), some (.ref _), some (.int _), some (.int _), some (.int _), _]) (st' := [.int _, .ref _, .long _, .int _, .int _, .ref _, .ref _]) 7 rfl ?_
    refine od_rV (as := [.int (nI (tm_t u).length)]) rfl rfl rfl rfl (od_cm_r hb') rfl (Nat.le_of_ble_eq_true rfl) (Nat.le_of_ble_eq_true rfl) (lt_coefficient hS hb' b3 hy3 (by simp)) (Nat.le_of_ble_eq_true rfl) (fun o M1 hq => ?_)
    obtain ⟨rfl, rfl⟩ := hq
    refine od_K.ret ?_
    refine od_W.rn (pc' := 183) (ls' := [some (.ref _), some (.ref _), some (.ref _), some (.ref _), some (.ref _), some (.int _), some (.int _), some (.int _), _]) (st' := [.long _, .int _, .int _, .ref _, .ref _]) 2 rfl ?_
    rw [nI_1000 hn1, nI_1000 huc, lN_mul]
    refine od_rV (as := [.ref b, .int (nI 0), .int (nI (tm_t u).length), .long (lN (sp_tm u us rs * u.2))]) rfl rfl rfl rfl (od_cm_r r9) rfl (Nat.le_of_ble_eq_true rfl) (Nat.le_of_ble_eq_true rfl) (lt_putTermAgain hS r9 hb' (Ne.symm (od_ne nb (by simp))) b3 p3 hy3 rfl (by omega) hpos (by omega)) (Nat.le_of_ble_eq_true rfl) (fun o M1 hq => ?_)
    refine od_Re.kp hq rfl (by simp) (g3) (fun _ => tm_ft_l hfm) (fun ρ4 f4 g4 b4 p4 k4 => ?_)
    have hr4 := hr3.fr (f4 (x + 7) (by simp))
    have hz4 := hz3.fr (f4 quo (od_n1 (od_ne nq (by simp))))
    have hy4 := hy3.fr (f4 b (od_nn nb (by simp)))
    refine od_W.rn (pc' := 187) (ls' := [some (.ref _), some (.ref _), some (.ref _), some (.ref _), some (.ref _), some (.int _), some (.int _), some (.int _), _]) (st' := [.ref _]) 1 rfl ?_
    refine od_rG rfl (od_cm_o hxn hA) rfl rfl ?_
    refine od_W.rn (pc' := 194) (ls' := [some (.ref _), some (.ref _), some (.ref _), some (.ref _), some (.ref _), some (.int _), some (.int _), some (.int _), _]) (st' := [.ref _, .int _, .ref _, .ref _]) 3 rfl ?_
    refine od_gL rfl rfl (hb') (hy4.n) ?_
    refine od_rV (as := [.ref b, .int (nI (tm_t u).length), .int (nI ([] ++ (tm_t u ++ tm_fl us)).length)]) rfl rfl rfl rfl (od_cm_r r9) rfl (Nat.le_of_ble_eq_true rfl) (Nat.le_of_ble_eq_true rfl) (lt_putPart hS r9 hb' (Ne.symm (od_ne nb (by simp))) b4 p4 (u := tm_t u) (w := tm_fl us) (z := []) (by simpa using hy4) rfl (by simp)) (Nat.le_of_ble_eq_true rfl) (fun o M1 hq => ?_)
    refine od_Re.kp hq rfl (by simp) (g4) (fun _ => hfm) (fun ρ5 f5 g5 b5 p5 k5 => ?_)
    have hr5 := hr4.fr (f5 (x + 7) (by simp))
    have hz5 := hz4.fr (f5 quo (od_n1 (od_ne nq (by simp))))
    exact fin ρ5 b5 g5 hz5 hr5 p5 k2
set_option maxRecDepth 100000 in
theorem cl_div_loop (hS : od_SS S) (hA : od_DV M x) (hR : od_DVs S x) (ha : S a = true) (hb' : S b = true) (hq0 : S quo = true) (hr0 : S rem = true) (na : a ∉ od_DU x quo rem) (nb : b ∉ od_DU x quo rem) (nq : quo ∉ [rem, x + 1, x + 3, x + 5, x + 7, x + 9]) (nr : rem ∉ [x + 1, x + 3, x + 5, x + 7, x + 9]) {u : tm_T} {us : List tm_T} (h1 : tm_al (u :: us)) : ∀ (todo done : List tm_T) (ρ : od_Rm) (zs : List Nat) (w : Option Value), tm_al todo → od_Bd ρ → (∀ q, q ∉ od_DU x quo rem → ρ q = ρ0 q) → od_hl ρ a (tm_fl done ++ tm_fl todo) → od_hl ρ b (tm_fl (u :: us)) → od_hl ρ quo zs → od_hl ρ (x + 1) u.1 → od_W 4 41 28 [some (.ref x), some (.ref a), some (.ref b), some (.ref quo), some (.ref rem), some (.int (nI (tm_t u).length)), some (.int (nI (tm_fl done).length)), some (.int (nI done.length)), w] [] (od_cm S M ρ) (od_Re S M ρ0 (od_DU x quo rem) (tm_ft (zs ++ tm_fl (sp_quo todo u us))) none (fun ρ' => od_hl ρ' quo (zs ++ tm_fl (sp_quo todo u us)) ∧ od_hl ρ' rem (tm_fl (sp_rem todo u us)))) := by
  have r1 : S (x + 1) = true := hR.2 0 (by omega)
  have r3 : S (x + 3) = true := hR.2 1 (by omega)
  have r5 : S (x + 5) = true := hR.2 2 (by omega)
  have hxn : od_no S x := hR.1
  intro todo
  induction todo with
  | nil =>
    intro done ρ zs w _ hb g hx hy hz he
    have hl := hx.n
    have h60 := hx.le hb
    have h3 := tm_fl_len done
    have hend := fun (w : Option Value) => cl_div_end (i7 := some (.int (nI done.length))) (w8 := w) hS hA hR ha hb' hq0 hr0 na nb nq nr h1 (rs := []) trivial hb g hx hy hz
    rw [tm_fl, List.append_nil] at hl h60
    by_cases h20 : done.length < 20
    · refine od_W.rn (pc' := 32) (ls' := [some (.ref _), some (.ref _), some (.ref _), some (.ref _), some (.ref _), some (.int _), some (.int _), some (.int _), _]) (st' := [.int _, .int _]) 2 rfl ?_
      refine od_r2F rfl (of_decide_eq_true rfl) (decide_eq_false (nI_ge (b := 20) h20 (by omega))) ?_
      refine od_W.rn (pc' := 38) (ls' := [some (.ref _), some (.ref _), some (.ref _), some (.ref _), some (.ref _), some (.int _), some (.int _), some (.int _), _]) (st' := [.ref _, .int _]) 2 rfl ?_
      refine od_gL rfl rfl (ha) (hl) ?_
      refine od_r2T rfl rfl (decide_eq_true (nI_le (Nat.le_refl _) (by omega))) ?_
      exact hend _
    · refine od_W.rn (pc' := 32) (ls' := [some (.ref _), some (.ref _), some (.ref _), some (.ref _), some (.ref _), some (.int _), some (.int _), some (.int _), _]) (st' := [.int _, .int _]) 2 rfl ?_
      refine od_r2T rfl rfl (decide_eq_true (nI_le (a := 20) (by omega) (by omega))) ?_
      exact hend _
  | cons t todo ih =>
    intro done ρ zs w hal hb g hx hy hz he
    have hl := hx.n
    have h60 := hx.le hb
    have h3 := tm_fl_len done
    have hend := fun (w : Option Value) => cl_div_end (i7 := some (.int (nI done.length))) (w8 := w) hS hA hR ha hb' hq0 hr0 na nb nq nr h1 (rs := t :: todo) hal hb g hx hy hz
    rw [tm_fl, List.length_append, List.length_append, tm_t_len] at hl h60
    have hx2 : od_hl ρ a (tm_fl done ++ (tm_t t ++ tm_fl todo)) := hx
    have hy2 : od_hl ρ b ([] ++ (tm_t u ++ tm_fl us)) := hy
    have e : (tm_fl done).length + (tm_t t).length = (tm_fl (done ++ [t])).length := by rw [tm_fl_snoc, List.length_append]
    have huc := hal.1.2.2
    refine od_W.rn (pc' := 32) (ls' := [some (.ref _), some (.ref _), some (.ref _), some (.ref _), some (.ref _), some (.int _), some (.int _), some (.int _), _]) (st' := [.int _, .int _]) 2 rfl ?_
    refine od_r2F rfl (of_decide_eq_true rfl) (decide_eq_false (nI_ge (b := 20) (by omega) (by omega))) ?_
    refine od_W.rn (pc' := 38) (ls' := [some (.ref _), some (.ref _), some (.ref _), some (.ref _), some (.ref _), some (.int _), some (.int _), some (.int _), _]) (st' := [.ref _, .int _]) 2 rfl ?_
    refine od_gL rfl rfl (ha) (hl) ?_
    refine od_r2F rfl (of_decide_eq_true rfl) (decide_eq_false (nI_ge (by omega) (by omega))) ?_
    refine od_W.rn (pc' := 47) (ls' := [some (.ref _), some (.ref _), some (.ref _), some (.ref _), some (.ref _), some (.int _), some (.int _), some (.int _), _]) (st' := [.int _, .ref _]) 2 rfl ?_
    refine od_rV (as := [.int (nI (tm_fl done).length)]) rfl rfl rfl rfl (od_cm_r ha) rfl (Nat.le_of_ble_eq_true rfl) (Nat.le_of_ble_eq_true rfl) (lt_termEnd hS ha hb hal.1 hx2 rfl) (Nat.le_of_ble_eq_true rfl) (fun o M1 hq => ?_)
    obtain ⟨rfl, rfl⟩ := hq
    refine od_K.ret ?_
    refine od_W.rn (pc' := 61) (ls' := [some (.ref _), some (.ref _), some (.ref _), some (.ref _), some (.ref _), some (.int _), some (.int _), some (.int _), some (.int _)]) (st' := [.int _, .int _, .ref _, .int _, .int _, .ref _]) 7 rfl ?_
    refine od_rSt (as := [.ref a, .int (nI (tm_fl done).length), .int (nI ((tm_fl done).length + (tm_t t).length)), .ref b, .int (nI 0), .int (nI (tm_t u).length)]) rfl rfl rfl rfl (Nat.le_of_ble_eq_true rfl) (Nat.le_of_ble_eq_true rfl) (lt_oe hS ha hb' hb hx2 hy2 rfl rfl rfl (by omega)) (Nat.le_of_ble_eq_true rfl) (fun o M1 hq => ?_)
    obtain ⟨rfl, rfl⟩ := hq
    refine od_K.ret ?_
    by_cases hc : tm_cmp t.1 u.1 = 1
    · have e1 : sp_dv u (t :: todo) = ((tm_fl (sp_dif (tm_tp t.1) (tm_tp u.1)), t.2) :: (sp_dv u todo).1, (sp_dv u todo).2) := by conv => lhs; unfold sp_dv; rw [if_pos hc]
      have e2 : sp_quo (t :: todo) u us = (tm_fl (sp_dif (tm_tp t.1) (tm_tp u.1)), t.2) :: sp_quo todo u us := by unfold sp_quo; rw [e1]; rfl
      have e3 : sp_rem (t :: todo) u us = sp_rem todo u us := by unfold sp_rem; rw [e1]
      rw [e2, e3, tm_fl, ← List.append_assoc, hc]
      have a1 := tm_al_tp hal.1.1
      have a2 := tm_al_tp h1.1.1
      refine od_r1T rfl rfl (rfl) ?_
      refine od_W.rn (pc' := 71) (ls' := [some (.ref _), some (.ref _), some (.ref _), some (.ref _), some (.ref _), some (.int _), some (.int _), some (.int _), some (.int _)]) (st' := [.ref _]) 1 rfl ?_
      refine od_rG rfl (od_cm_o hxn hA) rfl rfl ?_
      refine od_W.rn (pc' := 79) (ls' := [some (.ref _), some (.ref _), some (.ref _), some (.ref _), some (.ref _), some (.int _), some (.int _), some (.int _), some (.int _)]) (st' := [.int _, .int _, .ref _, .ref _]) 3 rfl ?_
      refine od_rV (as := [.ref a, .int (nI (tm_fl done).length), .int (nI ((tm_fl done).length + (tm_t t).length))]) rfl rfl rfl rfl (od_cm_r r3) rfl (Nat.le_of_ble_eq_true rfl) (Nat.le_of_ble_eq_true rfl) (lt_becomeExponent hS r3 ha (Ne.symm (od_ne na (by simp))) hb hx2 rfl rfl) (Nat.le_of_ble_eq_true rfl) (fun o M1 hq => ?_)
      refine od_Re.kp hq rfl (by simp) (g) (fun _ => trivial) (fun ρ1 f1 g1 b1 p1 k1 => ?_)
      have hx1 := hx2.fr (f1 a (od_nn na (by simp)))
      have hy1 := hy.fr (f1 b (od_nn nb (by simp)))
      have hz1 := hz.fr (f1 quo (od_nn nq (by simp)))
      have he1 := he.fr (f1 (x + 1) (by simp))
      have w1 : od_hl ρ1 (x + 3) (tm_fl (tm_tp t.1)) := by rw [tm_fl_tp hal.1.1]; exact p1
      have w2 : od_hl ρ1 (x + 1) (tm_fl (tm_tp u.1)) := by rw [tm_fl_tp h1.1.1]; exact he1
      refine od_W.rn (pc' := 83) (ls' := [some (.ref _), some (.ref _), some (.ref _), some (.ref _), some (.ref _), some (.int _), some (.int _), some (.int _), some (.int _)]) (st' := [.ref _]) 1 rfl ?_
      refine od_rG rfl (od_cm_o hxn hA) rfl rfl ?_
      refine od_W.rn (pc' := 87) (ls' := [some (.ref _), some (.ref _), some (.ref _), some (.ref _), some (.ref _), some (.int _), some (.int _), some (.int _), some (.int _)]) (st' := [.ref _, .ref _]) 1 rfl ?_
      refine od_rG rfl (od_cm_o hxn hA) rfl rfl ?_
      refine od_W.rn (pc' := 91) (ls' := [some (.ref _), some (.ref _), some (.ref _), some (.ref _), some (.ref _), some (.int _), some (.int _), some (.int _), some (.int _)]) (st' := [.ref _, .ref _, .ref _]) 1 rfl ?_
      refine od_rG rfl (od_cm_o hxn hA) rfl rfl ?_
      refine od_rSt (as := [.ref (x + 3), .ref (x + 1), .ref (x + 5)]) rfl rfl rfl rfl (Nat.le_of_ble_eq_true rfl) (Nat.le_of_ble_eq_true rfl) (lt_makeDifference hS r3 r1 r5 (by omega) (by omega) b1 a1 a2 w1 w2) (Nat.le_of_ble_eq_true rfl) (fun o M1 hq => ?_)
      refine od_Re.kp hq rfl (by simp) (g1) (fun _ => trivial) (fun ρ2 f2 g2 b2 p2 k2 => ?_)
      have hx3 := hx1.fr (f2 a (od_nn na (by simp)))
      have hy3 := hy1.fr (f2 b (od_nn nb (by simp)))
      have hz2 := hz1.fr (f2 quo (od_nn nq (by simp)))
      have he2 := he1.fr (f2 (x + 1) (by simp))
      refine od_W.rn (pc' := 99) (ls' := [some (.ref _), some (.ref _), some (.ref _), some (.ref _), some (.ref _), some (.int _), some (.int _), some (.int _), some (.int _)]) (st' := [.ref _, .ref _]) 2 rfl ?_
      refine od_rG rfl (od_cm_o hxn hA) rfl rfl ?_
      refine od_W.rn (pc' := 105) (ls' := [some (.ref _), some (.ref _), some (.ref _), some (.ref _), some (.ref _), some (.int _), some (.int _), some (.int _), some (.int _)]) (st' := [.int _, .ref _, .ref _, .ref _]) 2 rfl ?_
      refine od_rV (as := [.int (nI ((tm_fl done).length + (tm_t t).length))]) rfl rfl rfl rfl (od_cm_r ha) rfl (Nat.le_of_ble_eq_true rfl) (Nat.le_of_ble_eq_true rfl) (lt_coefficient hS ha b2 hx3 rfl) (Nat.le_of_ble_eq_true rfl) (fun o M1 hq => ?_)
      obtain ⟨rfl, rfl⟩ := hq
      refine od_K.ret ?_
      refine od_W.rn (pc' := 109) (ls' := [some (.ref _), some (.ref _), some (.ref _), some (.ref _), some (.ref _), some (.int _), some (.int _), some (.int _), some (.int _)]) (st' := [.long _, .ref _, .ref _]) 1 rfl ?_
      rw [nI_1000 huc]
      refine od_rV (as := [.ref (x + 5), .long (lN t.2)]) rfl rfl rfl rfl (od_cm_r hq0) rfl (Nat.le_of_ble_eq_true rfl) (Nat.le_of_ble_eq_true rfl) (lt_putTerm hS hq0 r5 (od_ne nq (by simp)) b2 hz2 p2 (by omega)) (Nat.le_of_ble_eq_true rfl) (fun o M1 hq => ?_)
      refine od_Re.kp hq rfl (by simp) (g2) (tm_ft_l) (fun ρ3 f3 g3 b3 p3 k3 => ?_)
      have hx4 := hx3.fr (f3 a (od_nn na (by simp)))
      have hy4 := hy3.fr (f3 b (od_nn nb (by simp)))
      have he3 := he2.fr (f3 (x + 1) (od_n1 (Ne.symm (od_ne nq (by simp)))))
      refine od_W.rn (pc' := 28) (ls' := [some (.ref _), some (.ref _), some (.ref _), some (.ref _), some (.ref _), some (.int _), some (.int _), some (.int _), some (.int _)]) (st' := []) 4 rfl ?_
      rw [e, nI_inc done.length, show done.length + 1 = (done ++ [t]).length by simp]
      exact ih (done ++ [t]) ρ3 _ _ hal.2 b3 g3 (by rw [tm_fl_snoc, List.append_assoc]; exact hx4) hy4 p3 he3
    · have e1 : sp_dv u (t :: todo) = ([], t :: todo) := by conv => lhs; unfold sp_dv; rw [if_neg hc]
      have hle : od_cond .gt (tm_cmp t.1 u.1) 0 = false := by rcases tm_cmp_is t.1 u.1 with z | z | z; rw [z]; rfl; rw [z]; rfl; exact absurd z hc
      have e2 : sp_quo (t :: todo) u us = sp_nu (sp_tm u us (t :: todo)) := by unfold sp_quo; rw [e1]; rfl
      have e3 : sp_rem (t :: todo) u us = sp_dif (t :: todo) (sp_ms u us (sp_tm u us (t :: todo))) := by unfold sp_rem; rw [e1]
      rw [e2, e3]
      refine od_r1F rfl (of_decide_eq_true rfl) (hle) ?_
      refine od_W.rn (pc' := 122) (ls' := [some (.ref _), some (.ref _), some (.ref _), some (.ref _), some (.ref _), some (.int _), some (.int _), some (.int _), some (.int _)]) (st' := []) 1 rfl ?_
      exact hend _
theorem lt_divide {ρ : od_Rm} (hS : od_SS S) (hA : od_DV M x) (hR : od_DVs S x) (ha : S a = true) (hb' : S b = true) (hq0 : S quo = true) (hr0 : S rem = true) (na : a ∉ od_DU x quo rem) (nb : b ∉ od_DU x quo rem) (nq : quo ∉ [rem, x + 1, x + 3, x + 5, x + 7, x + 9]) (nr : rem ∉ [x + 1, x + 3, x + 5, x + 7, x + 9]) (hb : od_Bd ρ) {u : tm_T} {ts us : List tm_T} (h1 : tm_al ts) (h2 : tm_al (u :: us)) (hx : od_hl ρ a (tm_fl ts)) (hy : od_hl ρ b (tm_fl (u :: us))) : od_W 4 41 0 (od_ent 41 [.ref x, .ref a, .ref b, .ref quo, .ref rem]) [] (od_cm S M ρ) (od_Re S M ρ (od_DU x quo rem) (tm_ft (tm_fl (sp_quo ts u us))) none (fun ρ' => od_hl ρ' quo (tm_fl (sp_quo ts u us)) ∧ od_hl ρ' rem (tm_fl (sp_rem ts u us)))) := by
  have e0 : od_ent 41 [.ref x, .ref a, .ref b, .ref quo, .ref rem] = [some (.ref x), some (.ref a), some (.ref b), some (.ref quo), some (.ref rem), none, none, none, none] := rfl
  rw [e0]
  have r1 : S (x + 1) = true := hR.2 0 (by omega)
  have hxn : od_no S x := hR.1
  have hy2 : od_hl ρ b ([] ++ (tm_t u ++ tm_fl us)) := hy
  refine od_W.rn (pc' := 2) (ls' := [some (.ref _), some (.ref _), some (.ref _), some (.ref _), some (.ref _), none, none, none, none]) (st' := [.int _, .ref _]) 2 rfl ?_
  refine od_rV (as := [.int (nI 0)]) rfl rfl rfl rfl (od_cm_r hb') rfl (Nat.le_of_ble_eq_true rfl) (Nat.le_of_ble_eq_true rfl) (lt_termEnd hS hb' hb h2.1 hy2 rfl) (Nat.le_of_ble_eq_true rfl) (fun o M1 hq => ?_)
  obtain ⟨rfl, rfl⟩ := hq
  refine od_K.ret ?_
  rw [Nat.zero_add]
  refine od_W.rn (pc' := 8) (ls' := [some (.ref _), some (.ref _), some (.ref _), some (.ref _), some (.ref _), some (.int _), none, none, none]) (st' := [.ref _]) 2 rfl ?_
  refine od_rG rfl (od_cm_o hxn hA) rfl rfl ?_
  refine od_W.rn (pc' := 15) (ls' := [some (.ref _), some (.ref _), some (.ref _), some (.ref _), some (.ref _), some (.int _), none, none, none]) (st' := [.int _, .int _, .ref _, .ref _]) 3 rfl ?_
  refine od_rV (as := [.ref b, .int (nI 0), .int (nI (tm_t u).length)]) rfl rfl rfl rfl (od_cm_r r1) rfl (Nat.le_of_ble_eq_true rfl) (Nat.le_of_ble_eq_true rfl) (lt_becomeExponent hS r1 hb' (Ne.symm (od_ne nb (by simp))) hb hy2 rfl (by omega)) (Nat.le_of_ble_eq_true rfl) (fun o M1 hq => ?_)
  refine od_Re.kp hq rfl (by simp) (od_fr0 ρ _) (fun _ => trivial) (fun ρ1 f1 g1 b1 p1 k1 => ?_)
  have hx1 := hx.fr (f1 a (od_nn na (by simp)))
  have hy1 := hy.fr (f1 b (od_nn nb (by simp)))
  refine od_W.rn (pc' := 19) (ls' := [some (.ref _), some (.ref _), some (.ref _), some (.ref _), some (.ref _), some (.int _), none, none, none]) (st' := [.ref _]) 1 rfl ?_
  refine od_rV (as := []) rfl rfl rfl rfl (od_cm_r hq0) rfl (Nat.le_of_ble_eq_true rfl) (Nat.le_of_ble_eq_true rfl) (lt_clear hS hq0 b1) (Nat.le_of_ble_eq_true rfl) (fun o M1 hq => ?_)
  refine od_Re.kp hq rfl (by simp) (g1) (fun _ => trivial) (fun ρ2 f2 g2 b2 p2 k2 => ?_)
  have hx3 := hx1.fr (f2 a (od_nn na (by simp)))
  have hy3 := hy1.fr (f2 b (od_nn nb (by simp)))
  have he3 := p1.fr (f2 (x + 1) (od_n1 (Ne.symm (od_ne nq (by simp)))))
  refine od_W.rn (pc' := 28) (ls' := [some (.ref _), some (.ref _), some (.ref _), some (.ref _), some (.ref _), some (.int _), some (.int _), some (.int _), none]) (st' := []) 4 rfl ?_
  have := cl_div_loop (M := M) (ρ0 := ρ) hS hA hR ha hb' hq0 hr0 na nb nq nr h2 ts [] ρ2 [] none h1 b2 g2 hx3 hy3 p2 he3
  rw [List.nil_append] at this
  exact this
end DIV
end
section
/-! Members of the sequence that leads to a limit. -/
def sp_dec (t : tm_T) : List Nat := if 1 < t.2 then tm_t (t.1, t.2 - 1) else []
def tm_la (ts : List tm_T) : tm_T := (ts.getLast?).getD ([], 0)
def sp_pr (ts : List tm_T) : List Nat := tm_fl ts.dropLast ++ sp_dec (tm_la ts)
def sp_bt (n : Nat) (e : List Nat) : List Nat := if n = 0 then [] else tm_t (sp_pr (tm_tp e), n)
def sp_mb (n : Nat) : Nat → List tm_T → List Nat
  | 0, _ => []
  | k + 1, ts => tm_fl ts.dropLast ++ (sp_dec (tm_la ts) ++ (if tm_k (tm_tp (tm_la ts).1) = 1 then sp_bt n (tm_la ts).1 else tm_t (sp_mb n k (tm_tp (tm_la ts).1), 1)))
def tm_cl : Nat → List Nat
  | 0 => []
  | o + 1 => [0, 1] ++ tm_cl o
theorem tm_la_snoc (ts : List tm_T) (t : tm_T) : tm_la (ts ++ [t]) = t := by unfold tm_la; rw [List.getLast?_concat]; rfl
theorem sp_pr_snoc (ts : List tm_T) (t : tm_T) : sp_pr (ts ++ [t]) = tm_fl ts ++ sp_dec t := by unfold sp_pr; rw [List.dropLast_concat, tm_la_snoc]
theorem sp_mb_snoc (n k : Nat) (ts : List tm_T) (t : tm_T) : sp_mb n (k + 1) (ts ++ [t]) = tm_fl ts ++ (sp_dec t ++ (if tm_k (tm_tp t.1) = 1 then sp_bt n t.1 else tm_t (sp_mb n k (tm_tp t.1), 1))) := by
  conv => lhs; unfold sp_mb
  rw [List.dropLast_concat, tm_la_snoc]
theorem sp_dec_W {t : tm_T} (h : tm_ok t) : tm_W (sp_dec t) := by
  have := h.2
  unfold tm_c at this
  unfold sp_dec
  split
  · exact tm_t_W ⟨h.1, by unfold tm_c; dsimp only; omega⟩
  · exact tm_nil
theorem sp_pr_W {ts : List tm_T} (h : tm_al ts) : tm_W (sp_pr ts) := by
  rcases tm_snoc ts with rfl | ⟨us, t, rfl⟩
  · exact tm_nil
  · rw [sp_pr_snoc]
    have := tm_al_app.mp h
    exact tm_append (tm_fl_W this.1) (sp_dec_W this.2.1)
theorem sp_bt_W {n : Nat} {e : List Nat} (hn : n ≤ 1000000) (h : tm_W e) : tm_W (sp_bt n e) := by
  unfold sp_bt
  split
  · exact tm_nil
  · exact tm_t_W ⟨sp_pr_W (tm_al_tp h), by unfold tm_c; dsimp only; omega⟩
theorem sp_mb_W {n : Nat} (hn : n ≤ 1000000) : ∀ (k : Nat) {ts : List tm_T}, tm_al ts → tm_W (sp_mb n k ts) := by
  intro k
  induction k with
  | zero => intro ts _; exact tm_nil
  | succ k ih =>
    intro ts h
    rcases tm_snoc ts with rfl | ⟨us, t, rfl⟩
    · exact tm_append tm_nil (tm_append tm_nil (tm_t_W ⟨ih trivial, by unfold tm_c; dsimp only; omega⟩))
    · have h2 := tm_al_app.mp h
      rw [sp_mb_snoc]
      refine tm_append (tm_fl_W h2.1) (tm_append (sp_dec_W h2.2.1) ?_)
      split
      · exact sp_bt_W hn h2.2.1.1
      · exact tm_t_W ⟨ih (tm_al_tp h2.2.1.1), by unfold tm_c; dsimp only; omega⟩
section MEM
variable {S : Nat → Bool} {M : od_M} {ρ0 : od_Rm} {a out : Nat}
theorem nI_c1 {c : Nat} (h : tm_c c) : (nI c - 1).toInt64 = lN (c - 1) := by
  unfold tm_c at h
  rw [show nI c - 1 = nI (c - 1) from nI_subI (a := 1) h.1]
  exact nI_1000 (by omega)
theorem lt_putDec {ρ : od_Rm} (hS : od_SS S) (ho : S out = true) (ha : S a = true) (na : out ≠ a) (hb : od_Bd ρ) {zs u z : List Nat} {t : tm_T} (ht : tm_ok t) (hz : od_hl ρ out zs) (hx : od_hl ρ a (u ++ (tm_t t ++ z))) {i j : Nat} (hi : i = u.length) (hj : j = i + (tm_t t).length) : od_W 2 25 0 (od_ent 25 [.ref out, .ref a, .int (nI i), .int (nI j), .long (lN (t.2 - 1))]) [] (od_cm S M ρ) (od_Re S M ρ [out] (tm_ft (zs ++ sp_dec t)) none (fun ρ' => od_hl ρ' out (zs ++ sp_dec t))) := by
  have hc := ht.2
  unfold tm_c at hc
  unfold sp_dec
  by_cases h : 1 < t.2
  · rw [if_pos h]
    exact lt_putTermAgain hS ho ha na hb hz hx hi hj (by omega) (by omega)
  · rw [if_neg h, List.append_nil]
    refine (lt_putTermAgain0 (by rw [show t.2 - 1 = 0 by omega]; exact (pk_lLE (a := 0) (b := 0) (by omega) (by omega)).mpr (by omega)) hb hz).deep (by omega) |>.mono fun o M' hh => ?_
    exact hh.mono (fun q h => h) ⟨fun _ => ⟨hz.le hb, hz.2⟩, fun _ => trivial⟩ (fun ρ' _ _ h => h)
theorem lt_putBefore {ρ : od_Rm} (hS : od_SS S) (ho : S out = true) (ha : S a = true) (na : out ≠ a) (hb : od_Bd ρ) {zs u z : List Nat} {es : List tm_T} {s : tm_T} (hs : tm_ok s) (hs0 : s.1 = []) (hz : od_hl ρ out zs) (hx : od_hl ρ a (u ++ (tm_fl es ++ (tm_t s ++ z)))) {i j : Nat} (hi : i = u.length) (hj : j = i + (tm_fl es).length + 3) : od_W 3 44 0 (od_ent 44 [.ref a, .int (nI i), .int (nI j), .ref out]) [] (od_cm S M ρ) (od_Re S M ρ [out] (tm_ft (zs ++ sp_pr (es ++ [s]))) none (fun ρ' => od_hl ρ' out (zs ++ sp_pr (es ++ [s])))) := by
  have e0 : od_ent 44 [.ref a, .int (nI i), .int (nI j), .ref out] = [some (.ref a), some (.int (nI i)), some (.int (nI j)), some (.ref out)] := rfl
  rw [e0, sp_pr_snoc, ← List.append_assoc]
  have hl3 : (tm_t s).length = 3 := by rw [tm_t_len, hs0]; rfl
  have ej : nI j - 3 = nI (j - 3) := nI_subI (a := 3) (by omega)
  have hx2 : od_hl ρ a ((u ++ tm_fl es) ++ (tm_t s ++ z)) := by rw [List.append_assoc]; exact hx
  refine od_W.rn (pc' := 6) (ls' := [some (.ref _), some (.int _), some (.int _), some (.ref _)]) (st' := [.int _, .int _, .ref _, .ref _]) 6 rfl ?_
  show od_W 3 44 6 [some (.ref a), some (.int (nI i)), some (.int (nI j)), some (.ref out)] [.int (nI j - 3), .int (nI i), .ref a, .ref out] (od_cm S M ρ) _
  rw [ej]
  refine od_rV (as := [.ref a, .int (nI i), .int (nI (j - 3))]) rfl rfl rfl rfl (od_cm_r ho) rfl (Nat.le_of_ble_eq_true rfl) (Nat.le_of_ble_eq_true rfl) (lt_putPart hS ho ha na hb hz hx hi (by omega)) (Nat.le_of_ble_eq_true rfl) (fun o M1 hq => ?_)
  refine od_Re.kp hq rfl (by simp) (od_fr0 ρ _) (tm_ft_l) (fun ρ1 f1 g1 b1 p1 k1 => ?_)
  have hx3 := hx2.fr (f1 a (od_n1 (Ne.symm na)))
  refine od_W.rn (pc' := 17) (ls' := [some (.ref _), some (.int _), some (.int _), some (.ref _)]) (st' := [.int _, .ref _, .int _, .int _, .ref _, .ref _]) 8 rfl ?_
  refine od_rV (as := [.int (nI j)]) rfl rfl rfl rfl (od_cm_r ha) rfl (Nat.le_of_ble_eq_true rfl) (Nat.le_of_ble_eq_true rfl) (lt_coefficient hS ha b1 hx3 (by rw [hj, hi, hl3, List.length_append])) (Nat.le_of_ble_eq_true rfl) (fun o M1 hq => ?_)
  obtain ⟨rfl, rfl⟩ := hq
  refine od_K.ret ?_
  refine od_W.rn (pc' := 23) (ls' := [some (.ref _), some (.int _), some (.int _), some (.ref _)]) (st' := [.long _, .int _, .int _, .ref _, .ref _]) 3 rfl ?_
  show od_W 3 44 23 [some (.ref a), some (.int (nI i)), some (.int (nI j)), some (.ref out)] [.long (nI s.2 - 1).toInt64, .int (nI j), .int (nI j - 3), .ref a, .ref out] (od_cm S M ρ1) _
  rw [ej, nI_c1 hs.2]
  refine od_rV (as := [.ref a, .int (nI (j - 3)), .int (nI j), .long (lN (s.2 - 1))]) rfl rfl rfl rfl (od_cm_r ho) rfl (Nat.le_of_ble_eq_true rfl) (Nat.le_of_ble_eq_true rfl) (lt_putDec hS ho ha na b1 hs p1 hx3 (by rw [hj, hi, List.length_append]; omega) (by rw [hl3]; omega)) (Nat.le_of_ble_eq_true rfl) (fun o M1 hq => ?_)
  refine od_Re.kp hq rfl (by simp) (g1) (fun z => z) (fun ρ2 f2 g2 b2 p2 k2 => ?_)
  refine od_W.fin rfl ?_
  exact od_Re.yes g2 b2 k2 p2
theorem cl_mb_close (hS : od_SS S) (ho : S out = true) {n f t w7 : Option Value} {oc : Nat} (hob : oc ≤ 60) : ∀ (m i : Nat) (ρ : od_Rm) (zs : List Nat), i + m = oc → od_Bd ρ → (∀ q, q ∉ [out] → ρ q = ρ0 q) → od_hl ρ out zs → od_W 4 45 128 [some (.ref a), n, some (.ref out), f, t, some (.int (nI oc)), some (.int (nI i)), w7] [] (od_cm S M ρ) (od_Re S M ρ0 [out] (tm_ft (zs ++ tm_cl m)) none (fun ρ' => od_hl ρ' out (zs ++ tm_cl m))) := by
  intro m
  induction m with
  | zero =>
    intro i ρ zs hi hb g hz
    rw [show tm_cl 0 = [] from rfl, List.append_nil]
    refine od_W.rn (pc' := 132) (ls' := [some (.ref _), _, some (.ref _), _, _, some (.int _), some (.int _), _]) (st' := [.int _, .int _]) 2 rfl ?_
    refine od_r2T rfl rfl (decide_eq_true (nI_le (by omega) (by omega))) ?_
    refine od_W.fin rfl ?_
    exact od_Re.yes g hb ⟨hz.le hb, hz.2⟩ hz
  | succ m ih =>
    intro i ρ zs hi hb g hz
    rw [show tm_cl (m + 1) = [0, 1] ++ tm_cl m from rfl, ← List.append_assoc]
    refine od_W.rn (pc' := 132) (ls' := [some (.ref _), _, some (.ref _), _, _, some (.int _), some (.int _), _]) (st' := [.int _, .int _]) 2 rfl ?_
    refine od_r2F rfl (of_decide_eq_true rfl) (decide_eq_false (nI_ge (by omega) (by omega))) ?_
    refine od_W.rn (pc' := 137) (ls' := [some (.ref _), _, some (.ref _), _, _, some (.int _), some (.int _), _]) (st' := [.long _, .ref _]) 2 rfl ?_
    refine od_rV (as := [.long (lN 1)]) rfl rfl rfl rfl (od_cm_r ho) rfl (Nat.le_of_ble_eq_true rfl) (Nat.le_of_ble_eq_true rfl) (lt_closeTerm hS ho hb hz (by omega)) (Nat.le_of_ble_eq_true rfl) (fun o M1 hq => ?_)
    refine od_Re.kp hq rfl (by simp) (g) (tm_ft_l) (fun ρ1 f1 g1 b1 p1 k1 => ?_)
    refine od_W.rn (pc' := 128) (ls' := [some (.ref _), _, some (.ref _), _, _, some (.int _), some (.int _), _]) (st' := []) 2 rfl ?_
    rw [nI_inc i]
    exact ih (i + 1) ρ1 _ (by omega) b1 g1 p1
theorem cl_mb_end {ρ : od_Rm} (hS : od_SS S) (ho : S out = true) (ha : S a = true) (na : out ≠ a) {n oc i j : Nat} (hn : n ≤ 1000000) (hob : oc ≤ 60) {zs u z : List Nat} {es : List tm_T} {s : tm_T} {lv w7 : Option Value} (hes : tm_al es) (hs : tm_ok s) (hs0 : s.1 = []) (hb : od_Bd ρ) (g : ∀ q, q ∉ [out] → ρ q = ρ0 q) (hz : od_hl ρ out zs) (hx : od_hl ρ a (u ++ (tm_fl es ++ (tm_t s ++ z)))) (hi : i = u.length) (hj : j = i + (tm_fl es).length + 3) : od_W 4 45 103 [some (.ref a), some (.int (nI n)), some (.ref out), some (.int (nI i)), some (.int (nI j)), some (.int (nI oc)), lv, w7] [] (od_cm S M ρ) (od_Re S M ρ0 [out] (tm_ft (zs ++ (sp_bt n (tm_fl (es ++ [s])) ++ tm_cl oc))) none (fun ρ' => od_hl ρ' out (zs ++ (sp_bt n (tm_fl (es ++ [s])) ++ tm_cl oc)))) := by
  have hal : tm_al (es ++ [s]) := tm_al_app.mpr ⟨hes, hs, trivial⟩
  unfold sp_bt
  rw [tm_tp_fl hal]
  by_cases h0 : n = 0
  · rw [if_pos h0, List.nil_append]
    refine od_W.rn (pc' := 104) (ls' := [some (.ref _), some (.int _), some (.ref _), some (.int _), some (.int _), some (.int _), _, _]) (st' := [.int _]) 1 rfl ?_
    refine od_r1T rfl rfl (decide_eq_true (by rw [h0]; exact Int32.le_refl _)) ?_
    refine od_W.rn (pc' := 128) (ls' := [some (.ref _), some (.int _), some (.ref _), some (.int _), some (.int _), some (.int _), some (.int _), _]) (st' := []) 2 rfl ?_
    exact cl_mb_close hS ho hob oc 0 ρ zs (by omega) hb g hz
  · rw [if_neg h0]
    have e : zs ++ (tm_t (sp_pr (es ++ [s]), n) ++ tm_cl oc) = (((zs ++ [1]) ++ sp_pr (es ++ [s])) ++ [0, n]) ++ tm_cl oc := by simp [tm_t]
    rw [e]
    refine od_W.rn (pc' := 104) (ls' := [some (.ref _), some (.int _), some (.ref _), some (.int _), some (.int _), some (.int _), _, _]) (st' := [.int _]) 1 rfl ?_
    refine od_r1F rfl (of_decide_eq_true rfl) (decide_eq_false (nI_ge (a := 0) (by omega) (by omega))) ?_
    refine od_W.rn (pc' := 108) (ls' := [some (.ref _), some (.int _), some (.ref _), some (.int _), some (.int _), some (.int _), _, _]) (st' := [.ref _]) 1 rfl ?_
    refine od_rV (as := []) rfl rfl rfl rfl (od_cm_r ho) rfl (Nat.le_of_ble_eq_true rfl) (Nat.le_of_ble_eq_true rfl) (lt_openTerm hS ho hb hz) (Nat.le_of_ble_eq_true rfl) (fun o M1 hq => ?_)
    refine od_Re.kp hq rfl (by simp) (g) (fun z => tm_ft_l (tm_ft_l (tm_ft_l z))) (fun ρ1 f1 g1 b1 p1 k1 => ?_)
    have hx1 := hx.fr (f1 a (od_n1 (Ne.symm na)))
    refine od_W.rn (pc' := 116) (ls' := [some (.ref _), some (.int _), some (.ref _), some (.int _), some (.int _), some (.int _), _, _]) (st' := [.ref _, .int _, .int _, .ref _]) 4 rfl ?_
    refine od_rSt (as := [.ref a, .int (nI i), .int (nI j), .ref out]) rfl rfl rfl rfl (Nat.le_of_ble_eq_true rfl) (Nat.le_of_ble_eq_true rfl) (lt_putBefore hS ho ha na b1 hs hs0 p1 hx1 hi hj) (Nat.le_of_ble_eq_true rfl) (fun o M1 hq => ?_)
    refine od_Re.kp hq rfl (by simp) (g1) (fun z => tm_ft_l (tm_ft_l z)) (fun ρ2 f2 g2 b2 p2 k2 => ?_)
    refine od_W.rn (pc' := 122) (ls' := [some (.ref _), some (.int _), some (.ref _), some (.int _), some (.int _), some (.int _), _, _]) (st' := [.long _, .ref _]) 3 rfl ?_
    rw [nI_1000 hn]
    refine od_rV (as := [.long (lN n)]) rfl rfl rfl rfl (od_cm_r ho) rfl (Nat.le_of_ble_eq_true rfl) (Nat.le_of_ble_eq_true rfl) (lt_closeTerm hS ho b2 p2 (by omega)) (Nat.le_of_ble_eq_true rfl) (fun o M1 hq => ?_)
    refine od_Re.kp hq rfl (by simp) (g2) (tm_ft_l) (fun ρ3 f3 g3 b3 p3 k3 => ?_)
    refine od_W.rn (pc' := 128) (ls' := [some (.ref _), some (.int _), some (.ref _), some (.int _), some (.int _), some (.int _), some (.int _), _]) (st' := []) 2 rfl ?_
    exact cl_mb_close hS ho hob oc 0 ρ3 _ (by omega) b3 g3 p3
set_option maxRecDepth 100000 in
theorem cl_mb_loop (hS : od_SS S) (ho : S out = true) (ha : S a = true) (na : out ≠ a) {n : Nat} (hn : n ≤ 1000000) : ∀ (k : Nat) (ts : List tm_T) (t : tm_T) (u v : List Nat) (ρ : od_Rm) (zs : List Nat) (oc i j : Nat) (w7 : Option Value), tm_al ts → tm_ok t → t.1 ≠ [] → (tm_t t).length ≤ k → oc ≤ u.length → 2 * oc ≤ v.length → od_Bd ρ → (∀ q, q ∉ [out] → ρ q = ρ0 q) → od_hl ρ out zs → od_hl ρ a (u ++ (tm_fl ts ++ (tm_t t ++ v))) → i = u.length → j = i + (tm_fl ts).length + (tm_t t).length → od_W 4 45 18 [some (.ref a), some (.int (nI n)), some (.ref out), some (.int (nI i)), some (.int (nI j)), some (.int (nI oc)), some (.int (nI oc)), w7] [] (od_cm S M ρ) (od_Re S M ρ0 [out] (tm_ft (zs ++ (sp_mb n k (ts ++ [t]) ++ tm_cl oc))) none (fun ρ' => od_hl ρ' out (zs ++ (sp_mb n k (ts ++ [t]) ++ tm_cl oc)))) := by
  intro k
  induction k with
  | zero => intro ts t u v ρ zs oc i j w7 _ _ _ hk; rw [tm_t_len] at hk; omega
  | succ k ih =>
    intro ts t u v ρ zs oc i j w7 hal ht ht0 hk hou hov hb g hz hx hi hj
    have hl := hx.n
    have h60 := hx.le hb
    rw [List.length_append, List.length_append, List.length_append] at hl h60
    rw [sp_mb_snoc]
    have hat := hx.at
    rw [tm_at_app, ← List.append_assoc, tm_at_app, Nat.zero_add, ← hi] at hat
    have hx2 : od_hl ρ a ((u ++ tm_fl ts) ++ (tm_t t ++ v)) := by rw [List.append_assoc]; exact hx
    have hW := ht.1
    obtain ⟨ee, he1, he2⟩ := tm_terms hW
    rw [tm_t_len] at hl h60 hk hj
    refine od_W.rn (pc' := 22) (ls' := [some (.ref _), some (.int _), some (.ref _), some (.int _), some (.int _), some (.int _), some (.int _), _]) (st' := [.int _, .int _]) 2 rfl ?_
    refine od_r2F rfl (of_decide_eq_true rfl) (decide_eq_false (nI_ge (b := 20) (by omega) (by omega))) ?_
    refine od_W.rn (pc' := 29) (ls' := [some (.ref _), some (.int _), some (.ref _), some (.int _), some (.int _), some (.int _), some (.int _), _]) (st' := [.int _, .int _, .ref _]) 3 rfl ?_
    refine od_rV (as := [.int (nI i), .int (nI j)]) rfl rfl rfl rfl (od_cm_r ha) rfl (Nat.le_of_ble_eq_true rfl) (Nat.le_of_ble_eq_true rfl) (ct_lastTerm hS ha (by omega) hal ht hat.2.1 (by rw [List.length_append, tm_t_len, hj]; omega)) (Nat.le_of_ble_eq_true rfl) (fun o M1 hq => ?_)
    obtain ⟨rfl, rfl⟩ := hq
    refine od_K.ret ?_
    refine od_W.rn (pc' := 39) (ls' := [some (.ref _), some (.int _), some (.ref _), some (.int _), some (.int _), some (.int _), some (.int _), some (.int _)]) (st' := [.int _, .int _, .ref _, .ref _]) 5 rfl ?_
    refine od_rV (as := [.ref a, .int (nI i), .int (nI (i + (tm_fl ts).length))]) rfl rfl rfl rfl (od_cm_r ho) rfl (Nat.le_of_ble_eq_true rfl) (Nat.le_of_ble_eq_true rfl) (lt_putPart hS ho ha na hb hz hx hi rfl) (Nat.le_of_ble_eq_true rfl) (fun o M1 hq => ?_)
    have eX : zs ++ (tm_fl ts ++ (sp_dec t ++ (if tm_k (tm_tp t.1) = 1 then sp_bt n t.1 else tm_t (sp_mb n k (tm_tp t.1), 1))) ++ tm_cl oc) = ((zs ++ tm_fl ts) ++ sp_dec t) ++ ((if tm_k (tm_tp t.1) = 1 then sp_bt n t.1 else tm_t (sp_mb n k (tm_tp t.1), 1)) ++ tm_cl oc) := by simp
    rw [eX]
    refine od_Re.kp hq rfl (by simp) (g) (fun z => tm_ft_l (tm_ft_l z)) (fun ρ1 f1 g1 b1 p1 k1 => ?_)
    have hx3 := hx2.fr (f1 a (od_n1 (Ne.symm na)))
    refine od_W.rn (pc' := 51) (ls' := [some (.ref _), some (.int _), some (.ref _), some (.int _), some (.int _), some (.int _), some (.int _), some (.int _)]) (st' := [.int _, .ref _, .int _, .int _, .ref _, .ref _]) 6 rfl ?_
    refine od_rV (as := [.int (nI j)]) rfl rfl rfl rfl (od_cm_r ha) rfl (Nat.le_of_ble_eq_true rfl) (Nat.le_of_ble_eq_true rfl) (lt_coefficient hS ha b1 hx3 (by rw [tm_t_len, List.length_append]; omega)) (Nat.le_of_ble_eq_true rfl) (fun o M1 hq => ?_)
    obtain ⟨rfl, rfl⟩ := hq
    refine od_K.ret ?_
    refine od_W.rn (pc' := 57) (ls' := [some (.ref _), some (.int _), some (.ref _), some (.int _), some (.int _), some (.int _), some (.int _), some (.int _)]) (st' := [.long _, .int _, .int _, .ref _, .ref _]) 3 rfl ?_
    show od_W 4 45 57 [some (.ref a), some (.int (nI n)), some (.ref out), some (.int (nI i)), some (.int (nI j)), some (.int (nI oc)), some (.int (nI oc)), some (.int (nI (i + (tm_fl ts).length)))] [.long (nI t.2 - 1).toInt64, .int (nI j), .int (nI (i + (tm_fl ts).length)), .ref a, .ref out] (od_cm S M ρ1) _
    rw [nI_c1 ht.2]
    refine od_rV (as := [.ref a, .int (nI (i + (tm_fl ts).length)), .int (nI j), .long (lN (t.2 - 1))]) rfl rfl rfl rfl (od_cm_r ho) rfl (Nat.le_of_ble_eq_true rfl) (Nat.le_of_ble_eq_true rfl) (lt_putDec hS ho ha na b1 ht p1 hx3 (by rw [List.length_append]; omega) (by rw [tm_t_len]; omega)) (Nat.le_of_ble_eq_true rfl) (fun o M1 hq => ?_)
    refine od_Re.kp hq rfl (by simp) (g1) (fun z => tm_ft_l z) (fun ρ2 f2 g2 b2 p2 k2 => ?_)
    have hx4 := hx3.fr (f2 a (od_n1 (Ne.symm na)))
    have hx5 : od_hl ρ2 a ((u ++ tm_fl ts ++ [1]) ++ (t.1 ++ ([0, t.2] ++ v))) := by rw [show (u ++ tm_fl ts ++ [1]) ++ (t.1 ++ ([0, t.2] ++ v)) = (u ++ tm_fl ts) ++ (tm_t t ++ v) by simp [tm_t]]; exact hx4
    refine od_W.rn (pc' := 74) (ls' := [some (.ref _), some (.int _), some (.ref _), some (.int _), some (.int _), some (.int _), some (.int _), some (.int _)]) (st' := [.int _, .int _]) 10 rfl ?_
    have e1 : nI (i + (tm_fl ts).length) + 1 = nI (i + (tm_fl ts).length + 1) := nI_1 _
    have e2 : nI j - 2 = nI (j - 2) := nI_subI (a := 2) (by omega)
    show od_W 4 45 74 [some (.ref a), some (.int (nI n)), some (.ref out), some (.int (nI (i + (tm_fl ts).length) + 1)), some (.int (nI j - 2)), some (.int (nI oc)), some (.int (nI oc)), some (.int (nI (i + (tm_fl ts).length)))] [.int (nI j - 2), .int (nI (i + (tm_fl ts).length) + 1)] (od_cm S M ρ2) _
    rw [e1, e2]
    have hpos : 0 < t.1.length := List.length_pos_iff.mpr ht0
    rcases tm_snoc ee with rfl | ⟨es, s, rfl⟩
    · exact absurd he1 ht0
    · have ha2 := tm_al_app.mp he2
      have etp : tm_tp t.1 = es ++ [s] := by rw [he1, tm_tp_fl he2]
      have hlen1 : t.1.length = (tm_fl es).length + (tm_t s).length := by rw [he1, tm_fl_snoc, List.length_append]
      have hx6 : od_hl ρ2 a ((u ++ tm_fl ts ++ [1]) ++ (tm_fl es ++ (tm_t s ++ ([0, t.2] ++ v)))) := by
        have e7 : tm_fl es ++ (tm_t s ++ ([0, t.2] ++ v)) = t.1 ++ ([0, t.2] ++ v) := by rw [he1, tm_fl_snoc, List.append_assoc]
        rw [e7]; exact hx5
      have hat6 := (tm_at_app.mp hx6.at).2
      rw [← List.append_assoc, tm_at_app, Nat.zero_add] at hat6
      have hu2 : (u ++ tm_fl ts ++ [1]).length = i + (tm_fl ts).length + 1 := by rw [List.length_append, List.length_append, hi]; rfl
      rw [hu2] at hat6
      refine od_r2F rfl (of_decide_eq_true rfl) (decide_eq_false (nI_ge (by omega) (by omega))) ?_
      refine od_W.rn (pc' := 81) (ls' := [some (.ref _), some (.int _), some (.ref _), some (.int _), some (.int _), some (.int _), some (.int _), some (.int _)]) (st' := [.int _, .int _, .ref _]) 3 rfl ?_
      refine od_rV (as := [.int (nI (i + (tm_fl ts).length + 1)), .int (nI (j - 2))]) rfl rfl rfl rfl (od_cm_r ha) rfl (Nat.le_of_ble_eq_true rfl) (Nat.le_of_ble_eq_true rfl) (ct_endsInNumber hS ha (by omega) ha2.1 ha2.2.1 hat6.1 (by rw [List.length_append, ← hlen1]; omega)) (Nat.le_of_ble_eq_true rfl) (fun o M1 hq => ?_)
      obtain ⟨rfl, rfl⟩ := hq
      refine od_K.ret ?_
      rw [etp, tm_k_snoc]
      by_cases hs0 : s.1 = []
      · rw [if_pos hs0, if_pos hs0, if_pos rfl]
        have hl3 : (tm_t s).length = 3 := by rw [tm_t_len, hs0]; rfl
        refine od_r1F rfl (of_decide_eq_true rfl) (rfl) ?_
        refine od_W.rn (pc' := 103) (ls' := [some (.ref _), some (.int _), some (.ref _), some (.int _), some (.int _), some (.int _), some (.int _), some (.int _)]) (st' := []) 1 rfl ?_
        rw [he1]
        exact cl_mb_end hS ho ha na hn (by omega) ha2.1 ha2.2.1 hs0 b2 g2 p2 hx6 hu2.symm (by omega)
      · rw [if_neg hs0, if_neg hs0, if_neg (by omega)]
        have eY : (zs ++ tm_fl ts ++ sp_dec t) ++ (tm_t (sp_mb n k (es ++ [s]), 1) ++ tm_cl oc) = ((zs ++ tm_fl ts ++ sp_dec t) ++ [1]) ++ (sp_mb n k (es ++ [s]) ++ tm_cl (oc + 1)) := by simp [tm_t, tm_cl]
        rw [eY]
        refine od_r1T rfl rfl (rfl) ?_
        refine od_W.rn (pc' := 91) (ls' := [some (.ref _), some (.int _), some (.ref _), some (.int _), some (.int _), some (.int _), some (.int _), some (.int _)]) (st' := [.ref _]) 1 rfl ?_
        refine od_rV (as := []) rfl rfl rfl rfl (od_cm_r ho) rfl (Nat.le_of_ble_eq_true rfl) (Nat.le_of_ble_eq_true rfl) (lt_openTerm hS ho b2 p2) (Nat.le_of_ble_eq_true rfl) (fun o M1 hq => ?_)
        refine od_Re.kp hq rfl (by simp) (g2) (tm_ft_l) (fun ρ3 f3 g3 b3 p3 k3 => ?_)
        have hx7 := hx6.fr (f3 a (od_n1 (Ne.symm na)))
        refine od_W.rn (pc' := 18) (ls' := [some (.ref _), some (.int _), some (.ref _), some (.int _), some (.int _), some (.int _), some (.int _), some (.int _)]) (st' := []) 3 rfl ?_
        rw [nI_inc oc]
        exact ih es s (u ++ tm_fl ts ++ [1]) ([0, t.2] ++ v) ρ3 _ (oc + 1) _ _ _ ha2.1 ha2.2.1 hs0 (by omega) (by rw [hu2]; omega) (by simp; omega) b3 g3 p3 hx7 hu2.symm (by omega)
/-- the member of number n, of a row -/
def sp_mem (n : Nat) (ts : List tm_T) : List Nat := sp_mb n (tm_fl ts).length ts
theorem lt_makeMember {ρ : od_Rm} (hS : od_SS S) (ho : S out = true) (ha : S a = true) (na : out ≠ a) {n : Nat} (hn : n ≤ 1000000) (hb : od_Bd ρ) {ts : List tm_T} (hal : tm_al ts) (hk : tm_k ts = 2) (hx : od_hl ρ a (tm_fl ts)) : od_W 4 45 0 (od_ent 45 [.ref a, .int (nI n), .ref out]) [] (od_cm S M ρ) (od_Re S M ρ [out] (tm_ft (sp_mem n ts)) none (fun ρ' => od_hl ρ' out (sp_mem n ts))) := by
  have e0 : od_ent 45 [.ref a, .int (nI n), .ref out] = [some (.ref a), some (.int (nI n)), some (.ref out), none, none, none, none, none] := rfl
  rw [e0]
  rcases tm_snoc ts with rfl | ⟨us, t, rfl⟩
  · exact absurd hk (by decide)
  · have ha2 := tm_al_app.mp hal
    have ht0 : t.1 ≠ [] := by
      intro z
      rw [tm_k_snoc, if_pos z] at hk
      omega
    refine od_W.rn (pc' := 1) (ls' := [some (.ref _), some (.int _), some (.ref _), none, none, none, none, none]) (st' := [.ref _]) 1 rfl ?_
    refine od_rV (as := []) rfl rfl rfl rfl (od_cm_r ho) rfl (Nat.le_of_ble_eq_true rfl) (Nat.le_of_ble_eq_true rfl) (lt_clear hS ho hb) (Nat.le_of_ble_eq_true rfl) (fun o M1 hq => ?_)
    refine od_Re.kp hq rfl (by simp) (od_fr0 ρ _) (fun _ => trivial) (fun ρ1 f1 g1 b1 p1 k1 => ?_)
    have hx1 := hx.fr (f1 a (od_n1 (Ne.symm na)))
    have hx2 : od_hl ρ1 a ([] ++ (tm_fl us ++ (tm_t t ++ []))) := by rw [List.nil_append, List.append_nil, ← tm_fl_snoc]; exact hx1
    refine od_W.rn (pc' := 7) (ls' := [some (.ref _), some (.int _), some (.ref _), some (.int _), none, none, none, none]) (st' := [.ref _]) 3 rfl ?_
    refine od_gL rfl rfl (ha) (hx1.n) ?_
    refine od_W.rn (pc' := 18) (ls' := [some (.ref _), some (.int _), some (.ref _), some (.int _), some (.int _), some (.int _), some (.int _), none]) (st' := []) 5 rfl ?_
    have := cl_mb_loop (M := M) (ρ0 := ρ) hS ho ha na hn (tm_fl (us ++ [t])).length us t [] [] ρ1 [] 0 0 (tm_fl (us ++ [t])).length none ha2.1 ha2.2.1 ht0 (by rw [tm_fl_snoc, List.length_append]; omega) (by omega) (by simp) b1 g1 p1 hx2 rfl (by rw [tm_fl_snoc, List.length_append]; omega)
    rw [List.nil_append, show tm_cl 0 = [] from rfl, List.append_nil] at this
    exact this
end MEM
end
section
/-! Steps: members until a successor; how the rows grow on the way. -/
def sp_dct (t : tm_T) : List tm_T := if 1 < t.2 then [(t.1, t.2 - 1)] else []
theorem sp_dct_fl (t : tm_T) : tm_fl (sp_dct t) = sp_dec t := by
  unfold sp_dct sp_dec
  split
  · exact tm_fl_one _
  · rfl
theorem sp_dct_al {t : tm_T} (h : tm_ok t) : tm_al (sp_dct t) := by
  have := h.2
  unfold tm_c at this
  unfold sp_dct
  split
  · exact ⟨⟨h.1, by unfold tm_c; dsimp only; omega⟩, trivial⟩
  · exact trivial
def sp_lt (n k : Nat) (t : tm_T) : tm_T := if tm_k (tm_tp t.1) = 1 then (sp_pr (tm_tp t.1), n) else (sp_mb n k (tm_tp t.1), 1)
theorem sp_lt_ok {n k : Nat} {t : tm_T} (h1 : 1 ≤ n) (hn : n ≤ 1000000) (h : tm_ok t) : tm_ok (sp_lt n k t) := by
  unfold sp_lt
  split
  · exact ⟨sp_pr_W (tm_al_tp h.1), h1, hn⟩
  · exact ⟨sp_mb_W hn k (tm_al_tp h.1), by unfold tm_c; dsimp only; omega⟩
theorem sp_mb_fl {n k : Nat} (h1 : 1 ≤ n) (us : List tm_T) (t : tm_T) : sp_mb n (k + 1) (us ++ [t]) = tm_fl ((us ++ sp_dct t) ++ [sp_lt n k t]) := by
  rw [sp_mb_snoc, tm_fl_snoc, tm_fl_app, sp_dct_fl, List.append_assoc]
  congr 2
  unfold sp_lt sp_bt
  split
  · rw [if_neg (by omega)]
  · rfl
theorem sp_mb_tp {n k : Nat} (h1 : 1 ≤ n) (hn : n ≤ 1000000) {us : List tm_T} {t : tm_T} (h : tm_al (us ++ [t])) : tm_tp (sp_mb n (k + 1) (us ++ [t])) = (us ++ sp_dct t) ++ [sp_lt n k t] := by
  have h2 := tm_al_app.mp h
  have h3 : tm_al [sp_lt n k t] := ⟨sp_lt_ok h1 hn h2.2.1, trivial⟩
  rw [sp_mb_fl h1]
  exact tm_tp_fl (tm_al_app.mpr ⟨tm_al_app.mpr ⟨h2.1, sp_dct_al h2.2.1⟩, h3⟩)
def st_G : Nat → List tm_T → Prop
  | 0, _ => False
  | k + 1, ts => (tm_la ts).1 ≠ [] ∧ (2 ≤ (tm_la ts).2 ∨ ((tm_la ts).2 = 1 ∧ tm_k (tm_tp (tm_la ts).1) = 2 ∧ st_G k (tm_tp (tm_la ts).1)))
def st_H : Nat → List tm_T → Prop
  | 0, _ => False
  | k + 1, ts => (tm_la ts).1 ≠ [] ∧ (tm_la ts).2 = 1 ∧ ((tm_k (tm_tp (tm_la ts).1) = 1 ∧ 2 ≤ tm_n (tm_tp (tm_la ts).1)) ∨ (tm_k (tm_tp (tm_la ts).1) = 2 ∧ st_H k (tm_tp (tm_la ts).1)))
theorem tm_la_k {ts : List tm_T} (h : (tm_la ts).1 ≠ []) : tm_k ts = 2 := by
  rcases tm_snoc ts with rfl | ⟨us, t, rfl⟩
  · exact absurd rfl h
  · rw [tm_la_snoc] at h
    rw [tm_k_snoc, if_neg h]
theorem st_G_k {k : Nat} {ts : List tm_T} (h : st_G k ts) : tm_k ts = 2 := by
  cases k with
  | zero => exact h.elim
  | succ k => exact tm_la_k h.1
theorem st_H_k {k : Nat} {ts : List tm_T} (h : st_H k ts) : tm_k ts = 2 := by
  cases k with
  | zero => exact h.elim
  | succ k => exact tm_la_k h.1
theorem tm_k_ne {e : List Nat} (h : tm_k (tm_tp e) ≠ 0) : e ≠ [] := by
  rintro rfl
  exact h rfl
theorem tm_k_le (ts : List tm_T) : tm_k ts = 0 ∨ tm_k ts = 1 ∨ tm_k ts = 2 := by
  rcases tm_snoc ts with rfl | ⟨us, t, rfl⟩
  · exact Or.inl rfl
  · rw [tm_k_snoc]
    split
    · exact Or.inr (Or.inl rfl)
    · exact Or.inr (Or.inr rfl)
theorem tm_k_0 {ts : List tm_T} (h : tm_k ts = 0) : ts = [] := by
  rcases tm_snoc ts with rfl | ⟨us, t, rfl⟩
  · rfl
  · rw [tm_k_snoc] at h
    split at h <;> omega
theorem tm_k_snoc1 {ts : List tm_T} (h : tm_k ts = 1) : ∃ es s, ts = es ++ [s] ∧ s.1 = [] := by
  rcases tm_snoc ts with rfl | ⟨us, t, rfl⟩
  · exact absurd h (by decide)
  · refine ⟨us, t, rfl, ?_⟩
    rw [tm_k_snoc] at h
    split at h
    · assumption
    · omega
theorem tm_k_snoc2 {ts : List tm_T} (h : tm_k ts = 2) : ∃ es s, ts = es ++ [s] ∧ s.1 ≠ [] := by
  rcases tm_snoc ts with rfl | ⟨us, t, rfl⟩
  · exact absurd h (by decide)
  · refine ⟨us, t, rfl, ?_⟩
    rw [tm_k_snoc] at h
    split at h
    · omega
    · assumption
theorem st_1 {n : Nat} (h2 : 2 ≤ n) (hn : n ≤ 1000000) : ∀ (k : Nat) (ts : List tm_T), tm_al ts → tm_k ts = 2 → (tm_fl ts).length ≤ k → (tm_k (tm_tp (sp_mb n k ts)) = 1 ∧ tm_n (tm_tp (sp_mb n k ts)) = n) ∨ (∃ j, st_G j (tm_tp (sp_mb n k ts))) ∨ (∃ j, st_H j (tm_tp (sp_mb n k ts))) := by
  intro k
  induction k with
  | zero =>
    intro ts _ hk hl
    obtain ⟨us, t, rfl, _⟩ := tm_k_snoc2 hk
    rw [tm_fl_snoc, List.length_append, tm_t_len] at hl
    omega
  | succ k ih =>
    intro ts hal hk hl
    obtain ⟨us, t, rfl, ht0⟩ := tm_k_snoc2 hk
    have ha2 := tm_al_app.mp hal
    rw [tm_fl_snoc, List.length_append, tm_t_len] at hl
    rw [sp_mb_tp (by omega) hn hal, tm_k_snoc, tm_n_snoc]
    have hW := ha2.2.1.1
    have hne : tm_tp t.1 ≠ [] := by
      intro z
      have := tm_fl_tp hW
      rw [z] at this
      exact ht0 this.symm
    by_cases h1 : tm_k (tm_tp t.1) = 1
    · have e1 : sp_lt n k t = (sp_pr (tm_tp t.1), n) := if_pos h1
      rw [e1]
      by_cases hp : sp_pr (tm_tp t.1) = []
      · rw [if_pos hp, if_pos hp]; exact Or.inl ⟨rfl, rfl⟩
      · refine Or.inr (Or.inl ⟨1, ?_⟩)
        unfold st_G
        rw [tm_la_snoc]
        exact ⟨hp, Or.inl h2⟩
    · have e1 : sp_lt n k t = (sp_mb n k (tm_tp t.1), 1) := if_neg h1
      have hk2 : tm_k (tm_tp t.1) = 2 := by
        rcases tm_k_le (tm_tp t.1) with z | z | z
        · exact absurd (tm_k_0 z) hne
        · exact absurd z h1
        · exact z
      rw [e1]
      refine Or.inr ?_
      rcases ih (tm_tp t.1) (tm_al_tp hW) hk2 (by rw [tm_fl_tp hW]; omega) with ⟨z1, z2⟩ | ⟨j, z⟩ | ⟨j, z⟩
      · refine Or.inr ⟨1, ?_⟩
        unfold st_H
        rw [tm_la_snoc]
        exact ⟨tm_k_ne (by rw [z1]; decide), rfl, Or.inl ⟨z1, by rw [z2]; exact h2⟩⟩
      · refine Or.inl ⟨j + 1, ?_⟩
        unfold st_G
        rw [tm_la_snoc]
        exact ⟨tm_k_ne (by rw [st_G_k z]; decide), Or.inr ⟨rfl, st_G_k z, z⟩⟩
      · refine Or.inr ⟨j + 1, ?_⟩
        unfold st_H
        rw [tm_la_snoc]
        exact ⟨tm_k_ne (by rw [st_H_k z]; decide), rfl, Or.inr ⟨st_H_k z, z⟩⟩
theorem st_2 {n : Nat} (h1 : 1 ≤ n) : ∀ (j k : Nat) (ts : List tm_T), tm_al ts → st_G j ts → (tm_fl ts).length ≤ k → (tm_fl ts).length + 3 ≤ (sp_mb n k ts).length := by
  intro j
  induction j with
  | zero => intro k ts _ h; exact h.elim
  | succ j ih =>
    intro k ts hal hG hl
    obtain ⟨us, t, rfl, ht0⟩ := tm_k_snoc2 (st_G_k hG)
    have ha2 := tm_al_app.mp hal
    unfold st_G at hG
    rw [tm_la_snoc] at hG
    rw [tm_fl_snoc, List.length_append, tm_t_len] at hl ⊢
    obtain ⟨k, rfl⟩ : ∃ k', k = k' + 1 := ⟨k - 1, by omega⟩
    rw [sp_mb_fl h1, tm_fl_snoc, List.length_append, tm_t_len, tm_fl_app, List.length_append, sp_dct_fl]
    rcases hG.2 with h2 | ⟨h2, h3, h4⟩
    · unfold sp_dec
      rw [if_pos (by omega), tm_t_len]
      dsimp only
      omega
    · have hW := ha2.2.1.1
      have e1 : sp_lt n k t = (sp_mb n k (tm_tp t.1), 1) := if_neg (by omega)
      have := ih k (tm_tp t.1) (tm_al_tp hW) h4 (by rw [tm_fl_tp hW]; omega)
      rw [tm_fl_tp hW] at this
      rw [e1]
      dsimp only
      omega
theorem st_3 {n : Nat} (h2 : 2 ≤ n) (hn : n ≤ 1000000) : ∀ (j k : Nat) (ts : List tm_T), tm_al ts → st_H j ts → (tm_fl ts).length ≤ k → (sp_mb n k ts).length = (tm_fl ts).length ∧ ∃ i, st_G i (tm_tp (sp_mb n k ts)) := by
  intro j
  induction j with
  | zero => intro k ts _ h; exact h.elim
  | succ j ih =>
    intro k ts hal hH hl
    obtain ⟨us, t, rfl, ht0⟩ := tm_k_snoc2 (st_H_k hH)
    have ha2 := tm_al_app.mp hal
    unfold st_H at hH
    rw [tm_la_snoc] at hH
    rw [tm_fl_snoc, List.length_append, tm_t_len] at hl
    obtain ⟨k, rfl⟩ : ∃ k', k = k' + 1 := ⟨k - 1, by omega⟩
    rw [sp_mb_tp (by omega) hn hal, sp_mb_fl (by omega), tm_fl_snoc, List.length_append, tm_t_len, tm_fl_app, List.length_append, sp_dct_fl, tm_fl_snoc, List.length_append, tm_t_len]
    have hd : sp_dec t = [] := by unfold sp_dec; rw [if_neg (by omega)]
    rw [hd]
    have hW := ha2.2.1.1
    rcases hH.2.2 with ⟨z1, z2⟩ | ⟨z1, z2⟩
    · have e1 : sp_lt n k t = (sp_pr (tm_tp t.1), n) := if_pos z1
      obtain ⟨es, s, hes, hs0⟩ := tm_k_snoc1 z1
      rw [hes, tm_n_snoc, if_pos hs0] at z2
      have hpl : (sp_pr (tm_tp t.1)).length = t.1.length := by
        have h9 : t.1 = tm_fl (es ++ [s]) := by rw [← hes, tm_fl_tp hW]
        rw [hes, sp_pr_snoc]
        conv => rhs; rw [h9, tm_fl_snoc]
        unfold sp_dec
        rw [if_pos (by omega), List.length_append, List.length_append, tm_t_len, tm_t_len]
      rw [e1]
      refine ⟨by dsimp only; rw [hpl]; simp, 1, ?_⟩
      unfold st_G
      rw [tm_la_snoc]
      refine ⟨?_, Or.inl h2⟩
      intro z
      have z' : (sp_pr (tm_tp t.1)).length = 0 := by rw [show sp_pr (tm_tp t.1) = [] from z]; rfl
      rw [hpl] at z'
      exact ht0 (List.length_eq_zero_iff.mp z')
    · have e1 : sp_lt n k t = (sp_mb n k (tm_tp t.1), 1) := if_neg (by omega)
      obtain ⟨y1, i, y2⟩ := ih k (tm_tp t.1) (tm_al_tp hW) z2 (by rw [tm_fl_tp hW]; omega)
      rw [tm_fl_tp hW] at y1
      rw [e1]
      refine ⟨by dsimp only; rw [y1]; simp, i + 1, ?_⟩
      unfold st_G
      rw [tm_la_snoc]
      exact ⟨tm_k_ne (by rw [st_G_k y2]; decide), Or.inr ⟨rfl, st_G_k y2, y2⟩⟩
def sp_st (b : Nat) : Nat → List Nat → List Nat
  | 0, xs => xs
  | f + 1, xs => if tm_k (tm_tp xs) = 2 then sp_st b f (sp_mem b (tm_tp xs)) else xs
def ok_st (b : Nat) : Nat → List Nat → Prop
  | 0, _ => True
  | f + 1, xs => tm_k (tm_tp xs) = 2 → tm_ft (sp_mem b (tm_tp xs)) ∧ ok_st b f (sp_mem b (tm_tp xs))
theorem sp_mem_W {n : Nat} (hn : n ≤ 1000000) {ts : List tm_T} (h : tm_al ts) : tm_W (sp_mem n ts) := sp_mb_W hn _ h
theorem st_end {b : Nat} (h2 : 2 ≤ b) (hn : b ≤ 1000000) : ∀ (f : Nat) (xs : List Nat), tm_W xs → xs.length ≤ 60 → ((∃ k, st_G k (tm_tp xs)) ∧ 2 * (60 - xs.length) + 1 ≤ f ∨ (∃ k, st_H k (tm_tp xs)) ∧ 2 * (60 - xs.length) + 2 ≤ f ∨ tm_k (tm_tp xs) ≠ 2) → ok_st b f xs → tm_k (tm_tp (sp_st b f xs)) ≠ 2 := by
  intro f
  induction f with
  | zero =>
    intro xs _ _ h _
    rcases h with ⟨_, h⟩ | ⟨_, h⟩ | h
    · omega
    · omega
    · exact h
  | succ f ih =>
    intro xs hW hl h hok
    by_cases hk : tm_k (tm_tp xs) = 2
    · have hok2 := hok hk
      rw [show sp_st b (f + 1) xs = sp_st b f (sp_mem b (tm_tp xs)) from if_pos hk]
      have hal := tm_al_tp hW
      have e := tm_fl_tp hW
      refine ih _ (sp_mem_W hn hal) hok2.1.1 ?_ hok2.2
      have h60 := hok2.1.1
      rcases h with ⟨⟨k, hG⟩, h⟩ | ⟨⟨k, hH⟩, h⟩ | h
      · have g1 := st_2 (n := b) (by omega) k (tm_fl (tm_tp xs)).length (tm_tp xs) hal hG (Nat.le_refl _)
        have g2 := st_1 h2 hn (tm_fl (tm_tp xs)).length (tm_tp xs) hal hk (Nat.le_refl _)
        have g3 : xs.length + 3 ≤ (sp_mem b (tm_tp xs)).length := by conv => lhs; rw [← e]
                                                                     exact g1
        rcases g2 with ⟨z, _⟩ | z | z
        · exact Or.inr (Or.inr (by show tm_k (tm_tp (sp_mb b (tm_fl (tm_tp xs)).length (tm_tp xs))) ≠ 2; omega))
        · exact Or.inl ⟨z, by omega⟩
        · exact Or.inr (Or.inl ⟨z, by omega⟩)
      · obtain ⟨g1, g2⟩ := st_3 h2 hn k (tm_fl (tm_tp xs)).length (tm_tp xs) hal hH (Nat.le_refl _)
        have g3 : (sp_mem b (tm_tp xs)).length = xs.length := by conv => rhs; rw [← e]
                                                                 exact g1
        exact Or.inl ⟨g2, by omega⟩
      · exact absurd hk h
    · rw [show sp_st b (f + 1) xs = xs from if_neg hk]
      exact hk
theorem st_nz {b : Nat} (h2 : 2 ≤ b) (hn : b ≤ 1000000) : ∀ (f : Nat) (xs : List Nat), tm_W xs → tm_k (tm_tp xs) ≠ 0 → tm_k (tm_tp (sp_st b f xs)) ≠ 0 ∧ tm_W (sp_st b f xs) := by
  intro f
  induction f with
  | zero => intro xs hW h; exact ⟨h, hW⟩
  | succ f ih =>
    intro xs hW h
    by_cases hk : tm_k (tm_tp xs) = 2
    · rw [show sp_st b (f + 1) xs = sp_st b f (sp_mem b (tm_tp xs)) from if_pos hk]
      have hal := tm_al_tp hW
      refine ih _ (sp_mem_W hn hal) ?_
      show tm_k (tm_tp (sp_mb b (tm_fl (tm_tp xs)).length (tm_tp xs))) ≠ 0
      rcases st_1 h2 hn (tm_fl (tm_tp xs)).length (tm_tp xs) hal hk (Nat.le_refl _) with ⟨z, _⟩ | ⟨_, z⟩ | ⟨_, z⟩
      · omega
      · rw [st_G_k z]; decide
      · rw [st_H_k z]; decide
    · rw [show sp_st b (f + 1) xs = xs from if_neg hk]
      exact ⟨h, hW⟩
/-- two hundred members are more than enough -/
theorem st_fin {b : Nat} (h2 : 2 ≤ b) (hn : b ≤ 1000000) {xs : List Nat} (hW : tm_W xs) (h0 : tm_k (tm_tp xs) ≠ 0) (hok : ok_st b 200 xs) : tm_k (tm_tp (sp_st b 200 xs)) = 1 := by
  have hz := (st_nz h2 hn 200 xs hW h0).1
  have h9 : tm_k (tm_tp (sp_st b 200 xs)) ≠ 2 := by
    by_cases hk : tm_k (tm_tp xs) = 2
    · have hok2 := hok hk
      rw [show sp_st b 200 xs = sp_st b 199 (sp_mem b (tm_tp xs)) from if_pos hk]
      have hal := tm_al_tp hW
      refine st_end h2 hn 199 _ (sp_mem_W hn hal) hok2.1.1 ?_ hok2.2
      rcases st_1 h2 hn (tm_fl (tm_tp xs)).length (tm_tp xs) hal hk (Nat.le_refl _) with ⟨z, _⟩ | z | z
      · exact Or.inr (Or.inr (by show tm_k (tm_tp (sp_mb b (tm_fl (tm_tp xs)).length (tm_tp xs))) ≠ 2; omega))
      · exact Or.inl ⟨z, by omega⟩
      · exact Or.inr (Or.inl ⟨z, by omega⟩)
    · rw [show sp_st b 200 xs = xs from if_neg hk]
      exact hk
  rcases tm_k_le (tm_tp (sp_st b 200 xs)) with z | z | z
  · exact absurd z hz
  · exact z
  · exact absurd z h9
end
section
/-! The class's steps. -/
abbrev od_DE (M : od_M) (x : Nat) : Prop := M.2.2 x = some (od_ob 3 [.ref (x + 1), .ref (x + 3)])
def od_DEs (S : Nat → Bool) (x : Nat) : Prop := od_no S x ∧ S (x + 1) = true ∧ S (x + 3) = true
theorem sp_pr_ft {ts : List tm_T} (h : tm_ft (tm_fl ts)) : tm_ft (sp_pr ts) := by
  rcases tm_snoc ts with rfl | ⟨us, t, rfl⟩
  · exact ⟨by simp [sp_pr, tm_fl, sp_dec, tm_la], by simp [sp_pr, tm_fl, sp_dec, tm_la, tm_sm]⟩
  · rw [tm_fl_snoc] at h
    rw [sp_pr_snoc]
    unfold sp_dec
    by_cases h1 : 1 < t.2
    · rw [if_pos h1]
      have h2 := h.1
      have h3 := h.2
      rw [List.length_append, tm_t_len] at h2
      rw [tm_sm_app, tm_sm_t] at h3
      refine ⟨by rw [List.length_append, tm_t_len]; exact h2, ?_⟩
      rw [tm_sm_app, tm_sm_t]
      exact ⟨h3.1, h3.2.1, by dsimp only; omega⟩
    · rw [if_neg h1, List.append_nil]; exact tm_ft_l h
section STEP
variable {S : Nat → Bool} {M : od_M} {ρ0 : od_Rm} {x a out : Nat}
abbrev od_EU (x out : Nat) : List Nat := [out, x + 1, x + 3]
set_option maxRecDepth 100000 in
theorem cl_st_loop (hS : od_SS S) (ho : S out = true) (r1 : S (x + 1) = true) (r3 : S (x + 3) = true) (n1 : out ∉ [x + 1, x + 3]) {b : Nat} (h2 : 2 ≤ b) (hb2 : b ≤ 1000000) {wx wa : Option Value} : ∀ (f : Nat) (xs : List Nat) (ρ : od_Rm) (y z i : Nat) (w7 : Option Value), tm_W xs → tm_k (tm_tp xs) ≠ 0 → (ok_st b f xs → tm_k (tm_tp (sp_st b f xs)) = 1) → i + f ≤ 1000 → (y = x + 1 ∧ z = x + 3 ∨ y = x + 3 ∧ z = x + 1) → od_Bd ρ → (∀ q, q ∉ od_EU x out → ρ q = ρ0 q) → od_hl ρ y xs → od_W 5 46 21 [wx, wa, some (.int (nI b)), some (.ref out), some (.ref y), some (.ref z), some (.int (nI i)), w7] [] (od_cm S M ρ) (od_Re S M ρ0 (od_EU x out) (ok_st b f xs) none (fun ρ' => od_hl ρ' out (sp_pr (tm_tp (sp_st b f xs))))) := by
  intro f
  induction f with
  | zero =>
    intro xs ρ y z i w7 hW h0 hfin hi hyz hb g hx
    have hk := hfin trivial
    have ry : S y = true := by rcases hyz with ⟨rfl, rfl⟩ | ⟨rfl, rfl⟩; exact r1; exact r3
    have noy : out ≠ y := by rcases hyz with ⟨rfl, rfl⟩ | ⟨rfl, rfl⟩ <;> exact od_ne n1 (by simp)
    obtain ⟨es, s, hes, hs0⟩ := tm_k_snoc1 hk
    rw [show sp_st b 0 xs = xs from rfl] at hes hk ⊢
    have hal := tm_al_tp hW
    have hx1 : od_hl ρ y (tm_fl (tm_tp xs)) := by rw [tm_fl_tp hW]; exact hx
    have hal2 : tm_al (es ++ [s]) := hes ▸ hal
    have hlen : xs.length = (tm_fl es).length + 3 := by
      have := tm_fl_tp hW
      rw [hes, tm_fl_snoc] at this
      rw [← this, List.length_append, tm_t_len, hs0]
      rfl
    refine od_W.rn (pc' := 25) (ls' := [_, _, some (.int _), some (.ref _), some (.ref _), some (.ref _), some (.int _), _]) (st' := [.int _, .int _]) 2 rfl ?_
    refine od_r2F rfl (of_decide_eq_true rfl) (decide_eq_false (nI_ge (b := 1000000) (by omega) (by omega))) ?_
    refine od_W.rn (pc' := 30) (ls' := [_, _, some (.int _), some (.ref _), some (.ref _), some (.ref _), some (.int _), _]) (st' := [.ref _]) 1 rfl ?_
    refine od_rV (as := []) rfl rfl rfl rfl (od_cm_r ry) rfl (Nat.le_of_ble_eq_true rfl) (Nat.le_of_ble_eq_true rfl) (ct_sort hS ry (hb _) hal hx1.1) (Nat.le_of_ble_eq_true rfl) (fun o M1 hq => ?_)
    obtain ⟨rfl, rfl⟩ := hq
    refine od_K.ret ?_
    rw [hk]
    refine od_W.rn (pc' := 34) (ls' := [_, _, some (.int _), some (.ref _), some (.ref _), some (.ref _), some (.int _), _]) (st' := [.int _, .int _]) 1 rfl ?_
    refine od_r2T rfl rfl (rfl) ?_
    refine od_W.rn (pc' := 64) (ls' := [_, _, some (.int _), some (.ref _), some (.ref _), some (.ref _), some (.int _), _]) (st' := [.ref _]) 1 rfl ?_
    refine od_rV (as := []) rfl rfl rfl rfl (od_cm_r ho) rfl (Nat.le_of_ble_eq_true rfl) (Nat.le_of_ble_eq_true rfl) (lt_clear hS ho hb) (Nat.le_of_ble_eq_true rfl) (fun o M1 hq => ?_)
    refine od_Re.kp hq rfl (by simp) (g) (fun _ => trivial) (fun ρ1 f1 g1 b1 p1 k1 => ?_)
    have hx2 := hx.fr (f1 y (od_n1 (Ne.symm noy)))
    have hx3 : od_hl ρ1 y ([] ++ (tm_fl es ++ (tm_t s ++ []))) := by rw [List.nil_append, List.append_nil, ← tm_fl_snoc, ← hes, tm_fl_tp hW]; exact hx2
    refine od_W.rn (pc' := 72) (ls' := [_, _, some (.int _), some (.ref _), some (.ref _), some (.ref _), some (.int _), _]) (st' := [.ref _, .int _, .ref _]) 3 rfl ?_
    refine od_gL rfl rfl (ry) (hx2.n) ?_
    refine od_W.rn (pc' := 76) (ls' := [_, _, some (.int _), some (.ref _), some (.ref _), some (.ref _), some (.int _), _]) (st' := [.ref _, .int _, .int _, .ref _]) 1 rfl ?_
    refine od_rSt (as := [.ref y, .int (nI 0), .int (nI xs.length), .ref out]) rfl rfl rfl rfl (Nat.le_of_ble_eq_true rfl) (Nat.le_of_ble_eq_true rfl) (lt_putBefore hS ho ry noy b1 (tm_al_app.mp hal2).2.1 hs0 p1 hx3 rfl (by simp; exact hlen)) (Nat.le_of_ble_eq_true rfl) (fun o M1 hq => ?_)
    refine od_Re.kp hq rfl (by simp) (g1) (fun _ => by rw [List.nil_append, ← hes]; exact sp_pr_ft (by rw [tm_fl_tp hW]; exact ⟨hx.le hb, hx.2⟩)) (fun ρ2 f2 g2 b2 p2 k2 => ?_)
    refine od_W.fin rfl ?_
    refine od_Re.yes g2 b2 trivial ?_
    rw [hes]
    exact p2
  | succ f ih =>
    intro xs ρ y z i w7 hW h0 hfin hi hyz hb g hx
    have ry : S y = true := by rcases hyz with ⟨rfl, rfl⟩ | ⟨rfl, rfl⟩; exact r1; exact r3
    have rz : S z = true := by rcases hyz with ⟨rfl, rfl⟩ | ⟨rfl, rfl⟩; exact r3; exact r1
    have noy : out ≠ y := by rcases hyz with ⟨rfl, rfl⟩ | ⟨rfl, rfl⟩ <;> exact od_ne n1 (by simp)
    have nzy : z ≠ y := by omega
    have hzU : ∀ q, q ∈ [z] → q ∈ od_EU x out := by rcases hyz with ⟨rfl, rfl⟩ | ⟨rfl, rfl⟩ <;> simp
    have hal := tm_al_tp hW
    have hx1 : od_hl ρ y (tm_fl (tm_tp xs)) := by rw [tm_fl_tp hW]; exact hx
    refine od_W.rn (pc' := 25) (ls' := [_, _, some (.int _), some (.ref _), some (.ref _), some (.ref _), some (.int _), _]) (st' := [.int _, .int _]) 2 rfl ?_
    refine od_r2F rfl (of_decide_eq_true rfl) (decide_eq_false (nI_ge (b := 1000000) (by omega) (by omega))) ?_
    refine od_W.rn (pc' := 30) (ls' := [_, _, some (.int _), some (.ref _), some (.ref _), some (.ref _), some (.int _), _]) (st' := [.ref _]) 1 rfl ?_
    refine od_rV (as := []) rfl rfl rfl rfl (od_cm_r ry) rfl (Nat.le_of_ble_eq_true rfl) (Nat.le_of_ble_eq_true rfl) (ct_sort hS ry (hb _) hal hx1.1) (Nat.le_of_ble_eq_true rfl) (fun o M1 hq => ?_)
    obtain ⟨rfl, rfl⟩ := hq
    refine od_K.ret ?_
    by_cases hk : tm_k (tm_tp xs) = 2
    · rw [show sp_st b (f + 1) xs = sp_st b f (sp_mem b (tm_tp xs)) from if_pos hk] at hfin ⊢
      have hW2 := sp_mem_W hb2 hal
      have h02 : tm_k (tm_tp (sp_mem b (tm_tp xs))) ≠ 0 := by
        show tm_k (tm_tp (sp_mb b (tm_fl (tm_tp xs)).length (tm_tp xs))) ≠ 0
        rcases st_1 h2 hb2 (tm_fl (tm_tp xs)).length (tm_tp xs) hal hk (Nat.le_refl _) with ⟨z, _⟩ | ⟨_, z⟩ | ⟨_, z⟩
        · omega
        · rw [st_G_k z]; decide
        · rw [st_H_k z]; decide
      rw [hk]
      refine od_W.rn (pc' := 34) (ls' := [_, _, some (.int _), some (.ref _), some (.ref _), some (.ref _), some (.int _), _]) (st' := [.int _, .int _]) 1 rfl ?_
      refine od_r2F rfl (of_decide_eq_true rfl) (rfl) ?_
      refine od_W.rn (pc' := 42) (ls' := [_, _, some (.int _), some (.ref _), some (.ref _), some (.ref _), some (.int _), _]) (st' := [.ref _, .int _, .ref _]) 3 rfl ?_
      refine od_rSt (as := [.ref y, .int (nI b), .ref z]) rfl rfl rfl rfl (Nat.le_of_ble_eq_true rfl) (Nat.le_of_ble_eq_true rfl) (lt_makeMember hS rz ry nzy hb2 hb hal hk hx1) (Nat.le_of_ble_eq_true rfl) (fun o M1 hq => ?_)
      refine od_Re.kp hq rfl hzU g (fun z => (z hk).1) (fun ρ1 f1 g1 b1 p1 k1 => ?_)
      refine od_W.rn (pc' := 21) (ls' := [_, _, some (.int _), some (.ref _), some (.ref _), some (.ref _), some (.int _), some (.ref _)]) (st' := []) 8 rfl ?_
      rw [nI_inc i]
      refine (ih (sp_mem b (tm_tp xs)) ρ1 z y (i + 1) _ hW2 h02 (fun h => hfin (fun _ => ⟨k1, h⟩)) (by omega) (by rcases hyz with ⟨rfl, rfl⟩ | ⟨rfl, rfl⟩; exact Or.inr ⟨rfl, rfl⟩; exact Or.inl ⟨rfl, rfl⟩) b1 g1 p1).mono fun o M' h => ?_
      exact h.mono (fun q h => h) ⟨fun z _ => ⟨k1, z⟩, fun z => (z hk).2⟩ (fun ρ' _ _ h => h)
    · rw [show sp_st b (f + 1) xs = xs from if_neg hk] at hfin ⊢
      have hk1 : tm_k (tm_tp xs) = 1 := hfin (fun z => absurd z hk)
      obtain ⟨es, s, hes, hs0⟩ := tm_k_snoc1 hk1
      have hal2 : tm_al (es ++ [s]) := hes ▸ hal
      have hlen : xs.length = (tm_fl es).length + 3 := by
        have := tm_fl_tp hW
        rw [hes, tm_fl_snoc] at this
        rw [← this, List.length_append, tm_t_len, hs0]
        rfl
      rw [hk1]
      refine od_W.rn (pc' := 34) (ls' := [_, _, some (.int _), some (.ref _), some (.ref _), some (.ref _), some (.int _), _]) (st' := [.int _, .int _]) 1 rfl ?_
      refine od_r2T rfl rfl (rfl) ?_
      refine od_W.rn (pc' := 64) (ls' := [_, _, some (.int _), some (.ref _), some (.ref _), some (.ref _), some (.int _), _]) (st' := [.ref _]) 1 rfl ?_
      refine od_rV (as := []) rfl rfl rfl rfl (od_cm_r ho) rfl (Nat.le_of_ble_eq_true rfl) (Nat.le_of_ble_eq_true rfl) (lt_clear hS ho hb) (Nat.le_of_ble_eq_true rfl) (fun o M1 hq => ?_)
      refine od_Re.kp hq rfl (by simp) (g) (fun _ => trivial) (fun ρ1 f1 g1 b1 p1 k1 => ?_)
      have hx2 := hx.fr (f1 y (od_n1 (Ne.symm noy)))
      have hx3 : od_hl ρ1 y ([] ++ (tm_fl es ++ (tm_t s ++ []))) := by rw [List.nil_append, List.append_nil, ← tm_fl_snoc, ← hes, tm_fl_tp hW]; exact hx2
      refine od_W.rn (pc' := 72) (ls' := [_, _, some (.int _), some (.ref _), some (.ref _), some (.ref _), some (.int _), _]) (st' := [.ref _, .int _, .ref _]) 3 rfl ?_
      refine od_gL rfl rfl (ry) (hx2.n) ?_
      refine od_W.rn (pc' := 76) (ls' := [_, _, some (.int _), some (.ref _), some (.ref _), some (.ref _), some (.int _), _]) (st' := [.ref _, .int _, .int _, .ref _]) 1 rfl ?_
      refine od_rSt (as := [.ref y, .int (nI 0), .int (nI xs.length), .ref out]) rfl rfl rfl rfl (Nat.le_of_ble_eq_true rfl) (Nat.le_of_ble_eq_true rfl) (lt_putBefore hS ho ry noy b1 (tm_al_app.mp hal2).2.1 hs0 p1 hx3 rfl (by simp; exact hlen)) (Nat.le_of_ble_eq_true rfl) (fun o M1 hq => ?_)
      refine od_Re.kp hq rfl (by simp) (g1) (fun _ => by rw [List.nil_append, ← hes]; exact sp_pr_ft (by rw [tm_fl_tp hW]; exact ⟨hx.le hb, hx.2⟩)) (fun ρ2 f2 g2 b2 p2 k2 => ?_)
      refine od_W.fin rfl ?_
      refine od_Re.yes g2 b2 (fun z => absurd z hk) ?_
      rw [hes]
      exact p2
theorem lt_stepDown {ρ : od_Rm} (hS : od_SS S) (hA : od_DE M x) (hR : od_DEs S x) (ho : S out = true) (ha : S a = true) (na : a ∉ od_EU x out) (n1 : out ∉ [x + 1, x + 3]) {b : Nat} (h2 : 2 ≤ b) (hb2 : b ≤ 1000000) (hb : od_Bd ρ) {xs : List Nat} (hW : tm_W xs) (h0 : tm_k (tm_tp xs) ≠ 0) (hx : od_hl ρ a xs) : od_W 5 46 0 (od_ent 46 [.ref x, .ref a, .int (nI b), .ref out]) [] (od_cm S M ρ) (od_Re S M ρ (od_EU x out) (ok_st b 200 xs) none (fun ρ' => od_hl ρ' out (sp_pr (tm_tp (sp_st b 200 xs))))) := by
  have e0 : od_ent 46 [.ref x, .ref a, .int (nI b), .ref out] = [some (.ref x), some (.ref a), some (.int (nI b)), some (.ref out), none, none, none, none] := rfl
  rw [e0]
  obtain ⟨hxn, r1, r3⟩ := hR
  refine od_W.rn (pc' := 1) (ls' := [some (.ref _), some (.ref _), some (.int _), some (.ref _), none, none, none, none]) (st' := [.ref _]) 1 rfl ?_
  refine od_rG rfl (od_cm_o hxn hA) rfl rfl ?_
  refine od_W.rn (pc' := 7) (ls' := [some (.ref _), some (.ref _), some (.int _), some (.ref _), some (.ref _), none, none, none]) (st' := [.ref _]) 2 rfl ?_
  refine od_rG rfl (od_cm_o hxn hA) rfl rfl ?_
  refine od_W.rn (pc' := 15) (ls' := [some (.ref _), some (.ref _), some (.int _), some (.ref _), some (.ref _), some (.ref _), none, none]) (st' := [.ref _, .ref _]) 3 rfl ?_
  refine od_rV (as := [.ref a]) rfl rfl rfl rfl (od_cm_r r1) rfl (Nat.le_of_ble_eq_true rfl) (Nat.le_of_ble_eq_true rfl) (lt_become hS r1 ha (Ne.symm (od_ne na (by simp))) hb hx) (Nat.le_of_ble_eq_true rfl) (fun o M1 hq => ?_)
  refine od_Re.kp hq rfl (by simp) (od_fr0 ρ _) (fun _ => trivial) (fun ρ1 f1 g1 b1 p1 k1 => ?_)
  refine od_W.rn (pc' := 21) (ls' := [some (.ref _), some (.ref _), some (.int _), some (.ref _), some (.ref _), some (.ref _), some (.int _), none]) (st' := []) 2 rfl ?_
  exact cl_st_loop (M := M) (ρ0 := ρ) hS ho r1 r3 n1 h2 hb2 200 xs ρ1 (x + 1) (x + 3) 0 none hW h0 (st_fin h2 hb2 hW h0) (by omega) (Or.inl ⟨rfl, rfl⟩) b1 g1 p1
end STEP
end
section
/-! The hydra: the way to a head. -/
theorem od_cm_set {S : Nat → Bool} {M : od_M} {ρ : od_Rm} {a : Nat} {e : od_E} (h : od_no S a) : od_set (od_cm S M ρ) a e = od_cm S (od_set M a e) ρ := by
  refine od_Meq rfl rfl (fun b => ?_)
  show va_up (od_cm S M ρ).2.2 a (some e) b = (if S b = true then _ else if S (b - 1) = true then _ else va_up M.2.2 a (some e) b)
  by_cases hb : b = a
  · subst hb
    rw [va_up_self, if_neg (by rw [h.1]; decide), if_neg (by rw [h.2]; decide), va_up_self]
  · rw [va_up_ne _ _ hb]
    show (if S b = true then _ else if S (b - 1) = true then _ else M.2.2 b) = _
    rw [va_up_ne _ _ hb]
/-- a memory that differs at most at these places -/
def od_eM (V : List Nat) (M M' : od_M) : Prop := M'.1 = M.1 ∧ M'.2.1 = M.2.1 ∧ ∀ q, q ∉ V → M'.2.2 q = M.2.2 q
theorem od_eM.refl (V : List Nat) (M : od_M) : od_eM V M M := ⟨rfl, rfl, fun _ _ => rfl⟩
theorem od_eM.tr {V : List Nat} {M M' M'' : od_M} (h : od_eM V M M') (h' : od_eM V M' M'') : od_eM V M M'' := ⟨h'.1.trans h.1, h'.2.1.trans h.2.1, fun q hq => (h'.2.2 q hq).trans (h.2.2 q hq)⟩
theorem od_eM.set {V : List Nat} {M M' : od_M} {a : Nat} {e : od_E} (h : od_eM V M M') (ha : a ∈ V) : od_eM V M (od_set M' a e) := ⟨h.1, h.2.1, fun q hq => by show va_up M'.2.2 a (some e) q = _; rw [va_up_ne _ _ (fun z => hq (by rw [z]; exact ha))]; exact h.2.2 q hq⟩
theorem od_set_s (M : od_M) (a : Nat) (e : od_E) : (od_set M a e).2.2 a = some e := va_up_self _ _ _
theorem od_set_o {M : od_M} {a b : Nat} {e : od_E} (h : b ≠ a) : (od_set M a e).2.2 b = M.2.2 b := va_up_ne _ _ h
theorem upd_s (f : Nat → Int32) (k : Nat) (v : Int32) : upd f k v k = v := if_pos rfl
theorem upd_o {f : Nat → Int32} {k j : Nat} {v : Int32} (h : j ≠ k) : upd f k v j = f j := if_neg h
section HYD
variable {S : Nat → Bool} {M : od_M} {ρ : od_Rm} {q : Nat}
theorem cl_tn_loop (hS : od_SS S) (hq' : S q = true) (hb : od_Bd ρ) {u v : List Nat} {d i0 m : Nat} (hd : d < 1000) (hi0 : i0 = u.length) : ∀ (todo done : List tm_T), tm_al todo → done.length ≤ d → od_hl ρ q (u ++ (tm_fl done ++ (tm_fl todo ++ v))) → m = i0 + (tm_fl done).length + (tm_fl todo).length → od_W 1 11 6 [some (.ref q), some (.int (nI d)), some (.int (nI i0)), some (.int (nI m)), some (.int (nI (i0 + (tm_fl done).length))), some (.int (nI done.length))] [] (od_cm S M ρ) (fun o M' => o = .inl (some (.int (if d - done.length < todo.length then nI (i0 + (tm_fl done).length + (tm_fl (todo.take (d - done.length))).length) else -1))) ∧ M' = od_cm S M ρ) := by
  intro todo
  induction todo with
  | nil =>
    intro done _ hdl hx hm
    have h60 := hx.le hb
    rw [List.length_append, List.length_append, List.length_append] at h60
    rw [show tm_fl ([] : List tm_T) = [] from rfl, List.length_nil, Nat.add_zero] at hm
    subst hm
    rw [if_neg (by simp)]
    by_cases h : done.length < d
    · refine od_W.rn (pc' := 9) (ls' := [some (.ref _), some (.int _), some (.int _), some (.int _), some (.int _), some (.int _)]) (st' := [.int _, .int _]) 2 rfl ?_
      refine od_r2F rfl (of_decide_eq_true rfl) (decide_eq_false (nI_ge h (by omega))) ?_
      refine od_W.rn (pc' := 15) (ls' := [some (.ref _), some (.int _), some (.int _), some (.int _), some (.int _), some (.int _)]) (st' := [.int _, .int _]) 2 rfl ?_
      refine od_r2T rfl rfl (decide_eq_true (nI_le (Nat.le_refl _) (by omega))) ?_
      refine od_W.rn (pc' := 35) (ls' := [some (.ref _), some (.int _), some (.int _), some (.int _), some (.int _), some (.int _)]) (st' := [.int _, .int _]) 2 rfl ?_
      refine od_r2T rfl rfl (decide_eq_true (nI_le (Nat.le_refl _) (by omega))) ?_
      refine od_W.rn (pc' := 44) (ls' := [some (.ref _), some (.int _), some (.int _), some (.int _), some (.int _), some (.int _)]) (st' := [.int _]) 1 rfl ?_
      refine od_W.fin rfl ?_
      exact ⟨rfl, rfl⟩
    · refine od_W.rn (pc' := 9) (ls' := [some (.ref _), some (.int _), some (.int _), some (.int _), some (.int _), some (.int _)]) (st' := [.int _, .int _]) 2 rfl ?_
      refine od_r2T rfl rfl (decide_eq_true (nI_le (by omega) (by omega))) ?_
      refine od_W.rn (pc' := 35) (ls' := [some (.ref _), some (.int _), some (.int _), some (.int _), some (.int _), some (.int _)]) (st' := [.int _, .int _]) 2 rfl ?_
      refine od_r2T rfl rfl (decide_eq_true (nI_le (Nat.le_refl _) (by omega))) ?_
      refine od_W.rn (pc' := 44) (ls' := [some (.ref _), some (.int _), some (.int _), some (.int _), some (.int _), some (.int _)]) (st' := [.int _]) 1 rfl ?_
      refine od_W.fin rfl ?_
      exact ⟨rfl, rfl⟩
  | cons t todo ih =>
    intro done hal hdl hx hm
    have h60 := hx.le hb
    have hx2 : od_hl ρ q ((u ++ tm_fl done) ++ (tm_t t ++ (tm_fl todo ++ v))) := by rw [tm_fl] at hx; rw [List.append_assoc, ← List.append_assoc (tm_t t)]; exact hx
    rw [tm_fl, List.length_append, List.length_append, List.length_append, List.length_append, tm_t_len] at h60
    rw [tm_fl, List.length_append, tm_t_len] at hm
    have e : i0 + (tm_fl done).length + (tm_t t).length = i0 + (tm_fl (done ++ [t])).length := by rw [tm_fl_snoc, List.length_append]; omega
    by_cases h : done.length < d
    · refine od_W.rn (pc' := 9) (ls' := [some (.ref _), some (.int _), some (.int _), some (.int _), some (.int _), some (.int _)]) (st' := [.int _, .int _]) 2 rfl ?_
      refine od_r2F rfl (of_decide_eq_true rfl) (decide_eq_false (nI_ge h (by omega))) ?_
      refine od_W.rn (pc' := 15) (ls' := [some (.ref _), some (.int _), some (.int _), some (.int _), some (.int _), some (.int _)]) (st' := [.int _, .int _]) 2 rfl ?_
      refine od_r2F rfl (of_decide_eq_true rfl) (decide_eq_false (nI_ge (by omega) (by omega))) ?_
      refine od_W.rn (pc' := 21) (ls' := [some (.ref _), some (.int _), some (.int _), some (.int _), some (.int _), some (.int _)]) (st' := [.int _, .ref _]) 2 rfl ?_
      refine od_rV (as := [.int (nI (i0 + (tm_fl done).length))]) rfl rfl rfl rfl (od_cm_r hq') rfl (Nat.le_of_ble_eq_true rfl) (Nat.le_of_ble_eq_true rfl) (lt_termEnd hS hq' hb hal.1 hx2 (by rw [List.length_append, hi0])) (Nat.le_of_ble_eq_true rfl) (fun o M1 hq => ?_)
      obtain ⟨rfl, rfl⟩ := hq
      refine od_K.ret ?_
      refine od_W.rn (pc' := 6) (ls' := [some (.ref _), some (.int _), some (.int _), some (.int _), some (.int _), some (.int _)]) (st' := []) 3 rfl ?_
      rw [e, nI_inc done.length, show done.length + 1 = (done ++ [t]).length by simp]
      refine (ih (done ++ [t]) hal.2 (by simp; omega) (by rw [tm_fl_snoc, List.append_assoc]; rw [List.append_assoc] at hx2; exact hx2) (by rw [tm_fl_snoc, List.length_append, tm_t_len]; omega)).mono fun o M' hh => ⟨?_, hh.2⟩
      rw [hh.1]
      have e3 : d - done.length = (d - (done ++ [t]).length) + 1 := by simp; omega
      rw [e3]
      by_cases h5 : d - (done ++ [t]).length < todo.length
      · have e4 : (tm_fl (List.take (d - (done ++ [t]).length + 1) (t :: todo))).length = (tm_t t).length + (tm_fl (List.take (d - (done ++ [t]).length) todo)).length := by rw [List.take_succ_cons, tm_fl, List.length_append]
        rw [if_pos h5, if_pos (by simp; simp at h5; omega), e4, ← e]
        exact congrArg (fun n => Sum.inl (some (Value.int (nI n)))) (by omega)
      · rw [if_neg h5, if_neg (by simp; simp at h5; omega)]
    · have e3 : d - done.length = 0 := by omega
      rw [e3, if_pos (by simp), List.take_zero, show tm_fl ([] : List tm_T) = [] from rfl, List.length_nil, Nat.add_zero]
      refine od_W.rn (pc' := 9) (ls' := [some (.ref _), some (.int _), some (.int _), some (.int _), some (.int _), some (.int _)]) (st' := [.int _, .int _]) 2 rfl ?_
      refine od_r2T rfl rfl (decide_eq_true (nI_le (by omega) (by omega))) ?_
      refine od_W.rn (pc' := 35) (ls' := [some (.ref _), some (.int _), some (.int _), some (.int _), some (.int _), some (.int _)]) (st' := [.int _, .int _]) 2 rfl ?_
      refine od_r2F rfl (of_decide_eq_true rfl) (decide_eq_false (nI_ge (by omega) (by omega))) ?_
      refine od_W.rn (pc' := 44) (ls' := [some (.ref _), some (.int _), some (.int _), some (.int _), some (.int _), some (.int _)]) (st' := [.int _]) 2 rfl ?_
      refine od_W.fin rfl ?_
      exact ⟨rfl, rfl⟩
theorem lt_termNumber (hS : od_SS S) (hq' : S q = true) (hb : od_Bd ρ) {u v : List Nat} {d i0 m : Nat} (hd : d < 1000) (hi0 : i0 = u.length) {ts : List tm_T} (h1 : tm_al ts) (hx : od_hl ρ q (u ++ (tm_fl ts ++ v))) (hm : m = i0 + (tm_fl ts).length) : od_W 1 11 0 (od_ent 11 [.ref q, .int (nI d), .int (nI i0), .int (nI m)]) [] (od_cm S M ρ) (fun o M' => o = .inl (some (.int (if d < ts.length then nI (i0 + (tm_fl (ts.take d)).length) else -1))) ∧ M' = od_cm S M ρ) := by
  have e0 : od_ent 11 [.ref q, .int (nI d), .int (nI i0), .int (nI m)] = [some (.ref q), some (.int (nI d)), some (.int (nI i0)), some (.int (nI m)), none, none] := rfl
  rw [e0]
  refine od_W.rn (pc' := 6) (ls' := [some (.ref _), some (.int _), some (.int _), some (.int _), some (.int _), some (.int _)]) (st' := []) 4 rfl ?_
  exact cl_tn_loop hS hq' hb hd hi0 ts [] h1 (by simp) hx (by rw [hm]; rfl)
end HYD
/-- a way through a hydra: of each level the terms before, the term, the terms behind -/
abbrev hy_P : Type := List (List tm_T × tm_T × List tm_T)
def hy_fd : Nat → Nat → List tm_T → Option hy_P
  | 0, _, _ => none
  | f + 1, w, ts => match ts.drop (w % 8) with
    | [] => none
    | t :: as => if t.1 = [] then some [(ts.take (w % 8), t, as)] else (hy_fd f (w / 8) (tm_tp t.1)).map (fun p => (ts.take (w % 8), t, as) :: p)
/-- the arrays of starts and ends tell this way, from level i on; u lies before the level's part -/
def hy_p (st en : Nat → Int32) : List Nat → Nat → List tm_T → hy_P → Prop
  | _, _, _, [] => False
  | u, i, ts, [p] => ts = p.1 ++ p.2.1 :: p.2.2 ∧ st i = nI (u.length + (tm_fl p.1).length) ∧ en i = nI (u.length + (tm_fl p.1).length + (tm_t p.2.1).length) ∧ p.2.1.1 = []
  | u, i, ts, p :: q :: r => ts = p.1 ++ p.2.1 :: p.2.2 ∧ st i = nI (u.length + (tm_fl p.1).length) ∧ en i = nI (u.length + (tm_fl p.1).length + (tm_t p.2.1).length) ∧ p.2.1.1 ≠ [] ∧ hy_p st en (u ++ tm_fl p.1 ++ [1]) (i + 1) (tm_tp p.2.1.1) (q :: r)
theorem hy_drop {ts : List tm_T} {n : Nat} {t : tm_T} {as : List tm_T} (h : ts.drop n = t :: as) : ts = ts.take n ++ t :: as ∧ n < ts.length := by
  refine ⟨by rw [← h, List.take_append_drop], ?_⟩
  rcases Nat.lt_or_ge n ts.length with z | z
  · exact z
  · rw [List.drop_eq_nil_of_le z] at h; exact absurd h (by simp)
section HYF
variable {S : Nat → Bool} {ρ : od_Rm} {x a : Nat}
abbrev od_HY (M : od_M) (x : Nat) (hl : Int32) : Prop := M.2.2 x = some (od_ob 4 [.ref (x + 1), .ref (x + 2), .int hl, .ref (x + 3), .ref (x + 5)])
/-- what a search for a head leaves -/
def hy_fo (S : Nat → Bool) (M : od_M) (ρ : od_Rm) (x : Nat) (u : List Nat) (i : Nat) (ts : List tm_T) (f w : Nat) (st en : Nat → Int32) : od_O → od_M → Prop := fun o M2 => ∃ (M' : od_M) (h : Int32) (st' en' : Nat → Int32), M2 = od_cm S M' ρ ∧ od_eM [x, x + 1, x + 2] M M' ∧ od_HY M' x h ∧ M'.2.2 (x + 1) = some (od_ia 20 st') ∧ M'.2.2 (x + 2) = some (od_ia 20 en') ∧ (∀ j, j < i → st' j = st j ∧ en' j = en j) ∧ o = .inl (some (.int (if (hy_fd f w ts).isSome then 1 else 0))) ∧ (∀ p, hy_fd f w ts = some p → h = nI (i + p.length - 1) ∧ hy_p st' en' u i ts p)
set_option maxRecDepth 100000 in
theorem cl_fh_loop (hS : od_SS S) (ha : S a = true) (hb : od_Bd ρ) (n0 : od_no S x) (n1 : od_no S (x + 1)) (n2 : od_no S (x + 2)) {wf : Int32} : ∀ (f : Nat) (ts : List tm_T) (u v : List Nat) (w i : Nat) (M : od_M) (hl : Int32) (st en : Nat → Int32) (i0 m : Nat) (w7 w8 : Option Value), tm_al ts → (tm_fl ts).length < f → w < 2 ^ 31 → i ≤ u.length → 2 * i ≤ v.length → od_hl ρ a (u ++ (tm_fl ts ++ v)) → i0 = u.length → m = i0 + (tm_fl ts).length → od_HY M x hl → M.2.2 (x + 1) = some (od_ia 20 st) → M.2.2 (x + 2) = some (od_ia 20 en) → od_W 2 48 14 [some (.ref x), some (.ref a), some (.int wf), some (.int (nI i0)), some (.int (nI m)), some (.int (nI w)), some (.int (nI i)), w7, w8] [] (od_cm S M ρ) (hy_fo S M ρ x u i ts f w st en) := by
  intro f
  induction f with
  | zero => intro ts u v w i M hl st en i0 m w7 w8 _ h; omega
  | succ f ih =>
    intro ts u v w i M hl st en i0 m w7 w8 hal hf hw hiu hiv hx hi0 hm hH hst hen
    have h60 := hx.le hb
    rw [List.length_append, List.length_append] at h60
    have h8 : w % 8 < 8 := Nat.mod_lt _ (by omega)
    by_cases h20 : i < 20
    · refine od_W.rn (pc' := 18) (ls' := [some (.ref _), some (.ref _), some (.int _), some (.int _), some (.int _), some (.int _), some (.int _), _, _]) (st' := [.int _, .int _]) 2 rfl ?_
      refine od_r2F rfl (of_decide_eq_true rfl) (decide_eq_false (nI_ge (b := 20) h20 (by omega))) ?_
      refine od_W.rn (pc' := 26) (ls' := [some (.ref _), some (.ref _), some (.int _), some (.int _), some (.int _), some (.int _), some (.int _), _, _]) (st' := [.int _, .int _, .ref _]) 3 rfl ?_
      refine od_rDirem rfl (rfl) ((show Int32.ofInt 8 = nI 8 from rfl)) ((by omega)) ((by omega)) ((by omega)) ?_
      refine od_W.rn (pc' := 30) (ls' := [some (.ref _), some (.ref _), some (.int _), some (.int _), some (.int _), some (.int _), some (.int _), _, _]) (st' := [.int _, .int _, .int _, .ref _]) 2 rfl ?_
      refine od_rV (as := [.int (nI (w % 8)), .int (nI i0), .int (nI m)]) rfl rfl rfl rfl (od_cm_r ha) rfl (Nat.le_of_ble_eq_true rfl) (Nat.le_of_ble_eq_true rfl) (lt_termNumber hS ha hb (by omega) hi0 hal hx hm) (Nat.le_of_ble_eq_true rfl) (fun o M1 hq => ?_)
      obtain ⟨rfl, rfl⟩ := hq
      refine od_K.ret ?_
      refine od_W.rn (pc' := 38) (ls' := [some (.ref _), some (.ref _), some (.int _), some (.int _), some (.int _), some (.int _), some (.int _), some (.int _), _]) (st' := [.int _, .int _]) 3 rfl ?_
      rcases hdr : ts.drop (w % 8) with _ | ⟨t, as⟩
      · have hge : ts.length ≤ w % 8 := List.drop_eq_nil_iff.mp hdr
        have hnone : hy_fd (f + 1) w ts = none := by unfold hy_fd; rw [hdr]
        rw [if_neg (by omega)]
        refine od_r2F rfl (of_decide_eq_true rfl) (rfl) ?_
        refine od_W.rn (pc' := 42) (ls' := [some (.ref _), some (.ref _), some (.int _), some (.int _), some (.int _), some (.int _), some (.int _), some (.int _), _]) (st' := [.int _]) 1 rfl ?_
        refine od_W.fin rfl ?_
        refine ⟨M, hl, st, en, rfl, od_eM.refl _ _, hH, hst, hen, fun _ _ => ⟨rfl, rfl⟩, by rw [hnone]; rfl, ?_⟩
        intro p hp
        rw [hnone] at hp
        exact absurd hp (by simp)
      · obtain ⟨hts, hlt⟩ := hy_drop hdr
        have halx := hal
        rw [hts] at halx
        have ha2 := tm_al_app.mp halx
        have efl : tm_fl ts = tm_fl (ts.take (w % 8)) ++ (tm_t t ++ tm_fl as) := by conv => lhs; rw [hts, tm_fl_app, tm_fl]
        have hlen : (tm_fl ts).length = (tm_fl (ts.take (w % 8))).length + (t.1.length + 3 + (tm_fl as).length) := by rw [efl, List.length_append, List.length_append, tm_t_len]
        have hx2 : od_hl ρ a ((u ++ tm_fl (ts.take (w % 8))) ++ (tm_t t ++ (tm_fl as ++ v))) := by rw [efl] at hx; simpa [List.append_assoc] using hx
        generalize hbs : ts.take (w % 8) = bs at *
        rw [if_pos hlt]
        refine od_r2T rfl rfl ((show (!decide (nI (i0 + (tm_fl bs).length) = -1)) = true by rw [decide_eq_false (fun z => absurd (nI_pos (n := i0 + (tm_fl bs).length) (by omega)) (by rw [z]; decide))]; rfl)) ?_
        refine od_W.rn (pc' := 46) (ls' := [some (.ref _), some (.ref _), some (.int _), some (.int _), some (.int _), some (.int _), some (.int _), some (.int _), _]) (st' := [.int _, .ref _]) 2 rfl ?_
        refine od_rV (as := [.int (nI (i0 + (tm_fl bs).length))]) rfl rfl rfl rfl (od_cm_r ha) rfl (Nat.le_of_ble_eq_true rfl) (Nat.le_of_ble_eq_true rfl) (lt_termEnd hS ha hb ha2.2.1 hx2 (by rw [List.length_append, hi0])) (Nat.le_of_ble_eq_true rfl) (fun o M1 hq => ?_)
        obtain ⟨rfl, rfl⟩ := hq
        refine od_K.ret ?_
        rw [tm_t_len]
        refine od_W.rn (pc' := 52) (ls' := [some (.ref _), some (.ref _), some (.int _), some (.int _), some (.int _), some (.int _), some (.int _), some (.int _), some (.int _)]) (st' := [.ref _]) 2 rfl ?_
        refine od_rG rfl (od_cm_o n0 hH) rfl rfl ?_
        refine od_W.rn (pc' := 59) (ls' := [some (.ref _), some (.ref _), some (.int _), some (.int _), some (.int _), some (.int _), some (.int _), some (.int _), some (.int _)]) (st' := [.int _, .int _, .ref _]) 2 rfl ?_
        refine od_rIS rfl (od_cm_o n1 hst) (rfl) (by omega) (by decide) ?_
        rw [od_cm_set n1]
        have hH1 : od_HY (od_set M (x + 1) (od_ia 20 (upd st i (nI (i0 + (tm_fl bs).length))))) x hl := (od_set_o (by omega)).trans hH
        have hen1 : (od_set M (x + 1) (od_ia 20 (upd st i (nI (i0 + (tm_fl bs).length))))).2.2 (x + 2) = some (od_ia 20 en) := (od_set_o (by omega)).trans hen
        have hst1 := od_set_s M (x + 1) (od_ia 20 (upd st i (nI (i0 + (tm_fl bs).length))))
        have eM1 : od_eM [x, x + 1, x + 2] M (od_set M (x + 1) (od_ia 20 (upd st i (nI (i0 + (tm_fl bs).length))))) := (od_eM.refl _ _).set (by simp)
        generalize hM1 : od_set M (x + 1) (od_ia 20 (upd st i (nI (i0 + (tm_fl bs).length)))) = M1 at *
        refine od_W.rn (pc' := 61) (ls' := [some (.ref _), some (.ref _), some (.int _), some (.int _), some (.int _), some (.int _), some (.int _), some (.int _), some (.int _)]) (st' := [.ref _]) 1 rfl ?_
        refine od_rG rfl (od_cm_o n0 hH1) rfl rfl ?_
        refine od_W.rn (pc' := 68) (ls' := [some (.ref _), some (.ref _), some (.int _), some (.int _), some (.int _), some (.int _), some (.int _), some (.int _), some (.int _)]) (st' := [.int _, .int _, .ref _]) 2 rfl ?_
        refine od_rIS rfl (od_cm_o n2 hen1) (rfl) (by omega) (by decide) ?_
        rw [od_cm_set n2]
        have hH2 : od_HY (od_set M1 (x + 2) (od_ia 20 (upd en i (nI (i0 + (tm_fl bs).length + (t.1.length + 3)))))) x hl := (od_set_o (by omega)).trans hH1
        have hst2 : (od_set M1 (x + 2) (od_ia 20 (upd en i (nI (i0 + (tm_fl bs).length + (t.1.length + 3)))))).2.2 (x + 1) = _ := (od_set_o (by omega)).trans hst1
        have hen2 := od_set_s M1 (x + 2) (od_ia 20 (upd en i (nI (i0 + (tm_fl bs).length + (t.1.length + 3)))))
        have eM2 := eM1.set (a := x + 2) (e := od_ia 20 (upd en i (nI (i0 + (tm_fl bs).length + (t.1.length + 3))))) (by simp)
        generalize hM2 : od_set M1 (x + 2) (od_ia 20 (upd en i (nI (i0 + (tm_fl bs).length + (t.1.length + 3))))) = M2 at *
        refine od_W.rn (pc' := 72) (ls' := [some (.ref _), some (.ref _), some (.int _), some (.int _), some (.int _), some (.int _), some (.int _), some (.int _), some (.int _)]) (st' := [.int _, .ref _]) 2 rfl ?_
        refine od_rP rfl (od_cm_o n0 hH2) rfl (by simp) rfl (by decide) ?_
        rw [od_cm_set n0]
        have hH3 : od_HY (od_set M2 x (od_ob 4 ([Value.ref (x + 1), .ref (x + 2), .int hl, .ref (x + 3), .ref (x + 5)].set 2 (.int (nI i))))) x (nI i) := od_set_s _ _ _
        have hst3 : (od_set M2 x (od_ob 4 ([Value.ref (x + 1), .ref (x + 2), .int hl, .ref (x + 3), .ref (x + 5)].set 2 (.int (nI i))))).2.2 (x + 1) = _ := (od_set_o (by omega)).trans hst2
        have hen3 : (od_set M2 x (od_ob 4 ([Value.ref (x + 1), .ref (x + 2), .int hl, .ref (x + 3), .ref (x + 5)].set 2 (.int (nI i))))).2.2 (x + 2) = _ := (od_set_o (by omega)).trans hen2
        have eM3 := eM2.set (a := x) (e := od_ob 4 ([Value.ref (x + 1), .ref (x + 2), .int hl, .ref (x + 3), .ref (x + 5)].set 2 (.int (nI i)))) (by simp)
        generalize hM3 : od_set M2 x (od_ob 4 ([Value.ref (x + 1), .ref (x + 2), .int hl, .ref (x + 3), .ref (x + 5)].set 2 (.int (nI i)))) = M3 at *
        refine od_W.rn (pc' := 81) (ls' := [some (.ref _), some (.ref _), some (.int _), some (.int _), some (.int _), some (.int _), some (.int _), some (.int _), some (.int _)]) (st' := [.int _, .int _]) 4 rfl ?_
        have es : nI (i0 + (tm_fl bs).length + (t.1.length + 3)) - nI (i0 + (tm_fl bs).length) = nI (t.1.length + 3) := by rw [nI_subI (by omega)]; congr 1; omega
        rw [es]
        by_cases ht0 : t.1 = []
        · have hsome : hy_fd (f + 1) w ts = some [(bs, t, as)] := by unfold hy_fd; rw [hdr]; dsimp only; rw [if_pos ht0, hbs]
          refine od_r2F rfl (of_decide_eq_true rfl) ((by rw [ht0]; rfl)) ?_
          refine od_W.rn (pc' := 85) (ls' := [some (.ref _), some (.ref _), some (.int _), some (.int _), some (.int _), some (.int _), some (.int _), some (.int _), some (.int _)]) (st' := [.int _]) 1 rfl ?_
          refine od_W.fin rfl ?_
          refine ⟨M3, nI i, _, _, rfl, eM3, hH3, hst3, hen3, ?_, by rw [hsome]; rfl, ?_⟩
          · intro j hj
            rw [upd_o (by omega), upd_o (by omega)]
            exact ⟨rfl, rfl⟩
          · intro p hp
            rw [hsome] at hp
            obtain rfl := Option.some.inj hp
            refine ⟨by simp, hts, ?_, ?_, ht0⟩
            · rw [upd_s, hi0]
            · rw [upd_s, hi0, tm_t_len]
        · have hpos : 0 < t.1.length := List.length_pos_iff.mpr ht0
          have hW := ha2.2.1.1
          have hrec : hy_fd (f + 1) w ts = (hy_fd f (w / 8) (tm_tp t.1)).map (fun p => (bs, t, as) :: p) := by conv => lhs; unfold hy_fd; rw [hdr]; dsimp only; rw [if_neg ht0, hbs]
          refine od_r2T rfl rfl ((show (!decide (nI (t.1.length + 3) = nI 3)) = true by rw [decide_eq_false (fun z => absurd ((nI_eq (by omega) (by omega)).mp z) (by omega))]; rfl)) ?_
          refine od_W.rn (pc' := 101) (ls' := [some (.ref _), some (.ref _), some (.int _), some (.int _), some (.int _), some (.int _), some (.int _), some (.int _), some (.int _)]) (st' := [.int _, .int _]) 10 rfl ?_
          refine od_rDidiv rfl (rfl) ((show Int32.ofInt 8 = nI 8 from rfl)) ((by omega)) ((by omega)) ((by omega)) ?_
          refine od_W.rn (pc' := 14) (ls' := [some (.ref _), some (.ref _), some (.int _), some (.int _), some (.int _), some (.int _), some (.int _), some (.int _), some (.int _)]) (st' := []) 3 rfl ?_
          have e1 : nI (i0 + (tm_fl bs).length) + 1 = nI (i0 + (tm_fl bs).length + 1) := nI_1 _
          have e2 : nI (i0 + (tm_fl bs).length + (t.1.length + 3)) - 2 = nI (i0 + (tm_fl bs).length + 1 + t.1.length) := by rw [show i0 + (tm_fl bs).length + 1 + t.1.length = i0 + (tm_fl bs).length + (t.1.length + 3) - 2 by omega]; exact nI_subI (a := 2) (by omega)
          show od_W 2 48 14 [some (.ref x), some (.ref a), some (.int wf), some (.int (nI (i0 + (tm_fl bs).length) + 1)), some (.int (nI (i0 + (tm_fl bs).length + (t.1.length + 3)) - 2)), some (.int (nI (w / 8))), some (.int (nI i + Int32.ofInt 1)), some (.int (nI (i0 + (tm_fl bs).length))), some (.int (nI (i0 + (tm_fl bs).length + (t.1.length + 3))))] [] (od_cm S M3 ρ) _
          rw [e1, e2, nI_inc i]
          have hx5 : od_hl ρ a ((u ++ tm_fl bs ++ [1]) ++ (tm_fl (tm_tp t.1) ++ ([0, t.2] ++ (tm_fl as ++ v)))) := by
            rw [tm_fl_tp hW, show (u ++ tm_fl bs ++ [1]) ++ (t.1 ++ ([0, t.2] ++ (tm_fl as ++ v))) = (u ++ tm_fl bs) ++ (tm_t t ++ (tm_fl as ++ v)) by simp [tm_t]]; exact hx2
          have hu2 : (u ++ tm_fl bs ++ [1]).length = i0 + (tm_fl bs).length + 1 := by rw [List.length_append, List.length_append, hi0]; rfl
          refine (ih (tm_tp t.1) (u ++ tm_fl bs ++ [1]) ([0, t.2] ++ (tm_fl as ++ v)) (w / 8) (i + 1) M3 (nI i) _ _ _ _ _ _ (tm_al_tp hW) (by rw [tm_fl_tp hW]; omega) (by omega) (by rw [hu2]; omega) (by simp; omega) hx5 hu2.symm (by rw [tm_fl_tp hW]) hH3 hst3 hen3).mono fun o M4 hh => ?_
          obtain ⟨M', h, st', en', q1, q2, q3, q4, q5, q6, q7, q8⟩ := hh
          refine ⟨M', h, st', en', q1, eM3.tr q2, q3, q4, q5, ?_, ?_, ?_⟩
          · intro j hj
            have := q6 j (by omega)
            rw [upd_o (by omega), upd_o (by omega)] at this
            exact this
          · rw [q7, hrec, Option.isSome_map]
          · intro p hp
            rw [hrec] at hp
            rcases hz : hy_fd f (w / 8) (tm_tp t.1) with _ | p'
            · rw [hz] at hp; exact absurd hp (by simp)
            · rw [hz] at hp
              obtain rfl := Option.some.inj hp
              obtain ⟨y1, y2⟩ := q8 p' hz
              cases p' with
              | nil => exact y2.elim
              | cons p1 pr =>
                refine ⟨by rw [y1]; simp only [List.length_cons]; congr 1; omega, hts, ?_, ?_, ht0, ?_⟩
                · rw [(q6 i (by omega)).1, upd_s, hi0]
                · rw [(q6 i (by omega)).2, upd_s, hi0, tm_t_len]
                · exact y2
    · have hts : ts = [] := by
        rcases ts with _ | ⟨t, ts⟩
        · rfl
        · rw [tm_fl, List.length_append, tm_t_len] at h60; omega
      have hnone : hy_fd (f + 1) w ts = none := by unfold hy_fd; rw [hts, List.drop_nil]
      refine od_W.rn (pc' := 18) (ls' := [some (.ref _), some (.ref _), some (.int _), some (.int _), some (.int _), some (.int _), some (.int _), _, _]) (st' := [.int _, .int _]) 2 rfl ?_
      refine od_r2T rfl rfl (decide_eq_true (nI_le (a := 20) (by omega) (by omega))) ?_
      refine od_W.rn (pc' := 111) (ls' := [some (.ref _), some (.ref _), some (.int _), some (.int _), some (.int _), some (.int _), some (.int _), _, _]) (st' := [.int _]) 1 rfl ?_
      refine od_W.fin rfl ?_
      refine ⟨M, hl, st, en, rfl, od_eM.refl _ _, hH, hst, hen, fun _ _ => ⟨rfl, rfl⟩, by rw [hnone]; rfl, ?_⟩
      intro p hp
      rw [hnone] at hp
      exact absurd hp (by simp)
theorem lt_findsHead {M : od_M} (hS : od_SS S) (ha : S a = true) (hb : od_Bd ρ) (n0 : od_no S x) (n1 : od_no S (x + 1)) (n2 : od_no S (x + 2)) {ts : List tm_T} {w : Nat} {hl : Int32} {st en : Nat → Int32} (hal : tm_al ts) (hw : w < 2 ^ 31) (hx : od_hl ρ a (tm_fl ts)) (hH : od_HY M x hl) (hst : M.2.2 (x + 1) = some (od_ia 20 st)) (hen : M.2.2 (x + 2) = some (od_ia 20 en)) : od_W 2 48 0 (od_ent 48 [.ref x, .ref a, .int (nI w)]) [] (od_cm S M ρ) (hy_fo S M ρ x [] 0 ts 61 w st en) := by
  have e0 : od_ent 48 [.ref x, .ref a, .int (nI w)] = [some (.ref x), some (.ref a), some (.int (nI w)), none, none, none, none, none, none] := rfl
  rw [e0]
  have h60 := hx.le hb
  refine od_W.rn (pc' := 3) (ls' := [some (.ref _), some (.ref _), some (.int _), some (.int _), none, none, none, none, none]) (st' := [.ref _]) 3 rfl ?_
  refine od_gL rfl rfl (ha) (hx.n) ?_
  refine od_W.rn (pc' := 14) (ls' := [some (.ref _), some (.ref _), some (.int _), some (.int _), some (.int _), some (.int _), some (.int _), none, none]) (st' := []) 5 rfl ?_
  exact cl_fh_loop hS ha hb n0 n1 n2 61 ts [] [] w 0 M hl st en 0 (tm_fl ts).length none none hal (by omega) hw (by omega) (by simp) (by simpa using hx) rfl (by omega) hH hst hen
end HYF
end
section
/-! The hydra loses a head. -/
def hy_th (p : List tm_T × tm_T × List tm_T) : List tm_T := p.1 ++ sp_dct p.2.1 ++ p.2.2
def hy_cc (c : Nat) (r : hy_P) : Nat := if r.length = 0 then c + 1 else 1
def sp_cut (c : Nat) : hy_P → List Nat
  | [] => []
  | [p] => tm_fl (hy_th p)
  | p :: q :: r => tm_fl (sp_nat (hy_th p) [(sp_cut c (q :: r), hy_cc c r)])
def ok_cut (c : Nat) : hy_P → Prop
  | [] => True
  | [_] => True
  | p :: q :: r => ok_cut c (q :: r) ∧ tm_ft (tm_t (sp_cut c (q :: r), hy_cc c r)) ∧ tm_ft (tm_fl (sp_nat (hy_th p) [(sp_cut c (q :: r), hy_cc c r)]))
theorem hy_th_fl (p : List tm_T × tm_T × List tm_T) : tm_fl (hy_th p) = (tm_fl p.1 ++ sp_dec p.2.1) ++ tm_fl p.2.2 := by unfold hy_th; rw [tm_fl_app, tm_fl_app, sp_dct_fl]
theorem hy_th_al {p : List tm_T × tm_T × List tm_T} (h : tm_al (p.1 ++ p.2.1 :: p.2.2)) : tm_al (hy_th p) := by
  have h2 := tm_al_app.mp h
  exact tm_al_app.mpr ⟨tm_al_app.mpr ⟨h2.1, sp_dct_al h2.2.1⟩, h2.2.2⟩
theorem sp_dec_len (t : tm_T) : (sp_dec t).length ≤ (tm_t t).length := by
  unfold sp_dec
  split
  · rw [tm_t_len, tm_t_len]; exact Nat.le_refl _
  · exact Nat.zero_le _
theorem sp_dec_sm {t : tm_T} (h : tm_sm (tm_t t)) : tm_sm (sp_dec t) := by
  unfold sp_dec
  split
  · rw [tm_sm_t] at h ⊢; exact ⟨h.1, by dsimp only; omega⟩
  · exact fun x hx => (List.not_mem_nil hx).elim
theorem hy_fd_len : ∀ (f w : Nat) (ts : List tm_T) (p : hy_P), hy_fd f w ts = some p → p.length ≤ f := by
  intro f
  induction f with
  | zero => intro w ts p h; exact absurd h (by simp [hy_fd])
  | succ f ih =>
    intro w ts p h
    unfold hy_fd at h
    split at h
    · exact absurd h (by simp)
    · split at h
      · obtain rfl := Option.some.inj h; simp
      · rename_i t as _ _
        rcases hz : hy_fd f (w / 8) (tm_tp t.1) with _ | p'
        · rw [hz] at h; exact absurd h (by simp)
        · rw [hz] at h
          obtain rfl := Option.some.inj h
          have := ih _ _ _ hz
          simp
          omega
section CUT
variable {S : Nat → Bool} {M : od_M} {ρ0 : od_Rm} {x a out : Nat}
set_option maxRecDepth 100000 in
theorem lt_makeThinned {ρ : od_Rm} {res : Nat} (hS : od_SS S) (ha : S a = true) (hr : S res = true) (na : res ≠ a) (n0 : od_no S x) (n1 : od_no S (x + 1)) (n2 : od_no S (x + 2)) (hb : od_Bd ρ) {u v : List Nat} {p : List tm_T × tm_T × List tm_T} {i : Nat} {hl : Int32} {st en : Nat → Int32} (hi : i < 20) (ht : tm_ok p.2.1) (hx : od_hl ρ a (u ++ (tm_fl p.1 ++ (tm_t p.2.1 ++ (tm_fl p.2.2 ++ v))))) (hH : od_HY M x hl) (hst : M.2.2 (x + 1) = some (od_ia 20 st)) (hen : M.2.2 (x + 2) = some (od_ia 20 en)) (e1 : st i = nI (u.length + (tm_fl p.1).length)) (e2 : en i = nI (u.length + (tm_fl p.1).length + (tm_t p.2.1).length)) (hpar : (i = 0 ∧ u = [] ∧ v = []) ∨ (1 ≤ i ∧ 1 ≤ u.length ∧ st (i - 1) = nI (u.length - 1) ∧ en (i - 1) = nI (u.length + (tm_fl p.1).length + (tm_t p.2.1).length + (tm_fl p.2.2).length + 2))) : od_W 3 50 0 (od_ent 50 [.ref x, .ref a, .int (nI i), .ref res]) [] (od_cm S M ρ) (od_Re S M ρ [res] True none (fun ρ' => od_hl ρ' res (tm_fl (hy_th p)))) := by
  have e0 : od_ent 50 [.ref x, .ref a, .int (nI i), .ref res] = [some (.ref x), some (.ref a), some (.int (nI i)), some (.ref res), none, none, none, none] := rfl
  rw [e0, hy_th_fl]
  have h60 := hx.le hb
  have hsm := hx.2
  rw [tm_sm_app, tm_sm_app, tm_sm_app, tm_sm_app] at hsm
  have hdl := sp_dec_len p.2.1
  rw [List.length_append, List.length_append, List.length_append, List.length_append] at h60
  have hx2 : od_hl ρ a ((u ++ tm_fl p.1) ++ (tm_t p.2.1 ++ (tm_fl p.2.2 ++ v))) := by rw [List.append_assoc]; exact hx
  have hx3 : od_hl ρ a ((u ++ tm_fl p.1 ++ tm_t p.2.1) ++ (tm_fl p.2.2 ++ v)) := by rw [List.append_assoc, List.append_assoc]; exact hx
  have hok : tm_ft ((tm_fl p.1 ++ sp_dec p.2.1) ++ tm_fl p.2.2) := by
    refine ⟨by rw [List.length_append, List.length_append]; omega, ?_⟩
    rw [tm_sm_app, tm_sm_app]
    exact ⟨⟨hsm.2.1, sp_dec_sm hsm.2.2.1⟩, hsm.2.2.2.1⟩
  have tail : od_W 3 50 43 [some (.ref x), some (.ref a), some (.int (nI i)), some (.ref res), some (.int (nI u.length)), some (.int (nI (u.length + (tm_fl p.1).length + (tm_t p.2.1).length + (tm_fl p.2.2).length))), none, none] [] (od_cm S M ρ) (od_Re S M ρ [res] True none (fun ρ' => od_hl ρ' res ((tm_fl p.1 ++ sp_dec p.2.1) ++ tm_fl p.2.2))) := by
    refine od_W.rn (pc' := 44) (ls' := [some (.ref _), some (.ref _), some (.int _), some (.ref _), some (.int _), some (.int _), none, none]) (st' := [.ref _]) 1 rfl ?_
    refine od_rG rfl (od_cm_o n0 hH) rfl rfl ?_
    refine od_W.rn (pc' := 48) (ls' := [some (.ref _), some (.ref _), some (.int _), some (.ref _), some (.int _), some (.int _), none, none]) (st' := [.int _, .ref _]) 1 rfl ?_
    refine od_rIL rfl (od_cm_o n1 hst) (rfl) (hi) (by decide) ?_
    rw [e1]
    refine od_W.rn (pc' := 52) (ls' := [some (.ref _), some (.ref _), some (.int _), some (.ref _), some (.int _), some (.int _), some (.int _), none]) (st' := [.ref _]) 2 rfl ?_
    refine od_rG rfl (od_cm_o n0 hH) rfl rfl ?_
    refine od_W.rn (pc' := 56) (ls' := [some (.ref _), some (.ref _), some (.int _), some (.ref _), some (.int _), some (.int _), some (.int _), none]) (st' := [.int _, .ref _]) 1 rfl ?_
    refine od_rIL rfl (od_cm_o n2 hen) (rfl) (hi) (by decide) ?_
    rw [e2]
    refine od_W.rn (pc' := 65) (ls' := [some (.ref _), some (.ref _), some (.int _), some (.ref _), some (.int _), some (.int _), some (.int _), some (.int _)]) (st' := [.int _, .int _, .ref _, .ref _]) 5 rfl ?_
    refine od_rV (as := [.ref a, .int (nI u.length), .int (nI (u.length + (tm_fl p.1).length))]) rfl rfl rfl rfl (od_cm_r hr) rfl (Nat.le_of_ble_eq_true rfl) (Nat.le_of_ble_eq_true rfl) (lt_becomePart hS hr ha na hb hx rfl rfl) (Nat.le_of_ble_eq_true rfl) (fun o M1 hq => ?_)
    refine od_Re.kp hq rfl (by simp) (od_fr0 ρ _) (fun _ => trivial) (fun ρ1 f1 g1 b1 p1 k1 => ?_)
    have hy1 := hx2.fr (f1 a (od_n1 (Ne.symm na)))
    have hy2 := hx3.fr (f1 a (od_n1 (Ne.symm na)))
    refine od_W.rn (pc' := 77) (ls' := [some (.ref _), some (.ref _), some (.int _), some (.ref _), some (.int _), some (.int _), some (.int _), some (.int _)]) (st' := [.int _, .ref _, .int _, .int _, .ref _, .ref _]) 6 rfl ?_
    refine od_rV (as := [.int (nI (u.length + (tm_fl p.1).length + (tm_t p.2.1).length))]) rfl rfl rfl rfl (od_cm_r ha) rfl (Nat.le_of_ble_eq_true rfl) (Nat.le_of_ble_eq_true rfl) (lt_coefficient hS ha b1 hy1 (by rw [List.length_append])) (Nat.le_of_ble_eq_true rfl) (fun o M1 hq => ?_)
    obtain ⟨rfl, rfl⟩ := hq
    refine od_K.ret ?_
    refine od_W.rn (pc' := 83) (ls' := [some (.ref _), some (.ref _), some (.int _), some (.ref _), some (.int _), some (.int _), some (.int _), some (.int _)]) (st' := [.long _, .int _, .int _, .ref _, .ref _]) 3 rfl ?_
    show od_W 3 50 83 [some (.ref x), some (.ref a), some (.int (nI i)), some (.ref res), some (.int (nI u.length)), some (.int (nI (u.length + (tm_fl p.1).length + (tm_t p.2.1).length + (tm_fl p.2.2).length))), some (.int (nI (u.length + (tm_fl p.1).length))), some (.int (nI (u.length + (tm_fl p.1).length + (tm_t p.2.1).length)))] [.long (nI p.2.1.2 - 1).toInt64, .int (nI (u.length + (tm_fl p.1).length + (tm_t p.2.1).length)), .int (nI (u.length + (tm_fl p.1).length)), .ref a, .ref res] (od_cm S M ρ1) _
    rw [nI_c1 ht.2]
    refine od_rV (as := [.ref a, .int (nI (u.length + (tm_fl p.1).length)), .int (nI (u.length + (tm_fl p.1).length + (tm_t p.2.1).length)), .long (lN (p.2.1.2 - 1))]) rfl rfl rfl rfl (od_cm_r hr) rfl (Nat.le_of_ble_eq_true rfl) (Nat.le_of_ble_eq_true rfl) (lt_putDec hS hr ha na b1 ht p1 hy1 (by rw [List.length_append]) rfl) (Nat.le_of_ble_eq_true rfl) (fun o M1 hq => ?_)
    refine od_Re.kp hq rfl (by simp) (g1) (fun _ => tm_ft_l hok) (fun ρ2 f2 g2 b2 p2 k2 => ?_)
    have hy3 := hy2.fr (f2 a (od_n1 (Ne.symm na)))
    refine od_W.rn (pc' := 92) (ls' := [some (.ref _), some (.ref _), some (.int _), some (.ref _), some (.int _), some (.int _), some (.int _), some (.int _)]) (st' := [.int _, .int _, .ref _, .ref _]) 4 rfl ?_
    refine od_rV (as := [.ref a, .int (nI (u.length + (tm_fl p.1).length + (tm_t p.2.1).length)), .int (nI (u.length + (tm_fl p.1).length + (tm_t p.2.1).length + (tm_fl p.2.2).length))]) rfl rfl rfl rfl (od_cm_r hr) rfl (Nat.le_of_ble_eq_true rfl) (Nat.le_of_ble_eq_true rfl) (lt_putPart hS hr ha na b2 p2 hy3 (by rw [List.length_append, List.length_append]) rfl) (Nat.le_of_ble_eq_true rfl) (fun o M1 hq => ?_)
    refine od_Re.kp hq rfl (by simp) (g2) (fun _ => hok) (fun ρ3 f3 g3 b3 p3 k3 => ?_)
    refine od_W.fin rfl ?_
    exact od_Re.yes g3 b3 trivial p3
  refine od_W.rn (pc' := 1) (ls' := [some (.ref _), some (.ref _), some (.int _), some (.ref _), none, none, none, none]) (st' := [.int _]) 1 rfl ?_
  rcases hpar with ⟨hi0, hu, hv⟩ | ⟨hi1, hu, hs1, he1⟩
  · rw [hi0]
    refine od_r1F rfl (of_decide_eq_true rfl) (rfl) ?_
    refine od_W.rn (pc' := 21) (ls' := [some (.ref _), some (.ref _), some (.int _), some (.ref _), some (.int _), none, none, none]) (st' := [.int _]) 4 rfl ?_
    refine od_r1F rfl (of_decide_eq_true rfl) (rfl) ?_
    refine od_W.rn (pc' := 25) (ls' := [some (.ref _), some (.ref _), some (.int _), some (.ref _), some (.int _), none, none, none]) (st' := [.ref _]) 1 rfl ?_
    refine od_gL rfl rfl (ha) (hx.n) ?_
    refine od_W.rn (pc' := 43) (ls' := [some (.ref _), some (.ref _), some (.int _), some (.ref _), some (.int _), some (.int _), none, none]) (st' := []) 2 rfl ?_
    subst hu
    subst hv
    have el : ([] ++ (tm_fl p.1 ++ (tm_t p.2.1 ++ (tm_fl p.2.2 ++ [])))).length = ([] : List Nat).length + (tm_fl p.1).length + (tm_t p.2.1).length + (tm_fl p.2.2).length := by simp; omega
    rw [el]
    rw [hi0] at tail
    exact tail
  · have em : nI i - 1 = nI (i - 1) := nI_subI (a := 1) hi1
    refine od_r1T rfl rfl ((show (!decide (nI i = 0)) = true by rw [decide_eq_false (nI_ne0 (by omega) (by omega))]; rfl)) ?_
    refine od_W.rn (pc' := 9) (ls' := [some (.ref _), some (.ref _), some (.int _), some (.ref _), none, none, none, none]) (st' := [.ref _]) 1 rfl ?_
    refine od_rG rfl (od_cm_o n0 hH) rfl rfl ?_
    refine od_W.rn (pc' := 15) (ls' := [some (.ref _), some (.ref _), some (.int _), some (.ref _), none, none, none, none]) (st' := [.int _, .ref _]) 3 rfl ?_
    refine od_rIL rfl (od_cm_o n1 hst) (em) (by omega) (by decide) ?_
    refine od_W.rn (pc' := 21) (ls' := [some (.ref _), some (.ref _), some (.int _), some (.ref _), some (.int _), none, none, none]) (st' := [.int _]) 4 rfl ?_
    rw [hs1]
    refine od_r1T rfl rfl ((show (!decide (nI i = 0)) = true by rw [decide_eq_false (nI_ne0 (by omega) (by omega))]; rfl)) ?_
    refine od_W.rn (pc' := 32) (ls' := [some (.ref _), some (.ref _), some (.int _), some (.ref _), some (.int _), none, none, none]) (st' := [.ref _]) 1 rfl ?_
    refine od_rG rfl (od_cm_o n0 hH) rfl rfl ?_
    refine od_W.rn (pc' := 38) (ls' := [some (.ref _), some (.ref _), some (.int _), some (.ref _), some (.int _), none, none, none]) (st' := [.int _, .ref _]) 3 rfl ?_
    refine od_rIL rfl (od_cm_o n2 hen) (em) (by omega) (by decide) ?_
    refine od_W.rn (pc' := 43) (ls' := [some (.ref _), some (.ref _), some (.int _), some (.ref _), some (.int _), some (.int _), none, none]) (st' := []) 3 rfl ?_
    rw [he1]
    have q1 : nI (u.length - 1) + 1 = nI u.length := by rw [nI_1]; congr 1; omega
    have q2 : nI (u.length + (tm_fl p.1).length + (tm_t p.2.1).length + (tm_fl p.2.2).length + 2) - 2 = nI (u.length + (tm_fl p.1).length + (tm_t p.2.1).length + (tm_fl p.2.2).length) := nI_subI (a := 2) (by omega)
    show od_W 3 50 43 [some (.ref x), some (.ref a), some (.int (nI i)), some (.ref res), some (.int (nI (u.length - 1) + 1)), some (.int (nI (u.length + (tm_fl p.1).length + (tm_t p.2.1).length + (tm_fl p.2.2).length + 2) - 2)), none, none] [] (od_cm S M ρ) _
    rw [q1, q2]
    exact tail
theorem sp_cut_W {c : Nat} (hc : c ≤ 1000) : ∀ (p : hy_P) (st en : Nat → Int32) (u : List Nat) (i : Nat) (ts : List tm_T), tm_al ts → hy_p st en u i ts p → ok_cut c p → tm_W (sp_cut c p) := by
  intro p
  induction p with
  | nil => intro st en u i ts _ h; exact h.elim
  | cons p r ih =>
    intro st en u i ts hal h hok
    cases r with
    | nil =>
      have h1 : ts = p.1 ++ p.2.1 :: p.2.2 := h.1
      exact tm_fl_W (hy_th_al (h1 ▸ hal))
    | cons q r =>
      have h1 : ts = p.1 ++ p.2.1 :: p.2.2 := h.1
      have halx := hal
      rw [h1] at halx
      have hW := ih st en _ _ _ (tm_al_tp (tm_al_app.mp halx).2.1.1) h.2.2.2.2 hok.1
      refine tm_fl_W (sp_nat_al (hy_th_al halx) ?_ hok.2.2.2)
      refine ⟨⟨hW, ?_⟩, trivial⟩
      unfold tm_c hy_cc
      dsimp only
      split <;> omega
set_option maxRecDepth 100000 in
theorem cl_cut (hS : od_SS S) (ha : S a = true) (ho : S out = true) (r3 : S (x + 3) = true) (r5 : S (x + 5) = true) (na : a ∉ [out, x + 3, x + 5]) (no : out ∉ [x + 3, x + 5]) (n0 : od_no S x) (n1 : od_no S (x + 1)) (n2 : od_no S (x + 2)) (hb : od_Bd ρ0) {c L : Nat} (hc : c ≤ 1000) (hLb : L < 1000) {st en : Nat → Int32} {ok0 : Prop} {P0 : od_Rm → Prop} (hH : od_HY M x (nI L)) (hst : M.2.2 (x + 1) = some (od_ia 20 st)) (hen : M.2.2 (x + 2) = some (od_ia 20 en)) : ∀ (p : hy_P) (u v : List Nat) (ts : List tm_T) (i : Nat), hy_p st en u i ts p → tm_al ts → i ≤ u.length → 2 * i ≤ v.length → L = i + p.length - 1 → ((i = 0 ∧ u = [] ∧ v = []) ∨ (1 ≤ i ∧ 1 ≤ u.length ∧ st (i - 1) = nI (u.length - 1) ∧ en (i - 1) = nI (u.length + (tm_fl ts).length + 2))) → od_hl ρ0 a (u ++ (tm_fl ts ++ v)) → (ok0 → ok_cut c p) → (∀ ρ1, (∀ q, q ∉ [out, x + 3, x + 5] → ρ1 q = ρ0 q) → od_Bd ρ1 → od_hl ρ1 out (sp_cut c p) → ok_cut c p → od_W 5 49 18 [some (.ref x), some (.ref a), some (.int (nI c)), some (.ref out), some (.int (nI i - 1))] [] (od_cm S M ρ1) (od_Re S M ρ0 [out, x + 3, x + 5] ok0 none P0)) → od_W 5 49 0 [some (.ref x), some (.ref a), some (.int (nI c)), some (.ref out), none] [] (od_cm S M ρ0) (od_Re S M ρ0 [out, x + 3, x + 5] ok0 none P0) := by
  intro p
  induction p with
  | nil => intro u v ts i h; exact h.elim
  | cons p r ih =>
    intro u v ts i hp hal hiu hiv hL hpar hx hok hk
    have h60 := hx.le hb
    rw [List.length_append, List.length_append] at h60
    cases r with
    | nil =>
      obtain ⟨h1, h2, h3, h4⟩ := hp
      subst h1
      have hat := tm_al_app.mp hal
      have hx2 : od_hl ρ0 a (u ++ (tm_fl p.1 ++ (tm_t p.2.1 ++ (tm_fl p.2.2 ++ v)))) := by rw [tm_fl_app, tm_fl] at hx; simpa [List.append_assoc] using hx
      have eL : L = i := by simp at hL; omega
      rw [tm_fl_app, tm_fl, List.length_append, List.length_append, tm_t_len] at h60
      have hpar2 : (i = 0 ∧ u = [] ∧ v = []) ∨ (1 ≤ i ∧ 1 ≤ u.length ∧ st (i - 1) = nI (u.length - 1) ∧ en (i - 1) = nI (u.length + (tm_fl p.1).length + (tm_t p.2.1).length + (tm_fl p.2.2).length + 2)) := by
        rcases hpar with z | ⟨z1, z2, z3, z4⟩
        · exact Or.inl z
        · refine Or.inr ⟨z1, z2, z3, ?_⟩
          rw [z4, tm_fl_app, tm_fl, List.length_append, List.length_append]
          congr 1
          omega
      subst eL
      refine od_W.rn (pc' := 3) (ls' := [some (.ref _), some (.ref _), some (.int _), some (.ref _), none]) (st' := [.ref _, .ref _, .ref _]) 3 rfl ?_
      refine od_rG rfl (od_cm_o n0 hH) rfl rfl ?_
      refine od_W.rn (pc' := 7) (ls' := [some (.ref _), some (.ref _), some (.int _), some (.ref _), none]) (st' := [.ref _, .int _, .ref _, .ref _]) 1 rfl ?_
      refine od_rV (as := [.ref a, .int (nI L), .ref out]) rfl rfl rfl rfl (od_cm_o n0 hH) rfl (Nat.le_of_ble_eq_true rfl) (Nat.le_of_ble_eq_true rfl) (lt_makeThinned hS ha ho (Ne.symm (od_ne na (by simp))) n0 n1 n2 hb (by omega) hat.2.1 hx2 hH hst hen h2 h3 hpar2) (Nat.le_of_ble_eq_true rfl) (fun o M1 hq => ?_)
      refine od_Re.kp hq rfl (by simp) (od_fr0 ρ0 _) (fun _ => trivial) (fun ρ1 f1 g1 b1 p1 k1 => ?_)
      refine od_W.rn (pc' := 11) (ls' := [some (.ref _), some (.ref _), some (.int _), some (.ref _), none]) (st' := [.ref _]) 1 rfl ?_
      refine od_rG rfl (od_cm_o n0 hH) rfl rfl ?_
      refine od_W.rn (pc' := 18) (ls' := [some (.ref _), some (.ref _), some (.int _), some (.ref _), some (.int _)]) (st' := []) 3 rfl ?_
      exact hk ρ1 g1 b1 p1 trivial
    | cons q r =>
      obtain ⟨h1, h2, h3, h4, h5⟩ := hp
      subst h1
      have hat := tm_al_app.mp hal
      have hW := hat.2.1.1
      have hx2 : od_hl ρ0 a (u ++ (tm_fl p.1 ++ (tm_t p.2.1 ++ (tm_fl p.2.2 ++ v)))) := by rw [tm_fl_app, tm_fl] at hx; simpa [List.append_assoc] using hx
      rw [tm_fl_app, tm_fl, List.length_append, List.length_append, tm_t_len] at h60
      have hpar2 : (i = 0 ∧ u = [] ∧ v = []) ∨ (1 ≤ i ∧ 1 ≤ u.length ∧ st (i - 1) = nI (u.length - 1) ∧ en (i - 1) = nI (u.length + (tm_fl p.1).length + (tm_t p.2.1).length + (tm_fl p.2.2).length + 2)) := by
        rcases hpar with z | ⟨z1, z2, z3, z4⟩
        · exact Or.inl z
        · refine Or.inr ⟨z1, z2, z3, ?_⟩
          rw [z4, tm_fl_app, tm_fl, List.length_append, List.length_append]
          congr 1
          omega
      have hx5 : od_hl ρ0 a ((u ++ tm_fl p.1 ++ [1]) ++ (tm_fl (tm_tp p.2.1.1) ++ ([0, p.2.1.2] ++ (tm_fl p.2.2 ++ v)))) := by
        rw [tm_fl_tp hW, show (u ++ tm_fl p.1 ++ [1]) ++ (p.2.1.1 ++ ([0, p.2.1.2] ++ (tm_fl p.2.2 ++ v))) = u ++ (tm_fl p.1 ++ (tm_t p.2.1 ++ (tm_fl p.2.2 ++ v))) by simp [tm_t]]; exact hx2
      have hu2 : (u ++ tm_fl p.1 ++ [1]).length = u.length + (tm_fl p.1).length + 1 := by rw [List.length_append, List.length_append]; rfl
      have hcc : hy_cc c r ≤ 1001 ∧ 1 ≤ hy_cc c r := by unfold hy_cc; split <;> omega
      refine ih (u ++ tm_fl p.1 ++ [1]) ([0, p.2.1.2] ++ (tm_fl p.2.2 ++ v)) (tm_tp p.2.1.1) (i + 1) h5 (tm_al_tp hW) (by rw [hu2]; omega) (by simp; omega) (by simp at hL ⊢; omega) (Or.inr ⟨by omega, by rw [hu2]; omega, ?_, ?_⟩) hx5 (fun z => (hok z).1) ?_
      · rw [hu2]; exact h2
      · rw [hu2, tm_fl_tp hW, show i + 1 - 1 = i by omega, h3, tm_t_len]; congr 1; omega
      · intro ρ1 g1 b1 p1 k1
        have em : nI (i + 1) - 1 = nI i := nI_pred i
        have eL1 : nI L - 1 = nI (L - 1) := nI_subI (a := 1) (by simp at hL; omega)
        have hWc := sp_cut_W hc (q :: r) st en _ _ _ (tm_al_tp hW) h5 k1
        rw [em]
        have tail : ∀ cl : Int64, cl = lN (hy_cc c r) → od_W 5 49 47 [some (.ref x), some (.ref a), some (.int (nI c)), some (.ref out), some (.int (nI i))] [.long cl, .ref out, .ref (x + 5)] (od_cm S M ρ1) (od_Re S M ρ0 [out, x + 3, x + 5] ok0 none P0) := by
          intro cl hcl
          subst hcl
          refine od_rV (as := [.ref out, .long (lN (hy_cc c r))]) rfl rfl rfl rfl (od_cm_r r5) rfl (Nat.le_of_ble_eq_true rfl) (Nat.le_of_ble_eq_true rfl) (lt_becomeTerm hS r5 ho (Ne.symm (od_ne no (by simp))) b1 p1 (by omega)) (Nat.le_of_ble_eq_true rfl) (fun o M1 hq => ?_)
          refine od_Re.kp hq rfl (by simp) (g1) (fun z => (hok z).2.1) (fun ρ2 f2 g2 b2 p2 k2 => ?_)
          have hx6 := hx2.fr (g2 a na)
          have p2' : od_hl ρ2 (x + 5) (tm_fl [(sp_cut c (q :: r), hy_cc c r)]) := by rw [tm_fl_one]; exact p2
          refine od_W.rn (pc' := 55) (ls' := [some (.ref _), some (.ref _), some (.int _), some (.ref _), some (.int _)]) (st' := [.ref _, .int _, .ref _, .ref _]) 4 rfl ?_
          refine od_rG rfl (od_cm_o n0 hH) rfl rfl ?_
          refine od_rV (as := [.ref a, .int (nI i), .ref (x + 3)]) rfl rfl rfl rfl (od_cm_o n0 hH) rfl (Nat.le_of_ble_eq_true rfl) (Nat.le_of_ble_eq_true rfl) (lt_makeThinned hS ha r3 (Ne.symm (od_ne na (by simp))) n0 n1 n2 b2 (by omega) hat.2.1 hx6 hH hst hen h2 h3 hpar2) (Nat.le_of_ble_eq_true rfl) (fun o M1 hq => ?_)
          refine od_Re.kp hq rfl (by simp) (g2) (fun _ => trivial) (fun ρ3 f3 g3 b3 p3 k3 => ?_)
          have p3' := p2'.fr (f3 (x + 5) (by simp))
          refine od_W.rn (pc' := 62) (ls' := [some (.ref _), some (.ref _), some (.int _), some (.ref _), some (.int _)]) (st' := [.ref _]) 1 rfl ?_
          refine od_rG rfl (od_cm_o n0 hH) rfl rfl ?_
          refine od_W.rn (pc' := 66) (ls' := [some (.ref _), some (.ref _), some (.int _), some (.ref _), some (.int _)]) (st' := [.ref _, .ref _]) 1 rfl ?_
          refine od_rG rfl (od_cm_o n0 hH) rfl rfl ?_
          refine od_W.rn (pc' := 70) (ls' := [some (.ref _), some (.ref _), some (.int _), some (.ref _), some (.int _)]) (st' := [.ref _, .ref _, .ref _]) 1 rfl ?_
          refine od_rSt (as := [.ref (x + 3), .ref (x + 5), .ref out]) rfl rfl rfl rfl (Nat.le_of_ble_eq_true rfl) (Nat.le_of_ble_eq_true rfl) (lt_makeNaturalSum hS r3 r5 ho (od_ne no (by simp)) (od_ne no (by simp)) b3 (hy_th_al hal) (us := [(sp_cut c (q :: r), hy_cc c r)]) ⟨⟨hWc, hcc.2, by omega⟩, trivial⟩ p3 p3') (Nat.le_of_ble_eq_true rfl) (fun o M1 hq => ?_)
          refine od_Re.kp hq rfl (by simp) (g3) (fun z => (hok z).2.2) (fun ρ4 f4 g4 b4 p4 k4 => ?_)
          refine od_W.rn (pc' := 18) (ls' := [some (.ref _), some (.ref _), some (.int _), some (.ref _), some (.int _)]) (st' := []) 2 rfl ?_
          rw [show nI i + Int32.ofInt (-1) = nI i - 1 from (Int32.sub_eq_add_neg (nI i) 1).symm]
          exact hk ρ4 g4 b4 p4 ⟨k1, k2, k4⟩
        refine od_W.rn (pc' := 20) (ls' := [some (.ref _), some (.ref _), some (.int _), some (.ref _), some (.int _)]) (st' := [.int _]) 1 rfl ?_
        refine od_r1F rfl (of_decide_eq_true rfl) (decide_eq_false (nI_pos (by omega))) ?_
        refine od_W.rn (pc' := 24) (ls' := [some (.ref _), some (.ref _), some (.int _), some (.ref _), some (.int _)]) (st' := [.ref _]) 1 rfl ?_
        refine od_rG rfl (od_cm_o n0 hH) rfl rfl ?_
        refine od_W.rn (pc' := 31) (ls' := [some (.ref _), some (.ref _), some (.int _), some (.ref _), some (.int _)]) (st' := [.ref _, .int _, .ref _, .ref _]) 3 rfl ?_
        refine od_rG rfl (od_cm_o n0 hH) rfl rfl ?_
        refine od_W.rn (pc' := 36) (ls' := [some (.ref _), some (.ref _), some (.int _), some (.ref _), some (.int _)]) (st' := [.int _, .int _, .ref _, .ref _]) 2 rfl ?_
        rw [show nI L - Int32.ofInt 1 = nI (L - 1) from eL1]
        by_cases hr0 : r.length = 0
        · have hcc0 : hy_cc c r = c + 1 := if_pos hr0
          refine od_r2F rfl (of_decide_eq_true rfl) ((show (!decide (nI i = nI (L - 1))) = false by rw [show L - 1 = i by simp at hL; omega, decide_eq_true rfl]; rfl)) ?_
          refine od_W.rn (pc' := 47) (ls' := [some (.ref _), some (.ref _), some (.int _), some (.ref _), some (.int _)]) (st' := [.long _, .ref _, .ref _]) 5 rfl ?_
          refine tail _ ?_
          rw [hcc0]
          exact (congrArg Int32.toInt64 (nI_1 c)).trans (nI_1000 (by omega))
        · have hcc0 : hy_cc c r = 1 := if_neg hr0
          refine od_r2T rfl rfl ((show (!decide (nI i = nI (L - 1))) = true by rw [decide_eq_false (fun z => absurd ((nI_eq (by omega) (by omega)).mp z) (by simp at hL; omega))]; rfl)) ?_
          refine od_W.rn (pc' := 47) (ls' := [some (.ref _), some (.ref _), some (.int _), some (.ref _), some (.int _)]) (st' := [.long _, .ref _, .ref _]) 1 rfl ?_
          exact tail _ (by rw [hcc0]; rfl)
theorem lt_cutHead {c L : Nat} (hS : od_SS S) (ha : S a = true) (ho : S out = true) (r3 : S (x + 3) = true) (r5 : S (x + 5) = true) (na : a ∉ [out, x + 3, x + 5]) (no : out ∉ [x + 3, x + 5]) (n0 : od_no S x) (n1 : od_no S (x + 1)) (n2 : od_no S (x + 2)) (hb : od_Bd ρ0) (hc : c ≤ 1000) (hLb : L < 1000) {st en : Nat → Int32} {p : hy_P} {ts : List tm_T} (hH : od_HY M x (nI L)) (hst : M.2.2 (x + 1) = some (od_ia 20 st)) (hen : M.2.2 (x + 2) = some (od_ia 20 en)) (hL : L = p.length - 1) (hp : hy_p st en [] 0 ts p) (hal : tm_al ts) (hx : od_hl ρ0 a (tm_fl ts)) : od_W 5 49 0 (od_ent 49 [.ref x, .ref a, .int (nI c), .ref out]) [] (od_cm S M ρ0) (od_Re S M ρ0 [out, x + 3, x + 5] (ok_cut c p) none (fun ρ' => od_hl ρ' out (sp_cut c p))) := by
  have e0 : od_ent 49 [.ref x, .ref a, .int (nI c), .ref out] = [some (.ref x), some (.ref a), some (.int (nI c)), some (.ref out), none] := rfl
  rw [e0]
  refine cl_cut hS ha ho r3 r5 na no n0 n1 n2 hb hc hLb hH hst hen p [] [] ts 0 hp hal (by omega) (by simp) (by omega) (Or.inl ⟨rfl, rfl, rfl⟩) (by simpa using hx) (fun z => z) (fun ρ1 g1 b1 p1 k1 => ?_)
  refine od_W.rn (pc' := 20) (ls' := [some (.ref _), some (.ref _), some (.int _), some (.ref _), some (.int _)]) (st' := [.int _]) 1 rfl ?_
  refine od_r1T rfl rfl (rfl) ?_
  refine od_W.fin rfl ?_
  exact od_Re.yes g1 b1 k1 p1
end CUT
end
section
/-! The pile that FAST works off. -/
abbrev fs_S : Type := List (List Nat × Nat)
def fs_pop (xs : List Nat) (c : Nat) (rest : fs_S) : fs_S := if c ≤ 1 then rest else (xs, c - 1) :: rest
def fs_nx (xs : List Nat) (c : Nat) (rest : fs_S) (v : Nat) : Option (fs_S × Nat) :=
  if tm_k (tm_tp xs) = 0 then (if v + 1 ≤ 1000000 then some (fs_pop xs c rest, v + 1) else none)
  else if tm_k (tm_tp xs) = 2 then (if (fs_pop xs c rest).length < 12 then some ((sp_mem v (tm_tp xs), 1) :: fs_pop xs c rest, v) else none)
  else if v = 0 then some (fs_pop xs c rest, v) else if (fs_pop xs c rest).length < 12 then some ((sp_pr (tm_tp xs), v) :: fs_pop xs c rest, v) else none
def fs_run : Nat → fs_S → Nat → Option Nat
  | _, [], v => some v
  | 0, _ :: _, _ => none
  | f + 1, p :: rest, v => match fs_nx p.1 p.2 rest v with
    | none => none
    | some q => fs_run f q.1 q.2
def ok_fs : Nat → fs_S → Nat → Prop
  | _, [], _ => True
  | 0, _ :: _, _ => True
  | f + 1, p :: rest, v => (tm_k (tm_tp p.1) = 2 → tm_ft (sp_mem v (tm_tp p.1))) ∧ (match fs_nx p.1 p.2 rest v with
    | none => True
    | some q => ok_fs f q.1 q.2)
/-- the rows and the times of the pile hold this stack -/
def pl_ok (ρ : od_Rm) (tm : Nat → Int32) (x : Nat) : fs_S → Prop
  | [] => True
  | p :: rest => od_hl ρ (x + 5 + 2 * rest.length) p.1 ∧ tm rest.length = nI p.2 ∧ 1 ≤ p.2 ∧ p.2 ≤ 1000000 ∧ tm_W p.1 ∧ pl_ok ρ tm x rest
theorem pl_ok.fr {ρ ρ' : od_Rm} {tm tm' : Nat → Int32} {x : Nat} : ∀ {s : fs_S}, pl_ok ρ tm x s → (∀ j, j < s.length → ρ' (x + 5 + 2 * j) = ρ (x + 5 + 2 * j) ∧ tm' j = tm j) → pl_ok ρ' tm' x s := by
  intro s
  induction s with
  | nil => intro _ _; exact trivial
  | cons p s ih =>
    intro h hf
    have h1 := hf s.length (by simp)
    exact ⟨h.1.fr h1.1, h1.2.trans h.2.1, h.2.2.1, h.2.2.2.1, h.2.2.2.2.1, ih h.2.2.2.2.2 (fun j hj => hf j (by simp; omega))⟩
abbrev od_PI (M : od_M) (x : Nat) (h n : Int32) : Prop := M.2.2 x = some (od_ob 5 [.ref (x + 1), .ref (x + 2), .int h, .int n, .ref (x + 3)])
/-- the fixed parts of the pile -/
def pl_fx (S : Nat → Bool) (M : od_M) (x : Nat) : Prop := M.2.2 (x + 1) = some (od_ra 12 (fun i => some (x + 5 + 2 * i))) ∧ od_no S x ∧ od_no S (x + 1) ∧ od_no S (x + 2) ∧ S (x + 3) = true ∧ ∀ i, i < 12 → S (x + 5 + 2 * i) = true
theorem pl_fx.eM {S : Nat → Bool} {M M' : od_M} {x : Nat} (h : pl_fx S M x) (e : od_eM [x, x + 2] M M') : pl_fx S M' x := ⟨(e.2.2 _ (by simp)).trans h.1, h.2⟩
def pl_st (M : od_M) (ρ : od_Rm) (x : Nat) (s : fs_S) (v : Nat) : Prop := od_PI M x (nI s.length) (nI v) ∧ (∃ tm, M.2.2 (x + 2) = some (od_ia 12 tm) ∧ pl_ok ρ tm x s) ∧ s.length ≤ 12 ∧ v ≤ 1000000
def pl_sh (M : od_M) (x : Nat) : Prop := ∃ h n tm, od_PI M x h n ∧ M.2.2 (x + 2) = some (od_ia 12 tm)
theorem pl_st.sh {M : od_M} {ρ : od_Rm} {x : Nat} {s : fs_S} {v : Nat} (h : pl_st M ρ x s v) : pl_sh M x := by
  obtain ⟨h1, ⟨tm, h2, _⟩, _⟩ := h
  exact ⟨_, _, tm, h1, h2⟩
def pl_fr (x : Nat) (ρ ρ' : od_Rm) : Prop := ∀ q, q < x + 3 ∨ x + 28 ≤ q → ρ' q = ρ q
section PILE
variable {S : Nat → Bool} {ρ : od_Rm} {x r : Nat}
theorem ct_pushes0 {M : od_M} {h n c : Int32} (hc : ¬ 0 < c) : od_W 3 54 0 (od_ent 54 [.ref x, .ref r, .int c]) [] (od_cm S M ρ) (fun o M' => o = .inl (some (.int 1)) ∧ M' = od_cm S M ρ) := by
  have e0 : od_ent 54 [.ref x, .ref r, .int c] = [some (.ref x), some (.ref r), some (.int c)] := rfl
  rw [e0]
  refine od_W.rn (pc' := 1) (ls' := [some (.ref _), some (.ref _), some (.int _)]) (st' := [.int _]) 1 rfl ?_
  refine od_r1F rfl (of_decide_eq_true rfl) (decide_eq_false hc) ?_
  refine od_W.rn (pc' := 5) (ls' := [some (.ref _), some (.ref _), some (.int _)]) (st' := [.int _]) 1 rfl ?_
  refine od_W.fin rfl ?_
  exact ⟨rfl, rfl⟩
theorem ct_pushesF {M : od_M} {n : Int32} {c h : Nat} (hx : pl_fx S M x) (hP : od_PI M x (nI h) n) (h12 : 12 ≤ h) (hh : h < 1000) (hc : 0 < c) (hc2 : c ≤ 1000000) : od_W 3 54 0 (od_ent 54 [.ref x, .ref r, .int (nI c)]) [] (od_cm S M ρ) (fun o M' => o = .inl (some (.int 0)) ∧ M' = od_cm S M ρ) := by
  have e0 : od_ent 54 [.ref x, .ref r, .int (nI c)] = [some (.ref x), some (.ref r), some (.int (nI c))] := rfl
  rw [e0]
  refine od_W.rn (pc' := 1) (ls' := [some (.ref _), some (.ref _), some (.int _)]) (st' := [.int _]) 1 rfl ?_
  refine od_r1T rfl rfl (decide_eq_true (nI_lt (a := 0) hc (by omega))) ?_
  refine od_W.rn (pc' := 7) (ls' := [some (.ref _), some (.ref _), some (.int _)]) (st' := [.ref _]) 1 rfl ?_
  refine od_rG rfl (od_cm_o hx.2.1 hP) rfl rfl ?_
  refine od_W.rn (pc' := 12) (ls' := [some (.ref _), some (.ref _), some (.int _)]) (st' := [.int _, .int _]) 1 rfl ?_
  refine od_r2F rfl (of_decide_eq_true rfl) (decide_eq_false (nI_nlt (b := 12) h12 (by omega))) ?_
  refine od_W.rn (pc' := 16) (ls' := [some (.ref _), some (.ref _), some (.int _)]) (st' := [.int _]) 1 rfl ?_
  refine od_W.fin rfl ?_
  exact ⟨rfl, rfl⟩
theorem lt_pushes {M : od_M} {n : Int32} {c h : Nat} {tm : Nat → Int32} (hS : od_SS S) (hx : pl_fx S M x) (hP : od_PI M x (nI h) n) (ht : M.2.2 (x + 2) = some (od_ia 12 tm)) (h12 : h < 12) (hc : 0 < c) (hc2 : c ≤ 1000000) (hr : S r = true) (hne : x + 5 + 2 * h ≠ r) (hb : od_Bd ρ) {xs : List Nat} (hl : od_hl ρ r xs) : od_W 3 54 0 (od_ent 54 [.ref x, .ref r, .int (nI c)]) [] (od_cm S M ρ) (fun o M2 => ∃ M' ρ', od_eM [x, x + 2] M M' ∧ (∀ q, q ≠ x + 5 + 2 * h → ρ' q = ρ q) ∧ od_Bd ρ' ∧ o = .inl (some (.int 1)) ∧ M2 = od_cm S M' ρ' ∧ od_hl ρ' (x + 5 + 2 * h) xs ∧ od_PI M' x (nI (h + 1)) n ∧ M'.2.2 (x + 2) = some (od_ia 12 (upd tm h (nI c)))) := by
  have e0 : od_ent 54 [.ref x, .ref r, .int (nI c)] = [some (.ref x), some (.ref r), some (.int (nI c))] := rfl
  rw [e0]
  obtain ⟨x1, x2, x3, x4, x5, x6⟩ := hx
  have rh := x6 h h12
  refine od_W.rn (pc' := 1) (ls' := [some (.ref _), some (.ref _), some (.int _)]) (st' := [.int _]) 1 rfl ?_
  refine od_r1T rfl rfl (decide_eq_true (nI_lt (a := 0) hc (by omega))) ?_
  refine od_W.rn (pc' := 7) (ls' := [some (.ref _), some (.ref _), some (.int _)]) (st' := [.ref _]) 1 rfl ?_
  refine od_rG rfl (od_cm_o x2 hP) rfl rfl ?_
  refine od_W.rn (pc' := 12) (ls' := [some (.ref _), some (.ref _), some (.int _)]) (st' := [.int _, .int _]) 1 rfl ?_
  refine od_r2T rfl rfl (decide_eq_true (nI_lt (b := 12) h12 (by omega))) ?_
  refine od_W.rn (pc' := 18) (ls' := [some (.ref _), some (.ref _), some (.int _)]) (st' := [.ref _]) 1 rfl ?_
  refine od_rG rfl (od_cm_o x2 hP) rfl rfl ?_
  refine od_W.rn (pc' := 22) (ls' := [some (.ref _), some (.ref _), some (.int _)]) (st' := [.ref _, .ref _]) 1 rfl ?_
  refine od_rG rfl (od_cm_o x2 hP) rfl rfl ?_
  refine od_rAL rfl (od_cm_o x3 x1) (rfl) (h12) (by decide) ?_
  refine od_W.rn (pc' := 27) (ls' := [some (.ref _), some (.ref _), some (.int _)]) (st' := [.ref _, .ref _]) 1 rfl ?_
  refine od_rV (as := [.ref r]) rfl rfl rfl rfl (od_cm_r rh) rfl (Nat.le_of_ble_eq_true rfl) (Nat.le_of_ble_eq_true rfl) (lt_become hS rh hr hne hb hl) (Nat.le_of_ble_eq_true rfl) (fun o M1 hq => ?_)
  refine od_Re.kq hq rfl (fun ρ1 f1 b1 k1 => absurd trivial k1) (fun ρ1 f1 b1 p1 k1 => ?_)
  refine od_W.rn (pc' := 31) (ls' := [some (.ref _), some (.ref _), some (.int _)]) (st' := [.ref _]) 1 rfl ?_
  refine od_rG rfl (od_cm_o x2 hP) rfl rfl ?_
  refine od_W.rn (pc' := 35) (ls' := [some (.ref _), some (.ref _), some (.int _)]) (st' := [.ref _, .ref _]) 1 rfl ?_
  refine od_rG rfl (od_cm_o x2 hP) rfl rfl ?_
  refine od_W.rn (pc' := 39) (ls' := [some (.ref _), some (.ref _), some (.int _)]) (st' := [.int _, .int _, .ref _]) 1 rfl ?_
  refine od_rIS rfl (od_cm_o x4 ht) (rfl) (h12) (by decide) ?_
  rw [od_cm_set x4]
  have hP1 : od_PI (od_set M (x + 2) (od_ia 12 (upd tm h (nI c)))) x (nI h) n := (od_set_o (by omega)).trans hP
  refine od_W.rn (pc' := 42) (ls' := [some (.ref _), some (.ref _), some (.int _)]) (st' := [.ref _, .ref _]) 2 rfl ?_
  refine od_rG rfl (od_cm_o x2 hP1) rfl rfl ?_
  refine od_W.rn (pc' := 47) (ls' := [some (.ref _), some (.ref _), some (.int _)]) (st' := [.int _, .ref _]) 2 rfl ?_
  refine od_rP rfl (od_cm_o x2 hP1) rfl (by simp) rfl (by decide) ?_
  rw [od_cm_set x2, show nI h + Int32.ofInt 1 = nI (h + 1) from nI_inc h]
  refine od_W.rn (pc' := 51) (ls' := [some (.ref _), some (.ref _), some (.int _)]) (st' := [.int _]) 1 rfl ?_
  refine od_W.fin rfl ?_
  refine ⟨_, ρ1, ((od_eM.refl _ M).set (a := x + 2) (by simp)).set (a := x) (by simp), fun q hq => f1 q (od_n1 hq), b1, rfl, rfl, p1, od_set_s _ _ _, ?_⟩
  rw [od_set_o (by omega)]
  exact od_set_s _ _ _
end PILE
end
section
/-! The pile: one use of its top; the work. -/
def pl_ao (S : Nat → Bool) (M : od_M) (ρ : od_Rm) (x : Nat) (xs : List Nat) (c : Nat) (rest : fs_S) (v : Nat) : od_O → od_M → Prop := fun o M2 => ∃ M' ρ', od_eM [x, x + 2] M M' ∧ pl_fr x ρ ρ' ∧ od_Bd ρ' ∧ pl_sh M' x ∧ ((¬ (tm_k (tm_tp xs) = 2 → tm_ft (sp_mem v (tm_tp xs))) ∧ o = .inr (2, M.1) ∧ M2 = od_xm (od_cm S M' ρ') 2) ∨ ((tm_k (tm_tp xs) = 2 → tm_ft (sp_mem v (tm_tp xs))) ∧ M2 = od_cm S M' ρ' ∧ ((fs_nx xs c rest v = none ∧ o = .inl (some (.int 0))) ∨ ∃ q, fs_nx xs c rest v = some q ∧ o = .inl (some (.int 1)) ∧ pl_st M' ρ' x q.1 q.2)))
theorem pl_pop {ρ : od_Rm} {tm : Nat → Int32} {x c : Nat} {xs : List Nat} {rest : fs_S} (h : pl_ok ρ tm x ((xs, c) :: rest)) : pl_ok ρ (upd tm rest.length (nI (c - 1))) x (fs_pop xs c rest) := by
  have hr : pl_ok ρ (upd tm rest.length (nI (c - 1))) x rest := h.2.2.2.2.2.fr (fun j hj => ⟨rfl, upd_o (by omega)⟩)
  have h3 := h.2.2.2.1
  unfold fs_pop
  by_cases hc : c ≤ 1
  · rw [if_pos hc]; exact hr
  · rw [if_neg hc]
    dsimp only at h3
    exact ⟨h.1, upd_s _ _ _, by dsimp only; omega, by dsimp only; omega, h.2.2.2.2.1, hr⟩
theorem fs_pop_len (xs : List Nat) (c : Nat) (rest : fs_S) : (fs_pop xs c rest).length = if c ≤ 1 then rest.length else rest.length + 1 := by
  unfold fs_pop
  split <;> rfl
section PILE2
variable {S : Nat → Bool} {ρ : od_Rm} {x r : Nat}
set_option maxRecDepth 100000 in
theorem lt_appliesTop {M : od_M} (hS : od_SS S) (hx : pl_fx S M x) (hb : od_Bd ρ) {xs : List Nat} {c v : Nat} {rest : fs_S} (hst : pl_st M ρ x ((xs, c) :: rest) v) : od_W 5 53 0 (od_ent 53 [.ref x]) [] (od_cm S M ρ) (pl_ao S M ρ x xs c rest v) := by
  have e0 : od_ent 53 [.ref x] = [some (.ref x), none, none] := rfl
  rw [e0]
  obtain ⟨hP, ⟨tm, ht, hok⟩, h12, hv⟩ := hst
  obtain ⟨x1, x2, x3, x4, x5, x6⟩ := id hx
  simp only [List.length_cons] at h12 hP
  have o1 : od_hl ρ (x + 5 + 2 * rest.length) xs := hok.1
  have o2 : tm rest.length = nI c := hok.2.1
  have o3 : 1 ≤ c := hok.2.2.1
  have o4 : c ≤ 1000000 := hok.2.2.2.1
  have o5 : tm_W xs := hok.2.2.2.2.1
  have rt := x6 rest.length (by omega)
  have em : nI (rest.length + 1) - 1 = nI rest.length := nI_pred _
  have ec : nI c - 1 = nI (c - 1) := nI_subI (a := 1) o3
  have hpop := pl_pop hok
  have hal := tm_al_tp o5
  have o1' : od_hl ρ (x + 5 + 2 * rest.length) (tm_fl (tm_tp xs)) := by rw [tm_fl_tp o5]; exact o1
  refine od_W.rn (pc' := 1) (ls' := [some (.ref _), none, none]) (st' := [.ref _]) 1 rfl ?_
  refine od_rG rfl (od_cm_o x2 hP) rfl rfl ?_
  refine od_W.rn (pc' := 5) (ls' := [some (.ref _), none, none]) (st' := [.ref _, .ref _]) 1 rfl ?_
  refine od_rG rfl (od_cm_o x2 hP) rfl rfl ?_
  refine od_W.rn (pc' := 10) (ls' := [some (.ref _), none, none]) (st' := [.int _, .ref _]) 2 rfl ?_
  refine od_rAL rfl (od_cm_o x3 x1) (em) (by omega) (by decide) ?_
  refine od_W.rn (pc' := 13) (ls' := [some (.ref _), some (.ref _), none]) (st' := [.ref _]) 2 rfl ?_
  refine od_rG rfl (od_cm_o x2 hP) rfl rfl ?_
  refine od_W.rn (pc' := 17) (ls' := [some (.ref _), some (.ref _), none]) (st' := [.ref _, .ref _]) 1 rfl ?_
  refine od_rG rfl (od_cm_o x2 hP) rfl rfl ?_
  refine od_W.rn (pc' := 23) (ls' := [some (.ref _), some (.ref _), none]) (st' := [.int _, .ref _, .int _, .ref _]) 3 rfl ?_
  refine od_rIL rfl (od_cm_o x4 ht) (em) (by omega) (by decide) ?_
  refine od_W.rn (pc' := 26) (ls' := [some (.ref _), some (.ref _), none]) (st' := [.int _, .int _, .ref _]) 2 rfl ?_
  rw [o2]
  refine od_rIS rfl (od_cm_o x4 ht) (em) (by omega) (by decide) ?_
  rw [od_cm_set x4, show nI c - Int32.ofInt 1 = nI (c - 1) from ec]
  have hP1 : od_PI (od_set M (x + 2) (od_ia 12 (upd tm rest.length (nI (c - 1))))) x (nI (rest.length + 1)) (nI v) := (od_set_o (by omega)).trans hP
  have ht1 := od_set_s M (x + 2) (od_ia 12 (upd tm rest.length (nI (c - 1))))
  have eM1 : od_eM [x, x + 2] M (od_set M (x + 2) (od_ia 12 (upd tm rest.length (nI (c - 1))))) := (od_eM.refl _ _).set (by simp)
  generalize hM1 : od_set M (x + 2) (od_ia 12 (upd tm rest.length (nI (c - 1)))) = M1 at *
  refine od_W.rn (pc' := 28) (ls' := [some (.ref _), some (.ref _), none]) (st' := [.ref _]) 1 rfl ?_
  refine od_rG rfl (od_cm_o x2 hP1) rfl rfl ?_
  refine od_W.rn (pc' := 32) (ls' := [some (.ref _), some (.ref _), none]) (st' := [.ref _, .ref _]) 1 rfl ?_
  refine od_rG rfl (od_cm_o x2 hP1) rfl rfl ?_
  refine od_W.rn (pc' := 37) (ls' := [some (.ref _), some (.ref _), none]) (st' := [.int _, .ref _]) 2 rfl ?_
  refine od_rIL rfl (od_cm_o x4 ht1) (em) (by omega) (by decide) ?_
  have tail : ∀ M3 : od_M, od_eM [x, x + 2] M M3 → od_PI M3 x (nI (fs_pop xs c rest).length) (nI v) → M3.2.2 (x + 2) = some (od_ia 12 (upd tm rest.length (nI (c - 1)))) → od_W 5 53 51 [some (.ref x), some (.ref (x + 5 + 2 * rest.length)), none] [] (od_cm S M3 ρ) (pl_ao S M ρ x xs c rest v) := by
    intro M3 eM3 hP3 ht3
    have hl12 : (fs_pop xs c rest).length ≤ rest.length + 1 := by rw [fs_pop_len]; split <;> omega
    have hx3 := hx.eM eM3
    have hsh3 : pl_sh M3 x := ⟨_, _, _, hP3, ht3⟩
    generalize hpl : fs_pop xs c rest = st1 at *
    refine od_W.rn (pc' := 52) (ls' := [some (.ref _), some (.ref _), none]) (st' := [.ref _]) 1 rfl ?_
    refine od_rV (as := []) rfl rfl rfl rfl (od_cm_r rt) rfl (Nat.le_of_ble_eq_true rfl) (Nat.le_of_ble_eq_true rfl) (ct_sort hS rt (hb _) hal o1'.1) (Nat.le_of_ble_eq_true rfl) (fun o M1 hq => ?_)
    obtain ⟨rfl, rfl⟩ := hq
    refine od_K.ret ?_
    refine od_W.rn (pc' := 57) (ls' := [some (.ref _), some (.ref _), some (.int _)]) (st' := [.int _]) 2 rfl ?_
    rcases tm_k_le (tm_tp xs) with hk | hk | hk
    · have hnk : ¬ tm_k (tm_tp xs) = 2 := by omega
      rw [hk]
      refine od_r1F rfl (of_decide_eq_true rfl) (rfl) ?_
      refine od_W.rn (pc' := 62) (ls' := [some (.ref _), some (.ref _), some (.int _)]) (st' := [.ref _, .ref _]) 2 rfl ?_
      refine od_rG rfl (od_cm_o x2 hP3) rfl rfl ?_
      refine od_W.rn (pc' := 67) (ls' := [some (.ref _), some (.ref _), some (.int _)]) (st' := [.int _, .ref _]) 2 rfl ?_
      refine od_rP rfl (od_cm_o x2 hP3) rfl (by simp) rfl (by decide) ?_
      rw [od_cm_set x2, show nI v + Int32.ofInt 1 = nI (v + 1) from nI_inc v]
      have hP4 : od_PI (od_set M3 x (od_ob 5 ([Value.ref (x + 1), .ref (x + 2), .int (nI st1.length), .int (nI v), .ref (x + 3)].set 3 (.int (nI (v + 1)))))) x (nI st1.length) (nI (v + 1)) := od_set_s _ _ _
      have ht4 : (od_set M3 x (od_ob 5 ([Value.ref (x + 1), .ref (x + 2), .int (nI st1.length), .int (nI v), .ref (x + 3)].set 3 (.int (nI (v + 1)))))).2.2 (x + 2) = _ := (od_set_o (by omega)).trans ht3
      have eM4 := eM3.set (a := x) (e := od_ob 5 ([Value.ref (x + 1), .ref (x + 2), .int (nI st1.length), .int (nI v), .ref (x + 3)].set 3 (.int (nI (v + 1))))) (by simp)
      generalize hM4 : od_set M3 x (od_ob 5 ([Value.ref (x + 1), .ref (x + 2), .int (nI st1.length), .int (nI v), .ref (x + 3)].set 3 (.int (nI (v + 1))))) = M4 at *
      refine od_W.rn (pc' := 71) (ls' := [some (.ref _), some (.ref _), some (.int _)]) (st' := [.ref _]) 1 rfl ?_
      refine od_rG rfl (od_cm_o x2 hP4) rfl rfl ?_
      refine od_W.rn (pc' := 76) (ls' := [some (.ref _), some (.ref _), some (.int _)]) (st' := [.int _, .int _]) 1 rfl ?_
      by_cases hv1 : v + 1 ≤ 1000000
      · have hnx : fs_nx xs c rest v = some (st1, v + 1) := by unfold fs_nx; rw [if_pos hk, if_pos hv1, hpl]
        refine od_r2F rfl (of_decide_eq_true rfl) (decide_eq_false (nI_nlt (a := 1000000) (b := v + 1) hv1 (by omega))) ?_
        refine od_W.rn (pc' := 84) (ls' := [some (.ref _), some (.ref _), some (.int _)]) (st' := [.int _]) 2 rfl ?_
        refine od_W.fin rfl ?_
        exact ⟨M4, ρ, eM4, fun _ _ => rfl, hb, ⟨_, _, _, hP4, ht4⟩, Or.inr ⟨fun z => absurd z hnk, rfl, Or.inr ⟨_, hnx, rfl, hP4, ⟨_, ht4, hpop⟩, by dsimp only; omega, hv1⟩⟩⟩
      · have hnx : fs_nx xs c rest v = none := by unfold fs_nx; rw [if_pos hk, if_neg hv1]
        refine od_r2T rfl rfl (decide_eq_true (nI_lt (a := 1000000) (b := v + 1) (by omega) (by omega))) ?_
        refine od_W.rn (pc' := 84) (ls' := [some (.ref _), some (.ref _), some (.int _)]) (st' := [.int _]) 1 rfl ?_
        refine od_W.fin rfl ?_
        exact ⟨M4, ρ, eM4, fun _ _ => rfl, hb, ⟨_, _, _, hP4, ht4⟩, Or.inr ⟨fun z => absurd z hnk, rfl, Or.inl ⟨hnx, rfl⟩⟩⟩
    · have hnk : ¬ tm_k (tm_tp xs) = 2 := by omega
      have hnk0 : ¬ tm_k (tm_tp xs) = 0 := by omega
      obtain ⟨es, s, hes, hs0⟩ := tm_k_snoc1 hk
      have hal2 : tm_al (es ++ [s]) := hes ▸ hal
      have hlen : xs.length = (tm_fl es).length + 3 := by
        have := tm_fl_tp o5
        rw [hes, tm_fl_snoc] at this
        rw [← this, List.length_append, tm_t_len, hs0]
        rfl
      rw [hk]
      refine od_r1T rfl rfl (rfl) ?_
      refine od_W.rn (pc' := 87) (ls' := [some (.ref _), some (.ref _), some (.int _)]) (st' := [.int _, .int _]) 2 rfl ?_
      refine od_r2T rfl rfl (rfl) ?_
      refine od_W.rn (pc' := 113) (ls' := [some (.ref _), some (.ref _), some (.int _)]) (st' := [.ref _]) 1 rfl ?_
      refine od_rG rfl (od_cm_o x2 hP3) rfl rfl ?_
      refine od_rV (as := []) rfl rfl rfl rfl (od_cm_r x5) rfl (Nat.le_of_ble_eq_true rfl) (Nat.le_of_ble_eq_true rfl) (lt_clear hS x5 hb) (Nat.le_of_ble_eq_true rfl) (fun o M1 hq => ?_)
      refine od_Re.kq hq rfl (fun ρ1 f1 b1 k1 => absurd trivial k1) (fun ρ1 f1 b1 p1 k1 => ?_)
      have o6 := o1.fr (f1 (x + 5 + 2 * rest.length) (od_n1 (by omega)))
      have o7 : od_hl ρ1 (x + 5 + 2 * rest.length) ([] ++ (tm_fl es ++ (tm_t s ++ []))) := by rw [List.nil_append, List.append_nil, ← tm_fl_snoc, ← hes, tm_fl_tp o5]; exact o6
      refine od_W.rn (pc' := 122) (ls' := [some (.ref _), some (.ref _), some (.int _)]) (st' := [.ref _, .int _, .ref _]) 3 rfl ?_
      refine od_gL rfl rfl (rt) (o6.n) ?_
      refine od_W.rn (pc' := 126) (ls' := [some (.ref _), some (.ref _), some (.int _)]) (st' := [.ref _, .int _, .int _, .ref _]) 1 rfl ?_
      refine od_rG rfl (od_cm_o x2 hP3) rfl rfl ?_
      refine od_rSt (as := [.ref (x + 5 + 2 * rest.length), .int (nI 0), .int (nI xs.length), .ref (x + 3)]) rfl rfl rfl rfl (Nat.le_of_ble_eq_true rfl) (Nat.le_of_ble_eq_true rfl) (lt_putBefore hS x5 rt (by omega) b1 (tm_al_app.mp hal2).2.1 hs0 p1 o7 rfl (by simp; exact hlen)) (Nat.le_of_ble_eq_true rfl) (fun o M1 hq => ?_)
      refine od_Re.kq hq rfl (fun ρ2 f2 b2 k2 => absurd (by rw [List.nil_append, ← hes]; exact sp_pr_ft (by rw [tm_fl_tp o5]; exact ⟨o1.le hb, o1.2⟩)) k2) (fun ρ2 f2 b2 p2 k2 => ?_)
      have fr2 : ∀ q, q ≠ x + 3 → ρ2 q = ρ q := fun q hq => (f2 q (od_n1 hq)).trans (f1 q (od_n1 hq))
      have p2' : od_hl ρ2 (x + 3) (sp_pr (tm_tp xs)) := by rw [hes]; exact p2
      refine od_W.rn (pc' := 134) (ls' := [some (.ref _), some (.ref _), some (.int _)]) (st' := [.ref _, .ref _]) 2 rfl ?_
      refine od_rG rfl (od_cm_o x2 hP3) rfl rfl ?_
      refine od_W.rn (pc' := 138) (ls' := [some (.ref _), some (.ref _), some (.int _)]) (st' := [.ref _, .ref _, .ref _]) 1 rfl ?_
      refine od_rG rfl (od_cm_o x2 hP3) rfl rfl ?_
      by_cases hv0 : v = 0
      · have hnx : fs_nx xs c rest v = some (st1, v) := by unfold fs_nx; rw [if_neg hnk0, if_neg hnk, if_pos hv0, hpl]
        refine od_rV (as := [.ref (x + 3), .int (nI v)]) rfl rfl rfl rfl (od_cm_o x2 hP3) rfl (Nat.le_of_ble_eq_true rfl) (Nat.le_of_ble_eq_true rfl) (ct_pushes0 (h := 0) (n := 0) (by rw [hv0]; exact nI_nlt (a := 0) (b := 0) (by omega) (by omega))) (Nat.le_of_ble_eq_true rfl) (fun o M1 hq => ?_)
        obtain ⟨rfl, rfl⟩ := hq
        refine od_K.ret ?_
        refine od_W.fin rfl ?_
        exact ⟨M3, ρ2, eM3, fun q hq => fr2 q (by omega), b2, hsh3, Or.inr ⟨fun z => absurd z hnk, rfl, Or.inr ⟨_, hnx, rfl, hP3, ⟨_, ht3, hpop.fr (fun j hj => ⟨fr2 _ (by omega), rfl⟩)⟩, by dsimp only; omega, hv⟩⟩⟩
      · by_cases hl : st1.length < 12
        · have hnx : fs_nx xs c rest v = some ((sp_pr (tm_tp xs), v) :: st1, v) := by unfold fs_nx; rw [hpl, if_neg hnk0, if_neg hnk, if_neg hv0, if_pos hl]
          refine od_rV (as := [.ref (x + 3), .int (nI v)]) rfl rfl rfl rfl (od_cm_o x2 hP3) rfl (Nat.le_of_ble_eq_true rfl) (Nat.le_of_ble_eq_true rfl) (lt_pushes hS hx3 hP3 ht3 hl (by omega) hv x5 (by omega) b2 p2') (Nat.le_of_ble_eq_true rfl) (fun o M1 hq => ?_)
          obtain ⟨M5, ρ5, q1, q2, q3, rfl, rfl, q6, q7, q8⟩ := hq
          refine od_K.ret ?_
          refine od_W.fin rfl ?_
          refine ⟨M5, ρ5, eM3.tr q1, fun q hq => (q2 q (by omega)).trans (fr2 q (by omega)), q3, ⟨_, _, _, q7, q8⟩, Or.inr ⟨fun z => absurd z hnk, rfl, Or.inr ⟨_, hnx, rfl, q7, ⟨_, q8, q6, upd_s _ _ _, by dsimp only; omega, hv, sp_pr_W hal, hpop.fr (fun j hj => ⟨(q2 _ (by omega)).trans (fr2 _ (by omega)), upd_o (by omega)⟩)⟩, by simp; omega, hv⟩⟩⟩
        · have hnx : fs_nx xs c rest v = none := by unfold fs_nx; rw [hpl, if_neg hnk0, if_neg hnk, if_neg hv0, if_neg hl]
          refine od_rV (as := [.ref (x + 3), .int (nI v)]) rfl rfl rfl rfl (od_cm_o x2 hP3) rfl (Nat.le_of_ble_eq_true rfl) (Nat.le_of_ble_eq_true rfl) (ct_pushesF hx3 hP3 (by omega) (by omega) (by omega) hv) (Nat.le_of_ble_eq_true rfl) (fun o M1 hq => ?_)
          obtain ⟨rfl, rfl⟩ := hq
          refine od_K.ret ?_
          refine od_W.fin rfl ?_
          exact ⟨M3, ρ2, eM3, fun q hq => fr2 q (by omega), b2, hsh3, Or.inr ⟨fun z => absurd z hnk, rfl, Or.inl ⟨hnx, rfl⟩⟩⟩
    · have hnk0 : ¬ tm_k (tm_tp xs) = 0 := by omega
      rw [hk]
      refine od_r1T rfl rfl (rfl) ?_
      refine od_W.rn (pc' := 87) (ls' := [some (.ref _), some (.ref _), some (.int _)]) (st' := [.int _, .int _]) 2 rfl ?_
      refine od_r2F rfl (of_decide_eq_true rfl) (rfl) ?_
      refine od_W.rn (pc' := 92) (ls' := [some (.ref _), some (.ref _), some (.int _)]) (st' := [.ref _, .ref _]) 2 rfl ?_
      refine od_rG rfl (od_cm_o x2 hP3) rfl rfl ?_
      refine od_W.rn (pc' := 96) (ls' := [some (.ref _), some (.ref _), some (.int _)]) (st' := [.ref _, .int _, .ref _]) 1 rfl ?_
      refine od_rG rfl (od_cm_o x2 hP3) rfl rfl ?_
      refine od_rSt (as := [.ref (x + 5 + 2 * rest.length), .int (nI v), .ref (x + 3)]) rfl rfl rfl rfl (Nat.le_of_ble_eq_true rfl) (Nat.le_of_ble_eq_true rfl) (lt_makeMember hS x5 rt (by omega) hv hb hal hk o1') (Nat.le_of_ble_eq_true rfl) (fun o M1 hq => ?_)
      refine od_Re.kq hq rfl (fun ρ1 f1 b1 k1 => ⟨M3, ρ1, eM3, fun q hq => f1 q (od_n1 (by omega)), b1, hsh3, Or.inl ⟨fun z => k1 (z hk), by rw [eM3.1], rfl⟩⟩) (fun ρ1 f1 b1 p1 k1 => ?_)
      have fr2 : ∀ q, q ≠ x + 3 → ρ1 q = ρ q := fun q hq => f1 q (od_n1 hq)
      refine od_W.rn (pc' := 104) (ls' := [some (.ref _), some (.ref _), some (.int _)]) (st' := [.ref _, .ref _]) 2 rfl ?_
      refine od_rG rfl (od_cm_o x2 hP3) rfl rfl ?_
      by_cases hl : st1.length < 12
      · have hnx : fs_nx xs c rest v = some ((sp_mem v (tm_tp xs), 1) :: st1, v) := by unfold fs_nx; rw [hpl, if_neg hnk0, if_pos hk, if_pos hl]
        refine od_W.rn (pc' := 108) (ls' := [some (.ref _), some (.ref _), some (.int _)]) (st' := [.int _, .ref _, .ref _]) 1 rfl ?_
        refine od_rV (as := [.ref (x + 3), .int (nI 1)]) rfl rfl rfl rfl (od_cm_o x2 hP3) rfl (Nat.le_of_ble_eq_true rfl) (Nat.le_of_ble_eq_true rfl) (lt_pushes hS hx3 hP3 ht3 hl (by omega) (by omega) x5 (by omega) b1 p1) (Nat.le_of_ble_eq_true rfl) (fun o M1 hq => ?_)
        obtain ⟨M5, ρ5, q1, q2, q3, rfl, rfl, q6, q7, q8⟩ := hq
        refine od_K.ret ?_
        refine od_W.fin rfl ?_
        refine ⟨M5, ρ5, eM3.tr q1, fun q hq => (q2 q (by omega)).trans (fr2 q (by omega)), q3, ⟨_, _, _, q7, q8⟩, Or.inr ⟨fun _ => k1, rfl, Or.inr ⟨_, hnx, rfl, q7, ⟨_, q8, q6, upd_s _ _ _, by dsimp only; omega, by dsimp only; omega, sp_mem_W hv hal, hpop.fr (fun j hj => ⟨(q2 _ (by omega)).trans (fr2 _ (by omega)), upd_o (by omega)⟩)⟩, by simp; omega, hv⟩⟩⟩
      · have hnx : fs_nx xs c rest v = none := by unfold fs_nx; rw [hpl, if_neg hnk0, if_pos hk, if_neg hl]
        refine od_W.rn (pc' := 108) (ls' := [some (.ref _), some (.ref _), some (.int _)]) (st' := [.int _, .ref _, .ref _]) 1 rfl ?_
        refine od_rV (as := [.ref (x + 3), .int (nI 1)]) rfl rfl rfl rfl (od_cm_o x2 hP3) rfl (Nat.le_of_ble_eq_true rfl) (Nat.le_of_ble_eq_true rfl) (ct_pushesF hx3 hP3 (by omega) (by omega) (by omega) (by omega)) (Nat.le_of_ble_eq_true rfl) (fun o M1 hq => ?_)
        obtain ⟨rfl, rfl⟩ := hq
        refine od_K.ret ?_
        refine od_W.fin rfl ?_
        exact ⟨M3, ρ1, eM3, fun q hq => fr2 q (by omega), b1, hsh3, Or.inr ⟨fun _ => k1, rfl, Or.inl ⟨hnx, rfl⟩⟩⟩
  rw [upd_s]
  by_cases hc1 : c ≤ 1
  · refine od_r1F rfl (of_decide_eq_true rfl) (decide_eq_false (nI_nlt (a := 0) (b := c - 1) (by omega) (by omega))) ?_
    refine od_W.rn (pc' := 43) (ls' := [some (.ref _), some (.ref _), none]) (st' := [.ref _, .ref _]) 2 rfl ?_
    refine od_rG rfl (od_cm_o x2 hP1) rfl rfl ?_
    refine od_W.rn (pc' := 48) (ls' := [some (.ref _), some (.ref _), none]) (st' := [.int _, .ref _]) 2 rfl ?_
    refine od_rP rfl (od_cm_o x2 hP1) rfl (by simp) rfl (by decide) ?_
    rw [od_cm_set x2, show nI (rest.length + 1) - Int32.ofInt 1 = nI rest.length from em]
    refine tail _ (eM1.set (by simp)) ?_ ((od_set_o (by omega)).trans ht1)
    rw [fs_pop_len, if_pos hc1]
    exact od_set_s _ _ _
  · refine od_r1T rfl rfl (decide_eq_true (nI_lt (a := 0) (b := c - 1) (by omega) (by omega))) ?_
    refine tail M1 eM1 ?_ ht1
    rw [fs_pop_len, if_neg hc1]
    exact hP1
end PILE2
end
section
/-! FAST's work. -/
def fs_v (r : Option Nat) : Int32 := match r with
  | none => -1
  | some v => nI v
def pl_wo (S : Nat → Bool) (M : od_M) (ρ : od_Rm) (x f : Nat) (s : fs_S) (v : Nat) : od_O → od_M → Prop := fun o M2 => ∃ M' ρ', od_eM [x, x + 2] M M' ∧ pl_fr x ρ ρ' ∧ od_Bd ρ' ∧ pl_sh M' x ∧ ((¬ ok_fs f s v ∧ o = .inr (2, M.1) ∧ M2 = od_xm (od_cm S M' ρ') 2) ∨ (ok_fs f s v ∧ M2 = od_cm S M' ρ' ∧ o = .inl (some (.int (fs_v (fs_run f s v))))))
section WORK
variable {S : Nat → Bool} {x r : Nat}
set_option maxRecDepth 100000 in
theorem cl_wo_loop (hS : od_SS S) {fuel : Nat} (hf : fuel ≤ 2000) {w1 w2 : Option Value} : ∀ (f : Nat) (s : fs_S) (v used : Nat) (M : od_M) (ρ : od_Rm), used + f = fuel → pl_fx S M x → od_Bd ρ → pl_st M ρ x s v → od_W 6 52 20 [some (.ref x), w1, w2, some (.int (nI fuel)), some (.int (nI used))] [] (od_cm S M ρ) (pl_wo S M ρ x f s v) := by
  intro f
  induction f with
  | zero =>
    intro s v used M ρ hu hx hb hst
    have hsh := hst.sh
    obtain ⟨hP, _, h12, hv⟩ := hst
    refine od_W.rn (pc' := 23) (ls' := [some (.ref _), _, _, some (.int _), some (.int _)]) (st' := [.int _, .int _]) 2 rfl ?_
    refine od_r2T rfl rfl (decide_eq_true (nI_le (by omega) (by omega))) ?_
    refine od_W.rn (pc' := 49) (ls' := [some (.ref _), _, _, some (.int _), some (.int _)]) (st' := [.ref _]) 1 rfl ?_
    refine od_rG rfl (od_cm_o hx.2.1 hP) rfl rfl ?_
    cases s with
    | nil =>
      refine od_r1T rfl rfl (rfl) ?_
      refine od_W.rn (pc' := 60) (ls' := [some (.ref _), _, _, some (.int _), some (.int _)]) (st' := [.ref _]) 1 rfl ?_
      refine od_rG rfl (od_cm_o hx.2.1 hP) rfl rfl ?_
      refine od_W.fin rfl ?_
      exact ⟨M, ρ, od_eM.refl _ _, fun _ _ => rfl, hb, hsh, Or.inr ⟨trivial, rfl, rfl⟩⟩
    | cons p s =>
      refine od_r1F rfl (of_decide_eq_true rfl) (decide_eq_false (nI_ge (a := 0) (by simp) (by omega))) ?_
      refine od_W.rn (pc' := 63) (ls' := [some (.ref _), _, _, some (.int _), some (.int _)]) (st' := [.int _]) 2 rfl ?_
      refine od_W.fin rfl ?_
      exact ⟨M, ρ, od_eM.refl _ _, fun _ _ => rfl, hb, hsh, Or.inr ⟨trivial, rfl, rfl⟩⟩
  | succ f ih =>
    intro s v used M ρ hu hx hb hst
    have hsh := hst.sh
    have hst' := hst
    obtain ⟨hP, _, h12, hv⟩ := hst
    refine od_W.rn (pc' := 23) (ls' := [some (.ref _), _, _, some (.int _), some (.int _)]) (st' := [.int _, .int _]) 2 rfl ?_
    refine od_r2F rfl (of_decide_eq_true rfl) (decide_eq_false (nI_ge (by omega) (by omega))) ?_
    refine od_W.rn (pc' := 27) (ls' := [some (.ref _), _, _, some (.int _), some (.int _)]) (st' := [.ref _]) 1 rfl ?_
    refine od_rG rfl (od_cm_o hx.2.1 hP) rfl rfl ?_
    cases s with
    | nil =>
      refine od_r1T rfl rfl (rfl) ?_
      refine od_W.rn (pc' := 49) (ls' := [some (.ref _), _, _, some (.int _), some (.int _)]) (st' := [.ref _]) 1 rfl ?_
      refine od_rG rfl (od_cm_o hx.2.1 hP) rfl rfl ?_
      refine od_r1T rfl rfl (rfl) ?_
      refine od_W.rn (pc' := 60) (ls' := [some (.ref _), _, _, some (.int _), some (.int _)]) (st' := [.ref _]) 1 rfl ?_
      refine od_rG rfl (od_cm_o hx.2.1 hP) rfl rfl ?_
      refine od_W.fin rfl ?_
      exact ⟨M, ρ, od_eM.refl _ _, fun _ _ => rfl, hb, hsh, Or.inr ⟨trivial, rfl, rfl⟩⟩
    | cons p s =>
      refine od_r1F rfl (of_decide_eq_true rfl) (decide_eq_false (nI_ge (a := 0) (by simp) (by omega))) ?_
      refine od_W.rn (pc' := 34) (ls' := [some (.ref _), _, _, some (.int _), some (.int _)]) (st' := [.ref _]) 1 rfl ?_
      refine od_rV (as := []) rfl rfl rfl rfl (od_cm_o hx.2.1 hP) rfl (Nat.le_of_ble_eq_true rfl) (Nat.le_of_ble_eq_true rfl) (lt_appliesTop hS hx hb (xs := p.1) (c := p.2) hst') (Nat.le_of_ble_eq_true rfl) (fun o M1 hq => ?_)
      obtain ⟨M', ρ', q1, q2, q3, q4, q5⟩ := hq
      rcases q5 with ⟨k, rfl, rfl⟩ | ⟨k, rfl, q6⟩
      · refine od_K.out rfl ⟨M', ρ', q1, q2, q3, q4, Or.inl ⟨fun z => k z.1, rfl, rfl⟩⟩
      · rcases q6 with ⟨hn, rfl⟩ | ⟨q, hn, rfl, hst2⟩
        · refine od_K.ret ?_
          refine od_r1F rfl (of_decide_eq_true rfl) (rfl) ?_
          refine od_W.rn (pc' := 41) (ls' := [some (.ref _), _, _, some (.int _), some (.int _)]) (st' := [.int _]) 1 rfl ?_
          refine od_W.fin rfl ?_
          have er : fs_run (f + 1) (p :: s) v = none := by conv => lhs; unfold fs_run; rw [hn]
          exact ⟨M', ρ', q1, q2, q3, q4, Or.inr ⟨⟨k, by rw [hn]; exact trivial⟩, rfl, by rw [er]; rfl⟩⟩
        · refine od_K.ret ?_
          refine od_r1T rfl rfl (rfl) ?_
          refine od_W.rn (pc' := 20) (ls' := [some (.ref _), _, _, some (.int _), some (.int _)]) (st' := []) 2 rfl ?_
          rw [nI_inc used]
          have er : fs_run (f + 1) (p :: s) v = fs_run f q.1 q.2 := by conv => lhs; unfold fs_run; rw [hn]
          have eo : ok_fs (f + 1) (p :: s) v ↔ ok_fs f q.1 q.2 := by
            conv => lhs; unfold ok_fs; rw [hn]
            exact ⟨fun z => z.2, fun z => ⟨k, z⟩⟩
          refine (ih q.1 q.2 (used + 1) M' ρ' (by omega) (hx.eM q1) q3 hst2).mono fun o M3 hh => ?_
          obtain ⟨M4, ρ4, y1, y2, y3, y4, y5⟩ := hh
          refine ⟨M4, ρ4, q1.tr y1, fun q hq => (y2 q hq).trans (q2 q hq), y3, y4, ?_⟩
          rw [er, eo]
          rcases y5 with ⟨z1, z2, z3⟩ | ⟨z1, z2, z3⟩
          · exact Or.inl ⟨z1, by rw [z2, q1.1], z3⟩
          · exact Or.inr ⟨z1, z2, z3⟩
theorem lt_workOff {M : od_M} {ρ : od_Rm} (hS : od_SS S) (hx : pl_fx S M x) (hsh : pl_sh M x) (hb : od_Bd ρ) {n fuel : Nat} (hn : n ≤ 1000) (hf : fuel ≤ 2000) (hr : S r = true) (hne : r < x + 3 ∨ x + 28 ≤ r) {xs : List Nat} (hW : tm_W xs) (hl : od_hl ρ r xs) : od_W 6 52 0 (od_ent 52 [.ref x, .ref r, .int (nI n), .int (nI fuel)]) [] (od_cm S M ρ) (pl_wo S M ρ x fuel [(xs, 1)] n) := by
  have e0 : od_ent 52 [.ref x, .ref r, .int (nI n), .int (nI fuel)] = [some (.ref x), some (.ref r), some (.int (nI n)), some (.int (nI fuel)), none] := rfl
  rw [e0]
  obtain ⟨h0, n0, tm, hP, ht⟩ := hsh
  have x2 := hx.2.1
  refine od_W.rn (pc' := 2) (ls' := [some (.ref _), some (.ref _), some (.int _), some (.int _), none]) (st' := [.int _, .ref _]) 2 rfl ?_
  refine od_rP rfl (od_cm_o x2 hP) rfl (by simp) rfl (by decide) ?_
  rw [od_cm_set x2]
  have hP1 : od_PI (od_set M x (od_ob 5 ([Value.ref (x + 1), .ref (x + 2), .int h0, .int n0, .ref (x + 3)].set 3 (.int (nI n))))) x h0 (nI n) := od_set_s _ _ _
  have ht1 : (od_set M x (od_ob 5 ([Value.ref (x + 1), .ref (x + 2), .int h0, .int n0, .ref (x + 3)].set 3 (.int (nI n))))).2.2 (x + 2) = _ := (od_set_o (by omega)).trans ht
  have eM1 : od_eM [x, x + 2] M (od_set M x (od_ob 5 ([Value.ref (x + 1), .ref (x + 2), .int h0, .int n0, .ref (x + 3)].set 3 (.int (nI n))))) := (od_eM.refl _ _).set (by simp)
  generalize hM1 : od_set M x (od_ob 5 ([Value.ref (x + 1), .ref (x + 2), .int h0, .int n0, .ref (x + 3)].set 3 (.int (nI n)))) = M1 at *
  refine od_W.rn (pc' := 7) (ls' := [some (.ref _), some (.ref _), some (.int _), some (.int _), none]) (st' := [.int _, .ref _]) 2 rfl ?_
  refine od_rP rfl (od_cm_o x2 hP1) rfl (by simp) rfl (by decide) ?_
  rw [od_cm_set x2]
  have hP2 : od_PI (od_set M1 x (od_ob 5 ([Value.ref (x + 1), .ref (x + 2), .int h0, .int (nI n), .ref (x + 3)].set 2 (.int (nI 0))))) x (nI 0) (nI n) := od_set_s _ _ _
  have ht2 : (od_set M1 x (od_ob 5 ([Value.ref (x + 1), .ref (x + 2), .int h0, .int (nI n), .ref (x + 3)].set 2 (.int (nI 0))))).2.2 (x + 2) = _ := (od_set_o (by omega)).trans ht1
  have eM2 := eM1.set (a := x) (e := od_ob 5 ([Value.ref (x + 1), .ref (x + 2), .int h0, .int (nI n), .ref (x + 3)].set 2 (.int (nI 0)))) (by simp)
  generalize hM2 : od_set M1 x (od_ob 5 ([Value.ref (x + 1), .ref (x + 2), .int h0, .int (nI n), .ref (x + 3)].set 2 (.int (nI 0)))) = M2 at *
  refine od_W.rn (pc' := 13) (ls' := [some (.ref _), some (.ref _), some (.int _), some (.int _), none]) (st' := [.int _, .ref _, .ref _]) 3 rfl ?_
  refine od_rV (as := [.ref r, .int (nI 1)]) rfl rfl rfl rfl (od_cm_o x2 hP2) rfl (Nat.le_of_ble_eq_true rfl) (Nat.le_of_ble_eq_true rfl) (lt_pushes hS (hx.eM eM2) hP2 ht2 (by omega) (by omega) (by omega) hr (by omega) hb hl) (Nat.le_of_ble_eq_true rfl) (fun o M1 hq => ?_)
  obtain ⟨M5, ρ5, q1, q2, q3, rfl, rfl, q6, q7, q8⟩ := hq
  refine od_K.ret ?_
  refine od_W.rn (pc' := 20) (ls' := [some (.ref _), some (.ref _), some (.int _), some (.int _), some (.int _)]) (st' := []) 3 rfl ?_
  have eM3 := eM2.tr q1
  have hst : pl_st M5 ρ5 x [(xs, 1)] n := ⟨q7, ⟨_, q8, q6, upd_s _ _ _, by dsimp only; omega, by dsimp only; omega, hW, trivial⟩, by simp, by omega⟩
  refine (cl_wo_loop hS hf fuel [(xs, 1)] n 0 M5 ρ5 (by omega) (hx.eM eM3) q3 hst).mono fun o M3 hh => ?_
  obtain ⟨M4, ρ4, y1, y2, y3, y4, y5⟩ := hh
  refine ⟨M4, ρ4, eM3.tr y1, fun q hq => (y2 q hq).trans (q2 q (by omega)), y3, y4, ?_⟩
  rcases y5 with ⟨z1, z2, z3⟩ | ⟨z1, z2, z3⟩
  · exact Or.inl ⟨z1, by rw [z2, eM3.1], z3⟩
  · exact Or.inr ⟨z1, z2, z3⟩
end WORK
end
